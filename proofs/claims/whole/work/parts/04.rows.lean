section ONR
variable {G : on_G} {M : on_M} {pc pc' : Nat} {lv : on_V} {st : List Value} {h : on_H} {sz bc bs : Nat} {Q : Option Value → on_H → Nat → Prop}
/-- shifts, as the machine does them -/
def sh_l (x y : Int32) : Int32 := x <<< (y &&& 31)
def sh_r (x y : Int32) : Int32 := x >>> (y &&& 31)
def sh_u (x y : Int32) : Int32 := (x.toUInt32 >>> (y.toUInt32 &&& Int32.toUInt32 31)).toInt32
def sl_l (x : Int64) (y : Int32) : Int64 := x <<< (y.toInt64 &&& 63)
def sl_r (x : Int64) (y : Int32) : Int64 := x >>> (y.toInt64 &&& 63)
def sl_u (x : Int64) (y : Int32) : Int64 := (x.toUInt64 >>> (y.toInt64.toUInt64 &&& Int64.toUInt64 63)).toInt64
/-- the answer of % -/
def i_rem (x y : Int32) : Int32 := x - x / y * y
def l_rem (x y : Int64) : Int64 := x - x / y * y
theorem on_iconst {n : Int} {v : Int32} (hd : on_tb M pc = some (.iconst n, 1)) (hp : pc + 1 = pc') (hv : Int32.ofInt n = v) (k : on_E G M pc' lv (.int v :: st) h sz bc bs Q) : on_E G M pc lv (st) h sz bc bs Q := by
  subst hp
  intro p l e R s m args below meth c H locs cells slots ls S hl hR hS hc hs
  exact lv_iconst S.1 S.2.1 (S.dec hd) hv (k p l e R s m args below meth c H locs cells slots ls S hl hR hS hc hs)
theorem on_bipush {n : Int} {v : Int32} (hd : on_tb M pc = some (.bipush n, 2)) (hp : pc + 2 = pc') (hv : (Int8.ofInt n).toInt32 = v) (k : on_E G M pc' lv (.int v :: st) h sz bc bs Q) : on_E G M pc lv (st) h sz bc bs Q := by
  subst hp
  intro p l e R s m args below meth c H locs cells slots ls S hl hR hS hc hs
  exact lv_bipush S.1 S.2.1 (S.dec hd) hv (k p l e R s m args below meth c H locs cells slots ls S hl hR hS hc hs)
theorem on_sipush {n : Int} {v : Int32} (hd : on_tb M pc = some (.sipush n, 3)) (hp : pc + 3 = pc') (hv : (Int16.ofInt n).toInt32 = v) (k : on_E G M pc' lv (.int v :: st) h sz bc bs Q) : on_E G M pc lv (st) h sz bc bs Q := by
  subst hp
  intro p l e R s m args below meth c H locs cells slots ls S hl hR hS hc hs
  exact lv_sipush S.1 S.2.1 (S.dec hd) hv (k p l e R s m args below meth c H locs cells slots ls S hl hR hS hc hs)
theorem on_lconst {n : Fin 2} {v : Int64} (hd : on_tb M pc = some (.lconst n, 1)) (hp : pc + 1 = pc') (hv : Int64.ofNat (n : Nat) = v) (k : on_E G M pc' lv (.long v :: st) h sz bc bs Q) : on_E G M pc lv (st) h sz bc bs Q := by
  subst hp
  intro p l e R s m args below meth c H locs cells slots ls S hl hR hS hc hs
  exact lv_lconst S.1 S.2.1 (S.dec hd) hv (k p l e R s m args below meth c H locs cells slots ls S hl hR hS hc hs)
theorem on_null  (hd : on_tb M pc = some (.aconst_null, 1)) (hp : pc + 1 = pc')  (k : on_E G M pc' lv (.null :: st) h sz bc bs Q) : on_E G M pc lv (st) h sz bc bs Q := by
  subst hp
  intro p l e R s m args below meth c H locs cells slots ls S hl hR hS hc hs
  exact lv_null S.1 S.2.1 (S.dec hd) (k p l e R s m args below meth c H locs cells slots ls S hl hR hS hc hs)
theorem on_iload_n {k0 : Fin 4} {i : Nat} {x : Int32} (hd : on_tb M pc = some (.iload_n k0, 1)) (hp : pc + 1 = pc') (hi : (k0 : Nat) = i) (hv : lv i = some (.int x)) (k : on_E G M pc' lv (.int x :: st) h sz bc bs Q) : on_E G M pc lv (st) h sz bc bs Q := by
  subst hp
  intro p l e R s m args below meth c H locs cells slots ls S hl hR hS hc hs
  exact lv_iload_n S.1 S.2.1 (S.dec hd) hi (hl.2.2 _ _ hv) (k p l e R s m args below meth c H locs cells slots ls S hl hR hS hc hs)
theorem on_iload {i : Nat} {x : Int32} (hd : on_tb M pc = some (.iload i, 2)) (hp : pc + 2 = pc') (hv : lv i = some (.int x)) (k : on_E G M pc' lv (.int x :: st) h sz bc bs Q) : on_E G M pc lv (st) h sz bc bs Q := by
  subst hp
  intro p l e R s m args below meth c H locs cells slots ls S hl hR hS hc hs
  exact lv_iload S.1 S.2.1 (S.dec hd) (hl.2.2 _ _ hv) (k p l e R s m args below meth c H locs cells slots ls S hl hR hS hc hs)
theorem on_lload_n {k0 : Fin 4} {i : Nat} {x : Int64} (hd : on_tb M pc = some (.lload_n k0, 1)) (hp : pc + 1 = pc') (hi : (k0 : Nat) = i) (hv : lv i = some (.long x)) (k : on_E G M pc' lv (.long x :: st) h sz bc bs Q) : on_E G M pc lv (st) h sz bc bs Q := by
  subst hp
  intro p l e R s m args below meth c H locs cells slots ls S hl hR hS hc hs
  exact lv_lload_n S.1 S.2.1 (S.dec hd) hi (hl.2.2 _ _ hv) (k p l e R s m args below meth c H locs cells slots ls S hl hR hS hc hs)
theorem on_lload {i : Nat} {x : Int64} (hd : on_tb M pc = some (.lload i, 2)) (hp : pc + 2 = pc') (hv : lv i = some (.long x)) (k : on_E G M pc' lv (.long x :: st) h sz bc bs Q) : on_E G M pc lv (st) h sz bc bs Q := by
  subst hp
  intro p l e R s m args below meth c H locs cells slots ls S hl hR hS hc hs
  exact lv_lload S.1 S.2.1 (S.dec hd) (hl.2.2 _ _ hv) (k p l e R s m args below meth c H locs cells slots ls S hl hR hS hc hs)
theorem on_aload_n {k0 : Fin 4} {i : Nat} {x : Nat} (hd : on_tb M pc = some (.aload_n k0, 1)) (hp : pc + 1 = pc') (hi : (k0 : Nat) = i) (hv : lv i = some (.ref x)) (k : on_E G M pc' lv (.ref x :: st) h sz bc bs Q) : on_E G M pc lv (st) h sz bc bs Q := by
  subst hp
  intro p l e R s m args below meth c H locs cells slots ls S hl hR hS hc hs
  exact lv_aload_n S.1 S.2.1 (S.dec hd) hi (hl.2.2 _ _ hv) (k p l e R s m args below meth c H locs cells slots ls S hl hR hS hc hs)
theorem on_aload {i : Nat} {x : Nat} (hd : on_tb M pc = some (.aload i, 2)) (hp : pc + 2 = pc') (hv : lv i = some (.ref x)) (k : on_E G M pc' lv (.ref x :: st) h sz bc bs Q) : on_E G M pc lv (st) h sz bc bs Q := by
  subst hp
  intro p l e R s m args below meth c H locs cells slots ls S hl hR hS hc hs
  exact lv_aload S.1 S.2.1 (S.dec hd) (hl.2.2 _ _ hv) (k p l e R s m args below meth c H locs cells slots ls S hl hR hS hc hs)
theorem on_aload_nN {k0 : Fin 4} {i : Nat} (hd : on_tb M pc = some (.aload_n k0, 1)) (hp : pc + 1 = pc') (hi : (k0 : Nat) = i) (hv : lv i = some .null) (k : on_E G M pc' lv (.null :: st) h sz bc bs Q) : on_E G M pc lv (st) h sz bc bs Q := by
  subst hp
  intro p l e R s m args below meth c H locs cells slots ls S hl hR hS hc hs
  exact lv_aload_nN S.1 S.2.1 (S.dec hd) hi (hl.2.2 _ _ hv) (k p l e R s m args below meth c H locs cells slots ls S hl hR hS hc hs)
theorem on_aloadN {i : Nat} (hd : on_tb M pc = some (.aload i, 2)) (hp : pc + 2 = pc') (hv : lv i = some .null) (k : on_E G M pc' lv (.null :: st) h sz bc bs Q) : on_E G M pc lv (st) h sz bc bs Q := by
  subst hp
  intro p l e R s m args below meth c H locs cells slots ls S hl hR hS hc hs
  exact lv_aloadN S.1 S.2.1 (S.dec hd) (hl.2.2 _ _ hv) (k p l e R s m args below meth c H locs cells slots ls S hl hR hS hc hs)
theorem on_aload_nQ {k0 : Fin 4} {i : Nat} {r : Option Nat} (hd : on_tb M pc = some (.aload_n k0, 1)) (hp : pc + 1 = pc') (hi : (k0 : Nat) = i) (hv : lv i = some (va_rf r)) (k : on_E G M pc' lv (va_rf r :: st) h sz bc bs Q) : on_E G M pc lv st h sz bc bs Q := by
  cases r with
  | none => exact on_aload_nN hd hp hi hv k
  | some x => exact on_aload_n hd hp hi hv k
theorem on_aloadQ {i : Nat} {r : Option Nat} (hd : on_tb M pc = some (.aload i, 2)) (hp : pc + 2 = pc') (hv : lv i = some (va_rf r)) (k : on_E G M pc' lv (va_rf r :: st) h sz bc bs Q) : on_E G M pc lv st h sz bc bs Q := by
  cases r with
  | none => exact on_aloadN hd hp hv k
  | some x => exact on_aload hd hp hv k
theorem on_istore_n {k0 : Fin 4} {i : Nat} {x : Int32} (hd : on_tb M pc = some (.istore_n k0, 1)) (hp : pc + 1 = pc') (hi : (k0 : Nat) = i) (hn : i < on_nL M) (k : on_E G M pc' (on_s1 lv i (.int x)) (st) h sz bc bs Q) : on_E G M pc lv (.int x :: st) h sz bc bs Q := by
  subst hp
  intro p l e R s m args below meth c H locs cells slots ls S hl hR hS hc hs
  exact lv_istore_n S.1 S.2.1 (S.dec hd) hi hl.has hn rfl (fun ls' hl' => k p l e R s m args below meth c H locs cells slots ls' S (hl.st1 hl') hR hS hc hs)
theorem on_istore {i : Nat} {x : Int32} (hd : on_tb M pc = some (.istore i, 2)) (hp : pc + 2 = pc') (hn : i < on_nL M) (k : on_E G M pc' (on_s1 lv i (.int x)) (st) h sz bc bs Q) : on_E G M pc lv (.int x :: st) h sz bc bs Q := by
  subst hp
  intro p l e R s m args below meth c H locs cells slots ls S hl hR hS hc hs
  exact lv_istore S.1 S.2.1 (S.dec hd) hl.has hn rfl (fun ls' hl' => k p l e R s m args below meth c H locs cells slots ls' S (hl.st1 hl') hR hS hc hs)
theorem on_lstore_n {k0 : Fin 4} {i : Nat} {x : Int64} (hd : on_tb M pc = some (.lstore_n k0, 1)) (hp : pc + 1 = pc') (hi : (k0 : Nat) = i) (hn : i + 1 < on_nL M) (k : on_E G M pc' (on_s2 lv i (.long x)) (st) h sz bc bs Q) : on_E G M pc lv (.long x :: st) h sz bc bs Q := by
  subst hp
  intro p l e R s m args below meth c H locs cells slots ls S hl hR hS hc hs
  exact lv_lstore_n S.1 S.2.1 (S.dec hd) hi hl.has hn rfl (fun ls' hl' => k p l e R s m args below meth c H locs cells slots ls' S (hl.st2 hl') hR hS hc hs)
theorem on_lstore {i : Nat} {x : Int64} (hd : on_tb M pc = some (.lstore i, 2)) (hp : pc + 2 = pc') (hn : i + 1 < on_nL M) (k : on_E G M pc' (on_s2 lv i (.long x)) (st) h sz bc bs Q) : on_E G M pc lv (.long x :: st) h sz bc bs Q := by
  subst hp
  intro p l e R s m args below meth c H locs cells slots ls S hl hR hS hc hs
  exact lv_lstore S.1 S.2.1 (S.dec hd) hl.has hn rfl (fun ls' hl' => k p l e R s m args below meth c H locs cells slots ls' S (hl.st2 hl') hR hS hc hs)
theorem on_astore_n {k0 : Fin 4} {i : Nat} {x : Nat} (hd : on_tb M pc = some (.astore_n k0, 1)) (hp : pc + 1 = pc') (hi : (k0 : Nat) = i) (hn : i < on_nL M) (k : on_E G M pc' (on_s1 lv i (.ref x)) (st) h sz bc bs Q) : on_E G M pc lv (.ref x :: st) h sz bc bs Q := by
  subst hp
  intro p l e R s m args below meth c H locs cells slots ls S hl hR hS hc hs
  exact lv_astore_n S.1 S.2.1 (S.dec hd) hi hl.has hn rfl (fun ls' hl' => k p l e R s m args below meth c H locs cells slots ls' S (hl.st1 hl') hR hS hc hs)
theorem on_astore {i : Nat} {x : Nat} (hd : on_tb M pc = some (.astore i, 2)) (hp : pc + 2 = pc') (hn : i < on_nL M) (k : on_E G M pc' (on_s1 lv i (.ref x)) (st) h sz bc bs Q) : on_E G M pc lv (.ref x :: st) h sz bc bs Q := by
  subst hp
  intro p l e R s m args below meth c H locs cells slots ls S hl hR hS hc hs
  exact lv_astore S.1 S.2.1 (S.dec hd) hl.has hn rfl (fun ls' hl' => k p l e R s m args below meth c H locs cells slots ls' S (hl.st1 hl') hR hS hc hs)
theorem on_astore_nN {k0 : Fin 4} {i : Nat} (hd : on_tb M pc = some (.astore_n k0, 1)) (hp : pc + 1 = pc') (hi : (k0 : Nat) = i) (hn : i < on_nL M) (k : on_E G M pc' (on_s1 lv i .null) (st) h sz bc bs Q) : on_E G M pc lv (.null :: st) h sz bc bs Q := by
  subst hp
  intro p l e R s m args below meth c H locs cells slots ls S hl hR hS hc hs
  exact lv_astore_nN S.1 S.2.1 (S.dec hd) hi hl.has hn rfl (fun ls' hl' => k p l e R s m args below meth c H locs cells slots ls' S (hl.st1 hl') hR hS hc hs)
theorem on_astoreN {i : Nat} (hd : on_tb M pc = some (.astore i, 2)) (hp : pc + 2 = pc') (hn : i < on_nL M) (k : on_E G M pc' (on_s1 lv i .null) (st) h sz bc bs Q) : on_E G M pc lv (.null :: st) h sz bc bs Q := by
  subst hp
  intro p l e R s m args below meth c H locs cells slots ls S hl hR hS hc hs
  exact lv_astoreN S.1 S.2.1 (S.dec hd) hl.has hn rfl (fun ls' hl' => k p l e R s m args below meth c H locs cells slots ls' S (hl.st1 hl') hR hS hc hs)
theorem on_astore_nQ {k0 : Fin 4} {i : Nat} {r : Option Nat} (hd : on_tb M pc = some (.astore_n k0, 1)) (hp : pc + 1 = pc') (hi : (k0 : Nat) = i) (hn : i < on_nL M) (k : on_E G M pc' (on_s1 lv i (va_rf r)) st h sz bc bs Q) : on_E G M pc lv (va_rf r :: st) h sz bc bs Q := by
  cases r with
  | none => exact on_astore_nN hd hp hi hn k
  | some x => exact on_astore_n hd hp hi hn k
theorem on_astoreQ {i : Nat} {r : Option Nat} (hd : on_tb M pc = some (.astore i, 2)) (hp : pc + 2 = pc') (hn : i < on_nL M) (k : on_E G M pc' (on_s1 lv i (va_rf r)) st h sz bc bs Q) : on_E G M pc lv (va_rf r :: st) h sz bc bs Q := by
  cases r with
  | none => exact on_astoreN hd hp hn k
  | some x => exact on_astore hd hp hn k
theorem on_iinc {i : Nat} {n : Int} {x v : Int32} (hd : on_tb M pc = some (.iinc i n, 3)) (hp : pc + 3 = pc') (hx : lv i = some (.int x)) (hv : x + Int32.ofInt n = v) (k : on_E G M pc' (on_s1 lv i (.int v)) st h sz bc bs Q) : on_E G M pc lv st h sz bc bs Q := by
  subst hp
  intro p l e R s m args below meth c H locs cells slots ls S hl hR hS hc hs
  obtain ⟨kk, hkk⟩ := List.mem_iff_getElem?.mp (on_ll_mem.mpr ⟨hl.inb hx, hx⟩)
  exact lv_iinc S.1 S.2.1 (S.dec hd) hl.has hkk hv (hl.inb hx) rfl (fun ls' hl' => k p l e R s m args below meth c H locs cells slots ls' S (hl.st1 hl') hR hS hc hs)
theorem on_iadd {x y : Int32} (hd : on_tb M pc = some (.iadd, 1)) (hp : pc + 1 = pc')  (k : on_E G M pc' lv (.int (x + y) :: st) h sz bc bs Q) : on_E G M pc lv (.int y :: .int x :: st) h sz bc bs Q := by
  subst hp
  intro p l e R s m args below meth c H locs cells slots ls S hl hR hS hc hs
  exact lv_iadd S.1 S.2.1 (S.dec hd)  (k p l e R s m args below meth c H locs cells slots ls S hl hR hS hc hs)
theorem on_isub {x y : Int32} (hd : on_tb M pc = some (.isub, 1)) (hp : pc + 1 = pc')  (k : on_E G M pc' lv (.int (x - y) :: st) h sz bc bs Q) : on_E G M pc lv (.int y :: .int x :: st) h sz bc bs Q := by
  subst hp
  intro p l e R s m args below meth c H locs cells slots ls S hl hR hS hc hs
  exact lv_isub S.1 S.2.1 (S.dec hd)  (k p l e R s m args below meth c H locs cells slots ls S hl hR hS hc hs)
theorem on_imul {x y : Int32} (hd : on_tb M pc = some (.imul, 1)) (hp : pc + 1 = pc')  (k : on_E G M pc' lv (.int (x * y) :: st) h sz bc bs Q) : on_E G M pc lv (.int y :: .int x :: st) h sz bc bs Q := by
  subst hp
  intro p l e R s m args below meth c H locs cells slots ls S hl hR hS hc hs
  exact lv_imul S.1 S.2.1 (S.dec hd)  (k p l e R s m args below meth c H locs cells slots ls S hl hR hS hc hs)
theorem on_iand {x y : Int32} (hd : on_tb M pc = some (.iand, 1)) (hp : pc + 1 = pc')  (k : on_E G M pc' lv (.int (x &&& y) :: st) h sz bc bs Q) : on_E G M pc lv (.int y :: .int x :: st) h sz bc bs Q := by
  subst hp
  intro p l e R s m args below meth c H locs cells slots ls S hl hR hS hc hs
  exact lv_iand S.1 S.2.1 (S.dec hd)  (k p l e R s m args below meth c H locs cells slots ls S hl hR hS hc hs)
theorem on_ior {x y : Int32} (hd : on_tb M pc = some (.ior, 1)) (hp : pc + 1 = pc')  (k : on_E G M pc' lv (.int (x ||| y) :: st) h sz bc bs Q) : on_E G M pc lv (.int y :: .int x :: st) h sz bc bs Q := by
  subst hp
  intro p l e R s m args below meth c H locs cells slots ls S hl hR hS hc hs
  exact lv_ior S.1 S.2.1 (S.dec hd)  (k p l e R s m args below meth c H locs cells slots ls S hl hR hS hc hs)
theorem on_ixor {x y : Int32} (hd : on_tb M pc = some (.ixor, 1)) (hp : pc + 1 = pc')  (k : on_E G M pc' lv (.int (x ^^^ y) :: st) h sz bc bs Q) : on_E G M pc lv (.int y :: .int x :: st) h sz bc bs Q := by
  subst hp
  intro p l e R s m args below meth c H locs cells slots ls S hl hR hS hc hs
  exact lv_ixor S.1 S.2.1 (S.dec hd)  (k p l e R s m args below meth c H locs cells slots ls S hl hR hS hc hs)
theorem on_ishl {x y : Int32} (hd : on_tb M pc = some (.ishl, 1)) (hp : pc + 1 = pc')  (k : on_E G M pc' lv (.int (sh_l x y) :: st) h sz bc bs Q) : on_E G M pc lv (.int y :: .int x :: st) h sz bc bs Q := by
  subst hp
  intro p l e R s m args below meth c H locs cells slots ls S hl hR hS hc hs
  exact lv_ishl S.1 S.2.1 (S.dec hd)  (k p l e R s m args below meth c H locs cells slots ls S hl hR hS hc hs)
theorem on_ishr {x y : Int32} (hd : on_tb M pc = some (.ishr, 1)) (hp : pc + 1 = pc')  (k : on_E G M pc' lv (.int (sh_r x y) :: st) h sz bc bs Q) : on_E G M pc lv (.int y :: .int x :: st) h sz bc bs Q := by
  subst hp
  intro p l e R s m args below meth c H locs cells slots ls S hl hR hS hc hs
  exact lv_ishr S.1 S.2.1 (S.dec hd)  (k p l e R s m args below meth c H locs cells slots ls S hl hR hS hc hs)
theorem on_iushr {x y : Int32} (hd : on_tb M pc = some (.iushr, 1)) (hp : pc + 1 = pc')  (k : on_E G M pc' lv (.int (sh_u x y) :: st) h sz bc bs Q) : on_E G M pc lv (.int y :: .int x :: st) h sz bc bs Q := by
  subst hp
  intro p l e R s m args below meth c H locs cells slots ls S hl hR hS hc hs
  exact lv_iushr S.1 S.2.1 (S.dec hd) rfl (k p l e R s m args below meth c H locs cells slots ls S hl hR hS hc hs)
theorem on_idiv {x y : Int32} (hd : on_tb M pc = some (.idiv, 1)) (hp : pc + 1 = pc') (hne : ¬ y = 0) (k : on_E G M pc' lv (.int (x / y) :: st) h sz bc bs Q) : on_E G M pc lv (.int y :: .int x :: st) h sz bc bs Q := by
  subst hp
  intro p l e R s m args below meth c H locs cells slots ls S hl hR hS hc hs
  exact lv_idiv S.1 S.2.1 (S.dec hd) hne (k p l e R s m args below meth c H locs cells slots ls S hl hR hS hc hs)
theorem on_irem {x y : Int32} (hd : on_tb M pc = some (.irem, 1)) (hp : pc + 1 = pc') (hne : ¬ y = 0) (k : on_E G M pc' lv (.int (i_rem x y) :: st) h sz bc bs Q) : on_E G M pc lv (.int y :: .int x :: st) h sz bc bs Q := by
  subst hp
  intro p l e R s m args below meth c H locs cells slots ls S hl hR hS hc hs
  exact lv_irem S.1 S.2.1 (S.dec hd) hne (k p l e R s m args below meth c H locs cells slots ls S hl hR hS hc hs)
theorem on_ineg {x : Int32} (hd : on_tb M pc = some (.ineg, 1)) (hp : pc + 1 = pc')  (k : on_E G M pc' lv (.int (-x) :: st) h sz bc bs Q) : on_E G M pc lv (.int x :: st) h sz bc bs Q := by
  subst hp
  intro p l e R s m args below meth c H locs cells slots ls S hl hR hS hc hs
  exact lv_ineg S.1 S.2.1 (S.dec hd)  (k p l e R s m args below meth c H locs cells slots ls S hl hR hS hc hs)
theorem on_ladd {x y : Int64} (hd : on_tb M pc = some (.ladd, 1)) (hp : pc + 1 = pc')  (k : on_E G M pc' lv (.long (x + y) :: st) h sz bc bs Q) : on_E G M pc lv (.long y :: .long x :: st) h sz bc bs Q := by
  subst hp
  intro p l e R s m args below meth c H locs cells slots ls S hl hR hS hc hs
  exact lv_ladd S.1 S.2.1 (S.dec hd)  (k p l e R s m args below meth c H locs cells slots ls S hl hR hS hc hs)
theorem on_lsub {x y : Int64} (hd : on_tb M pc = some (.lsub, 1)) (hp : pc + 1 = pc')  (k : on_E G M pc' lv (.long (x - y) :: st) h sz bc bs Q) : on_E G M pc lv (.long y :: .long x :: st) h sz bc bs Q := by
  subst hp
  intro p l e R s m args below meth c H locs cells slots ls S hl hR hS hc hs
  exact lv_lsub S.1 S.2.1 (S.dec hd)  (k p l e R s m args below meth c H locs cells slots ls S hl hR hS hc hs)
theorem on_lmul {x y : Int64} (hd : on_tb M pc = some (.lmul, 1)) (hp : pc + 1 = pc')  (k : on_E G M pc' lv (.long (x * y) :: st) h sz bc bs Q) : on_E G M pc lv (.long y :: .long x :: st) h sz bc bs Q := by
  subst hp
  intro p l e R s m args below meth c H locs cells slots ls S hl hR hS hc hs
  exact lv_lmul S.1 S.2.1 (S.dec hd)  (k p l e R s m args below meth c H locs cells slots ls S hl hR hS hc hs)
theorem on_land {x y : Int64} (hd : on_tb M pc = some (.land, 1)) (hp : pc + 1 = pc')  (k : on_E G M pc' lv (.long (x &&& y) :: st) h sz bc bs Q) : on_E G M pc lv (.long y :: .long x :: st) h sz bc bs Q := by
  subst hp
  intro p l e R s m args below meth c H locs cells slots ls S hl hR hS hc hs
  exact lv_land S.1 S.2.1 (S.dec hd)  (k p l e R s m args below meth c H locs cells slots ls S hl hR hS hc hs)
theorem on_lor {x y : Int64} (hd : on_tb M pc = some (.lor, 1)) (hp : pc + 1 = pc')  (k : on_E G M pc' lv (.long (x ||| y) :: st) h sz bc bs Q) : on_E G M pc lv (.long y :: .long x :: st) h sz bc bs Q := by
  subst hp
  intro p l e R s m args below meth c H locs cells slots ls S hl hR hS hc hs
  exact lv_lor S.1 S.2.1 (S.dec hd)  (k p l e R s m args below meth c H locs cells slots ls S hl hR hS hc hs)
theorem on_lxor {x y : Int64} (hd : on_tb M pc = some (.lxor, 1)) (hp : pc + 1 = pc')  (k : on_E G M pc' lv (.long (x ^^^ y) :: st) h sz bc bs Q) : on_E G M pc lv (.long y :: .long x :: st) h sz bc bs Q := by
  subst hp
  intro p l e R s m args below meth c H locs cells slots ls S hl hR hS hc hs
  exact lv_lxor S.1 S.2.1 (S.dec hd)  (k p l e R s m args below meth c H locs cells slots ls S hl hR hS hc hs)
theorem on_ldiv {x y : Int64} (hd : on_tb M pc = some (.ldiv, 1)) (hp : pc + 1 = pc') (hne : ¬ y = 0) (k : on_E G M pc' lv (.long (x / y) :: st) h sz bc bs Q) : on_E G M pc lv (.long y :: .long x :: st) h sz bc bs Q := by
  subst hp
  intro p l e R s m args below meth c H locs cells slots ls S hl hR hS hc hs
  exact lv_ldiv S.1 S.2.1 (S.dec hd) hne (k p l e R s m args below meth c H locs cells slots ls S hl hR hS hc hs)
theorem on_lrem {x y : Int64} (hd : on_tb M pc = some (.lrem, 1)) (hp : pc + 1 = pc') (hne : ¬ y = 0) (k : on_E G M pc' lv (.long (l_rem x y) :: st) h sz bc bs Q) : on_E G M pc lv (.long y :: .long x :: st) h sz bc bs Q := by
  subst hp
  intro p l e R s m args below meth c H locs cells slots ls S hl hR hS hc hs
  exact lv_lrem S.1 S.2.1 (S.dec hd) hne (k p l e R s m args below meth c H locs cells slots ls S hl hR hS hc hs)
theorem on_lneg {x : Int64} (hd : on_tb M pc = some (.lneg, 1)) (hp : pc + 1 = pc')  (k : on_E G M pc' lv (.long (-x) :: st) h sz bc bs Q) : on_E G M pc lv (.long x :: st) h sz bc bs Q := by
  subst hp
  intro p l e R s m args below meth c H locs cells slots ls S hl hR hS hc hs
  exact lv_lneg S.1 S.2.1 (S.dec hd)  (k p l e R s m args below meth c H locs cells slots ls S hl hR hS hc hs)
theorem on_lshl {x : Int64} {y : Int32} (hd : on_tb M pc = some (.lshl, 1)) (hp : pc + 1 = pc')  (k : on_E G M pc' lv (.long (sl_l x y) :: st) h sz bc bs Q) : on_E G M pc lv (.int y :: .long x :: st) h sz bc bs Q := by
  subst hp
  intro p l e R s m args below meth c H locs cells slots ls S hl hR hS hc hs
  exact lv_lshl S.1 S.2.1 (S.dec hd) rfl (k p l e R s m args below meth c H locs cells slots ls S hl hR hS hc hs)
theorem on_lshr {x : Int64} {y : Int32} (hd : on_tb M pc = some (.lshr, 1)) (hp : pc + 1 = pc')  (k : on_E G M pc' lv (.long (sl_r x y) :: st) h sz bc bs Q) : on_E G M pc lv (.int y :: .long x :: st) h sz bc bs Q := by
  subst hp
  intro p l e R s m args below meth c H locs cells slots ls S hl hR hS hc hs
  exact lv_lshr S.1 S.2.1 (S.dec hd) rfl (k p l e R s m args below meth c H locs cells slots ls S hl hR hS hc hs)
theorem on_lushr {x : Int64} {y : Int32} (hd : on_tb M pc = some (.lushr, 1)) (hp : pc + 1 = pc')  (k : on_E G M pc' lv (.long (sl_u x y) :: st) h sz bc bs Q) : on_E G M pc lv (.int y :: .long x :: st) h sz bc bs Q := by
  subst hp
  intro p l e R s m args below meth c H locs cells slots ls S hl hR hS hc hs
  exact lv_lushr S.1 S.2.1 (S.dec hd) rfl (k p l e R s m args below meth c H locs cells slots ls S hl hR hS hc hs)
theorem on_i2l {x : Int32} (hd : on_tb M pc = some (.i2l, 1)) (hp : pc + 1 = pc')  (k : on_E G M pc' lv (.long x.toInt64 :: st) h sz bc bs Q) : on_E G M pc lv (.int x :: st) h sz bc bs Q := by
  subst hp
  intro p l e R s m args below meth c H locs cells slots ls S hl hR hS hc hs
  exact lv_i2l S.1 S.2.1 (S.dec hd) rfl (k p l e R s m args below meth c H locs cells slots ls S hl hR hS hc hs)
theorem on_l2i {x : Int64} (hd : on_tb M pc = some (.l2i, 1)) (hp : pc + 1 = pc')  (k : on_E G M pc' lv (.int x.toInt32 :: st) h sz bc bs Q) : on_E G M pc lv (.long x :: st) h sz bc bs Q := by
  subst hp
  intro p l e R s m args below meth c H locs cells slots ls S hl hR hS hc hs
  exact lv_l2i S.1 S.2.1 (S.dec hd) rfl (k p l e R s m args below meth c H locs cells slots ls S hl hR hS hc hs)
theorem on_i2b {x : Int32} (hd : on_tb M pc = some (.i2b, 1)) (hp : pc + 1 = pc')  (k : on_E G M pc' lv (.int x.toInt8.toInt32 :: st) h sz bc bs Q) : on_E G M pc lv (.int x :: st) h sz bc bs Q := by
  subst hp
  intro p l e R s m args below meth c H locs cells slots ls S hl hR hS hc hs
  exact lv_i2b S.1 S.2.1 (S.dec hd) rfl (k p l e R s m args below meth c H locs cells slots ls S hl hR hS hc hs)
theorem on_i2s {x : Int32} (hd : on_tb M pc = some (.i2s, 1)) (hp : pc + 1 = pc')  (k : on_E G M pc' lv (.int x.toInt16.toInt32 :: st) h sz bc bs Q) : on_E G M pc lv (.int x :: st) h sz bc bs Q := by
  subst hp
  intro p l e R s m args below meth c H locs cells slots ls S hl hR hS hc hs
  exact lv_i2s S.1 S.2.1 (S.dec hd) rfl (k p l e R s m args below meth c H locs cells slots ls S hl hR hS hc hs)
theorem on_i2c {x : Int32} (hd : on_tb M pc = some (.i2c, 1)) (hp : pc + 1 = pc')  (k : on_E G M pc' lv (.int (x.toUInt32 % 65536).toInt32 :: st) h sz bc bs Q) : on_E G M pc lv (.int x :: st) h sz bc bs Q := by
  subst hp
  intro p l e R s m args below meth c H locs cells slots ls S hl hR hS hc hs
  exact lv_i2c S.1 S.2.1 (S.dec hd) rfl (k p l e R s m args below meth c H locs cells slots ls S hl hR hS hc hs)
theorem on_lcmp {x y : Int64} (hd : on_tb M pc = some (.lcmp, 1)) (hp : pc + 1 = pc')  (k : on_E G M pc' lv (.int (lg_cmp x y) :: st) h sz bc bs Q) : on_E G M pc lv (.long y :: .long x :: st) h sz bc bs Q := by
  subst hp
  intro p l e R s m args below meth c H locs cells slots ls S hl hR hS hc hs
  exact W.lcmp S.1 S.2.1 (S.dec hd)  (k p l e R s m args below meth c H locs cells slots ls S hl hR hS hc hs)
theorem on_dup {va : Value} (hd : on_tb M pc = some (.dup, 1)) (hp : pc + 1 = pc') (hva : va.category = 1) (k : on_E G M pc' lv (va :: va :: st) h sz bc bs Q) : on_E G M pc lv (va :: st) h sz bc bs Q := by
  subst hp
  intro p l e R s m args below meth c H locs cells slots ls S hl hR hS hc hs
  exact lv_dup S.1 S.2.1 (S.dec hd) hva (k p l e R s m args below meth c H locs cells slots ls S hl hR hS hc hs)
theorem on_pop {va : Value} (hd : on_tb M pc = some (.pop, 1)) (hp : pc + 1 = pc') (hva : va.category = 1) (k : on_E G M pc' lv (st) h sz bc bs Q) : on_E G M pc lv (va :: st) h sz bc bs Q := by
  subst hp
  intro p l e R s m args below meth c H locs cells slots ls S hl hR hS hc hs
  exact lv_pop S.1 S.2.1 (S.dec hd) hva (k p l e R s m args below meth c H locs cells slots ls S hl hR hS hc hs)
theorem on_dup_x1 {va vb : Value} (hd : on_tb M pc = some (.dup_x1, 1)) (hp : pc + 1 = pc') (hva : va.category = 1) (hvb : vb.category = 1) (k : on_E G M pc' lv (va :: vb :: va :: st) h sz bc bs Q) : on_E G M pc lv (va :: vb :: st) h sz bc bs Q := by
  subst hp
  intro p l e R s m args below meth c H locs cells slots ls S hl hR hS hc hs
  exact lv_dup_x1 S.1 S.2.1 (S.dec hd) hva hvb (k p l e R s m args below meth c H locs cells slots ls S hl hR hS hc hs)
theorem on_dup_x2 {va vb vd : Value} (hd : on_tb M pc = some (.dup_x2, 1)) (hp : pc + 1 = pc') (hva : va.category = 1) (hvb : vb.category = 1) (hvd : vd.category = 1) (k : on_E G M pc' lv (va :: vb :: vd :: va :: st) h sz bc bs Q) : on_E G M pc lv (va :: vb :: vd :: st) h sz bc bs Q := by
  subst hp
  intro p l e R s m args below meth c H locs cells slots ls S hl hR hS hc hs
  exact lv_dup_x2 S.1 S.2.1 (S.dec hd) hva hvb hvd (k p l e R s m args below meth c H locs cells slots ls S hl hR hS hc hs)
theorem on_dup2_11 {va vb : Value} (hd : on_tb M pc = some (.dup2, 1)) (hp : pc + 1 = pc') (hva : va.category = 1) (hvb : vb.category = 1) (k : on_E G M pc' lv (va :: vb :: va :: vb :: st) h sz bc bs Q) : on_E G M pc lv (va :: vb :: st) h sz bc bs Q := by
  subst hp
  intro p l e R s m args below meth c H locs cells slots ls S hl hR hS hc hs
  exact lv_dup2_11 S.1 S.2.1 (S.dec hd) hva hvb (k p l e R s m args below meth c H locs cells slots ls S hl hR hS hc hs)
theorem on_dup2_2 {va : Value} (hd : on_tb M pc = some (.dup2, 1)) (hp : pc + 1 = pc') (hva : va.category = 2) (k : on_E G M pc' lv (va :: va :: st) h sz bc bs Q) : on_E G M pc lv (va :: st) h sz bc bs Q := by
  subst hp
  intro p l e R s m args below meth c H locs cells slots ls S hl hR hS hc hs
  exact lv_dup2_2 S.1 S.2.1 (S.dec hd) hva (k p l e R s m args below meth c H locs cells slots ls S hl hR hS hc hs)
theorem on_pop2_2 {va : Value} (hd : on_tb M pc = some (.pop2, 1)) (hp : pc + 1 = pc') (hva : va.category = 2) (k : on_E G M pc' lv (st) h sz bc bs Q) : on_E G M pc lv (va :: st) h sz bc bs Q := by
  subst hp
  intro p l e R s m args below meth c H locs cells slots ls S hl hR hS hc hs
  exact lv_pop2_2 S.1 S.2.1 (S.dec hd) hva (k p l e R s m args below meth c H locs cells slots ls S hl hR hS hc hs)
theorem on_dup2_x1_2 {va vb : Value} (hd : on_tb M pc = some (.dup2_x1, 1)) (hp : pc + 1 = pc') (hva : va.category = 2) (hvb : vb.category = 1) (k : on_E G M pc' lv (va :: vb :: va :: st) h sz bc bs Q) : on_E G M pc lv (va :: vb :: st) h sz bc bs Q := by
  subst hp
  intro p l e R s m args below meth c H locs cells slots ls S hl hR hS hc hs
  exact lv_dup2_x1_2 S.1 S.2.1 (S.dec hd) hva hvb (k p l e R s m args below meth c H locs cells slots ls S hl hR hS hc hs)
theorem on_dup2_x2_2 {va vb vd : Value} (hd : on_tb M pc = some (.dup2_x2, 1)) (hp : pc + 1 = pc') (hva : va.category = 2) (hvb : vb.category = 1) (hvd : vd.category = 1) (k : on_E G M pc' lv (va :: vb :: vd :: va :: st) h sz bc bs Q) : on_E G M pc lv (va :: vb :: vd :: st) h sz bc bs Q := by
  subst hp
  intro p l e R s m args below meth c H locs cells slots ls S hl hR hS hc hs
  exact lv_dup2_x2_2 S.1 S.2.1 (S.dec hd) hva hvb hvd (k p l e R s m args below meth c H locs cells slots ls S hl hR hS hc hs)
theorem on_if_eq {x : Int32} {off : Int} {tgt : Nat} (hd : on_tb M pc = some (.ifCond .eq off, 3)) (hp : pc + 3 = pc') (ht : (pc : Int) + off = (tgt : Int)) (kt : x = 0 → on_E G M tgt lv st h sz bc bs Q) (kf : ¬ x = 0 → on_E G M pc' lv st h sz bc bs Q) : on_E G M pc lv (.int x :: st) h sz bc bs Q := by
  subst hp
  intro p l e R s m args below meth c H locs cells slots ls S hl hR hS hc hs
  exact lv_if_eq S.1 S.2.1 (S.dec hd) ht (fun c0 => kt c0 p l e R s m args below meth c H locs cells slots ls S hl hR hS hc hs) (fun c0 => kf c0 p l e R s m args below meth c H locs cells slots ls S hl hR hS hc hs)
theorem on_icmp_eq {x y : Int32} {off : Int} {tgt : Nat} (hd : on_tb M pc = some (.if_icmp .eq off, 3)) (hp : pc + 3 = pc') (ht : (pc : Int) + off = (tgt : Int)) (kt : x = y → on_E G M tgt lv st h sz bc bs Q) (kf : ¬ x = y → on_E G M pc' lv st h sz bc bs Q) : on_E G M pc lv (.int y :: .int x :: st) h sz bc bs Q := by
  subst hp
  intro p l e R s m args below meth c H locs cells slots ls S hl hR hS hc hs
  exact lv_icmp_eq S.1 S.2.1 (S.dec hd) ht (fun c0 => kt c0 p l e R s m args below meth c H locs cells slots ls S hl hR hS hc hs) (fun c0 => kf c0 p l e R s m args below meth c H locs cells slots ls S hl hR hS hc hs)
theorem on_if_ne {x : Int32} {off : Int} {tgt : Nat} (hd : on_tb M pc = some (.ifCond .ne off, 3)) (hp : pc + 3 = pc') (ht : (pc : Int) + off = (tgt : Int)) (kt : ¬ x = 0 → on_E G M tgt lv st h sz bc bs Q) (kf : x = 0 → on_E G M pc' lv st h sz bc bs Q) : on_E G M pc lv (.int x :: st) h sz bc bs Q := by
  subst hp
  intro p l e R s m args below meth c H locs cells slots ls S hl hR hS hc hs
  exact lv_if_ne S.1 S.2.1 (S.dec hd) ht (fun c0 => kt c0 p l e R s m args below meth c H locs cells slots ls S hl hR hS hc hs) (fun c0 => kf c0 p l e R s m args below meth c H locs cells slots ls S hl hR hS hc hs)
theorem on_icmp_ne {x y : Int32} {off : Int} {tgt : Nat} (hd : on_tb M pc = some (.if_icmp .ne off, 3)) (hp : pc + 3 = pc') (ht : (pc : Int) + off = (tgt : Int)) (kt : ¬ x = y → on_E G M tgt lv st h sz bc bs Q) (kf : x = y → on_E G M pc' lv st h sz bc bs Q) : on_E G M pc lv (.int y :: .int x :: st) h sz bc bs Q := by
  subst hp
  intro p l e R s m args below meth c H locs cells slots ls S hl hR hS hc hs
  exact lv_icmp_ne S.1 S.2.1 (S.dec hd) ht (fun c0 => kt c0 p l e R s m args below meth c H locs cells slots ls S hl hR hS hc hs) (fun c0 => kf c0 p l e R s m args below meth c H locs cells slots ls S hl hR hS hc hs)
theorem on_if_lt {x : Int32} {off : Int} {tgt : Nat} (hd : on_tb M pc = some (.ifCond .lt off, 3)) (hp : pc + 3 = pc') (ht : (pc : Int) + off = (tgt : Int)) (kt : x < 0 → on_E G M tgt lv st h sz bc bs Q) (kf : ¬ x < 0 → on_E G M pc' lv st h sz bc bs Q) : on_E G M pc lv (.int x :: st) h sz bc bs Q := by
  subst hp
  intro p l e R s m args below meth c H locs cells slots ls S hl hR hS hc hs
  exact lv_if_lt S.1 S.2.1 (S.dec hd) ht (fun c0 => kt c0 p l e R s m args below meth c H locs cells slots ls S hl hR hS hc hs) (fun c0 => kf c0 p l e R s m args below meth c H locs cells slots ls S hl hR hS hc hs)
theorem on_icmp_lt {x y : Int32} {off : Int} {tgt : Nat} (hd : on_tb M pc = some (.if_icmp .lt off, 3)) (hp : pc + 3 = pc') (ht : (pc : Int) + off = (tgt : Int)) (kt : x < y → on_E G M tgt lv st h sz bc bs Q) (kf : ¬ x < y → on_E G M pc' lv st h sz bc bs Q) : on_E G M pc lv (.int y :: .int x :: st) h sz bc bs Q := by
  subst hp
  intro p l e R s m args below meth c H locs cells slots ls S hl hR hS hc hs
  exact lv_icmp_lt S.1 S.2.1 (S.dec hd) ht (fun c0 => kt c0 p l e R s m args below meth c H locs cells slots ls S hl hR hS hc hs) (fun c0 => kf c0 p l e R s m args below meth c H locs cells slots ls S hl hR hS hc hs)
theorem on_if_ge {x : Int32} {off : Int} {tgt : Nat} (hd : on_tb M pc = some (.ifCond .ge off, 3)) (hp : pc + 3 = pc') (ht : (pc : Int) + off = (tgt : Int)) (kt : 0 ≤ x → on_E G M tgt lv st h sz bc bs Q) (kf : ¬ 0 ≤ x → on_E G M pc' lv st h sz bc bs Q) : on_E G M pc lv (.int x :: st) h sz bc bs Q := by
  subst hp
  intro p l e R s m args below meth c H locs cells slots ls S hl hR hS hc hs
  exact lv_if_ge S.1 S.2.1 (S.dec hd) ht (fun c0 => kt c0 p l e R s m args below meth c H locs cells slots ls S hl hR hS hc hs) (fun c0 => kf c0 p l e R s m args below meth c H locs cells slots ls S hl hR hS hc hs)
theorem on_icmp_ge {x y : Int32} {off : Int} {tgt : Nat} (hd : on_tb M pc = some (.if_icmp .ge off, 3)) (hp : pc + 3 = pc') (ht : (pc : Int) + off = (tgt : Int)) (kt : y ≤ x → on_E G M tgt lv st h sz bc bs Q) (kf : ¬ y ≤ x → on_E G M pc' lv st h sz bc bs Q) : on_E G M pc lv (.int y :: .int x :: st) h sz bc bs Q := by
  subst hp
  intro p l e R s m args below meth c H locs cells slots ls S hl hR hS hc hs
  exact lv_icmp_ge S.1 S.2.1 (S.dec hd) ht (fun c0 => kt c0 p l e R s m args below meth c H locs cells slots ls S hl hR hS hc hs) (fun c0 => kf c0 p l e R s m args below meth c H locs cells slots ls S hl hR hS hc hs)
theorem on_if_gt {x : Int32} {off : Int} {tgt : Nat} (hd : on_tb M pc = some (.ifCond .gt off, 3)) (hp : pc + 3 = pc') (ht : (pc : Int) + off = (tgt : Int)) (kt : 0 < x → on_E G M tgt lv st h sz bc bs Q) (kf : ¬ 0 < x → on_E G M pc' lv st h sz bc bs Q) : on_E G M pc lv (.int x :: st) h sz bc bs Q := by
  subst hp
  intro p l e R s m args below meth c H locs cells slots ls S hl hR hS hc hs
  exact lv_if_gt S.1 S.2.1 (S.dec hd) ht (fun c0 => kt c0 p l e R s m args below meth c H locs cells slots ls S hl hR hS hc hs) (fun c0 => kf c0 p l e R s m args below meth c H locs cells slots ls S hl hR hS hc hs)
theorem on_icmp_gt {x y : Int32} {off : Int} {tgt : Nat} (hd : on_tb M pc = some (.if_icmp .gt off, 3)) (hp : pc + 3 = pc') (ht : (pc : Int) + off = (tgt : Int)) (kt : y < x → on_E G M tgt lv st h sz bc bs Q) (kf : ¬ y < x → on_E G M pc' lv st h sz bc bs Q) : on_E G M pc lv (.int y :: .int x :: st) h sz bc bs Q := by
  subst hp
  intro p l e R s m args below meth c H locs cells slots ls S hl hR hS hc hs
  exact lv_icmp_gt S.1 S.2.1 (S.dec hd) ht (fun c0 => kt c0 p l e R s m args below meth c H locs cells slots ls S hl hR hS hc hs) (fun c0 => kf c0 p l e R s m args below meth c H locs cells slots ls S hl hR hS hc hs)
theorem on_if_le {x : Int32} {off : Int} {tgt : Nat} (hd : on_tb M pc = some (.ifCond .le off, 3)) (hp : pc + 3 = pc') (ht : (pc : Int) + off = (tgt : Int)) (kt : x ≤ 0 → on_E G M tgt lv st h sz bc bs Q) (kf : ¬ x ≤ 0 → on_E G M pc' lv st h sz bc bs Q) : on_E G M pc lv (.int x :: st) h sz bc bs Q := by
  subst hp
  intro p l e R s m args below meth c H locs cells slots ls S hl hR hS hc hs
  exact lv_if_le S.1 S.2.1 (S.dec hd) ht (fun c0 => kt c0 p l e R s m args below meth c H locs cells slots ls S hl hR hS hc hs) (fun c0 => kf c0 p l e R s m args below meth c H locs cells slots ls S hl hR hS hc hs)
theorem on_icmp_le {x y : Int32} {off : Int} {tgt : Nat} (hd : on_tb M pc = some (.if_icmp .le off, 3)) (hp : pc + 3 = pc') (ht : (pc : Int) + off = (tgt : Int)) (kt : x ≤ y → on_E G M tgt lv st h sz bc bs Q) (kf : ¬ x ≤ y → on_E G M pc' lv st h sz bc bs Q) : on_E G M pc lv (.int y :: .int x :: st) h sz bc bs Q := by
  subst hp
  intro p l e R s m args below meth c H locs cells slots ls S hl hR hS hc hs
  exact lv_icmp_le S.1 S.2.1 (S.dec hd) ht (fun c0 => kt c0 p l e R s m args below meth c H locs cells slots ls S hl hR hS hc hs) (fun c0 => kf c0 p l e R s m args below meth c H locs cells slots ls S hl hR hS hc hs)
theorem on_acmp_eq {rx ry : Option Nat} {off : Int} {tgt : Nat} (hd : on_tb M pc = some (.if_acmp .eq off, 3)) (hp : pc + 3 = pc') (ht : (pc : Int) + off = (tgt : Int)) (kt : rx = ry → on_E G M tgt lv st h sz bc bs Q) (kf : ¬ rx = ry → on_E G M pc' lv st h sz bc bs Q) : on_E G M pc lv (va_rf ry :: va_rf rx :: st) h sz bc bs Q := by
  subst hp
  intro p l e R s m args below meth c H locs cells slots ls S hl hR hS hc hs
  exact lv_acmp_eq S.1 S.2.1 (S.dec hd) ht (fun c0 => kt c0 p l e R s m args below meth c H locs cells slots ls S hl hR hS hc hs) (fun c0 => kf c0 p l e R s m args below meth c H locs cells slots ls S hl hR hS hc hs)
theorem on_acmp_ne {rx ry : Option Nat} {off : Int} {tgt : Nat} (hd : on_tb M pc = some (.if_acmp .ne off, 3)) (hp : pc + 3 = pc') (ht : (pc : Int) + off = (tgt : Int)) (kt : ¬ rx = ry → on_E G M tgt lv st h sz bc bs Q) (kf : rx = ry → on_E G M pc' lv st h sz bc bs Q) : on_E G M pc lv (va_rf ry :: va_rf rx :: st) h sz bc bs Q := by
  subst hp
  intro p l e R s m args below meth c H locs cells slots ls S hl hR hS hc hs
  exact lv_acmp_ne S.1 S.2.1 (S.dec hd) ht (fun c0 => kt c0 p l e R s m args below meth c H locs cells slots ls S hl hR hS hc hs) (fun c0 => kf c0 p l e R s m args below meth c H locs cells slots ls S hl hR hS hc hs)
theorem on_goto {off : Int} {tgt : Nat} (hd : on_tb M pc = some (.goto off, 3)) (ht : (pc : Int) + off = (tgt : Int)) (k : on_E G M tgt lv st h sz bc bs Q) : on_E G M pc lv st h sz bc bs Q := by
  intro p l e R s m args below meth c H locs cells slots ls S hl hR hS hc hs
  exact lv_goto S.1 S.2.1 (S.dec hd) ht (k p l e R s m args below meth c H locs cells slots ls S hl hR hS hc hs)
theorem on_ifnullR {x : Nat} {off : Int} (hd : on_tb M pc = some (.ifnull off, 3)) (hp : pc + 3 = pc') (k : on_E G M pc' lv st h sz bc bs Q) : on_E G M pc lv (.ref x :: st) h sz bc bs Q := by
  subst hp
  intro p l e R s m args below meth c H locs cells slots ls S hl hR hS hc hs
  exact lv_ifnull S.1 S.2.1 (S.dec hd) (k p l e R s m args below meth c H locs cells slots ls S hl hR hS hc hs)
theorem on_ifnullN {off : Int} {tgt : Nat} (hd : on_tb M pc = some (.ifnull off, 3)) (ht : (pc : Int) + off = (tgt : Int)) (k : on_E G M tgt lv st h sz bc bs Q) : on_E G M pc lv (.null :: st) h sz bc bs Q := by
  intro p l e R s m args below meth c H locs cells slots ls S hl hR hS hc hs
  exact lv_ifnullN S.1 S.2.1 (S.dec hd) ht (k p l e R s m args below meth c H locs cells slots ls S hl hR hS hc hs)
theorem on_ifnonnullR {x : Nat} {off : Int} {tgt : Nat} (hd : on_tb M pc = some (.ifnonnull off, 3)) (ht : (pc : Int) + off = (tgt : Int)) (k : on_E G M tgt lv st h sz bc bs Q) : on_E G M pc lv (.ref x :: st) h sz bc bs Q := by
  intro p l e R s m args below meth c H locs cells slots ls S hl hR hS hc hs
  exact lv_ifnonnull S.1 S.2.1 (S.dec hd) ht (k p l e R s m args below meth c H locs cells slots ls S hl hR hS hc hs)
theorem on_ifnonnullN {off : Int} (hd : on_tb M pc = some (.ifnonnull off, 3)) (hp : pc + 3 = pc') (k : on_E G M pc' lv st h sz bc bs Q) : on_E G M pc lv (.null :: st) h sz bc bs Q := by
  subst hp
  intro p l e R s m args below meth c H locs cells slots ls S hl hR hS hc hs
  exact lv_ifnonnullN S.1 S.2.1 (S.dec hd) (k p l e R s m args below meth c H locs cells slots ls S hl hR hS hc hs)
theorem on_ifnull {r : Option Nat} {off : Int} {tgt : Nat} (hd : on_tb M pc = some (.ifnull off, 3)) (hp : pc + 3 = pc') (ht : (pc : Int) + off = (tgt : Int)) (kt : r = none → on_E G M tgt lv st h sz bc bs Q) (kf : ∀ x, r = some x → on_E G M pc' lv st h sz bc bs Q) : on_E G M pc lv (va_rf r :: st) h sz bc bs Q := by
  cases r with
  | none => exact on_ifnullN hd ht (kt rfl)
  | some x => exact on_ifnullR hd hp (kf x rfl)
theorem on_ifnonnull {r : Option Nat} {off : Int} {tgt : Nat} (hd : on_tb M pc = some (.ifnonnull off, 3)) (hp : pc + 3 = pc') (ht : (pc : Int) + off = (tgt : Int)) (kt : ∀ x, r = some x → on_E G M tgt lv st h sz bc bs Q) (kf : r = none → on_E G M pc' lv st h sz bc bs Q) : on_E G M pc lv (va_rf r :: st) h sz bc bs Q := by
  cases r with
  | none => exact on_ifnonnullN hd hp (kf rfl)
  | some x => exact on_ifnonnullR hd ht (kt x rfl)
theorem on_lookup {dflt : Int} {ps : Array (Int × Int)} {len : Nat} {x : Int32} {off : Int} {tgt : Nat} (hd : on_tb M pc = some (.lookupswitch dflt ps, len)) (hps : (ps.toList.zip (ps.toList.drop 1)).all (fun (a, next) => a.1 < next.1) = true) (ho : Op.lookupswitch.offset ps.toList dflt x.toInt = off) (ht : (pc : Int) + off = (tgt : Int)) (k : on_E G M tgt lv st h sz bc bs Q) : on_E G M pc lv (.int x :: st) h sz bc bs Q := by
  intro p l e R s m args below meth c H locs cells slots ls S hl hR hS hc hs
  exact lv_lookup S.1 S.2.1 (S.dec hd) hps ho ht (k p l e R s m args below meth c H locs cells slots ls S hl hR hS hc hs)
theorem on_tableOut {dflt lo hi : Int} {offs : Array Int} {len : Nat} {x : Int32} {tgt : Nat} (hd : on_tb M pc = some (.tableswitch dflt lo hi offs, len)) (hx : x.toInt < lo ∨ hi < x.toInt) (ht : (pc : Int) + dflt = (tgt : Int)) (k : on_E G M tgt lv st h sz bc bs Q) : on_E G M pc lv (.int x :: st) h sz bc bs Q := by
  intro p l e R s m args below meth c H locs cells slots ls S hl hR hS hc hs
  exact lv_tableOut S.1 S.2.1 (S.dec hd) hx ht (k p l e R s m args below meth c H locs cells slots ls S hl hR hS hc hs)
theorem on_tableIn {dflt lo hi : Int} {offs : Array Int} {len : Nat} {x : Int32} {off : Int} {tgt : Nat} (hd : on_tb M pc = some (.tableswitch dflt lo hi offs, len)) (h1 : ¬ x.toInt < lo) (h2 : ¬ hi < x.toInt) (ho : offs[(x.toInt - lo).toNat]? = some off) (ht : (pc : Int) + off = (tgt : Int)) (k : on_E G M tgt lv st h sz bc bs Q) : on_E G M pc lv (.int x :: st) h sz bc bs Q := by
  intro p l e R s m args below meth c H locs cells slots ls S hl hR hS hc hs
  exact lv_tableIn S.1 S.2.1 (S.dec hd) h1 h2 ho ht (k p l e R s m args below meth c H locs cells slots ls S hl hR hS hc hs)
theorem on_ldc {index : Nat} {v : Int32} (hd : on_tb M pc = some (.ldc index, 2)) (hp : pc + 2 = pc') (hw : Cond.constant (on_y M).cls index v ∈ on_W) (k : on_E G M pc' lv (.int v :: st) h sz bc bs Q) : on_E G M pc lv st h sz bc bs Q := by
  subst hp
  intro p l e R s m args below meth c H locs cells slots ls S hl hR hS hc hs
  exact lv_ldc S.1 S.2.1 S.2.2.2.2.2.2.1 (S.2.2.2.2.2.2.2.1 _ hw) (S.dec hd) (k p l e R s m args below meth c H locs cells slots ls S hl hR hS hc hs)
theorem on_ldcw {index : Nat} {v : Int32} (hd : on_tb M pc = some (.ldc_w index, 3)) (hp : pc + 3 = pc') (hw : Cond.constant (on_y M).cls index v ∈ on_W) (k : on_E G M pc' lv (.int v :: st) h sz bc bs Q) : on_E G M pc lv st h sz bc bs Q := by
  subst hp
  intro p l e R s m args below meth c H locs cells slots ls S hl hR hS hc hs
  exact lv_ldcw S.1 S.2.1 S.2.2.2.2.2.2.1 (S.2.2.2.2.2.2.2.1 _ hw) (S.dec hd) (k p l e R s m args below meth c H locs cells slots ls S hl hR hS hc hs)
theorem on_ldc2 {index : Nat} {v : Int64} (hd : on_tb M pc = some (.ldc2_w index, 3)) (hp : pc + 3 = pc') (hw : Cond.constantLong (on_y M).cls index v ∈ on_W) (k : on_E G M pc' lv (.long v :: st) h sz bc bs Q) : on_E G M pc lv st h sz bc bs Q := by
  subst hp
  intro p l e R s m args below meth c H locs cells slots ls S hl hR hS hc hs
  exact lv_ldc2 S.1 S.2.1 S.2.2.2.2.2.2.1 (S.2.2.2.2.2.2.2.1 _ hw) (S.dec hd) (k p l e R s m args below meth c H locs cells slots ls S hl hR hS hc hs)
theorem on_ireturn {v : Int32} (hd : on_tb M pc = some (.ireturn, 1)) (hrt : on_rt M = some .int)  (hq : Q (some (.int v)) h sz) : on_E G M pc lv [.int v] h sz bc bs Q := by
  intro p l e R s m args below meth c H locs cells slots ls S hl hR hS hc hs
  refine W.widen (k := R.cells) (n := R.slots) (by omega) (by omega) ?_
  exact W.iret (v := v) S.1 S.2.1 (S.2.2.2.1.trans hrt) (fun t ht hW => ⟨⟨_, h, sz, rfl, hq, by rw [ht]; exact hR⟩, hS.F ht⟩) hS.2.2 (S.dec hd) S.2.2.2.2.1
theorem on_zreturn {v : Int32} (hd : on_tb M pc = some (.ireturn, 1)) (hrt : on_rt M = some .boolean) (hn : narrow .boolean (.int v) = .int v) (hq : Q (some (.int v)) h sz) : on_E G M pc lv [.int v] h sz bc bs Q := by
  intro p l e R s m args below meth c H locs cells slots ls S hl hR hS hc hs
  refine W.widen (k := R.cells) (n := R.slots) (by omega) (by omega) ?_
  exact W.zret (v := v) S.1 S.2.1 (S.2.2.2.1.trans hrt) hn (fun t ht hW => ⟨⟨_, h, sz, rfl, hq, by rw [ht]; exact hR⟩, hS.F ht⟩) hS.2.2 (S.dec hd) S.2.2.2.2.1
theorem on_lreturn {v : Int64} (hd : on_tb M pc = some (.lreturn, 1)) (hrt : on_rt M = some .long)  (hq : Q (some (.long v)) h sz) : on_E G M pc lv [.long v] h sz bc bs Q := by
  intro p l e R s m args below meth c H locs cells slots ls S hl hR hS hc hs
  refine W.widen (k := R.cells) (n := R.slots) (by omega) (by omega) ?_
  exact W.lret (v := v) S.1 S.2.1 (S.2.2.2.1.trans hrt) (fun t ht hW => ⟨⟨_, h, sz, rfl, hq, by rw [ht]; exact hR⟩, hS.F ht⟩) hS.2.2 (S.dec hd) S.2.2.2.2.1
theorem on_vreturn  (hd : on_tb M pc = some (.return_, 1)) (hrt : on_rt M = none)  (hq : Q (none) h sz) : on_E G M pc lv [] h sz bc bs Q := by
  intro p l e R s m args below meth c H locs cells slots ls S hl hR hS hc hs
  refine W.widen (k := R.cells) (n := R.slots) (by omega) (by omega) ?_
  exact W.vret S.1 S.2.1 (S.2.2.2.1.trans hrt) (fun t ht hW => ⟨⟨_, h, sz, rfl, hq, by rw [ht]; exact hR⟩, hS.F ht⟩) hS.2.2 (S.dec hd) S.2.2.2.2.1
theorem on_areturn {r : Option Nat} {rt : FieldType} (hd : on_tb M pc = some (.areturn, 1)) (hrt : on_rt M = some rt) (hrt2 : (∃ n, rt = .object n) ∨ ∃ t, rt = .array t) (hq : Q (some (va_rf r)) h sz) : on_E G M pc lv [va_rf r] h sz bc bs Q := by
  intro p l e R s m args below meth c H locs cells slots ls S hl hR hS hc hs
  refine W.widen (k := R.cells) (n := R.slots) (by omega) (by omega) ?_
  exact W.aret (v := va_rf r) S.1 S.2.1 (S.2.2.2.1.trans hrt) hrt2 (by cases r with | none => exact Or.inl rfl | some x => exact Or.inr ⟨x, rfl⟩) (fun t ht hW => ⟨⟨_, h, sz, rfl, hq, by rw [ht]; exact hR⟩, hS.F ht⟩) hS.2.2 (S.dec hd) S.2.2.2.2.1
end ONR
