set_option maxRecDepth 100000 in
theorem w_ac1 : Cond.native arraycopyName ∈ on_W := on_w 211 rfl rfl
set_option maxRecDepth 100000 in
theorem w_ac2 : Cond.static arraycopyName ∈ on_W := on_w 210 rfl rfl
set_option maxRecDepth 100000 in
theorem w_ac3 : Cond.initialized "java/lang/System" ∈ on_W := on_w 105 rfl rfl
set_option maxRecDepth 100000 in
theorem w_mth : Cond.initialized "java/lang/Math" ∈ on_W := on_w 113 rfl rfl
set_option maxRecDepth 100000 in
theorem w_min1 : Cond.static Lib.Math.min.name ∈ on_W := on_w 499 rfl rfl
set_option maxRecDepth 100000 in
theorem w_min2 : Cond.code Lib.Math.min.name Lib.Math.min.code 2 (some .int) ∈ on_W := on_w 500 rfl rfl
set_option maxRecDepth 100000 in
theorem w_max1 : Cond.static Lib.Math.max.name ∈ on_W := on_w 502 rfl rfl
set_option maxRecDepth 100000 in
theorem w_max2 : Cond.code Lib.Math.max.name Lib.Math.max.code 2 (some .int) ∈ on_W := on_w 503 rfl rfl
set_option maxRecDepth 100000 in
theorem w_ob1 : Cond.instanceMethod Lib.objectInit ∈ on_W := on_w 132 rfl rfl
set_option maxRecDepth 100000 in
theorem w_ob2 : Cond.code Lib.objectInit ⟨#[0xb1]⟩ 1 none ∈ on_W := on_w 133 rfl rfl
set_option maxRecDepth 100000 in
theorem w_arint : Cond.arrayClass .int ∈ on_W := on_w 164 rfl rfl
set_option maxRecDepth 100000 in
theorem w_arlong : Cond.arrayClass .long ∈ on_W := on_w 206 rfl rfl
set_option maxRecDepth 100000 in
theorem w_arboolean : Cond.arrayClass .boolean ∈ on_W := on_w 281 rfl rfl
section ONX
variable {G : on_G} {M : on_M} {pc pc' : Nat} {lv : on_V} {st : List Value} {h : on_H} {sz bc bs : Nat} {Q : Option Value → on_H → Nat → Prop}
theorem on_nn {k : Nat} (hk : k < 2 ^ 31) : (nI k).toInt = ((nI k).toNatClampNeg : Int) := by rw [nI_toInt hk, nI_clamp hk]
theorem on_acopy {idx a0 a n0 n1 i0 j0 k0 : Nat} {f g : Nat → Int32} {sp dp n : Int32} (hd : on_tb M pc = some (.invokestatic idx, 3)) (hp : pc + 3 = pc') (w1 : Cond.methodLink (on_y M).cls idx arraycopyName ∈ on_W) (hfr : 1 ≤ on_fr M) (hlo : (st.map fun v => v.category).sum + (nativeFrameWords "java/lang/System" "arraycopy" 5 + 11) ≤ on_lo M)
    (ha0 : h a0 = some (on_ai 0 n0 f)) (ha1 : h a = some (on_ai 0 n1 g)) (e1 : sp = nI i0) (e2 : dp = nI j0) (e3 : n = nI k0) (b1 : i0 + k0 ≤ n0 ∧ n0 < 2 ^ 31) (b2 : j0 + k0 ≤ n1 ∧ n1 < 2 ^ 31) (kk : on_E G M pc' lv st (on_up h a (on_ai 0 n1 (va_cpy f g i0 j0 k0))) sz bc bs Q) : on_E G M pc lv (.int n :: .int dp :: .ref a :: .int sp :: .ref a0 :: st) h sz bc bs Q := by
  subst hp
  subst e1
  subst e2
  subst e3
  intro p l e R s m args below meth c H locs cells slots ls S hl hR hS hc hs T hT X
  have hts := S.2.2.2.2.2.2.2.1
  have c0 : H[a0]? = some (vp_cell (G.2.1 0) (n0, .inl f)) := (hR.2 a0 _ ha0).2
  have c1 : H[a]? = some (vp_cell (G.2.1 0) (n1, .inl g)) := (hR.2 a _ ha1).2
  obtain ⟨-, k1, hk1, cm1, hkk1⟩ := (S.2.2.2.2.2.2.2.2.1.2.1 0 .int rfl).1 n0 (fun j => .int (f j))
  obtain ⟨-, k2, hk2, cm2, hkk2⟩ := (S.2.2.2.2.2.2.2.2.1.2.1 0 .int rfl).1 n1 (fun j => .int (g j))
  have z1 : (nI i0).toNatClampNeg = i0 := nI_clamp (by omega)
  have z2 : (nI j0).toNatClampNeg = j0 := nI_clamp (by omega)
  have z3 : (nI k0).toNatClampNeg = k0 := nI_clamp (by omega)
  obtain ⟨vm', X', step⟩ := X.arraycopy S.1 S.2.2.2.2.2.2.1 (hts _ w1) (hts _ w_ac1) (hts _ w_ac2) (hts _ w_ac3) (src := a0) (dst := a) (cs := vp_cell (G.2.1 0) (n0, .inl f)) (cd := vp_cell (G.2.1 0) (n1, .inl g)) (srcPos := nI i0) (destPos := nI j0) (n := nI k0) (by rw [hT]; exact c0) (by rw [hT]; exact c1)
    (fun _ h => by cases h) (fun _ h => by cases h) (fun h => by cases h) (fun h => by cases h) hk1 hk2 hkk1 hkk2 (by simp [refKind]) (nI_pos (by omega)) (nI_pos (by omega)) (nI_pos (by omega))
    (by rw [nI_toInt (by omega), nI_toInt (by omega)]; show ¬ _ > ((arrV (G.2.1 0) n0 (fun j => .int (f j))).slots.size : Int); rw [arrV_size]; omega)
    (by rw [nI_toInt (by omega), nI_toInt (by omega)]; show ¬ _ > ((arrV (G.2.1 0) n1 (fun j => .int (g j))).slots.size : Int); rw [arrV_size]; omega)
    (fun vm₁ _ i hi => by
      rw [z3] at hi
      have e : (vp_cell (G.2.1 0) (n0, .inl f)).slots.getD ((nI i0).toNatClampNeg + i) .null = .int (f ((nI i0).toNatClampNeg + i)) := by
        show (arrV (G.2.1 0) n0 (fun j => .int (f j))).slots.getD _ _ = _
        rw [Array.getD_eq_getD_getElem?, arrV_read _ _ (by rw [z1]; omega)]
        rfl
      exact ⟨by rw [e]; rfl, by rw [e]; exact trivial⟩)
    (g := F0 m pc ls (.int (nI k0) :: .int (nI j0) :: .ref a :: .int (nI i0) :: .ref a0 :: st)) rfl (by rw [S.2.2.1]; exact hl.1) (rest := st) rfl (by rw [S.2.1]; exact S.dec hd) (by rw [S.2.2.2.2.2.2.2.2.2.1]; exact hfr) (by rw [S.2.2.2.2.2.2.2.2.2.2.1]; show 2 * 0 + _ + _ ≤ _; omega)
  have ec : copied (vp_cell (G.2.1 0) (n0, .inl f)) (vp_cell (G.2.1 0) (n1, .inl g)) (nI i0) (nI j0) (nI k0) = vp_cell (G.2.1 0) (n1, .inl (va_cpy f g (nI i0).toNatClampNeg (nI j0).toNatClampNeg (nI k0).toNatClampNeg)) := va_copied (fun z => .int z) (G.2.1 0) (G.2.1 0) f g (by rw [z1, z3]; exact b1.1)
  rw [z1, z2, z3] at ec
  rw [ec] at X' step
  have hlt : a < H.size := (Array.getElem?_eq_some_iff.mp c1).1
  have oq : ∀ q : Nat, q ≠ a → (H.setIfInBounds a (vp_cell (G.2.1 0) (n1, .inl (va_cpy f g i0 j0 k0))))[q]? = H[q]? := fun q hq => by simp [Array.getElem?_setIfInBounds, Ne.symm hq]
  have zz : (H.setIfInBounds a (vp_cell (G.2.1 0) (n1, .inl (va_cpy f g i0 j0 k0)))).size = H.size := by simp
  obtain ⟨t, a1, b1⟩ := kk p l e R s m args below meth c _ _ cells slots ls S hl (hR.set (a := a) (e := on_ai 0 n1 (va_cpy f g i0 j0 k0)) zz oq (hR.2 a _ ha1).1 (show (H.setIfInBounds a _)[a]? = some _ by simp [Array.getElem?_setIfInBounds, hlt, on_c])) ⟨by rw [zz]; exact hS.1, fun q g1 g2 => by
      rw [oq q (fun e => g2 (by rw [e]; exact (hR.2 a _ ha1).1))]
      exact hS.2.1 q g1 g2, fun q hq => by
      rcases List.mem_append.mp hq with h | h
      · exact hS.2.2 q h
      · obtain ⟨z, -, hz⟩ := List.mem_map.mp h
        rw [← hz]
        exact (hR.2 a _ ha1).1⟩ hc hs _ (by rw [← hT]; rfl) X'
  exact ⟨t, step t a1, b1⟩
theorem on_acopyL {idx a0 a n0 n1 i0 j0 k0 : Nat} {f g : Nat → Int64} {sp dp n : Int32} (hd : on_tb M pc = some (.invokestatic idx, 3)) (hp : pc + 3 = pc') (w1 : Cond.methodLink (on_y M).cls idx arraycopyName ∈ on_W) (hfr : 1 ≤ on_fr M) (hlo : (st.map fun v => v.category).sum + (nativeFrameWords "java/lang/System" "arraycopy" 5 + 11) ≤ on_lo M)
    (ha0 : h a0 = some (on_al 1 n0 f)) (ha1 : h a = some (on_al 1 n1 g)) (e1 : sp = nI i0) (e2 : dp = nI j0) (e3 : n = nI k0) (b1 : i0 + k0 ≤ n0 ∧ n0 < 2 ^ 31) (b2 : j0 + k0 ≤ n1 ∧ n1 < 2 ^ 31) (kk : on_E G M pc' lv st (on_up h a (on_al 1 n1 (va_cpy f g i0 j0 k0))) sz bc bs Q) : on_E G M pc lv (.int n :: .int dp :: .ref a :: .int sp :: .ref a0 :: st) h sz bc bs Q := by
  subst hp
  subst e1
  subst e2
  subst e3
  intro p l e R s m args below meth c H locs cells slots ls S hl hR hS hc hs T hT X
  have hts := S.2.2.2.2.2.2.2.1
  have c0 : H[a0]? = some (vp_cell (G.2.1 1) (n0, .inr (.inl f))) := (hR.2 a0 _ ha0).2
  have c1 : H[a]? = some (vp_cell (G.2.1 1) (n1, .inr (.inl g))) := (hR.2 a _ ha1).2
  obtain ⟨-, k1, hk1, cm1, hkk1⟩ := (S.2.2.2.2.2.2.2.2.1.2.1 1 .long rfl).1 n0 (fun j => .long (f j))
  obtain ⟨-, k2, hk2, cm2, hkk2⟩ := (S.2.2.2.2.2.2.2.2.1.2.1 1 .long rfl).1 n1 (fun j => .long (g j))
  have z1 : (nI i0).toNatClampNeg = i0 := nI_clamp (by omega)
  have z2 : (nI j0).toNatClampNeg = j0 := nI_clamp (by omega)
  have z3 : (nI k0).toNatClampNeg = k0 := nI_clamp (by omega)
  obtain ⟨vm', X', step⟩ := X.arraycopy S.1 S.2.2.2.2.2.2.1 (hts _ w1) (hts _ w_ac1) (hts _ w_ac2) (hts _ w_ac3) (src := a0) (dst := a) (cs := vp_cell (G.2.1 1) (n0, .inr (.inl f))) (cd := vp_cell (G.2.1 1) (n1, .inr (.inl g))) (srcPos := nI i0) (destPos := nI j0) (n := nI k0) (by rw [hT]; exact c0) (by rw [hT]; exact c1)
    (fun _ h => by cases h) (fun _ h => by cases h) (fun h => by cases h) (fun h => by cases h) hk1 hk2 hkk1 hkk2 (by simp [refKind]) (nI_pos (by omega)) (nI_pos (by omega)) (nI_pos (by omega))
    (by rw [nI_toInt (by omega), nI_toInt (by omega)]; show ¬ _ > ((arrV (G.2.1 1) n0 (fun j => .long (f j))).slots.size : Int); rw [arrV_size]; omega)
    (by rw [nI_toInt (by omega), nI_toInt (by omega)]; show ¬ _ > ((arrV (G.2.1 1) n1 (fun j => .long (g j))).slots.size : Int); rw [arrV_size]; omega)
    (fun vm₁ _ i hi => by
      rw [z3] at hi
      have e : (vp_cell (G.2.1 1) (n0, .inr (.inl f))).slots.getD ((nI i0).toNatClampNeg + i) .null = .long (f ((nI i0).toNatClampNeg + i)) := by
        show (arrV (G.2.1 1) n0 (fun j => .long (f j))).slots.getD _ _ = _
        rw [Array.getD_eq_getD_getElem?, arrV_read _ _ (by rw [z1]; omega)]
        rfl
      exact ⟨by rw [e]; rfl, by rw [e]; exact trivial⟩)
    (g := F0 m pc ls (.int (nI k0) :: .int (nI j0) :: .ref a :: .int (nI i0) :: .ref a0 :: st)) rfl (by rw [S.2.2.1]; exact hl.1) (rest := st) rfl (by rw [S.2.1]; exact S.dec hd) (by rw [S.2.2.2.2.2.2.2.2.2.1]; exact hfr) (by rw [S.2.2.2.2.2.2.2.2.2.2.1]; show 2 * 0 + _ + _ ≤ _; omega)
  have ec : copied (vp_cell (G.2.1 1) (n0, .inr (.inl f))) (vp_cell (G.2.1 1) (n1, .inr (.inl g))) (nI i0) (nI j0) (nI k0) = vp_cell (G.2.1 1) (n1, .inr (.inl (va_cpy f g (nI i0).toNatClampNeg (nI j0).toNatClampNeg (nI k0).toNatClampNeg))) := va_copied (fun z => .long z) (G.2.1 1) (G.2.1 1) f g (by rw [z1, z3]; exact b1.1)
  rw [z1, z2, z3] at ec
  rw [ec] at X' step
  have hlt : a < H.size := (Array.getElem?_eq_some_iff.mp c1).1
  have oq : ∀ q : Nat, q ≠ a → (H.setIfInBounds a (vp_cell (G.2.1 1) (n1, .inr (.inl (va_cpy f g i0 j0 k0)))))[q]? = H[q]? := fun q hq => by simp [Array.getElem?_setIfInBounds, Ne.symm hq]
  have zz : (H.setIfInBounds a (vp_cell (G.2.1 1) (n1, .inr (.inl (va_cpy f g i0 j0 k0))))).size = H.size := by simp
  obtain ⟨t, a1, b1⟩ := kk p l e R s m args below meth c _ _ cells slots ls S hl (hR.set (a := a) (e := on_al 1 n1 (va_cpy f g i0 j0 k0)) zz oq (hR.2 a _ ha1).1 (show (H.setIfInBounds a _)[a]? = some _ by simp [Array.getElem?_setIfInBounds, hlt, on_c])) ⟨by rw [zz]; exact hS.1, fun q g1 g2 => by
      rw [oq q (fun e => g2 (by rw [e]; exact (hR.2 a _ ha1).1))]
      exact hS.2.1 q g1 g2, fun q hq => by
      rcases List.mem_append.mp hq with h | h
      · exact hS.2.2 q h
      · obtain ⟨z, -, hz⟩ := List.mem_map.mp h
        rw [← hz]
        exact (hR.2 a _ ha1).1⟩ hc hs _ (by rw [← hT]; rfl) X'
  exact ⟨t, step t a1, b1⟩
theorem on_acopyS {idx a k n1 i0 j0 k0 : Nat} {q0 : String × String × List Int32} {g : Nat → Int32} {sp dp n : Int32} (hd : on_tb M pc = some (.invokestatic idx, 3)) (hp : pc + 3 = pc') (w1 : Cond.methodLink (on_y M).cls idx arraycopyName ∈ on_W) (hfr : 1 ≤ on_fr M) (hlo : (st.map fun v => v.category).sum + (nativeFrameWords "java/lang/System" "arraycopy" 5 + 11) ≤ on_lo M)
    (hq : on_stl[k]? = some q0) (ha1 : h a = some (on_ai 0 n1 g)) (e1 : sp = nI i0) (e2 : dp = nI j0) (e3 : n = nI k0) (b1 : i0 + k0 ≤ q0.2.2.length ∧ q0.2.2.length < 2 ^ 31) (b2 : j0 + k0 ≤ n1 ∧ n1 < 2 ^ 31) (kk : on_E G M pc' lv st (on_up h a (on_ai 0 n1 (va_cpy (fun j => q0.2.2.getD j 0) g i0 j0 k0))) sz bc bs Q) : on_E G M pc lv (.int n :: .int dp :: .ref a :: .int sp :: (.ref (on_sa G k)) :: st) h sz bc bs Q := by
  subst hp
  subst e1
  subst e2
  subst e3
  intro p l e R s m args below meth c H locs cells slots ls S hl hR hS hc hs T hT X
  have hts := S.2.2.2.2.2.2.2.1
  obtain ⟨cs, t1, t2, t3, t4, t5, t6, t7⟩ := (S.st k q0 hq).2
  have c0 : H[on_sa G k]? = some cs := (hS.2.1 _ (Array.getElem?_eq_some_iff.mp t1).1 t7).trans t1
  have c1 : H[a]? = some (vp_cell (G.2.1 0) (n1, .inl g)) := (hR.2 a _ ha1).2
  obtain ⟨hob, k1, hk1, cm1, hkk1⟩ := t2
  obtain ⟨-, k2, hk2, cm2, hkk2⟩ := (S.2.2.2.2.2.2.2.2.1.2.1 0 .int rfl).1 n1 (fun j => .int (g j))
  have z1 : (nI i0).toNatClampNeg = i0 := nI_clamp (by omega)
  have z2 : (nI j0).toNatClampNeg = j0 := nI_clamp (by omega)
  have z3 : (nI k0).toNatClampNeg = k0 := nI_clamp (by omega)
  obtain ⟨vm', X', step⟩ := X.arraycopy S.1 S.2.2.2.2.2.2.1 (hts _ w1) (hts _ w_ac1) (hts _ w_ac2) (hts _ w_ac3) (src := on_sa G k) (dst := a) (cs := cs) (cd := vp_cell (G.2.1 0) (n1, .inl g)) (srcPos := nI i0) (destPos := nI j0) (n := nI k0) (by rw [hT]; exact c0) (by rw [hT]; exact c1)
    hob (fun _ h => by cases h) t3 (fun h => by cases h) hk1 hk2 hkk1 hkk2 (by simp [refKind]) (nI_pos (by omega)) (nI_pos (by omega)) (nI_pos (by omega))
    (by rw [nI_toInt (by omega), nI_toInt (by omega)]; omega)
    (by rw [nI_toInt (by omega), nI_toInt (by omega)]; show ¬ _ > ((arrV (G.2.1 0) n1 (fun j => .int (g j))).slots.size : Int); rw [arrV_size]; omega)
    (fun vm₁ _ i hi => by
      rw [z3] at hi
      have e : cs.slots.getD ((nI i0).toNatClampNeg + i) .null = .int (q0.2.2.getD ((nI i0).toNatClampNeg + i) 0) := by
        rw [Array.getD_eq_getD_getElem?, t6 _ (by rw [z1]; omega)]
        rfl
      exact ⟨by rw [e]; rfl, by rw [e]; exact trivial⟩)
    (g := F0 m pc ls (.int (nI k0) :: .int (nI j0) :: .ref a :: .int (nI i0) :: (.ref (on_sa G k)) :: st)) rfl (by rw [S.2.2.1]; exact hl.1) (rest := st) rfl (by rw [S.2.1]; exact S.dec hd) (by rw [S.2.2.2.2.2.2.2.2.2.1]; exact hfr) (by rw [S.2.2.2.2.2.2.2.2.2.2.1]; show 2 * 0 + _ + _ ≤ _; omega)
  have est : cs.stretch (nI i0).toNatClampNeg (nI k0).toNatClampNeg = (arrV (G.2.1 0) q0.2.2.length (fun j => .int (q0.2.2.getD j 0))).stretch (nI i0).toNatClampNeg (nI k0).toNatClampNeg := by
    unfold Cell.stretch
    apply List.map_congr_left
    intro i hi
    have hi' := List.mem_range.mp hi
    rw [z3] at hi'
    rw [Array.getD_eq_getD_getElem?, t6 _ (by rw [z1]; omega), Array.getD_eq_getD_getElem?, arrV_read _ _ (by rw [z1]; omega)]
  have ec : copied cs (vp_cell (G.2.1 0) (n1, .inl g)) (nI i0) (nI j0) (nI k0) = vp_cell (G.2.1 0) (n1, .inl (va_cpy (fun j => q0.2.2.getD j 0) g (nI i0).toNatClampNeg (nI j0).toNatClampNeg (nI k0).toNatClampNeg)) := by
    have := va_copied (sp := (nI i0).toNatClampNeg) (dp := (nI j0).toNatClampNeg) (n := (nI k0).toNatClampNeg) (fun z => Value.int z) (G.2.1 0) (G.2.1 0) (n0 := q0.2.2.length) (n1 := n1) (fun j => q0.2.2.getD j 0) g (by rw [z1, z3]; exact b1.1)
    rw [← est] at this
    exact this
  rw [z1, z2, z3] at ec
  rw [ec] at X' step
  have hlt : a < H.size := (Array.getElem?_eq_some_iff.mp c1).1
  have oq : ∀ q : Nat, q ≠ a → (H.setIfInBounds a (vp_cell (G.2.1 0) (n1, .inl (va_cpy (fun j => q0.2.2.getD j 0) g i0 j0 k0))))[q]? = H[q]? := fun q hq => by simp [Array.getElem?_setIfInBounds, Ne.symm hq]
  have zz : (H.setIfInBounds a (vp_cell (G.2.1 0) (n1, .inl (va_cpy (fun j => q0.2.2.getD j 0) g i0 j0 k0)))).size = H.size := by simp
  obtain ⟨t, a1, b1⟩ := kk p l e R s m args below meth c _ _ cells slots ls S hl (hR.set (a := a) (e := on_ai 0 n1 (va_cpy (fun j => q0.2.2.getD j 0) g i0 j0 k0)) zz oq (hR.2 a _ ha1).1 (show (H.setIfInBounds a _)[a]? = some _ by simp [Array.getElem?_setIfInBounds, hlt, on_c])) ⟨by rw [zz]; exact hS.1, fun q g1 g2 => by
      rw [oq q (fun e => g2 (by rw [e]; exact (hR.2 a _ ha1).1))]
      exact hS.2.1 q g1 g2, fun q hq => by
      rcases List.mem_append.mp hq with h | h
      · exact hS.2.2 q h
      · obtain ⟨z, -, hz⟩ := List.mem_map.mp h
        rw [← hz]
        exact (hR.2 a _ ha1).1⟩ hc hs _ (by rw [← hT]; rfl) X'
  exact ⟨t, step t a1, b1⟩
/-- fields of nest mates -/
def on_FLN (C0 : String) (index ci k : Nat) : Prop := ∃ (q : vw_C) (host : String), on_cl[ci]? = some q ∧ k < q.2.2 ∧ (∀ w ∈ u_ws q.1 q.2.1 q.2.2, w ∈ on_W) ∧ Cond.fieldLinkNest C0 index (q.2.1 k).1 (q.2.1 k).2.1 (q.2.1 k).2.2.1 host ∈ on_W2
def on_FPN (C0 : String) (index ci k : Nat) (ty : FieldType) (fin : Bool) : Prop := ∃ (q : vw_C) (ty0 : Nat → FieldType) (host : String), on_cl[ci]? = some q ∧ k < q.2.2 ∧ (∀ w ∈ u_ws q.1 q.2.1 q.2.2, w ∈ on_W) ∧ Cond.fieldLinkNest C0 index (q.2.1 k).1 (q.2.1 k).2.1 (q.2.1 k).2.2.1 host ∈ on_W2 ∧
  (∀ j, j < q.2.2 → parseFieldDescriptor (q.2.1 j).2.2.1 = some (ty0 j)) ∧ (∀ a, a < q.2.2 → ∀ b, b < q.2.2 → a ≠ b → (q.2.1 a).2.1 ≠ (q.2.1 b).2.1) ∧ parseFieldDescriptor (q.2.1 k).2.2.1 = some ty ∧ (q.2.1 k).2.2.2 = fin ∧ (fin = true → (q.2.1 k).1 = C0)
theorem on_getN {a ci k index : Nat} {fs : List Value} {v : Value} (hd : on_tb M pc = some (.getfield index, 3)) (hp : pc + 3 = pc') (hF : on_FLN (on_y M).cls index ci k) (ha : h a = some (.inr (ci, fs))) (hv : fs[k]? = some v) (kk : on_E G M pc' lv (v :: st) h sz bc bs Q) : on_E G M pc lv (.ref a :: st) h sz bc bs Q := by
  subst hp
  intro p l e R s m args below meth c H locs cells slots ls S hl hR hS hc hs
  obtain ⟨⟨C, T, N⟩, host, hcl, hk, hin, hlink⟩ := hF
  have hts := S.2.2.2.2.2.2.2.1
  exact va_getN (ref := (T k).1) S.1 S.2.1 hts hin S.2.2.2.2.2.2.1 S.2.2.2.2.2.2.2.2.1.1 (hR.one ha) 0 rfl hcl k hk (S.2.2.2.2.2.2.2.2.1.nest hlink) (fun _ x => x) hv (S.dec hd) (kk p l e R s m args below meth c H locs cells slots ls S hl hR hS hc hs)
theorem on_putN {a ci k index : Nat} {ty : FieldType} {fs : List Value} {v : Value} (hd : on_tb M pc = some (.putfield index, 3)) (hp : pc + 3 = pc') (hF : on_FPN (on_y M).cls index ci k ty false) (ha : h a = some (.inr (ci, fs))) (hn : narrow ty v = v) (hfit : fits ty v = true) (hkl : k < fs.length) (kk : on_E G M pc' lv st (on_up h a (.inr (ci, fs.set k v))) sz bc bs Q) : on_E G M pc lv (v :: .ref a :: st) h sz bc bs Q := by
  subst hp
  intro p l e R s m args below meth c H locs cells slots ls S hl hR hS hc hs
  obtain ⟨⟨C, T, N⟩, ty0, host, hcl, hk, hin, hlink, hty, hnm, hdsc, hfin, -⟩ := hF
  have hts := S.2.2.2.2.2.2.2.1
  have hK := S.2.2.2.2.2.2.2.2.1.1
  have hap := va_apart (own := (on_y M).cls) hts hin ty0 hty hnm hK hcl
  obtain ⟨r, h1, cell, q1, q2, q3, q4⟩ := (hR.2 a _ ha).2
  have hr : r = (C, T, N) := Option.some.inj (h1.symm.trans hcl)
  subst hr
  obtain ⟨hSl, hfc, kC, hkC, hkind⟩ := hK.1 ci _ hcl
  obtain ⟨cf, kf, fi, f, hi, hsl⟩ := hSl k hk
  have hlay := hts _ (hin _ (u_in_lay hk))
  unfold u_lay at hlay
  rw [if_neg (by rw [hfin]; decide)] at hlay
  have hst := (u_facts hfc hkC (u_lays hts hin hk) hi).1
  have h6 := u_store hfc hkC hkind hlay hi hdsc hn hfit
  refine va_WputK S.1 S.2.1 (f := f) S.2.2.2.2.2.2.1 (S.2.2.2.2.2.2.2.2.1.nest hlink) hi hst (by rw [q2]; exact h6) q1 q3 (by rw [hsl]; exact k2_hasslot (q4 k hk)) rfl rfl (S.dec hd) fun H' e1 e2 e3 => ?_
  rw [hsl] at e1 ⊢
  exact kk p l e R s m args below meth c H' _ cells slots ls S hl (hR.set e2 e3 (hR.2 a _ ha).1 ⟨_, hcl, t_OB.to (V := updV (vp_V fs) k v) ⟨_, e1, q2, q3, t_set q4 hap hk v⟩ (fun j _ => vp_updV_set hkl v j)⟩) (hS.put e2 e3 (hR.2 a _ ha).1) hc hs
/-- a private constructor of a nest mate -/
def on_CIN (M M2 : on_M) (idx n : Nat) : Prop := (∃ host : String, Cond.methodLinkNest (on_y M).cls idx (on_y M2) host ∈ on_W2 ∧ Cond.code (on_y M2) (on_cc M2) (on_nL M2) (on_rt M2) ∈ on_W ∧ Cond.initialized (on_y M2).cls ∈ on_W ∧ ((on_y M2).cls ≠ "java/lang/invoke/MethodHandle" ∧ (on_y M2).cls ≠ "java/lang/invoke/VarHandle" ∧ (parseMethodDescriptor (on_y M2).desc).map (fun d => d.parameters.length) = some n) ∧ on_fr M2 + 1 ≤ on_fr M ∧ 8 + (on_nL M2 + 11) + on_lo M2 ≤ on_lo M) ∧ (on_y M2).name = "<init>" ∧ on_rt M2 = none ∧ Cond.instanceMethod (on_y M2) ∈ on_W
theorem on_callIN {M2 : on_M} {idx n b mc ms : Nat} {As rest : List Value} {Q2 : Option Value → on_H → Nat → Prop} (hd : on_tb M pc = some (.invokespecial idx, 3)) (hp : pc + 3 = pc') (hC : on_CIN M M2 idx n) (hst : st = As.reverse ++ .ref b :: rest) (hn : As.length = n) (hrest : (rest.map fun v => v.category).sum ≤ 8) (hmc : mc ≤ bc) (hms : ms ≤ bs)
    (hM : on_Ct G M2 (.ref b :: As) h sz mc ms Q2) (k : ∀ (r : Option Value) (h1 : on_H) (sz1 : Nat), Q2 r h1 sz1 → on_E G M pc' lv (r.toList ++ rest) h1 sz1 (bc - mc) (bs - ms) Q) : on_E G M pc lv st h sz bc bs Q := by
  subst hp
  intro p l e R s m args below meth c H locs cells slots ls S hl hR hS hc hs
  obtain ⟨⟨host, c1, c2, c3, c4, c5, c6⟩, d1, d2, d3⟩ := hC
  have hts := S.2.2.2.2.2.2.2.1
  have hcn : va_CN R s args (on_y M).cls idx (on_y M2) host (on_cc M2) (on_nL M2) none (on_ws M2) (on_rm M2 mc ms) mc ms n := by
    have := va_cnB (ws' := on_W) (mc := mc) (ms := ms) (rm := on_rm M2 mc ms) n hts (on_good c2) rfl rfl rfl (S.2.2.2.2.2.2.2.2.1.2.2.1 _ c1) (hts _ c3) c4 (R := R) ⟨by rw [S.2.2.2.2.2.2.2.2.2.1]; exact c5, by rw [S.2.2.2.2.2.2.2.2.2.2.1]; exact c6⟩
    rw [d2] at this
    exact this
  refine on_after (va_runIN (Ts := on_W) (As := As) (rest := rest) (b := b) ⟨S.1, S.2.1, S.2.2.1, S.2.2.2.2.2.2.1, hts⟩ (hM l) ⟨hcn, d1, hts _ d3⟩ ⟨on_blind, on_pre S hR hS⟩ rfl hn hl.1 hst (by show 2 * 0 + _ ≤ 8; omega) (S.dec hd) ⟨by omega, by omega⟩) hS (fun r h1 sz1 H1 locs1 hq hR1 hS1 => ?_)
  exact k r h1 sz1 hq p l e R s m args below meth c H1 locs1 _ _ ls S hl hR1 hS1 (by omega) (by omega)
end ONX
