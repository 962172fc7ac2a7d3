/-! the reference's two words: the row of a constant, String.charAt -/
def on_CVs (M M2 : on_M) (idx n : Nat) : Prop := on_CB M M2 idx n ∧ Cond.instanceMethod (on_y M2) ∈ on_W ∧ Cond.selects (on_y M2).cls (on_y M2) (on_y M2) ∈ on_W ∧ (on_y M2).cls = "java/lang/String"
section ONY
variable {G : on_G} {M : on_M} {pc pc' : Nat} {lv : on_V} {st : List Value} {h : on_H} {sz bc bs : Nat} {Q : Option Value → on_H → Nat → Prop}
theorem on_ldcS {index i : Nat} (hd : on_tb M pc = some (.ldc index, 2)) (hp : pc + 2 = pc') (hm : (on_y M).cls = "OnionNetModel") (hi : (index = 147 ∧ i = 10) ∨ (index = 226 ∧ i = 11)) (k : on_E G M pc' lv (.ref (on_sa G i) :: st) h sz bc bs Q) : on_E G M pc lv st h sz bc bs Q := by
  subst hp
  intro p l e R s m args below meth c H locs cells slots ls S hl hR hS hc hs
  have hown := S.2.2.2.2.2.2.1
  rw [hm] at hown
  rcases hi with ⟨rfl, rfl⟩ | ⟨rfl, rfl⟩
  · exact va_ldcS S.1 S.2.1 hown S.sx.2.1 (S.dec hd) (k p l e R s m args below meth c H locs cells slots ls S hl hR hS hc hs)
  · exact va_ldcS S.1 S.2.1 hown S.sx.2.2.1 (S.dec hd) (k p l e R s m args below meth c H locs cells slots ls S hl hR hS hc hs)
theorem on_sval {index i : Nat} (hd : on_tb M pc = some (.getfield index, 3)) (hp : pc + 3 = pc') (hi : i < 2) (w1 : Cond.fieldLink (on_y M).cls index "java/lang/String" "value" "[B" ∈ on_W) (kk : on_E G M pc' lv (.ref (on_sa G (20 + i)) :: st) h sz bc bs Q) : on_E G M pc lv (.ref (on_sa G (10 + i)) :: st) h sz bc bs Q := by
  subst hp
  intro p l e R s m args below meth c H locs cells slots ls S hl hR hS hc hs
  exact vk_getf S.1 S.2.1 (S.sx.1.1 i hi).2.2.1 hS S.2.2.2.2.2.2.1 (S.2.2.2.2.2.2.2.1 _ w1) (fun _ x => x) (S.dec hd) (kk p l e R s m args below meth c H locs cells slots ls S hl hR hS hc hs)
theorem on_scod {index i : Nat} (hd : on_tb M pc = some (.getfield index, 3)) (hp : pc + 3 = pc') (hi : i < 2) (w1 : Cond.fieldLink (on_y M).cls index "java/lang/String" "coder" "B" ∈ on_W) (kk : on_E G M pc' lv (.int 0 :: st) h sz bc bs Q) : on_E G M pc lv (.ref (on_sa G (10 + i)) :: st) h sz bc bs Q := by
  subst hp
  intro p l e R s m args below meth c H locs cells slots ls S hl hR hS hc hs
  exact vk_getf S.1 S.2.1 (S.sx.1.1 i hi).2.1 hS S.2.2.2.2.2.2.1 (S.2.2.2.2.2.2.2.1 _ w1) (fun _ x => x) (S.dec hd) (kk p l e R s m args below meth c H locs cells slots ls S hl hR hS hc hs)
theorem on_gsZ {index : Nat} (hd : on_tb M pc = some (.getstatic index, 3)) (hp : pc + 3 = pc') (w1 : Cond.fieldLink (on_y M).cls index "java/lang/String" "COMPACT_STRINGS" "Z" ∈ on_W) (kk : on_E G M pc' lv (.int 1 :: st) h sz bc bs Q) : on_E G M pc lv st h sz bc bs Q := by
  subst hp
  intro p l e R s m args below meth c H locs cells slots ls S hl hR hS hc hs
  exact va_gets S.1 S.2.1 S.sx.2.2.2.1 hS S.2.2.2.2.2.2.1 (S.2.2.2.2.2.2.2.1 _ w1) (fun _ x => x) (S.dec hd) (kk p l e R s m args below meth c H locs cells slots ls S hl hR hS hc hs)
theorem on_gsF {index : Nat} (hd : on_tb M pc = some (.getstatic index, 3)) (hp : pc + 3 = pc') (w1 : Cond.fieldLink (on_y M).cls index "jdk/internal/util/Preconditions" "SIOOBE_FORMATTER" "Ljava/util/function/BiFunction;" ∈ on_W) (kk : ∀ r : Option Nat, on_E G M pc' lv (va_rf r :: st) h sz bc bs Q) : on_E G M pc lv st h sz bc bs Q := by
  subst hp
  intro p l e R s m args below meth c H locs cells slots ls S hl hR hS hc hs
  obtain ⟨r, hr⟩ := S.sx.2.2.2.2
  exact va_gets S.1 S.2.1 hr hS S.2.2.2.2.2.2.1 (S.2.2.2.2.2.2.2.1 _ w1) (fun _ x => x) (S.dec hd) (kk r p l e R s m args below meth c H locs cells slots ls S hl hR hS hc hs)
theorem on_stlen {i : Nat} {v : Int32} (hd : on_tb M pc = some (.arraylength, 1)) (hp : pc + 1 = pc') (hi : i < 2) (hv : Int32.ofNat (on_sxl.getD i 0) = v) (kk : on_E G M pc' lv (.int v :: st) h sz bc bs Q) : on_E G M pc lv (.ref (on_sa G (20 + i)) :: st) h sz bc bs Q := by
  subst hp
  intro p l e R s m args below meth c H locs cells slots ls S hl hR hS hc hs
  exact va_tlen S.1 S.2.1 (S.sx.1.1 i hi).2.2.2 hS hv (S.dec hd) (kk p l e R s m args below meth c H locs cells slots ls S hl hR hS hc hs)
theorem on_stb {i j : Nat} (hd : on_tb M pc = some (.baload, 1)) (hp : pc + 1 = pc') (hi : i < 2) (hj : j < on_sxl.getD i 0 ∧ on_sxl.getD i 0 < 2 ^ 31) (kk : on_E G M pc' lv (.int ((on_sxb.getD i []).getD j 0) :: st) h sz bc bs Q) : on_E G M pc lv (.int (nI j) :: .ref (on_sa G (20 + i)) :: st) h sz bc bs Q := by
  subst hp
  intro p l e R s m args below meth c H locs cells slots ls S hl hR hS hc hs
  exact va_tb S.1 S.2.1 (S.sx.1.1 i hi).2.2.2 hS (vp_in_nI hj.1 hj.2) (by rw [nI_clamp (by omega)]) (S.dec hd) (kk p l e R s m args below meth c H locs cells slots ls S hl hR hS hc hs)
theorem on_creturn {v : Int32} (hd : on_tb M pc = some (.ireturn, 1)) (hrt : on_rt M = some .char) (hn : narrow .char (.int v) = .int v) (hq : Q (some (.int v)) h sz) : on_E G M pc lv [.int v] h sz bc bs Q := by
  intro p l e R s m args below meth c H locs cells slots ls S hl hR hS hc hs
  refine W.widen (k := R.cells) (n := R.slots) (by omega) (by omega) ?_
  exact W.zret (v := v) S.1 S.2.1 (S.2.2.2.1.trans hrt) hn (fun t ht hW => ⟨⟨_, h, sz, rfl, hq, by rw [ht]; exact hR⟩, hS.F ht⟩) hS.2.2 (S.dec hd) S.2.2.2.2.1
theorem on_callVs {M2 : on_M} {idx n i mc ms : Nat} {As rest : List Value} {Q2 : Option Value → on_H → Nat → Prop} (hd : on_tb M pc = some (.invokevirtual idx, 3)) (hp : pc + 3 = pc') (hC : on_CVs M M2 idx n) (hi : i < 2) (hst : st = As.reverse ++ .ref (on_sa G (10 + i)) :: rest) (hn : As.length = n) (hrest : (rest.map fun v => v.category).sum ≤ 8) (hmc : mc ≤ bc) (hms : ms ≤ bs)
    (hM : on_Ct G M2 (.ref (on_sa G (10 + i)) :: As) h sz mc ms Q2) (k : ∀ (r : Option Value) (h1 : on_H) (sz1 : Nat), Q2 r h1 sz1 → on_E G M pc' lv (r.toList ++ rest) h1 sz1 (bc - mc) (bs - ms) Q) : on_E G M pc lv st h sz bc bs Q := by
  subst hp
  intro p l e R s m args below meth c H locs cells slots ls S hl hR hS hc hs
  obtain ⟨hCB, c1, c2, c3⟩ := hC
  have hts := S.2.2.2.2.2.2.2.1
  have hrecv := vk_recv (i := i) S.sx.1 hi hS
  rw [← c3] at hrecv
  refine on_after (va_runV (C := (on_y M2).cls) (Ts := on_W) (As := As) (rest := rest) ⟨S.1, S.2.1, S.2.2.1, S.2.2.2.2.2.2.1, hts⟩ (hM l) ⟨on_callB S hCB, hts _ c1, hts _ c2⟩ ⟨on_blind, hrecv, on_pre S hR hS⟩ rfl hn hl.1 hst (by show 2 * 0 + _ ≤ 8; omega) (S.dec hd) ⟨by omega, by omega⟩) hS (fun r h1 sz1 H1 locs1 hq hR1 hS1 => ?_)
  exact k r h1 sz1 hq p l e R s m args below meth c H1 locs1 _ _ ls S hl hR1 hS1 (by omega) (by omega)
end ONY
