/-! the reference's circuits: one stream changes -/
def cs_s (q : aC) (i : Nat) (t : aT) : aC := (q.cl, q.nu, q.pa, q.hp, q.ph, q.la, q.x, q.st.set i t)
theorem mq_T.set {st : List aT} {IS WI CA WT WC GT GC IS2 WI2 CA2 WT2 WC2 GT2 GC2 : Nat → Int32} {i : Nat} {t : aT} (T : mq_T st IS WI CA WT WC GT GC) (hi : i < st.length) (e1 : ∀ j, j ≠ i → IS2 j = IS j ∧ WI2 j = WI j ∧ CA2 j = CA j ∧ WC2 j = WC j ∧ GC2 j = GC j) (ew : ∀ j, j ≠ i → ∀ l, l < 400 → WT2 (400 * j + l) = WT (400 * j + l)) (eg : ∀ j, j ≠ i → ∀ l, l < 2000 → GT2 (2000 * j + l) = GT (2000 * j + l)) (n1 : IS2 i = nI t.ph ∧ t.ph ≤ 2 ∧ WI2 i = t.wi) (n2 : CA2 i = t.ca ∧ WC2 i = nI t.wa.length ∧ t.wa.length ≤ 400 ∧ GC2 i = nI t.go.length ∧ t.go.length ≤ 2000 ∧ (∀ j, j < t.wa.length → WT2 (400 * i + j) = nI (t.wa.getD j 0) ∧ t.wa.getD j 0 < 256) ∧ (∀ j, j < t.go.length → GT2 (2000 * i + j) = nI (t.go.getD j 0) ∧ t.go.getD j 0 < 256)) : mq_T (st.set i t) IS2 WI2 CA2 WT2 WC2 GT2 GC2 := by
  obtain ⟨l4, a, b⟩ := T
  refine ⟨by rw [List.length_set]; exact l4, fun j hj => ?_, fun j hj => ?_⟩
  · rw [List.length_set] at hj
    rw [getD_set hi]
    by_cases z : j = i
    · rw [if_pos z, z]
      exact n1
    · obtain ⟨c1, c2, -⟩ := e1 j z
      rw [if_neg z, c1, c2]
      exact a j hj
  · rw [getD_set hi]
    by_cases z : j = i
    · rw [if_pos z, z]
      exact n2
    · obtain ⟨c1, c2, c3, c4, c5⟩ := e1 j z
      obtain ⟨d1, d2, d3, d4, d5, d6, d7⟩ := b j hj
      rw [if_neg z]
      exact ⟨c3.trans d1, c4.trans d2, d3, c5.trans d4, d5, fun l hl => by rw [ew j z l (by omega)]; exact d6 l hl, fun l hl => by rw [eg j z l (by omega)]; exact d7 l hl⟩
section MST
variable {G : on_G} {o c cl nr nk B i sz bc bs : Nat} {x3 : Int32 × Int32 × Int32} {F : Nat → Option Nat} {rs : Nat → aR} {SD : Nat → Int64} {D0 : Nat → Int32} {lk lk2 : Nat → List aB} {q q2 : aC} {k k2 : aK} {h h1 : on_H} {Q : Option Value → on_H → Nat → Prop} {t : aT}
theorem mC.str (K : mC o c cl nr x3 F rs SD D0 lk q k h) (R : mq_R c (q.st.set i t) h1) (e : ∀ b, (b < c + 4 ∨ c + 11 ≤ b) → h1 b = h b) : mC o c cl nr x3 F rs SD D0 lk (cs_s q i t) k h1 ∧ mf_C o c h h1 := by
  obtain ⟨W, KL, C, k4, k5, k6, k7, k8, k9, k10, k11⟩ := id K
  refine K.chg (h1 := h1) (lk2 := lk) (k2 := k) (W.keep (fun a _ _ _ => e a (by omega))) (KL.keep (e _ (by omega)) (e _ (by omega))) ⟨?_, C.2.1.keep (e _ (by omega)), C.2.2.1.keep k11 (e _ (by omega)) (fun a _ _ => e a (by omega)), C.2.2.2.1.keep (e _ (by omega)), R⟩ ((e _ (by omega)).trans k8) rfl rfl k11 (fun a _ _ => e a (by omega))
  show h1 c = some (.inr (16, [.int (nI (8 + q.cl)), .int (nI q.nu), .ref (c + 1), .int (nI q.pa.length), .int (nI q.hp), .int (nI q.ph), .ref (c + 2), .ref (c + 3), .int (nI (q.st.set i t).length), .ref (c + 4), .ref (c + 5), .ref (c + 6), .ref (c + 7), .ref (c + 8), .ref (c + 9), .ref (c + 10)]))
  rw [List.length_set]
  exact (e c (by omega)).trans C.1
/-- its phase -/
theorem mC.sis {IS : Nat → Int32} {v : Nat} (K : mC o c cl nr x3 F rs SD D0 lk q k h) (hi : i < q.st.length) (hr : h (c + 4) = some (on_ai 0 4 IS)) (hv : v ≤ 2) (e : h1 = on_up h (c + 4) (on_ai 0 4 (upd IS i (nI v)))) : mC o c cl nr x3 F rs SD D0 lk (cs_s q i (v, (q.st.getD i t0).wi, (q.st.getD i t0).ca, (q.st.getD i t0).wa, (q.st.getD i t0).go)) k h1 ∧ mf_C o c h h1 := by
  subst e
  obtain ⟨IS', WI, CA, WT, WC, GT, GC, ⟨r1, r2, r3, r4, r5, r6, r7⟩, T⟩ := K.2.2.1.2.2.2.2
  cases hr.symm.trans r1
  refine K.str ⟨upd IS i (nI v), WI, CA, WT, WC, GT, GC, ⟨on_up_eq _ _ _, (on_up_ne (by omega)).trans r2, (on_up_ne (by omega)).trans r3, (on_up_ne (by omega)).trans r4, (on_up_ne (by omega)).trans r5, (on_up_ne (by omega)).trans r6, (on_up_ne (by omega)).trans r7⟩, ?_⟩ (fun b hb => on_up_ne (by omega))
  exact T.set hi (fun j hj => ⟨pk_un hj, rfl, rfl, rfl, rfl⟩) (fun _ _ _ _ => rfl) (fun _ _ _ _ => rfl) ⟨pk_us, hv, (T.2.1 i hi).2.2⟩ (T.2.2 i (by have := T.1; omega))
/-- its window -/
theorem mC.swi {WI : Nat → Int32} {v : Int32} (K : mC o c cl nr x3 F rs SD D0 lk q k h) (hi : i < q.st.length) (hr : h (c + 5) = some (on_ai 0 4 WI)) (e : h1 = on_up h (c + 5) (on_ai 0 4 (upd WI i v))) : mC o c cl nr x3 F rs SD D0 lk (cs_s q i ((q.st.getD i t0).ph, v, (q.st.getD i t0).ca, (q.st.getD i t0).wa, (q.st.getD i t0).go)) k h1 ∧ mf_C o c h h1 := by
  subst e
  obtain ⟨IS, WI', CA, WT, WC, GT, GC, ⟨r1, r2, r3, r4, r5, r6, r7⟩, T⟩ := K.2.2.1.2.2.2.2
  cases hr.symm.trans r2
  refine K.str ⟨IS, upd WI i v, CA, WT, WC, GT, GC, ⟨(on_up_ne (by omega)).trans r1, on_up_eq _ _ _, (on_up_ne (by omega)).trans r3, (on_up_ne (by omega)).trans r4, (on_up_ne (by omega)).trans r5, (on_up_ne (by omega)).trans r6, (on_up_ne (by omega)).trans r7⟩, ?_⟩ (fun b hb => on_up_ne (by omega))
  exact T.set hi (fun j hj => ⟨rfl, pk_un hj, rfl, rfl, rfl⟩) (fun _ _ _ _ => rfl) (fun _ _ _ _ => rfl) ⟨(T.2.1 i hi).1, (T.2.1 i hi).2.1, pk_us⟩ (T.2.2 i (by have := T.1; omega))
/-- how many came -/
theorem mC.sca {CA : Nat → Int32} {v : Int32} (K : mC o c cl nr x3 F rs SD D0 lk q k h) (hi : i < q.st.length) (hr : h (c + 6) = some (on_ai 0 4 CA)) (e : h1 = on_up h (c + 6) (on_ai 0 4 (upd CA i v))) : mC o c cl nr x3 F rs SD D0 lk (cs_s q i ((q.st.getD i t0).ph, (q.st.getD i t0).wi, v, (q.st.getD i t0).wa, (q.st.getD i t0).go)) k h1 ∧ mf_C o c h h1 := by
  subst e
  obtain ⟨IS, WI, CA', WT, WC, GT, GC, ⟨r1, r2, r3, r4, r5, r6, r7⟩, T⟩ := K.2.2.1.2.2.2.2
  cases hr.symm.trans r3
  obtain ⟨d1, d2⟩ := T.2.2 i (by have := T.1; omega)
  refine K.str ⟨IS, WI, upd CA i v, WT, WC, GT, GC, ⟨(on_up_ne (by omega)).trans r1, (on_up_ne (by omega)).trans r2, on_up_eq _ _ _, (on_up_ne (by omega)).trans r4, (on_up_ne (by omega)).trans r5, (on_up_ne (by omega)).trans r6, (on_up_ne (by omega)).trans r7⟩, ?_⟩ (fun b hb => on_up_ne (by omega))
  exact T.set hi (fun j hj => ⟨rfl, rfl, pk_un hj, rfl, rfl⟩) (fun _ _ _ _ => rfl) (fun _ _ _ _ => rfl) (T.2.1 i hi) ⟨pk_us, d2⟩
/-- one more byte was got -/
theorem mC.sgo {GT GC : Nat → Int32} {n b : Nat} {v : Int32} (K : mC o c cl nr x3 F rs SD D0 lk q k h) (hi : i < q.st.length) (hr : h (c + 9) = some (on_ai 0 8000 GT)) (hr2 : h (c + 10) = some (on_ai 0 4 GC)) (hn : n = (q.st.getD i t0).go.length) (hn2 : n < 2000) (hv : v = nI b) (hb : b < 256) (e : h1 = on_up (on_up h (c + 9) (on_ai 0 8000 (upd GT (2000 * i + n) v))) (c + 10) (on_ai 0 4 (upd GC i (nI (n + 1))))) : mC o c cl nr x3 F rs SD D0 lk (cs_s q i ((q.st.getD i t0).ph, (q.st.getD i t0).wi, (q.st.getD i t0).ca, (q.st.getD i t0).wa, (q.st.getD i t0).go ++ [b])) k h1 ∧ mf_C o c h h1 := by
  subst e
  obtain ⟨IS, WI, CA, WT, WC, GT', GC', ⟨r1, r2, r3, r4, r5, r6, r7⟩, T⟩ := K.2.2.1.2.2.2.2
  cases hr.symm.trans r6
  cases hr2.symm.trans r7
  obtain ⟨d1, d2, d3, d4, d5, d6, d7⟩ := T.2.2 i (by have := T.1; omega)
  have t : ∀ a, a ≠ c + 9 → a ≠ c + 10 → on_up (on_up h (c + 9) (on_ai 0 8000 (upd GT (2000 * i + n) v))) (c + 10) (on_ai 0 4 (upd GC i (nI (n + 1)))) a = h a := fun a a1 a2 => (on_up_ne a2).trans (on_up_ne a1)
  have len : ((q.st.getD i t0).go ++ [b]).length = n + 1 := by rw [List.length_append, ← hn]; rfl
  refine K.str ⟨IS, WI, CA, WT, WC, upd GT (2000 * i + n) v, upd GC i (nI (n + 1)), ⟨(t _ (by omega) (by omega)).trans r1, (t _ (by omega) (by omega)).trans r2, (t _ (by omega) (by omega)).trans r3, (t _ (by omega) (by omega)).trans r4, (t _ (by omega) (by omega)).trans r5, (on_up_ne (by omega)).trans (on_up_eq _ _ _), on_up_eq _ _ _⟩, ?_⟩ (fun b hb => t b (by omega) (by omega))
  refine T.set hi (fun j hj => ⟨rfl, rfl, rfl, rfl, pk_un hj⟩) (fun _ _ _ _ => rfl) (fun j hj l hl => pk_un (by omega)) (T.2.1 i hi) ⟨d1, d2, d3, ?_, ?_, d6, fun j hj => ?_⟩
  · show _ = nI ((q.st.getD i t0).go ++ [b]).length
    rw [len, pk_us]
  · show ((q.st.getD i t0).go ++ [b]).length ≤ 2000
    omega
  · have hj : j < ((q.st.getD i t0).go ++ [b]).length := hj
    rw [len] at hj
    show upd GT (2000 * i + n) v (2000 * i + j) = nI (((q.st.getD i t0).go ++ [b]).getD j 0) ∧ ((q.st.getD i t0).go ++ [b]).getD j 0 < 256
    rw [getD_snoc, ← hn]
    by_cases z : j = n
    · rw [z, pk_us, if_neg (Nat.lt_irrefl _), if_pos rfl]
      exact ⟨hv, hb⟩
    · rw [pk_un (by omega), if_pos (by omega)]
      exact d7 j (by omega)
end MST
