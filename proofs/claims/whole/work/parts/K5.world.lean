/-! the world at the law's entry -/
section STW
variable {s : State} {args : Array Value}
set_option maxRecDepth 100000 in
theorem st_arr {ty : FieldType} (h : (Cond.arrayClass ty).before args s = true) : ∃ cA : ClassId, ArrOfT s cA ty ∧ s.vm.findClass ("[" ++ ty.toString) = some cA := by
  obtain ⟨c, k, comp, h1, h2, h3⟩ := Cond.arrayClass_spec h
  exact ⟨c, fun n z => ⟨fun k e => (by cases e), k, h2, comp, h3⟩, h1⟩
set_option maxRecDepth 100000 in
theorem st_obj {C : String} (h : (Cond.arrayOver (.object C)).before args s = true) : ∃ cA : ClassId, ArrOfT s cA (.object C) ∧ va_RA s cA (.object C) := by
  obtain ⟨comp, c, k, h1, h2, h3, h4, h5⟩ := Cond.arrayOver_spec h
  exact ⟨c, fun n z => ⟨fun k e => (by cases e), k, h3, comp, h4⟩, k, comp, h3, h4, h1, h5⟩
set_option maxRecDepth 100000 in
theorem st_aa {t : FieldType} (h : (Cond.arrayOver (.array t)).before args s = true) : ∃ (comp c : ClassId) (k : Class), s.vm.findClass (FieldType.array t).toString = some comp ∧ s.vm.classes[c]? = some k ∧ k.kind = .array comp (.array t) ∧ s.vm.findClass ("[" ++ (FieldType.array t).toString) = some c := by
  unfold Cond.before at h
  simp only [Cond.holds, Cond.value, beq_iff_eq] at h
  cases hc : s.vm.findClass (FieldType.array t).toString with
  | none => rw [hc] at h; simp at h
  | some comp =>
    rw [hc] at h
    simp only [Option.bind_some, Option.bind_eq_some_iff, Option.map_eq_some_iff] at h
    obtain ⟨c, g1, k, g2, g3⟩ := h
    obtain ⟨hlt, g4, -⟩ := Array.findIdx?_eq_some_iff_getElem.mp g1
    have e := (Array.getElem?_eq_some_iff.mp g2).2
    rw [e] at g4
    cases hk : k.kind with
    | array component ty =>
      rw [hk] at g3 g4
      simp at g3 g4
      refine ⟨comp, c, k, rfl, g2, ?_, g3.2⟩
      rw [hk, g4, g3.1]
    | _ => rw [hk] at g3; simp at g3
set_option maxRecDepth 100000 in
theorem st_cls (hts : ∀ w ∈ on_W, w.before args s = true) : ∃ (dC : Nat → ClassId) (dI : Nat → Nat → Nat), ∀ (k : Nat) (q : vw_C), on_cl[k]? = some q → u_Kn s q.1 q.2.1 q.2.2 (dC k) (dI k) := by
  have h0 : ∀ k : Nat, ∃ x : ClassId × (Nat → Nat), ∀ q : vw_C, on_cl[k]? = some q → u_Kn s q.1 q.2.1 q.2.2 x.1 x.2 := by
    intro k
    match k with
    | 0 =>
      obtain ⟨c, i, hk⟩ := u_known (C := R_Sha) (T := T_Sha) (N := 3) (n := 3) hts i_Sha (hts (.instantiable R_Sha 3) (on_w 149 rfl rfl))
      exact ⟨(c, i), fun q hq => by cases hq; exact hk⟩
    | 1 =>
      obtain ⟨c, i, hk⟩ := u_known (C := R_Curve) (T := T_Curve) (N := 11) (n := 11) hts i_Curve (hts (.instantiable R_Curve 11) (on_w 166 rfl rfl))
      exact ⟨(c, i), fun q hq => by cases hq; exact hk⟩
    | 2 =>
      obtain ⟨c, i, hk⟩ := u_known (C := R_Lane) (T := T_Lane) (N := 7) (n := 7) hts i_Lane (hts (.instantiable R_Lane 7) (on_w 357 rfl rfl))
      exact ⟨(c, i), fun q hq => by cases hq; exact hk⟩
    | 3 =>
      obtain ⟨c, i, hk⟩ := u_known (C := R_Handshake) (T := T_Handshake) (N := 13) (n := 13) hts i_Handshake (hts (.instantiable R_Handshake 13) (on_w 143 rfl rfl))
      exact ⟨(c, i), fun q hq => by cases hq; exact hk⟩
    | 4 =>
      obtain ⟨c, i, hk⟩ := u_known (C := R_Node) (T := T_Node) (N := 4) (n := 4) hts i_Node (hts (.instantiable R_Node 4) (on_w 321 rfl rfl))
      exact ⟨(c, i), fun q hq => by cases hq; exact hk⟩
    | 5 =>
      obtain ⟨c, i, hk⟩ := u_known (C := R_Link) (T := T_Link) (N := 3) (n := 3) hts i_Link (hts (.instantiable R_Link 3) (on_w 568 rfl rfl))
      exact ⟨(c, i), fun q hq => by cases hq; exact hk⟩
    | 6 =>
      obtain ⟨c, i, hk⟩ := u_known (C := R_Outbox) (T := T_Outbox) (N := 4) (n := 4) hts i_Outbox (hts (.instantiable R_Outbox 4) (on_w 255 rfl rfl))
      exact ⟨(c, i), fun q hq => by cases hq; exact hk⟩
    | 7 =>
      obtain ⟨c, i, hk⟩ := u_known (C := R_Entry) (T := T_Entry) (N := 13) (n := 13) hts i_Entry (hts (.instantiable R_Entry 13) (on_w 351 rfl rfl))
      exact ⟨(c, i), fun q hq => by cases hq; exact hk⟩
    | 8 =>
      obtain ⟨c, i, hk⟩ := u_known (C := R_Relay) (T := T_Relay) (N := 10) (n := 10) hts i_Relay (hts (.instantiable R_Relay 10) (on_w 320 rfl rfl))
      exact ⟨(c, i), fun q hq => by cases hq; exact hk⟩
    | 9 =>
      obtain ⟨c, i, hk⟩ := u_known (C := R_Circuit) (T := T_Circuit) (N := 12) (n := 12) hts i_Circuit (hts (.instantiable R_Circuit 12) (on_w 624 rfl rfl))
      exact ⟨(c, i), fun q hq => by cases hq; exact hk⟩
    | 10 =>
      obtain ⟨c, i, hk⟩ := u_known (C := R_Stream) (T := T_Stream) (N := 8) (n := 8) hts i_Stream (hts (.instantiable R_Stream 8) (on_w 730 rfl rfl))
      exact ⟨(c, i), fun q hq => by cases hq; exact hk⟩
    | 11 =>
      obtain ⟨c, i, hk⟩ := u_known (C := R_N) (T := T_N) (N := 11) (n := 11) hts i_N (hts (.instantiable R_N 11) (on_w 127 rfl rfl))
      exact ⟨(c, i), fun q hq => by cases hq; exact hk⟩
    | 12 =>
      obtain ⟨c, i, hk⟩ := u_known (C := R_MSha) (T := T_MSha) (N := 3) (n := 3) hts i_MSha (hts (.instantiable R_MSha 3) (on_w 1105 rfl rfl))
      exact ⟨(c, i), fun q hq => by cases hq; exact hk⟩
    | 13 =>
      obtain ⟨c, i, hk⟩ := u_known (C := R_MLayer) (T := T_MLayer) (N := 6) (n := 6) hts i_MLayer (hts (.instantiable R_MLayer 6) (on_w 1441 rfl rfl))
      exact ⟨(c, i), fun q hq => by cases hq; exact hk⟩
    | 14 =>
      obtain ⟨c, i, hk⟩ := u_known (C := R_MEntry) (T := T_MEntry) (N := 11) (n := 11) hts i_MEntry (hts (.instantiable R_MEntry 11) (on_w 1435 rfl rfl))
      exact ⟨(c, i), fun q hq => by cases hq; exact hk⟩
    | 15 =>
      obtain ⟨c, i, hk⟩ := u_known (C := R_MRelay) (T := T_MRelay) (N := 11) (n := 11) hts i_MRelay (hts (.instantiable R_MRelay 11) (on_w 1252 rfl rfl))
      exact ⟨(c, i), fun q hq => by cases hq; exact hk⟩
    | 16 =>
      obtain ⟨c, i, hk⟩ := u_known (C := R_MCircuit) (T := T_MCircuit) (N := 16) (n := 16) hts i_MCircuit (hts (.instantiable R_MCircuit 16) (on_w 1544 rfl rfl))
      exact ⟨(c, i), fun q hq => by cases hq; exact hk⟩
    | 17 =>
      obtain ⟨c, i, hk⟩ := u_known (C := R_M) (T := T_M) (N := 38) (n := 38) hts i_M (hts (.instantiable R_M 38) (on_w 1094 rfl rfl))
      exact ⟨(c, i), fun q hq => by cases hq; exact hk⟩
    | k + 18 => exact ⟨(0, fun _ => 0), fun q hq => by simp at hq⟩
  obtain ⟨f, hf⟩ := Classical.axiomOfChoice h0
  exact ⟨fun k => (f k).1, fun k => (f k).2, hf⟩
set_option maxRecDepth 100000 in
theorem st_ty (hts : ∀ w ∈ on_W, w.before args s = true) (hts2 : ∀ w ∈ on_W2, w.before args s = true) : ∃ dA : Nat → ClassId, (∀ (t : Nat) (ty : FieldType), on_tyl[t]? = some ty → ArrOfT s (dA t) ty ∧ va_RA s (dA t) ty) ∧ ∃ kA : Class, s.vm.classes[dA 3]? = some kA ∧ kA.kind = .array (dA 0) (.array .int) := by
  obtain ⟨comp, c3, k3, a1, a2, a3, a4⟩ := st_aa (hts2 (.arrayOver (.array .int)) (on_w2 261 rfl rfl))
  have h0 : ∀ t : Nat, ∃ x : ClassId, ∀ ty : FieldType, on_tyl[t]? = some ty → ArrOfT s x ty ∧ va_RA s x ty := by
    intro t
    match t with
    | 0 =>
      obtain ⟨c, g1, g2⟩ := st_arr (hts (.arrayClass .int) (on_w 164 rfl rfl))
      exact ⟨c, fun ty hq => by cases hq; exact ⟨g1, g2⟩⟩
    | 1 =>
      obtain ⟨c, g1, g2⟩ := st_arr (hts (.arrayClass .long) (on_w 206 rfl rfl))
      exact ⟨c, fun ty hq => by cases hq; exact ⟨g1, g2⟩⟩
    | 2 =>
      obtain ⟨c, g1, g2⟩ := st_arr (hts (.arrayClass .boolean) (on_w 281 rfl rfl))
      exact ⟨c, fun ty hq => by cases hq; exact ⟨g1, g2⟩⟩
    | 3 =>
      exact ⟨c3, fun ty hq => by cases hq; exact ⟨fun n z => ⟨fun k e => (by cases e), k3, a2, comp, a3⟩, a4⟩⟩
    | 4 =>
      obtain ⟨c, g⟩ := st_obj (hts2 (.arrayOver (.object "OnionNet$Relay")) (on_w2 135 rfl rfl))
      exact ⟨c, fun ty hq => by cases hq; exact g⟩
    | 5 =>
      obtain ⟨c, g⟩ := st_obj (hts2 (.arrayOver (.object "OnionNet$Entry")) (on_w2 350 rfl rfl))
      exact ⟨c, fun ty hq => by cases hq; exact g⟩
    | 6 =>
      obtain ⟨c, g⟩ := st_obj (hts2 (.arrayOver (.object "OnionNet$Lane")) (on_w2 632 rfl rfl))
      exact ⟨c, fun ty hq => by cases hq; exact g⟩
    | 7 =>
      obtain ⟨c, g⟩ := st_obj (hts2 (.arrayOver (.object "OnionNet$Stream")) (on_w2 630 rfl rfl))
      exact ⟨c, fun ty hq => by cases hq; exact g⟩
    | 8 =>
      obtain ⟨c, g⟩ := st_obj (hts2 (.arrayOver (.object "OnionNet$Node")) (on_w2 137 rfl rfl))
      exact ⟨c, fun ty hq => by cases hq; exact g⟩
    | 9 =>
      obtain ⟨c, g⟩ := st_obj (hts2 (.arrayOver (.object "OnionNet$Circuit")) (on_w2 139 rfl rfl))
      exact ⟨c, fun ty hq => by cases hq; exact g⟩
    | 10 =>
      obtain ⟨c, g⟩ := st_obj (hts2 (.arrayOver (.object "OnionNet$Link")) (on_w2 141 rfl rfl))
      exact ⟨c, fun ty hq => by cases hq; exact g⟩
    | 11 =>
      obtain ⟨c, g⟩ := st_obj (hts2 (.arrayOver (.object "OnionNetModel$Entry")) (on_w2 1258 rfl rfl))
      exact ⟨c, fun ty hq => by cases hq; exact g⟩
    | 12 =>
      obtain ⟨c, g⟩ := st_obj (hts2 (.arrayOver (.object "OnionNetModel$Layer")) (on_w2 1550 rfl rfl))
      exact ⟨c, fun ty hq => by cases hq; exact g⟩
    | 13 =>
      obtain ⟨c, g⟩ := st_obj (hts2 (.arrayOver (.object "OnionNetModel$Relay")) (on_w2 1100 rfl rfl))
      exact ⟨c, fun ty hq => by cases hq; exact g⟩
    | 14 =>
      obtain ⟨c, g⟩ := st_obj (hts2 (.arrayOver (.object "OnionNetModel$Circuit")) (on_w2 1102 rfl rfl))
      exact ⟨c, fun ty hq => by cases hq; exact g⟩
    | t + 15 => exact ⟨0, fun ty hq => by simp at hq⟩
  obtain ⟨f, hf⟩ := Classical.axiomOfChoice h0
  refine ⟨f, hf, k3, ?_, ?_⟩
  · have e3 : s.vm.findClass ("[" ++ (FieldType.array FieldType.int).toString) = some (f 3) := (hf 3 _ rfl).2
    rw [a4] at e3
    rw [← Option.some.inj e3]
    exact a2
  · have e0 : s.vm.findClass ("[" ++ FieldType.int.toString) = some (f 0) := (hf 0 _ rfl).2
    have e1 : s.vm.findClass ("[" ++ FieldType.int.toString) = some comp := a1
    rw [e1] at e0
    rw [← Option.some.inj e0]
    exact a3
set_option maxRecDepth 100000 in
theorem st_nest (hts2 : ∀ w ∈ on_W2, w.before args s = true) : ∀ w ∈ on_W2, va_Nw w s := by
  intro w hw
  have h1 := hts2 w hw
  have h2 := (List.mem_filter.mp hw).2
  cases w with
  | fieldLinkNest a i b n d x => exact va_Nw.of rfl h1
  | methodLinkNest a i x y => exact va_Nw.of rfl h1
  | arrayOver t =>
    cases t with
    | object C => exact va_AO.of h1
    | array t => exact h1
    | _ => simp [on_W2k] at h2
  | _ => simp [on_W2k] at h2
def lw_N : List Cond := flatC (Jvm.Cond.and given_1 narrow_1)
set_option maxRecDepth 100000 in
theorem ln_0a : Cond.arrayOf (.static "OnionNet$Sha" "START" "[I") .int ∈ lw_N ∧ Cond.eq (.length (.static "OnionNet$Sha" "START" "[I")) (.int 8) ∈ lw_N := by decide +kernel
set_option maxRecDepth 100000 in
theorem ln_0e : ∀ j, j < 8 → Cond.eq (.elem (.static "OnionNet$Sha" "START" "[I") (.int (Int32.ofNat j))) (.int (on_st0.getD j 0)) ∈ lw_N := by decide +kernel
set_option maxRecDepth 100000 in
theorem st_s0 {A : Nat → Prop} (hts : ∀ w ∈ lw_tbl, w.before args s = true) (hs : ∀ w ∈ lw_N, w.before args s = true) (hA : ∀ a : Nat, a < s.heap.size → ¬ A a) : ∃ t : Nat, va_Z "OnionNet$Sha" "START" "[I" (.ref t) A s s.heap ∧ va_T .int t on_st0.length (fun j => .int (on_st0.getD j 0)) A s s.heap := by
  obtain ⟨t, h1, h2⟩ := va_Tof (tm := .static "OnionNet$Sha" "START" "[I") (ty := .int) (N := 8) (f := fun j => .int (on_st0.getD j 0)) (A := A) (by decide) (hs _ ln_0a.1) (va_eqt (hs _ ln_0a.2)) (fun j hj => va_eqt (hs _ (ln_0e j hj))) hA
  exact ⟨t, va_Zof (hts (.laysStatic "OnionNet$Sha" "START" "[I") (List.mem_of_getElem? (i := 492) rfl)) (hts (.initialized "OnionNet$Sha") (List.mem_of_getElem? (i := 103) rfl)) h1 hA, h2⟩
set_option maxRecDepth 100000 in
theorem ln_1a : Cond.arrayOf (.static "OnionNet$Sha" "ROUNDS" "[I") .int ∈ lw_N ∧ Cond.eq (.length (.static "OnionNet$Sha" "ROUNDS" "[I")) (.int 64) ∈ lw_N := by decide +kernel
set_option maxRecDepth 100000 in
theorem ln_1e : ∀ j, j < 64 → Cond.eq (.elem (.static "OnionNet$Sha" "ROUNDS" "[I") (.int (Int32.ofNat j))) (.int (on_st1.getD j 0)) ∈ lw_N := by decide +kernel
set_option maxRecDepth 100000 in
theorem st_s1 {A : Nat → Prop} (hts : ∀ w ∈ lw_tbl, w.before args s = true) (hs : ∀ w ∈ lw_N, w.before args s = true) (hA : ∀ a : Nat, a < s.heap.size → ¬ A a) : ∃ t : Nat, va_Z "OnionNet$Sha" "ROUNDS" "[I" (.ref t) A s s.heap ∧ va_T .int t on_st1.length (fun j => .int (on_st1.getD j 0)) A s s.heap := by
  obtain ⟨t, h1, h2⟩ := va_Tof (tm := .static "OnionNet$Sha" "ROUNDS" "[I") (ty := .int) (N := 64) (f := fun j => .int (on_st1.getD j 0)) (A := A) (by decide) (hs _ ln_1a.1) (va_eqt (hs _ ln_1a.2)) (fun j hj => va_eqt (hs _ (ln_1e j hj))) hA
  exact ⟨t, va_Zof (hts (.laysStatic "OnionNet$Sha" "ROUNDS" "[I") (List.mem_of_getElem? (i := 509) rfl)) (hts (.initialized "OnionNet$Sha") (List.mem_of_getElem? (i := 103) rfl)) h1 hA, h2⟩
set_option maxRecDepth 100000 in
theorem ln_2a : Cond.arrayOf (.static "OnionNet$Handshake" "NAME" "[I") .int ∈ lw_N ∧ Cond.eq (.length (.static "OnionNet$Handshake" "NAME" "[I")) (.int 8) ∈ lw_N := by decide +kernel
set_option maxRecDepth 100000 in
theorem ln_2e : ∀ j, j < 8 → Cond.eq (.elem (.static "OnionNet$Handshake" "NAME" "[I") (.int (Int32.ofNat j))) (.int (on_st2.getD j 0)) ∈ lw_N := by decide +kernel
set_option maxRecDepth 100000 in
theorem st_s2 {A : Nat → Prop} (hts : ∀ w ∈ lw_tbl, w.before args s = true) (hs : ∀ w ∈ lw_N, w.before args s = true) (hA : ∀ a : Nat, a < s.heap.size → ¬ A a) : ∃ t : Nat, va_Z "OnionNet$Handshake" "NAME" "[I" (.ref t) A s s.heap ∧ va_T .int t on_st2.length (fun j => .int (on_st2.getD j 0)) A s s.heap := by
  obtain ⟨t, h1, h2⟩ := va_Tof (tm := .static "OnionNet$Handshake" "NAME" "[I") (ty := .int) (N := 8) (f := fun j => .int (on_st2.getD j 0)) (A := A) (by decide) (hs _ ln_2a.1) (va_eqt (hs _ ln_2a.2)) (fun j hj => va_eqt (hs _ (ln_2e j hj))) hA
  exact ⟨t, va_Zof (hts (.laysStatic "OnionNet$Handshake" "NAME" "[I") (List.mem_of_getElem? (i := 208) rfl)) (hts (.initialized "OnionNet$Handshake") (List.mem_of_getElem? (i := 102) rfl)) h1 hA, h2⟩
def st_tm (i : Nat) : Term := if i = 0 then .string "OnionNetModel" 147 else .string "OnionNetModel" 226
set_option maxRecDepth 100000 in
theorem ln_s : ∀ i, i < 2 → Cond.exactly (st_tm i) "java/lang/String" ∈ lw_N ∧ Cond.eq (.field (st_tm i) "java/lang/String" "coder" "B") (.int 0) ∈ lw_N ∧ Cond.arrayOf (.field (st_tm i) "java/lang/String" "value" "[B") .byte ∈ lw_N ∧ Cond.eq (.length (.field (st_tm i) "java/lang/String" "value" "[B")) (.int (Int32.ofNat (on_sxl.getD i 0))) ∈ lw_N := by decide +kernel
set_option maxRecDepth 100000 in
theorem ln_t : ∀ i, i < 2 → ∀ j, j < on_sxl.getD i 0 → Cond.eq (.elem (.field (st_tm i) "java/lang/String" "value" "[B") (.int (Int32.ofNat j))) (.int ((on_sxb.getD i []).getD j 0)) ∈ lw_N := by decide +kernel
set_option maxRecDepth 100000 in
theorem ln_u : Cond.not (Cond.eq (st_tm 0) (st_tm 1)) ∈ lw_N ∧ Cond.eq (.static "java/lang/String" "COMPACT_STRINGS" "Z") (.int 1) ∈ lw_N ∧ Cond.isRef (.static "jdk/internal/util/Preconditions" "SIOOBE_FORMATTER" "Ljava/util/function/BiFunction;") ∈ lw_N := by decide +kernel
set_option maxRecDepth 100000 in
theorem st_sx {A : Nat → Prop} (hts : ∀ w ∈ lw_tbl, w.before args s = true) (hs : ∀ w ∈ lw_N, w.before args s = true) (hA : ∀ a : Nat, a < s.heap.size → ¬ A a) : ∃ adK adV : Nat → Nat, vk_S 2 on_sxl on_sxb adK adV A s s.heap ∧ vk_R "OnionNetModel" 147 "ONIONNET" (adK 0) s ∧ vk_R "OnionNetModel" 226 "expand 32-byte k" (adK 1) s ∧ va_Z "java/lang/String" "COMPACT_STRINGS" "Z" (.int 1) A s s.heap ∧ ∃ r : Option Nat, va_Z "jdk/internal/util/Preconditions" "SIOOBE_FORMATTER" "Ljava/util/function/BiFunction;" (va_rf r) A s s.heap := by
  obtain ⟨adK, adV, h1, h2⟩ := vk_Sof (N := 2) (tm := st_tm) (len := on_sxl) (byt := on_sxb) (A := A) (fun i hi => (by decide : ∀ i, i < 2 → on_sxl.getD i 0 < 2 ^ 31) i hi) (fun i hi => hs _ (ln_s i hi).1) (fun i hi => hs _ (ln_s i hi).2.1) (fun i hi => hs _ (ln_s i hi).2.2.1) (fun i hi => hs _ (ln_s i hi).2.2.2) (fun i hi j hj => hs _ (ln_t i hi j hj)) (fun i j hi hj ne => by
    rcases (show i = 0 ∨ i = 1 by omega) with rfl | rfl
    · obtain rfl : j = 1 := by omega
      exact Or.inl (hs _ ln_u.1)
    · obtain rfl : j = 0 := by omega
      exact Or.inr (hs _ ln_u.1)) hA
  refine ⟨adK, adV, h1, vk_R.of (hts _ (List.mem_of_getElem? (i := 1315) rfl)) (h2 0 (by decide)), vk_R.of (hts _ (List.mem_of_getElem? (i := 1662) rfl)) (h2 1 (by decide)), va_Zof (hts _ (List.mem_of_getElem? (i := 1325) rfl)) (hts _ (List.mem_of_getElem? (i := 117) rfl)) (va_eqi (hs _ ln_u.2.1)) hA, ?_⟩
  obtain ⟨v, g1, g2⟩ := Cond.isRef_spec (hs _ ln_u.2.2)
  have g1 : (Term.static "jdk/internal/util/Preconditions" "SIOOBE_FORMATTER" "Ljava/util/function/BiFunction;").eval args s none [] s = some v := g1
  have Z := va_Zof (A := A) (hts (.laysStatic "jdk/internal/util/Preconditions" "SIOOBE_FORMATTER" "Ljava/util/function/BiFunction;") (List.mem_of_getElem? (i := 1333) rfl)) (hts (.initialized "jdk/internal/util/Preconditions") (List.mem_of_getElem? (i := 119) rfl)) g1 hA
  cases v with
  | null => exact ⟨none, Z⟩
  | ref a => exact ⟨some a, Z⟩
  | _ => cases g2
end STW
