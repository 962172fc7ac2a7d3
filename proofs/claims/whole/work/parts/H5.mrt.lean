/-! the reference: a relay takes a cell -/
section MRT
variable {G : on_G} {o R self n nr nk B fr k0 s sz bc bs : Nat} {num : Int32} {x3 : Int32 × Int32 × Int32} {F : Nat → Option Nat} {lk : Nat → List aB} {r : aR} {e : aE} {ord es : Nat → Nat} {h h1 : on_H} {Q : Option Value → on_H → Nat → Prop} {x : aB} {lv : on_V} {st : List Value}
theorem sw_mrt {v : Nat} (hv : v < 256) (k10 : v = 10 → on_E G M_M_relayTakes 68 lv st h sz bc bs Q) (k11 : v = 11 → on_E G M_M_relayTakes 180 lv st h sz bc bs Q) (k3 : v = 3 → on_E G M_M_relayTakes 260 lv st h sz bc bs Q) (k4 : v = 4 → on_E G M_M_relayTakes 79 lv st h sz bc bs Q) (kd : ¬ v = 10 → ¬ v = 11 → ¬ v = 3 → ¬ v = 4 → on_E G M_M_relayTakes 271 lv st h sz bc bs Q) : on_E G M_M_relayTakes 19 lv (.int (nI v) :: st) h sz bc bs Q := by
  by_cases c10 : v = 10
  · subst c10
    exact on_tableIn rfl (by decide) (by decide) rfl rfl (k10 rfl)
  by_cases c11 : v = 11
  · subst c11
    exact on_tableIn rfl (by decide) (by decide) rfl rfl (k11 rfl)
  by_cases c3 : v = 3
  · subst c3
    exact on_tableIn rfl (by decide) (by decide) rfl rfl (k3 rfl)
  by_cases c4 : v = 4
  · subst c4
    exact on_tableIn rfl (by decide) (by decide) rfl rfl (k4 rfl)
  have kx := kd c10 c11 c3 c4
  rcases (by omega : v = 5 ∨ v = 6 ∨ v = 7 ∨ v = 8 ∨ v = 9 ∨ v < 3 ∨ 11 < v) with z | z | z | z | z | z
  iterate 5
    · subst z
      exact on_tableIn rfl (by decide) (by decide) rfl rfl kx
  · exact on_tableOut rfl (by rw [nI_ti v hv]; omega) rfl kx
theorem mR.rem (K : mR o R self x3 F lk r n ord es h) (hk : k0 < n) (S3 : mr_S R (r_en r (fu r.en (ord k0) none)) (n - 1) (fu ord k0 (ord (n - 1))) (fun k => es (sw k0 (n - 1) k)) h1) (t3 : ∀ b, b ≠ R → b ≠ R + 4 → h1 b = h b) : mR o R self x3 F lk (r_en r (fu r.en (ord k0) none)) (n - 1) (fu ord k0 (ord (n - 1))) (fun k => es (sw k0 (n - 1) k)) h1 ∧ mf_R o R h h1 := by
  obtain ⟨W, KL, K3, I, k5, k6, k7, k8⟩ := K
  exact ⟨⟨W.keep (fun a _ _ _ => t3 a (by omega) (by omega)), KL.keep (t3 _ (by omega) (by omega)) (t3 _ (by omega) (by omega)), S3, I.rem hk, (t3 _ (by omega) (by omega)).trans k5, k6, k7, k8⟩, fun b c1 c2 => t3 b (by omega) (by omega)⟩
set_option maxHeartbeats 4000000 in
theorem mrtk_l {X : Nat → Int32} {y : Nat} (ho : h o = some (.inr (17, mo_f o x3.1 x3.2.1 x3.2.2))) (hx : h (o + 24) = some (on_ai 0 140 X))
    (kk : ∀ P : Nat → Int32, (∀ i, i < 64 → P i = X (5 + i)) → on_E G M_M_relayTakes 241 (on_l [(0, .ref o), (1, .int (nI self)), (6, .ref y)]) [] (on_up h (o + 26) (on_ai 0 68 P)) sz bc bs Q) :
    ∀ (m k : Nat) (P : Nat → Int32), k + m = 64 → (∀ i, i < k → P i = X (5 + i)) → on_E G M_M_relayTakes 212 (on_l [(0, .ref o), (1, .int (nI self)), (6, .ref y), (7, .int (nI k))]) [] (on_up h (o + 26) (on_ai 0 68 P)) sz bc bs Q := by
  intro m
  induction m with
  | zero =>
    intro k P hk hP
    obtain rfl : k = 64 := by omega
    refine on_iload (pc' := 214) rfl rfl rfl ?_
    refine on_bipush (pc' := 216) (v := 64) rfl rfl lb_64 ?_
    refine on_icmp_ge (pc' := 219) (tgt := 241) rfl rfl rfl (fun cq => ?_) (fun cq => ?_)
    · exact on_relv (l := [(0, .ref o), (1, .int (nI self)), (6, .ref y)]) ⟨rfl, rfl, rfl, trivial⟩ (kk P hP)
    · exact absurd (by decide) cq
  | succ m ih =>
    intro k P hk hP
    have i1 : 5 + k < 140 ∧ 140 < 2 ^ 31 := by omega
    have i2 : k < 68 ∧ 68 < 2 ^ 31 := by omega
    refine on_iload (pc' := 214) rfl rfl rfl ?_
    refine on_bipush (pc' := 216) (v := 64) rfl rfl lb_64 ?_
    refine on_icmp_ge (pc' := 219) (tgt := 241) rfl rfl rfl (fun cq => ?_) (fun cq => ?_)
    · exact absurd cq (nI_ge (b := 64) (by omega) (by decide))
    · clear cq
      first | refine on_aload_n (pc' := 220) rfl rfl rfl rfl ?_ | refine on_aload_nQ (pc' := 220) rfl rfl rfl rfl ?_
      first | apply on_get (pc' := 223) rfl rfl fl_M_79 | apply on_getN (pc' := 223) rfl rfl fl_M_79
      · repeat (first | assumption | exact on_up_eq _ _ _ | refine (on_up_ne (by omega)).trans ?_)
      · rfl
      refine on_iload (pc' := 225) rfl rfl rfl ?_
      first | refine on_aload_n (pc' := 226) rfl rfl rfl rfl ?_ | refine on_aload_nQ (pc' := 226) rfl rfl rfl rfl ?_
      first | apply on_get (pc' := 229) rfl rfl fl_M_73 | apply on_getN (pc' := 229) rfl rfl fl_M_73
      · repeat (first | assumption | exact on_up_eq _ _ _ | refine (on_up_ne (by omega)).trans ?_)
      · rfl
      refine on_iconst (pc' := 230) (v := 5) rfl rfl li_5 ?_
      refine on_iload (pc' := 232) rfl rfl rfl ?_
      refine on_iadd (pc' := 233) rfl rfl ?_
      rw [show (5 : Int32) + nI k = nI (5 + k) from nI_add 5 k]
      apply on_ialoadK (pc' := 234) (t := 0) rfl rfl
      · repeat (first | assumption | exact on_up_eq _ _ _ | refine (on_up_ne (by omega)).trans ?_)
      · rfl
      · first | assumption | exact on_lit _ | rfl
      · first | assumption | omega | decide
      apply on_iastoreK (pc' := 235) (t := 0) rfl rfl
      · repeat (first | assumption | exact on_up_eq _ _ _ | refine (on_up_ne (by omega)).trans ?_)
      · rfl
      · first | assumption | exact on_lit _ | rfl
      · first | assumption | omega | decide
      refine on_iinc1 (pc' := 238) rfl rfl rfl ?_
      refine on_goto (tgt := 212) rfl rfl ?_
      rw [on_up_up]
      refine on_relv (l := [(0, .ref o), (1, .int (nI self)), (6, .ref y), (7, .int (nI (k + 1)))]) ⟨rfl, rfl, rfl, congrArg some (congrArg Value.int (nI_1 k)), trivial⟩ ?_
      refine ih (k + 1) _ (by omega) (fun i hi => ?_)
      by_cases z : i = k
      · rw [z, pk_us]
      · rw [pk_un z]
        exact hP i (by omega)
set_option maxHeartbeats 16000000 in
/-- relayTakes -/
theorem c_M_relayTakes (K : mR o R self x3 F lk r n ord es h) (RK : r_ok nr nk self B r) (hB : B + 540 < 2 ^ 28) (hx3 : x3.1 = nI nr) (hnr : nr ≤ 6) (hfr : fr < 10) (hq : rB h (o + 24) 140 x) :
    on_Ct G M_M_relayTakes [.ref o, .int (nI self), .int (nI fr)] h sz 0 0 (fun v h1 z => v = none ∧ z = sz ∧ mY o R self x3 F lk (r_tk nr self r fr x) h h1) := by
  obtain ⟨W, KL, K3, I, k5, k6, k7, k8⟩ := id K
  have o1 := W.ob.1
  have i6 : self < 6 ∧ 6 < 2 ^ 31 := ⟨k8, by decide⟩
  obtain ⟨X, x1, X'⟩ := id hq
  have hen : ∀ s e, r.en s = some e → e.fr < 10 := fun s e he => (RK.2.2.1 s e he).1.1
  have heo : ∀ s e q, r.en s = some e → e.on = some q → q.1 < 10 := fun s e q he hq2 => by
    have := ((RK.2.2.1 s e he).2.1 q hq2).1
    omega
  have same : ∀ lv, r_tk nr self r fr x = (r, []) → on_E G M_M_relayTakes 271 lv [] h sz 0 0 (fun v h1 z => v = none ∧ z = sz ∧ mY o R self x3 F lk (r_tk nr self r fr x) h h1) := fun lv z => by
    refine on_vreturn rfl rfl ?_
    rw [z]
    exact ⟨rfl, rfl, ⟨n, ord, es, K⟩, fun _ _ _ => rfl⟩
  refine on_Ct.of (by decide) v_M_relayTakes (Nat.le_of_ble_eq_true rfl) ?_
  first | refine on_aload_n (pc' := 1) rfl rfl rfl rfl ?_ | refine on_aload_nQ (pc' := 1) rfl rfl rfl rfl ?_
  first | apply on_get (pc' := 4) rfl rfl fl_M_9 | apply on_getN (pc' := 4) rfl rfl fl_M_9
  · repeat (first | assumption | exact on_up_eq _ _ _ | refine (on_up_ne (by omega)).trans ?_)
  · rfl
  refine on_iload_n (pc' := 5) rfl rfl rfl rfl ?_
  apply on_aaloadK (pc' := 6) rfl rfl
  · repeat (first | assumption | exact on_up_eq _ _ _ | refine (on_up_ne (by omega)).trans ?_)
  · rfl
  · first | assumption | exact on_lit _ | rfl
  · first | assumption | omega | decide
  rw [k6]
  show on_E G M_M_relayTakes 6 _ [.ref R] h sz _ _ _
  first | refine on_astore_n (pc' := 7) rfl rfl rfl (by decide) ?_ | refine on_astore_nQ (pc' := 7) rfl rfl rfl (by decide) ?_
  first | refine on_aload_n (pc' := 8) rfl rfl rfl rfl ?_ | refine on_aload_nQ (pc' := 8) rfl rfl rfl rfl ?_
  refine on_callV (pc' := 11) (As := []) (rest := []) (b := o) rfl rfl cw_M_relayTakes_356 (o1) rfl rfl (Nat.le_of_ble_eq_true rfl) (Nat.zero_le _) (Nat.zero_le _) (c_M_numberOf o1 hq) ?_
  rintro v h sz ⟨rfl, rfl, rfl⟩
  have x4' := X' 4 (by decide)
  refine on_istore (pc' := 13) rfl rfl (by decide) ?_
  first | refine on_aload_n (pc' := 14) rfl rfl rfl rfl ?_ | refine on_aload_nQ (pc' := 14) rfl rfl rfl rfl ?_
  first | apply on_get (pc' := 17) rfl rfl fl_M_73 | apply on_getN (pc' := 17) rfl rfl fl_M_73
  · repeat (first | assumption | exact on_up_eq _ _ _ | refine (on_up_ne (by omega)).trans ?_)
  · rfl
  refine on_iconst (pc' := 18) (v := 4) rfl rfl li_4 ?_
  apply on_ialoadK (pc' := 19) (t := 0) (k := 4) rfl rfl
  · repeat (first | assumption | exact on_up_eq _ _ _ | refine (on_up_ne (by omega)).trans ?_)
  · rfl
  · first | assumption | exact on_lit _ | rfl
  · first | assumption | omega | decide
  rw [x4'.1]
  refine sw_mrt x4'.2 (fun x4 => ?_) (fun x4 => ?_) (fun x4 => ?_) (fun x4 => ?_) (fun n10 n11 n3 n4 => ?_)
  · first | refine on_aload_n (pc' := 69) rfl rfl rfl rfl ?_ | refine on_aload_nQ (pc' := 69) rfl rfl rfl rfl ?_
    refine on_iload_n (pc' := 70) rfl rfl rfl rfl ?_
    refine on_iload_n (pc' := 71) rfl rfl rfl rfl ?_
    refine on_iload (pc' := 73) rfl rfl rfl ?_
    refine on_callV (pc' := 76) (As := [.int (nI self), .int (nI fr), .int (ce_n x)]) (rest := []) (b := o) rfl rfl cw_M_relayTakes_359 (o1) rfl rfl (Nat.le_of_ble_eq_true rfl) (Nat.zero_le _) (Nat.zero_le _) (c_M_created (nr := nr) K hen hfr hq rfl trivial RK.ufr x4) ?_
    rintro v h1 sz ⟨rfl, rfl, Y⟩
    refine on_goto (tgt := 271) rfl rfl ?_
    refine on_vreturn rfl rfl ?_
    exact ⟨rfl, rfl, Y⟩
  · have rt : r_tk nr self r fr x = (match e_to r.en fr (ce_n x) with
        | some s => (match r.en s with
          | some e => if e.wt then (r_en r (fu r.en s (some (e_bk (e.fr, e.fn, e.on, false, e.fw, e.bw, e.st) 15 0 64 (fun j => x (5 + j))).1)), [(e_bk (e.fr, e.fn, e.on, false, e.fw, e.bw, e.st) 15 0 64 (fun j => x (5 + j))).2]) else (r, [])
          | none => (r, []))
        | none => (r, [])) := by
      unfold r_tk
      dsimp only
      rw [if_neg (by omega), if_pos x4]
      rfl
    first | refine on_aload_n (pc' := 181) rfl rfl rfl rfl ?_ | refine on_aload_nQ (pc' := 181) rfl rfl rfl rfl ?_
    first | refine on_aload_n (pc' := 182) rfl rfl rfl rfl ?_ | refine on_aload_nQ (pc' := 182) rfl rfl rfl rfl ?_
    refine on_iload_n (pc' := 183) rfl rfl rfl rfl ?_
    refine on_iload (pc' := 185) rfl rfl rfl ?_
    refine on_callV (pc' := 188) (As := [.ref R, .int (nI fr), .int (ce_n x)]) (rest := []) (b := o) rfl rfl cw_M_relayTakes_367 (o1) rfl rfl (Nat.le_of_ble_eq_true rfl) (Nat.zero_le _) (Nat.zero_le _) (c_M_goesOn I K3 hfr heo) ?_
    rintro v h sz ⟨rfl, rfl, rfl⟩
    cases eg : (List.range n).find? (fun k => p_to r.en fr (ce_n x) (ord k)) with
    | none =>
      have e1 : e_to r.en fr (ce_n x) = none := ord_none I (fun s hs => by obtain ⟨e, q, he, -⟩ := p_to_some hs; exact ⟨e, he⟩) eg
      rw [e1] at rt
      show on_E G M_M_relayTakes 188 _ [va_rf none] h sz _ _ _
      first | refine on_astore (pc' := 190) rfl rfl (by decide) ?_ | refine on_astoreQ (pc' := 190) rfl rfl (by decide) ?_
      first | refine on_aload (pc' := 192) rfl rfl rfl ?_ | refine on_aloadQ (pc' := 192) rfl rfl rfl ?_
      exact on_ifnullN (tgt := 271) rfl rfl (same _ rt)
    | some k0 =>
      obtain ⟨hk0, e1⟩ := ord_some I (RK.uto (by omega)) eg
      have e1 : e_to r.en fr (ce_n x) = some (ord k0) := e1
      obtain ⟨e, he, E⟩ := K3.2.2.2.2.1.2.1 k0 hk0
      rw [e1] at rt
      have rt : r_tk nr self r fr x = (match r.en (ord k0) with | some e => if e.wt then (r_en r (fu r.en (ord k0) (some (e_bk (e.fr, e.fn, e.on, false, e.fw, e.bw, e.st) 15 0 64 (fun j => x (5 + j))).1)), [(e_bk (e.fr, e.fn, e.on, false, e.fw, e.bw, e.st) 15 0 64 (fun j => x (5 + j))).2]) else (r, []) | none => (r, [])) := rt
      rw [he] at rt
      have rt : r_tk nr self r fr x = if e.wt then (r_en r (fu r.en (ord k0) (some (e_bk (e.fr, e.fn, e.on, false, e.fw, e.bw, e.st) 15 0 64 (fun j => x (5 + j))).1)), [(e_bk (e.fr, e.fn, e.on, false, e.fw, e.bw, e.st) 15 0 64 (fun j => x (5 + j))).2]) else (r, []) := rt
      have at0 := I.at (show k0 < 12 by have := I.1; omega)
      obtain ⟨tn, S, V, WW, C, ⟨b0, b1, b2, b3, b4⟩, tq, sr, ml⟩ := id E
      have hf := hen _ e he
      have pob := lz_po e.bw
      have msb := lz_ms e.bw
      have bnd := (RK.2.2.1 _ e he).2.2.2
      show on_E G M_M_relayTakes 188 _ [.ref (es k0)] h sz _ _ _
      first | refine on_astore (pc' := 190) rfl rfl (by decide) ?_ | refine on_astoreQ (pc' := 190) rfl rfl (by decide) ?_
      first | refine on_aload (pc' := 192) rfl rfl rfl ?_ | refine on_aloadQ (pc' := 192) rfl rfl rfl ?_
      refine on_ifnullR (pc' := 195) rfl rfl ?_
      first | refine on_aload (pc' := 197) rfl rfl rfl ?_ | refine on_aloadQ (pc' := 197) rfl rfl rfl ?_
      first | apply on_get (pc' := 200) rfl rfl fl_M_370 | apply on_getN (pc' := 200) rfl rfl fl_M_370
      · repeat (first | assumption | exact on_up_eq _ _ _ | refine (on_up_ne (by omega)).trans ?_)
      · rfl
      refine on_if_eq (pc' := 203) (tgt := 271) rfl rfl rfl (fun cq => ?_) (fun cq => ?_)
      · rw [if_neg (by rw [bI_eq.mp cq]; decide)] at rt
        exact same _ rt
      · rw [if_pos (bI_ne.mp cq)] at rt
        clear cq
        first | refine on_aload (pc' := 205) rfl rfl rfl ?_ | refine on_aloadQ (pc' := 205) rfl rfl rfl ?_
        refine on_iconst (pc' := 206) (v := 0) rfl rfl li_0 ?_
        first | apply on_put (pc' := 209) rfl rfl fp_M_370 | apply on_putN (pc' := 209) rfl rfl fp_M_370
        · repeat (first | assumption | exact on_up_eq _ _ _ | refine (on_up_ne (by omega)).trans ?_)
        · first | rfl | assumption
        · first | rfl | assumption
        · exact Nat.le_of_ble_eq_true rfl
        refine on_iconst (pc' := 210) (v := 0) rfl rfl li_0 ?_
        refine on_istore (pc' := 212) rfl rfl (by decide) ?_
        have t1 : ∀ b, b ≠ es k0 → on_up h (es k0) (.inr (14, [.int (nI e.fr), .int e.fn, .int (oI e.on), .int tn, .int 0, .ref (es k0 + 1), .int (nI e.st.length), .ref (es k0 + 10), .ref (es k0 + 11), .ref (es k0 + 12), .ref (es k0 + 13)])) b = h b := fun b hb => on_up_ne hb
        have y1 : on_up h (es k0) (.inr (14, [.int (nI e.fr), .int e.fn, .int (oI e.on), .int tn, .int 0, .ref (es k0 + 1), .int (nI e.st.length), .ref (es k0 + 10), .ref (es k0 + 11), .ref (es k0 + 12), .ref (es k0 + 13)])) (es k0) = _ := on_up_eq _ _ _
        refine on_relv (l := [(0, .ref o), (1, .int (nI self)), (6, .ref (es k0)), (7, .int (nI 0))]) ⟨rfl, rfl, rfl, rfl, trivial⟩ ?_
        show on_E G M_M_relayTakes 212 _ [] (on_up h (es k0) (.inr (14, [.int (nI e.fr), .int e.fn, .int (oI e.on), .int tn, .int 0, .ref (es k0 + 1), .int (nI e.st.length), .ref (es k0 + 10), .ref (es k0 + 11), .ref (es k0 + 12), .ref (es k0 + 13)]))) sz _ _ _
        generalize on_up h (es k0) (.inr (14, [.int (nI e.fr), .int e.fn, .int (oI e.on), .int tn, .int 0, .ref (es k0 + 1), .int (nI e.st.length), .ref (es k0 + 10), .ref (es k0 + 11), .ref (es k0 + 12), .ref (es k0 + 13)])) = h1 at t1 y1 ⊢
        have E1 : me_S (es k0) (e.fr, e.fn, e.on, false, e.fw, e.bw, e.st) h1 := ⟨tn, S, V, WW, C, ⟨y1, (t1 _ (by omega)).trans b1, (t1 _ (by omega)).trans b2, (t1 _ (by omega)).trans b3, (t1 _ (by omega)).trans b4⟩, tq, sr, ml.keep (fun a _ _ => t1 a (by omega))⟩
        obtain ⟨K1, f1⟩ := K.ent (lk2 := lk) hk0 (W.keep (fun a _ _ _ => t1 a (by omega))) (KL.keep (t1 _ (by omega)) (t1 _ (by omega))) E1 (fun b c1 c2 => t1 b (by omega))
        have o2 := K1.1.ob.1
        have x1' := (t1 (o + 24) (by omega)).trans x1
        obtain ⟨P0, p0⟩ := K1.1.sk
        have eh : on_up h1 (o + 26) (on_ai 0 68 P0) = h1 := funext fun b => by
          by_cases w : b = o + 26
          · rw [w, on_up_eq, p0]
          · exact on_up_ne w
        rw [← eh]
        refine mrtk_l o2 x1' (fun P hP => ?_) 64 0 P0 rfl (fun i hi => absurd hi (Nat.not_lt_zero i))
        clear eh
        obtain ⟨K2, f2⟩ := K1.wrk (a := o + 26) (h1 := on_up h1 (o + 26) (on_ai 0 68 P)) (Or.inl (by omega)) (by rw [show o + 26 - o = 26 by omega]; exact ⟨P, on_up_eq _ _ _⟩) (fun b hb => on_up_ne hb)
        have p2 : on_up h1 (o + 26) (on_ai 0 68 P) (o + 26) = some (on_ai 0 68 P) := on_up_eq _ _ _
        have E2 := E1.keep (h2 := on_up h1 (o + 26) (on_ai 0 68 P)) (fun a _ _ => on_up_ne (by omega))
        generalize on_up h1 (o + 26) (on_ai 0 68 P) = h2 at K2 f2 p2 E2 ⊢
        have o3 := K2.1.ob.1
        first | refine on_aload_n (pc' := 242) rfl rfl rfl rfl ?_ | refine on_aload_nQ (pc' := 242) rfl rfl rfl rfl ?_
        refine on_iload_n (pc' := 243) rfl rfl rfl rfl ?_
        first | refine on_aload (pc' := 245) rfl rfl rfl ?_ | refine on_aloadQ (pc' := 245) rfl rfl rfl ?_
        refine on_bipush (pc' := 247) (v := 15) rfl rfl lb_15 ?_
        refine on_iconst (pc' := 248) (v := 0) rfl rfl li_0 ?_
        refine on_bipush (pc' := 250) (v := 64) rfl rfl lb_64 ?_
        first | refine on_aload_n (pc' := 251) rfl rfl rfl rfl ?_ | refine on_aload_nQ (pc' := 251) rfl rfl rfl rfl ?_
        first | apply on_get (pc' := 254) rfl rfl fl_M_79 | apply on_getN (pc' := 254) rfl rfl fl_M_79
        · repeat (first | assumption | exact on_up_eq _ _ _ | refine (on_up_ne (by omega)).trans ?_)
        · rfl
        refine on_callV (pc' := 257) (As := [.int (nI self), .ref (es k0), .int (nI 15), .int (nI 0), .int (nI 64), .ref (o + 26)]) (rest := []) (b := o) rfl rfl cw_M_relayTakes_374 (o3) rfl rfl (Nat.le_of_ble_eq_true rfl) (Nat.zero_le _) (Nat.zero_le _) (c_M_back (d := fun j => x (5 + j)) (e := (e.fr, e.fn, e.on, false, e.fw, e.bw, e.st)) K2.1 K2.2.1 E2 (by omega) (by omega) hf (show e.bw.ms.length + 135 < 2 ^ 28 by omega) (show e.bw.pos + 135 < 2 ^ 36 by omega) (by decide) (by decide) (by decide) ⟨P, p2⟩ (Or.inr rfl) ⟨by decide, by decide⟩ (fun f hf => by cases p2.symm.trans hf; exact fun i hi => by rw [hP i hi]; exact X' (5 + i) (by omega))) ?_
        rintro v h3 sz ⟨rfl, rfl, W3, L3, E3, t3⟩
        obtain ⟨K3', f3⟩ := K2.ent (k0 := k0) hk0 W3 L3 E3 (fun b c1 c2 => t3 b (by omega) (by omega) (by omega) (by omega) (by omega) (by omega) (by omega) (by omega))
        refine on_goto (tgt := 271) rfl rfl ?_
        refine on_vreturn rfl rfl ?_
        rw [rt]
        refine ⟨rfl, rfl, ⟨n, ord, es, ?_⟩, (f1.trans f2).trans f3⟩
        have K3' : mR o R self x3 F _ (r_en r (fu (fu r.en (ord k0) _) (ord k0) _)) n ord es h3 := K3'
        rw [fu_fu] at K3'
        exact K3'
  · first | refine on_aload_n (pc' := 261) rfl rfl rfl rfl ?_ | refine on_aload_nQ (pc' := 261) rfl rfl rfl rfl ?_
    refine on_iload_n (pc' := 262) rfl rfl rfl rfl ?_
    refine on_iload_n (pc' := 263) rfl rfl rfl rfl ?_
    refine on_iload (pc' := 265) rfl rfl rfl ?_
    refine on_callV (pc' := 268) (As := [.int (nI self), .int (nI fr), .int (ce_n x)]) (rest := []) (b := o) rfl rfl cw_M_relayTakes_378 (o1) rfl rfl (Nat.le_of_ble_eq_true rfl) (Nat.zero_le _) (Nat.zero_le _) (c_M_relayed K RK hB hx3 hnr hfr hq rfl x4) ?_
    rintro v h1 sz ⟨rfl, rfl, Y⟩
    refine on_goto (tgt := 271) rfl rfl ?_
    refine on_vreturn rfl rfl ?_
    exact ⟨rfl, rfl, Y⟩
  · have rt : r_tk nr self r fr x = (match e_fr r.en fr (ce_n x) with
        | some s => (match r.en s with
          | some e => (r_en r (fu r.en s none), match e.on with | some q => [(q.1, ce_k (nI q.2) 4 (fun _ => 0) 0)] | none => [])
          | none => (r, []))
        | none => (match e_to r.en fr (ce_n x) with
          | some s => (match r.en s with
            | some e => (r_en r (fu r.en s none), [(e.fr, ce_k e.fn 4 (fun _ => 0) 0)])
            | none => (r, []))
          | none => (r, []))) := by
      unfold r_tk
      dsimp only
      rw [if_neg (by omega), if_neg (by omega), if_neg (by omega), if_pos x4]
      rfl
    first | refine on_aload_n (pc' := 80) rfl rfl rfl rfl ?_ | refine on_aload_nQ (pc' := 80) rfl rfl rfl rfl ?_
    first | refine on_aload_n (pc' := 81) rfl rfl rfl rfl ?_ | refine on_aload_nQ (pc' := 81) rfl rfl rfl rfl ?_
    refine on_iload_n (pc' := 82) rfl rfl rfl rfl ?_
    refine on_iload (pc' := 84) rfl rfl rfl ?_
    refine on_callV (pc' := 87) (As := [.ref R, .int (nI fr), .int (ce_n x)]) (rest := []) (b := o) rfl rfl cw_M_relayTakes_363 (o1) rfl rfl (Nat.le_of_ble_eq_true rfl) (Nat.zero_le _) (Nat.zero_le _) (c_M_cameFrom I K3 hfr hen) ?_
    rintro v h sz ⟨rfl, rfl, rfl⟩
    cases ef : (List.range n).find? (fun k => p_fr r.en fr (ce_n x) (ord k)) with
    | none =>
      have e0 : e_fr r.en fr (ce_n x) = none := ord_none I (fun s hs => by obtain ⟨e, he, -⟩ := p_fr_some hs; exact ⟨e, he⟩) ef
      rw [e0] at rt
      have rt : r_tk nr self r fr x = (match e_to r.en fr (ce_n x) with
          | some s => (match r.en s with
            | some e => (r_en r (fu r.en s none), [(e.fr, ce_k e.fn 4 (fun _ => 0) 0)])
            | none => (r, []))
          | none => (r, [])) := rt
      show on_E G M_M_relayTakes 87 _ [va_rf none] h sz _ _ _
      first | refine on_astore (pc' := 89) rfl rfl (by decide) ?_ | refine on_astoreQ (pc' := 89) rfl rfl (by decide) ?_
      first | refine on_aload (pc' := 91) rfl rfl rfl ?_ | refine on_aloadQ (pc' := 91) rfl rfl rfl ?_
      refine on_ifnullN (tgt := 134) rfl rfl ?_
      first | refine on_aload_n (pc' := 135) rfl rfl rfl rfl ?_ | refine on_aload_nQ (pc' := 135) rfl rfl rfl rfl ?_
      first | refine on_aload_n (pc' := 136) rfl rfl rfl rfl ?_ | refine on_aload_nQ (pc' := 136) rfl rfl rfl rfl ?_
      refine on_iload_n (pc' := 137) rfl rfl rfl rfl ?_
      refine on_iload (pc' := 139) rfl rfl rfl ?_
      refine on_callV (pc' := 142) (As := [.ref R, .int (nI fr), .int (ce_n x)]) (rest := []) (b := o) rfl rfl cw_M_relayTakes_367 (o1) rfl rfl (Nat.le_of_ble_eq_true rfl) (Nat.zero_le _) (Nat.zero_le _) (c_M_goesOn I K3 hfr heo) ?_
      rintro v h sz ⟨rfl, rfl, rfl⟩
      cases eg : (List.range n).find? (fun k => p_to r.en fr (ce_n x) (ord k)) with
      | none =>
        have e1 : e_to r.en fr (ce_n x) = none := ord_none I (fun s hs => by obtain ⟨e, q, he, -⟩ := p_to_some hs; exact ⟨e, he⟩) eg
        rw [e1] at rt
        show on_E G M_M_relayTakes 142 _ [va_rf none] h sz _ _ _
        first | refine on_astore (pc' := 144) rfl rfl (by decide) ?_ | refine on_astoreQ (pc' := 144) rfl rfl (by decide) ?_
        first | refine on_aload (pc' := 146) rfl rfl rfl ?_ | refine on_aloadQ (pc' := 146) rfl rfl rfl ?_
        exact on_ifnullN (tgt := 271) rfl rfl (same _ rt)
      | some k0 =>
        obtain ⟨hk0, e1⟩ := ord_some I (RK.uto (by omega)) eg
        have e1 : e_to r.en fr (ce_n x) = some (ord k0) := e1
        obtain ⟨e, he, E⟩ := K3.2.2.2.2.1.2.1 k0 hk0
        rw [e1] at rt
        have rt : r_tk nr self r fr x = (match r.en (ord k0) with | some e => (r_en r (fu r.en (ord k0) none), [(e.fr, ce_k e.fn 4 (fun _ => 0) 0)]) | none => (r, [])) := rt
        rw [he] at rt
        have rt : r_tk nr self r fr x = (r_en r (fu r.en (ord k0) none), [(e.fr, ce_k e.fn 4 (fun _ => 0) 0)]) := rt
        have at0 := I.at (show k0 < 12 by have := I.1; omega)
        obtain ⟨tn, S, V, WW, C, ⟨b0, b1, b2, b3, b4⟩, tq, sr, ml⟩ := id E
        have hf := hen _ e he
        show on_E G M_M_relayTakes 142 _ [.ref (es k0)] h sz _ _ _
        first | refine on_astore (pc' := 144) rfl rfl (by decide) ?_ | refine on_astoreQ (pc' := 144) rfl rfl (by decide) ?_
        first | refine on_aload (pc' := 146) rfl rfl rfl ?_ | refine on_aloadQ (pc' := 146) rfl rfl rfl ?_
        refine on_ifnullR (pc' := 149) rfl rfl ?_
        first | refine on_aload_n (pc' := 150) rfl rfl rfl rfl ?_ | refine on_aload_nQ (pc' := 150) rfl rfl rfl rfl ?_
        refine on_iload_n (pc' := 151) rfl rfl rfl rfl ?_
        first | refine on_aload (pc' := 153) rfl rfl rfl ?_ | refine on_aloadQ (pc' := 153) rfl rfl rfl ?_
        first | apply on_get (pc' := 156) rfl rfl fl_M_336 | apply on_getN (pc' := 156) rfl rfl fl_M_336
        · repeat (first | assumption | exact on_up_eq _ _ _ | refine (on_up_ne (by omega)).trans ?_)
        · rfl
        first | refine on_aload (pc' := 158) rfl rfl rfl ?_ | refine on_aloadQ (pc' := 158) rfl rfl rfl ?_
        first | apply on_get (pc' := 161) rfl rfl fl_M_339 | apply on_getN (pc' := 161) rfl rfl fl_M_339
        · repeat (first | assumption | exact on_up_eq _ _ _ | refine (on_up_ne (by omega)).trans ?_)
        · rfl
        refine on_iconst (pc' := 162) (v := 4) rfl rfl li_4 ?_
        first | refine on_aload_n (pc' := 163) rfl rfl rfl rfl ?_ | refine on_aload_nQ (pc' := 163) rfl rfl rfl rfl ?_
        first | apply on_get (pc' := 166) rfl rfl fl_M_73 | apply on_getN (pc' := 166) rfl rfl fl_M_73
        · repeat (first | assumption | exact on_up_eq _ _ _ | refine (on_up_ne (by omega)).trans ?_)
        · rfl
        refine on_iconst (pc' := 167) (v := 0) rfl rfl li_0 ?_
        refine on_callV (pc' := 170) (As := [.int (nI self), .int (nI e.fr), .int e.fn, .int (nI 4), .ref (o + 24), .int (nI 0)]) (rest := []) (b := o) rfl rfl cw_M_relayTakes_348 (o1) rfl rfl (Nat.le_of_ble_eq_true rfl) (Nat.zero_le _) (Nat.zero_le _) (c_M_lay (x := fun _ => 0) (n := 0) o1 KL (by omega) hf (by decide) hq.w (by omega) (by omega) ⟨Nat.zero_le _, by decide⟩ (Nat.zero_le _) (fun f _ i hi => absurd hi (Nat.not_lt_zero i))) ?_
        rintro v h2 z ⟨rfl, rfl, L2, t2⟩
        have K2 := K.lnk L2 t2
        have o2 := K2.1.ob.1
        first | refine on_aload_n (pc' := 171) rfl rfl rfl rfl ?_ | refine on_aload_nQ (pc' := 171) rfl rfl rfl rfl ?_
        first | refine on_aload_n (pc' := 172) rfl rfl rfl rfl ?_ | refine on_aload_nQ (pc' := 172) rfl rfl rfl rfl ?_
        first | refine on_aload (pc' := 174) rfl rfl rfl ?_ | refine on_aloadQ (pc' := 174) rfl rfl rfl ?_
        refine on_callV (pc' := 177) (As := [.ref R, .ref (es k0)]) (rest := []) (b := o) rfl rfl cw_M_relayTakes_352 (o2) rfl rfl (Nat.le_of_ble_eq_true rfl) (Nat.zero_le _) (Nat.zero_le _) (c_M_remove K2.2.2.2.1 K2.2.2.1 hk0) ?_
        rintro v h3 z ⟨rfl, rfl, S3, t3⟩
        obtain ⟨K3', f3⟩ := K2.rem hk0 S3 t3
        refine on_goto (tgt := 271) rfl rfl ?_
        refine on_vreturn rfl rfl ?_
        rw [rt]
        exact ⟨rfl, rfl, ⟨_, _, _, K3'⟩, fun b c1 c2 => (f3 b c1 c2).trans (t2 b (by omega) (by omega))⟩
    | some k0 =>
      obtain ⟨hk0, e1⟩ := ord_some I RK.ufr ef
      have e1 : e_fr r.en fr (ce_n x) = some (ord k0) := e1
      obtain ⟨e, he, E⟩ := K3.2.2.2.2.1.2.1 k0 hk0
      rw [e1] at rt
      have rt : r_tk nr self r fr x = (match r.en (ord k0) with | some e => (r_en r (fu r.en (ord k0) none), match e.on with | some q => [(q.1, ce_k (nI q.2) 4 (fun _ => 0) 0)] | none => []) | none => (r, [])) := rt
      rw [he] at rt
      have rt : r_tk nr self r fr x = (r_en r (fu r.en (ord k0) none), match e.on with | some q => [(q.1, ce_k (nI q.2) 4 (fun _ => 0) 0)] | none => []) := rt
      have at0 := I.at (show k0 < 12 by have := I.1; omega)
      obtain ⟨tn, S, V, WW, C, ⟨b0, b1, b2, b3, b4⟩, tq, sr, ml⟩ := id E
      have hf := hen _ e he
      have fin : ∀ (lv : on_V) (h2 : on_H) (lk2 : Nat → List aB), lv 0 = some (.ref o) → lv 3 = some (.ref R) → lv 5 = some (.ref (es k0)) → n_sd self lk (r_tk nr self r fr x).2 = lk2 → mk_L o lk2 h2 → (∀ b, b ≠ o + 6 → b ≠ o + 7 → h2 b = h b) → on_E G M_M_relayTakes 124 lv [] h2 sz 0 0 (fun v h1 z => v = none ∧ z = sz ∧ mY o R self x3 F lk (r_tk nr self r fr x) h h1) := fun lv h2 lk2 l0 l1 l2 el L2 t2 => by
        have K2 := K.lnk L2 t2
        have o2 := K2.1.ob.1
        refine on_relv (l := [(0, .ref o), (3, .ref R), (5, .ref (es k0))]) ⟨l0, l1, l2, trivial⟩ ?_
        first | refine on_aload_n (pc' := 125) rfl rfl rfl rfl ?_ | refine on_aload_nQ (pc' := 125) rfl rfl rfl rfl ?_
        first | refine on_aload_n (pc' := 126) rfl rfl rfl rfl ?_ | refine on_aload_nQ (pc' := 126) rfl rfl rfl rfl ?_
        first | refine on_aload (pc' := 128) rfl rfl rfl ?_ | refine on_aloadQ (pc' := 128) rfl rfl rfl ?_
        refine on_callV (pc' := 131) (As := [.ref R, .ref (es k0)]) (rest := []) (b := o) rfl rfl cw_M_relayTakes_352 (o2) rfl rfl (Nat.le_of_ble_eq_true rfl) (Nat.zero_le _) (Nat.zero_le _) (c_M_remove K2.2.2.2.1 K2.2.2.1 hk0) ?_
        rintro v h3 z ⟨rfl, rfl, S3, t3⟩
        obtain ⟨K3', f3⟩ := K2.rem hk0 S3 t3
        refine on_goto (tgt := 271) rfl rfl ?_
        refine on_vreturn rfl rfl ?_
        refine ⟨rfl, rfl, ⟨n - 1, fu ord k0 (ord (n - 1)), fun k => es (sw k0 (n - 1) k), ?_⟩, fun b c1 c2 => (f3 b c1 c2).trans (t2 b (by omega) (by omega))⟩
        rw [el, show (r_tk nr self r fr x).1 = r_en r (fu r.en (ord k0) none) from congrArg Prod.fst rt]
        exact K3'
      show on_E G M_M_relayTakes 87 _ [.ref (es k0)] h sz _ _ _
      first | refine on_astore (pc' := 89) rfl rfl (by decide) ?_ | refine on_astoreQ (pc' := 89) rfl rfl (by decide) ?_
      first | refine on_aload (pc' := 91) rfl rfl rfl ?_ | refine on_aloadQ (pc' := 91) rfl rfl rfl ?_
      refine on_ifnullR (pc' := 94) rfl rfl ?_
      first | refine on_aload (pc' := 96) rfl rfl rfl ?_ | refine on_aloadQ (pc' := 96) rfl rfl rfl ?_
      first | apply on_get (pc' := 99) rfl rfl fl_M_342 | apply on_getN (pc' := 99) rfl rfl fl_M_342
      · repeat (first | assumption | exact on_up_eq _ _ _ | refine (on_up_ne (by omega)).trans ?_)
      · rfl
      refine on_iconst (pc' := 100) (v := (-1)) rfl rfl li_m1 ?_
      refine on_icmp_eq (pc' := 103) (tgt := 124) rfl rfl rfl (fun cq => ?_) (fun cq => ?_)
      · cases w : e.on with
        | none => exact fin _ h _ rfl rfl rfl (by rw [rt, w]; rfl) KL (fun _ _ _ => rfl)
        | some q =>
          rw [w] at cq
          exact absurd cq ((by decide : ∀ f, f < 10 → ¬ nI f = -1) q.1 (heo _ e q he w))
      · cases w : e.on with
        | none =>
          rw [w] at cq
          exact absurd rfl cq
        | some q =>
          clear cq
          have q10 := heo _ e q he w
          rw [w] at b0
          have b2 : h (es k0) = some (.inr (14, [.int (nI e.fr), .int e.fn, .int (nI q.1), .int tn, .int (bI e.wt), .ref (es k0 + 1), .int (nI e.st.length), .ref (es k0 + 10), .ref (es k0 + 11), .ref (es k0 + 12), .ref (es k0 + 13)])) := b0
          rw [tq q w] at b2
          first | refine on_aload_n (pc' := 104) rfl rfl rfl rfl ?_ | refine on_aload_nQ (pc' := 104) rfl rfl rfl rfl ?_
          refine on_iload_n (pc' := 105) rfl rfl rfl rfl ?_
          first | refine on_aload (pc' := 107) rfl rfl rfl ?_ | refine on_aloadQ (pc' := 107) rfl rfl rfl ?_
          first | apply on_get (pc' := 110) rfl rfl fl_M_342 | apply on_getN (pc' := 110) rfl rfl fl_M_342
          · repeat (first | assumption | exact on_up_eq _ _ _ | refine (on_up_ne (by omega)).trans ?_)
          · rfl
          first | refine on_aload (pc' := 112) rfl rfl rfl ?_ | refine on_aloadQ (pc' := 112) rfl rfl rfl ?_
          first | apply on_get (pc' := 115) rfl rfl fl_M_345 | apply on_getN (pc' := 115) rfl rfl fl_M_345
          · repeat (first | assumption | exact on_up_eq _ _ _ | refine (on_up_ne (by omega)).trans ?_)
          · rfl
          refine on_iconst (pc' := 116) (v := 4) rfl rfl li_4 ?_
          first | refine on_aload_n (pc' := 117) rfl rfl rfl rfl ?_ | refine on_aload_nQ (pc' := 117) rfl rfl rfl rfl ?_
          first | apply on_get (pc' := 120) rfl rfl fl_M_73 | apply on_getN (pc' := 120) rfl rfl fl_M_73
          · repeat (first | assumption | exact on_up_eq _ _ _ | refine (on_up_ne (by omega)).trans ?_)
          · rfl
          refine on_iconst (pc' := 121) (v := 0) rfl rfl li_0 ?_
          refine on_callV (pc' := 124) (As := [.int (nI self), .int (nI q.1), .int (nI q.2), .int (nI 4), .ref (o + 24), .int (nI 0)]) (rest := []) (b := o) rfl rfl cw_M_relayTakes_348 (o1) rfl rfl (Nat.le_of_ble_eq_true rfl) (Nat.zero_le _) (Nat.zero_le _) (c_M_lay (x := fun _ => 0) (n := 0) o1 KL (by omega) q10 (by decide) hq.w (by omega) (by omega) ⟨Nat.zero_le _, by decide⟩ (Nat.zero_le _) (fun f _ i hi => absurd hi (Nat.not_lt_zero i))) ?_
          rintro v h2 z ⟨rfl, rfl, L2, t2⟩
          exact fin _ h2 _ rfl rfl rfl (by rw [rt, w]; rfl) L2 t2
  · refine same _ ?_
    unfold r_tk
    dsimp only
    rw [if_neg n10, if_neg n11, if_neg n3, if_neg n4]
end MRT
