/-! the reference: CREATE at a relay, whole -/
section MCX
variable {G : on_G} {o R self n nr nk B fr s sz bc bs : Nat} {num : Int32} {x3 : Int32 × Int32 × Int32} {F : Nat → Option Nat} {lk : Nat → List aB} {r : aR} {e : aE} {ord es : Nat → Nat} {h h1 : on_H} {Q : Option Value → on_H → Nat → Prop} {x : aB}
set_option maxHeartbeats 16000000 in
theorem c_M_created (K : mR o R self x3 F lk r n ord es h) (hen : ∀ s e, r.en s = some e → e.fr < 10) (hfr : fr < 10) (hq : rB h (o + 24) 140 x) (hnum : num = ce_n x) (hdr : True) (ufr : ∀ s t, p_fr r.en fr num s = true → p_fr r.en fr num t = true → s = t) (x4 : x 4 = 10) :
    on_Ct G M_M_created [.ref o, .int (nI self), .int (nI fr), .int num] h sz 0 0 (fun v h1 z => v = none ∧ z = sz ∧ mY o R self x3 F lk (r_tk nr self r fr x) h h1) := by
  obtain ⟨W, KL, K3, I, k5, k6, k7, k8⟩ := id K
  have o1 := W.ob.1
  have i6 : self < 6 ∧ 6 < 2 ^ 31 := ⟨k8, by decide⟩
  obtain ⟨X, x1, X'⟩ := id hq
  have ro : h R = some (.inr (15, [.long r.se, .int r.dr, .ref (R + 1), .ref (R + 2), .ref (R + 3), .int (nI r.we), .int (nI r.nx), .ref (R + 4), .int (nI n), .ref (R + 5), .int (nI r.ke.length)])) := K3.1
  obtain ⟨KY, ky1, ky2⟩ := K3.2.2.1
  obtain ⟨MK, mk1, mk2⟩ := K3.2.2.2.1
  obtain ⟨es1, es2, es3⟩ := id K3.2.2.2.2.1
  have n12 := I.1
  have ni : n < 2 ^ 32 := Nat.lt_of_le_of_lt n12 (by decide)
  have rt : r_tk nr self r fr x = (match (if e_fr r.en fr num = none ∧ r_me r x = true then e_fe r.en else none) with
      | some s => ((r.se, r.dr + 1, r.we, r.nx, fu r.en s (some (fr, num, none, false, ks_f (an_t r.se r.dr x), ks_b (an_t r.se r.dr x), [])), r.ke), [(fr, ce_k num 11 (an_p r.se r.dr x) 64)])
      | none => (r, [(fr, ce_k num 4 (fun _ => 0) 0)])) := by
    unfold r_tk
    dsimp only
    rw [if_pos x4, hnum]
    rfl
  refine on_Ct.of (by decide) v_M_created (Nat.le_of_ble_eq_true rfl) ?_
  first | refine on_aload_n (pc' := 1) rfl rfl rfl rfl ?_ | refine on_aload_nQ (pc' := 1) rfl rfl rfl rfl ?_
  first | apply on_get (pc' := 4) rfl rfl fl_M_9 | apply on_getN (pc' := 4) rfl rfl fl_M_9
  · repeat (first | assumption | exact on_up_eq _ _ _ | refine (on_up_ne (by omega)).trans ?_)
  · rfl
  refine on_iload_n (pc' := 5) rfl rfl rfl rfl ?_
  apply on_aaloadK (pc' := 6) rfl rfl
  · repeat (first | assumption | exact on_up_eq _ _ _ | refine (on_up_ne (by omega)).trans ?_)
  · rfl
  · first | assumption | exact on_lit _ | rfl
  · first | assumption | omega | decide
  rw [k6]
  show on_E G M_M_created 6 _ [.ref R] h sz _ _ _
  first | refine on_astore (pc' := 8) rfl rfl (by decide) ?_ | refine on_astoreQ (pc' := 8) rfl rfl (by decide) ?_
  refine on_iconst (pc' := 9) (v := 1) rfl rfl li_1 ?_
  refine on_istore (pc' := 11) rfl rfl (by decide) ?_
  refine on_iconst (pc' := 12) (v := 0) rfl rfl li_0 ?_
  refine on_istore (pc' := 14) rfl rfl (by decide) ?_
  refine on_relv (l := [(0, .ref o), (1, .int (nI self)), (2, .int (nI fr)), (3, .int num), (4, .ref R), (5, .int (bI true)), (6, .int (nI 0))]) ⟨rfl, rfl, rfl, rfl, rfl, rfl, rfl, trivial⟩ ?_
  refine mcr_1 (fs := []) o1 x1 X' ro mk1 mk2 (fun b hb => ?_) 4 0 true rfl ⟨fun _ i hi => absurd hi (Nat.not_lt_zero i), fun _ => rfl⟩
  refine on_iconst (pc' := 59) (v := 0) rfl rfl li_0 ?_
  refine on_istore (pc' := 61) rfl rfl (by decide) ?_
  refine on_relv (l := [(0, .ref o), (1, .int (nI self)), (2, .int (nI fr)), (3, .int num), (4, .ref R), (5, .int (bI b)), (6, .int (nI 0))]) ⟨rfl, rfl, rfl, rfl, rfl, rfl, rfl, trivial⟩ ?_
  refine mcr_2 o1 x1 X' ro ky1 ky2 (fun b hb => ?_) 32 0 b rfl hb
  have hb : b = true ↔ r_me r x = true := hb.trans r_me_iff.symm
  have fail : ∀ lv, lv 0 = some (.ref o) → lv 1 = some (.int (nI self)) → lv 2 = some (.int (nI fr)) → lv 3 = some (.int num) → r_tk nr self r fr x = (r, [(fr, ce_k num 4 (fun _ => 0) 0)]) → on_E G M_M_created 133 lv [] h sz 0 0 (fun v h1 z => v = none ∧ z = sz ∧ mY o R self x3 F lk (r_tk nr self r fr x) h h1) := fun lv l0 l1 l2 l3 z => by
    refine on_relv (l := [(0, .ref o), (1, .int (nI self)), (2, .int (nI fr)), (3, .int num)]) ⟨l0, l1, l2, l3, trivial⟩ ?_
    first | refine on_aload_n (pc' := 134) rfl rfl rfl rfl ?_ | refine on_aload_nQ (pc' := 134) rfl rfl rfl rfl ?_
    refine on_iload_n (pc' := 135) rfl rfl rfl rfl ?_
    refine on_iload_n (pc' := 136) rfl rfl rfl rfl ?_
    refine on_iload_n (pc' := 137) rfl rfl rfl rfl ?_
    refine on_iconst (pc' := 138) (v := 4) rfl rfl li_4 ?_
    first | refine on_aload_n (pc' := 139) rfl rfl rfl rfl ?_ | refine on_aload_nQ (pc' := 139) rfl rfl rfl rfl ?_
    first | apply on_get (pc' := 142) rfl rfl fl_M_73 | apply on_getN (pc' := 142) rfl rfl fl_M_73
    · repeat (first | assumption | exact on_up_eq _ _ _ | refine (on_up_ne (by omega)).trans ?_)
    · rfl
    refine on_iconst (pc' := 143) (v := 0) rfl rfl li_0 ?_
    refine on_callV (pc' := 146) (As := [.int (nI self), .int (nI fr), .int num, .int (nI 4), .ref (o + 24), .int (nI 0)]) (rest := []) (b := o) rfl rfl cw_M_created_348 (o1) rfl rfl (Nat.le_of_ble_eq_true rfl) (Nat.zero_le _) (Nat.zero_le _) (c_M_lay (x := x) o1 KL (by omega) hfr (by decide) hq.w (by omega) (by omega) ⟨by decide, by decide⟩ (by decide) (fun f hf i hi => absurd hi (Nat.not_lt_zero i))) ?_
    rintro v h3 sz ⟨rfl, rfl, L3, t3⟩
    refine on_vreturn rfl rfl ?_
    rw [z]
    rw [ce_k_0 (q := fun _ => 0)] at L3
    exact ⟨rfl, rfl, ⟨n, ord, es, K.lnk L3 t3⟩, fun b c1 c2 => t3 b (by omega) (by omega)⟩
  first | refine on_aload_n (pc' := 108) rfl rfl rfl rfl ?_ | refine on_aload_nQ (pc' := 108) rfl rfl rfl rfl ?_
  first | refine on_aload (pc' := 110) rfl rfl rfl ?_ | refine on_aloadQ (pc' := 110) rfl rfl rfl ?_
  refine on_iload_n (pc' := 111) rfl rfl rfl rfl ?_
  refine on_iload_n (pc' := 112) rfl rfl rfl rfl ?_
  refine on_callV (pc' := 115) (As := [.ref R, .int (nI fr), .int num]) (rest := []) (b := o) rfl rfl cw_M_created_363 (o1) rfl rfl (Nat.le_of_ble_eq_true rfl) (Nat.zero_le _) (Nat.zero_le _) (c_M_cameFrom I K3 hfr hen) ?_
  rintro v h sz ⟨rfl, rfl, rfl⟩
  cases ef : (List.range n).find? (fun k => p_fr r.en fr num (ord k)) with
  | some k0 =>
    obtain ⟨hk0, e0⟩ := ord_some I ufr ef
    have e0 : e_fr r.en fr num = some (ord k0) := e0
    show on_E G M_M_created 115 _ [.ref (es k0)] h sz _ _ _
    refine on_ifnonnullR (tgt := 133) rfl rfl ?_
    refine fail _ rfl rfl rfl rfl ?_
    rw [rt, if_neg (by rw [e0]; rintro ⟨w, -⟩; exact (nomatch w))]
  | none =>
    have e0 : e_fr r.en fr num = none := ord_none I (fun s hs => by obtain ⟨e, he, -⟩ := p_fr_some hs; exact ⟨e, he⟩) ef
    have n12' := e_fe_n I (fun k hk => by obtain ⟨e, he, -⟩ := es2 k hk; exact ⟨e, he⟩)
    show on_E G M_M_created 115 _ [va_rf none] h sz _ _ _
    refine on_ifnonnullN (pc' := 118) rfl rfl ?_
    first | refine on_aload (pc' := 120) rfl rfl rfl ?_ | refine on_aloadQ (pc' := 120) rfl rfl rfl ?_
    first | apply on_get (pc' := 123) rfl rfl fl_M_333 | apply on_getN (pc' := 123) rfl rfl fl_M_333
    · repeat (first | assumption | exact on_up_eq _ _ _ | refine (on_up_ne (by omega)).trans ?_)
    · rfl
    refine on_bipush (pc' := 125) (v := 12) rfl rfl lb_12 ?_
    refine on_icmp_eq (pc' := 128) (tgt := 133) rfl rfl rfl (fun cq => ?_) (fun cq => ?_)
    · have en : n = 12 := nI_inj32 ni (by decide) cq
      refine fail _ rfl rfl rfl rfl ?_
      rw [rt, n12'.mp en, ite_self]
    · have nn : ¬ n = 12 := fun w => cq (by rw [w]; rfl)
      clear cq
      refine on_iload (pc' := 130) rfl rfl rfl ?_
      refine on_if_ne (pc' := 133) (tgt := 147) rfl rfl rfl (fun cq => ?_) (fun cq => ?_)
      rotate_left
      · have bf := bI_eq.mp cq
        refine fail _ rfl rfl rfl rfl ?_
        rw [rt, if_neg (by rintro ⟨-, w⟩; rw [bf] at hb; exact (nomatch hb.mpr w))]
      · have bt := hb.mp (bI_ne.mp cq)
        clear cq
        have hn : n < 12 := by omega
        have i12 : n < 12 ∧ 12 < 2 ^ 31 := ⟨hn, by decide⟩
        obtain ⟨s, hs⟩ : ∃ s, e_fe r.en = some s := by
          cases z : e_fe r.en with
          | none => exact absurd (n12'.mpr z) nn
          | some s => exact ⟨s, rfl⟩
        have s12 : s < 12 := List.mem_range.mp (List.mem_of_find?_eq_some hs)
        have sn : r.en s = none := by
          have := List.find?_some hs
          cases z : r.en s with
          | none => rfl
          | some e => rw [z] at this; exact (nomatch this)
        rw [if_pos ⟨e0, bt⟩, hs] at rt
        have rt : r_tk nr self r fr x = ((r.se, r.dr + 1, r.we, r.nx, fu r.en s (some (fr, num, none, false, ks_f (an_t r.se r.dr x), ks_b (an_t r.se r.dr x), [])), r.ke), [(fr, ce_k num 11 (an_p r.se r.dr x) 64)]) := rt
        have at0 := I.at hn
        obtain ⟨a0, a1, a2, a3, a4, a5, S, V, WW, C, ⟨b0, b1, b2, b3, b4⟩, ml⟩ := es3 n (Nat.le_refl _) hn
        have l0 := ml.1
        first | refine on_aload (pc' := 149) rfl rfl rfl ?_ | refine on_aloadQ (pc' := 149) rfl rfl rfl ?_
        first | apply on_get (pc' := 152) rfl rfl fl_M_324 | apply on_getN (pc' := 152) rfl rfl fl_M_324
        · repeat (first | assumption | exact on_up_eq _ _ _ | refine (on_up_ne (by omega)).trans ?_)
        · rfl
        first | refine on_aload (pc' := 154) rfl rfl rfl ?_ | refine on_aloadQ (pc' := 154) rfl rfl rfl ?_
        first | apply on_get (pc' := 157) rfl rfl fl_M_333 | apply on_getN (pc' := 157) rfl rfl fl_M_333
        · repeat (first | assumption | exact on_up_eq _ _ _ | refine (on_up_ne (by omega)).trans ?_)
        · rfl
        apply on_aaloadK (pc' := 158) rfl rfl
        · repeat (first | assumption | exact on_up_eq _ _ _ | refine (on_up_ne (by omega)).trans ?_)
        · rfl
        · first | assumption | exact on_lit _ | rfl
        · first | assumption | omega | decide
        first | refine on_astore (pc' := 160) rfl rfl (by decide) ?_ | refine on_astoreQ (pc' := 160) rfl rfl (by decide) ?_
        first | refine on_aload (pc' := 162) rfl rfl rfl ?_ | refine on_aloadQ (pc' := 162) rfl rfl rfl ?_
        refine on_dup (pc' := 163) rfl rfl rfl ?_
        first | apply on_get (pc' := 166) rfl rfl fl_M_333 | apply on_getN (pc' := 166) rfl rfl fl_M_333
        · repeat (first | assumption | exact on_up_eq _ _ _ | refine (on_up_ne (by omega)).trans ?_)
        · rfl
        refine on_iconst (pc' := 167) (v := 1) rfl rfl li_1 ?_
        refine on_iadd (pc' := 168) rfl rfl ?_
        rw [nI_1]
        first | apply on_put (pc' := 171) rfl rfl fp_M_333 | apply on_putN (pc' := 171) rfl rfl fp_M_333
        · repeat (first | assumption | exact on_up_eq _ _ _ | refine (on_up_ne (by omega)).trans ?_)
        · first | rfl | assumption
        · first | rfl | assumption
        · exact Nat.le_of_ble_eq_true rfl
        first | refine on_aload (pc' := 173) rfl rfl rfl ?_ | refine on_aloadQ (pc' := 173) rfl rfl rfl ?_
        refine on_iload_n (pc' := 174) rfl rfl rfl rfl ?_
        first | apply on_put (pc' := 177) rfl rfl fp_M_336 | apply on_putN (pc' := 177) rfl rfl fp_M_336
        · repeat (first | assumption | exact on_up_eq _ _ _ | refine (on_up_ne (by omega)).trans ?_)
        · first | rfl | assumption
        · first | rfl | assumption
        · exact Nat.le_of_ble_eq_true rfl
        first | refine on_aload (pc' := 179) rfl rfl rfl ?_ | refine on_aloadQ (pc' := 179) rfl rfl rfl ?_
        refine on_iload_n (pc' := 180) rfl rfl rfl rfl ?_
        first | apply on_put (pc' := 183) rfl rfl fp_M_339 | apply on_putN (pc' := 183) rfl rfl fp_M_339
        · repeat (first | assumption | exact on_up_eq _ _ _ | refine (on_up_ne (by omega)).trans ?_)
        · first | rfl | assumption
        · first | rfl | assumption
        · exact Nat.le_of_ble_eq_true rfl
        first | refine on_aload (pc' := 185) rfl rfl rfl ?_ | refine on_aloadQ (pc' := 185) rfl rfl rfl ?_
        refine on_iconst (pc' := 186) (v := (-1)) rfl rfl li_m1 ?_
        first | apply on_put (pc' := 189) rfl rfl fp_M_342 | apply on_putN (pc' := 189) rfl rfl fp_M_342
        · repeat (first | assumption | exact on_up_eq _ _ _ | refine (on_up_ne (by omega)).trans ?_)
        · first | rfl | assumption
        · first | rfl | assumption
        · exact Nat.le_of_ble_eq_true rfl
        first | refine on_aload (pc' := 191) rfl rfl rfl ?_ | refine on_aloadQ (pc' := 191) rfl rfl rfl ?_
        refine on_iconst (pc' := 192) (v := 0) rfl rfl li_0 ?_
        first | apply on_put (pc' := 195) rfl rfl fp_M_370 | apply on_putN (pc' := 195) rfl rfl fp_M_370
        · repeat (first | assumption | exact on_up_eq _ _ _ | refine (on_up_ne (by omega)).trans ?_)
        · first | rfl | assumption
        · first | rfl | assumption
        · exact Nat.le_of_ble_eq_true rfl
        first | refine on_aload (pc' := 197) rfl rfl rfl ?_ | refine on_aloadQ (pc' := 197) rfl rfl rfl ?_
        refine on_iconst (pc' := 198) (v := 0) rfl rfl li_0 ?_
        first | apply on_put (pc' := 201) rfl rfl fp_M_381 | apply on_putN (pc' := 201) rfl rfl fp_M_381
        · repeat (first | assumption | exact on_up_eq _ _ _ | refine (on_up_ne (by omega)).trans ?_)
        · first | rfl | assumption
        · first | rfl | assumption
        · exact Nat.le_of_ble_eq_true rfl
        generalize eh : on_up (on_up (on_up (on_up (on_up (on_up h R _) (es n) _) (es n) _) (es n) _) (es n) _) (es n) _ = h1
        have t1 : ∀ b, b ≠ R → b ≠ es n → h1 b = h b := fun b c1 c2 => by
          rw [← eh, on_up_ne c2, on_up_ne c2, on_up_ne c2, on_up_ne c2, on_up_ne c2, on_up_ne c1]
        have y1 : h1 (es n) = some (.inr (14, [.int (nI fr), .int num, .int (-1), .int a3, .int 0, .ref (es n + 1), .int 0, .ref (es n + 10), .ref (es n + 11), .ref (es n + 12), .ref (es n + 13)])) := by
          rw [← eh]
          exact on_up_eq _ _ _
        have r1 : h1 R = some (.inr (15, [.long r.se, .int r.dr, .ref (R + 1), .ref (R + 2), .ref (R + 3), .int (nI r.we), .int (nI r.nx), .ref (R + 4), .int (nI (n + 1)), .ref (R + 5), .int (nI r.ke.length)])) := by
          rw [← eh, on_up_ne (by omega), on_up_ne (by omega), on_up_ne (by omega), on_up_ne (by omega), on_up_ne (by omega)]
          exact on_up_eq _ _ _
        clear eh
        have W1 : mw o x3 h1 := W.keep (fun a _ _ _ => t1 a (by omega) (by omega))
        have o2 := W1.ob.1
        first | refine on_aload_n (pc' := 202) rfl rfl rfl rfl ?_ | refine on_aload_nQ (pc' := 202) rfl rfl rfl rfl ?_
        first | refine on_aload (pc' := 204) rfl rfl rfl ?_ | refine on_aloadQ (pc' := 204) rfl rfl rfl ?_
        first | apply on_get (pc' := 207) rfl rfl fl_M_308 | apply on_getN (pc' := 207) rfl rfl fl_M_308
        · repeat (first | assumption | exact on_up_eq _ _ _ | refine (on_up_ne (by omega)).trans ?_)
        · rfl
        first | refine on_aload (pc' := 209) rfl rfl rfl ?_ | refine on_aloadQ (pc' := 209) rfl rfl rfl ?_
        first | apply on_get (pc' := 212) rfl rfl fl_M_384 | apply on_getN (pc' := 212) rfl rfl fl_M_384
        · repeat (first | assumption | exact on_up_eq _ _ _ | refine (on_up_ne (by omega)).trans ?_)
        · rfl
        first | refine on_aload_n (pc' := 213) rfl rfl rfl rfl ?_ | refine on_aload_nQ (pc' := 213) rfl rfl rfl rfl ?_
        first | apply on_get (pc' := 216) rfl rfl fl_M_70 | apply on_getN (pc' := 216) rfl rfl fl_M_70
        · repeat (first | assumption | exact on_up_eq _ _ _ | refine (on_up_ne (by omega)).trans ?_)
        · rfl
        refine on_callV (pc' := 219) (As := [.long r.se, .int r.dr, .ref (o + 23)]) (rest := []) (b := o) rfl rfl cw_M_created_387 (o2) rfl rfl (Nat.le_of_ble_eq_true rfl) (Nat.zero_le _) (Nat.zero_le _) (c_M_drawW W1 W1.r2 (by omega)) ?_
        rintro v h2 sz ⟨rfl, rfl, W2, D2, t2⟩
        have r2 := (t2 R (by omega) (by omega)).trans r1
        first | refine on_aload (pc' := 221) rfl rfl rfl ?_ | refine on_aloadQ (pc' := 221) rfl rfl rfl ?_
        refine on_dup (pc' := 222) rfl rfl rfl ?_
        first | apply on_get (pc' := 225) rfl rfl fl_M_384 | apply on_getN (pc' := 225) rfl rfl fl_M_384
        · repeat (first | assumption | exact on_up_eq _ _ _ | refine (on_up_ne (by omega)).trans ?_)
        · rfl
        refine on_iconst (pc' := 226) (v := 1) rfl rfl li_1 ?_
        refine on_iadd (pc' := 227) rfl rfl ?_
        first | apply on_put (pc' := 230) rfl rfl fp_M_384 | apply on_putN (pc' := 230) rfl rfl fp_M_384
        · repeat (first | assumption | exact on_up_eq _ _ _ | refine (on_up_ne (by omega)).trans ?_)
        · first | rfl | assumption
        · first | rfl | assumption
        · exact Nat.le_of_ble_eq_true rfl
        have t3 : ∀ b, b ≠ R → on_up h2 R (.inr (15, [.long r.se, .int (r.dr + 1), .ref (R + 1), .ref (R + 2), .ref (R + 3), .int (nI r.we), .int (nI r.nx), .ref (R + 4), .int (nI (n + 1)), .ref (R + 5), .int (nI r.ke.length)])) b = h2 b := fun b hb => on_up_ne hb
        have r3 : on_up h2 R (.inr (15, [.long r.se, .int (r.dr + 1), .ref (R + 1), .ref (R + 2), .ref (R + 3), .int (nI r.we), .int (nI r.nx), .ref (R + 4), .int (nI (n + 1)), .ref (R + 5), .int (nI r.ke.length)])) R = _ := on_up_eq _ _ _
        show on_E G M_M_created 230 _ [] (on_up h2 R (.inr (15, [.long r.se, .int (r.dr + 1), .ref (R + 1), .ref (R + 2), .ref (R + 3), .int (nI r.we), .int (nI r.nx), .ref (R + 4), .int (nI (n + 1)), .ref (R + 5), .int (nI r.ke.length)]))) sz _ _ _
        generalize on_up h2 R (.inr (15, [.long r.se, .int (r.dr + 1), .ref (R + 1), .ref (R + 2), .ref (R + 3), .int (nI r.we), .int (nI r.nx), .ref (R + 4), .int (nI (n + 1)), .ref (R + 5), .int (nI r.ke.length)])) = h3 at t3 r3 ⊢
        have W3 : mw o x3 h3 := W2.keep (fun a _ _ _ => t3 a (by omega))
        have D3 := D2.keep (h2 := h3) (t3 _ (by omega))
        have o3 := W3.ob.1
        have T3 : ∀ b, b ≠ R → b ≠ es n → (b < o + 8 ∨ o + 11 ≤ b) → b ≠ o + 23 → h3 b = h b := fun b c1 c2 c3 c4 => (t3 b c1).trans ((t2 b c4 c3).trans (t1 b c1 c2))
        have y3 := (t3 _ (by omega)).trans ((t2 (es n) (by omega) (by omega)).trans y1)
        clear t1 t2 t3 r1 r2 y1
        first | refine on_aload_n (pc' := 231) rfl rfl rfl rfl ?_ | refine on_aload_nQ (pc' := 231) rfl rfl rfl rfl ?_
        refine on_callV (pc' := 234) (As := []) (rest := []) (b := o) rfl rfl cw_M_created_317 (o3) rfl rfl (Nat.le_of_ble_eq_true rfl) (Nat.zero_le _) (Nat.zero_le _) (c_M_baseW W3) ?_
        rintro v h4 sz ⟨rfl, rfl, W4, B4, t4⟩
        have o4 := W4.ob.1
        first | refine on_aload_n (pc' := 235) rfl rfl rfl rfl ?_ | refine on_aload_nQ (pc' := 235) rfl rfl rfl rfl ?_
        first | refine on_aload_n (pc' := 236) rfl rfl rfl rfl ?_ | refine on_aload_nQ (pc' := 236) rfl rfl rfl rfl ?_
        first | apply on_get (pc' := 239) rfl rfl fl_M_70 | apply on_getN (pc' := 239) rfl rfl fl_M_70
        · repeat (first | assumption | exact on_up_eq _ _ _ | refine (on_up_ne (by omega)).trans ?_)
        · rfl
        first | refine on_aload_n (pc' := 240) rfl rfl rfl rfl ?_ | refine on_aload_nQ (pc' := 240) rfl rfl rfl rfl ?_
        first | apply on_get (pc' := 243) rfl rfl fl_M_64 | apply on_getN (pc' := 243) rfl rfl fl_M_64
        · repeat (first | assumption | exact on_up_eq _ _ _ | refine (on_up_ne (by omega)).trans ?_)
        · rfl
        first | refine on_aload_n (pc' := 244) rfl rfl rfl rfl ?_ | refine on_aload_nQ (pc' := 244) rfl rfl rfl rfl ?_
        first | apply on_get (pc' := 247) rfl rfl fl_M_67 | apply on_getN (pc' := 247) rfl rfl fl_M_67
        · repeat (first | assumption | exact on_up_eq _ _ _ | refine (on_up_ne (by omega)).trans ?_)
        · rfl
        refine on_callV (pc' := 250) (As := [.ref (o + 23), .ref (o + 21), .ref (o + 22)]) (rest := []) (b := o) rfl rfl cw_M_created_320 (o4) rfl rfl (Nat.le_of_ble_eq_true rfl) (Nat.zero_le _) (Nat.zero_le _) (c_M_curveW W4 (D3.keep (t4 _ (by omega))) (by omega) B4 W4.r1 (by omega)) ?_
        rintro v h5 sz ⟨rfl, rfl, W5, ⟨Y, y5, Y5⟩, t5⟩
        have o5 := W5.ob.1
        have T5 : ∀ b, b ≠ R → b ≠ es n → (b < o + 8 ∨ o + 11 ≤ b) → b ≠ o + 23 → b ≠ o + 21 → b ≠ o + 22 → (b < o + 29 ∨ o + 41 ≤ b) → h5 b = h b := fun b c1 c2 c3 c4 c5 c6 c7 => (t5 b c6 c7).trans ((t4 b c5).trans (T3 b c1 c2 c3 c4))
        have D5 := (D3.keep (t4 _ (by omega))).keep (t5 (o + 23) (by omega) (by omega))
        have r5 := (t5 R (by omega) (by omega)).trans ((t4 _ (by omega)).trans r3)
        have z5 := (t5 (es n) (by omega) (by omega)).trans ((t4 _ (by omega)).trans y3)
        have x5 := (T5 (o + 24) (by omega) (by omega) (by omega) (by omega) (by omega) (by omega) (by omega)).trans x1
        obtain ⟨P0, p0⟩ := W5.pl
        obtain ⟨T0, tt0⟩ := W5.pt
        clear t4 t5 T3 r3 y3
        first | refine on_aload_n (pc' := 251) rfl rfl rfl rfl ?_ | refine on_aload_nQ (pc' := 251) rfl rfl rfl rfl ?_
        first | apply on_get (pc' := 254) rfl rfl fl_M_76 | apply on_getN (pc' := 254) rfl rfl fl_M_76
        · repeat (first | assumption | exact on_up_eq _ _ _ | refine (on_up_ne (by omega)).trans ?_)
        · rfl
        first | refine on_astore (pc' := 256) rfl rfl (by decide) ?_ | refine on_astoreQ (pc' := 256) rfl rfl (by decide) ?_
        refine on_iconst (pc' := 257) (v := 0) rfl rfl li_0 ?_
        refine on_istore (pc' := 259) rfl rfl (by decide) ?_
        have eh : on_up (on_up h5 (o + 25) (on_ai 0 135 P0)) (o + 21) (on_ai 0 32 T0) = h5 := funext fun b => by
          by_cases z : b = o + 21
          · rw [z, on_up_eq, tt0]
          · rw [on_up_ne z]
            by_cases w : b = o + 25
            · rw [w, on_up_eq, p0]
            · exact on_up_ne w
        refine on_relv (l := [(0, .ref o), (1, .int (nI self)), (2, .int (nI fr)), (3, .int num), (4, .ref R), (6, .ref (es n)), (7, .ref (o + 25)), (8, .int (nI 0))]) ⟨rfl, rfl, rfl, rfl, rfl, rfl, rfl, rfl, trivial⟩ ?_
        rw [← eh]
        refine mcr_3 o5 x5 y5 (fun P T hP hT => ?_) 32 0 P0 T0 rfl (fun i hi => absurd hi (Nat.not_lt_zero i)) (fun i hi => absurd hi (Nat.not_lt_zero i))
        clear eh
        have t6 : ∀ b, b ≠ o + 21 → b ≠ o + 25 → on_up (on_up h5 (o + 25) (on_ai 0 135 P)) (o + 21) (on_ai 0 32 T) b = h5 b := fun b c1 c2 => (on_up_ne c1).trans (on_up_ne c2)
        have p6 : on_up (on_up h5 (o + 25) (on_ai 0 135 P)) (o + 21) (on_ai 0 32 T) (o + 25) = some (on_ai 0 135 P) := (on_up_ne (by omega)).trans (on_up_eq _ _ _)
        have q6 : on_up (on_up h5 (o + 25) (on_ai 0 135 P)) (o + 21) (on_ai 0 32 T) (o + 21) = some (on_ai 0 32 T) := on_up_eq _ _ _
        have W6 : mw o x3 (on_up (on_up h5 (o + 25) (on_ai 0 135 P)) (o + 21) (on_ai 0 32 T)) := (W5.row (q := o + 25) (h1 := on_up h5 (o + 25) (on_ai 0 135 P)) (fun _ _ => by rw [show o + 25 - o = 25 by omega]; exact ⟨P, on_up_eq _ _ _⟩) (by omega) (fun a ha => on_up_ne ha)).row (q := o + 21) (fun _ _ => by rw [show o + 21 - o = 21 by omega]; exact ⟨T, on_up_eq _ _ _⟩) (by omega) (fun a ha => on_up_ne ha)
        generalize on_up (on_up h5 (o + 25) (on_ai 0 135 P)) (o + 21) (on_ai 0 32 T) = h6 at t6 p6 q6 W6 ⊢
        have o6 := W6.ob.1
        have T6 : ∀ b, b ≠ R → b ≠ es n → (b < o + 8 ∨ o + 11 ≤ b) → b ≠ o + 23 → b ≠ o + 21 → b ≠ o + 22 → b ≠ o + 25 → (b < o + 29 ∨ o + 41 ≤ b) → h6 b = h b := fun b c1 c2 c3 c4 c5 c6 c7 c8 => (t6 b c5 c7).trans (T5 b c1 c2 c3 c4 c5 c6 c8)
        have B6 : rB h6 (o + 21) 32 (an_X x) := ⟨T, q6, fun i hi => by rw [hT i hi]; exact X' (41 + i) (by omega)⟩
        have D6 := D5.keep (t6 (o + 23) (by omega) (by omega))
        have r6 := (t6 R (by omega) (by omega)).trans r5
        have z6 := (t6 (es n) (by omega) (by omega)).trans z5
        clear t6 T5 r5 z5 D5 D3 D2 x5 y5 p0 tt0 q6
        first | refine on_aload_n (pc' := 302) rfl rfl rfl rfl ?_ | refine on_aload_nQ (pc' := 302) rfl rfl rfl rfl ?_
        first | refine on_aload_n (pc' := 303) rfl rfl rfl rfl ?_ | refine on_aload_nQ (pc' := 303) rfl rfl rfl rfl ?_
        first | apply on_get (pc' := 306) rfl rfl fl_M_70 | apply on_getN (pc' := 306) rfl rfl fl_M_70
        · repeat (first | assumption | exact on_up_eq _ _ _ | refine (on_up_ne (by omega)).trans ?_)
        · rfl
        first | refine on_aload_n (pc' := 307) rfl rfl rfl rfl ?_ | refine on_aload_nQ (pc' := 307) rfl rfl rfl rfl ?_
        first | apply on_get (pc' := 310) rfl rfl fl_M_64 | apply on_getN (pc' := 310) rfl rfl fl_M_64
        · repeat (first | assumption | exact on_up_eq _ _ _ | refine (on_up_ne (by omega)).trans ?_)
        · rfl
        first | refine on_aload_n (pc' := 311) rfl rfl rfl rfl ?_ | refine on_aload_nQ (pc' := 311) rfl rfl rfl rfl ?_
        first | apply on_get (pc' := 314) rfl rfl fl_M_67 | apply on_getN (pc' := 314) rfl rfl fl_M_67
        · repeat (first | assumption | exact on_up_eq _ _ _ | refine (on_up_ne (by omega)).trans ?_)
        · rfl
        refine on_callV (pc' := 317) (As := [.ref (o + 23), .ref (o + 21), .ref (o + 22)]) (rest := []) (b := o) rfl rfl cw_M_created_320 (o6) rfl rfl (Nat.le_of_ble_eq_true rfl) (Nat.zero_le _) (Nat.zero_le _) (c_M_curveW W6 D6 (by omega) B6 W6.r1 (by omega)) ?_
        rintro v h7 sz ⟨rfl, rfl, W7, A7, t7⟩
        have o7 := W7.ob.1
        have r7 := (t7 R (by omega) (by omega)).trans r6
        have s7 : rB h7 (R + 1) 32 (rs_s r.se) := K3.2.1.keep ((t7 _ (by omega) (by omega)).trans (T6 _ (by omega) (by omega) (by omega) (by omega) (by omega) (by omega) (by omega) (by omega)))
        first | refine on_aload_n (pc' := 318) rfl rfl rfl rfl ?_ | refine on_aload_nQ (pc' := 318) rfl rfl rfl rfl ?_
        first | refine on_aload (pc' := 320) rfl rfl rfl ?_ | refine on_aloadQ (pc' := 320) rfl rfl rfl ?_
        first | apply on_get (pc' := 323) rfl rfl fl_M_314 | apply on_getN (pc' := 323) rfl rfl fl_M_314
        · repeat (first | assumption | exact on_up_eq _ _ _ | refine (on_up_ne (by omega)).trans ?_)
        · rfl
        first | refine on_aload_n (pc' := 324) rfl rfl rfl rfl ?_ | refine on_aload_nQ (pc' := 324) rfl rfl rfl rfl ?_
        first | apply on_get (pc' := 327) rfl rfl fl_M_64 | apply on_getN (pc' := 327) rfl rfl fl_M_64
        · repeat (first | assumption | exact on_up_eq _ _ _ | refine (on_up_ne (by omega)).trans ?_)
        · rfl
        first | refine on_aload_n (pc' := 328) rfl rfl rfl rfl ?_ | refine on_aload_nQ (pc' := 328) rfl rfl rfl rfl ?_
        first | apply on_get (pc' := 331) rfl rfl fl_M_70 | apply on_getN (pc' := 331) rfl rfl fl_M_70
        · repeat (first | assumption | exact on_up_eq _ _ _ | refine (on_up_ne (by omega)).trans ?_)
        · rfl
        refine on_callV (pc' := 334) (As := [.ref (R + 1), .ref (o + 21), .ref (o + 23)]) (rest := []) (b := o) rfl rfl cw_M_created_320 (o7) rfl rfl (Nat.le_of_ble_eq_true rfl) (Nat.zero_le _) (Nat.zero_le _) (c_M_curveW W7 s7 (by omega) (B6.keep (t7 _ (by omega) (by omega))) W7.r2 (by omega)) ?_
        rintro v h8 sz ⟨rfl, rfl, W8, ⟨R2, e2, b2'⟩, t8⟩
        have o8 := W8.ob.1
        have T8 : ∀ b, b ≠ R → b ≠ es n → (b < o + 8 ∨ o + 11 ≤ b) → b ≠ o + 23 → b ≠ o + 21 → b ≠ o + 22 → b ≠ o + 25 → (b < o + 29 ∨ o + 41 ≤ b) → h8 b = h b := fun b c1 c2 c3 c4 c5 c6 c7 c8 => (t8 b c4 c8).trans ((t7 b c6 c8).trans (T6 b c1 c2 c3 c4 c5 c6 c7 c8))
        obtain ⟨R1, e1, b1'⟩ := A7.keep (t8 (o + 22) (by omega) (by omega))
        have r8 := (t8 R (by omega) (by omega)).trans r7
        have z8 := (t8 (es n) (by omega) (by omega)).trans ((t7 _ (by omega) (by omega)).trans z6)
        have p8 := (t8 (o + 25) (by omega) (by omega)).trans ((t7 _ (by omega) (by omega)).trans p6)
        have x8 := (T8 (o + 24) (by omega) (by omega) (by omega) (by omega) (by omega) (by omega) (by omega) (by omega)).trans x1
        have ky8 := (T8 (R + 2) (by omega) (by omega) (by omega) (by omega) (by omega) (by omega) (by omega) (by omega)).trans ky1
        have mk8 := (T8 (R + 3) (by omega) (by omega) (by omega) (by omega) (by omega) (by omega) (by omega) (by omega)).trans mk1
        obtain ⟨TX, tx8⟩ := W8.tx
        clear t7 t8 T6 r6 r7 z6 p6 s7
        first | refine on_aload_n (pc' := 335) rfl rfl rfl rfl ?_ | refine on_aload_nQ (pc' := 335) rfl rfl rfl rfl ?_
        first | refine on_aload_n (pc' := 336) rfl rfl rfl rfl ?_ | refine on_aload_nQ (pc' := 336) rfl rfl rfl rfl ?_
        first | apply on_get (pc' := 339) rfl rfl fl_M_67 | apply on_getN (pc' := 339) rfl rfl fl_M_67
        · repeat (first | assumption | exact on_up_eq _ _ _ | refine (on_up_ne (by omega)).trans ?_)
        · rfl
        first | refine on_aload_n (pc' := 340) rfl rfl rfl rfl ?_ | refine on_aload_nQ (pc' := 340) rfl rfl rfl rfl ?_
        first | apply on_get (pc' := 343) rfl rfl fl_M_70 | apply on_getN (pc' := 343) rfl rfl fl_M_70
        · repeat (first | assumption | exact on_up_eq _ _ _ | refine (on_up_ne (by omega)).trans ?_)
        · rfl
        first | refine on_aload (pc' := 345) rfl rfl rfl ?_ | refine on_aloadQ (pc' := 345) rfl rfl rfl ?_
        first | refine on_aload_n (pc' := 346) rfl rfl rfl rfl ?_ | refine on_aload_nQ (pc' := 346) rfl rfl rfl rfl ?_
        first | apply on_get (pc' := 349) rfl rfl fl_M_73 | apply on_getN (pc' := 349) rfl rfl fl_M_73
        · repeat (first | assumption | exact on_up_eq _ _ _ | refine (on_up_ne (by omega)).trans ?_)
        · rfl
        refine on_bipush (pc' := 351) (v := 41) rfl rfl lb_41 ?_
        first | refine on_aload (pc' := 353) rfl rfl rfl ?_ | refine on_aloadQ (pc' := 353) rfl rfl rfl ?_
        refine on_iconst (pc' := 354) (v := 0) rfl rfl li_0 ?_
        refine on_callV (pc' := 357) (As := [.ref (o + 22), .ref (o + 23), .ref R, .ref (o + 24), .int (nI 41), .ref (o + 25), .int (nI 0)]) (rest := []) (b := o) rfl rfl cw_M_created_391 (o8) rfl rfl (Nat.le_of_ble_eq_true rfl) (Nat.zero_le _) (Nat.zero_le _) (c_M_secretText (k := rs_k r.se) (m := rs_m r.se) (x := an_X x) (y := nb (cv_x (an_d r.se r.dr) bs_p)) o8 tx8 e1 e2 r8 rfl rfl ky8 mk8 x8 p8 (by omega) (by omega) (by omega) (by omega) (by omega) (by omega) ⟨by decide, by decide⟩ ⟨by decide, by decide⟩ b1' b2' (fun i hi => by have := ky2 i hi; unfold rs_i at this; dsimp only at this; rw [if_neg (by omega), show 4 + i - 4 = i by omega] at this; exact this) (fun i hi => by have := mk2 i hi; unfold rs_i at this; rw [if_pos hi] at this; exact this) (fun j hj => (X' (41 + j) (by omega)).1) (fun j hj => (X' (41 + j) (by omega)).2) (fun j hj => by rw [Nat.zero_add, hP j hj]; exact (Y5 j hj).1) (fun j hj => (Y5 j hj).2)) ?_
        rintro v h9 sz ⟨rfl, rfl, TX9, rfl, tb9⟩
        have t9 : ∀ b, b ≠ o + 20 → on_up h8 (o + 20) (on_ai 0 256 TX9) b = h8 b := fun b hb => on_up_ne hb
        have tx9 : on_up h8 (o + 20) (on_ai 0 256 TX9) (o + 20) = some (on_ai 0 256 TX9) := on_up_eq _ _ _
        have W9 : mw o x3 (on_up h8 (o + 20) (on_ai 0 256 TX9)) := W8.row (q := o + 20) (fun _ _ => by rw [show o + 20 - o = 20 by omega]; exact ⟨TX9, on_up_eq _ _ _⟩) (by omega) t9
        generalize on_up h8 (o + 20) (on_ai 0 256 TX9) = h9 at t9 tx9 W9 ⊢
        have tb9 : on_by TX9 (an_t r.se r.dr x) 172 := tb9
        have o9 := W9.ob.1
        refine on_istore (pc' := 359) rfl rfl (by decide) ?_
        first | refine on_aload_n (pc' := 360) rfl rfl rfl rfl ?_ | refine on_aload_nQ (pc' := 360) rfl rfl rfl rfl ?_
        refine on_iconst (pc' := 361) (v := 4) rfl rfl li_4 ?_
        refine on_callV (pc' := 364) (As := [.int (nI 4)]) (rest := []) (b := o) rfl rfl cw_M_created_288 (o9) rfl rfl (Nat.le_of_ble_eq_true rfl) (Nat.zero_le _) (Nat.zero_le _) (c_M_keyNameW W9 (by decide)) ?_
        rintro v h10 sz ⟨rfl, rfl, W10, ⟨TK, tk1, tk2⟩, t10⟩
        have o10 := W10.ob.1
        first | refine on_aload_n (pc' := 365) rfl rfl rfl rfl ?_ | refine on_aload_nQ (pc' := 365) rfl rfl rfl rfl ?_
        refine on_bipush (pc' := 367) (v := 9) rfl rfl lb_9 ?_
        refine on_iload (pc' := 369) rfl rfl rfl ?_
        first | refine on_aload_n (pc' := 370) rfl rfl rfl rfl ?_ | refine on_aload_nQ (pc' := 370) rfl rfl rfl rfl ?_
        first | apply on_get (pc' := 373) rfl rfl fl_M_70 | apply on_getN (pc' := 373) rfl rfl fl_M_70
        · repeat (first | assumption | exact on_up_eq _ _ _ | refine (on_up_ne (by omega)).trans ?_)
        · rfl
        refine on_callV (pc' := 376) (As := [.int (nI 9), .int (nI 172), .ref (o + 23)]) (rest := []) (b := o) rfl rfl cw_M_created_291 (o10) rfl rfl (Nat.le_of_ble_eq_true rfl) (Nat.zero_le _) (Nat.zero_le _) (c_M_macW W10 tk1 (by decide) tk2 ((t10 _ (by omega)).trans tx9) (by decide) tb9 W10.r2 (by omega)) ?_
        rintro v h11 sz ⟨rfl, rfl, W11, ⟨M11, m11, m11'⟩, t11⟩
        have o11 := W11.ob.1
        have T11 : ∀ b, b ≠ o + 20 → b ≠ o + 19 → b ≠ o + 23 → (b < o + 8 ∨ (o + 14 ≤ b ∧ b ≠ o + 18 ∧ b ≠ o + 19)) → h11 b = h8 b := fun b c1 c2 c3 c4 => (t11 b c3 c4).trans ((t10 b c2).trans (t9 b c1))
        have p11 := (T11 (o + 25) (by omega) (by omega) (by omega) (by omega)).trans p8
        have tx11 := (t11 (o + 20) (by omega) (by omega)).trans ((t10 _ (by omega)).trans tx9)
        refine on_iconst (pc' := 377) (v := 0) rfl rfl li_0 ?_
        refine on_istore (pc' := 379) rfl rfl (by decide) ?_
        have eh : on_up h11 (o + 25) (on_ai 0 135 P) = h11 := funext fun b => by
          by_cases w : b = o + 25
          · rw [w, on_up_eq, p11]
          · exact on_up_ne w
        refine on_relv (l := [(0, .ref o), (1, .int (nI self)), (2, .int (nI fr)), (3, .int num), (6, .ref (es n)), (7, .ref (o + 25)), (8, .int (nI 172)), (9, .int (nI 0))]) ⟨rfl, rfl, rfl, rfl, rfl, rfl, rfl, rfl, trivial⟩ ?_
        rw [← eh]
        refine mcr_4 (P0 := P) o11 m11 (fun PP hPP hPP2 => ?_) 32 0 P rfl (fun i hi => absurd hi (Nat.not_lt_zero i)) (fun i hi => rfl)
        clear eh
        have t12 : ∀ b, b ≠ o + 25 → on_up h11 (o + 25) (on_ai 0 135 PP) b = h11 b := fun b hb => on_up_ne hb
        have p12 : on_up h11 (o + 25) (on_ai 0 135 PP) (o + 25) = some (on_ai 0 135 PP) := on_up_eq _ _ _
        have W12 : mw o x3 (on_up h11 (o + 25) (on_ai 0 135 PP)) := W11.row (q := o + 25) (fun _ _ => by rw [show o + 25 - o = 25 by omega]; exact ⟨PP, on_up_eq _ _ _⟩) (by omega) t12
        generalize on_up h11 (o + 25) (on_ai 0 135 PP) = h12 at t12 p12 W12 ⊢
        have o12 := W12.ob.1
        have T12 : ∀ b, b ≠ R → b ≠ es n → (b < o + 8 ∨ o + 42 ≤ b) → h12 b = h b := fun b c1 c2 c3 => (t12 b (by omega)).trans ((T11 b (by omega) (by omega) (by omega) (by omega)).trans (T8 b c1 c2 (by omega) (by omega) (by omega) (by omega) (by omega) (by omega)))
        have z12 := (t12 (es n) (by omega)).trans ((T11 _ (by omega) (by omega) (by omega) (by omega)).trans z8)
        have r12 := (t12 R (by omega)).trans ((T11 _ (by omega) (by omega) (by omega) (by omega)).trans r8)
        have ml12 : ml_W (es n + 1) h12 := ml.keep (fun a _ _ => T12 a (by omega) (by omega) (by omega))
        have pp : on_by PP (an_p r.se r.dr x) 64 := fun i hi => by
          unfold an_p
          by_cases z : i < 32
          · rw [if_pos z, hPP2 i z, hP i z]
            exact Y5 i z
          · rw [if_neg z]
            have := hPP (i - 32) (by omega)
            rw [show 32 + (i - 32) = i by omega] at this
            rw [this]
            exact m11' (i - 32) (by omega)
        first | refine on_aload_n (pc' := 408) rfl rfl rfl rfl ?_ | refine on_aload_nQ (pc' := 408) rfl rfl rfl rfl ?_
        refine on_iload (pc' := 410) rfl rfl rfl ?_
        first | refine on_aload (pc' := 412) rfl rfl rfl ?_ | refine on_aloadQ (pc' := 412) rfl rfl rfl ?_
        first | apply on_get (pc' := 415) rfl rfl fl_M_395 | apply on_getN (pc' := 415) rfl rfl fl_M_395
        · repeat (first | assumption | exact on_up_eq _ _ _ | refine (on_up_ne (by omega)).trans ?_)
        · rfl
        refine on_callV (pc' := 418) (As := [.int (nI 172), .ref (es n + 1)]) (rest := []) (b := o) rfl rfl cw_M_created_399 (o12) rfl rfl (Nat.le_of_ble_eq_true rfl) (Nat.zero_le _) (Nat.zero_le _) (c_M_keys W12 ((t12 _ (by omega)).trans tx11) tb9 ml12 (by omega)) ?_
        rintro v h13 sz ⟨rfl, rfl, W13, ml13, t13⟩
        have o13 := W13.ob.1
        have T13 : ∀ b, b ≠ R → (b < es n ∨ es n + 14 ≤ b) → (b < o + 8 ∨ o + 42 ≤ b) → h13 b = h b := fun b c1 c2 c3 => (t13 b (by omega) (by omega)).trans (T12 b c1 (by omega) c3)
        have p13 := (t13 (o + 25) (by omega) (by omega)).trans p12
        have T14 : ∀ b, es n + 10 ≤ b → b < es n + 14 → h13 b = h b := fun b c1 c2 => (t13 b (by omega) (by omega)).trans (T12 b (by omega) (by omega) (by omega))
        have E13 : me_S (es n) (fr, num, none, false, ks_f (an_t r.se r.dr x), ks_b (an_t r.se r.dr x), []) h13 := ⟨a3, S, V, WW, C, ⟨(t13 _ (by omega) (by omega)).trans z12, (T14 _ (by omega) (by omega)).trans b1, (T14 _ (by omega) (by omega)).trans b2, (T14 _ (by omega) (by omega)).trans b3, (T14 _ (by omega) (by omega)).trans b4⟩, fun q hq => (nomatch hq), ⟨Nat.zero_le _, fun i hi => absurd hi (Nat.not_lt_zero i)⟩, ml13⟩
        obtain ⟨K13, f13⟩ := K.new (h1 := h13) hn s12 sn W13 (KL.keep (T13 _ (by omega) (by omega) (by omega)) (T13 _ (by omega) (by omega) (by omega))) ((t13 _ (by omega) (by omega)).trans r12) E13 (fun b c1 c2 c3 => T13 b c2 c3 (by omega))
        first | refine on_aload_n (pc' := 419) rfl rfl rfl rfl ?_ | refine on_aload_nQ (pc' := 419) rfl rfl rfl rfl ?_
        refine on_iload_n (pc' := 420) rfl rfl rfl rfl ?_
        refine on_iload_n (pc' := 421) rfl rfl rfl rfl ?_
        refine on_iload_n (pc' := 422) rfl rfl rfl rfl ?_
        refine on_bipush (pc' := 424) (v := 11) rfl rfl lb_11 ?_
        first | refine on_aload (pc' := 426) rfl rfl rfl ?_ | refine on_aloadQ (pc' := 426) rfl rfl rfl ?_
        refine on_bipush (pc' := 428) (v := 64) rfl rfl lb_64 ?_
        refine on_callV (pc' := 431) (As := [.int (nI self), .int (nI fr), .int num, .int (nI 11), .ref (o + 25), .int (nI 64)]) (rest := []) (b := o) rfl rfl cw_M_created_348 (o13) rfl rfl (Nat.le_of_ble_eq_true rfl) (Nat.zero_le _) (Nat.zero_le _) (c_M_lay (x := an_p r.se r.dr x) o13 K13.2.1 (by omega) hfr (by decide) ⟨PP, p13⟩ (by omega) (by omega) ⟨by decide, by decide⟩ (by decide) (fun f hf => by cases p13.symm.trans hf; exact pp)) ?_
        rintro v h14 sz ⟨rfl, rfl, L14, t14⟩
        refine on_vreturn rfl rfl ?_
        rw [rt]
        exact ⟨rfl, rfl, ⟨n + 1, fu ord n s, es, K13.lnk L14 t14⟩, f13.trans (fun b c1 c2 => t14 b (by omega) (by omega))⟩
end MCX
