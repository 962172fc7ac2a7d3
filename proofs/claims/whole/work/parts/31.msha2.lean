/-- bytes shifted in from below -/
def sp_q (m : Nat → Nat) (p : Nat) : Nat → Nat
  | 0 => 0
  | r + 1 => sp_q m p r * 256 + m (p + r)
theorem sp_q4 (m : Nat → Nat) (p : Nat) : sp_q m p 4 = sp_p m p 4 := by
  simp only [sp_q, sp_p]
  omega
theorem sp_q_congr {m m2 : Nat → Nat} {p : Nat} : ∀ {r : Nat}, (∀ j, j < r → m (p + j) = m2 (p + j)) → sp_q m p r = sp_q m2 p r
  | 0, _ => rfl
  | r + 1, h => by
    show sp_q m p r * 256 + _ = sp_q m2 p r * 256 + _
    rw [sp_q_congr (r := r) (fun j hj => h j (by omega)), h r (by omega)]
def ms_I (ms : List Nat) (f g : Nat → Int32) : Prop :=
  (∀ i, i < 8 → f i = sp_hs (sp_m ms) (ms.length / 64) i) ∧
  (∀ j, 4 * j + 4 ≤ ms.length % 64 → g j = sp_wd (sp_m ms) (64 * (ms.length / 64) + 4 * j)) ∧
  (g (ms.length % 64 / 4)).toBitVec.toNat % 2 ^ (8 * (ms.length % 4)) = sp_q (sp_m ms) (ms.length - ms.length % 4) (ms.length % 4)
def ms_n (ms : List Nat) (g : Nat → Int32) (b : Nat) : Nat → Int32 := upd g (ms.length % 64 / 4) (sh_l (g (ms.length % 64 / 4)) 8 ||| nI b)
theorem i32_ext {x y : Int32} (h : x.toBitVec.toNat = y.toBitVec.toNat) : x = y := Int32.toBitVec_inj.mp (BitVec.eq_of_toNat_eq h)
theorem ms_sh (x : Int32) {b : Nat} (hb : b < 256) : (sh_l x 8 ||| nI b).toBitVec.toNat = x.toBitVec.toNat % 2 ^ 24 * 256 + b := by
  have h1 : (sh_l x 8).toBitVec.toNat = x.toBitVec.toNat * 2 ^ 8 % 2 ^ 32 := pk_shl x (8 &&& 31) 8 (by decide)
  show ((sh_l x 8).toBitVec ||| (nI b).toBitVec).toNat = _
  rw [BitVec.toNat_or, h1, pk_tn (by omega)]
  have h2 : x.toBitVec.toNat * 2 ^ 8 % 2 ^ 32 = (x.toBitVec.toNat % 2 ^ 24) * 2 ^ 8 := by omega
  rw [h2, ← Nat.shiftLeft_eq, ← Nat.shiftLeft_add_eq_or_of_lt (by omega : b < 2 ^ 8), Nat.shiftLeft_eq]
theorem ms_n_at {ms : List Nat} {f g : Nat → Int32} {b : Nat} (h : ms_I ms f g) (hb : b < 256) : (ms_n ms g b (ms.length % 64 / 4)).toBitVec.toNat % 2 ^ (8 * (ms.length % 4 + 1)) = sp_q (sp_m (ms ++ [b])) (ms.length - ms.length % 4) (ms.length % 4 + 1) := by
  unfold ms_n
  rw [pk_us, ms_sh _ hb]
  have h3 := h.2.2
  show _ = sp_q _ _ (ms.length % 4) * 256 + sp_m (ms ++ [b]) (ms.length - ms.length % 4 + ms.length % 4)
  rw [Nat.sub_add_cancel (Nat.mod_le _ _), sp_m_last, sp_q_congr (m := sp_m (ms ++ [b])) (m2 := sp_m ms) (fun j hj => sp_m_lt (by omega)), ← h3]
  have h4 : ms.length % 4 < 4 := Nat.mod_lt _ (by decide)
  generalize (g (ms.length % 64 / 4)).toBitVec.toNat = x
  generalize ms.length % 4 = r at h4
  match r, h4 with
  | 0, _ => simp; omega
  | 1, _ => simp; omega
  | 2, _ => simp; omega
  | 3, _ => simp; omega
theorem ms_n_full {ms : List Nat} {f g : Nat → Int32} {b : Nat} (h : ms_I ms f g) (hb : b < 256) (hr : ms.length % 4 = 3) : ms_n ms g b (ms.length % 64 / 4) = sp_wd (sp_m (ms ++ [b])) (64 * (ms.length / 64) + 4 * (ms.length % 64 / 4)) := by
  have h1 := ms_n_at h hb
  have hlt : (ms_n ms g b (ms.length % 64 / 4)).toBitVec.toNat < 2 ^ 32 := BitVec.isLt _
  rw [hr] at h1
  rw [show 8 * (3 + 1) = 32 from rfl, Nat.mod_eq_of_lt hlt] at h1
  apply i32_ext
  rw [h1]
  unfold sp_wd
  rw [sp_q4, show ms.length - 3 = 64 * (ms.length / 64) + 4 * (ms.length % 64 / 4) by omega] at *
  refine (pk_tn ?_).symm
  rw [← h1]
  exact hlt
theorem ms_n_ne {ms : List Nat} {g : Nat → Int32} {b j : Nat} (hj : j ≠ ms.length % 64 / 4) : ms_n ms g b j = g j := pk_un hj
theorem ms_I_more {ms : List Nat} {f g : Nat → Int32} {b : Nat} (h : ms_I ms f g) (hb : b < 256) (hn : (ms.length + 1) % 64 ≠ 0) : ms_I (ms ++ [b]) f (ms_n ms g b) := by
  have hl : (ms ++ [b]).length = ms.length + 1 := by simp
  refine ⟨fun i hi => ?_, fun j hj => ?_, ?_⟩
  · rw [hl, show (ms.length + 1) / 64 = ms.length / 64 by omega, h.1 i hi]
    exact sp_hs_congr _ (fun j hj => (sp_m_lt (by omega)).symm) i hi
  · rw [hl] at hj ⊢
    rw [show (ms.length + 1) / 64 = ms.length / 64 by omega]
    by_cases k : j = ms.length % 64 / 4
    · rw [k]
      exact ms_n_full h hb (by omega)
    · rw [ms_n_ne k, h.2.1 j (by omega)]
      exact congrArg nI (sp_p_congr (fun r hr => (sp_m_lt (by omega)).symm))
  · rw [hl]
    by_cases k : ms.length % 4 = 3
    · rw [show (ms.length + 1) % 4 = 0 by omega]
      simp [sp_q, Nat.mod_one]
    · rw [show (ms.length + 1) % 64 / 4 = ms.length % 64 / 4 by omega, show (ms.length + 1) % 4 = ms.length % 4 + 1 by omega, show ms.length + 1 - (ms.length % 4 + 1) = ms.length - ms.length % 4 by omega]
      exact ms_n_at h hb
theorem ms_I_full {ms : List Nat} {f g W : Nat → Int32} {b : Nat} (h : ms_I ms f g) (hb : b < 256) (hn : (ms.length + 1) % 64 = 0) : ms_I (ms ++ [b]) (sp_c f (ms_n ms g b)) W := by
  have hl : (ms ++ [b]).length = ms.length + 1 := by simp
  refine ⟨fun i hi => ?_, fun j hj => ?_, ?_⟩
  · rw [hl, show (ms.length + 1) / 64 = ms.length / 64 + 1 by omega]
    refine sp_c_congr (fun i hi => ?_) (fun j hj => ?_) i hi
    · rw [h.1 i hi]
      exact sp_hs_congr _ (fun j hj => (sp_m_lt (by omega)).symm) i hi
    · by_cases k : j = ms.length % 64 / 4
      · rw [k]
        exact ms_n_full h hb (by omega)
      · rw [ms_n_ne k, h.2.1 j (by omega)]
        exact congrArg nI (sp_p_congr (fun r hr => (sp_m_lt (by omega)).symm))
  · rw [hl] at hj
    omega
  · rw [hl, show (ms.length + 1) % 4 = 0 by omega]
    simp [sp_q, Nat.mod_one]
def ms_X (o : Nat) (ms : List Nat) (h : on_H) : Prop := ∃ f g : Nat → Int32, ms_B o f g (lN ms.length) h ∧ ms_I ms f g
def ms_W (o : Nat) (h : on_H) : Prop := ∃ (f g : Nat → Int32) (len : Int64), ms_B o f g len h
section MSI
variable {G : on_G} {o q sz bc bs : Nat} {h : on_H} {Q : Option Value → on_H → Nat → Prop}
theorem ms_X.w {ms : List Nat} (k : ms_X o ms h) : ms_W o h := by
  obtain ⟨f, g, hB, -⟩ := k
  exact ⟨f, g, _, hB⟩
theorem ms_X.keep {ms : List Nat} {h2 : on_H} (k : ms_X o ms h) (hk : ∀ a, o ≤ a → a < o + 3 → h2 a = h a) : ms_X o ms h2 := by
  obtain ⟨f, g, ⟨b1, b2, b3⟩, hI⟩ := k
  exact ⟨f, g, ⟨(hk _ (by omega) (by omega)).trans b1, (hk _ (by omega) (by omega)).trans b2, (hk _ (by omega) (by omega)).trans b3⟩, hI⟩
theorem ms_T.keep {h2 : on_H} (k : ms_T q h) (hk : h2 q = h q) : ms_T q h2 := by
  obtain ⟨T, h1, h3⟩ := k
  exact ⟨T, hk.trans h1, h3⟩
set_option maxHeartbeats 4000000 in
theorem c_MSha_add {ms : List Nat} {x : Int32} {b : Nat} (hX : ms_X o ms h) (hL : ms.length + 1 < 2 ^ 31) (hq : ms_T q h) (hqo : q < o ∨ o + 3 ≤ q) (hx : x &&& 255 = nI b) (hb : b < 256) :
    on_Ct G M_MSha_add [.ref o, .int x, .ref q] h sz 0 0 (fun r h1 z => r = none ∧ z = sz ∧ ms_X o (ms ++ [b]) h1 ∧ on_sm o (o + 3) h h1) := by
  obtain ⟨f, g, hB, hI⟩ := hX
  obtain ⟨b1, b2, b3⟩ := id hB
  have hl : (ms ++ [b]).length = ms.length + 1 := by simp
  have e64 : (l_rem (lN ms.length) 64).toInt32 = nI (ms.length % 64) := by
    rw [show l_rem (lN ms.length) 64 = lN (ms.length % 64) from pk_lRem (b := 64) (by omega) (by decide) (by decide), lN_i]
  have e4 : nI (ms.length % 64) / 4 = nI (ms.length % 64 / 4) := pk_div (d := 4) (by omega) (by decide) (by decide)
  have n64 : ¬ (64 : Int64) = 0 := by decide
  have n4 : ¬ (4 : Int32) = 0 := by decide
  refine on_Ct.of (by decide) v_MSha_add (Nat.le_of_ble_eq_true rfl) ?_
  first | refine on_aload_n (pc' := 1) rfl rfl rfl rfl ?_ | refine on_aload_nQ (pc' := 1) rfl rfl rfl rfl ?_
  apply on_get (pc' := 4) rfl rfl fl_MSha_24
  · repeat (first | assumption | exact on_up_eq _ _ _ | refine (on_up_ne (by omega)).trans ?_)
  · rfl
  refine on_ldc2 (pc' := 7) rfl rfl ld_MSha_28 ?_
  refine on_lrem (pc' := 8) rfl rfl (by first | assumption | decide) ?_
  refine on_l2i (pc' := 9) rfl rfl ?_
  rw [e64]
  refine on_istore_n (pc' := 10) rfl rfl rfl (by decide) ?_
  first | refine on_aload_n (pc' := 11) rfl rfl rfl rfl ?_ | refine on_aload_nQ (pc' := 11) rfl rfl rfl rfl ?_
  apply on_get (pc' := 14) rfl rfl fl_MSha_13
  · repeat (first | assumption | exact on_up_eq _ _ _ | refine (on_up_ne (by omega)).trans ?_)
  · rfl
  refine on_iload_n (pc' := 15) rfl rfl rfl rfl ?_
  refine on_iconst (pc' := 16) (v := 4) rfl rfl li_4 ?_
  refine on_idiv (pc' := 17) rfl rfl (by first | assumption | decide) ?_
  first | refine on_aload_n (pc' := 18) rfl rfl rfl rfl ?_ | refine on_aload_nQ (pc' := 18) rfl rfl rfl rfl ?_
  apply on_get (pc' := 21) rfl rfl fl_MSha_13
  · repeat (first | assumption | exact on_up_eq _ _ _ | refine (on_up_ne (by omega)).trans ?_)
  · rfl
  refine on_iload_n (pc' := 22) rfl rfl rfl rfl ?_
  refine on_iconst (pc' := 23) (v := 4) rfl rfl li_4 ?_
  refine on_idiv (pc' := 24) rfl rfl (by first | assumption | decide) ?_
  apply on_ialoadK (pc' := 25) (t := 0) rfl rfl
  · repeat (first | assumption | exact on_up_eq _ _ _ | refine (on_up_ne (by omega)).trans ?_)
  · rfl
  · first | assumption | exact on_lit _ | rfl
  · first | assumption | omega | decide
  refine on_bipush (pc' := 27) (v := 8) rfl rfl lb_8 ?_
  refine on_ishl (pc' := 28) rfl rfl ?_
  refine on_iload_n (pc' := 29) rfl rfl rfl rfl ?_
  refine on_sipush (pc' := 32) (v := 255) rfl rfl ls_255 ?_
  refine on_iand (pc' := 33) rfl rfl ?_
  refine on_ior (pc' := 34) rfl rfl ?_
  rw [hx]
  apply on_iastoreK (pc' := 35) (t := 0) (k := ms.length % 64 / 4) rfl rfl
  · repeat (first | assumption | exact on_up_eq _ _ _ | refine (on_up_ne (by omega)).trans ?_)
  · rfl
  · exact e4
  · omega
  show on_E G M_MSha_add 35 _ _ (on_up h (o + 2) (on_ai 0 64 (ms_n ms g b))) sz 0 0 _
  first | refine on_aload_n (pc' := 36) rfl rfl rfl rfl ?_ | refine on_aload_nQ (pc' := 36) rfl rfl rfl rfl ?_
  refine on_dup (pc' := 37) rfl rfl rfl ?_
  apply on_get (pc' := 40) rfl rfl fl_MSha_24
  · repeat (first | assumption | exact on_up_eq _ _ _ | refine (on_up_ne (by omega)).trans ?_)
  · rfl
  refine on_lconst (pc' := 41) (v := 1) rfl rfl ll_1 ?_
  refine on_ladd (pc' := 42) rfl rfl ?_
  apply on_put (pc' := 45) rfl rfl fp_MSha_24
  · repeat (first | assumption | exact on_up_eq _ _ _ | refine (on_up_ne (by omega)).trans ?_)
  · first | rfl | assumption
  · first | rfl | assumption
  · exact Nat.le_of_ble_eq_true rfl
  have hB2 : ms_B o f (ms_n ms g b) (lN (ms ++ [b]).length) (on_up (on_up h (o + 2) (on_ai 0 64 (ms_n ms g b))) o (.inr (12, [.ref (o + 1), .ref (o + 2), .long (lN ms.length + 1)]))) := by
    refine ⟨?_, ?_, ?_⟩
    · rw [on_up_eq, lN_1, hl]
    · repeat (first | assumption | exact on_up_eq _ _ _ | refine (on_up_ne (by omega)).trans ?_)
    · repeat (first | assumption | exact on_up_eq _ _ _ | refine (on_up_ne (by omega)).trans ?_)
  have hs2 : on_sm o (o + 3) h (on_up (on_up h (o + 2) (on_ai 0 64 (ms_n ms g b))) o (.inr (12, [.ref (o + 1), .ref (o + 2), .long (lN ms.length + 1)]))) := (on_sm.rf.up (by omega) (by omega)).up (by omega) (by omega)
  refine on_iload_n (pc' := 46) rfl rfl rfl rfl ?_
  refine on_bipush (pc' := 48) (v := 63) rfl rfl lb_63 ?_
  refine on_icmp_ne (pc' := 51) (tgt := 56) rfl rfl rfl (fun cq => ?_) (fun cq => ?_)
  · have hf : (ms.length + 1) % 64 ≠ 0 := fun z => cq (by rw [show ms.length % 64 = 63 by omega]; rfl)
    refine on_vreturn rfl rfl ?_
    exact ⟨rfl, rfl, ⟨_, _, hB2, ms_I_more hI hb hf⟩, hs2⟩
  · have hf : (ms.length + 1) % 64 = 0 := by
      have : nI (ms.length % 64) = nI 63 := cq
      have := (nI_eq (by omega) (by omega)).mp this
      omega
    first | refine on_aload_n (pc' := 52) rfl rfl rfl rfl ?_ | refine on_aload_nQ (pc' := 52) rfl rfl rfl rfl ?_
    first | refine on_aload_n (pc' := 53) rfl rfl rfl rfl ?_ | refine on_aload_nQ (pc' := 53) rfl rfl rfl rfl ?_
    refine on_callV (pc' := 56) (As := [.ref q]) (rest := []) (b := o) rfl rfl cw_MSha_add_30 hB2.1 rfl rfl (by decide) (Nat.zero_le _) (Nat.zero_le _) (c_MSha_block hB2 (hq.keep (hs2 q (by omega))) hqo) ?_
    rintro r2 h2 z ⟨rfl, rfl, hB3, hs3⟩
    refine on_vreturn rfl rfl ?_
    exact ⟨rfl, rfl, ⟨_, _, hB3, ms_I_full hI hb hf⟩, hs2.trans hs3⟩
end MSI
