/-! the end of a hash -/
def sp_nb (ms : List Nat) : Nat := (ms.length + 8) / 64 + 1
/-- a message with its end: 128, zeros, its length in bits -/
def sp_pad (ms : List Nat) : Nat → Nat := fun i => if i < ms.length then sp_m ms i else if i = ms.length then 128 else if i < 64 * sp_nb ms - 8 then 0 else 8 * ms.length / 2 ^ (8 * (64 * sp_nb ms - 1 - i)) % 256
def sp_sha (ms : List Nat) : Nat → Int32 := sp_hs (sp_pad ms) (sp_nb ms)
/-- the hash's bytes -/
def sp_d (ms : List Nat) : Nat → Nat := fun i => (sp_sha ms (i / 4)).toBitVec.toNat / 2 ^ (24 - 8 * (i % 4)) % 256
theorem sp_pad_lt {ms : List Nat} {i : Nat} (h : i < ms.length) : sp_pad ms i = sp_m ms i := if_pos h
theorem sp_pad_at (ms : List Nat) : sp_pad ms ms.length = 128 := by
  unfold sp_pad
  rw [if_neg (by omega), if_pos rfl]
theorem sp_pad_0 {ms : List Nat} {i : Nat} (h : ms.length < i) (h2 : i < 64 * sp_nb ms - 8) : sp_pad ms i = 0 := by
  unfold sp_pad
  rw [if_neg (by omega), if_neg (by omega), if_pos h2]
theorem sp_pad_l {ms : List Nat} {i : Nat} (h2 : 64 * sp_nb ms - 8 ≤ i) : sp_pad ms i = 8 * ms.length / 2 ^ (8 * (64 * sp_nb ms - 1 - i)) % 256 := by
  have : ms.length < 64 * sp_nb ms - 8 := by unfold sp_nb; omega
  unfold sp_pad
  rw [if_neg (by omega), if_neg (by omega), if_neg (by omega)]
theorem sp_p_z {m : Nat → Nat} {p : Nat} : ∀ {r : Nat}, (∀ j, j < r → m (p + j) = 0) → sp_p m p r = 0
  | 0, _ => rfl
  | r + 1, h => by
    show sp_p m p r + _ = 0
    rw [sp_p_z (r := r) (fun j hj => h j (by omega)), h r (by omega)]
    simp
/-- bytes of zero behind the first k -/
theorem sp_p_tail {m : Nat → Nat} {p k : Nat} : ∀ (d : Nat), (∀ j, k ≤ j → j < k + d → m (p + j) = 0) → sp_p m p (k + d) = sp_p m p k
  | 0, _ => rfl
  | d + 1, h => by
    show sp_p m p (k + d) + m (p + (k + d)) * _ = _
    rw [sp_p_tail d (fun j h1 h2 => h j h1 (by omega)), h (k + d) (by omega) (by omega)]
    simp
/-- the words of the block in which the message ends, up to those of the length -/
theorem se_w1 {ms : List Nat} {f g : Nat → Int32} (hI : sh_I ms f g) (j : Nat) (hj : j < 16) (hz : 64 * (ms.length / 64) + 4 * j + 4 ≤ 64 * sp_nb ms - 8) : on_fl (sh_n ms g 128) (ms.length % 64 / 4 + 1) 16 0 j = sp_wd (sp_pad ms) (64 * (ms.length / 64) + 4 * j) := by
  unfold on_fl
  by_cases h1 : ms.length % 64 / 4 + 1 ≤ j ∧ j < 16
  · rw [if_pos h1]
    unfold sp_wd
    rw [sp_p_z (fun r hr => sp_pad_0 (by omega) (by omega))]
    rfl
  · rw [if_neg h1]
    by_cases h2 : j = ms.length % 64 / 4
    · rw [h2, sh_n_at hI (by omega)]
      have e1 : 64 * (ms.length / 64) + 4 * (ms.length % 64 / 4) = ms.length - ms.length % 4 := by omega
      rw [e1]
      show nI _ = nI _
      have e2 := sp_p_tail (m := sp_pad ms) (p := ms.length - ms.length % 4) (k := ms.length % 4 + 1) (4 - (ms.length % 4 + 1)) (fun r h3 h4 => sp_pad_0 (by omega) (by omega))
      rw [show ms.length % 4 + 1 + (4 - (ms.length % 4 + 1)) = 4 by omega] at e2
      rw [e2]
      refine congrArg nI (sp_p_congr (fun r hr => ?_))
      by_cases h3 : r = ms.length % 4
      · rw [h3, Nat.sub_add_cancel (Nat.mod_le _ _), sp_pad_at, sp_m_last]
      · rw [sp_pad_lt (by omega), sp_m_lt (by omega)]
    · rw [sh_n_ne h2, hI.2.1 j (by omega)]
      exact congrArg nI (sp_p_congr (fun r hr => (sp_pad_lt (by omega)).symm))
/-- the words of the length -/
theorem se_w14 {ms : List Nat} (hn : ms.length < 2 ^ 28) : sp_wd (sp_pad ms) (64 * (sp_nb ms - 1) + 4 * 14) = nI 0 := by
  have hb : 1 ≤ sp_nb ms := by unfold sp_nb; omega
  unfold sp_wd
  rw [sp_p_z]
  intro r hr
  rw [sp_pad_l (by omega)]
  have : 8 * ms.length / 2 ^ (8 * (64 * sp_nb ms - 1 - (64 * (sp_nb ms - 1) + 4 * 14 + r))) = 0 := by
    apply Nat.div_eq_of_lt
    calc 8 * ms.length < 2 ^ 32 := by omega
      _ ≤ _ := Nat.pow_le_pow_right (by decide) (by omega)
  rw [this]
theorem se_w15 {ms : List Nat} (hn : ms.length < 2 ^ 28) : sp_wd (sp_pad ms) (64 * (sp_nb ms - 1) + 4 * 15) = nI (8 * ms.length) := by
  have hb : 1 ≤ sp_nb ms := by unfold sp_nb; omega
  show nI (sp_p _ _ 4) = _
  simp only [sp_p]
  rw [sp_pad_l (by omega), sp_pad_l (by omega), sp_pad_l (by omega), sp_pad_l (by omega)]
  rw [show 64 * sp_nb ms - 1 - (64 * (sp_nb ms - 1) + 4 * 15 + 0) = 3 by omega, show 64 * sp_nb ms - 1 - (64 * (sp_nb ms - 1) + 4 * 15 + 1) = 2 by omega, show 64 * sp_nb ms - 1 - (64 * (sp_nb ms - 1) + 4 * 15 + 2) = 1 by omega, show 64 * sp_nb ms - 1 - (64 * (sp_nb ms - 1) + 4 * 15 + 3) = 0 by omega]
  congr 1
  omega
/-- the state that the last block begins with: one block for the end -/
theorem se_one {ms : List Nat} {f g : Nat → Int32} (hI : sh_I ms f g) (hn : ms.length < 2 ^ 28) (hw : ms.length % 64 / 4 < 14) (i : Nat) (hi : i < 8) : sp_c f (upd (upd (on_fl (sh_n ms g 128) (ms.length % 64 / 4 + 1) 16 0) 14 (nI 0)) 15 (nI (8 * ms.length))) i = sp_sha ms i := by
  have hb : sp_nb ms = ms.length / 64 + 1 := by unfold sp_nb; omega
  unfold sp_sha
  rw [hb]
  refine sp_c_congr (fun i hi => ?_) (fun j hj => ?_) i hi
  · rw [hI.1 i hi]
    exact sp_hs_congr _ (fun j hj => (sp_pad_lt (by omega)).symm) i hi
  · by_cases h15 : j = 15
    · rw [h15, pk_us, ← se_w15 hn, hb]; rfl
    · rw [pk_un h15]
      by_cases h14 : j = 14
      · rw [h14, pk_us, ← se_w14 hn, hb]; rfl
      · rw [pk_un h14]
        exact se_w1 hI j hj (by omega)
/-- two blocks for the end -/
theorem se_two {ms : List Nat} {f g : Nat → Int32} (hI : sh_I ms f g) (hn : ms.length < 2 ^ 28) (hw : ¬ ms.length % 64 / 4 < 14) (i : Nat) (hi : i < 8) : sp_c (sp_c f (on_fl (sh_n ms g 128) (ms.length % 64 / 4 + 1) 16 0)) (upd (upd (on_fl (sp_w (on_fl (sh_n ms g 128) (ms.length % 64 / 4 + 1) 16 0) 48) 0 14 0) 14 (nI 0)) 15 (nI (8 * ms.length))) i = sp_sha ms i := by
  have hb : sp_nb ms = ms.length / 64 + 1 + 1 := by unfold sp_nb; omega
  unfold sp_sha
  rw [hb]
  refine sp_c_congr (fun i hi => sp_c_congr (fun i hi => ?_) (fun j hj => ?_) i hi) (fun j hj => ?_) i hi
  · rw [hI.1 i hi]
    exact sp_hs_congr _ (fun j hj => (sp_pad_lt (by omega)).symm) i hi
  · exact se_w1 hI j hj (by omega)
  · by_cases h15 : j = 15
    · rw [h15, pk_us, ← se_w15 hn, hb]; rfl
    · rw [pk_un h15]
      by_cases h14 : j = 14
      · rw [h14, pk_us, ← se_w14 hn, hb]; rfl
      · rw [pk_un h14]
        unfold on_fl
        rw [if_pos (by omega)]
        unfold sp_wd
        rw [sp_p_z (fun r hr => sp_pad_0 (by omega) (by omega))]
        rfl
