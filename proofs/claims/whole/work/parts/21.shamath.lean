/-! SHA-256 over a list of bytes -/
theorem nI_or (a b : Nat) : nI a ||| nI b = nI (a ||| b) := by
  apply Int32.toBitVec_inj.mp
  show BitVec.ofNat 32 a ||| BitVec.ofNat 32 b = BitVec.ofNat 32 (a ||| b)
  apply BitVec.eq_of_toNat_eq
  simp only [BitVec.toNat_or, BitVec.toNat_ofNat]
  exact (Nat.or_mod_two_pow).symm
/-- the first r bytes of a word, the highest first -/
def sp_p (m : Nat → Nat) (p : Nat) : Nat → Nat
  | 0 => 0
  | r + 1 => sp_p m p r + m (p + r) * 2 ^ (24 - 8 * r)
def sp_wd (m : Nat → Nat) (p : Nat) : Int32 := nI (sp_p m p 4)
theorem sp_p_mul (m : Nat → Nat) (p r : Nat) (hr : r ≤ 4) : ∃ q, sp_p m p r = q * 2 ^ (32 - 8 * r) := by
  match r, hr with
  | 0, _ => exact ⟨0, by simp [sp_p]⟩
  | 1, _ => exact ⟨m p, by simp [sp_p]⟩
  | 2, _ => exact ⟨m p * 256 + m (p + 1), by simp [sp_p]; omega⟩
  | 3, _ => exact ⟨m p * 65536 + m (p + 1) * 256 + m (p + 2), by simp [sp_p]; omega⟩
  | 4, _ => exact ⟨sp_p m p 4, by simp⟩
theorem sp_p_or (m : Nat → Nat) (p r : Nat) (hr : r < 4) (hb : m (p + r) < 256) : sp_p m p r ||| m (p + r) * 2 ^ (24 - 8 * r) = sp_p m p (r + 1) := by
  obtain ⟨q, hq⟩ := sp_p_mul m p r (by omega)
  have hlt : m (p + r) * 2 ^ (24 - 8 * r) < 2 ^ (32 - 8 * r) := by
    have e : (2 : Nat) ^ (32 - 8 * r) = 256 * 2 ^ (24 - 8 * r) := by
      rw [show 32 - 8 * r = 8 + (24 - 8 * r) by omega, Nat.pow_add]
    rw [e]
    exact Nat.mul_lt_mul_of_pos_right hb (Nat.pow_pos (by decide))
  show _ = sp_p m p r + _
  rw [hq, ← Nat.shiftLeft_eq q, Nat.shiftLeft_add_eq_or_of_lt hlt]
theorem sp_p_congr {m m2 : Nat → Nat} {p : Nat} : ∀ {r : Nat}, (∀ j, j < r → m (p + j) = m2 (p + j)) → sp_p m p r = sp_p m2 p r
  | 0, _ => rfl
  | r + 1, h => by
    show sp_p m p r + _ = sp_p m2 p r + _
    rw [sp_p_congr (r := r) (fun j hj => h j (by omega)), h r (by omega)]
/-- the state behind b blocks -/
def sp_hs (m : Nat → Nat) : Nat → Nat → Int32
  | 0 => fun i => on_st0.getD i 0
  | b + 1 => sp_c (sp_hs m b) (fun j => sp_wd m (64 * b + 4 * j))
theorem sp_w_congr {g g2 : Nat → Int32} (h : ∀ j, j < 16 → g j = g2 j) : ∀ (n : Nat), ∀ j, j < 16 + n → sp_w g n j = sp_w g2 n j
  | 0, j, hj => h j hj
  | n + 1, j, hj => by
    have ih := sp_w_congr h n
    show upd _ _ _ j = upd _ _ _ j
    unfold upd
    by_cases e : j = 16 + n
    · rw [if_pos e, if_pos e, ih n (by omega), ih (n + 1) (by omega), ih (n + 9) (by omega), ih (n + 14) (by omega)]
    · rw [if_neg e, if_neg e, ih j (by omega)]
theorem sp_rn_congr {K W W2 : Nat → Int32} {s : sp_T} : ∀ (n : Nat), (∀ j, j < n → W j = W2 j) → sp_rn K W s n = sp_rn K W2 s n
  | 0, _ => rfl
  | n + 1, h => by
    show sp_st _ _ _ = sp_st _ _ _
    rw [sp_rn_congr n (fun j hj => h j (by omega)), h n (by omega)]
theorem sp_add_congr {f f2 : Nat → Int32} {s : sp_T} (h : ∀ i, i < 8 → f i = f2 i) (i : Nat) (hi : i < 8) : sp_add f s i = sp_add f2 s i := by
  obtain ⟨a, b, c, d, e, x, y, z⟩ := s
  match i, hi with
  | 0, hi => simp only [sp_add, h 0 hi]
  | 1, hi => simp only [sp_add, h 1 hi]
  | 2, hi => simp only [sp_add, h 2 hi]
  | 3, hi => simp only [sp_add, h 3 hi]
  | 4, hi => simp only [sp_add, h 4 hi]
  | 5, hi => simp only [sp_add, h 5 hi]
  | 6, hi => simp only [sp_add, h 6 hi]
  | 7, hi => simp only [sp_add, h 7 hi]
theorem sp_c_congr {f f2 g g2 : Nat → Int32} (hf : ∀ i, i < 8 → f i = f2 i) (hg : ∀ j, j < 16 → g j = g2 j) (i : Nat) (hi : i < 8) : sp_c f g i = sp_c f2 g2 i := by
  unfold sp_c
  have e1 : sp_s f = sp_s f2 := by
    unfold sp_s
    rw [hf 0 (by omega), hf 1 (by omega), hf 2 (by omega), hf 3 (by omega), hf 4 (by omega), hf 5 (by omega), hf 6 (by omega), hf 7 (by omega)]
  rw [e1, sp_rn_congr (W := sp_w g 48) (W2 := sp_w g2 48) 64 (fun j hj => sp_w_congr hg 48 j (by omega))]
  exact sp_add_congr hf i hi
theorem sp_hs_congr {m m2 : Nat → Nat} : ∀ (b : Nat), (∀ j, j < 64 * b → m j = m2 j) → ∀ i, i < 8 → sp_hs m b i = sp_hs m2 b i
  | 0, _, i, _ => rfl
  | b + 1, h, i, hi => by
    refine sp_c_congr (sp_hs_congr b (fun j hj => h j (by omega))) (fun j hj => ?_) i hi
    show nI _ = nI _
    rw [sp_p_congr (m := m) (m2 := m2) (fun r hr => h _ (by omega))]
/-- a list's bytes -/
def sp_m (ms : List Nat) : Nat → Nat := fun i => ms.getD i 0
theorem sp_m_lt {ms : List Nat} {b j : Nat} (h : j < ms.length) : sp_m (ms ++ [b]) j = sp_m ms j := by
  unfold sp_m
  rw [List.getD_eq_getElem?_getD, List.getD_eq_getElem?_getD, List.getElem?_append_left h]
theorem sp_m_last {ms : List Nat} {b : Nat} : sp_m (ms ++ [b]) ms.length = b := by
  unfold sp_m
  rw [List.getD_eq_getElem?_getD, List.getElem?_append_right (Nat.le_refl _)]
  simp
/-- what the class's Sha holds of a message: the state behind its full blocks, the words of the block that is begun -/
def sh_I (ms : List Nat) (f g : Nat → Int32) : Prop :=
  (∀ i, i < 8 → f i = sp_hs (sp_m ms) (ms.length / 64) i) ∧
  (∀ j, 4 * j + 4 ≤ ms.length % 64 → g j = sp_wd (sp_m ms) (64 * (ms.length / 64) + 4 * j)) ∧
  (ms.length % 4 ≠ 0 → g (ms.length % 64 / 4) = nI (sp_p (sp_m ms) (ms.length - ms.length % 4) (ms.length % 4)))
/-- the word that a byte more is laid into -/
def sh_n (ms : List Nat) (g : Nat → Int32) (b : Nat) : Nat → Int32 := upd g (ms.length % 64 / 4) ((if ms.length % 4 = 0 then 0 else g (ms.length % 64 / 4)) ||| nI (b * 2 ^ (24 - 8 * (ms.length % 4))))
theorem sh_n_at {ms : List Nat} {f g : Nat → Int32} {b : Nat} (h : sh_I ms f g) (hb : b < 256) : sh_n ms g b (ms.length % 64 / 4) = nI (sp_p (sp_m (ms ++ [b])) (ms.length - ms.length % 4) (ms.length % 4 + 1)) := by
  have e : (if ms.length % 4 = 0 then 0 else g (ms.length % 64 / 4)) = nI (sp_p (sp_m (ms ++ [b])) (ms.length - ms.length % 4) (ms.length % 4)) := by
    by_cases k : ms.length % 4 = 0
    · rw [if_pos k, k]; rfl
    · rw [if_neg k, h.2.2 k]
      congr 1
      exact sp_p_congr (fun j hj => (sp_m_lt (by omega)).symm)
  unfold sh_n
  rw [pk_us, e, nI_or]
  have hl : sp_m (ms ++ [b]) (ms.length - ms.length % 4 + ms.length % 4) = b := by
    rw [Nat.sub_add_cancel (Nat.mod_le _ _)]; exact sp_m_last
  rw [show b * 2 ^ (24 - 8 * (ms.length % 4)) = sp_m (ms ++ [b]) (ms.length - ms.length % 4 + ms.length % 4) * 2 ^ (24 - 8 * (ms.length % 4)) by rw [hl]]
  rw [sp_p_or _ _ _ (by omega) (by rw [hl]; exact hb)]
theorem sh_n_ne {ms : List Nat} {g : Nat → Int32} {b j : Nat} (hj : j ≠ ms.length % 64 / 4) : sh_n ms g b j = g j := pk_un hj
/-- a byte more, the block not full yet -/
theorem sh_I_more {ms : List Nat} {f g : Nat → Int32} {b : Nat} (h : sh_I ms f g) (hb : b < 256) (hn : (ms.length + 1) % 64 ≠ 0) : sh_I (ms ++ [b]) f (sh_n ms g b) := by
  have hl : (ms ++ [b]).length = ms.length + 1 := by simp
  refine ⟨fun i hi => ?_, fun j hj => ?_, fun hk => ?_⟩
  · rw [hl, show (ms.length + 1) / 64 = ms.length / 64 by omega, h.1 i hi]
    exact sp_hs_congr _ (fun j hj => (sp_m_lt (by omega)).symm) i hi
  · rw [hl] at hj ⊢
    rw [show (ms.length + 1) / 64 = ms.length / 64 by omega]
    by_cases k : j = ms.length % 64 / 4
    · rw [k, sh_n_at h hb]
      show nI _ = nI _
      rw [show ms.length % 4 + 1 = 4 by omega, show ms.length - ms.length % 4 = 64 * (ms.length / 64) + 4 * (ms.length % 64 / 4) by omega]
    · rw [sh_n_ne k, h.2.1 j (by omega)]
      exact congrArg nI (sp_p_congr (fun r hr => (sp_m_lt (by omega)).symm))
  · rw [hl] at hk ⊢
    rw [show (ms.length + 1) % 64 / 4 = ms.length % 64 / 4 by omega, sh_n_at h hb]
    congr 1
    rw [show (ms.length + 1) % 4 = ms.length % 4 + 1 by omega]
    congr 1
    omega
/-- a byte more, and the block is full -/
theorem sh_I_full {ms : List Nat} {f g W : Nat → Int32} {b : Nat} (h : sh_I ms f g) (hb : b < 256) (hn : (ms.length + 1) % 64 = 0) : sh_I (ms ++ [b]) (sp_c f (sh_n ms g b)) W := by
  have hl : (ms ++ [b]).length = ms.length + 1 := by simp
  refine ⟨fun i hi => ?_, fun j hj => ?_, fun hk => ?_⟩
  · rw [hl, show (ms.length + 1) / 64 = ms.length / 64 + 1 by omega]
    refine sp_c_congr (fun i hi => ?_) (fun j hj => ?_) i hi
    · rw [h.1 i hi]
      exact sp_hs_congr _ (fun j hj => (sp_m_lt (by omega)).symm) i hi
    · by_cases k : j = ms.length % 64 / 4
      · rw [k, sh_n_at h hb]
        show nI _ = nI _
        rw [show ms.length % 4 + 1 = 4 by omega, show ms.length - ms.length % 4 = 64 * (ms.length / 64) + 4 * (ms.length % 64 / 4) by omega]
      · rw [sh_n_ne k, h.2.1 j (by omega)]
        exact congrArg nI (sp_p_congr (fun r hr => (sp_m_lt (by omega)).symm))
  · rw [hl] at hj
    omega
  · rw [hl] at hk
    omega
/-- the class's Sha at o holds the message ms -/
def sh_X (o : Nat) (ms : List Nat) (h : on_H) : Prop := ∃ f g : Nat → Int32, sh_B o f g (nI ms.length) h ∧ sh_I ms f g
theorem sh_X.keep {o : Nat} {ms : List Nat} {h h2 : on_H} (k : sh_X o ms h) (hk : ∀ a, o ≤ a → a < o + 3 → h2 a = h a) : sh_X o ms h2 := by
  obtain ⟨f, g, ⟨b1, b2, b3⟩, hI⟩ := k
  exact ⟨f, g, ⟨(hk _ (by omega) (by omega)).trans b1, (hk _ (by omega) (by omega)).trans b2, (hk _ (by omega) (by omega)).trans b3⟩, hI⟩
