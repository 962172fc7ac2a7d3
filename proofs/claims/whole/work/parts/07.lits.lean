theorem li_m1 : Int32.ofInt (-1) = (-1) := by decide
theorem li_0 : Int32.ofInt 0 = 0 := by decide
theorem li_1 : Int32.ofInt 1 = 1 := by decide
theorem li_2 : Int32.ofInt 2 = 2 := by decide
theorem li_3 : Int32.ofInt 3 = 3 := by decide
theorem li_4 : Int32.ofInt 4 = 4 := by decide
theorem li_5 : Int32.ofInt 5 = 5 := by decide
theorem lb_6 : (Int8.ofInt 6).toInt32 = 6 := by decide
theorem lb_7 : (Int8.ofInt 7).toInt32 = 7 := by decide
theorem lb_8 : (Int8.ofInt 8).toInt32 = 8 := by decide
theorem lb_9 : (Int8.ofInt 9).toInt32 = 9 := by decide
theorem lb_10 : (Int8.ofInt 10).toInt32 = 10 := by decide
theorem lb_11 : (Int8.ofInt 11).toInt32 = 11 := by decide
theorem lb_12 : (Int8.ofInt 12).toInt32 = 12 := by decide
theorem lb_13 : (Int8.ofInt 13).toInt32 = 13 := by decide
theorem lb_14 : (Int8.ofInt 14).toInt32 = 14 := by decide
theorem lb_15 : (Int8.ofInt 15).toInt32 = 15 := by decide
theorem lb_16 : (Int8.ofInt 16).toInt32 = 16 := by decide
theorem lb_17 : (Int8.ofInt 17).toInt32 = 17 := by decide
theorem lb_18 : (Int8.ofInt 18).toInt32 = 18 := by decide
theorem lb_19 : (Int8.ofInt 19).toInt32 = 19 := by decide
theorem lb_20 : (Int8.ofInt 20).toInt32 = 20 := by decide
theorem lb_21 : (Int8.ofInt 21).toInt32 = 21 := by decide
theorem lb_22 : (Int8.ofInt 22).toInt32 = 22 := by decide
theorem lb_24 : (Int8.ofInt 24).toInt32 = 24 := by decide
theorem lb_25 : (Int8.ofInt 25).toInt32 = 25 := by decide
theorem lb_26 : (Int8.ofInt 26).toInt32 = 26 := by decide
theorem lb_29 : (Int8.ofInt 29).toInt32 = 29 := by decide
theorem lb_30 : (Int8.ofInt 30).toInt32 = 30 := by decide
theorem lb_31 : (Int8.ofInt 31).toInt32 = 31 := by decide
theorem lb_32 : (Int8.ofInt 32).toInt32 = 32 := by decide
theorem lb_34 : (Int8.ofInt 34).toInt32 = 34 := by decide
theorem lb_35 : (Int8.ofInt 35).toInt32 = 35 := by decide
theorem lb_36 : (Int8.ofInt 36).toInt32 = 36 := by decide
theorem lb_37 : (Int8.ofInt 37).toInt32 = 37 := by decide
theorem lb_41 : (Int8.ofInt 41).toInt32 = 41 := by decide
theorem lb_54 : (Int8.ofInt 54).toInt32 = 54 := by decide
theorem lb_56 : (Int8.ofInt 56).toInt32 = 56 := by decide
theorem lb_63 : (Int8.ofInt 63).toInt32 = 63 := by decide
theorem lb_64 : (Int8.ofInt 64).toInt32 = 64 := by decide
theorem lb_68 : (Int8.ofInt 68).toInt32 = 68 := by decide
theorem lb_69 : (Int8.ofInt 69).toInt32 = 69 := by decide
theorem lb_92 : (Int8.ofInt 92).toInt32 = 92 := by decide
theorem lb_100 : (Int8.ofInt 100).toInt32 = 100 := by decide
theorem lb_106 : (Int8.ofInt 106).toInt32 = 106 := by decide
theorem lb_124 : (Int8.ofInt 124).toInt32 = 124 := by decide
theorem lb_127 : (Int8.ofInt 127).toInt32 = 127 := by decide
theorem ls_128 : (Int16.ofInt 128).toInt32 = 128 := by decide
theorem ls_132 : (Int16.ofInt 132).toInt32 = 132 := by decide
theorem ls_135 : (Int16.ofInt 135).toInt32 = 135 := by decide
theorem ls_140 : (Int16.ofInt 140).toInt32 = 140 := by decide
theorem ls_164 : (Int16.ofInt 164).toInt32 = 164 := by decide
theorem ls_172 : (Int16.ofInt 172).toInt32 = 172 := by decide
theorem ls_200 : (Int16.ofInt 200).toInt32 = 200 := by decide
theorem ls_248 : (Int16.ofInt 248).toInt32 = 248 := by decide
theorem ls_250 : (Int16.ofInt 250).toInt32 = 250 := by decide
theorem ls_254 : (Int16.ofInt 254).toInt32 = 254 := by decide
theorem ls_255 : (Int16.ofInt 255).toInt32 = 255 := by decide
theorem ls_256 : (Int16.ofInt 256).toInt32 = 256 := by decide
theorem ls_400 : (Int16.ofInt 400).toInt32 = 400 := by decide
theorem ls_1000 : (Int16.ofInt 1000).toInt32 = 1000 := by decide
theorem ls_1120 : (Int16.ofInt 1120).toInt32 = 1120 := by decide
theorem ls_1600 : (Int16.ofInt 1600).toInt32 = 1600 := by decide
theorem ls_2000 : (Int16.ofInt 2000).toInt32 = 2000 := by decide
theorem ls_8000 : (Int16.ofInt 8000).toInt32 = 8000 := by decide
theorem ll_0 : Int64.ofNat ((0 : Fin 2) : Nat) = 0 := by decide
theorem ll_1 : Int64.ofNat ((1 : Fin 2) : Nat) = 1 := by decide
theorem on_lit (k : Nat) : (OfNat.ofNat k : Int32) = nI k := rfl
section ONK
variable {G : on_G} {M : on_M} {pc pc' : Nat} {lv : on_V} {st : List Value} {h : on_H} {sz bc bs : Nat} {Q : Option Value → on_H → Nat → Prop}
theorem on_iinc1 {i : Nat} {x : Int32} (hd : on_tb M pc = some (.iinc i 1, 3)) (hp : pc + 3 = pc') (hx : lv i = some (.int x)) (k : on_E G M pc' (on_s1 lv i (.int (x + 1))) st h sz bc bs Q) : on_E G M pc lv st h sz bc bs Q := on_iinc hd hp hx rfl k
/-- indices by their numbers -/
theorem on_ialoadK {a t n k : Nat} {f : Nat → Int32} {i : Int32} (hd : on_tb M pc = some (.iaload, 1)) (hp : pc + 1 = pc') (ha : h a = some (on_ai t n f)) (ht : on_tyl[t]? = some .int) (hi : i = nI k) (hk : k < n ∧ n < 2 ^ 31) (kk : on_E G M pc' lv (.int (f k) :: st) h sz bc bs Q) : on_E G M pc lv (.int i :: .ref a :: st) h sz bc bs Q := by
  subst hi
  refine on_iaload hd hp ha ht (vp_in_nI hk.1 hk.2) ?_
  rw [nI_clamp (Nat.lt_trans hk.1 hk.2)]
  exact kk
theorem on_zaloadK {a t n k : Nat} {f : Nat → Int32} {i : Int32} (hd : on_tb M pc = some (.baload, 1)) (hp : pc + 1 = pc') (ha : h a = some (on_ai t n f)) (ht : on_tyl[t]? = some .boolean) (hi : i = nI k) (hk : k < n ∧ n < 2 ^ 31) (kk : on_E G M pc' lv (.int (f k) :: st) h sz bc bs Q) : on_E G M pc lv (.int i :: .ref a :: st) h sz bc bs Q := by
  subst hi
  refine on_zaload hd hp ha ht (vp_in_nI hk.1 hk.2) ?_
  rw [nI_clamp (Nat.lt_trans hk.1 hk.2)]
  exact kk
theorem on_laloadK {a t n k : Nat} {f : Nat → Int64} {i : Int32} (hd : on_tb M pc = some (.laload, 1)) (hp : pc + 1 = pc') (ha : h a = some (on_al t n f)) (ht : on_tyl[t]? = some .long) (hi : i = nI k) (hk : k < n ∧ n < 2 ^ 31) (kk : on_E G M pc' lv (.long (f k) :: st) h sz bc bs Q) : on_E G M pc lv (.int i :: .ref a :: st) h sz bc bs Q := by
  subst hi
  refine on_laload hd hp ha ht (vp_in_nI hk.1 hk.2) ?_
  rw [nI_clamp (Nat.lt_trans hk.1 hk.2)]
  exact kk
theorem on_iastoreK {a t n k : Nat} {f : Nat → Int32} {i x : Int32} (hd : on_tb M pc = some (.iastore, 1)) (hp : pc + 1 = pc') (ha : h a = some (on_ai t n f)) (ht : on_tyl[t]? = some .int) (hi : i = nI k) (hk : k < n ∧ n < 2 ^ 31) (kk : on_E G M pc' lv st (on_up h a (on_ai t n (upd f k x))) sz bc bs Q) : on_E G M pc lv (.int x :: .int i :: .ref a :: st) h sz bc bs Q := by
  subst hi
  refine on_iastore hd hp ha ht (vp_in_nI hk.1 hk.2) ?_
  rw [nI_clamp (Nat.lt_trans hk.1 hk.2)]
  exact kk
theorem on_lastoreK {a t n k : Nat} {f : Nat → Int64} {i : Int32} {x : Int64} (hd : on_tb M pc = some (.lastore, 1)) (hp : pc + 1 = pc') (ha : h a = some (on_al t n f)) (ht : on_tyl[t]? = some .long) (hi : i = nI k) (hk : k < n ∧ n < 2 ^ 31) (kk : on_E G M pc' lv st (on_up h a (on_al t n (vp_updL f k x))) sz bc bs Q) : on_E G M pc lv (.long x :: .int i :: .ref a :: st) h sz bc bs Q := by
  subst hi
  refine on_lastore hd hp ha ht (vp_in_nI hk.1 hk.2) ?_
  rw [nI_clamp (Nat.lt_trans hk.1 hk.2)]
  exact kk
theorem on_saloadK {k j : Nat} {q : String × String × List Int32} {i : Int32} (hd : on_tb M pc = some (.iaload, 1)) (hp : pc + 1 = pc') (hq : on_stl[k]? = some q) (hi : i = nI j) (hj : j < q.2.2.length ∧ q.2.2.length < 2 ^ 31) (kk : on_E G M pc' lv (.int (q.2.2.getD j 0) :: st) h sz bc bs Q) : on_E G M pc lv (.int i :: .ref (on_sa G k) :: st) h sz bc bs Q := by
  subst hi
  refine on_saload hd hp hq (vp_in_nI hj.1 hj.2) ?_
  rw [nI_clamp (Nat.lt_trans hj.1 hj.2)]
  exact kk
theorem on_alenI {a t n : Nat} {f : Nat → Int32} {ty : FieldType} (hd : on_tb M pc = some (.arraylength, 1)) (hp : pc + 1 = pc') (ha : h a = some (on_ai t n f)) (ht : on_tyl[t]? = some ty) (kk : on_E G M pc' lv (.int (nI n) :: st) h sz bc bs Q) : on_E G M pc lv (.ref a :: st) h sz bc bs Q := on_alen hd hp ha ht rfl kk
theorem on_alenL {a t n : Nat} {f : Nat → Int64} {ty : FieldType} (hd : on_tb M pc = some (.arraylength, 1)) (hp : pc + 1 = pc') (ha : h a = some (on_al t n f)) (ht : on_tyl[t]? = some ty) (kk : on_E G M pc' lv (.int (nI n) :: st) h sz bc bs Q) : on_E G M pc lv (.ref a :: st) h sz bc bs Q := on_alen hd hp ha ht rfl kk
theorem on_alenQ {a t n : Nat} {f : Nat → Option Nat} {ty : FieldType} (hd : on_tb M pc = some (.arraylength, 1)) (hp : pc + 1 = pc') (ha : h a = some (on_aq t n f)) (ht : on_tyl[t]? = some ty) (kk : on_E G M pc' lv (.int (nI n) :: st) h sz bc bs Q) : on_E G M pc lv (.ref a :: st) h sz bc bs Q := on_alen hd hp ha ht rfl kk
/-- other locals that hold the same -/
def on_lvs (lv : on_V) : List (Nat × Value) → Prop
  | [] => True
  | q :: r => lv q.1 = some q.2 ∧ on_lvs lv r
theorem on_lvs_mem {lv : on_V} : ∀ {l : List (Nat × Value)}, on_lvs lv l → ∀ q ∈ l, lv q.1 = some q.2
  | [], _, q, h => by cases h
  | x :: r, h, q, hq => by
    rcases List.mem_cons.mp hq with e | h2
    · rw [e]; exact h.1
    · exact on_lvs_mem h.2 q h2
theorem on_relv {l : List (Nat × Value)} (hs : on_lvs lv l) (k : on_E G M pc (on_l l) st h sz bc bs Q) : on_E G M pc lv st h sz bc bs Q := by
  intro p l0 e R s m args below meth c H locs cells slots ls S hl hR hS hc hs2
  exact k p l0 e R s m args below meth c H locs cells slots ls S ⟨hl.1, hl.2.1, fun i v hi => hl.2.2 i v (on_lvs_mem hs (i, v) (on_l_mem hi))⟩ hR hS hc hs2
/-- a wider end -/
theorem on_E.imp {Q2 : Option Value → on_H → Nat → Prop} (k : on_E G M pc lv st h sz bc bs Q2) (hq : ∀ r h1 z, Q2 r h1 z → Q r h1 z) : on_E G M pc lv st h sz bc bs Q := by
  intro p l e R s m args below meth c H locs cells slots ls S hl hR hS hc hs T hT X
  obtain ⟨t, a1, o, b1, b2, ⟨⟨r, h1, z, c1, c2, c3⟩, c4⟩, b4⟩ := k p l e R s m args below meth c H locs cells slots ls S hl hR hS hc hs T hT X
  exact ⟨t, a1, o, b1, b2, ⟨⟨r, h1, z, c1, hq r h1 z c2, c3⟩, c4⟩, b4⟩
end ONK
