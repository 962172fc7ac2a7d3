section RWK
variable {G : on_G} {M : on_M} {pc pc' : Nat} {lv : on_V} {st : List Value} {h : on_H} {sz bc bs : Nat} {Q : Option Value → on_H → Nat → Prop}
theorem on_aaloadK {a t n k : Nat} {C : String} {f : Nat → Option Nat} {i : Int32} (hd : on_tb M pc = some (.aaload, 1)) (hp : pc + 1 = pc') (ha : h a = some (on_aq t n f)) (ht : on_tyl[t]? = some (.object C)) (hi : i = nI k) (hk : k < n ∧ n < 2 ^ 31) (kk : on_E G M pc' lv (va_rf (f k) :: st) h sz bc bs Q) : on_E G M pc lv (.int i :: .ref a :: st) h sz bc bs Q := by
  subst hi
  have e : (nI k).toNatClampNeg = k := nI_clamp (by omega)
  refine on_aaload hd hp ha ht (vp_in_nI hk.1 hk.2) ?_
  rw [e]
  exact kk
theorem on_aastoreK {a b t n ci k : Nat} {q : vw_C} {vs : List Value} {f : Nat → Option Nat} {i : Int32} (hd : on_tb M pc = some (.aastore, 1)) (hp : pc + 1 = pc') (ha : h a = some (on_aq t n f)) (hcl : on_cl[ci]? = some q) (ht : on_tyl[t]? = some (.object q.1)) (hb : h b = some (.inr (ci, vs))) (hi : i = nI k) (hk : k < n ∧ n < 2 ^ 31) (kk : on_E G M pc' lv st (on_up h a (on_aq t n (va_up f k (some b)))) sz bc bs Q) : on_E G M pc lv (.ref b :: .int i :: .ref a :: st) h sz bc bs Q := by
  subst hi
  have e : (nI k).toNatClampNeg = k := nI_clamp (by omega)
  refine on_aastore hd hp ha hcl ht hb (vp_in_nI hk.1 hk.2) ?_
  rw [e]
  exact kk
theorem on_zastoreK {a t n k : Nat} {f : Nat → Int32} {i x : Int32} (hd : on_tb M pc = some (.bastore, 1)) (hp : pc + 1 = pc') (ha : h a = some (on_ai t n f)) (ht : on_tyl[t]? = some .boolean) (hi : i = nI k) (hk : k < n ∧ n < 2 ^ 31) (hx : narrow .boolean (.int x) = .int x) (kk : on_E G M pc' lv st (on_up h a (on_ai t n (upd f k x))) sz bc bs Q) : on_E G M pc lv (.int x :: .int i :: .ref a :: st) h sz bc bs Q := by
  subst hi
  have e : (nI k).toNatClampNeg = k := nI_clamp (by omega)
  refine on_zastore hd hp ha ht (vp_in_nI hk.1 hk.2) hx ?_
  rw [e]
  exact kk
end RWK
