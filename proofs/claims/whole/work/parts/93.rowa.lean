section RWA
variable {G : on_G} {M : on_M} {pc pc' : Nat} {lv : on_V} {st : List Value} {h : on_H} {sz bc bs : Nat} {Q : Option Value → on_H → Nat → Prop}
/-- a row of a row of rows -/
theorem on_aaloadA {a t n k : Nat} {ty : FieldType} {f : Nat → Option Nat} {i : Int32} (hd : on_tb M pc = some (.aaload, 1)) (hp : pc + 1 = pc') (ha : h a = some (on_aq t n f)) (ht : on_tyl[t]? = some (.array ty)) (hi : i = nI k) (hk : k < n ∧ n < 2 ^ 31) (kk : on_E G M pc' lv (va_rf (f k) :: st) h sz bc bs Q) : on_E G M pc lv (.int i :: .ref a :: st) h sz bc bs Q := by
  subst hp
  subst hi
  have ec : (nI k).toNatClampNeg = k := nI_clamp (by omega)
  intro p l e R s m args below meth c H locs cells slots ls S hl hR hS hc hs
  have hin : vp_in (nI k) n := vp_in_nI hk.1 hk.2
  refine W.aald (v := va_rf (f k)) (ty := .array ty) S.1 S.2.1 ((hR.one ha) 0 _ rfl) ((S.2.2.2.2.2.2.2.2.1.2.1 t _ ht).1 n (fun j => va_rf (f j))) rfl (fun q => by cases q) (by show ¬ (nI k < 0 ∨ (arrV _ _ _).slots.size ≤ _); rw [arrV_size]; exact hin) ?_ rfl rfl (S.dec hd) (kk p l e R s m args below meth c H locs cells slots ls S hl hR hS hc hs)
  show (arrV _ _ _).slots[_]? = _
  rw [ec, arrV_read _ _ hk.1]
end RWA
