/-! the reference's working rows between calls -/
def mw (o : Nat) (x : Int32 × Int32 × Int32) (h : on_H) : Prop :=
  mo_O o x h ∧
  ms_W (o + 8) h ∧
  ms_W (o + 11) h ∧
  ms_W (o + 14) h ∧
  rW h (o + 18) 32 ∧
  rW h (o + 19) 64 ∧
  rW h (o + 20) 256 ∧
  rW h (o + 21) 32 ∧
  rW h (o + 22) 32 ∧
  rW h (o + 23) 32 ∧
  rW h (o + 24) 140 ∧
  rW h (o + 25) 135 ∧
  rW h (o + 26) 68 ∧
  rW h (o + 27) 16 ∧
  rW h (o + 28) 16 ∧
  (∃ c, mc_S o x c h) ∧
  rW h (o + 41) 124
theorem mw.ob {o : Nat} {x : Int32 × Int32 × Int32} {h : on_H} (k : mw o x h) : mo_O o x h := k.1
theorem mw.sa {o : Nat} {x : Int32 × Int32 × Int32} {h : on_H} (k : mw o x h) : ms_W (o + 8) h := k.2.1
theorem mw.si {o : Nat} {x : Int32 × Int32 × Int32} {h : on_H} (k : mw o x h) : ms_W (o + 11) h := k.2.2.1
theorem mw.st {o : Nat} {x : Int32 × Int32 × Int32} {h : on_H} (k : mw o x h) : ms_W (o + 14) h := k.2.2.2.1
theorem mw.dg {o : Nat} {x : Int32 × Int32 × Int32} {h : on_H} (k : mw o x h) : rW h (o + 18) 32 := k.2.2.2.2.1
theorem mw.ky {o : Nat} {x : Int32 × Int32 × Int32} {h : on_H} (k : mw o x h) : rW h (o + 19) 64 := k.2.2.2.2.2.1
theorem mw.tx {o : Nat} {x : Int32 × Int32 × Int32} {h : on_H} (k : mw o x h) : rW h (o + 20) 256 := k.2.2.2.2.2.2.1
theorem mw.pt {o : Nat} {x : Int32 × Int32 × Int32} {h : on_H} (k : mw o x h) : rW h (o + 21) 32 := k.2.2.2.2.2.2.2.1
theorem mw.r1 {o : Nat} {x : Int32 × Int32 × Int32} {h : on_H} (k : mw o x h) : rW h (o + 22) 32 := k.2.2.2.2.2.2.2.2.1
theorem mw.r2 {o : Nat} {x : Int32 × Int32 × Int32} {h : on_H} (k : mw o x h) : rW h (o + 23) 32 := k.2.2.2.2.2.2.2.2.2.1
theorem mw.ce {o : Nat} {x : Int32 × Int32 × Int32} {h : on_H} (k : mw o x h) : rW h (o + 24) 140 := k.2.2.2.2.2.2.2.2.2.2.1
theorem mw.pl {o : Nat} {x : Int32 × Int32 × Int32} {h : on_H} (k : mw o x h) : rW h (o + 25) 135 := k.2.2.2.2.2.2.2.2.2.2.2.1
theorem mw.sk {o : Nat} {x : Int32 × Int32 × Int32} {h : on_H} (k : mw o x h) : rW h (o + 26) 68 := k.2.2.2.2.2.2.2.2.2.2.2.2.1
theorem mw.bl {o : Nat} {x : Int32 × Int32 × Int32} {h : on_H} (k : mw o x h) : rW h (o + 27) 16 := k.2.2.2.2.2.2.2.2.2.2.2.2.2.1
theorem mw.be {o : Nat} {x : Int32 × Int32 × Int32} {h : on_H} (k : mw o x h) : rW h (o + 28) 16 := k.2.2.2.2.2.2.2.2.2.2.2.2.2.2.1
theorem mw.li {o : Nat} {x : Int32 × Int32 × Int32} {h : on_H} (k : mw o x h) : ∃ c, mc_S o x c h := k.2.2.2.2.2.2.2.2.2.2.2.2.2.2.2.1
theorem mw.da {o : Nat} {x : Int32 × Int32 × Int32} {h : on_H} (k : mw o x h) : rW h (o + 41) 124 := k.2.2.2.2.2.2.2.2.2.2.2.2.2.2.2.2
section MWS
variable {G : on_G} {o q sz bc bs : Nat} {x3 : Int32 × Int32 × Int32} {h h1 : on_H} {Q : Option Value → on_H → Nat → Prop}
theorem mc_S.keep {c : Nat → Nat → Int64} (k : mc_S o x3 c h) (e : h1 o = h o) (e2 : ∀ a, o + 29 ≤ a → a < o + 41 → h1 a = h a) : mc_S o x3 c h1 := mc_S_sm k (fun a ha => by
  rcases ha with rfl | ha
  · exact e
  · exact e2 a ha.1 ha.2)
theorem mw.keep (K : mw o x3 h) (e : ∀ a, o ≤ a → a < o + 42 → (a = o ∨ o + 8 ≤ a) → h1 a = h a) : mw o x3 h1 := by
  refine ⟨?_, ?_, ?_, ?_, ?_, ?_, ?_, ?_, ?_, ?_, ?_, ?_, ?_, ?_, ?_, ?_, ?_⟩
  · exact K.ob.keep (e _ (by omega) (by omega) (by omega)) (e _ (by omega) (by omega) (by omega))
  · exact K.sa.keep (fun a h1 h2 => e a (by omega) (by omega) (by omega))
  · exact K.si.keep (fun a h1 h2 => e a (by omega) (by omega) (by omega))
  · exact K.st.keep (fun a h1 h2 => e a (by omega) (by omega) (by omega))
  · exact K.dg.keep (e _ (by omega) (by omega) (by omega))
  · exact K.ky.keep (e _ (by omega) (by omega) (by omega))
  · exact K.tx.keep (e _ (by omega) (by omega) (by omega))
  · exact K.pt.keep (e _ (by omega) (by omega) (by omega))
  · exact K.r1.keep (e _ (by omega) (by omega) (by omega))
  · exact K.r2.keep (e _ (by omega) (by omega) (by omega))
  · exact K.ce.keep (e _ (by omega) (by omega) (by omega))
  · exact K.pl.keep (e _ (by omega) (by omega) (by omega))
  · exact K.sk.keep (e _ (by omega) (by omega) (by omega))
  · exact K.bl.keep (e _ (by omega) (by omega) (by omega))
  · exact K.be.keep (e _ (by omega) (by omega) (by omega))
  · obtain ⟨c, hc⟩ := K.li
    exact ⟨c, hc.keep (e _ (by omega) (by omega) (by omega)) (fun a h1 h2 => e a (by omega) (by omega) (by omega))⟩
  · exact K.da.keep (e _ (by omega) (by omega) (by omega))
/-- a row of the reference: its place, its length -/
def mw_n (a : Nat) : Nat := if a = 18 then 32 else if a = 19 then 64 else if a = 20 then 256 else if a = 24 then 140 else if a = 25 then 135 else if a = 26 then 68 else if a = 27 then 16 else if a = 28 then 16 else if a = 41 then 124 else 32
/-- only a row, outside or among the reference's, was written, and its scratch rows -/
theorem mw.row (K : mw o x3 h) (hr : o ≤ q → q < o + 42 → rW h1 q (mw_n (q - o))) (hq : q < o ∨ o + 42 ≤ q ∨ (o + 18 ≤ q ∧ q < o + 29) ∨ q = o + 41) (e : ∀ a, a ≠ q → h1 a = h a) : mw o x3 h1 := by
  refine ⟨?_, ?_, ?_, ?_, ?_, ?_, ?_, ?_, ?_, ?_, ?_, ?_, ?_, ?_, ?_, ?_, ?_⟩
  · exact K.ob.keep (e _ (by omega)) (e _ (by omega))
  · exact K.sa.keep (fun a h1 h2 => e a (by omega))
  · exact K.si.keep (fun a h1 h2 => e a (by omega))
  · exact K.st.keep (fun a h1 h2 => e a (by omega))
  · by_cases z : o + 18 = q
    · subst z; have hr := hr (by omega) (by omega); rw [show o + 18 - o = 18 by omega] at hr; exact hr
    · exact K.dg.keep (e _ z)
  · by_cases z : o + 19 = q
    · subst z; have hr := hr (by omega) (by omega); rw [show o + 19 - o = 19 by omega] at hr; exact hr
    · exact K.ky.keep (e _ z)
  · by_cases z : o + 20 = q
    · subst z; have hr := hr (by omega) (by omega); rw [show o + 20 - o = 20 by omega] at hr; exact hr
    · exact K.tx.keep (e _ z)
  · by_cases z : o + 21 = q
    · subst z; have hr := hr (by omega) (by omega); rw [show o + 21 - o = 21 by omega] at hr; exact hr
    · exact K.pt.keep (e _ z)
  · by_cases z : o + 22 = q
    · subst z; have hr := hr (by omega) (by omega); rw [show o + 22 - o = 22 by omega] at hr; exact hr
    · exact K.r1.keep (e _ z)
  · by_cases z : o + 23 = q
    · subst z; have hr := hr (by omega) (by omega); rw [show o + 23 - o = 23 by omega] at hr; exact hr
    · exact K.r2.keep (e _ z)
  · by_cases z : o + 24 = q
    · subst z; have hr := hr (by omega) (by omega); rw [show o + 24 - o = 24 by omega] at hr; exact hr
    · exact K.ce.keep (e _ z)
  · by_cases z : o + 25 = q
    · subst z; have hr := hr (by omega) (by omega); rw [show o + 25 - o = 25 by omega] at hr; exact hr
    · exact K.pl.keep (e _ z)
  · by_cases z : o + 26 = q
    · subst z; have hr := hr (by omega) (by omega); rw [show o + 26 - o = 26 by omega] at hr; exact hr
    · exact K.sk.keep (e _ z)
  · by_cases z : o + 27 = q
    · subst z; have hr := hr (by omega) (by omega); rw [show o + 27 - o = 27 by omega] at hr; exact hr
    · exact K.bl.keep (e _ z)
  · by_cases z : o + 28 = q
    · subst z; have hr := hr (by omega) (by omega); rw [show o + 28 - o = 28 by omega] at hr; exact hr
    · exact K.be.keep (e _ z)
  · obtain ⟨c, hc⟩ := K.li
    exact ⟨c, hc.keep (e _ (by omega)) (fun a h1 h2 => e a (by omega))⟩
  · by_cases z : o + 41 = q
    · subst z; have hr := hr (by omega) (by omega); rw [show o + 41 - o = 41 by omega] at hr; exact hr
    · exact K.da.keep (e _ z)
/-- the hashes and two rows are written, and q -/
theorem mw.has (K : mw o x3 h) (A : ms_W (o + 8) h1) (B : ms_W (o + 11) h1) (C : ms_W (o + 14) h1) (D : rW h1 (o + 18) 32) (E : rW h1 (o + 19) 64) (hr : o ≤ q → q < o + 42 → rW h1 q (mw_n (q - o))) (hq : q < o ∨ o + 42 ≤ q ∨ (o + 20 ≤ q ∧ q < o + 29) ∨ q = o + 41) (e : ∀ a, a ≠ q → (a < o + 8 ∨ o + 17 ≤ a) → a ≠ o + 18 → a ≠ o + 19 → h1 a = h a) : mw o x3 h1 := by
  refine ⟨?_, ?_, ?_, ?_, ?_, ?_, ?_, ?_, ?_, ?_, ?_, ?_, ?_, ?_, ?_, ?_, ?_⟩
  · exact K.ob.keep (e _ (by omega) (by omega) (by omega) (by omega)) (e _ (by omega) (by omega) (by omega) (by omega))
  · exact A
  · exact B
  · exact C
  · exact D
  · exact E
  · by_cases z : o + 20 = q
    · subst z; have hr := hr (by omega) (by omega); rw [show o + 20 - o = 20 by omega] at hr; exact hr
    · exact K.tx.keep (e _ z (by omega) (by omega) (by omega))
  · by_cases z : o + 21 = q
    · subst z; have hr := hr (by omega) (by omega); rw [show o + 21 - o = 21 by omega] at hr; exact hr
    · exact K.pt.keep (e _ z (by omega) (by omega) (by omega))
  · by_cases z : o + 22 = q
    · subst z; have hr := hr (by omega) (by omega); rw [show o + 22 - o = 22 by omega] at hr; exact hr
    · exact K.r1.keep (e _ z (by omega) (by omega) (by omega))
  · by_cases z : o + 23 = q
    · subst z; have hr := hr (by omega) (by omega); rw [show o + 23 - o = 23 by omega] at hr; exact hr
    · exact K.r2.keep (e _ z (by omega) (by omega) (by omega))
  · by_cases z : o + 24 = q
    · subst z; have hr := hr (by omega) (by omega); rw [show o + 24 - o = 24 by omega] at hr; exact hr
    · exact K.ce.keep (e _ z (by omega) (by omega) (by omega))
  · by_cases z : o + 25 = q
    · subst z; have hr := hr (by omega) (by omega); rw [show o + 25 - o = 25 by omega] at hr; exact hr
    · exact K.pl.keep (e _ z (by omega) (by omega) (by omega))
  · by_cases z : o + 26 = q
    · subst z; have hr := hr (by omega) (by omega); rw [show o + 26 - o = 26 by omega] at hr; exact hr
    · exact K.sk.keep (e _ z (by omega) (by omega) (by omega))
  · by_cases z : o + 27 = q
    · subst z; have hr := hr (by omega) (by omega); rw [show o + 27 - o = 27 by omega] at hr; exact hr
    · exact K.bl.keep (e _ z (by omega) (by omega) (by omega))
  · by_cases z : o + 28 = q
    · subst z; have hr := hr (by omega) (by omega); rw [show o + 28 - o = 28 by omega] at hr; exact hr
    · exact K.be.keep (e _ z (by omega) (by omega) (by omega))
  · obtain ⟨c, hc⟩ := K.li
    exact ⟨c, hc.keep (e _ (by omega) (by omega) (by omega) (by omega)) (fun a h1 h2 => e a (by omega) (by omega) (by omega) (by omega))⟩
  · by_cases z : o + 41 = q
    · subst z; have hr := hr (by omega) (by omega); rw [show o + 41 - o = 41 by omega] at hr; exact hr
    · exact K.da.keep (e _ z (by omega) (by omega) (by omega))
/-- behind mac -/
theorem mw.mac (W : mw o x3 h) (A1 : ms_W (o + 8) h1) (B1 : ms_W (o + 11) h1) (K1 : rW h1 (o + 19) 64) (D1 : rW h1 (o + 18) 32) (R1 : rW h1 q 32) (hqo : q < o ∨ o + 42 ≤ q ∨ q = o + 22 ∨ q = o + 23) (t : ∀ a, a ≠ q → (a < o + 8 ∨ (o + 14 ≤ a ∧ a ≠ o + 18 ∧ a ≠ o + 19)) → h1 a = h a) : mw o x3 h1 := by
  refine W.has (q := q) A1 B1 (W.st.keep (fun a h1 h2 => t a (by omega) (by omega))) D1 K1 (fun h2 h3 => ?_) (by omega) (fun a h1 h2 h3 h4 => t a h1 (by omega))
  rcases (show q = o + 22 ∨ q = o + 23 by omega) with rfl | rfl
  · rw [show o + 22 - o = 22 by omega]; exact R1
  · rw [show o + 23 - o = 23 by omega]; exact R1
end MWS
