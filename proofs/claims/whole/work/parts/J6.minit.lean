/-! the reference: its constructor -/
section MBU
variable {G : on_G} {M : on_M} {pc sz bc bs bc2 bs2 : Nat} {lv : on_V} {st : List Value} {h : on_H} {Q : Option Value → on_H → Nat → Prop}
/-- what needs fewer cells -/
theorem on_budget (hc : bc2 ≤ bc) (hs : bs2 ≤ bs) (k : on_E G M pc lv st h sz bc2 bs2 Q) : on_E G M pc lv st h sz bc bs Q := by
  intro p l e R s m args below meth c H locs cells slots ls S hl hR hS h1 h2
  exact k p l e R s m args below meth c H locs cells slots ls S hl hR hS (by omega) (by omega)
end MBU
section MIT
variable {G : on_G} {o sz bc bs : Nat} {RA CA : Nat → Nat} {h : on_H} {Q : Option Value → on_H → Nat → Prop}
def mj_1 (o : Nat) (h g : on_H) : Prop := g o = some (.inr (17, [.ref (o + 1), .int 0, .ref (o + 2), .ref (o + 3), .ref (o + 4), .int 0, .ref (o + 5), .int 0, .ref (o + 6), .ref (o + 7), .null, .null, .null, .null, .null, .null, .null, .null, .null, .null, .null, .null, .null, .null, .null, .null, .null, .null, .null, .null, .null, .null, .null, .null, .null, .null, .null, .null])) ∧ (g (o + 1) = some (on_aq 13 6 (fun _ => none))) ∧ (g (o + 2) = some (on_al 1 2 (fun _ => 0))) ∧ (g (o + 3) = some (on_ai 0 2 (fun _ => 0))) ∧ (g (o + 4) = some (on_ai 0 2 (fun _ => 0))) ∧ (g (o + 5) = some (on_aq 14 6 (fun _ => none))) ∧ (g (o + 6) = some (on_ai 0 112000 (fun _ => 0))) ∧ (g (o + 7) = some (on_ai 0 100 (fun _ => 0))) ∧ ∀ b, b < o → g b = h b
def mj_2 (o : Nat) (h g : on_H) : Prop := g o = some (.inr (17, [.ref (o + 1), .int 0, .ref (o + 2), .ref (o + 3), .ref (o + 4), .int 0, .ref (o + 5), .int 0, .ref (o + 6), .ref (o + 7), .ref (o + 8), .null, .null, .null, .null, .null, .null, .null, .null, .null, .null, .null, .null, .null, .null, .null, .null, .null, .null, .null, .null, .null, .null, .null, .null, .null, .null, .null])) ∧ (g (o + 1) = some (on_aq 13 6 (fun _ => none))) ∧ (g (o + 2) = some (on_al 1 2 (fun _ => 0))) ∧ (g (o + 3) = some (on_ai 0 2 (fun _ => 0))) ∧ (g (o + 4) = some (on_ai 0 2 (fun _ => 0))) ∧ (g (o + 5) = some (on_aq 14 6 (fun _ => none))) ∧ (g (o + 6) = some (on_ai 0 112000 (fun _ => 0))) ∧ (g (o + 7) = some (on_ai 0 100 (fun _ => 0))) ∧ (ms_W (o + 8) g) ∧ ∀ b, b < o → g b = h b
def mj_3 (o : Nat) (h g : on_H) : Prop := g o = some (.inr (17, [.ref (o + 1), .int 0, .ref (o + 2), .ref (o + 3), .ref (o + 4), .int 0, .ref (o + 5), .int 0, .ref (o + 6), .ref (o + 7), .ref (o + 8), .ref (o + 11), .null, .null, .null, .null, .null, .null, .null, .null, .null, .null, .null, .null, .null, .null, .null, .null, .null, .null, .null, .null, .null, .null, .null, .null, .null, .null])) ∧ (g (o + 1) = some (on_aq 13 6 (fun _ => none))) ∧ (g (o + 2) = some (on_al 1 2 (fun _ => 0))) ∧ (g (o + 3) = some (on_ai 0 2 (fun _ => 0))) ∧ (g (o + 4) = some (on_ai 0 2 (fun _ => 0))) ∧ (g (o + 5) = some (on_aq 14 6 (fun _ => none))) ∧ (g (o + 6) = some (on_ai 0 112000 (fun _ => 0))) ∧ (g (o + 7) = some (on_ai 0 100 (fun _ => 0))) ∧ (ms_W (o + 8) g) ∧ (ms_W (o + 11) g) ∧ ∀ b, b < o → g b = h b
def mj_4 (o : Nat) (h g : on_H) : Prop := g o = some (.inr (17, [.ref (o + 1), .int 0, .ref (o + 2), .ref (o + 3), .ref (o + 4), .int 0, .ref (o + 5), .int 0, .ref (o + 6), .ref (o + 7), .ref (o + 8), .ref (o + 11), .ref (o + 14), .null, .null, .null, .null, .null, .null, .null, .null, .null, .null, .null, .null, .null, .null, .null, .null, .null, .null, .null, .null, .null, .null, .null, .null, .null])) ∧ (g (o + 1) = some (on_aq 13 6 (fun _ => none))) ∧ (g (o + 2) = some (on_al 1 2 (fun _ => 0))) ∧ (g (o + 3) = some (on_ai 0 2 (fun _ => 0))) ∧ (g (o + 4) = some (on_ai 0 2 (fun _ => 0))) ∧ (g (o + 5) = some (on_aq 14 6 (fun _ => none))) ∧ (g (o + 6) = some (on_ai 0 112000 (fun _ => 0))) ∧ (g (o + 7) = some (on_ai 0 100 (fun _ => 0))) ∧ (ms_W (o + 8) g) ∧ (ms_W (o + 11) g) ∧ (ms_W (o + 14) g) ∧ ∀ b, b < o → g b = h b
def mj_5 (o : Nat) (h g : on_H) : Prop := g o = some (.inr (17, [.ref (o + 1), .int 0, .ref (o + 2), .ref (o + 3), .ref (o + 4), .int 0, .ref (o + 5), .int 0, .ref (o + 6), .ref (o + 7), .ref (o + 8), .ref (o + 11), .ref (o + 14), .ref (o + 17), .ref (o + 18), .ref (o + 19), .ref (o + 20), .ref (o + 21), .ref (o + 22), .ref (o + 23), .null, .null, .null, .null, .null, .null, .null, .null, .null, .null, .null, .null, .null, .null, .null, .null, .null, .null])) ∧ (g (o + 1) = some (on_aq 13 6 (fun _ => none))) ∧ (g (o + 2) = some (on_al 1 2 (fun _ => 0))) ∧ (g (o + 3) = some (on_ai 0 2 (fun _ => 0))) ∧ (g (o + 4) = some (on_ai 0 2 (fun _ => 0))) ∧ (g (o + 5) = some (on_aq 14 6 (fun _ => none))) ∧ (g (o + 6) = some (on_ai 0 112000 (fun _ => 0))) ∧ (g (o + 7) = some (on_ai 0 100 (fun _ => 0))) ∧ (ms_W (o + 8) g) ∧ (ms_W (o + 11) g) ∧ (ms_W (o + 14) g) ∧ (g (o + 17) = some (on_ai 0 64 (fun _ => 0))) ∧ (g (o + 18) = some (on_ai 0 32 (fun _ => 0))) ∧ (g (o + 19) = some (on_ai 0 64 (fun _ => 0))) ∧ (g (o + 20) = some (on_ai 0 256 (fun _ => 0))) ∧ (g (o + 21) = some (on_ai 0 32 (fun _ => 0))) ∧ (g (o + 22) = some (on_ai 0 32 (fun _ => 0))) ∧ (g (o + 23) = some (on_ai 0 32 (fun _ => 0))) ∧ ∀ b, b < o → g b = h b
def mj_6 (o : Nat) (h g : on_H) : Prop := g o = some (.inr (17, [.ref (o + 1), .int 0, .ref (o + 2), .ref (o + 3), .ref (o + 4), .int 0, .ref (o + 5), .int 0, .ref (o + 6), .ref (o + 7), .ref (o + 8), .ref (o + 11), .ref (o + 14), .ref (o + 17), .ref (o + 18), .ref (o + 19), .ref (o + 20), .ref (o + 21), .ref (o + 22), .ref (o + 23), .ref (o + 24), .ref (o + 25), .ref (o + 26), .ref (o + 27), .ref (o + 28), .null, .null, .null, .null, .null, .null, .null, .null, .null, .null, .null, .null, .null])) ∧ (g (o + 1) = some (on_aq 13 6 (fun _ => none))) ∧ (g (o + 2) = some (on_al 1 2 (fun _ => 0))) ∧ (g (o + 3) = some (on_ai 0 2 (fun _ => 0))) ∧ (g (o + 4) = some (on_ai 0 2 (fun _ => 0))) ∧ (g (o + 5) = some (on_aq 14 6 (fun _ => none))) ∧ (g (o + 6) = some (on_ai 0 112000 (fun _ => 0))) ∧ (g (o + 7) = some (on_ai 0 100 (fun _ => 0))) ∧ (ms_W (o + 8) g) ∧ (ms_W (o + 11) g) ∧ (ms_W (o + 14) g) ∧ (g (o + 17) = some (on_ai 0 64 (fun _ => 0))) ∧ (g (o + 18) = some (on_ai 0 32 (fun _ => 0))) ∧ (g (o + 19) = some (on_ai 0 64 (fun _ => 0))) ∧ (g (o + 20) = some (on_ai 0 256 (fun _ => 0))) ∧ (g (o + 21) = some (on_ai 0 32 (fun _ => 0))) ∧ (g (o + 22) = some (on_ai 0 32 (fun _ => 0))) ∧ (g (o + 23) = some (on_ai 0 32 (fun _ => 0))) ∧ (g (o + 24) = some (on_ai 0 140 (fun _ => 0))) ∧ (g (o + 25) = some (on_ai 0 135 (fun _ => 0))) ∧ (g (o + 26) = some (on_ai 0 68 (fun _ => 0))) ∧ (g (o + 27) = some (on_ai 0 16 (fun _ => 0))) ∧ (g (o + 28) = some (on_ai 0 16 (fun _ => 0))) ∧ ∀ b, b < o → g b = h b
def mj_7 (o : Nat) (h g : on_H) : Prop := g o = some (.inr (17, [.ref (o + 1), .int 0, .ref (o + 2), .ref (o + 3), .ref (o + 4), .int 0, .ref (o + 5), .int 0, .ref (o + 6), .ref (o + 7), .ref (o + 8), .ref (o + 11), .ref (o + 14), .ref (o + 17), .ref (o + 18), .ref (o + 19), .ref (o + 20), .ref (o + 21), .ref (o + 22), .ref (o + 23), .ref (o + 24), .ref (o + 25), .ref (o + 26), .ref (o + 27), .ref (o + 28), .ref (o + 29), .ref (o + 30), .ref (o + 31), .ref (o + 32), .ref (o + 33), .ref (o + 34), .null, .null, .null, .null, .null, .null, .null])) ∧ (g (o + 1) = some (on_aq 13 6 (fun _ => none))) ∧ (g (o + 2) = some (on_al 1 2 (fun _ => 0))) ∧ (g (o + 3) = some (on_ai 0 2 (fun _ => 0))) ∧ (g (o + 4) = some (on_ai 0 2 (fun _ => 0))) ∧ (g (o + 5) = some (on_aq 14 6 (fun _ => none))) ∧ (g (o + 6) = some (on_ai 0 112000 (fun _ => 0))) ∧ (g (o + 7) = some (on_ai 0 100 (fun _ => 0))) ∧ (ms_W (o + 8) g) ∧ (ms_W (o + 11) g) ∧ (ms_W (o + 14) g) ∧ (g (o + 17) = some (on_ai 0 64 (fun _ => 0))) ∧ (g (o + 18) = some (on_ai 0 32 (fun _ => 0))) ∧ (g (o + 19) = some (on_ai 0 64 (fun _ => 0))) ∧ (g (o + 20) = some (on_ai 0 256 (fun _ => 0))) ∧ (g (o + 21) = some (on_ai 0 32 (fun _ => 0))) ∧ (g (o + 22) = some (on_ai 0 32 (fun _ => 0))) ∧ (g (o + 23) = some (on_ai 0 32 (fun _ => 0))) ∧ (g (o + 24) = some (on_ai 0 140 (fun _ => 0))) ∧ (g (o + 25) = some (on_ai 0 135 (fun _ => 0))) ∧ (g (o + 26) = some (on_ai 0 68 (fun _ => 0))) ∧ (g (o + 27) = some (on_ai 0 16 (fun _ => 0))) ∧ (g (o + 28) = some (on_ai 0 16 (fun _ => 0))) ∧ (g (o + 29) = some (on_al 1 17 (fun _ => 0))) ∧ (g (o + 30) = some (on_al 1 17 (fun _ => 0))) ∧ (g (o + 31) = some (on_al 1 17 (fun _ => 0))) ∧ (g (o + 32) = some (on_al 1 17 (fun _ => 0))) ∧ (g (o + 33) = some (on_al 1 17 (fun _ => 0))) ∧ (g (o + 34) = some (on_al 1 17 (fun _ => 0))) ∧ ∀ b, b < o → g b = h b
def mj_8 (o : Nat) (h g : on_H) : Prop := g o = some (.inr (17, [.ref (o + 1), .int 0, .ref (o + 2), .ref (o + 3), .ref (o + 4), .int 0, .ref (o + 5), .int 0, .ref (o + 6), .ref (o + 7), .ref (o + 8), .ref (o + 11), .ref (o + 14), .ref (o + 17), .ref (o + 18), .ref (o + 19), .ref (o + 20), .ref (o + 21), .ref (o + 22), .ref (o + 23), .ref (o + 24), .ref (o + 25), .ref (o + 26), .ref (o + 27), .ref (o + 28), .ref (o + 29), .ref (o + 30), .ref (o + 31), .ref (o + 32), .ref (o + 33), .ref (o + 34), .ref (o + 35), .ref (o + 36), .ref (o + 37), .ref (o + 38), .ref (o + 39), .ref (o + 40), .ref (o + 41)])) ∧ (g (o + 1) = some (on_aq 13 6 (fun _ => none))) ∧ (g (o + 2) = some (on_al 1 2 (fun _ => 0))) ∧ (g (o + 3) = some (on_ai 0 2 (fun _ => 0))) ∧ (g (o + 4) = some (on_ai 0 2 (fun _ => 0))) ∧ (g (o + 5) = some (on_aq 14 6 (fun _ => none))) ∧ (g (o + 6) = some (on_ai 0 112000 (fun _ => 0))) ∧ (g (o + 7) = some (on_ai 0 100 (fun _ => 0))) ∧ (ms_W (o + 8) g) ∧ (ms_W (o + 11) g) ∧ (ms_W (o + 14) g) ∧ (g (o + 17) = some (on_ai 0 64 (fun _ => 0))) ∧ (g (o + 18) = some (on_ai 0 32 (fun _ => 0))) ∧ (g (o + 19) = some (on_ai 0 64 (fun _ => 0))) ∧ (g (o + 20) = some (on_ai 0 256 (fun _ => 0))) ∧ (g (o + 21) = some (on_ai 0 32 (fun _ => 0))) ∧ (g (o + 22) = some (on_ai 0 32 (fun _ => 0))) ∧ (g (o + 23) = some (on_ai 0 32 (fun _ => 0))) ∧ (g (o + 24) = some (on_ai 0 140 (fun _ => 0))) ∧ (g (o + 25) = some (on_ai 0 135 (fun _ => 0))) ∧ (g (o + 26) = some (on_ai 0 68 (fun _ => 0))) ∧ (g (o + 27) = some (on_ai 0 16 (fun _ => 0))) ∧ (g (o + 28) = some (on_ai 0 16 (fun _ => 0))) ∧ (g (o + 29) = some (on_al 1 17 (fun _ => 0))) ∧ (g (o + 30) = some (on_al 1 17 (fun _ => 0))) ∧ (g (o + 31) = some (on_al 1 17 (fun _ => 0))) ∧ (g (o + 32) = some (on_al 1 17 (fun _ => 0))) ∧ (g (o + 33) = some (on_al 1 17 (fun _ => 0))) ∧ (g (o + 34) = some (on_al 1 17 (fun _ => 0))) ∧ (g (o + 35) = some (on_al 1 17 (fun _ => 0))) ∧ (g (o + 36) = some (on_al 1 17 (fun _ => 0))) ∧ (g (o + 37) = some (on_al 1 17 (fun _ => 0))) ∧ (g (o + 38) = some (on_al 1 17 (fun _ => 0))) ∧ (g (o + 39) = some (on_al 1 17 (fun _ => 0))) ∧ (g (o + 40) = some (on_al 1 34 (fun _ => 0))) ∧ (g (o + 41) = some (on_ai 0 124 (fun _ => 0))) ∧ ∀ b, b < o → g b = h b
set_option maxHeartbeats 16000000 in
theorem mit_1 (h0 : h o = some (.inr (17, [.null, .int 0, .null, .null, .null, .int 0, .null, .int 0, .null, .null, .null, .null, .null, .null, .null, .null, .null, .null, .null, .null, .null, .null, .null, .null, .null, .null, .null, .null, .null, .null, .null, .null, .null, .null, .null, .null, .null, .null]))) (hc : 7 ≤ bc) (hs : 112118 ≤ bs) (kk : ∀ g, mj_1 o h g → on_E G M_M_init 59 (on_l [(0, .ref o)]) [] g (o + 8) (bc - 7) (bs - 112118) Q) : on_E G M_M_init 4 (on_l [(0, .ref o)]) [] h (o + 1) bc bs Q := by
  first | refine on_aload_n (pc' := 5) rfl rfl rfl rfl ?_ | refine on_aload_nQ (pc' := 5) rfl rfl rfl rfl ?_
  refine on_bipush (pc' := 7) (v := 6) rfl rfl lb_6 ?_
  refine on_anewarray (pc' := 10) (t := 13) (N := 6) rfl rfl rfl an_M_7.1 an_M_7.2 (by first | decide | assumption) (by first | rfl | assumption) (by first | decide | omega) (by omega) (by omega) ?_
  apply on_putF (pc' := 13) rfl rfl fp_M_9 rfl
  · repeat (first | assumption | exact on_up_eq _ _ _ | refine (on_up_ne (by omega)).trans ?_)
  · first | rfl | assumption
  · first | rfl | assumption
  · exact Nat.le_of_ble_eq_true rfl
  first | refine on_aload_n (pc' := 14) rfl rfl rfl rfl ?_ | refine on_aload_nQ (pc' := 14) rfl rfl rfl rfl ?_
  refine on_iconst (pc' := 15) (v := 2) rfl rfl li_2 ?_
  refine on_newarray (pc' := 17) (t := 1) (N := 2) (ty := .long) (a0 := (2, .inr (.inl (fun _ => 0)))) rfl rfl rfl rfl (fun _ _ _ h1 h2 => Option.some.inj (h1.symm.trans h2)) w_arlong (fun _ => rfl) (by decide) (by decide) (by decide) (by omega) (by omega) ?_
  apply on_putF (pc' := 20) rfl rfl fp_M_15 rfl
  · repeat (first | assumption | exact on_up_eq _ _ _ | refine (on_up_ne (by omega)).trans ?_)
  · first | rfl | assumption
  · first | rfl | assumption
  · exact Nat.le_of_ble_eq_true rfl
  first | refine on_aload_n (pc' := 21) rfl rfl rfl rfl ?_ | refine on_aload_nQ (pc' := 21) rfl rfl rfl rfl ?_
  refine on_iconst (pc' := 22) (v := 2) rfl rfl li_2 ?_
  refine on_newarray (pc' := 24) (t := 0) (N := 2) (ty := .int) (a0 := (2, .inl (fun _ => 0))) rfl rfl rfl rfl (fun _ _ _ h1 h2 => Option.some.inj (h1.symm.trans h2)) w_arint (fun _ => rfl) (by decide) (by decide) (by decide) (by omega) (by omega) ?_
  apply on_putF (pc' := 27) rfl rfl fp_M_19 rfl
  · repeat (first | assumption | exact on_up_eq _ _ _ | refine (on_up_ne (by omega)).trans ?_)
  · first | rfl | assumption
  · first | rfl | assumption
  · exact Nat.le_of_ble_eq_true rfl
  first | refine on_aload_n (pc' := 28) rfl rfl rfl rfl ?_ | refine on_aload_nQ (pc' := 28) rfl rfl rfl rfl ?_
  refine on_iconst (pc' := 29) (v := 2) rfl rfl li_2 ?_
  refine on_newarray (pc' := 31) (t := 0) (N := 2) (ty := .int) (a0 := (2, .inl (fun _ => 0))) rfl rfl rfl rfl (fun _ _ _ h1 h2 => Option.some.inj (h1.symm.trans h2)) w_arint (fun _ => rfl) (by decide) (by decide) (by decide) (by omega) (by omega) ?_
  apply on_putF (pc' := 34) rfl rfl fp_M_23 rfl
  · repeat (first | assumption | exact on_up_eq _ _ _ | refine (on_up_ne (by omega)).trans ?_)
  · first | rfl | assumption
  · first | rfl | assumption
  · exact Nat.le_of_ble_eq_true rfl
  first | refine on_aload_n (pc' := 35) rfl rfl rfl rfl ?_ | refine on_aload_nQ (pc' := 35) rfl rfl rfl rfl ?_
  refine on_bipush (pc' := 37) (v := 6) rfl rfl lb_6 ?_
  refine on_anewarray (pc' := 40) (t := 14) (N := 6) rfl rfl rfl an_M_26.1 an_M_26.2 (by first | decide | assumption) (by first | rfl | assumption) (by first | decide | omega) (by omega) (by omega) ?_
  apply on_putF (pc' := 43) rfl rfl fp_M_28 rfl
  · repeat (first | assumption | exact on_up_eq _ _ _ | refine (on_up_ne (by omega)).trans ?_)
  · first | rfl | assumption
  · first | rfl | assumption
  · exact Nat.le_of_ble_eq_true rfl
  first | refine on_aload_n (pc' := 44) rfl rfl rfl rfl ?_ | refine on_aload_nQ (pc' := 44) rfl rfl rfl rfl ?_
  refine on_ldc (pc' := 46) rfl rfl ld_M_32 ?_
  refine on_newarray (pc' := 48) (t := 0) (N := 112000) (ty := .int) (a0 := (112000, .inl (fun _ => 0))) rfl rfl rfl rfl (fun _ _ _ h1 h2 => Option.some.inj (h1.symm.trans h2)) w_arint (fun _ => rfl) (by decide) (by decide) (by decide) (by omega) (by omega) ?_
  apply on_putF (pc' := 51) rfl rfl fp_M_33 rfl
  · repeat (first | assumption | exact on_up_eq _ _ _ | refine (on_up_ne (by omega)).trans ?_)
  · first | rfl | assumption
  · first | rfl | assumption
  · exact Nat.le_of_ble_eq_true rfl
  first | refine on_aload_n (pc' := 52) rfl rfl rfl rfl ?_ | refine on_aload_nQ (pc' := 52) rfl rfl rfl rfl ?_
  refine on_bipush (pc' := 54) (v := 100) rfl rfl lb_100 ?_
  refine on_newarray (pc' := 56) (t := 0) (N := 100) (ty := .int) (a0 := (100, .inl (fun _ => 0))) rfl rfl rfl rfl (fun _ _ _ h1 h2 => Option.some.inj (h1.symm.trans h2)) w_arint (fun _ => rfl) (by decide) (by decide) (by decide) (by omega) (by omega) ?_
  apply on_putF (pc' := 59) rfl rfl fp_M_36 rfl
  · repeat (first | assumption | exact on_up_eq _ _ _ | refine (on_up_ne (by omega)).trans ?_)
  · first | rfl | assumption
  · first | rfl | assumption
  · exact Nat.le_of_ble_eq_true rfl
  refine on_relv (l := [(0, .ref o)]) ⟨rfl, trivial⟩ ?_
  refine on_budget (bc2 := bc - 7) (bs2 := bs - 112118) (by omega) (by omega) (kk _ ⟨?_, ?_, ?_, ?_, ?_, ?_, ?_, ?_, fun b hb => ?_⟩)
  · exact on_up_eq _ _ _
  · repeat (first | assumption | exact on_up_eq _ _ _ | refine (on_up_ne (by omega)).trans ?_)
  · repeat (first | assumption | exact on_up_eq _ _ _ | refine (on_up_ne (by omega)).trans ?_)
  · repeat (first | assumption | exact on_up_eq _ _ _ | refine (on_up_ne (by omega)).trans ?_)
  · repeat (first | assumption | exact on_up_eq _ _ _ | refine (on_up_ne (by omega)).trans ?_)
  · repeat (first | assumption | exact on_up_eq _ _ _ | refine (on_up_ne (by omega)).trans ?_)
  · repeat (first | assumption | exact on_up_eq _ _ _ | refine (on_up_ne (by omega)).trans ?_)
  · repeat (first | assumption | exact on_up_eq _ _ _ | refine (on_up_ne (by omega)).trans ?_)
  · repeat (first | assumption | exact on_up_eq _ _ _ | refine (on_up_ne (by omega)).trans ?_)
    all_goals rfl
set_option maxHeartbeats 16000000 in
theorem mit_2 {g0 : on_H} (K : mj_1 o h g0) (hc : 3 ≤ bc) (hs : 75 ≤ bs) (kk : ∀ g, mj_2 o h g → on_E G M_M_init 70 (on_l [(0, .ref o)]) [] g (o + 11) (bc - 3) (bs - 75) Q) : on_E G M_M_init 59 (on_l [(0, .ref o)]) [] g0 (o + 8) bc bs Q := by
  obtain ⟨h0, k1, k2, k3, k4, k5, k6, k7, kf⟩ := K
  first | refine on_aload_n (pc' := 60) rfl rfl rfl rfl ?_ | refine on_aload_nQ (pc' := 60) rfl rfl rfl rfl ?_
  refine on_new (pc' := 63) (fs := [.null, .null, .long 0]) rfl rfl nw_M_39 (by intro j hj; match j, hj with | 0, _ => rfl | 1, _ => rfl | 2, _ => rfl | j + 3, hj => exact absurd hj (by omega)) (by omega) (by omega) ?_
  refine on_dup (pc' := 64) rfl rfl rfl ?_
  first | refine on_callI (pc' := 67) (As := []) (rest := [.ref (o + 8), .ref o]) (b := o + 8) rfl rfl cw_M_init_41 rfl rfl (Nat.le_of_ble_eq_true rfl) (by omega) (by omega) (c_MSha_init (on_up_eq _ _ _) rfl) ?_ | refine on_callIN (pc' := 67) (As := []) (rest := [.ref (o + 8), .ref o]) (b := o + 8) rfl rfl cw_M_init_41 rfl rfl (Nat.le_of_ble_eq_true rfl) (by omega) (by omega) (c_MSha_init (on_up_eq _ _ _) rfl) ?_
  rintro v g1 z ⟨rfl, rfl, S1, t1⟩
  have T1 : ∀ b, (b < o + 8 ∨ o + 11 ≤ b) → g1 b = g0 b := fun b hb => (t1 b (by omega)).trans (on_up_ne (by omega))
  have h1 := (T1 o (by omega)).trans h0
  show on_E G M_M_init 67 _ [.ref (o + 8), .ref o] g1 (o + 8 + 3) _ _ _
  apply on_putF (pc' := 70) rfl rfl fp_M_42 rfl
  · repeat (first | assumption | exact on_up_eq _ _ _ | refine (on_up_ne (by omega)).trans ?_)
  · first | rfl | assumption
  · first | rfl | assumption
  · exact Nat.le_of_ble_eq_true rfl
  refine on_relv (l := [(0, .ref o)]) ⟨rfl, trivial⟩ ?_
  refine on_budget (bc2 := bc - 3) (bs2 := bs - 75) (by omega) (by omega) (kk _ ⟨?_, ?_, ?_, ?_, ?_, ?_, ?_, ?_, ?_, fun b hb => ?_⟩)
  · exact on_up_eq _ _ _
  · exact (on_up_ne (by omega)).trans ((T1 _ (by omega)).trans k1)
  · exact (on_up_ne (by omega)).trans ((T1 _ (by omega)).trans k2)
  · exact (on_up_ne (by omega)).trans ((T1 _ (by omega)).trans k3)
  · exact (on_up_ne (by omega)).trans ((T1 _ (by omega)).trans k4)
  · exact (on_up_ne (by omega)).trans ((T1 _ (by omega)).trans k5)
  · exact (on_up_ne (by omega)).trans ((T1 _ (by omega)).trans k6)
  · exact (on_up_ne (by omega)).trans ((T1 _ (by omega)).trans k7)
  · exact ms_W.keep ⟨_, _, _, S1⟩ (fun b _ _ => on_up_ne (by omega))
  · exact (on_up_ne (by omega)).trans ((T1 b (by omega)).trans (kf b hb))
set_option maxHeartbeats 16000000 in
theorem mit_3 {g0 : on_H} (K : mj_2 o h g0) (hc : 3 ≤ bc) (hs : 75 ≤ bs) (kk : ∀ g, mj_3 o h g → on_E G M_M_init 81 (on_l [(0, .ref o)]) [] g (o + 14) (bc - 3) (bs - 75) Q) : on_E G M_M_init 70 (on_l [(0, .ref o)]) [] g0 (o + 11) bc bs Q := by
  obtain ⟨h0, k1, k2, k3, k4, k5, k6, k7, k8, kf⟩ := K
  first | refine on_aload_n (pc' := 71) rfl rfl rfl rfl ?_ | refine on_aload_nQ (pc' := 71) rfl rfl rfl rfl ?_
  refine on_new (pc' := 74) (fs := [.null, .null, .long 0]) rfl rfl nw_M_39 (by intro j hj; match j, hj with | 0, _ => rfl | 1, _ => rfl | 2, _ => rfl | j + 3, hj => exact absurd hj (by omega)) (by omega) (by omega) ?_
  refine on_dup (pc' := 75) rfl rfl rfl ?_
  first | refine on_callI (pc' := 78) (As := []) (rest := [.ref (o + 11), .ref o]) (b := o + 11) rfl rfl cw_M_init_41 rfl rfl (Nat.le_of_ble_eq_true rfl) (by omega) (by omega) (c_MSha_init (on_up_eq _ _ _) rfl) ?_ | refine on_callIN (pc' := 78) (As := []) (rest := [.ref (o + 11), .ref o]) (b := o + 11) rfl rfl cw_M_init_41 rfl rfl (Nat.le_of_ble_eq_true rfl) (by omega) (by omega) (c_MSha_init (on_up_eq _ _ _) rfl) ?_
  rintro v g1 z ⟨rfl, rfl, S1, t1⟩
  have T1 : ∀ b, (b < o + 11 ∨ o + 14 ≤ b) → g1 b = g0 b := fun b hb => (t1 b (by omega)).trans (on_up_ne (by omega))
  have h1 := (T1 o (by omega)).trans h0
  show on_E G M_M_init 78 _ [.ref (o + 11), .ref o] g1 (o + 11 + 3) _ _ _
  apply on_putF (pc' := 81) rfl rfl fp_M_46 rfl
  · repeat (first | assumption | exact on_up_eq _ _ _ | refine (on_up_ne (by omega)).trans ?_)
  · first | rfl | assumption
  · first | rfl | assumption
  · exact Nat.le_of_ble_eq_true rfl
  refine on_relv (l := [(0, .ref o)]) ⟨rfl, trivial⟩ ?_
  refine on_budget (bc2 := bc - 3) (bs2 := bs - 75) (by omega) (by omega) (kk _ ⟨?_, ?_, ?_, ?_, ?_, ?_, ?_, ?_, ?_, ?_, fun b hb => ?_⟩)
  · exact on_up_eq _ _ _
  · exact (on_up_ne (by omega)).trans ((T1 _ (by omega)).trans k1)
  · exact (on_up_ne (by omega)).trans ((T1 _ (by omega)).trans k2)
  · exact (on_up_ne (by omega)).trans ((T1 _ (by omega)).trans k3)
  · exact (on_up_ne (by omega)).trans ((T1 _ (by omega)).trans k4)
  · exact (on_up_ne (by omega)).trans ((T1 _ (by omega)).trans k5)
  · exact (on_up_ne (by omega)).trans ((T1 _ (by omega)).trans k6)
  · exact (on_up_ne (by omega)).trans ((T1 _ (by omega)).trans k7)
  · exact k8.keep (fun b _ _ => (on_up_ne (by omega)).trans (T1 b (by omega)))
  · exact ms_W.keep ⟨_, _, _, S1⟩ (fun b _ _ => on_up_ne (by omega))
  · exact (on_up_ne (by omega)).trans ((T1 b (by omega)).trans (kf b hb))
set_option maxHeartbeats 16000000 in
theorem mit_4 {g0 : on_H} (K : mj_3 o h g0) (hc : 3 ≤ bc) (hs : 75 ≤ bs) (kk : ∀ g, mj_4 o h g → on_E G M_M_init 92 (on_l [(0, .ref o)]) [] g (o + 17) (bc - 3) (bs - 75) Q) : on_E G M_M_init 81 (on_l [(0, .ref o)]) [] g0 (o + 14) bc bs Q := by
  obtain ⟨h0, k1, k2, k3, k4, k5, k6, k7, k8, k11, kf⟩ := K
  first | refine on_aload_n (pc' := 82) rfl rfl rfl rfl ?_ | refine on_aload_nQ (pc' := 82) rfl rfl rfl rfl ?_
  refine on_new (pc' := 85) (fs := [.null, .null, .long 0]) rfl rfl nw_M_39 (by intro j hj; match j, hj with | 0, _ => rfl | 1, _ => rfl | 2, _ => rfl | j + 3, hj => exact absurd hj (by omega)) (by omega) (by omega) ?_
  refine on_dup (pc' := 86) rfl rfl rfl ?_
  first | refine on_callI (pc' := 89) (As := []) (rest := [.ref (o + 14), .ref o]) (b := o + 14) rfl rfl cw_M_init_41 rfl rfl (Nat.le_of_ble_eq_true rfl) (by omega) (by omega) (c_MSha_init (on_up_eq _ _ _) rfl) ?_ | refine on_callIN (pc' := 89) (As := []) (rest := [.ref (o + 14), .ref o]) (b := o + 14) rfl rfl cw_M_init_41 rfl rfl (Nat.le_of_ble_eq_true rfl) (by omega) (by omega) (c_MSha_init (on_up_eq _ _ _) rfl) ?_
  rintro v g1 z ⟨rfl, rfl, S1, t1⟩
  have T1 : ∀ b, (b < o + 14 ∨ o + 17 ≤ b) → g1 b = g0 b := fun b hb => (t1 b (by omega)).trans (on_up_ne (by omega))
  have h1 := (T1 o (by omega)).trans h0
  show on_E G M_M_init 89 _ [.ref (o + 14), .ref o] g1 (o + 14 + 3) _ _ _
  apply on_putF (pc' := 92) rfl rfl fp_M_49 rfl
  · repeat (first | assumption | exact on_up_eq _ _ _ | refine (on_up_ne (by omega)).trans ?_)
  · first | rfl | assumption
  · first | rfl | assumption
  · exact Nat.le_of_ble_eq_true rfl
  refine on_relv (l := [(0, .ref o)]) ⟨rfl, trivial⟩ ?_
  refine on_budget (bc2 := bc - 3) (bs2 := bs - 75) (by omega) (by omega) (kk _ ⟨?_, ?_, ?_, ?_, ?_, ?_, ?_, ?_, ?_, ?_, ?_, fun b hb => ?_⟩)
  · exact on_up_eq _ _ _
  · exact (on_up_ne (by omega)).trans ((T1 _ (by omega)).trans k1)
  · exact (on_up_ne (by omega)).trans ((T1 _ (by omega)).trans k2)
  · exact (on_up_ne (by omega)).trans ((T1 _ (by omega)).trans k3)
  · exact (on_up_ne (by omega)).trans ((T1 _ (by omega)).trans k4)
  · exact (on_up_ne (by omega)).trans ((T1 _ (by omega)).trans k5)
  · exact (on_up_ne (by omega)).trans ((T1 _ (by omega)).trans k6)
  · exact (on_up_ne (by omega)).trans ((T1 _ (by omega)).trans k7)
  · exact k8.keep (fun b _ _ => (on_up_ne (by omega)).trans (T1 b (by omega)))
  · exact k11.keep (fun b _ _ => (on_up_ne (by omega)).trans (T1 b (by omega)))
  · exact ms_W.keep ⟨_, _, _, S1⟩ (fun b _ _ => on_up_ne (by omega))
  · exact (on_up_ne (by omega)).trans ((T1 b (by omega)).trans (kf b hb))
set_option maxHeartbeats 16000000 in
theorem mit_5 {g0 : on_H} (K : mj_4 o h g0) (hc : 7 ≤ bc) (hs : 512 ≤ bs) (kk : ∀ g, mj_5 o h g → on_E G M_M_init 149 (on_l [(0, .ref o)]) [] g (o + 24) (bc - 7) (bs - 512) Q) : on_E G M_M_init 92 (on_l [(0, .ref o)]) [] g0 (o + 17) bc bs Q := by
  obtain ⟨h0, k1, k2, k3, k4, k5, k6, k7, k8, k11, k14, kf⟩ := K
  first | refine on_aload_n (pc' := 93) rfl rfl rfl rfl ?_ | refine on_aload_nQ (pc' := 93) rfl rfl rfl rfl ?_
  refine on_bipush (pc' := 95) (v := 64) rfl rfl lb_64 ?_
  refine on_newarray (pc' := 97) (t := 0) (N := 64) (ty := .int) (a0 := (64, .inl (fun _ => 0))) rfl rfl rfl rfl (fun _ _ _ h1 h2 => Option.some.inj (h1.symm.trans h2)) w_arint (fun _ => rfl) (by decide) (by decide) (by decide) (by omega) (by omega) ?_
  apply on_putF (pc' := 100) rfl rfl fp_M_52 rfl
  · repeat (first | assumption | exact on_up_eq _ _ _ | refine (on_up_ne (by omega)).trans ?_)
  · first | rfl | assumption
  · first | rfl | assumption
  · exact Nat.le_of_ble_eq_true rfl
  first | refine on_aload_n (pc' := 101) rfl rfl rfl rfl ?_ | refine on_aload_nQ (pc' := 101) rfl rfl rfl rfl ?_
  refine on_bipush (pc' := 103) (v := 32) rfl rfl lb_32 ?_
  refine on_newarray (pc' := 105) (t := 0) (N := 32) (ty := .int) (a0 := (32, .inl (fun _ => 0))) rfl rfl rfl rfl (fun _ _ _ h1 h2 => Option.some.inj (h1.symm.trans h2)) w_arint (fun _ => rfl) (by decide) (by decide) (by decide) (by omega) (by omega) ?_
  apply on_putF (pc' := 108) rfl rfl fp_M_55 rfl
  · repeat (first | assumption | exact on_up_eq _ _ _ | refine (on_up_ne (by omega)).trans ?_)
  · first | rfl | assumption
  · first | rfl | assumption
  · exact Nat.le_of_ble_eq_true rfl
  first | refine on_aload_n (pc' := 109) rfl rfl rfl rfl ?_ | refine on_aload_nQ (pc' := 109) rfl rfl rfl rfl ?_
  refine on_bipush (pc' := 111) (v := 64) rfl rfl lb_64 ?_
  refine on_newarray (pc' := 113) (t := 0) (N := 64) (ty := .int) (a0 := (64, .inl (fun _ => 0))) rfl rfl rfl rfl (fun _ _ _ h1 h2 => Option.some.inj (h1.symm.trans h2)) w_arint (fun _ => rfl) (by decide) (by decide) (by decide) (by omega) (by omega) ?_
  apply on_putF (pc' := 116) rfl rfl fp_M_58 rfl
  · repeat (first | assumption | exact on_up_eq _ _ _ | refine (on_up_ne (by omega)).trans ?_)
  · first | rfl | assumption
  · first | rfl | assumption
  · exact Nat.le_of_ble_eq_true rfl
  first | refine on_aload_n (pc' := 117) rfl rfl rfl rfl ?_ | refine on_aload_nQ (pc' := 117) rfl rfl rfl rfl ?_
  refine on_sipush (pc' := 120) (v := 256) rfl rfl ls_256 ?_
  refine on_newarray (pc' := 122) (t := 0) (N := 256) (ty := .int) (a0 := (256, .inl (fun _ => 0))) rfl rfl rfl rfl (fun _ _ _ h1 h2 => Option.some.inj (h1.symm.trans h2)) w_arint (fun _ => rfl) (by decide) (by decide) (by decide) (by omega) (by omega) ?_
  apply on_putF (pc' := 125) rfl rfl fp_M_61 rfl
  · repeat (first | assumption | exact on_up_eq _ _ _ | refine (on_up_ne (by omega)).trans ?_)
  · first | rfl | assumption
  · first | rfl | assumption
  · exact Nat.le_of_ble_eq_true rfl
  first | refine on_aload_n (pc' := 126) rfl rfl rfl rfl ?_ | refine on_aload_nQ (pc' := 126) rfl rfl rfl rfl ?_
  refine on_bipush (pc' := 128) (v := 32) rfl rfl lb_32 ?_
  refine on_newarray (pc' := 130) (t := 0) (N := 32) (ty := .int) (a0 := (32, .inl (fun _ => 0))) rfl rfl rfl rfl (fun _ _ _ h1 h2 => Option.some.inj (h1.symm.trans h2)) w_arint (fun _ => rfl) (by decide) (by decide) (by decide) (by omega) (by omega) ?_
  apply on_putF (pc' := 133) rfl rfl fp_M_64 rfl
  · repeat (first | assumption | exact on_up_eq _ _ _ | refine (on_up_ne (by omega)).trans ?_)
  · first | rfl | assumption
  · first | rfl | assumption
  · exact Nat.le_of_ble_eq_true rfl
  first | refine on_aload_n (pc' := 134) rfl rfl rfl rfl ?_ | refine on_aload_nQ (pc' := 134) rfl rfl rfl rfl ?_
  refine on_bipush (pc' := 136) (v := 32) rfl rfl lb_32 ?_
  refine on_newarray (pc' := 138) (t := 0) (N := 32) (ty := .int) (a0 := (32, .inl (fun _ => 0))) rfl rfl rfl rfl (fun _ _ _ h1 h2 => Option.some.inj (h1.symm.trans h2)) w_arint (fun _ => rfl) (by decide) (by decide) (by decide) (by omega) (by omega) ?_
  apply on_putF (pc' := 141) rfl rfl fp_M_67 rfl
  · repeat (first | assumption | exact on_up_eq _ _ _ | refine (on_up_ne (by omega)).trans ?_)
  · first | rfl | assumption
  · first | rfl | assumption
  · exact Nat.le_of_ble_eq_true rfl
  first | refine on_aload_n (pc' := 142) rfl rfl rfl rfl ?_ | refine on_aload_nQ (pc' := 142) rfl rfl rfl rfl ?_
  refine on_bipush (pc' := 144) (v := 32) rfl rfl lb_32 ?_
  refine on_newarray (pc' := 146) (t := 0) (N := 32) (ty := .int) (a0 := (32, .inl (fun _ => 0))) rfl rfl rfl rfl (fun _ _ _ h1 h2 => Option.some.inj (h1.symm.trans h2)) w_arint (fun _ => rfl) (by decide) (by decide) (by decide) (by omega) (by omega) ?_
  apply on_putF (pc' := 149) rfl rfl fp_M_70 rfl
  · repeat (first | assumption | exact on_up_eq _ _ _ | refine (on_up_ne (by omega)).trans ?_)
  · first | rfl | assumption
  · first | rfl | assumption
  · exact Nat.le_of_ble_eq_true rfl
  refine on_relv (l := [(0, .ref o)]) ⟨rfl, trivial⟩ ?_
  refine on_budget (bc2 := bc - 7) (bs2 := bs - 512) (by omega) (by omega) (kk _ ⟨?_, ?_, ?_, ?_, ?_, ?_, ?_, ?_, ?_, ?_, ?_, ?_, ?_, ?_, ?_, ?_, ?_, ?_, fun b hb => ?_⟩)
  · exact on_up_eq _ _ _
  · repeat (first | assumption | exact on_up_eq _ _ _ | refine (on_up_ne (by omega)).trans ?_)
  · repeat (first | assumption | exact on_up_eq _ _ _ | refine (on_up_ne (by omega)).trans ?_)
  · repeat (first | assumption | exact on_up_eq _ _ _ | refine (on_up_ne (by omega)).trans ?_)
  · repeat (first | assumption | exact on_up_eq _ _ _ | refine (on_up_ne (by omega)).trans ?_)
  · repeat (first | assumption | exact on_up_eq _ _ _ | refine (on_up_ne (by omega)).trans ?_)
  · repeat (first | assumption | exact on_up_eq _ _ _ | refine (on_up_ne (by omega)).trans ?_)
  · repeat (first | assumption | exact on_up_eq _ _ _ | refine (on_up_ne (by omega)).trans ?_)
  · refine k8.keep (fun b _ _ => ?_)
    repeat (first | assumption | exact on_up_eq _ _ _ | refine (on_up_ne (by omega)).trans ?_)
    all_goals rfl
  · refine k11.keep (fun b _ _ => ?_)
    repeat (first | assumption | exact on_up_eq _ _ _ | refine (on_up_ne (by omega)).trans ?_)
    all_goals rfl
  · refine k14.keep (fun b _ _ => ?_)
    repeat (first | assumption | exact on_up_eq _ _ _ | refine (on_up_ne (by omega)).trans ?_)
    all_goals rfl
  · repeat (first | assumption | exact on_up_eq _ _ _ | refine (on_up_ne (by omega)).trans ?_)
  · repeat (first | assumption | exact on_up_eq _ _ _ | refine (on_up_ne (by omega)).trans ?_)
  · repeat (first | assumption | exact on_up_eq _ _ _ | refine (on_up_ne (by omega)).trans ?_)
  · repeat (first | assumption | exact on_up_eq _ _ _ | refine (on_up_ne (by omega)).trans ?_)
  · repeat (first | assumption | exact on_up_eq _ _ _ | refine (on_up_ne (by omega)).trans ?_)
  · repeat (first | assumption | exact on_up_eq _ _ _ | refine (on_up_ne (by omega)).trans ?_)
  · repeat (first | assumption | exact on_up_eq _ _ _ | refine (on_up_ne (by omega)).trans ?_)
  · refine Eq.trans (b := g0 b) ?_ (kf b hb)
    repeat (first | assumption | exact on_up_eq _ _ _ | refine (on_up_ne (by omega)).trans ?_)
    all_goals rfl
set_option maxHeartbeats 16000000 in
theorem mit_6 {g0 : on_H} (K : mj_5 o h g0) (hc : 5 ≤ bc) (hs : 375 ≤ bs) (kk : ∀ g, mj_6 o h g → on_E G M_M_init 191 (on_l [(0, .ref o)]) [] g (o + 29) (bc - 5) (bs - 375) Q) : on_E G M_M_init 149 (on_l [(0, .ref o)]) [] g0 (o + 24) bc bs Q := by
  obtain ⟨h0, k1, k2, k3, k4, k5, k6, k7, k8, k11, k14, k17, k18, k19, k20, k21, k22, k23, kf⟩ := K
  first | refine on_aload_n (pc' := 150) rfl rfl rfl rfl ?_ | refine on_aload_nQ (pc' := 150) rfl rfl rfl rfl ?_
  refine on_sipush (pc' := 153) (v := 140) rfl rfl ls_140 ?_
  refine on_newarray (pc' := 155) (t := 0) (N := 140) (ty := .int) (a0 := (140, .inl (fun _ => 0))) rfl rfl rfl rfl (fun _ _ _ h1 h2 => Option.some.inj (h1.symm.trans h2)) w_arint (fun _ => rfl) (by decide) (by decide) (by decide) (by omega) (by omega) ?_
  apply on_putF (pc' := 158) rfl rfl fp_M_73 rfl
  · repeat (first | assumption | exact on_up_eq _ _ _ | refine (on_up_ne (by omega)).trans ?_)
  · first | rfl | assumption
  · first | rfl | assumption
  · exact Nat.le_of_ble_eq_true rfl
  first | refine on_aload_n (pc' := 159) rfl rfl rfl rfl ?_ | refine on_aload_nQ (pc' := 159) rfl rfl rfl rfl ?_
  refine on_sipush (pc' := 162) (v := 135) rfl rfl ls_135 ?_
  refine on_newarray (pc' := 164) (t := 0) (N := 135) (ty := .int) (a0 := (135, .inl (fun _ => 0))) rfl rfl rfl rfl (fun _ _ _ h1 h2 => Option.some.inj (h1.symm.trans h2)) w_arint (fun _ => rfl) (by decide) (by decide) (by decide) (by omega) (by omega) ?_
  apply on_putF (pc' := 167) rfl rfl fp_M_76 rfl
  · repeat (first | assumption | exact on_up_eq _ _ _ | refine (on_up_ne (by omega)).trans ?_)
  · first | rfl | assumption
  · first | rfl | assumption
  · exact Nat.le_of_ble_eq_true rfl
  first | refine on_aload_n (pc' := 168) rfl rfl rfl rfl ?_ | refine on_aload_nQ (pc' := 168) rfl rfl rfl rfl ?_
  refine on_bipush (pc' := 170) (v := 68) rfl rfl lb_68 ?_
  refine on_newarray (pc' := 172) (t := 0) (N := 68) (ty := .int) (a0 := (68, .inl (fun _ => 0))) rfl rfl rfl rfl (fun _ _ _ h1 h2 => Option.some.inj (h1.symm.trans h2)) w_arint (fun _ => rfl) (by decide) (by decide) (by decide) (by omega) (by omega) ?_
  apply on_putF (pc' := 175) rfl rfl fp_M_79 rfl
  · repeat (first | assumption | exact on_up_eq _ _ _ | refine (on_up_ne (by omega)).trans ?_)
  · first | rfl | assumption
  · first | rfl | assumption
  · exact Nat.le_of_ble_eq_true rfl
  first | refine on_aload_n (pc' := 176) rfl rfl rfl rfl ?_ | refine on_aload_nQ (pc' := 176) rfl rfl rfl rfl ?_
  refine on_bipush (pc' := 178) (v := 16) rfl rfl lb_16 ?_
  refine on_newarray (pc' := 180) (t := 0) (N := 16) (ty := .int) (a0 := (16, .inl (fun _ => 0))) rfl rfl rfl rfl (fun _ _ _ h1 h2 => Option.some.inj (h1.symm.trans h2)) w_arint (fun _ => rfl) (by decide) (by decide) (by decide) (by omega) (by omega) ?_
  apply on_putF (pc' := 183) rfl rfl fp_M_82 rfl
  · repeat (first | assumption | exact on_up_eq _ _ _ | refine (on_up_ne (by omega)).trans ?_)
  · first | rfl | assumption
  · first | rfl | assumption
  · exact Nat.le_of_ble_eq_true rfl
  first | refine on_aload_n (pc' := 184) rfl rfl rfl rfl ?_ | refine on_aload_nQ (pc' := 184) rfl rfl rfl rfl ?_
  refine on_bipush (pc' := 186) (v := 16) rfl rfl lb_16 ?_
  refine on_newarray (pc' := 188) (t := 0) (N := 16) (ty := .int) (a0 := (16, .inl (fun _ => 0))) rfl rfl rfl rfl (fun _ _ _ h1 h2 => Option.some.inj (h1.symm.trans h2)) w_arint (fun _ => rfl) (by decide) (by decide) (by decide) (by omega) (by omega) ?_
  apply on_putF (pc' := 191) rfl rfl fp_M_85 rfl
  · repeat (first | assumption | exact on_up_eq _ _ _ | refine (on_up_ne (by omega)).trans ?_)
  · first | rfl | assumption
  · first | rfl | assumption
  · exact Nat.le_of_ble_eq_true rfl
  refine on_relv (l := [(0, .ref o)]) ⟨rfl, trivial⟩ ?_
  refine on_budget (bc2 := bc - 5) (bs2 := bs - 375) (by omega) (by omega) (kk _ ⟨?_, ?_, ?_, ?_, ?_, ?_, ?_, ?_, ?_, ?_, ?_, ?_, ?_, ?_, ?_, ?_, ?_, ?_, ?_, ?_, ?_, ?_, ?_, fun b hb => ?_⟩)
  · exact on_up_eq _ _ _
  · repeat (first | assumption | exact on_up_eq _ _ _ | refine (on_up_ne (by omega)).trans ?_)
  · repeat (first | assumption | exact on_up_eq _ _ _ | refine (on_up_ne (by omega)).trans ?_)
  · repeat (first | assumption | exact on_up_eq _ _ _ | refine (on_up_ne (by omega)).trans ?_)
  · repeat (first | assumption | exact on_up_eq _ _ _ | refine (on_up_ne (by omega)).trans ?_)
  · repeat (first | assumption | exact on_up_eq _ _ _ | refine (on_up_ne (by omega)).trans ?_)
  · repeat (first | assumption | exact on_up_eq _ _ _ | refine (on_up_ne (by omega)).trans ?_)
  · repeat (first | assumption | exact on_up_eq _ _ _ | refine (on_up_ne (by omega)).trans ?_)
  · refine k8.keep (fun b _ _ => ?_)
    repeat (first | assumption | exact on_up_eq _ _ _ | refine (on_up_ne (by omega)).trans ?_)
    all_goals rfl
  · refine k11.keep (fun b _ _ => ?_)
    repeat (first | assumption | exact on_up_eq _ _ _ | refine (on_up_ne (by omega)).trans ?_)
    all_goals rfl
  · refine k14.keep (fun b _ _ => ?_)
    repeat (first | assumption | exact on_up_eq _ _ _ | refine (on_up_ne (by omega)).trans ?_)
    all_goals rfl
  · repeat (first | assumption | exact on_up_eq _ _ _ | refine (on_up_ne (by omega)).trans ?_)
  · repeat (first | assumption | exact on_up_eq _ _ _ | refine (on_up_ne (by omega)).trans ?_)
  · repeat (first | assumption | exact on_up_eq _ _ _ | refine (on_up_ne (by omega)).trans ?_)
  · repeat (first | assumption | exact on_up_eq _ _ _ | refine (on_up_ne (by omega)).trans ?_)
  · repeat (first | assumption | exact on_up_eq _ _ _ | refine (on_up_ne (by omega)).trans ?_)
  · repeat (first | assumption | exact on_up_eq _ _ _ | refine (on_up_ne (by omega)).trans ?_)
  · repeat (first | assumption | exact on_up_eq _ _ _ | refine (on_up_ne (by omega)).trans ?_)
  · repeat (first | assumption | exact on_up_eq _ _ _ | refine (on_up_ne (by omega)).trans ?_)
  · repeat (first | assumption | exact on_up_eq _ _ _ | refine (on_up_ne (by omega)).trans ?_)
  · repeat (first | assumption | exact on_up_eq _ _ _ | refine (on_up_ne (by omega)).trans ?_)
  · repeat (first | assumption | exact on_up_eq _ _ _ | refine (on_up_ne (by omega)).trans ?_)
  · repeat (first | assumption | exact on_up_eq _ _ _ | refine (on_up_ne (by omega)).trans ?_)
  · refine Eq.trans (b := g0 b) ?_ (kf b hb)
    repeat (first | assumption | exact on_up_eq _ _ _ | refine (on_up_ne (by omega)).trans ?_)
    all_goals rfl
set_option maxHeartbeats 16000000 in
theorem mit_7 {g0 : on_H} (K : mj_6 o h g0) (hc : 6 ≤ bc) (hs : 102 ≤ bs) (kk : ∀ g, mj_7 o h g → on_E G M_M_init 239 (on_l [(0, .ref o)]) [] g (o + 35) (bc - 6) (bs - 102) Q) : on_E G M_M_init 191 (on_l [(0, .ref o)]) [] g0 (o + 29) bc bs Q := by
  obtain ⟨h0, k1, k2, k3, k4, k5, k6, k7, k8, k11, k14, k17, k18, k19, k20, k21, k22, k23, k24, k25, k26, k27, k28, kf⟩ := K
  first | refine on_aload_n (pc' := 192) rfl rfl rfl rfl ?_ | refine on_aload_nQ (pc' := 192) rfl rfl rfl rfl ?_
  refine on_bipush (pc' := 194) (v := 17) rfl rfl lb_17 ?_
  refine on_newarray (pc' := 196) (t := 1) (N := 17) (ty := .long) (a0 := (17, .inr (.inl (fun _ => 0)))) rfl rfl rfl rfl (fun _ _ _ h1 h2 => Option.some.inj (h1.symm.trans h2)) w_arlong (fun _ => rfl) (by decide) (by decide) (by decide) (by omega) (by omega) ?_
  apply on_putF (pc' := 199) rfl rfl fp_M_88 rfl
  · repeat (first | assumption | exact on_up_eq _ _ _ | refine (on_up_ne (by omega)).trans ?_)
  · first | rfl | assumption
  · first | rfl | assumption
  · exact Nat.le_of_ble_eq_true rfl
  first | refine on_aload_n (pc' := 200) rfl rfl rfl rfl ?_ | refine on_aload_nQ (pc' := 200) rfl rfl rfl rfl ?_
  refine on_bipush (pc' := 202) (v := 17) rfl rfl lb_17 ?_
  refine on_newarray (pc' := 204) (t := 1) (N := 17) (ty := .long) (a0 := (17, .inr (.inl (fun _ => 0)))) rfl rfl rfl rfl (fun _ _ _ h1 h2 => Option.some.inj (h1.symm.trans h2)) w_arlong (fun _ => rfl) (by decide) (by decide) (by decide) (by omega) (by omega) ?_
  apply on_putF (pc' := 207) rfl rfl fp_M_91 rfl
  · repeat (first | assumption | exact on_up_eq _ _ _ | refine (on_up_ne (by omega)).trans ?_)
  · first | rfl | assumption
  · first | rfl | assumption
  · exact Nat.le_of_ble_eq_true rfl
  first | refine on_aload_n (pc' := 208) rfl rfl rfl rfl ?_ | refine on_aload_nQ (pc' := 208) rfl rfl rfl rfl ?_
  refine on_bipush (pc' := 210) (v := 17) rfl rfl lb_17 ?_
  refine on_newarray (pc' := 212) (t := 1) (N := 17) (ty := .long) (a0 := (17, .inr (.inl (fun _ => 0)))) rfl rfl rfl rfl (fun _ _ _ h1 h2 => Option.some.inj (h1.symm.trans h2)) w_arlong (fun _ => rfl) (by decide) (by decide) (by decide) (by omega) (by omega) ?_
  apply on_putF (pc' := 215) rfl rfl fp_M_94 rfl
  · repeat (first | assumption | exact on_up_eq _ _ _ | refine (on_up_ne (by omega)).trans ?_)
  · first | rfl | assumption
  · first | rfl | assumption
  · exact Nat.le_of_ble_eq_true rfl
  first | refine on_aload_n (pc' := 216) rfl rfl rfl rfl ?_ | refine on_aload_nQ (pc' := 216) rfl rfl rfl rfl ?_
  refine on_bipush (pc' := 218) (v := 17) rfl rfl lb_17 ?_
  refine on_newarray (pc' := 220) (t := 1) (N := 17) (ty := .long) (a0 := (17, .inr (.inl (fun _ => 0)))) rfl rfl rfl rfl (fun _ _ _ h1 h2 => Option.some.inj (h1.symm.trans h2)) w_arlong (fun _ => rfl) (by decide) (by decide) (by decide) (by omega) (by omega) ?_
  apply on_putF (pc' := 223) rfl rfl fp_M_97 rfl
  · repeat (first | assumption | exact on_up_eq _ _ _ | refine (on_up_ne (by omega)).trans ?_)
  · first | rfl | assumption
  · first | rfl | assumption
  · exact Nat.le_of_ble_eq_true rfl
  first | refine on_aload_n (pc' := 224) rfl rfl rfl rfl ?_ | refine on_aload_nQ (pc' := 224) rfl rfl rfl rfl ?_
  refine on_bipush (pc' := 226) (v := 17) rfl rfl lb_17 ?_
  refine on_newarray (pc' := 228) (t := 1) (N := 17) (ty := .long) (a0 := (17, .inr (.inl (fun _ => 0)))) rfl rfl rfl rfl (fun _ _ _ h1 h2 => Option.some.inj (h1.symm.trans h2)) w_arlong (fun _ => rfl) (by decide) (by decide) (by decide) (by omega) (by omega) ?_
  apply on_putF (pc' := 231) rfl rfl fp_M_100 rfl
  · repeat (first | assumption | exact on_up_eq _ _ _ | refine (on_up_ne (by omega)).trans ?_)
  · first | rfl | assumption
  · first | rfl | assumption
  · exact Nat.le_of_ble_eq_true rfl
  first | refine on_aload_n (pc' := 232) rfl rfl rfl rfl ?_ | refine on_aload_nQ (pc' := 232) rfl rfl rfl rfl ?_
  refine on_bipush (pc' := 234) (v := 17) rfl rfl lb_17 ?_
  refine on_newarray (pc' := 236) (t := 1) (N := 17) (ty := .long) (a0 := (17, .inr (.inl (fun _ => 0)))) rfl rfl rfl rfl (fun _ _ _ h1 h2 => Option.some.inj (h1.symm.trans h2)) w_arlong (fun _ => rfl) (by decide) (by decide) (by decide) (by omega) (by omega) ?_
  apply on_putF (pc' := 239) rfl rfl fp_M_103 rfl
  · repeat (first | assumption | exact on_up_eq _ _ _ | refine (on_up_ne (by omega)).trans ?_)
  · first | rfl | assumption
  · first | rfl | assumption
  · exact Nat.le_of_ble_eq_true rfl
  refine on_relv (l := [(0, .ref o)]) ⟨rfl, trivial⟩ ?_
  refine on_budget (bc2 := bc - 6) (bs2 := bs - 102) (by omega) (by omega) (kk _ ⟨?_, ?_, ?_, ?_, ?_, ?_, ?_, ?_, ?_, ?_, ?_, ?_, ?_, ?_, ?_, ?_, ?_, ?_, ?_, ?_, ?_, ?_, ?_, ?_, ?_, ?_, ?_, ?_, ?_, fun b hb => ?_⟩)
  · exact on_up_eq _ _ _
  · repeat (first | assumption | exact on_up_eq _ _ _ | refine (on_up_ne (by omega)).trans ?_)
  · repeat (first | assumption | exact on_up_eq _ _ _ | refine (on_up_ne (by omega)).trans ?_)
  · repeat (first | assumption | exact on_up_eq _ _ _ | refine (on_up_ne (by omega)).trans ?_)
  · repeat (first | assumption | exact on_up_eq _ _ _ | refine (on_up_ne (by omega)).trans ?_)
  · repeat (first | assumption | exact on_up_eq _ _ _ | refine (on_up_ne (by omega)).trans ?_)
  · repeat (first | assumption | exact on_up_eq _ _ _ | refine (on_up_ne (by omega)).trans ?_)
  · repeat (first | assumption | exact on_up_eq _ _ _ | refine (on_up_ne (by omega)).trans ?_)
  · refine k8.keep (fun b _ _ => ?_)
    repeat (first | assumption | exact on_up_eq _ _ _ | refine (on_up_ne (by omega)).trans ?_)
    all_goals rfl
  · refine k11.keep (fun b _ _ => ?_)
    repeat (first | assumption | exact on_up_eq _ _ _ | refine (on_up_ne (by omega)).trans ?_)
    all_goals rfl
  · refine k14.keep (fun b _ _ => ?_)
    repeat (first | assumption | exact on_up_eq _ _ _ | refine (on_up_ne (by omega)).trans ?_)
    all_goals rfl
  · repeat (first | assumption | exact on_up_eq _ _ _ | refine (on_up_ne (by omega)).trans ?_)
  · repeat (first | assumption | exact on_up_eq _ _ _ | refine (on_up_ne (by omega)).trans ?_)
  · repeat (first | assumption | exact on_up_eq _ _ _ | refine (on_up_ne (by omega)).trans ?_)
  · repeat (first | assumption | exact on_up_eq _ _ _ | refine (on_up_ne (by omega)).trans ?_)
  · repeat (first | assumption | exact on_up_eq _ _ _ | refine (on_up_ne (by omega)).trans ?_)
  · repeat (first | assumption | exact on_up_eq _ _ _ | refine (on_up_ne (by omega)).trans ?_)
  · repeat (first | assumption | exact on_up_eq _ _ _ | refine (on_up_ne (by omega)).trans ?_)
  · repeat (first | assumption | exact on_up_eq _ _ _ | refine (on_up_ne (by omega)).trans ?_)
  · repeat (first | assumption | exact on_up_eq _ _ _ | refine (on_up_ne (by omega)).trans ?_)
  · repeat (first | assumption | exact on_up_eq _ _ _ | refine (on_up_ne (by omega)).trans ?_)
  · repeat (first | assumption | exact on_up_eq _ _ _ | refine (on_up_ne (by omega)).trans ?_)
  · repeat (first | assumption | exact on_up_eq _ _ _ | refine (on_up_ne (by omega)).trans ?_)
  · repeat (first | assumption | exact on_up_eq _ _ _ | refine (on_up_ne (by omega)).trans ?_)
  · repeat (first | assumption | exact on_up_eq _ _ _ | refine (on_up_ne (by omega)).trans ?_)
  · repeat (first | assumption | exact on_up_eq _ _ _ | refine (on_up_ne (by omega)).trans ?_)
  · repeat (first | assumption | exact on_up_eq _ _ _ | refine (on_up_ne (by omega)).trans ?_)
  · repeat (first | assumption | exact on_up_eq _ _ _ | refine (on_up_ne (by omega)).trans ?_)
  · repeat (first | assumption | exact on_up_eq _ _ _ | refine (on_up_ne (by omega)).trans ?_)
  · refine Eq.trans (b := g0 b) ?_ (kf b hb)
    repeat (first | assumption | exact on_up_eq _ _ _ | refine (on_up_ne (by omega)).trans ?_)
    all_goals rfl
set_option maxHeartbeats 16000000 in
theorem mit_8 {g0 : on_H} (K : mj_7 o h g0) (hc : 7 ≤ bc) (hs : 243 ≤ bs) (kk : ∀ g, mj_8 o h g → on_E G M_M_init 295 (on_l [(0, .ref o)]) [] g (o + 42) (bc - 7) (bs - 243) Q) : on_E G M_M_init 239 (on_l [(0, .ref o)]) [] g0 (o + 35) bc bs Q := by
  obtain ⟨h0, k1, k2, k3, k4, k5, k6, k7, k8, k11, k14, k17, k18, k19, k20, k21, k22, k23, k24, k25, k26, k27, k28, k29, k30, k31, k32, k33, k34, kf⟩ := K
  first | refine on_aload_n (pc' := 240) rfl rfl rfl rfl ?_ | refine on_aload_nQ (pc' := 240) rfl rfl rfl rfl ?_
  refine on_bipush (pc' := 242) (v := 17) rfl rfl lb_17 ?_
  refine on_newarray (pc' := 244) (t := 1) (N := 17) (ty := .long) (a0 := (17, .inr (.inl (fun _ => 0)))) rfl rfl rfl rfl (fun _ _ _ h1 h2 => Option.some.inj (h1.symm.trans h2)) w_arlong (fun _ => rfl) (by decide) (by decide) (by decide) (by omega) (by omega) ?_
  apply on_putF (pc' := 247) rfl rfl fp_M_106 rfl
  · repeat (first | assumption | exact on_up_eq _ _ _ | refine (on_up_ne (by omega)).trans ?_)
  · first | rfl | assumption
  · first | rfl | assumption
  · exact Nat.le_of_ble_eq_true rfl
  first | refine on_aload_n (pc' := 248) rfl rfl rfl rfl ?_ | refine on_aload_nQ (pc' := 248) rfl rfl rfl rfl ?_
  refine on_bipush (pc' := 250) (v := 17) rfl rfl lb_17 ?_
  refine on_newarray (pc' := 252) (t := 1) (N := 17) (ty := .long) (a0 := (17, .inr (.inl (fun _ => 0)))) rfl rfl rfl rfl (fun _ _ _ h1 h2 => Option.some.inj (h1.symm.trans h2)) w_arlong (fun _ => rfl) (by decide) (by decide) (by decide) (by omega) (by omega) ?_
  apply on_putF (pc' := 255) rfl rfl fp_M_109 rfl
  · repeat (first | assumption | exact on_up_eq _ _ _ | refine (on_up_ne (by omega)).trans ?_)
  · first | rfl | assumption
  · first | rfl | assumption
  · exact Nat.le_of_ble_eq_true rfl
  first | refine on_aload_n (pc' := 256) rfl rfl rfl rfl ?_ | refine on_aload_nQ (pc' := 256) rfl rfl rfl rfl ?_
  refine on_bipush (pc' := 258) (v := 17) rfl rfl lb_17 ?_
  refine on_newarray (pc' := 260) (t := 1) (N := 17) (ty := .long) (a0 := (17, .inr (.inl (fun _ => 0)))) rfl rfl rfl rfl (fun _ _ _ h1 h2 => Option.some.inj (h1.symm.trans h2)) w_arlong (fun _ => rfl) (by decide) (by decide) (by decide) (by omega) (by omega) ?_
  apply on_putF (pc' := 263) rfl rfl fp_M_112 rfl
  · repeat (first | assumption | exact on_up_eq _ _ _ | refine (on_up_ne (by omega)).trans ?_)
  · first | rfl | assumption
  · first | rfl | assumption
  · exact Nat.le_of_ble_eq_true rfl
  first | refine on_aload_n (pc' := 264) rfl rfl rfl rfl ?_ | refine on_aload_nQ (pc' := 264) rfl rfl rfl rfl ?_
  refine on_bipush (pc' := 266) (v := 17) rfl rfl lb_17 ?_
  refine on_newarray (pc' := 268) (t := 1) (N := 17) (ty := .long) (a0 := (17, .inr (.inl (fun _ => 0)))) rfl rfl rfl rfl (fun _ _ _ h1 h2 => Option.some.inj (h1.symm.trans h2)) w_arlong (fun _ => rfl) (by decide) (by decide) (by decide) (by omega) (by omega) ?_
  apply on_putF (pc' := 271) rfl rfl fp_M_115 rfl
  · repeat (first | assumption | exact on_up_eq _ _ _ | refine (on_up_ne (by omega)).trans ?_)
  · first | rfl | assumption
  · first | rfl | assumption
  · exact Nat.le_of_ble_eq_true rfl
  first | refine on_aload_n (pc' := 272) rfl rfl rfl rfl ?_ | refine on_aload_nQ (pc' := 272) rfl rfl rfl rfl ?_
  refine on_bipush (pc' := 274) (v := 17) rfl rfl lb_17 ?_
  refine on_newarray (pc' := 276) (t := 1) (N := 17) (ty := .long) (a0 := (17, .inr (.inl (fun _ => 0)))) rfl rfl rfl rfl (fun _ _ _ h1 h2 => Option.some.inj (h1.symm.trans h2)) w_arlong (fun _ => rfl) (by decide) (by decide) (by decide) (by omega) (by omega) ?_
  apply on_putF (pc' := 279) rfl rfl fp_M_118 rfl
  · repeat (first | assumption | exact on_up_eq _ _ _ | refine (on_up_ne (by omega)).trans ?_)
  · first | rfl | assumption
  · first | rfl | assumption
  · exact Nat.le_of_ble_eq_true rfl
  first | refine on_aload_n (pc' := 280) rfl rfl rfl rfl ?_ | refine on_aload_nQ (pc' := 280) rfl rfl rfl rfl ?_
  refine on_bipush (pc' := 282) (v := 34) rfl rfl lb_34 ?_
  refine on_newarray (pc' := 284) (t := 1) (N := 34) (ty := .long) (a0 := (34, .inr (.inl (fun _ => 0)))) rfl rfl rfl rfl (fun _ _ _ h1 h2 => Option.some.inj (h1.symm.trans h2)) w_arlong (fun _ => rfl) (by decide) (by decide) (by decide) (by omega) (by omega) ?_
  apply on_putF (pc' := 287) rfl rfl fp_M_121 rfl
  · repeat (first | assumption | exact on_up_eq _ _ _ | refine (on_up_ne (by omega)).trans ?_)
  · first | rfl | assumption
  · first | rfl | assumption
  · exact Nat.le_of_ble_eq_true rfl
  first | refine on_aload_n (pc' := 288) rfl rfl rfl rfl ?_ | refine on_aload_nQ (pc' := 288) rfl rfl rfl rfl ?_
  refine on_bipush (pc' := 290) (v := 124) rfl rfl lb_124 ?_
  refine on_newarray (pc' := 292) (t := 0) (N := 124) (ty := .int) (a0 := (124, .inl (fun _ => 0))) rfl rfl rfl rfl (fun _ _ _ h1 h2 => Option.some.inj (h1.symm.trans h2)) w_arint (fun _ => rfl) (by decide) (by decide) (by decide) (by omega) (by omega) ?_
  apply on_putF (pc' := 295) rfl rfl fp_M_124 rfl
  · repeat (first | assumption | exact on_up_eq _ _ _ | refine (on_up_ne (by omega)).trans ?_)
  · first | rfl | assumption
  · first | rfl | assumption
  · exact Nat.le_of_ble_eq_true rfl
  refine on_relv (l := [(0, .ref o)]) ⟨rfl, trivial⟩ ?_
  refine on_budget (bc2 := bc - 7) (bs2 := bs - 243) (by omega) (by omega) (kk _ ⟨?_, ?_, ?_, ?_, ?_, ?_, ?_, ?_, ?_, ?_, ?_, ?_, ?_, ?_, ?_, ?_, ?_, ?_, ?_, ?_, ?_, ?_, ?_, ?_, ?_, ?_, ?_, ?_, ?_, ?_, ?_, ?_, ?_, ?_, ?_, ?_, fun b hb => ?_⟩)
  · exact on_up_eq _ _ _
  · repeat (first | assumption | exact on_up_eq _ _ _ | refine (on_up_ne (by omega)).trans ?_)
  · repeat (first | assumption | exact on_up_eq _ _ _ | refine (on_up_ne (by omega)).trans ?_)
  · repeat (first | assumption | exact on_up_eq _ _ _ | refine (on_up_ne (by omega)).trans ?_)
  · repeat (first | assumption | exact on_up_eq _ _ _ | refine (on_up_ne (by omega)).trans ?_)
  · repeat (first | assumption | exact on_up_eq _ _ _ | refine (on_up_ne (by omega)).trans ?_)
  · repeat (first | assumption | exact on_up_eq _ _ _ | refine (on_up_ne (by omega)).trans ?_)
  · repeat (first | assumption | exact on_up_eq _ _ _ | refine (on_up_ne (by omega)).trans ?_)
  · refine k8.keep (fun b _ _ => ?_)
    repeat (first | assumption | exact on_up_eq _ _ _ | refine (on_up_ne (by omega)).trans ?_)
    all_goals rfl
  · refine k11.keep (fun b _ _ => ?_)
    repeat (first | assumption | exact on_up_eq _ _ _ | refine (on_up_ne (by omega)).trans ?_)
    all_goals rfl
  · refine k14.keep (fun b _ _ => ?_)
    repeat (first | assumption | exact on_up_eq _ _ _ | refine (on_up_ne (by omega)).trans ?_)
    all_goals rfl
  · repeat (first | assumption | exact on_up_eq _ _ _ | refine (on_up_ne (by omega)).trans ?_)
  · repeat (first | assumption | exact on_up_eq _ _ _ | refine (on_up_ne (by omega)).trans ?_)
  · repeat (first | assumption | exact on_up_eq _ _ _ | refine (on_up_ne (by omega)).trans ?_)
  · repeat (first | assumption | exact on_up_eq _ _ _ | refine (on_up_ne (by omega)).trans ?_)
  · repeat (first | assumption | exact on_up_eq _ _ _ | refine (on_up_ne (by omega)).trans ?_)
  · repeat (first | assumption | exact on_up_eq _ _ _ | refine (on_up_ne (by omega)).trans ?_)
  · repeat (first | assumption | exact on_up_eq _ _ _ | refine (on_up_ne (by omega)).trans ?_)
  · repeat (first | assumption | exact on_up_eq _ _ _ | refine (on_up_ne (by omega)).trans ?_)
  · repeat (first | assumption | exact on_up_eq _ _ _ | refine (on_up_ne (by omega)).trans ?_)
  · repeat (first | assumption | exact on_up_eq _ _ _ | refine (on_up_ne (by omega)).trans ?_)
  · repeat (first | assumption | exact on_up_eq _ _ _ | refine (on_up_ne (by omega)).trans ?_)
  · repeat (first | assumption | exact on_up_eq _ _ _ | refine (on_up_ne (by omega)).trans ?_)
  · repeat (first | assumption | exact on_up_eq _ _ _ | refine (on_up_ne (by omega)).trans ?_)
  · repeat (first | assumption | exact on_up_eq _ _ _ | refine (on_up_ne (by omega)).trans ?_)
  · repeat (first | assumption | exact on_up_eq _ _ _ | refine (on_up_ne (by omega)).trans ?_)
  · repeat (first | assumption | exact on_up_eq _ _ _ | refine (on_up_ne (by omega)).trans ?_)
  · repeat (first | assumption | exact on_up_eq _ _ _ | refine (on_up_ne (by omega)).trans ?_)
  · repeat (first | assumption | exact on_up_eq _ _ _ | refine (on_up_ne (by omega)).trans ?_)
  · repeat (first | assumption | exact on_up_eq _ _ _ | refine (on_up_ne (by omega)).trans ?_)
  · repeat (first | assumption | exact on_up_eq _ _ _ | refine (on_up_ne (by omega)).trans ?_)
  · repeat (first | assumption | exact on_up_eq _ _ _ | refine (on_up_ne (by omega)).trans ?_)
  · repeat (first | assumption | exact on_up_eq _ _ _ | refine (on_up_ne (by omega)).trans ?_)
  · repeat (first | assumption | exact on_up_eq _ _ _ | refine (on_up_ne (by omega)).trans ?_)
  · repeat (first | assumption | exact on_up_eq _ _ _ | refine (on_up_ne (by omega)).trans ?_)
  · repeat (first | assumption | exact on_up_eq _ _ _ | refine (on_up_ne (by omega)).trans ?_)
  · refine Eq.trans (b := g0 b) ?_ (kf b hb)
    repeat (first | assumption | exact on_up_eq _ _ _ | refine (on_up_ne (by omega)).trans ?_)
    all_goals rfl
set_option maxHeartbeats 16000000 in
theorem c_M_init (h0 : h o = some (.inr (17, [.null, .int 0, .null, .null, .null, .int 0, .null, .int 0, .null, .null, .null, .null, .null, .null, .null, .null, .null, .null, .null, .null, .null, .null, .null, .null, .null, .null, .null, .null, .null, .null, .null, .null, .null, .null, .null, .null, .null, .null]))) (hsz : sz = o + 1) : on_Ct G M_M_init [.ref o] h sz 41 113575 (fun v h1 z => v = none ∧ z = o + 42 ∧ mX o (o + 42) RA CA a_0 h1 ∧ ∀ b, b < o → h1 b = h b) := by
  subst hsz
  refine on_Ct.of (by decide) v_M_init (Nat.le_of_ble_eq_true rfl) ?_
  first | refine on_aload_n (pc' := 1) rfl rfl rfl rfl ?_ | refine on_aload_nQ (pc' := 1) rfl rfl rfl rfl ?_
  refine on_objInit (pc' := 4) rfl rfl oi_M_1 w_ob1 w_ob2 (Nat.le_of_ble_eq_true rfl) (Nat.le_of_ble_eq_true rfl) ?_
  refine mit_1 h0 (by omega) (by omega) (fun g1 K1 => ?_)
  refine mit_2 K1 (by omega) (by omega) (fun g2 K2 => ?_)
  refine mit_3 K2 (by omega) (by omega) (fun g3 K3 => ?_)
  refine mit_4 K3 (by omega) (by omega) (fun g4 K4 => ?_)
  refine mit_5 K4 (by omega) (by omega) (fun g5 K5 => ?_)
  refine mit_6 K5 (by omega) (by omega) (fun g6 K6 => ?_)
  refine mit_7 K6 (by omega) (by omega) (fun g7 K7 => ?_)
  refine mit_8 K7 (by omega) (by omega) (fun g8 K8 => ?_)
  obtain ⟨q0, k1, k2, k3, k4, k5, k6, k7, k8, k11, k14, k17, k18, k19, k20, k21, k22, k23, k24, k25, k26, k27, k28, k29, k30, k31, k32, k33, k34, k35, k36, k37, k38, k39, k40, k41, kf⟩ := K8
  have eh : on_up g8 (o + 17) (on_ai 0 64 (fun _ => 0)) = g8 := funext fun b => by
    by_cases w : b = o + 17
    · rw [w, on_up_eq, k17]
    · exact on_up_ne w
  refine on_iconst (pc' := 296) (v := 2) rfl rfl li_2 ?_
  refine on_istore_n (pc' := 297) rfl rfl rfl (by decide) ?_
  refine on_iconst (pc' := 298) (v := 0) rfl rfl li_0 ?_
  refine on_istore_n (pc' := 299) rfl rfl rfl (by decide) ?_
  refine on_relv (l := [(0, .ref o), (1, .int (nI (pr 0))), (2, .int (nI 0))]) ⟨rfl, rfl, rfl, trivial⟩ ?_
  rw [← eh]
  refine min_1 (x3 := (0, 0, 0)) q0 (fun T hT => ?_) 64 0 _ rfl (fun j hj => absurd hj (Nat.not_lt_zero j))
  refine on_vreturn rfl rfl ?_
  have tt : ∀ b, b ≠ o + 17 → on_up g8 (o + 17) (on_ai 0 64 T) b = g8 b := fun b hb => on_up_ne hb
  have tT : on_up g8 (o + 17) (on_ai 0 64 T) (o + 17) = some (on_ai 0 64 T) := on_up_eq _ _ _
  generalize on_up g8 (o + 17) (on_ai 0 64 T) = g at tt tT ⊢
  have r0 := (tt o (by omega)).trans q0
  refine ⟨rfl, rfl, ⟨⟨⟨r0, T, tT, hT⟩, k8.keep (fun b _ _ => tt b (by omega)), k11.keep (fun b _ _ => tt b (by omega)), k14.keep (fun b _ _ => tt b (by omega)), ⟨_, (tt _ (by omega)).trans k18⟩, ⟨_, (tt _ (by omega)).trans k19⟩, ⟨_, (tt _ (by omega)).trans k20⟩, ⟨_, (tt _ (by omega)).trans k21⟩, ⟨_, (tt _ (by omega)).trans k22⟩, ⟨_, (tt _ (by omega)).trans k23⟩, ⟨_, (tt _ (by omega)).trans k24⟩, ⟨_, (tt _ (by omega)).trans k25⟩, ⟨_, (tt _ (by omega)).trans k26⟩, ⟨_, (tt _ (by omega)).trans k27⟩, ⟨_, (tt _ (by omega)).trans k28⟩, ⟨fun _ _ => 0, r0, ?_, _, (tt _ (by omega)).trans k40⟩, ⟨_, (tt _ (by omega)).trans k41⟩⟩, ⟨_, _, (tt _ (by omega)).trans k6, (tt _ (by omega)).trans k7, fun j hj => ⟨rfl, Nat.zero_le _, fun k hk => absurd hk (Nat.not_lt_zero k)⟩⟩, ⟨?_, ⟨_, (tt _ (by omega)).trans k2, fun i hi => absurd hi (Nat.not_lt_zero i)⟩, ⟨_, (tt _ (by omega)).trans k3, fun i hi => rfl⟩, ⟨_, (tt _ (by omega)).trans k4, fun i hi => rfl⟩, ?_⟩, ⟨Nat.le_refl _, fun i hi => absurd hi (Nat.not_lt_zero i), fun i hi => absurd hi (Nat.not_lt_zero i), fun i j hi => absurd hi (Nat.not_lt_zero i), fun i j hi => absurd hi (Nat.not_lt_zero i), fun i j hi => absurd hi (Nat.not_lt_zero i)⟩, fun i hi => absurd hi (Nat.not_lt_zero i), fun i hi => absurd hi (Nat.not_lt_zero i)⟩, fun b hb => (tt b (by omega)).trans (kf b hb)⟩
  · exact fun k hk => match k, hk with | 0, _ => (tt _ (by omega)).trans k29 | 1, _ => (tt _ (by omega)).trans k30 | 2, _ => (tt _ (by omega)).trans k31 | 3, _ => (tt _ (by omega)).trans k32 | 4, _ => (tt _ (by omega)).trans k33 | 5, _ => (tt _ (by omega)).trans k34 | 6, _ => (tt _ (by omega)).trans k35 | 7, _ => (tt _ (by omega)).trans k36 | 8, _ => (tt _ (by omega)).trans k37 | 9, _ => (tt _ (by omega)).trans k38 | 10, _ => (tt _ (by omega)).trans k39 | j + 11, hk => absurd hk (by omega)
  · refine (tt _ (by omega)).trans (k1.trans ?_)
    rw [show rf a_0.nr RA = fun _ => none from rf_0]
  · refine (tt _ (by omega)).trans (k5.trans ?_)
    rw [show rf a_0.nc CA = fun _ => none from rf_0]
end MIT
