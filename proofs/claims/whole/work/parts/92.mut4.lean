/-! leg, meet -/
section MUT4
variable {s : Sg}
def legX (s : Sg) (v g : Nat) (p th q : Int32) : Sg := up3 (up3 (up3 (up3 (up3 (up3 s 37 v g p) 38 v g th) 36 v (g + 1) q) 42 v (g + 1) (s 43 v g + th)) 43 v (g + 1) (s 43 v g + th + s 8 v 2)) 8 v 4 (nI (g + 1))
def legM (s : Sg) (v g : Nat) (p q : Int32) : Sg := up3 (up3 (up3 (up3 (up3 s 53 0 (6 * v + g) p) 54 0 (6 * v + g) 0) 52 0 v (nI (g + 1))) 55 0 (7 * v + (g + 1)) q) 10 0 19 0
theorem x_addLeg {v g sp : Nat} {p q m : Int32} (hg : g < 6) (h4 : s 8 v 4 = nI g) (h1 : s 8 v 1 = nI sp) (hsp : 1 ≤ sp ∧ sp ≤ 30) : f_X8_addLeg v p q m s = some (legX s v g p ((m + nI sp - 1) / nI sp) q) := by
  have c0 : ¬ nI sp ≤ 0 := nI_nle (by omega) (by omega)
  have c1 : ¬ nI sp = 0 := nI_ne0 (by omega) (by omega)
  unfold f_X8_addLeg f_X9_hoursFor bdI bdS legX
  simp only [h4, h1, up_k (show ¬ (8 : Nat) = 37 by decide), up_k (show ¬ (8 : Nat) = 38 by decide), up_k (show ¬ (8 : Nat) = 36 by decide), up_k (show ¬ (8 : Nat) = 42 by decide), up_k (show ¬ (8 : Nat) = 43 by decide), if_neg c0, decide_eq_true c1, Option.bind_some, chk, if_true, gi_nI (show g < 6 by omega) (by decide), gi_nI (show g < 7 by omega) (by decide), nI_1, gi_nI (show g + 1 < 7 by omega) (by decide), nI_clamp (show g < 2 ^ 31 by omega), nI_clamp (show g + 1 < 2 ^ 31 by omega), up_k (show ¬ (43 : Nat) = 36 by decide), up_k (show ¬ (43 : Nat) = 38 by decide), up_k (show ¬ (43 : Nat) = 37 by decide), up_k (show ¬ (43 : Nat) = 42 by decide), up_k (show ¬ (38 : Nat) = 36 by decide), up_s]
theorem q_leg (R : Rel s) (a1 a2 : Int32) : Bo (f_X9_leg a1 a2) (f_X10_leg a1 a2) s := by
  obtain ⟨c, np, n, nm, K, o, B, hc, R7, R8, R9, hP⟩ := id R
  obtain ⟨B1, B2, B3, B4, B5, B6⟩ := id B
  have hn := B3.1
  have hnp := B1.1
  rcases ix_cases a1 (n := n) (by omega) with z | ⟨v, hv, rfl⟩
  · refine bo_eq (r := -1) R ?_ ?_
    · unfold f_X9_leg; rw [hvX_no B3.2.1 z]; rfl
    · unfold f_X10_leg; rw [hvM_no B3.2.2.1 z]; rfl
  have g10 := gi_nI (j := v) (n := 10) (by omega) (by decide)
  have cv : (nI v).toNatClampNeg = v := nI_clamp (by omega)
  rcases ix_cases a2 (n := np) (by omega) with z | ⟨p, hp, rfl⟩
  · refine bo_eq (r := -1) R ?_ ?_
    · unfold f_X9_leg f_X1_has
      by_cases q : a2 < 0
      · simp only [hvX_yes (s := s) B3.2.1 hv hn, Option.bind_some, if_neg n10, if_pos q, if_true]
      · simp only [hvX_yes (s := s) B3.2.1 hv hn, Option.bind_some, if_neg n10, if_neg q, B1.2.1, if_pos (z.resolve_left q), if_true]
    · unfold f_X10_leg
      by_cases q : a2 < 0
      · simp only [hvM_yes (s := s) B3.2.2.1 hv hn, Option.bind_some, if_neg n10, if_pos q]
      · simp only [hvM_yes (s := s) B3.2.2.1 hv hn, Option.bind_some, if_neg n10, if_neg q, B1.2.2.1, if_pos (z.resolve_left q)]
  have hh : f_X1_has (nI p) s = some (1, s) := by
    unfold f_X1_has
    rw [if_neg (nI_pos (by omega)), B1.2.1, if_neg (nI_ge hp (by omega))]
  have e0 : ¬ nI p < 0 := nI_pos (by omega)
  have e1 : ¬ nI np ≤ nI p := nI_ge hp (by omega)
  have g12 := gi_nI (j := p) (n := 12) (by omega) (by decide)
  have cp : (nI p).toNatClampNeg = p := nI_clamp (by omega)
  obtain ⟨⟨l, sp, st, sa, g, ⟨l1, l2, l3⟩, ⟨q1, q2, q3⟩, ⟨t1, t2, t3⟩, ⟨s1, s2, s3, s4⟩, r1, r2, r3⟩, hpp, hll⟩ := B3.2.2.2 v hv
  have hlg : lgs s v = g := by unfold lgs; rw [r2, nI_clamp (by omega)]
  by_cases hg6 : g = 6
  · have c1 : ¬ nI g < 6 := by rw [L_6, nI_ltI (by omega) (by omega)]; omega
    have c2 : nI g = 6 := by rw [hg6]; rfl
    refine bo_eq (r := -1) R ?_ ?_
    · unfold f_X9_leg; simp only [hvX_yes (s := s) B3.2.1 hv hn, hh, Option.bind_some, if_neg n10, chk, g10, if_true, cv, r2, if_neg c1]
    · unfold f_X10_leg; simp only [hvM_yes (s := s) B3.2.2.1 hv hn, Option.bind_some, if_neg n10, if_neg e0, B1.2.2.1, if_neg e1, chk, g10, if_true, cv, r3, if_pos c2]
  have c1 : nI g < 6 := by rw [L_6, nI_ltI (by omega) (by omega)]; omega
  have c2 : ¬ nI g = 6 := by rw [L_6, nI_eq (by omega) (by omega)]; exact hg6
  obtain ⟨pe, pe1, pe2, pe3⟩ := hpp g (by omega)
  obtain ⟨a, b, m, a8, b8, m1, ⟨x14, x44⟩, ⟨x15, x45⟩, x16, x46⟩ := B1.2.2.2 p hp
  have cg : (nI g).toNatClampNeg = g := nI_clamp (by omega)
  have e7 : (7 : Int32) * nI v + nI g = nI (7 * v + g) := by rw [L_7, pk_mul, nI_add]
  have g70 := gi_nI (j := 7 * v + g) (n := 70) (by omega) (by decide)
  have c70 : (nI (7 * v + g)).toNatClampNeg = 7 * v + g := nI_clamp (by omega)
  have hend : f_X8_endPort v s = some (nI pe, s) := by
    unfold f_X8_endPort
    simp only [r2, chk, gi_nI (show g < 7 by omega) (by decide), if_true, cg, pe2]
  by_cases hab : ¬ (pe = a ∨ pe = b)
  · have na : ¬ nI a = nI pe := by rw [nI_eq (by omega) (by omega)]; intro h; exact hab (Or.inl h.symm)
    have nb : ¬ nI b = nI pe := by rw [nI_eq (by omega) (by omega)]; intro h; exact hab (Or.inr h.symm)
    refine bo_eq (r := -1) R ?_ ?_
    · unfold f_X9_leg f_X1_otherEnd; simp only [hvX_yes (s := s) B3.2.1 hv hn, hh, Option.bind_some, if_neg n10, chk, g10, if_true, cv, r2, if_pos c1, hend, g12, cp, x14, if_neg na, x15, if_neg nb]
    · unfold f_X10_leg bdI; simp only [hvM_yes (s := s) B3.2.2.1 hv hn, Option.bind_some, if_neg n10, if_neg e0, B1.2.2.1, if_neg e1, chk, g10, if_true, cv, r3, if_neg c2, e7, g70, c70, pe3, g12, cp, x44, if_neg na, x45, if_neg nb]
  replace hab := Classical.not_not.mp hab
  obtain ⟨q, hq8, hqX, hqM⟩ : ∃ q, q < 8 ∧ f_X1_otherEnd (nI p) (nI pe) s = some (nI q, s) ∧ ((nI a = nI pe ∧ q = b) ∨ (¬ nI a = nI pe ∧ nI b = nI pe ∧ q = a)) := by
    unfold f_X1_otherEnd
    by_cases ha : nI a = nI pe
    · exact ⟨b, b8, by simp only [chk, g12, if_true, cp, x14, if_pos ha, x15], Or.inl ⟨ha, rfl⟩⟩
    · have hb : nI b = nI pe := by
        rcases hab with h | h
        · exact absurd (by rw [h]) ha
        · rw [h]
      exact ⟨a, a8, by simp only [chk, g12, if_true, cp, x14, if_neg ha, x15, if_pos hb], Or.inr ⟨ha, hb, rfl⟩⟩
  have hX : f_X9_leg (nI v) (nI p) s = some (nI (g + 1), up3 (legX s v g (nI p) ((nI m + nI sp - 1) / nI sp) (nI q)) 3 0 2 1) := by
    unfold f_X9_leg bdS
    simp only [hvX_yes (s := s) B3.2.1 hv hn, hh, Option.bind_some, if_neg n10, chk, g10, if_true, cv, r2, if_pos c1, hend, hqX, if_neg (nIm1 (show q < 2 ^ 31 by omega)), g12, cp, x16, x_addLeg (s := s) (p := nI p) (q := nI q) (m := nI m) (show g < 6 by omega) r2 q2 q1, up_k (show ¬ (8 : Nat) = 3 by decide)]
    unfold legX
    rw [up_s]
  have hM : ∀ t : Sg, t 10 = s 10 → t 52 = s 52 → t 55 = s 55 → t 44 = s 44 → t 45 = s 45 → f_X10_leg (nI v) (nI p) t = some (nI (g + 1), legM t v g (nI p) (nI q)) := by
    intro t k10 k52 k55 k44 k45
    have e6 : (6 : Int32) * nI v + nI g = nI (6 * v + g) := by rw [L_6, pk_mul, nI_add]
    have e8 : (7 : Int32) * nI v + nI (g + 1) = nI (7 * v + (g + 1)) := by rw [L_7, pk_mul, nI_add]
    have h160 : ∀ u : Sg, u 52 0 v = nI (g + 1) → f_X10_leg_B160 (nI v) (nI (7 * v + (g + 1))) (nI q) u = some (nI (g + 1), up3 (up3 u 55 0 (7 * v + (g + 1)) (nI q)) 10 0 19 0) := by
      intro u hu
      unfold f_X10_leg_B160 bdS
      simp only [chk, gi_nI (show 7 * v + (g + 1) < 70 by omega) (by decide), if_true, nI_clamp (show 7 * v + (g + 1) < 2 ^ 31 by omega), g10, cv, up_k (show ¬ (52 : Nat) = 10 by decide), up_k (show ¬ (52 : Nat) = 55 by decide), hu]
    have h72 : f_X10_leg_B72 (nI v) (nI p) (nI pe) t = some (nI (g + 1), legM t v g (nI p) (nI q)) := by
      unfold f_X10_leg_B72 bdS
      simp only [chk, g10, if_true, cv, up_k (show ¬ (52 : Nat) = 53 by decide), up_k (show ¬ (52 : Nat) = 54 by decide), k52, r3, e6, gi_nI (show 6 * v + g < 60 by omega) (by decide), nI_clamp (show 6 * v + g < 2 ^ 31 by omega), nI_1, up_s, g12, cp, up_k (show ¬ (44 : Nat) = 52 by decide), up_k (show ¬ (44 : Nat) = 53 by decide), up_k (show ¬ (44 : Nat) = 54 by decide), up_k (show ¬ (45 : Nat) = 52 by decide), up_k (show ¬ (45 : Nat) = 53 by decide), up_k (show ¬ (45 : Nat) = 54 by decide), k44, k45, x44, x45, e8]
      rcases hqM with ⟨ha, hq⟩ | ⟨ha, hb, hq⟩
      · rw [if_pos ha, ← hq, h160 _ up_s]; rfl
      · rw [if_neg ha, ← hq, h160 _ up_s]; rfl
    unfold f_X10_leg bdI
    simp only [hvM_yes (s := t) (by rw [k10]; exact B3.2.2.1) hv hn, Option.bind_some, if_neg n10, if_neg e0, k10, B1.2.2.1, if_neg e1, chk, g10, if_true, cv, k52, r3, if_neg c2, e7, g70, c70, k55, pe3, g12, cp, k44, x44, k45, x45, h72]
    rcases hqM with ⟨ha, hq⟩ | ⟨ha, hb, hq⟩
    · rw [if_pos ha]
    · rw [if_neg ha, if_pos hb]
  refine ⟨_, hX, _, hM _ ?_ ?_ ?_ ?_ ?_, rfl, ?_⟩
  · unfold legX; simp only [up_k (show ¬ (10 : Nat) = 3 by decide), up_k (show ¬ (10 : Nat) = 37 by decide), up_k (show ¬ (10 : Nat) = 38 by decide), up_k (show ¬ (10 : Nat) = 36 by decide), up_k (show ¬ (10 : Nat) = 42 by decide), up_k (show ¬ (10 : Nat) = 43 by decide), up_k (show ¬ (10 : Nat) = 8 by decide)]
  · unfold legX; simp only [up_k (show ¬ (52 : Nat) = 3 by decide), up_k (show ¬ (52 : Nat) = 37 by decide), up_k (show ¬ (52 : Nat) = 38 by decide), up_k (show ¬ (52 : Nat) = 36 by decide), up_k (show ¬ (52 : Nat) = 42 by decide), up_k (show ¬ (52 : Nat) = 43 by decide), up_k (show ¬ (52 : Nat) = 8 by decide)]
  · unfold legX; simp only [up_k (show ¬ (55 : Nat) = 3 by decide), up_k (show ¬ (55 : Nat) = 37 by decide), up_k (show ¬ (55 : Nat) = 38 by decide), up_k (show ¬ (55 : Nat) = 36 by decide), up_k (show ¬ (55 : Nat) = 42 by decide), up_k (show ¬ (55 : Nat) = 43 by decide), up_k (show ¬ (55 : Nat) = 8 by decide)]
  · unfold legX; simp only [up_k (show ¬ (44 : Nat) = 3 by decide), up_k (show ¬ (44 : Nat) = 37 by decide), up_k (show ¬ (44 : Nat) = 38 by decide), up_k (show ¬ (44 : Nat) = 36 by decide), up_k (show ¬ (44 : Nat) = 42 by decide), up_k (show ¬ (44 : Nat) = 43 by decide), up_k (show ¬ (44 : Nat) = 8 by decide)]
  · unfold legX; simp only [up_k (show ¬ (45 : Nat) = 3 by decide), up_k (show ¬ (45 : Nat) = 37 by decide), up_k (show ¬ (45 : Nat) = 38 by decide), up_k (show ¬ (45 : Nat) = 36 by decide), up_k (show ¬ (45 : Nat) = 42 by decide), up_k (show ¬ (45 : Nat) = 43 by decide), up_k (show ¬ (45 : Nat) = 8 by decide)]
  dsimp only
  generalize hth : (nI m + nI sp - 1) / nI sp = th
  have A : Ag [37, 38, 36, 42, 43, 8, 3, 53, 54, 52, 55, 10] (legM (up3 (legX s v g (nI p) th (nI q)) 3 0 2 1) v g (nI p) (nI q)) s := by
    unfold legM legX
    repeat refine Ag.up ?_ (by decide)
    exact Ag.rfl
  have w : ∀ j, ¬ j = 19 → legM (up3 (legX s v g (nI p) th (nI q)) 3 0 2 1) v g (nI p) (nI q) 10 0 j = s 10 0 j := by
    intro j hj
    unfold legM legX
    simp only [up_j hj, up_k (show ¬ (10 : Nat) = 53 by decide), up_k (show ¬ (10 : Nat) = 54 by decide), up_k (show ¬ (10 : Nat) = 52 by decide), up_k (show ¬ (10 : Nat) = 55 by decide), up_k (show ¬ (10 : Nat) = 3 by decide), up_k (show ¬ (10 : Nat) = 37 by decide), up_k (show ¬ (10 : Nat) = 38 by decide), up_k (show ¬ (10 : Nat) = 36 by decide), up_k (show ¬ (10 : Nat) = 42 by decide), up_k (show ¬ (10 : Nat) = 43 by decide), up_k (show ¬ (10 : Nat) = 8 by decide)]
  have f19 : legM (up3 (legX s v g (nI p) th (nI q)) 3 0 2 1) v g (nI p) (nI q) 10 0 19 = 0 := by unfold legM; rw [up_s]
  have f3 : legM (up3 (legX s v g (nI p) th (nI q)) 3 0 2 1) v g (nI p) (nI q) 3 0 2 = 1 := by unfold legM; simp only [up_k (show ¬ (3 : Nat) = 53 by decide), up_k (show ¬ (3 : Nat) = 54 by decide), up_k (show ¬ (3 : Nat) = 52 by decide), up_k (show ¬ (3 : Nat) = 55 by decide), up_k (show ¬ (3 : Nat) = 10 by decide), up_s]
  have f8 : ∀ u j, legM (up3 (legX s v g (nI p) th (nI q)) 3 0 2 1) v g (nI p) (nI q) 8 u j = if u = v ∧ j = 4 then nI (g + 1) else s 8 u j := by intro u j; unfold legM legX; simp only [up_k (show ¬ (8 : Nat) = 53 by decide), up_k (show ¬ (8 : Nat) = 54 by decide), up_k (show ¬ (8 : Nat) = 52 by decide), up_k (show ¬ (8 : Nat) = 55 by decide), up_k (show ¬ (8 : Nat) = 10 by decide), up_k (show ¬ (8 : Nat) = 3 by decide), up_k (show ¬ (8 : Nat) = 37 by decide), up_k (show ¬ (8 : Nat) = 38 by decide), up_k (show ¬ (8 : Nat) = 36 by decide), up_k (show ¬ (8 : Nat) = 42 by decide), up_k (show ¬ (8 : Nat) = 43 by decide), up_at2]
  have f36 : ∀ u j, legM (up3 (legX s v g (nI p) th (nI q)) 3 0 2 1) v g (nI p) (nI q) 36 u j = if u = v ∧ j = g + 1 then nI q else s 36 u j := by intro u j; unfold legM legX; simp only [up_k (show ¬ (36 : Nat) = 53 by decide), up_k (show ¬ (36 : Nat) = 54 by decide), up_k (show ¬ (36 : Nat) = 52 by decide), up_k (show ¬ (36 : Nat) = 55 by decide), up_k (show ¬ (36 : Nat) = 10 by decide), up_k (show ¬ (36 : Nat) = 3 by decide), up_k (show ¬ (36 : Nat) = 37 by decide), up_k (show ¬ (36 : Nat) = 38 by decide), up_k (show ¬ (36 : Nat) = 8 by decide), up_k (show ¬ (36 : Nat) = 42 by decide), up_k (show ¬ (36 : Nat) = 43 by decide), up_at2]
  have f37 : ∀ u j, legM (up3 (legX s v g (nI p) th (nI q)) 3 0 2 1) v g (nI p) (nI q) 37 u j = if u = v ∧ j = g then nI p else s 37 u j := by intro u j; unfold legM legX; simp only [up_k (show ¬ (37 : Nat) = 53 by decide), up_k (show ¬ (37 : Nat) = 54 by decide), up_k (show ¬ (37 : Nat) = 52 by decide), up_k (show ¬ (37 : Nat) = 55 by decide), up_k (show ¬ (37 : Nat) = 10 by decide), up_k (show ¬ (37 : Nat) = 3 by decide), up_k (show ¬ (37 : Nat) = 36 by decide), up_k (show ¬ (37 : Nat) = 38 by decide), up_k (show ¬ (37 : Nat) = 8 by decide), up_k (show ¬ (37 : Nat) = 42 by decide), up_k (show ¬ (37 : Nat) = 43 by decide), up_at2]
  have f38 : ∀ u j, legM (up3 (legX s v g (nI p) th (nI q)) 3 0 2 1) v g (nI p) (nI q) 38 u j = if u = v ∧ j = g then th else s 38 u j := by intro u j; unfold legM legX; simp only [up_k (show ¬ (38 : Nat) = 53 by decide), up_k (show ¬ (38 : Nat) = 54 by decide), up_k (show ¬ (38 : Nat) = 52 by decide), up_k (show ¬ (38 : Nat) = 55 by decide), up_k (show ¬ (38 : Nat) = 10 by decide), up_k (show ¬ (38 : Nat) = 3 by decide), up_k (show ¬ (38 : Nat) = 36 by decide), up_k (show ¬ (38 : Nat) = 37 by decide), up_k (show ¬ (38 : Nat) = 8 by decide), up_k (show ¬ (38 : Nat) = 42 by decide), up_k (show ¬ (38 : Nat) = 43 by decide), up_at2]
  have f42 : ∀ u j, legM (up3 (legX s v g (nI p) th (nI q)) 3 0 2 1) v g (nI p) (nI q) 42 u j = if u = v ∧ j = g + 1 then s 43 v g + th else s 42 u j := by intro u j; unfold legM legX; simp only [up_k (show ¬ (42 : Nat) = 53 by decide), up_k (show ¬ (42 : Nat) = 54 by decide), up_k (show ¬ (42 : Nat) = 52 by decide), up_k (show ¬ (42 : Nat) = 55 by decide), up_k (show ¬ (42 : Nat) = 10 by decide), up_k (show ¬ (42 : Nat) = 3 by decide), up_k (show ¬ (42 : Nat) = 36 by decide), up_k (show ¬ (42 : Nat) = 37 by decide), up_k (show ¬ (42 : Nat) = 8 by decide), up_k (show ¬ (42 : Nat) = 38 by decide), up_k (show ¬ (42 : Nat) = 43 by decide), up_at2]
  have f43 : ∀ u j, legM (up3 (legX s v g (nI p) th (nI q)) 3 0 2 1) v g (nI p) (nI q) 43 u j = if u = v ∧ j = g + 1 then s 43 v g + th + s 8 v 2 else s 43 u j := by intro u j; unfold legM legX; simp only [up_k (show ¬ (43 : Nat) = 53 by decide), up_k (show ¬ (43 : Nat) = 54 by decide), up_k (show ¬ (43 : Nat) = 52 by decide), up_k (show ¬ (43 : Nat) = 55 by decide), up_k (show ¬ (43 : Nat) = 10 by decide), up_k (show ¬ (43 : Nat) = 3 by decide), up_k (show ¬ (43 : Nat) = 36 by decide), up_k (show ¬ (43 : Nat) = 37 by decide), up_k (show ¬ (43 : Nat) = 8 by decide), up_k (show ¬ (43 : Nat) = 38 by decide), up_k (show ¬ (43 : Nat) = 42 by decide), up_at2]
  have f52 : ∀ k, legM (up3 (legX s v g (nI p) th (nI q)) 3 0 2 1) v g (nI p) (nI q) 52 0 k = if k = v then nI (g + 1) else s 52 0 k := by intro k; unfold legM legX; simp only [up_k (show ¬ (52 : Nat) = 53 by decide), up_k (show ¬ (52 : Nat) = 54 by decide), up_k (show ¬ (52 : Nat) = 55 by decide), up_k (show ¬ (52 : Nat) = 10 by decide), up_k (show ¬ (52 : Nat) = 3 by decide), up_k (show ¬ (52 : Nat) = 36 by decide), up_k (show ¬ (52 : Nat) = 37 by decide), up_k (show ¬ (52 : Nat) = 8 by decide), up_k (show ¬ (52 : Nat) = 38 by decide), up_k (show ¬ (52 : Nat) = 42 by decide), up_k (show ¬ (52 : Nat) = 43 by decide), up_at]
  have f53 : ∀ k, legM (up3 (legX s v g (nI p) th (nI q)) 3 0 2 1) v g (nI p) (nI q) 53 0 k = if k = 6 * v + g then nI p else s 53 0 k := by intro k; unfold legM legX; simp only [up_k (show ¬ (53 : Nat) = 52 by decide), up_k (show ¬ (53 : Nat) = 54 by decide), up_k (show ¬ (53 : Nat) = 55 by decide), up_k (show ¬ (53 : Nat) = 10 by decide), up_k (show ¬ (53 : Nat) = 3 by decide), up_k (show ¬ (53 : Nat) = 36 by decide), up_k (show ¬ (53 : Nat) = 37 by decide), up_k (show ¬ (53 : Nat) = 8 by decide), up_k (show ¬ (53 : Nat) = 38 by decide), up_k (show ¬ (53 : Nat) = 42 by decide), up_k (show ¬ (53 : Nat) = 43 by decide), up_at]
  have f54 : ∀ k, legM (up3 (legX s v g (nI p) th (nI q)) 3 0 2 1) v g (nI p) (nI q) 54 0 k = if k = 6 * v + g then 0 else s 54 0 k := by intro k; unfold legM legX; simp only [up_k (show ¬ (54 : Nat) = 52 by decide), up_k (show ¬ (54 : Nat) = 53 by decide), up_k (show ¬ (54 : Nat) = 55 by decide), up_k (show ¬ (54 : Nat) = 10 by decide), up_k (show ¬ (54 : Nat) = 3 by decide), up_k (show ¬ (54 : Nat) = 36 by decide), up_k (show ¬ (54 : Nat) = 37 by decide), up_k (show ¬ (54 : Nat) = 8 by decide), up_k (show ¬ (54 : Nat) = 38 by decide), up_k (show ¬ (54 : Nat) = 42 by decide), up_k (show ¬ (54 : Nat) = 43 by decide), up_at]
  have f55 : ∀ k, legM (up3 (legX s v g (nI p) th (nI q)) 3 0 2 1) v g (nI p) (nI q) 55 0 k = if k = 7 * v + (g + 1) then nI q else s 55 0 k := by intro k; unfold legM legX; simp only [up_k (show ¬ (55 : Nat) = 52 by decide), up_k (show ¬ (55 : Nat) = 53 by decide), up_k (show ¬ (55 : Nat) = 54 by decide), up_k (show ¬ (55 : Nat) = 10 by decide), up_k (show ¬ (55 : Nat) = 3 by decide), up_k (show ¬ (55 : Nat) = 36 by decide), up_k (show ¬ (55 : Nat) = 37 by decide), up_k (show ¬ (55 : Nat) = 8 by decide), up_k (show ¬ (55 : Nat) = 38 by decide), up_k (show ¬ (55 : Nat) = 42 by decide), up_k (show ¬ (55 : Nat) = 43 by decide), up_at]
  generalize legM (up3 (legX s v g (nI p) th (nI q)) 3 0 2 1) v g (nI p) (nI q) = t at A w f19 f3 f8 f36 f37 f38 f42 f43 f52 f53 f54 f55 ⊢
  have hgv : lgs t v = g + 1 := by unfold lgs; rw [f8, if_pos ⟨rfl, rfl⟩, nI_clamp (by omega)]
  have hgo : ∀ u, ¬ u = v → lgs t u = lgs s u := fun u hu => by unfold lgs; rw [f8, if_neg (fun q => hu q.1)]
  have hge : ∀ u, lgs s u ≤ lgs t u := fun u => by
    by_cases e : u = v
    · subst e; omega
    · rw [hgo u e]; exact Nat.le_refl _
  obtain ⟨b39, b40⟩ := B4 v g (by omega) (by omega) (Or.inr (by omega))
  refine ⟨cfg t K, np, n, nm, K, o, ⟨P1_of (fun k hk => A k (by revert k; decide)) (w 0 (by decide)) B1, P2_of (fun k hk => A k (by revert k; decide)) B2, ⟨hn, by rw [A 0 (by decide)]; exact B3.2.1, by rw [w 1 (by decide)]; exact B3.2.2.1, fun u hu => ?_⟩, fun u j hu hj h => ?_, ⟨B5.1, by rw [A 0 (by decide)]; exact B5.2.1, by rw [w 2 (by decide)]; exact B5.2.2.1, by rw [A 56 (by decide), A 57 (by decide)]; exact B5.2.2.2.1, fun k hk => ?_, fun u j hu hj h => ?_⟩, P6_of (by rw [A 0 (by decide)]) (fun k hk => A k (by revert k; decide)) B6⟩, rfl, P7_of (fun k hk => A k (by revert k; decide)) (w 21 (by decide)) R7, P8_of (fun k hk => A k (by revert k; decide)) (by rw [A 4 (by decide)]) (w 55 (by decide)) R8, P9_of (A 5 (by decide)) (w 22 (by decide)) (w 23 (by decide)) R9, PF.no f19 f3⟩
  · have hlu := (B.lg6 hu).1
    by_cases e : u = v
    · subst e
      refine ⟨⟨l, sp, st, sa, g + 1, ⟨l1, ?_, ?_⟩, ⟨q1, ?_, ?_⟩, ⟨t1, ?_, ?_⟩, ⟨s1, ?_, ?_, ?_⟩, ⟨by omega, ?_, ?_⟩⟩, fun i hi => ?_, fun i hi => ?_⟩
      · rw [f8, if_neg (by omega)]; exact l2
      · rw [A 48 (by decide)]; exact l3
      · rw [f8, if_neg (by omega)]; exact q2
      · rw [A 49 (by decide)]; exact q3
      · rw [f8, if_neg (by omega)]; exact t2
      · rw [A 50 (by decide)]; exact t3
      · rw [f8, if_neg (by omega)]; exact s2
      · rw [A 51 (by decide)]; exact s3
      · rw [f43, if_neg (by omega)]; exact s4
      · rw [f8, if_pos ⟨rfl, rfl⟩]
      · rw [f52, if_pos rfl]
      · rw [hgv] at hi
        unfold Vp
        rw [f36, f55]
        by_cases e2 : i = g + 1
        · rw [if_pos ⟨rfl, e2⟩, if_pos (by omega)]
          exact ⟨q, hq8, rfl, rfl⟩
        · rw [if_neg (fun z => e2 z.2), if_neg (by omega)]
          exact hpp i (by omega)
      · rw [hgv] at hi
        have k1 : t 8 u 1 = s 8 u 1 := by rw [f8, if_neg (by omega)]
        have k2 : t 8 u 2 = s 8 u 2 := by rw [f8, if_neg (by omega)]
        unfold Vl
        rw [k1, k2, A 39 (by decide), A 16 (by decide)]
        by_cases e2 : i = g
        · subst e2
          have k37 : t 37 u i = nI p := by rw [f37, if_pos ⟨rfl, rfl⟩]
          have k53 : t 53 0 (6 * u + i) = nI p := by rw [f53, if_pos rfl]
          have k54 : t 54 0 (6 * u + i) = 0 := by rw [f54, if_pos rfl]
          have k38 : t 38 u i = th := by rw [f38, if_pos ⟨rfl, rfl⟩]
          have k42 : t 42 u (i + 1) = s 43 u i + th := by rw [f42, if_pos ⟨rfl, rfl⟩]
          have k43 : t 43 u i = s 43 u i := by rw [f43, if_neg (by omega)]
          have k44 : t 43 u (i + 1) = s 43 u i + th + s 8 u 2 := by rw [f43, if_pos ⟨rfl, rfl⟩]
          rw [k37, k53, k54, k38, k42, k43, k44]
          exact ⟨p, 0, hp, by omega, ⟨rfl, rfl⟩, ⟨b39, rfl⟩, by rw [← hth, x16, q2], rfl, rfl⟩
        · have k37 : t 37 u i = s 37 u i := by rw [f37, if_neg (fun z => e2 z.2)]
          have k53 : t 53 0 (6 * u + i) = s 53 0 (6 * u + i) := by rw [f53, if_neg (by omega)]
          have k54 : t 54 0 (6 * u + i) = s 54 0 (6 * u + i) := by rw [f54, if_neg (by omega)]
          have k38 : t 38 u i = s 38 u i := by rw [f38, if_neg (fun z => e2 z.2)]
          have k42 : t 42 u (i + 1) = s 42 u (i + 1) := by rw [f42, if_neg (fun z => e2 (by omega))]
          have k43 : t 43 u i = s 43 u i := by rw [f43, if_neg (by omega)]
          have k44 : t 43 u (i + 1) = s 43 u (i + 1) := by rw [f43, if_neg (fun z => e2 (by omega))]
          rw [k37, k53, k54, k38, k42, k43, k44]
          exact hll i (by omega)
    · obtain ⟨x1, x2, x3⟩ := B3.2.2.2 u hu
      refine ⟨?_, fun i hi => ?_, fun i hi => ?_⟩
      · unfold Vv
        rw [f8, f8, f8, f8, f8, if_neg (fun z => e z.1), if_neg (fun z => e z.1), if_neg (fun z => e z.1), if_neg (fun z => e z.1), if_neg (fun z => e z.1), A 48 (by decide), A 49 (by decide), A 50 (by decide), A 51 (by decide), f43, if_neg (fun z => e z.1), f52, if_neg e]
        exact x1
      · rw [hgo u e] at hi
        unfold Vp
        rw [f36, if_neg (fun z => e z.1), f55, if_neg (by omega)]
        exact x2 i hi
      · rw [hgo u e] at hi
        unfold Vl
        rw [f37, if_neg (fun z => e z.1), f53, if_neg (by omega), A 39 (by decide), f54, if_neg (by omega), f38, if_neg (fun z => e z.1), A 16 (by decide), f8, if_neg (fun z => e z.1), f8, if_neg (fun z => e z.1), f42, if_neg (fun z => e z.1), f43, if_neg (fun z => e z.1), f43, if_neg (fun z => e z.1)]
        exact x3 i hi
  · rw [A 39 (by decide), A 40 (by decide)]
    refine B4 u j hu hj ?_
    rcases h with h | h
    · exact Or.inl h
    · exact Or.inr (Nat.le_trans (hge u) h)
  · obtain ⟨v', i', u', j', y1, y2, y3, y4, y5, y6⟩ := B5.2.2.2.2.1 k hk
    refine ⟨v', i', u', j', y1, Nat.lt_of_lt_of_le y2 (hge v'), y3, y4, Nat.le_trans y5 (hge u'), ?_⟩
    rw [A 56 (by decide), A 57 (by decide), A 58 (by decide), A 59 (by decide), A 40 (by decide), A 41 (by decide)]
    exact y6
  · rw [A 40 (by decide)] at h
    rw [A 56 (by decide), A 57 (by decide)]
    refine B5.2.2.2.2.2 u j hu ?_ h
    by_cases e : u = v
    · subst e
      rw [hgv] at hj
      rcases Nat.lt_or_ge j g with z | z
      · omega
      · have : j = g := by omega
        subst this
        exact absurd b40 h
    · rw [hgo u e] at hj; exact hj
end MUT4
