/-! the reference's tests: holds(), waits(), isExcused() -/
theorem nar01 (b : Bool) : vp_nar .boolean (bI b) = bI b := by cases b <;> rfl
theorem b01_bI (b : Bool) : b01 (bI b) = true := by cases b <;> rfl
theorem bI0 (b : Bool) : bI b = 0 ↔ b = false := by cases b <;> decide
def HS (s : Sg) : List Bool → Prop
  | [] => True
  | b :: st => s 74 0 st.length = bI b ∧ HS s st
theorem HS_up {s : Sg} {j : Nat} {x : Int32} : ∀ {st : List Bool}, st.length ≤ j → HS s st → HS (up3 s 74 0 j x) st := by
  intro st
  induction st with
  | nil => intro _ _; trivial
  | cons b r ih =>
    intro h hs
    rw [List.length_cons] at h
    refine ⟨?_, ih (by omega) hs.2⟩
    rw [up_j (by omega)]
    exact hs.1
theorem HS_push {s : Sg} {st : List Bool} {b : Bool} (h : HS s st) : HS (up3 s 74 0 st.length (bI b)) (b :: st) := ⟨up_s, HS_up (Nat.le_refl _) h⟩
def XV (s : Sg) (x : Nat → Int32) : Prop := ∀ k, k < 5 → s 73 0 k = x k
section HL
variable {x : Nat → Int32} {l b : Nat} {P : Int32 × Sg → Prop}
theorem kd0 {it : It} (h1 : ¬ it.1 = 33) (h2 : ¬ it.1 = 38) (h3 : ¬ it.1 = 124) : kdI it = 0 := by
  unfold kdI
  rw [if_neg h1, if_neg h2, if_neg h3]
/-- one step of holds() -/
theorem e_hstep (K : Int32 → Int32 → Int32 → Int32 → Sg → Option (Int32 × Sg)) {s : Sg} {it : It} {r : List It} {st : List Bool} {k q : Nat} (hl : l < 5) (hb : b ≤ 200) (hk : k < 200 * l + b) (hc : CMk s k (it :: r)) (hx : XV s x) (hs : HS s st) (hd : dp1 it st.length = some q) (hq : st.length < 100)
    (hK : ∀ s', HS s' (ev1 x it st) → Ag [74] s' s → Ok (K (nI l) (nI b) (nI q) (nI (k + 1)) s') P) : Ok (f_X10_holds_B12 K (nI l) (nI b) (nI st.length) (nI k) s) P := by
  obtain ⟨⟨c1, c2⟩, -⟩ := hc
  unfold f_X10_holds_B12
  refine ok_neg (by rw [L_200, pk_mul, nI_add]; exact nI_ge (by omega) (by omega)) ?_
  refine ok_gi k rfl (by omega) ?_
  rw [nI_clamp (by omega), c1]
  unfold dp1 at hd
  unfold ev1 at hK
  have hlen : ∀ (s' : Sg) (v : Int32), Ag [74] (up3 s' 74 0 0 v) s' := fun s' v => Ag.rfl.up (by decide)
  by_cases h1 : it.1 = 33
  · rw [if_pos h1] at hd
    rw [show kdI it = 1 by unfold kdI; rw [if_pos h1]]
    refine ok_neg (by decide) (ok_pos rfl ?_)
    match st, hs, hd, hK, hq with
    | [], _, hd, _, _ => simp at hd
    | a :: st, hs, hd, hK, hq =>
      simp only [List.length_cons] at hd hq hK ⊢
      rw [if_pos (by omega)] at hd
      cases hd
      rw [if_pos h1] at hK
      rw [L_1, pk_sub (by omega), show st.length + 1 - 1 = st.length by omega]
      refine ok_gi _ rfl (by omega) ?_
      rw [nI_clamp (by omega), hs.1]
      refine ok_ite (fun g => ?_) (fun g => ?_)
      · rw [(bI0 a).mp g] at hK
        refine ok_gi _ rfl (by omega) (ok_S ?_)
        rw [nI_add]
        exact hK _ (HS_push (b := true) hs.2) (Ag.rfl.up (by decide))
      · rw [show a = true by cases a; exact absurd rfl g; rfl] at hK
        refine ok_gi _ rfl (by omega) (ok_S ?_)
        rw [nI_add]
        exact hK _ (HS_push (b := false) hs.2) (Ag.rfl.up (by decide))
  · rw [if_neg h1] at hd hK
    by_cases h2 : it.1 = 38
    · rw [if_pos (Or.inl h2)] at hd
      rw [show kdI it = 2 by unfold kdI; rw [if_neg h1, if_pos h2]]
      refine ok_neg (by decide) (ok_neg (by decide) (ok_pos rfl (ok_I ?_)))
      match st, hs, hd, hK, hq with
      | [], _, hd, _, _ => simp at hd
      | [_], _, hd, _, _ => simp at hd
      | a2 :: a1 :: st, hs, hd, hK, hq =>
        simp only [List.length_cons] at hd hq hK ⊢
        rw [if_pos (by omega)] at hd
        cases hd
        rw [if_pos h2] at hK
        obtain ⟨g1, g2, g3⟩ := hs
        simp only [List.length_cons] at g1
        have hK : ∀ s', HS s' ((a1 && a2) :: st) → Ag [74] s' s → Ok (K (nI l) (nI b) (nI (st.length + 1)) (nI (k + 1)) s') P := hK
        rw [L_1, pk_sub (by omega), show st.length + 1 + 1 - 1 = st.length + 1 by omega, pk_sub (by omega), show st.length + 1 - 1 = st.length by omega]
        refine ok_gi _ rfl (by omega) ?_
        rw [nI_clamp (show st.length < 2 ^ 31 by omega), g2]
        refine ok_ite (fun g => ?_) (fun g => ?_)
        · have := (bI0 a1).mp g
          subst this
          unfold f_X10_holds_B236
          refine ok_gi _ rfl (by omega) (ok_S ?_)
          rw [nI_clamp (show st.length < 2 ^ 31 by omega), nI_1]
          exact hK _ (HS_push (b := false) g3) (Ag.rfl.up (by decide))
        · have : a1 = true := by cases a1; exact absurd rfl g; rfl
          subst this
          refine ok_gi _ rfl (by omega) ?_
          rw [nI_clamp (show st.length + 1 < 2 ^ 31 by omega), g1]
          refine ok_ite (fun g => ?_) (fun g => ?_)
          · have := (bI0 a2).mp g
            subst this
            unfold f_X10_holds_B236
            refine ok_gi _ rfl (by omega) (ok_S ?_)
            rw [nI_clamp (show st.length < 2 ^ 31 by omega), nI_1]
            exact hK _ (HS_push (b := false) g3) (Ag.rfl.up (by decide))
          · have : a2 = true := by cases a2; exact absurd rfl g; rfl
            subst this
            refine ok_gi _ rfl (by omega) (ok_S ?_)
            rw [nI_add]
            exact hK _ (HS_push (b := true) g3) (Ag.rfl.up (by decide))
    · by_cases h3 : it.1 = 124
      · rw [if_pos (Or.inr h3)] at hd
        rw [show kdI it = 3 by unfold kdI; rw [if_neg h1, if_neg h2, if_pos h3]]
        refine ok_neg (by decide) (ok_neg (by decide) (ok_neg (by decide) (ok_I ?_)))
        match st, hs, hd, hK, hq with
        | [], _, hd, _, _ => simp at hd
        | [_], _, hd, _, _ => simp at hd
        | a2 :: a1 :: st, hs, hd, hK, hq =>
          simp only [List.length_cons] at hd hq hK ⊢
          rw [if_pos (by omega)] at hd
          cases hd
          rw [if_neg h2, if_pos h3] at hK
          obtain ⟨g1, g2, g3⟩ := hs
          simp only [List.length_cons] at g1
          have hK : ∀ s', HS s' ((a1 || a2) :: st) → Ag [74] s' s → Ok (K (nI l) (nI b) (nI (st.length + 1)) (nI (k + 1)) s') P := hK
          rw [L_1, pk_sub (by omega), show st.length + 1 + 1 - 1 = st.length + 1 by omega, pk_sub (by omega), show st.length + 1 - 1 = st.length by omega]
          refine ok_gi _ rfl (by omega) ?_
          rw [nI_clamp (show st.length < 2 ^ 31 by omega), g2]
          refine ok_ite (fun g => ?_) (fun g => ?_)
          · have := (bI0 a1).mp g
            subst this
            refine ok_gi _ rfl (by omega) ?_
            rw [nI_clamp (show st.length + 1 < 2 ^ 31 by omega), g1]
            refine ok_ite (fun g => ?_) (fun g => ?_)
            · have := (bI0 a2).mp g
              subst this
              refine ok_gi _ rfl (by omega) (ok_S ?_)
              rw [nI_add]
              exact hK _ (HS_push (b := false) g3) (Ag.rfl.up (by decide))
            · have : a2 = true := by cases a2; exact absurd rfl g; rfl
              subst this
              unfold f_X10_holds_B277
              refine ok_gi _ rfl (by omega) (ok_S ?_)
              rw [nI_clamp (show st.length < 2 ^ 31 by omega), nI_1]
              exact hK _ (HS_push (b := true) g3) (Ag.rfl.up (by decide))
          · have : a1 = true := by cases a1; exact absurd rfl g; rfl
            subst this
            unfold f_X10_holds_B277
            refine ok_gi _ rfl (by omega) (ok_S ?_)
            rw [nI_clamp (show st.length < 2 ^ 31 by omega), nI_1]
            exact hK _ (HS_push (b := true) g3) (Ag.rfl.up (by decide))
      · rw [if_neg (by rintro (q | q) <;> contradiction)] at hd
        rw [if_neg h2, if_neg h3] at hK
        rw [kd0 h1 h2 h3] at c2 ⊢
        obtain ⟨d1, d2, d3⟩ := c2 rfl
        by_cases hcond : (it.1 = 60 ∨ it.1 = 61 ∨ it.1 = 62) ∧ it.2.1.toNatClampNeg < 5 ∧ ¬ it.2.1 < 0 ∧ st.length < 31 ∧ -10000 < it.2.2.toInt ∧ it.2.2.toInt < 10000
        rotate_left
        · rw [if_neg hcond] at hd; cases hd
        rw [if_pos hcond] at hd
        cases hd
        obtain ⟨e1, e2, e3, e4⟩ := hcond
        obtain ⟨f, f1, f2⟩ : ∃ f, f < 5 ∧ it.2.1 = nI f := by
          obtain ⟨j, j1, j2⟩ := nI_of e3
          refine ⟨j, ?_, j2⟩
          rw [j2, nI_clamp j1] at e2
          exact e2
        have push : ∀ bb : Bool, cmpI it x = bb → Ok (f_X10_holds_B157 K (nI l) (nI b) (nI st.length) (nI k) (nI st.length) (bI bb) s) P := by
          intro bb hbb
          unfold f_X10_holds_B157
          refine ok_gi _ rfl (by omega) (ok_S (ok_I ?_))
          rw [nI_clamp (show st.length < 2 ^ 31 by omega), nI_1, nI_1, nar01]
          rw [hbb] at hK
          exact hK _ (HS_push hs) (Ag.rfl.up (by decide))
        unfold cmpI at push
        rw [f2, nI_clamp (by omega)] at push
        refine ok_pos rfl (ok_gi _ rfl (by omega) ?_)
        rw [d1, d2, d3, f2]
        refine ok_gi f rfl (by omega) (ok_I ?_)
        rw [nI_clamp (show f < 2 ^ 31 by omega), hx f f1]
        refine ok_gi _ rfl (by omega) ?_
        refine ok_ite (fun g => ?_) (fun g => ?_)
        · rw [if_pos g] at push
          refine ok_gi _ rfl (by omega) (ok_ite (fun g => ?_) (fun g => ?_))
          · exact push false (decide_eq_false (Int32.not_lt.mpr g))
          · exact push true (decide_eq_true (Int32.not_le.mp g))
        · rw [if_neg g] at push
          refine ok_gi _ rfl (by omega) (ok_ite (fun g => ?_) (fun g => ?_))
          · rw [if_pos g] at push
            refine ok_gi _ rfl (by omega) (ok_ite (fun g => ?_) (fun g => ?_))
            · exact push false (decide_eq_false (Int32.not_lt.mpr g))
            · exact push true (decide_eq_true (Int32.not_le.mp g))
          · rw [if_neg g] at push
            refine ok_gi _ rfl (by omega) (ok_ite (fun g => ?_) (fun g => ?_))
            · exact push true (decide_eq_true g)
            · exact push false (decide_eq_false g)
theorem dp1_le {it : It} {k q : Nat} (h : dp1 it k = some q) (hk : k ≤ 31) : q ≤ 31 := by
  unfold dp1 at h
  split at h
  · split at h
    · cases h; exact hk
    · cases h
  · split at h
    · split at h
      · cases h; omega
      · cases h
    · split at h
      · rename_i g
        cases h
        omega
      · cases h
theorem e_holdsL (hl : l < 5) (hb : b ≤ 200) : ∀ (r : List It) (st : List Bool) (k n : Nat) (s : Sg), dps r st.length = some 1 → st.length ≤ 31 → CMk s k r → XV s x → HS s st → k + r.length = 200 * l + b → r.length < n → Ok (f_X10_holds_L12 n (nI l) (nI b) (nI st.length) (nI k) s) (fun q => q.1 = bI ((evs x r st).headD false) ∧ Ag [74] q.2 s) := by
  intro r
  induction r with
  | nil =>
    intro st k n s h1 h2 h3 h4 h5 h6 h7
    obtain ⟨n, rfl⟩ : ∃ m, n = m + 1 := ⟨n - 1, by omega⟩
    have h1 : st.length = 1 := Option.some.inj h1
    obtain ⟨a, rfl⟩ : ∃ a, st = [a] := List.length_eq_one_iff.mp h1
    show Ok (f_X10_holds_B12 _ _ _ _ _ _) _
    unfold f_X10_holds_B12
    simp only [List.length_nil] at h6
    refine ok_pos (by rw [L_200, pk_mul, nI_add]; exact nI_le (by omega) (by omega)) ?_
    refine ok_gi 0 rfl (by omega) ?_
    have e : s 74 0 (0 : Int32).toNatClampNeg = bI a := h5.1
    rw [e]
    exact ok_chk (b01_bI a) (ok_some ⟨rfl, Ag.rfl⟩)
  | cons it r ih =>
    intro st k n s h1 h2 h3 h4 h5 h6 h7
    obtain ⟨n, rfl⟩ : ∃ m, n = m + 1 := ⟨n - 1, by omega⟩
    obtain ⟨q, g1, g2⟩ := Option.bind_eq_some_iff.mp (show (dp1 it st.length).bind (dps r) = some 1 from h1)
    simp only [List.length_cons] at h6 h7
    show Ok (f_X10_holds_B12 _ _ _ _ _ _) _
    refine e_hstep (x := x) (f_X10_holds_L12 n) hl hb (by omega) h3 h4 h5 g1 (by omega) (fun s' hs' hag => ?_)
    have hlen : (ev1 x it st).length = q := dp1_len g1
    have := ih (ev1 x it st) (k + 1) n s' (by rw [hlen]; exact g2) (by rw [hlen]; exact dp1_le g1 h2) (CMk_congr ⟨hag 68 (by decide), hag 69 (by decide), hag 70 (by decide), hag 71 (by decide)⟩ h3.2) (fun k hk => by rw [hag 73 (by decide)]; exact h4 k hk) hs' (by omega) (by omega)
    rw [hlen] at this
    exact this.mono fun w hw => ⟨hw.1, hw.2.trans hag _ (fun k hk => ⟨hk, hk⟩)⟩
theorem e_holds {s : Sg} {r : List It} {a : Nat} (hl : l < 5) (h1 : dps r 0 = some 1) (h3 : CMk s (200 * l + a) r) (h4 : XV s x) (hb : a + r.length ≤ 200) : Ok (f_X10_holds (nI l) (nI a) (nI (a + r.length)) s) (fun q => q.1 = bI (hol x r) ∧ Ag [74] q.2 s) := by
  unfold f_X10_holds
  refine ok_I ?_
  rw [L_200, pk_mul, nI_add]
  exact e_holdsL hl hb r [] (200 * l + a) FU s h1 (by simp) h3 h4 trivial (by omega) (by unfold FU; omega)
end HL
