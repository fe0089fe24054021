/-! the law's loop: every answer is the reference's -/
theorem lgc_0 (x : Int64) : lg_cmp x x = 0 := by
  unfold lg_cmp
  simp
theorem law_go {L : Nat} {xs : Nat → Int32} (hL : L ≤ 3072) : ∀ (e i f : Nat) (s : Sg), L + 6 ≤ i + e → e < f → i ≤ L + 6 → Rel s → Ok (f_law_L18 L xs f (nI i) s) (fun w => w.1 = 1) := by
  intro e
  induction e using Nat.strongRecOn with
  | ind e ih =>
    intro i f s h1 h2 h3 R
    obtain ⟨f, rfl⟩ : ∃ m, f = m + 1 := ⟨f - 1, by omega⟩
    show Ok (f_law_B18 _ _ _ _ _) _
    unfold f_law_B18
    have eL : (Int32.ofNat L - 6).toInt = (L : Int) - 6 := pk_sub_toInt (a := L) (b := 6) (by omega) (by omega)
    refine ok_ite (fun z => ok_some rfl) (fun z => ?_)
    rw [Int32.lt_iff_toInt_lt, eL, nI_toInt (by omega)] at z
    have hi : i + 6 ≤ L := by omega
    have g0 : gi (nI i) L = true := gi_nI (by omega) (by omega)
    have g1 : gi (nI i + 1) L = true := by rw [show nI i + 1 = nI (i + 1) from nI_add i 1]; exact gi_nI (by omega) (by omega)
    have g2 : gi (nI i + 2) L = true := by rw [show nI i + 2 = nI (i + 2) from nI_add i 2]; exact gi_nI (by omega) (by omega)
    have g3 : gi (nI i + 3) L = true := by rw [show nI i + 3 = nI (i + 3) from nI_add i 3]; exact gi_nI (by omega) (by omega)
    have g4 : gi (nI i + 4) L = true := by rw [show nI i + 4 = nI (i + 4) from nI_add i 4]; exact gi_nI (by omega) (by omega)
    have g5 : gi (nI i + 5) L = true := by rw [show nI i + 5 = nI (i + 5) from nI_add i 5]; exact gi_nI (by omega) (by omega)
    have go : ∀ s', Rel s' → Ok (f_law_L18 L xs f (nI i + 6) s') (fun w => w.1 = 1) := by
      intro s' R'
      rw [show nI i + 6 = nI (i + 6) from nI_add i 6]
      exact ih (e - 6) (by omega) (i + 6) f s' (by omega) (by omega) (by omega) R'
    refine ok_chk g0 ?_
    refine ok_ite (fun _ => ?_) (fun _ => ?_)
    · refine ok_chk g1 (ok_chk g2 (ok_chk g3 (ok_chk g4 (ok_chk g5 (ok_bind (q_feed R _ _ _ _ _) ?_)))))
      intro q hq
      refine ok_chk g1 (ok_chk g2 (ok_chk g3 (ok_chk g4 (ok_chk g5 (ok_bind hq ?_)))))
      rintro q' ⟨e1, R'⟩
      exact ok_pos e1 (go _ R')
    refine ok_ite (fun _ => ?_) (fun _ => ?_)
    · refine ok_chk g1 (ok_chk g2 (ok_chk g3 (ok_bind (q_passage R _ _ _) ?_)))
      intro q hq
      refine ok_chk g1 (ok_chk g2 (ok_chk g3 (ok_bind hq ?_)))
      rintro q' ⟨e1, R'⟩
      exact ok_pos e1 (go _ R')
    refine ok_ite (fun _ => ?_) (fun _ => ?_)
    · refine ok_chk g1 (ok_chk g2 (ok_chk g3 (ok_chk (n64_i _).2 (ok_bind (q_wind R _ _ (n64_i _).1) ?_))))
      intro q hq
      refine ok_chk g1 (ok_chk g2 (ok_chk g3 (ok_chk (n64_i _).2 (ok_bind hq ?_))))
      rintro q' ⟨e1, R'⟩
      exact ok_pos e1 (go _ R')
    refine ok_ite (fun _ => ?_) (fun _ => ?_)
    · refine ok_chk g1 (ok_chk g2 (ok_chk g3 (ok_chk g4 (ok_chk g5 (ok_bind (q_voyage R _ _ _ _ _) ?_)))))
      intro q hq
      refine ok_chk g1 (ok_chk g2 (ok_chk g3 (ok_chk g4 (ok_chk g5 (ok_bind hq ?_)))))
      rintro q' ⟨e1, R'⟩
      exact ok_pos e1 (go _ R')
    refine ok_ite (fun _ => ?_) (fun _ => ?_)
    · refine ok_chk g1 (ok_chk g2 (ok_bind (q_leg R _ _) ?_))
      intro q hq
      refine ok_chk g1 (ok_chk g2 (ok_bind hq ?_))
      rintro q' ⟨e1, R'⟩
      exact ok_pos e1 (go _ R')
    refine ok_ite (fun _ => ?_) (fun _ => ?_)
    · refine ok_chk g1 (ok_chk g2 (ok_chk g3 (ok_bind (q_broken R _ _ _) ?_)))
      intro q hq
      refine ok_chk g1 (ok_chk g2 (ok_chk g3 (ok_bind hq ?_)))
      rintro q' ⟨e1, R'⟩
      exact ok_pos e1 (go _ R')
    refine ok_ite (fun _ => ?_) (fun _ => ?_)
    · refine ok_chk g1 (ok_chk g2 (ok_chk g3 (ok_chk g4 (ok_bind (q_meet R _ _ _ _) ?_))))
      intro q hq
      refine ok_chk g1 (ok_chk g2 (ok_chk g3 (ok_chk g4 (ok_bind hq ?_))))
      rintro q' ⟨e1, R'⟩
      exact ok_pos e1 (go _ R')
    refine ok_ite (fun _ => ?_) (fun _ => ?_)
    · refine ok_chk g1 (ok_chk g2 (ok_bind (q_contract R _ _) ?_))
      intro q hq
      refine ok_chk g1 (ok_chk g2 (ok_bind hq ?_))
      rintro q' ⟨e1, R'⟩
      exact ok_pos e1 (go _ R')
    refine ok_ite (fun _ => ?_) (fun _ => ?_)
    · refine ok_chk g1 (ok_bind (q_fault R _) ?_)
      intro q hq
      refine ok_chk g1 (ok_bind hq ?_)
      rintro q' ⟨e1, R'⟩
      exact ok_pos e1 (go _ R')
    refine ok_ite (fun _ => ?_) (fun _ => ?_)
    · refine ok_chk g1 (ok_chk g2 (ok_chk g3 (ok_bind (q_due R _ _ _) ?_)))
      intro q hq
      refine ok_chk g1 (ok_chk g2 (ok_chk g3 (ok_bind hq ?_)))
      rintro q' ⟨e1, R'⟩
      exact ok_pos e1 (go _ R')
    refine ok_ite (fun _ => ?_) (fun _ => ?_)
    · refine ok_chk g1 (ok_chk g2 (ok_chk g3 (ok_bind (q_truth R _ _ _) ?_)))
      intro q hq
      refine ok_chk g1 (ok_chk g2 (ok_chk g3 (ok_bind hq ?_)))
      rintro q' ⟨e1, R'⟩
      exact ok_pos e1 (go _ R')
    refine ok_ite (fun _ => ?_) (fun _ => ?_)
    · refine ok_chk g1 (ok_chk g2 (ok_chk g3 (ok_bind (q_share R _ _ _) ?_)))
      intro q hq
      refine ok_chk g1 (ok_chk g2 (ok_chk g3 (ok_bind hq ?_)))
      rintro q' ⟨e1, R'⟩
      exact ok_pos e1 (go _ R')
    refine ok_ite (fun _ => ?_) (fun _ => ?_)
    · refine ok_chk g1 (ok_bind (q_owed R _) ?_)
      intro q hq
      refine ok_chk g1 (ok_bind hq ?_)
      rintro q' ⟨e1, R'⟩
      exact ok_pos (by rw [e1]; exact lgc_0 _) (go _ R')
    refine ok_ite (fun _ => ?_) (fun _ => ?_)
    · refine ok_chk g1 (ok_chk g2 (ok_chk g3 (ok_chk g4 (ok_ite (fun z => ?_) (fun z => ?_)))))
      · unfold f_law_B709
        refine ok_bind (q_first R _ _ _ (Or.inl rfl)) ?_
        intro q hq
        refine ok_chk g1 (ok_chk g2 (ok_chk g3 (ok_chk g4 (ok_pos z ?_))))
        unfold f_law_B741
        refine ok_bind hq ?_
        rintro q' ⟨e1, R'⟩
        exact ok_pos e1 (go _ R')
      · unfold f_law_B709
        refine ok_bind (q_first R _ _ _ (Or.inr rfl)) ?_
        intro q hq
        refine ok_chk g1 (ok_chk g2 (ok_chk g3 (ok_chk g4 (ok_neg z ?_))))
        unfold f_law_B741
        refine ok_bind hq ?_
        rintro q' ⟨e1, R'⟩
        exact ok_pos e1 (go _ R')
    refine ok_ite (fun _ => ?_) (fun _ => ?_)
    · refine ok_chk g1 (ok_chk g2 (ok_chk g3 (ok_chk g4 (ok_ite (fun z => ?_) (fun z => ?_)))))
      · unfold f_law_B778
        refine ok_bind (q_last R _ _ _ (Or.inl rfl)) ?_
        intro q hq
        refine ok_chk g1 (ok_chk g2 (ok_chk g3 (ok_chk g4 (ok_pos z ?_))))
        unfold f_law_B810
        refine ok_bind hq ?_
        rintro q' ⟨e1, R'⟩
        exact ok_pos e1 (go _ R')
      · unfold f_law_B778
        refine ok_bind (q_last R _ _ _ (Or.inr rfl)) ?_
        intro q hq
        refine ok_chk g1 (ok_chk g2 (ok_chk g3 (ok_chk g4 (ok_neg z ?_))))
        unfold f_law_B810
        refine ok_bind hq ?_
        rintro q' ⟨e1, R'⟩
        exact ok_pos e1 (go _ R')
    refine ok_ite (fun _ => ?_) (fun _ => ?_)
    · refine ok_chk g1 (ok_chk g2 (ok_bind (q_ride R _ _) ?_))
      intro q hq
      refine ok_chk g1 (ok_chk g2 (ok_bind hq ?_))
      rintro q' ⟨e1, R'⟩
      exact ok_pos e1 (go _ R')
    refine ok_ite (fun _ => ?_) (fun _ => ?_)
    · refine ok_chk g1 (ok_chk g2 (ok_bind (q_look R _ _) ?_))
      intro q hq
      refine ok_chk g1 (ok_chk g2 (ok_bind hq ?_))
      rintro q' ⟨e1, R'⟩
      exact ok_pos e1 (go _ R')
    refine ok_ite (fun _ => ?_) (fun _ => ?_)
    · refine ok_chk g1 (ok_bind (q_count R _) ?_)
      intro q hq
      refine ok_chk g1 (ok_bind hq ?_)
      rintro q' ⟨e1, R'⟩
      exact ok_pos e1 (go _ R')
    exact go s R
theorem law_all {L : Nat} {xs : Nat → Int32} (hL : L ≤ 3072) {s : Sg} (R : Rel s) : ∃ s', f_law L xs s = some (1, s') := by
  obtain ⟨⟨w, s'⟩, h1, h2⟩ := law_go (xs := xs) hL (L + 6) 0 FU s (by omega) (by unfold FU; omega) (by omega) R
  refine ⟨s', ?_⟩
  unfold f_law
  have h3 : w = 1 := h2
  rw [← h3]
  exact h1
