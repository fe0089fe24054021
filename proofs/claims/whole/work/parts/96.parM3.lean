/-! reading a test, reference: behind a factor -/
def opl (a o : Bool) : List Nat := (if a then [38] else []) ++ (if o then [124] else [])
def eml (a o : Bool) : List It := (if a then [itO 38] else []) ++ (if o then [itO 124] else [])
/-- nothing pending on the pile below -/
def bas (B : List Nat) : Prop := ¬ B.head? = some 38 ∧ ¬ B.head? = some 124 ∧ ¬ B.head? = some 33
theorem cn_op {a o : Bool} {B : List Nat} : cnO (opl a o ++ B) = cnO B := by cases a <;> cases o <;> rfl
theorem hd_ff {B : List Nat} {o : Bool} (h : bas B) : ¬ (opl false o ++ B).head? = some 38 := by
  cases o with
  | true => show ¬ some 124 = some 38; decide
  | false => exact h.1
section PARM3
variable {g : Nat → Nat} {n : Nat} {t0 : Sg}
theorem r_pop1 {t : Sg} {i x : Nat} {S : List Nat} {L : List It} (H : RM n t0 t i (x :: S) L) (hn : n ≤ 200) (hx : x = 38 ∨ x = 124) : ∃ t', f_X10_pops t = some t' ∧ RM n t0 t' i S (L ++ [itO x]) := by
  obtain ⟨t', y1, y2⟩ := r_pops H hn (Or.inr hx)
  refine ⟨t', y1, ?_⟩
  have e : cnO (x :: S) = cnO S := by
    rcases hx with e | e <;> subst e <;> rfl
  rw [e] at y2
  exact y2
theorem top_t {t : Sg} {i d c : Nat} {S : List Nat} {L : List It} (H : RMd n t0 t i (c :: S) d L) (hn : n ≤ 200) (hc : c < 256) : f_X10_isTop (nI c) t = some (1, t) := by
  rw [r_isTop H hn hc, decide_eq_true (show (c :: S).head? = some c from rfl)]; rfl
theorem top_f {t : Sg} {i d c : Nat} {S : List Nat} {L : List It} (H : RMd n t0 t i S d L) (hn : n ≤ 200) (hc : c < 256) (h : ¬ S.head? = some c) : f_X10_isTop (nI c) t = some (0, t) := by
  rw [r_isTop H hn hc, decide_eq_false h]; rfl
/-- the pending & goes, then the next sign is pushed -/
theorem r_125 (T : TXM t0 g n) {w i c : Nat} {a o : Bool} {B : List Nat} {L : List It} {P : Int32 × Sg → Prop} (hB : bas B) (hc : c = 38 ∨ c = 124) (h : cA g n i = c) (hK : ∀ t', RM n t0 t' (i + 1) (c :: ((if c = 38 then opl false o else []) ++ B)) (L ++ (if c = 38 then eml a false else eml a o)) → Ok (f_X10_readsTest_L12 k193 w 1 t') P) : ∀ (t : Sg) (f : Nat), 4 ≤ f → RM n t0 t i (opl a o ++ B) L → Ok (f_X10_readsTest_L125 (f_X10_readsTest_B159 (f_X10_readsTest_L12 k193 w) k193) f 1 t) P := by
  have hn := T.1
  have hi := cA_pos h (by omega)
  -- push
  have psh : ∀ (t : Sg) (S : List Nat) (M : List It), RM n t0 t i S M → S = (if c = 38 then opl false o else []) ++ B → M = L ++ (if c = 38 then eml a false else eml a o) → Ok (f_X10_readsTest_B159 (f_X10_readsTest_L12 k193 w) k193 1 t) P := by
    intro t S M H e1 e2
    unfold f_X10_readsTest_B159
    refine ok_call (r_here T H) ?_
    dsimp only
    rw [h]
    obtain ⟨t', y1, y2⟩ := r_push H hn hi (c := c) (by omega)
    refine ok_call y1 (ok_S (hK _ ?_))
    subst e1; subst e2
    have e : cnO (c :: ((if c = 38 then opl false o else []) ++ B)) = cnO ((if c = 38 then opl false o else []) ++ B) := by
      rcases hc with e | e <;> subst e <;> rfl
    show RMd _ _ _ _ _ (cnO (c :: ((if c = 38 then opl false o else []) ++ B))) _
    rw [e]
    exact y2
  -- no & on top
  have noand : ∀ (t : Sg) (f : Nat) (M : List It), 3 ≤ f → RM n t0 t i (opl false o ++ B) M → M = L ++ eml a false → Ok (f_X10_readsTest_L125 (f_X10_readsTest_B159 (f_X10_readsTest_L12 k193 w) k193) f 1 t) P := by
    intro t f M hf H eM
    obtain ⟨f, rfl⟩ : ∃ m, f = m + 1 := ⟨f - 1, by omega⟩
    show Ok (f_X10_readsTest_B125 _ _ _ _) _
    unfold f_X10_readsTest_B125
    refine ok_call (top_f H hn (c := 38) (by omega) (hd_ff hB)) (ok_pos rfl (ok_call (r_here T H) ?_))
    dsimp only
    rw [h]
    rcases hc with e | e
    · subst e
      exact ok_neg (by decide) (psh t _ M H rfl eM)
    · subst e
      refine ok_pos rfl ?_
      cases o with
      | false =>
        refine ok_call (top_f H hn (c := 124) (by omega) hB.2.1) (ok_pos rfl (psh t _ M H rfl ?_))
        exact eM
      | true =>
        refine ok_call (top_t (c := 124) H hn (by omega)) (ok_neg n10 ?_)
        unfold f_X10_readsTest_B152
        obtain ⟨t', y1, y2⟩ := r_pop1 (x := 124) (S := B) H hn (Or.inr rfl)
        refine ok_call y1 ?_
        obtain ⟨f, rfl⟩ : ∃ m, f = m + 1 := ⟨f - 1, by omega⟩
        show Ok (f_X10_readsTest_B125 _ _ _ _) _
        unfold f_X10_readsTest_B125
        refine ok_call (top_f y2 hn (c := 38) (by omega) hB.1) (ok_pos rfl (ok_call (r_here T y2) ?_))
        dsimp only
        rw [h]
        refine ok_pos rfl (ok_call (top_f y2 hn (c := 124) (by omega) hB.2.1) (ok_pos rfl (psh t' _ _ y2 rfl ?_)))
        rw [eM]
        cases a <;> simp [eml]
  intro t f hf H
  cases a with
  | false => exact noand t f L (by omega) H (by simp [eml])
  | true =>
    obtain ⟨f, rfl⟩ : ∃ m, f = m + 1 := ⟨f - 1, by omega⟩
    show Ok (f_X10_readsTest_B125 _ _ _ _) _
    unfold f_X10_readsTest_B125
    refine ok_call (top_t (c := 38) (S := opl false o ++ B) H hn (by omega)) (ok_neg n10 ?_)
    unfold f_X10_readsTest_B152
    obtain ⟨t', y1, y2⟩ := r_pop1 (x := 38) (S := opl false o ++ B) H hn (Or.inl rfl)
    refine ok_call y1 (noand t' f _ (by omega) y2 ?_)
    simp [eml]
/-- & or | -/
theorem kb_op (T : TXM t0 g n) {w m i c : Nat} {a o : Bool} {B : List Nat} {L : List It} {t : Sg} {P : Int32 × Sg → Prop} (hB : bas B) (hc : c = 38 ∨ c = 124) (h : cA g n i = c) (H : RM n t0 t i (opl a o ++ B) L) (hK : ∀ t', RM n t0 t' (i + 1) (c :: ((if c = 38 then opl false o else []) ++ B)) (L ++ (if c = 38 then eml a false else eml a o)) → Ok (KF w FU t') P) : Ok (KB (w + 1) (m + 1) t) P := by
  have hn := T.1
  show Ok (f_X10_readsTest_B25 _ _ _) _
  unfold f_X10_readsTest_B25
  refine ok_call (r_here T H) ?_
  dsimp only
  rw [h]
  have B117 : Ok (f_X10_readsTest_B117 (f_X10_readsTest_L12 k193 (w + 1)) k193 1 t) P := by
    unfold f_X10_readsTest_B117
    exact ok_neg n10 (r_125 T hB hc h hK t FU (by decide) H)
  have B94 : Ok (f_X10_readsTest_B94 (f_X10_readsTest_L12 k193 (w + 1)) k193 t) P := by
    unfold f_X10_readsTest_B94
    refine ok_call (r_here T H) ?_
    dsimp only
    rw [h]
    rcases hc with e | e
    · subst e
      exact ok_pos rfl B117
    · subst e
      refine ok_neg (by decide) (ok_call (r_here T H) ?_)
      dsimp only
      rw [h]
      exact ok_pos rfl B117
  rcases hc with e | e
  · subst e; exact ok_neg (by decide) B94
  · subst e; exact ok_neg (by decide) B94
/-- the pending signs go, up to the bracket -/
theorem kb_close (T : TXM t0 g n) {w m i : Nat} {a o : Bool} {S : List Nat} {L : List It} {t : Sg} {P : Int32 × Sg → Prop} (h : cA g n i = 41) (H : RM n t0 t i (opl a o ++ 40 :: S) L) (hK : ∀ t', RM n t0 t' (i + 1) (stp S (L ++ eml a o)).1 (stp S (L ++ eml a o)).2 → Ok (KB w m t') P) : Ok (KB w (m + 1) t) P := by
  have hn := T.1
  have hi := cA_pos h (by omega)
  have fin : ∀ (t : Sg) (f : Nat) (M : List It), 1 ≤ f → RM n t0 t i (40 :: S) M → M = L ++ eml a o → Ok (f_X10_readsTest_L41 (f_X10_readsTest_L25 (f_X10_readsTest_B94 (f_X10_readsTest_L12 k193 w) k193) m) f t) P := by
    intro t f M hf H eM
    obtain ⟨f, rfl⟩ : ∃ m, f = m + 1 := ⟨f - 1, by omega⟩
    show Ok (f_X10_readsTest_B41 _ _ _) _
    unfold f_X10_readsTest_B41
    refine ok_call (top_t (c := 40) H hn (by omega)) (ok_neg n10 (ok_S (ok_S (ok_S ?_))))
    obtain ⟨h1, h2, h3, h4, h5, h6, h7, h8, h9, h10, h11⟩ := H
    rw [List.length_cons] at h5 h10
    have e36 : t 10 0 36 - 1 = nI S.length := by rw [h5, nI_pred]
    have H' : RMd n t0 (up3 t 10 0 36 (nI S.length)) i S (cnO (40 :: S)) M := by
      refine ⟨h1.up10 (by decide), ?_, ?_, ?_, up_s, PL_of (fun j _ => by rw [up_k (by decide)]) h6.2, ?_, ?_, CMk_lo (fun j _ => ⟨by rw [up_k (by decide)], by rw [up_k (by decide)], by rw [up_k (by decide)], by rw [up_k (by decide)]⟩) h9, by omega, h11⟩
      · rw [up_j (by decide), up_j (by decide)]; exact h2
      · rw [up_j (by decide)]; exact h3
      · rw [up_j (by decide)]; exact h4
      · rw [up_j (by decide)]; exact h7
      · rw [up_k (by decide)]; exact h8
    dsimp only
    rw [e36]
    have e39 : up3 t 10 0 36 (nI S.length) 10 0 39 - 1 = nI (cnO S) := by
      rw [H'.2.2.2.2.2.2.1]
      show nI (cnO S + 1) - 1 = _
      rw [nI_pred]
    rw [e39]
    have H2 := (H'.deep (cnO S)).adv hi
    unfold f_X10_ends
    refine ok_bind (r_ends hn S M _ FU (by unfold FU; omega) H2) ?_
    intro t' ht
    rw [eM] at ht
    exact hK t' ht
  have l41 : ∀ (t : Sg) (f : Nat), 3 ≤ f → RM n t0 t i (opl a o ++ 40 :: S) L → Ok (f_X10_readsTest_L41 (f_X10_readsTest_L25 (f_X10_readsTest_B94 (f_X10_readsTest_L12 k193 w) k193) m) f t) P := by
    have one : ∀ (t : Sg) (f : Nat) (x : Nat) (S' : List Nat) (M : List It), 1 ≤ f → (x = 38 ∨ x = 124) → RM n t0 t i (x :: S') M → (∀ t', RM n t0 t' i S' (M ++ [itO x]) → Ok (f_X10_readsTest_L41 (f_X10_readsTest_L25 (f_X10_readsTest_B94 (f_X10_readsTest_L12 k193 w) k193) m) (f - 1) t') P) → Ok (f_X10_readsTest_L41 (f_X10_readsTest_L25 (f_X10_readsTest_B94 (f_X10_readsTest_L12 k193 w) k193) m) f t) P := by
      intro t f x S' M hf hx H hK
      obtain ⟨f, rfl⟩ : ∃ m, f = m + 1 := ⟨f - 1, by omega⟩
      show Ok (f_X10_readsTest_B41 _ _ _) _
      unfold f_X10_readsTest_B41
      obtain ⟨t', y1, y2⟩ := r_pop1 H hn hx
      refine ok_call (top_f H hn (c := 40) (by omega) ?_) (ok_pos rfl (ok_call y1 (hK t' y2)))
      rcases hx with e | e <;> subst e <;> (intro z; exact absurd (Option.some.inj z) (by decide))
    intro t f hf H
    cases a with
    | false =>
      cases o with
      | false => exact fin t f L (by omega) H (by simp [eml])
      | true => exact one t f 124 (40 :: S) L (by omega) (Or.inr rfl) H (fun t' ht => fin t' (f - 1) _ (by omega) ht (by simp [eml]))
    | true =>
      cases o with
      | false => exact one t f 38 (40 :: S) L (by omega) (Or.inl rfl) H (fun t' ht => fin t' (f - 1) _ (by omega) ht (by simp [eml]))
      | true => exact one t f 38 (124 :: 40 :: S) L (by omega) (Or.inl rfl) H (fun t' ht => one t' (f - 1) 124 (40 :: S) _ (by omega) (Or.inr rfl) ht (fun t2 ht2 => fin t2 (f - 1 - 1) _ (by omega) ht2 (by simp [eml])))
  show Ok (f_X10_readsTest_B25 _ _ _) _
  unfold f_X10_readsTest_B25
  refine ok_call (r_here T H) ?_
  dsimp only
  rw [h]
  refine ok_pos rfl (ok_call (r_hasOpen H hn) ?_)
  refine ok_neg ?_ (l41 t FU (by decide) H)
  rw [decide_eq_true (show 40 ∈ opl a o ++ 40 :: S from List.mem_append_right _ List.mem_cons_self)]
  exact n10
/-- nothing goes on here -/
theorem kb_94 (T : TXM t0 g n) {w i : Nat} {S : List Nat} {L : List It} {t : Sg} {P : Int32 × Sg → Prop} (H : RM n t0 t i S L) (h38 : ¬ cA g n i = 38) (h124 : ¬ cA g n i = 124) (hK : Ok (f_X10_readsTest_L12 k193 w 0 t) P) : Ok (f_X10_readsTest_B94 (f_X10_readsTest_L12 k193 w) k193 t) P := by
  have hc := cA_lt (i := i) T
  unfold f_X10_readsTest_B94
  refine ok_call (r_here T H) (ok_neg (nIc (b := 38) h38 hc (show 38 < 256 by omega)) (ok_call (r_here T H) (ok_neg (nIc (b := 124) h124 hc (show 124 < 256 by omega)) ?_)))
  unfold f_X10_readsTest_B117
  exact ok_pos rfl hK
theorem kb_bad (T : TXM t0 g n) {w m i : Nat} {S : List Nat} {L : List It} {t : Sg} {P : Int32 × Sg → Prop} (H : RM n t0 t i S L) (h40 : 40 ∈ S) (h38 : ¬ cA g n i = 38) (h124 : ¬ cA g n i = 124) (h41 : ¬ cA g n i = 41) (hP : ∀ t', RFl t0 t' 1 i → P (0, t')) : Ok (KB (w + 1) (m + 1) t) P := by
  have hc := cA_lt (i := i) T
  show Ok (f_X10_readsTest_B25 _ _ _) _
  unfold f_X10_readsTest_B25
  refine ok_call (r_here T H) (ok_neg (nIc (b := 41) h41 hc (show 41 < 256 by omega)) (kb_94 T H h38 h124 ?_))
  show Ok (f_X10_readsTest_B12 _ _ _ _) _
  unfold f_X10_readsTest_B12
  refine ok_pos rfl (ok_call (r_hasOpen H T.1) (ok_neg ?_ (r_wrong H 1 hP)))
  rw [decide_eq_true h40]; exact n10
theorem kb_end (T : TXM t0 g n) {w m i : Nat} {a o : Bool} {L : List It} {t : Sg} {P : Int32 × Sg → Prop} (H : RM n t0 t i (opl a o ++ []) L) (h38 : ¬ cA g n i = 38) (h124 : ¬ cA g n i = 124) (hP : ∀ t', RM n t0 t' i [] (L ++ eml a o) → P (1, t')) : Ok (KB (w + 1) (m + 1) t) P := by
  have hc := cA_lt (i := i) T
  have hn := T.1
  have no40 : ¬ 40 ∈ opl a o ++ [] := by cases a <;> cases o <;> simp [opl]
  have fin : ∀ (t : Sg) (f : Nat) (M : List It), 1 ≤ f → RM n t0 t i [] M → M = L ++ eml a o → Ok (f_X10_readsTest_L193 f t) P := by
    intro t f M hf H eM
    obtain ⟨f, rfl⟩ : ∃ m, f = m + 1 := ⟨f - 1, by omega⟩
    show Ok (f_X10_readsTest_B193 _ _) _
    unfold f_X10_readsTest_B193
    rw [H.2.2.2.2.1]
    refine ok_pos (by decide) (ok_some (hP t ?_))
    rw [← eM]
    exact H
  have one : ∀ (t : Sg) (f : Nat) (x : Nat) (S' : List Nat) (M : List It), 1 ≤ f → (x = 38 ∨ x = 124) → RM n t0 t i (x :: S') M → (∀ t', RM n t0 t' i S' (M ++ [itO x]) → Ok (f_X10_readsTest_L193 (f - 1) t') P) → Ok (f_X10_readsTest_L193 f t) P := by
    intro t f x S' M hf hx H hK
    obtain ⟨f, rfl⟩ : ∃ m, f = m + 1 := ⟨f - 1, by omega⟩
    have hl := H.2.2.2.2.2.2.2.2.2
    rw [List.length_cons] at hl
    show Ok (f_X10_readsTest_B193 _ _) _
    unfold f_X10_readsTest_B193
    rw [H.2.2.2.2.1]
    obtain ⟨t', y1, y2⟩ := r_pop1 H hn hx
    exact ok_neg (by rw [List.length_cons]; exact nI_nle (by omega) (by omega)) (ok_call y1 (hK t' y2))
  have l193 : Ok (f_X10_readsTest_L193 FU t) P := by
    cases a with
    | false =>
      cases o with
      | false => exact fin t FU L (by decide) H (by simp [eml])
      | true => exact one t FU 124 [] L (by decide) (Or.inr rfl) H (fun t' ht => fin t' (FU - 1) _ (by decide) ht (by simp [eml]))
    | true =>
      cases o with
      | false => exact one t FU 38 [] L (by decide) (Or.inl rfl) H (fun t' ht => fin t' (FU - 1) _ (by decide) ht (by simp [eml]))
      | true => exact one t FU 38 [124] L (by decide) (Or.inl rfl) H (fun t' ht => one t' (FU - 1) 124 [] _ (by decide) (Or.inr rfl) ht (fun t2 ht2 => fin t2 (FU - 1 - 1) _ (by decide) ht2 (by simp [eml])))
  have l12 : Ok (f_X10_readsTest_L12 k193 (w + 1) 0 t) P := by
    show Ok (f_X10_readsTest_B12 _ _ _ _) _
    unfold f_X10_readsTest_B12
    refine ok_pos rfl (ok_call (r_hasOpen H hn) (ok_pos ?_ l193))
    rw [decide_eq_false no40]; rfl
  show Ok (f_X10_readsTest_B25 _ _ _) _
  unfold f_X10_readsTest_B25
  refine ok_call (r_here T H) (ok_ite (fun z => ?_) (fun z => kb_94 T H h38 h124 l12))
  refine ok_call (r_hasOpen H hn) (ok_pos ?_ (kb_94 T H h38 h124 l12))
  rw [decide_eq_false no40]; rfl
end PARM3
