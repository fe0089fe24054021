/-! class and reference read a test alike -/
theorem stp_id {S : List Nat} {L : List It} (h : ¬ S.head? = some 33) : stp S L = (S, L) := by
  cases S with
  | nil => rfl
  | cons x r => exact if_neg (fun e => h (by rw [e]; rfl))
theorem ne1 {w : Int32} (h : w = 1) : ¬ w = 0 := by rw [h]; exact n10
section SIM
variable {g : Nat → Nat} {n o : Nat} {s0 t0 : Sg}
def GoF (n : Nat) (t0 : Sg) (op i j : Nat) (M : List It) : Prop := ∀ (S : List Nat) (L : List It) (t : Sg) (w f : Nat) (P : Int32 × Sg → Prop), cnO S = op → RM n t0 t i S L → 300 ≤ w + i → 300 ≤ f + i → (∀ t' w' m, 300 ≤ w' + j → 300 ≤ m + j → RM n t0 t' j (stp S (L ++ M)).1 (stp S (L ++ M)).2 → Ok (KB w' m t') P) → Ok (KF w f t) P
def FaF (n : Nat) (t0 : Sg) (op i k p : Nat) : Prop := ∀ (S : List Nat) (L : List It) (t : Sg) (w f : Nat) (P : Int32 × Sg → Prop), cnO S = op → RM n t0 t i S L → 300 ≤ w + i → 300 ≤ f + i → (∀ t', RFl t0 t' k p → P (0, t')) → Ok (KF w f t) P
def GoT (n : Nat) (t0 : Sg) (op i j : Nat) (M : List It) : Prop := ∀ (B : List Nat) (b : Bool) (L : List It) (t : Sg) (w f : Nat) (P : Int32 × Sg → Prop), bas B → cnO B = op → RM n t0 t i (opl false b ++ B) L → 300 ≤ w + i → 300 ≤ f + i → (∀ t' a M1 w' m, 300 ≤ w' + j → 300 ≤ m + j → M = M1 ++ eml a false → RM n t0 t' j (opl a b ++ B) (L ++ M1) → Ok (KB w' m t') P) → Ok (KF w f t) P
def FaT (n : Nat) (t0 : Sg) (op i k p : Nat) : Prop := ∀ (B : List Nat) (b : Bool) (L : List It) (t : Sg) (w f : Nat) (P : Int32 × Sg → Prop), bas B → cnO B = op → RM n t0 t i (opl false b ++ B) L → 300 ≤ w + i → 300 ≤ f + i → (∀ t', RFl t0 t' k p → P (0, t')) → Ok (KF w f t) P
def GoS (n : Nat) (t0 : Sg) (op i j : Nat) (M : List It) : Prop := ∀ (B : List Nat) (L : List It) (t : Sg) (w f : Nat) (P : Int32 × Sg → Prop), bas B → cnO B = op → RM n t0 t i B L → 300 ≤ w + i → 300 ≤ f + i → (∀ t' a b M1 w' m, 300 ≤ w' + j → 300 ≤ m + j → M = M1 ++ eml a b → RM n t0 t' j (opl a b ++ B) (L ++ M1) → Ok (KB w' m t') P) → Ok (KF w f t) P
def FaS (n : Nat) (t0 : Sg) (op i k p : Nat) : Prop := ∀ (B : List Nat) (L : List It) (t : Sg) (w f : Nat) (P : Int32 × Sg → Prop), bas B → cnO B = op → RM n t0 t i B L → 300 ≤ w + i → 300 ≤ f + i → (∀ t', RFl t0 t' k p → P (0, t')) → Ok (KF w f t) P
theorem hd33 {B : List Nat} {b : Bool} (h : bas B) : ¬ (opl false b ++ B).head? = some 33 := by
  cases b with
  | true => show ¬ some 124 = some 33; decide
  | false => exact h.2.2
theorem FaF.t {op i k p : Nat} (h : FaF n t0 op i k p) : FaT n t0 op i k p := fun B b L t w f P hB hc H h1 h2 hP => h _ L t w f P (by rw [cn_op]; exact hc) H h1 h2 hP
theorem FaT.s {op i k p : Nat} (h : FaT n t0 op i k p) : FaS n t0 op i k p := fun B L t w f P hB hc H h1 h2 hP => h B false L t w f P hB hc H h1 h2 hP
theorem GoF.t {op i j : Nat} {M : List It} (h : GoF n t0 op i j M) : GoT n t0 op i j M := fun B b L t w f P hB hc H h1 h2 hK => h _ L t w f P (by rw [cn_op]; exact hc) H h1 h2 (fun t' w' m k1 k2 ht => by
  rw [stp_id (hd33 hB)] at ht
  exact hK t' false M w' m k1 k2 (by simp [eml]) ht)
theorem GoT.s {op i j : Nat} {M : List It} (h : GoT n t0 op i j M) : GoS n t0 op i j M := fun B L t w f P hB hc H h1 h2 hK => h B false L t w f P hB hc H h1 h2 (fun t' a M1 w' m k1 k2 e ht => hK t' a false M1 w' m k1 k2 e ht)
/-- what a method of the class gives, held against the reference -/
def PoC (g : Nat → Nat) (n o : Nat) (s0 : Sg) (i : Nat) (L : List It) (dd : Nat) (Go : Nat → List It → Prop) (Fa : Nat → Nat → Prop) (q : Int32 × Sg) : Prop := (q.1 = 0 ∧ ∃ k p, XFl o s0 q.2 k p ∧ Fa k p) ∨ (q.1 = 1 ∧ ∃ j M, XM n o s0 q.2 j (L ++ M) ∧ i < j ∧ M.length + i ≤ j ∧ (∀ k, k ≤ dd → dps M k = some (k + 1)) ∧ ((dig g n j ∧ Fa 1 j) ∨ Go j M))
theorem dig_no {j c : Nat} (h : dig g n j) (hc : c < 48 ∨ 57 < c) : ¬ cA g n j = c := by
  unfold dig at h
  omega
theorem dp_and {k : Nat} : dp1 (itO 38) (k + 2) = some (k + 1) := by
  unfold dp1 itO
  rw [if_neg (by decide), if_pos (Or.inl (show (nI 38 : Int32) = 38 from rfl)), if_pos (by omega)]
  congr 1
theorem dp_or {k : Nat} : dp1 (itO 124) (k + 2) = some (k + 1) := by
  unfold dp1 itO
  rw [if_neg (by decide), if_pos (Or.inr (show (nI 124 : Int32) = 124 from rfl)), if_pos (by omega)]
  congr 1
theorem dp_not {k : Nat} : dp1 (itO 33) (k + 1) = some (k + 1) := by
  unfold dp1 itO
  rw [if_pos (show (nI 33 : Int32) = 33 from rfl), if_pos (by omega)]
theorem dps_2 {A B : List It} {it : It} {k : Nat} (h1 : dps A k = some (k + 1)) (h2 : dps B (k + 1) = some (k + 2)) (h3 : dp1 it (k + 2) = some (k + 1)) : dps (A ++ B ++ [it]) k = some (k + 1) := by
  rw [dps_app, dps_app, h1]
  show (dps B (k + 1)).bind (dps [it]) = _
  rw [h2]
  show (dp1 it (k + 2)).bind (dps []) = _
  rw [h3]
  rfl
/-- a term: the loop -/
theorem s_termL (TX : TXX s0 g n) (T : TXM t0 g n) (ho : o < 5) {F : Int32 → Sg → Option (Int32 × Sg)} {op i : Nat} {L : List It} (hop : op ≤ 8) (hF : ∀ (i : Nat) (L : List It) (s : Sg), XM n o s0 s i L → Ok (F (nI op) s) (PoC g n o s0 i L (2 * op + 2) (GoF n t0 op i) (FaF n t0 op i))) : ∀ (e j q f : Nat) (M : List It) (s : Sg), j + e = n → e < f → q ≤ j → XM n o s0 s j (L ++ M) → i < j → M.length + i ≤ j → (∀ k, k ≤ 2 * op + 1 → dps M k = some (k + 1)) → ((dig g n j ∧ FaT n t0 op i 1 j) ∨ GoT n t0 op i j M) → Ok (f_X5_readTerm_L12 F f (nI op) (nI q) s) (PoC g n o s0 i L (2 * op + 1) (fun j M => GoT n t0 op i j M ∧ ¬ cA g n j = 38) (FaT n t0 op i)) := by
  have hn := T.1
  intro e
  induction e using Nat.strongRecOn with
  | ind e ih =>
    intro j q f M s h1 h2 h3 H h4 h5 h6 h7
    obtain ⟨f, rfl⟩ : ∃ m, f = m + 1 := ⟨f - 1, by omega⟩
    have out : ¬ cA g n j = 38 → PoC g n o s0 i L (2 * op + 1) (fun j M => GoT n t0 op i j M ∧ ¬ cA g n j = 38) (FaT n t0 op i) (1, s) := by
      intro hno
      refine Or.inr ⟨rfl, j, M, H, h4, h5, h6, ?_⟩
      rcases h7 with h7 | h7
      · exact Or.inl h7
      · exact Or.inr ⟨h7, hno⟩
    show Ok (f_X5_readTerm_B12 _ _ _ _ _) _
    unfold f_X5_readTerm_B12
    refine ok_ite (fun z => ?_) (fun z => ?_)
    · rw [L_200, nI_leI (by omega) (by omega)] at z
      refine ok_some (out ?_)
      unfold cA
      rw [if_neg (by omega)]
      omega
    · refine ok_call (x_sign TX H) (ok_ite (fun y => ?_) (fun y => ?_))
      · have e38 : cA g n j = 38 := (sg_c TX (by omega) (by omega)).mp y
        have hj := cA_pos e38 (by omega)
        have go7 : GoT n t0 op i j M := by
          rcases h7 with h7 | h7
          · exact absurd e38 (dig_no h7.1 (by omega))
          · exact h7
        refine ok_S (ok_bind (hF (j + 1) (L ++ M) _ (H.adv hj)) ?_)
        rintro ⟨w, s1⟩ hw
        dsimp only at hw ⊢
        -- the reference goes on into the next factor
        have step : ∀ (B : List Nat) (b : Bool) (L' : List It) (t : Sg) (w f : Nat) (P : Int32 × Sg → Prop), bas B → cnO B = op → RM n t0 t i (opl false b ++ B) L' → 300 ≤ w + i → 300 ≤ f + i → (∀ t' w' , 300 ≤ w' + (j + 1) → RM n t0 t' (j + 1) (38 :: (opl false b ++ B)) (L' ++ M) → Ok (KF w' FU t') P) → Ok (KF w f t) P := by
          intro B b L' t w f P hB hc Ht k1 k2 hK
          refine go7 B b L' t w f P hB hc Ht k1 k2 (fun t' a M1 w' m k3 k4 eM ht => ?_)
          obtain ⟨w', rfl⟩ : ∃ x, w' = x + 1 := ⟨w' - 1, by omega⟩
          obtain ⟨m, rfl⟩ : ∃ x, m = x + 1 := ⟨m - 1, by omega⟩
          refine kb_op T hB (Or.inl rfl) e38 ht (fun t2 ht2 => hK t2 w' (by omega) ?_)
          simp only [if_true] at ht2
          rw [List.append_assoc, ← eM] at ht2
          exact ht2
        rcases hw with ⟨w0, k, p, hx, hfa⟩ | ⟨w1, j2, M2, H2, a1, a2, a3, a4⟩
        · refine ok_pos w0 (ok_some (Or.inl ⟨rfl, k, p, hx, fun B b L' t w f P hB hc Ht k1 k2 hP => ?_⟩))
          refine step B b L' t w f P hB hc Ht k1 k2 (fun t' w' k3 ht => ?_)
          exact hfa (38 :: (opl false b ++ B)) _ t' w' FU P (by show cnO (opl false b ++ B) + 0 = op; rw [cn_op]; exact hc) ht k3 (by unfold FU; omega) hP
        · refine ok_neg (ne1 w1) ?_
          obtain ⟨i1, i2⟩ := x_into H2 ho
          have hj2 := H2.2.2.2.2.2.2.2.2.2
          have hl := H.2.2.2.2.2.2.2.2.1
          have hl2 : (L ++ M ++ M2).length + 1 ≤ j2 := by
            rw [List.length_append]
            omega
          obtain ⟨s2, y1, y2⟩ := x_stepX H2 hn hl2 38 0 0
          refine ok_d i1 ?_
          rw [i2]
          refine ok_call y1 ?_
          rw [nI_1]
          refine ih (n - j2) (by omega) j2 (q + 1) f (M ++ M2 ++ [itO 38]) s2 (by omega) (by omega) (by omega) ?_ (by omega) ?_ (fun k hk => dps_2 (h6 k hk) (a3 (k + 1) (by omega)) dp_and) ?_
          · rw [← List.append_assoc, ← List.append_assoc]
            exact y2
          · simp only [List.length_append, List.length_cons, List.length_nil]; omega
          · rcases a4 with ⟨d1, d2⟩ | a4
            · refine Or.inl ⟨d1, fun B b L' t w f P hB hc Ht k1 k2 hP => ?_⟩
              refine step B b L' t w f P hB hc Ht k1 k2 (fun t' w' k3 ht => ?_)
              exact d2 (38 :: (opl false b ++ B)) _ t' w' FU P (by show cnO (opl false b ++ B) + 0 = op; rw [cn_op]; exact hc) ht k3 (by unfold FU; omega) hP
            · refine Or.inr (fun B b L' t w f P hB hc Ht k1 k2 hK => ?_)
              refine step B b L' t w f P hB hc Ht k1 k2 (fun t' w' k3 ht => ?_)
              refine a4 (38 :: (opl false b ++ B)) _ t' w' FU P (by show cnO (opl false b ++ B) + 0 = op; rw [cn_op]; exact hc) ht k3 (by unfold FU; omega) (fun t2 w2 m2 k4 k5 ht2 => ?_)
              rw [stp_id (by intro z; exact absurd (Option.some.inj z) (by decide))] at ht2
              refine hK t2 true (M ++ M2) w2 m2 k4 k5 (by simp [eml]) ?_
              rw [← List.append_assoc]
              exact ht2
      · exact ok_some (out (fun z => y ((sg_c TX (c := 38) (by omega) (by omega)).mpr z)))
theorem s_term (TX : TXX s0 g n) (T : TXM t0 g n) (ho : o < 5) {F : Int32 → Sg → Option (Int32 × Sg)} {op i : Nat} {L : List It} {s : Sg} (hop : op ≤ 8) (hF : ∀ (i : Nat) (L : List It) (s : Sg), XM n o s0 s i L → Ok (F (nI op) s) (PoC g n o s0 i L (2 * op + 2) (GoF n t0 op i) (FaF n t0 op i))) (H : XM n o s0 s i L) : Ok (f_X5_readTerm F (nI op) s) (PoC g n o s0 i L (2 * op + 1) (fun j M => GoT n t0 op i j M ∧ ¬ cA g n j = 38) (FaT n t0 op i)) := by
  unfold f_X5_readTerm
  refine ok_bind (hF i L s H) ?_
  rintro ⟨w, s1⟩ hw
  dsimp only at hw ⊢
  rcases hw with ⟨w0, k, p, hx, hfa⟩ | ⟨w1, j, M, H2, a1, a2, a3, a4⟩
  · exact ok_pos w0 (ok_some (Or.inl ⟨rfl, k, p, hx, hfa.t⟩))
  · have hj := H2.2.2.2.2.2.2.2.2.2
    have hn := T.1
    refine ok_neg (ne1 w1) (s_termL TX T ho hop hF (n - j) j 0 FU M s1 (by omega) (by unfold FU; omega) (by omega) H2 a1 a2 (fun k hk => a3 k (by omega)) ?_)
    rcases a4 with ⟨d1, d2⟩ | a4
    · exact Or.inl ⟨d1, d2.t⟩
    · exact Or.inr a4.t
/-- a test: the loop -/
theorem s_testL (TX : TXX s0 g n) (T : TXM t0 g n) (ho : o < 5) {F : Int32 → Sg → Option (Int32 × Sg)} {op i : Nat} {L : List It} (hop : op ≤ 8) (hF : ∀ (i : Nat) (L : List It) (s : Sg), XM n o s0 s i L → Ok (F (nI op) s) (PoC g n o s0 i L (2 * op + 2) (GoF n t0 op i) (FaF n t0 op i))) : ∀ (e j q f : Nat) (M : List It) (s : Sg), j + e = n → e < f → q ≤ j → XM n o s0 s j (L ++ M) → i < j → M.length + i ≤ j → (∀ k, k ≤ 2 * op → dps M k = some (k + 1)) → ((dig g n j ∧ FaS n t0 op i 1 j) ∨ (GoS n t0 op i j M ∧ ¬ cA g n j = 38)) → Ok (f_X5_readTest_L12 F f (nI op) (nI q) s) (PoC g n o s0 i L (2 * op) (fun j M => GoS n t0 op i j M ∧ ¬ cA g n j = 38 ∧ ¬ cA g n j = 124) (FaS n t0 op i)) := by
  have hn := T.1
  intro e
  induction e using Nat.strongRecOn with
  | ind e ih =>
    intro j q f M s h1 h2 h3 H h4 h5 h6 h7
    obtain ⟨f, rfl⟩ : ∃ m, f = m + 1 := ⟨f - 1, by omega⟩
    have out : ¬ cA g n j = 124 → PoC g n o s0 i L (2 * op) (fun j M => GoS n t0 op i j M ∧ ¬ cA g n j = 38 ∧ ¬ cA g n j = 124) (FaS n t0 op i) (1, s) := by
      intro hno
      refine Or.inr ⟨rfl, j, M, H, h4, h5, h6, ?_⟩
      rcases h7 with h7 | h7
      · exact Or.inl h7
      · exact Or.inr ⟨h7.1, h7.2, hno⟩
    show Ok (f_X5_readTest_B12 _ _ _ _ _) _
    unfold f_X5_readTest_B12
    refine ok_ite (fun z => ?_) (fun z => ?_)
    · rw [L_200, nI_leI (by omega) (by omega)] at z
      refine ok_some (out ?_)
      unfold cA
      rw [if_neg (by omega)]
      omega
    · refine ok_call (x_sign TX H) (ok_ite (fun y => ?_) (fun y => ?_))
      · have e124 : cA g n j = 124 := (sg_c TX (by omega) (by omega)).mp y
        have hj := cA_pos e124 (by omega)
        have go7 : GoS n t0 op i j M := by
          rcases h7 with h7 | h7
          · exact absurd e124 (dig_no h7.1 (by omega))
          · exact h7.1
        refine ok_S (ok_bind (s_term TX T ho hop hF (H.adv hj)) ?_)
        rintro ⟨w, s1⟩ hw
        dsimp only at hw ⊢
        have step : ∀ (B : List Nat) (L' : List It) (t : Sg) (w f : Nat) (P : Int32 × Sg → Prop), bas B → cnO B = op → RM n t0 t i B L' → 300 ≤ w + i → 300 ≤ f + i → (∀ t' w' , 300 ≤ w' + (j + 1) → RM n t0 t' (j + 1) (opl false true ++ B) (L' ++ M) → Ok (KF w' FU t') P) → Ok (KF w f t) P := by
          intro B L' t w f P hB hc Ht k1 k2 hK
          refine go7 B L' t w f P hB hc Ht k1 k2 (fun t' a b M1 w' m k3 k4 eM ht => ?_)
          obtain ⟨w', rfl⟩ : ∃ x, w' = x + 1 := ⟨w' - 1, by omega⟩
          obtain ⟨m, rfl⟩ : ∃ x, m = x + 1 := ⟨m - 1, by omega⟩
          refine kb_op T hB (Or.inr rfl) e124 ht (fun t2 ht2 => hK t2 w' (by omega) ?_)
          have ne : ¬ (124 : Nat) = 38 := by decide
          simp only [if_neg ne] at ht2
          rw [List.append_assoc, ← eM] at ht2
          exact ht2
        rcases hw with ⟨w0, k, p, hx, hfa⟩ | ⟨w1, j2, M2, H2, a1, a2, a3, a4⟩
        · refine ok_pos w0 (ok_some (Or.inl ⟨rfl, k, p, hx, fun B L' t w f P hB hc Ht k1 k2 hP => ?_⟩))
          refine step B L' t w f P hB hc Ht k1 k2 (fun t' w' k3 ht => ?_)
          exact hfa B true _ t' w' FU P hB hc ht k3 (by unfold FU; omega) hP
        · refine ok_neg (ne1 w1) ?_
          obtain ⟨i1, i2⟩ := x_into H2 ho
          have hj2 := H2.2.2.2.2.2.2.2.2.2
          have hl := H.2.2.2.2.2.2.2.2.1
          have hl2 : (L ++ M ++ M2).length + 1 ≤ j2 := by
            rw [List.length_append]
            omega
          obtain ⟨s2, y1, y2⟩ := x_stepX H2 hn hl2 124 0 0
          refine ok_d i1 ?_
          rw [i2]
          refine ok_call y1 ?_
          rw [nI_1]
          refine ih (n - j2) (by omega) j2 (q + 1) f (M ++ M2 ++ [itO 124]) s2 (by omega) (by omega) (by omega) ?_ (by omega) ?_ (fun k hk => dps_2 (h6 k hk) (a3 (k + 1) (by omega)) dp_or) ?_
          · rw [← List.append_assoc, ← List.append_assoc]
            exact y2
          · simp only [List.length_append, List.length_cons, List.length_nil]; omega
          · rcases a4 with ⟨d1, d2⟩ | ⟨a4, a5⟩
            · refine Or.inl ⟨d1, fun B L' t w f P hB hc Ht k1 k2 hP => ?_⟩
              refine step B L' t w f P hB hc Ht k1 k2 (fun t' w' k3 ht => ?_)
              exact d2 B true _ t' w' FU P hB hc ht k3 (by unfold FU; omega) hP
            · refine Or.inr ⟨fun B L' t w f P hB hc Ht k1 k2 hK => ?_, a5⟩
              refine step B L' t w f P hB hc Ht k1 k2 (fun t' w' k3 ht => ?_)
              refine a4 B true _ t' w' FU P hB hc ht k3 (by unfold FU; omega) (fun t2 a M1 w2 m2 k4 k5 eM ht2 => ?_)
              refine hK t2 a true (M ++ M1) w2 m2 k4 k5 ?_ ?_
              · rw [eM]; cases a <;> simp [eml]
              · rw [← List.append_assoc]
                exact ht2
      · exact ok_some (out (fun z => y ((sg_c TX (c := 124) (by omega) (by omega)).mpr z)))
theorem s_test (TX : TXX s0 g n) (T : TXM t0 g n) (ho : o < 5) {F : Int32 → Sg → Option (Int32 × Sg)} {op i : Nat} {L : List It} {s : Sg} (hop : op ≤ 8) (hF : ∀ (i : Nat) (L : List It) (s : Sg), XM n o s0 s i L → Ok (F (nI op) s) (PoC g n o s0 i L (2 * op + 2) (GoF n t0 op i) (FaF n t0 op i))) (H : XM n o s0 s i L) : Ok (f_X5_readTest F (nI op) s) (PoC g n o s0 i L (2 * op) (fun j M => GoS n t0 op i j M ∧ ¬ cA g n j = 38 ∧ ¬ cA g n j = 124) (FaS n t0 op i)) := by
  unfold f_X5_readTest
  refine ok_bind (s_term TX T ho hop hF H) ?_
  rintro ⟨w, s1⟩ hw
  dsimp only at hw ⊢
  rcases hw with ⟨w0, k, p, hx, hfa⟩ | ⟨w1, j, M, H2, a1, a2, a3, a4⟩
  · exact ok_pos w0 (ok_some (Or.inl ⟨rfl, k, p, hx, hfa.s⟩))
  · have hj := H2.2.2.2.2.2.2.2.2.2
    have hn := T.1
    refine ok_neg (ne1 w1) (s_testL TX T ho hop hF (n - j) j 0 FU M s1 (by omega) (by unfold FU; omega) (by omega) H2 a1 a2 (fun k hk => a3 k (by omega)) ?_)
    rcases a4 with ⟨d1, d2⟩ | a4
    · exact Or.inl ⟨d1, d2.s⟩
    · exact Or.inr ⟨a4.1.s, a4.2⟩
/-- a factor -/
theorem s_factor (TX : TXX s0 g n) (T : TXM t0 g n) (ho : o < 5) : ∀ (d op i : Nat) (L : List It) (s : Sg), 9 ≤ d + op → op ≤ 8 → XM n o s0 s i L → Ok (f_rF d (nI op) s) (PoC g n o s0 i L (2 * op + 2) (GoF n t0 op i) (FaF n t0 op i)) := by
  have hn := T.1
  intro d
  induction d with
  | zero => intro op i L s h1 h2; omega
  | succ d ih =>
    intro op i L s h1 h2 H
    show Ok (f_X5_readFactor (f_rF d) (nI op) s) _
    have hc := cA_X (i := i) TX
    have hi := H.2.2.2.2.2.2.2.2.2
    have hL := H.2.2.2.2.2.2.2.2.1
    by_cases hb : cA g n i = 33 ∨ cA g n i = 40
    · have hi2 : i < n := by rcases hb with e | e <;> exact cA_pos e (by omega)
      have B62 : Ok (f_X5_readFactor_B62 (f_rF d) (nI op) (sgI g n i) s) (PoC g n o s0 i L (2 * op + 2) (GoF n t0 op i) (FaF n t0 op i)) := by
        unfold f_X5_readFactor_B62
        by_cases h8 : op = 8
        · refine ok_neg (by rw [L_8, nI_ltI (by omega) (by omega)]; omega) (x_refuse H 3 (fun s' hs => Or.inl ⟨rfl, 3, i, hs, fun S L' t w f P hS Ht k1 k2 hP => ?_⟩))
          obtain ⟨f, rfl⟩ : ∃ x, f = x + 1 := ⟨f - 1, by omega⟩
          exact kf_deep T Ht hb rfl (by omega) hP
        · refine ok_pos (by rw [L_8, nI_ltI (by omega) (by omega)]; omega) (ok_S ?_)
          have H1 := H.adv hi2
          rw [nI_1]
          refine ok_ite (fun z => ?_) (fun z => ?_)
          · have e40 : cA g n i = 40 := (sg_c TX (by omega) (by omega)).mp z
            -- the reference goes into the bracket
            have step : ∀ (S : List Nat) (L' : List It) (t : Sg) (w f : Nat) (P : Int32 × Sg → Prop), cnO S = op → RM n t0 t i S L' → 300 ≤ f + i → (∀ t' f', 300 ≤ f' + (i + 1) → RM n t0 t' (i + 1) (40 :: S) L' → Ok (KF w f' t') P) → Ok (KF w f t) P := by
              intro S L' t w f P hS Ht k2 hK
              obtain ⟨f, rfl⟩ : ∃ x, f = x + 1 := ⟨f - 1, by omega⟩
              exact kf_open T Ht (Or.inr rfl) e40 (by omega) (fun t' ht => hK t' f (by omega) ht)
            have b40 : ∀ S : List Nat, bas (40 :: S) := fun S => ⟨fun z => absurd (Option.some.inj z) (by decide), fun z => absurd (Option.some.inj z) (by decide), fun z => absurd (Option.some.inj z) (by decide)⟩
            refine ok_bind (s_test TX T ho (show op + 1 ≤ 8 by omega) (fun i L s H => ih (op + 1) i L s (by omega) (by omega) H) H1) ?_
            rintro ⟨w, s1⟩ hw
            dsimp only at hw ⊢
            rcases hw with ⟨w0, k, p, hx, hfa⟩ | ⟨w1, j, M, H2, a1, a2, a3, a4⟩
            · refine ok_pos w0 (ok_some (Or.inl ⟨rfl, k, p, hx, fun S L' t w f P hS Ht k1 k2 hP => ?_⟩))
              exact step S L' t w f P hS Ht k2 (fun t' f' k3 ht => hfa (40 :: S) L' t' w f' P (b40 S) (by show cnO S + 1 = op + 1; omega) ht (by omega) k3 hP)
            · refine ok_neg (ne1 w1) ?_
              have fa1 : ¬ cA g n j = 41 → FaF n t0 op i 1 j := by
                intro hne S L' t w f P hS Ht k1 k2 hP
                refine step S L' t w f P hS Ht k2 (fun t' f' k3 ht => ?_)
                rcases a4 with ⟨d1, d2⟩ | ⟨a4, a5, a6⟩
                · exact d2 (40 :: S) L' t' w f' P (b40 S) (by show cnO S + 1 = op + 1; omega) ht (by omega) k3 hP
                · refine a4 (40 :: S) L' t' w f' P (b40 S) (by show cnO S + 1 = op + 1; omega) ht (by omega) k3 (fun t2 a b M1 w2 m2 k4 k5 eM ht2 => ?_)
                  obtain ⟨w2, rfl⟩ : ∃ x, w2 = x + 1 := ⟨w2 - 1, by have := H2.2.2.2.2.2.2.2.2.2; omega⟩
                  obtain ⟨m2, rfl⟩ : ∃ x, m2 = x + 1 := ⟨m2 - 1, by have := H2.2.2.2.2.2.2.2.2.2; omega⟩
                  exact kb_bad T ht2 (List.mem_append_right _ List.mem_cons_self) a5 a6 hne hP
              refine ok_bind (x_take TX H2 (c := 41) (by omega) (by omega) (P := fun q => (q.1 = 0 ∧ ¬ cA g n j = 41 ∧ XFl o s0 q.2 1 j) ∨ (q.1 = 1 ∧ cA g n j = 41 ∧ XM n o s0 q.2 (j + 1) (L ++ M))) (fun e s' hs => Or.inl ⟨rfl, e, hs⟩) (fun e s' hs _ => Or.inr ⟨rfl, e, hs⟩)) ?_
              rintro ⟨w', s2⟩ hw'
              dsimp only at hw' ⊢
              rcases hw' with ⟨y0, y1, y2⟩ | ⟨y0, e41, H3⟩
              · exact ok_pos y0 (ok_some (Or.inl ⟨rfl, 1, j, y2, fa1 y1⟩))
              · refine ok_neg (ne1 y0) (ok_some (Or.inr ⟨rfl, j + 1, M, H3, by omega, by omega, fun k hk => a3 k (by omega), Or.inr (fun S L' t w f P hS Ht k1 k2 hK => ?_)⟩))
                refine step S L' t w f P hS Ht k2 (fun t' f' k3 ht => ?_)
                rcases a4 with ⟨d1, d2⟩ | ⟨a4, a5, a6⟩
                · exact absurd e41 (dig_no d1 (by omega))
                · refine a4 (40 :: S) L' t' w f' P (b40 S) (by show cnO S + 1 = op + 1; omega) ht (by omega) k3 (fun t2 a b M1 w2 m2 k4 k5 eM ht2 => ?_)
                  obtain ⟨m2, rfl⟩ : ∃ x, m2 = x + 1 := ⟨m2 - 1, by have := H2.2.2.2.2.2.2.2.2.2; omega⟩
                  refine kb_close T e41 ht2 (fun t3 ht3 => hK t3 w2 m2 (by omega) (by omega) ?_)
                  rw [List.append_assoc, ← eM] at ht3
                  exact ht3
          · have e33 : cA g n i = 33 := by
              rcases hb with e | e
              · exact e
              · exact absurd ((sg_c TX (by omega) (by omega)).mpr e) z
            have step : ∀ (S : List Nat) (L' : List It) (t : Sg) (w f : Nat) (P : Int32 × Sg → Prop), cnO S = op → RM n t0 t i S L' → 300 ≤ f + i → (∀ t' f', 300 ≤ f' + (i + 1) → RM n t0 t' (i + 1) (33 :: S) L' → Ok (KF w f' t') P) → Ok (KF w f t) P := by
              intro S L' t w f P hS Ht k2 hK
              obtain ⟨f, rfl⟩ : ∃ x, f = x + 1 := ⟨f - 1, by omega⟩
              exact kf_open T Ht (Or.inl rfl) e33 (by omega) (fun t' ht => hK t' f (by omega) ht)
            refine ok_bind (ih (op + 1) (i + 1) L _ (by omega) (by omega) H1) ?_
            rintro ⟨w, s1⟩ hw
            dsimp only at hw ⊢
            rcases hw with ⟨w0, k, p, hx, hfa⟩ | ⟨w1, j, M, H2, a1, a2, a3, a4⟩
            · refine ok_pos w0 (ok_some (Or.inl ⟨rfl, k, p, hx, fun S L' t w f P hS Ht k1 k2 hP => ?_⟩))
              exact step S L' t w f P hS Ht k2 (fun t' f' k3 ht => hfa (33 :: S) L' t' w f' P (by show cnO S + 1 = op + 1; omega) ht (by omega) k3 hP)
            · refine ok_neg (ne1 w1) ?_
              obtain ⟨i1, i2⟩ := x_into H2 ho
              have hj2 := H2.2.2.2.2.2.2.2.2.2
              have hl2 : (L ++ M).length + 1 ≤ j := by
                rw [List.length_append]
                omega
              obtain ⟨s2, y1, y2⟩ := x_stepX H2 hn hl2 33 0 0
              refine ok_d i1 ?_
              rw [i2]
              refine ok_call y1 (ok_some (Or.inr ⟨rfl, j, M ++ [itO 33], ?_, by omega, ?_, fun k hk => ?_, ?_⟩))
              · rw [← List.append_assoc]; exact y2
              · simp only [List.length_append, List.length_cons, List.length_nil]; omega
              · rw [dps_app, a3 k (by omega)]
                show (dp1 (itO 33) (k + 1)).bind (dps []) = _
                rw [dp_not]; rfl
              · rcases a4 with ⟨d1, d2⟩ | a4
                · exact Or.inl ⟨d1, fun S L' t w f P hS Ht k1 k2 hP => step S L' t w f P hS Ht k2 (fun t' f' k3 ht => d2 (33 :: S) L' t' w f' P (by show cnO S + 1 = op + 1; omega) ht (by omega) k3 hP)⟩
                · refine Or.inr (fun S L' t w f P hS Ht k1 k2 hK => ?_)
                  refine step S L' t w f P hS Ht k2 (fun t' f' k3 ht => ?_)
                  refine a4 (33 :: S) L' t' w f' P (by show cnO S + 1 = op + 1; omega) ht (by omega) k3 (fun t2 w2 m2 k4 k5 ht2 => hK t2 w2 m2 k4 k5 ?_)
                  rw [show stp (33 :: S) (L' ++ M) = stp S (L' ++ M ++ [itO 33]) from rfl, List.append_assoc] at ht2
                  exact ht2
      unfold f_X5_readFactor
      refine ok_call (x_sign TX H) ?_
      dsimp only
      refine ok_ite (fun _ => B62) (fun z => ?_)
      refine ok_pos ?_ B62
      rcases hb with e | e
      · exact absurd ((sg_c TX (c := 33) (by omega) (by omega)).mpr e) z
      · exact (sg_c TX (c := 40) (by omega) (by omega)).mpr e
    · have h33 : ¬ cA g n i = 33 := fun e => hb (Or.inl e)
      have h40 : ¬ cA g n i = 40 := fun e => hb (Or.inr e)
      obtain ⟨m, hm⟩ := dg_ex g n (at0 g n i)
      have hm4 := hm.1
      have hat : i + 2 ≤ at0 g n i ∧ at0 g n i ≤ i + 3 := by unfold at0; by_cases z : cA g n (i + 2) = 45 <;> simp only [z, if_true, if_false] <;> omega
      refine x_atom TX ho (f_rF d) H h33 h40 hm ?_ ?_ ?_ ?_
      · intro hl s' hs
        refine Or.inl ⟨rfl, 1, i, hs, fun S L' t w f P hS Ht k1 k2 hP => ?_⟩
        obtain ⟨f, rfl⟩ : ∃ x, f = x + 1 := ⟨f - 1, by omega⟩
        exact kf_atom T Ht h33 h40 hm (fun _ => hP) (fun y => absurd hl y) (fun y => absurd hl y) (fun y => absurd hl y) (fun y => absurd hl y)
      · intro hl hs1 s' hs
        refine Or.inl ⟨rfl, 1, i + 1, hs, fun S L' t w f P hS Ht k1 k2 hP => ?_⟩
        obtain ⟨f, rfl⟩ : ∃ x, f = x + 1 := ⟨f - 1, by omega⟩
        exact kf_atom T Ht h33 h40 hm (fun y => absurd y hl) (fun _ _ => hP) (fun _ y => absurd y hs1) (fun _ y => absurd y hs1) (fun _ y => absurd y hs1)
      · intro hl hs1 hm0 s' hs
        refine Or.inl ⟨rfl, 1, at0 g n i, hs, fun S L' t w f P hS Ht k1 k2 hP => ?_⟩
        obtain ⟨f, rfl⟩ : ∃ x, f = x + 1 := ⟨f - 1, by omega⟩
        exact kf_atom T Ht h33 h40 hm (fun y => absurd y hl) (fun _ y => absurd hs1 y) (fun _ _ _ => hP) (fun _ _ y => by omega) (fun _ _ y => by omega)
      · intro hl hs1 hm1 s' hs
        have hdg := vN_b (g := g) (n := n) (i := at0 g n i) m hm.2.1
        have hv : vN g n (at0 g n i) m < 10000 := Nat.lt_of_lt_of_le hdg (Nat.pow_le_pow_right (by omega) hm4)
        refine Or.inr ⟨rfl, at0 g n i + m, [itC g n i m], hs, by omega, by simp only [List.length_cons, List.length_nil]; omega, fun k hk => ?_, ?_⟩
        · show (dp1 (itC g n i m) k).bind (dps []) = _
          have e : dp1 (itC g n i m) k = some (k + 1) := by
            unfold dp1 itC
            dsimp only
            have c1 : ¬ nI (cA g n (i + 1)) = 33 := by rcases hs1 with e | e | e <;> rw [e] <;> decide
            have c2 : ¬ (nI (cA g n (i + 1)) = 38 ∨ nI (cA g n (i + 1)) = 124) := by rcases hs1 with e | e | e <;> rw [e] <;> decide
            rw [if_neg c1, if_neg c2, if_pos]
            have c3 : nI (cA g n (i + 1)) = 60 ∨ nI (cA g n (i + 1)) = 61 ∨ nI (cA g n (i + 1)) = 62 := by
              rcases hs1 with e | e | e
              · exact Or.inl (by rw [e]; rfl)
              · exact Or.inr (Or.inl (by rw [e]; rfl))
              · exact Or.inr (Or.inr (by rw [e]; rfl))
            have c4 : (lO (cA g n i)).toNatClampNeg < 5 ∧ ¬ lO (cA g n i) < 0 := by
              revert hl
              generalize cA g n i = x
              unfold lO
              by_cases q1 : x = 108
              · rw [if_pos q1]; intro _; decide
              · rw [if_neg q1]
                by_cases q2 : x = 116
                · rw [if_pos q2]; intro _; decide
                · rw [if_neg q2]
                  by_cases q3 : x = 119
                  · rw [if_pos q3]; intro _; decide
                  · rw [if_neg q3]
                    by_cases q4 : x = 107
                    · rw [if_pos q4]; intro _; decide
                    · rw [if_neg q4]
                      by_cases q5 : x = 109
                      · rw [if_pos q5]; intro _; decide
                      · rw [if_neg q5]; intro y; exact absurd rfl y
            refine ⟨c3, c4.1, c4.2, by omega, ?_⟩
            by_cases z : cA g n (i + 2) = 45
            · simp only [if_pos z]
              have e1 : (-nI (vN g n (at0 g n i) m)).toInt = -(vN g n (at0 g n i) m : Int) := by
                rw [Int32.toInt_neg, nI_toInt (by omega)]
                exact Int.bmod_eq_of_le (by omega) (by omega)
              omega
            · simp only [if_neg z]
              have e1 := nI_toInt (n := vN g n (at0 g n i) m) (by omega)
              omega
          rw [e]
          rfl
        · by_cases hd : dig g n (at0 g n i + m)
          · left
            refine ⟨hd, fun S L' t w f P hS Ht k1 k2 hP => ?_⟩
            obtain ⟨f, rfl⟩ : ∃ x, f = x + 1 := ⟨f - 1, by omega⟩
            have e4 : m = 4 := hm.2.2.resolve_right (fun y => y hd)
            subst e4
            exact kf_atom T Ht h33 h40 hm (fun y => absurd y hl) (fun _ y => absurd hs1 y) (fun _ _ y => by omega) (fun _ _ _ _ => hP) (fun _ _ _ y => absurd hd y)
          · right
            intro S L' t w f P hS Ht k1 k2 hK
            obtain ⟨f, rfl⟩ : ∃ x, f = x + 1 := ⟨f - 1, by omega⟩
            exact kf_atom T Ht h33 h40 hm (fun y => absurd y hl) (fun _ y => absurd hs1 y) (fun _ _ y => by omega) (fun _ _ e y => absurd (show dig g n (at0 g n i + m) by rw [e]; exact y) hd) (fun _ _ _ _ t' ht => hK t' w FU (by omega) (by unfold FU; omega) ht)
end SIM
