/-! reading a test, reference: from factor to factor -/
theorem ok_bb {ρ ρ' ρ'' : Type} {a : Option ρ''} {f : ρ'' → Option ρ'} {k : ρ' → Option ρ} {P : ρ → Prop} (h : Ok (Option.bind a (fun q => Option.bind (f q) k)) P) : Ok (Option.bind (Option.bind a f) k) P := by
  cases a with
  | none => exact h
  | some q => exact h
theorem ok_bS {ρ ρ' : Type} {e : Sg} {b : Sg → Option ρ'} {k : ρ' → Option ρ} {P : ρ → Prop} (h : Ok (Option.bind (b e) k) P) : Ok (Option.bind (bdS e b) k) P := h
abbrev k193 : Sg → Option (Int32 × Sg) := f_X10_readsTest_L193 FU
def KB (w m : Nat) (t : Sg) : Option (Int32 × Sg) := f_X10_readsTest_L25 (f_X10_readsTest_B94 (f_X10_readsTest_L12 k193 w) k193) m t
def KF (w f : Nat) (t : Sg) : Option (Int32 × Sg) := Option.bind (f_X10_readsFactor_L0 f_X10_readsFactor_B122 f t) fun q4 => if q4.1 = 0 then some (0, q4.2) else KB w FU q4.2
theorem KF_12 (w : Nat) (t : Sg) : f_X10_readsTest_L12 k193 (w + 1) 1 t = KF w FU t := rfl
abbrev RM (n : Nat) (t0 t : Sg) (i : Nat) (S : List Nat) (L : List It) : Prop := RMd n t0 t i S (cnO S) L
def dig (g : Nat → Nat) (n i : Nat) : Prop := 48 ≤ cA g n i ∧ cA g n i ≤ 57
def vN (g : Nat → Nat) (n i : Nat) : Nat → Nat
  | 0 => 0
  | m + 1 => 10 * vN g n i m + (cA g n (i + m) - 48)
/-- so many digits are taken -/
def dg (g : Nat → Nat) (n i m : Nat) : Prop := m ≤ 4 ∧ (∀ q, q < m → dig g n (i + q)) ∧ (m = 4 ∨ ¬ dig g n (i + m))
theorem dg_ex (g : Nat → Nat) (n i : Nat) : ∃ m, dg g n i m := by
  by_cases d0 : dig g n (i + 0)
  · by_cases d1 : dig g n (i + 1)
    · by_cases d2 : dig g n (i + 2)
      · by_cases d3 : dig g n (i + 3)
        · exact ⟨4, by omega, fun q hq => by rcases (show q = 0 ∨ q = 1 ∨ q = 2 ∨ q = 3 by omega) with rfl | rfl | rfl | rfl <;> assumption, Or.inl rfl⟩
        · exact ⟨3, by omega, fun q hq => by rcases (show q = 0 ∨ q = 1 ∨ q = 2 by omega) with rfl | rfl | rfl <;> assumption, Or.inr d3⟩
      · exact ⟨2, by omega, fun q hq => by rcases (show q = 0 ∨ q = 1 by omega) with rfl | rfl <;> assumption, Or.inr d2⟩
    · exact ⟨1, by omega, fun q hq => by rcases (show q = 0 by omega) with rfl; assumption, Or.inr d1⟩
  · exact ⟨0, by omega, fun q hq => by omega, Or.inr d0⟩
theorem dig_lt {g : Nat → Nat} {n i : Nat} (h : dig g n i) : i < n := by
  unfold dig cA at h
  by_cases q : i < n
  · exact q
  · rw [if_neg q] at h; omega
theorem vN_b {g : Nat → Nat} {n i : Nat} : ∀ m, (∀ q, q < m → dig g n (i + q)) → vN g n i m < 10 ^ m := by
  intro m
  induction m with
  | zero => intro _; show 0 < 1; omega
  | succ m ih =>
    intro h
    have h1 := ih (fun q hq => h q (by omega))
    have h2 := h m (by omega)
    unfold dig at h2
    show 10 * vN g n i m + (cA g n (i + m) - 48) < 10 ^ (m + 1)
    rw [Nat.pow_succ]
    omega
section PARM2
variable {g : Nat → Nat} {n : Nat} {t0 : Sg}
theorem dig_I {c : Nat} (hc : c < 256) : (¬ nI c < 48 ∧ ¬ 57 < nI c) ↔ 48 ≤ c ∧ c ≤ 57 := by
  rw [L_48, L_57, nI_ltI (by omega) (by omega), nI_ltI (by omega) (by omega)]
  omega
theorem r_L10 (T : TXM t0 g n) {S : List Nat} {d : Nat} {L : List It} {i m : Nat} (hm : dg g n i m) {P : Int32 × Sg → Prop} (h0 : m = 0 → ∀ t', RFl t0 t' 1 i → P (0, t')) (h4 : m = 4 → dig g n (i + 4) → ∀ t', RFl t0 t' 1 (i + 4) → P (0, t')) (hk : 1 ≤ m → ¬ dig g n (i + m) → ∀ t', RMd n t0 t' (i + m) S d L → t' 10 0 40 = nI (vN g n i m) → P (1, t')) : ∀ (e q f : Nat) (t : Sg), q + e = m → e < f → RMd n t0 t (i + q) S d L → t 10 0 40 = nI (vN g n i q) → Ok (f_X10_reads_L10 f_X10_reads_B76 f (nI i) t) P := by
  have hn := T.1
  have hm4 := hm.1
  have fin : ∀ t : Sg, RMd n t0 t (i + m) S d L → t 10 0 40 = nI (vN g n i m) → ¬ dig g n (i + m) → Ok (f_X10_reads_B76 (nI i) t) P := by
    intro t H hv hd
    have hi := H.2.2.2.2.2.2.2.2.2.2
    unfold f_X10_reads_B76
    rw [H.2.2.1]
    by_cases z : m = 0
    · refine ok_neg (by rw [nI_ltI (by omega) (by omega)]; omega) ?_
      unfold f_X10_wrong bdS
      refine ok_bs (ok_pos rfl (ok_some (h0 z _ ?_)))
      dsimp only
      rw [up_j (by decide), H.2.2.1]
      have := r_fl H 1
      rw [z, Nat.add_zero] at this ⊢
      exact this
    · exact ok_pos (by rw [nI_ltI (by omega) (by omega)]; omega) (ok_some (hk (by omega) hd t H hv))
  intro e
  induction e with
  | zero =>
    intro q f t h1 h2 H hv
    have : q = m := by omega
    subst this
    obtain ⟨f, rfl⟩ : ∃ m, f = m + 1 := ⟨f - 1, by omega⟩
    have hi := H.2.2.2.2.2.2.2.2.2.2
    have hc := cA_lt (i := i + q) T
    have hD := dig_I hc
    show Ok (f_X10_reads_B10 _ _ _ _) _
    unfold f_X10_reads_B10
    refine ok_call (r_here T H) (ok_ite (fun z => ?_) (fun z => ?_))
    · exact fin t H hv (fun y => (hD.mpr y).1 z)
    · refine ok_call (r_here T H) (ok_ite (fun z2 => ?_) (fun z2 => ?_))
      · exact fin t H hv (fun y => (hD.mpr y).2 z2)
      · have hd : dig g n (i + q) := hD.mp ⟨z, z2⟩
        have e4 : q = 4 := hm.2.2.resolve_right (fun y => y hd)
        subst e4
        dsimp only
        refine ok_pos (by rw [H.2.2.1, L_4, nI_add]) (r_wrong H 1 (fun t' ht => h4 rfl hd t' ht))
  | succ e ih =>
    intro q f t h1 h2 H hv
    obtain ⟨f, rfl⟩ : ∃ m, f = m + 1 := ⟨f - 1, by omega⟩
    have hd := hm.2.1 q (by omega)
    have hi := dig_lt hd
    have hc := cA_lt (i := i + q) T
    have hD := (dig_I hc).mpr hd
    have hvb := vN_b (g := g) (n := n) (i := i) q (fun z hz => hm.2.1 z (by omega))
    have hvb2 : vN g n i q < 10000 := Nat.lt_of_lt_of_le hvb (Nat.pow_le_pow_right (by omega) (show q ≤ 4 by omega))
    show Ok (f_X10_reads_B10 _ _ _ _) _
    unfold f_X10_reads_B10
    refine ok_call (r_here T H) (ok_neg hD.1 (ok_call (r_here T H) (ok_neg hD.2 ?_)))
    refine ok_neg (by dsimp only; rw [H.2.2.1, L_4, nI_add, nI_eq (by omega) (by omega)]; omega) (ok_call (r_here T H) (ok_S (ok_S ?_)))
    dsimp only
    unfold dig at hd
    have ev : 10 * t 10 0 40 + nI (cA g n (i + q)) - 48 = nI (vN g n i (q + 1)) := by
      rw [hv, L_10, pk_mul, nI_add, L_48, pk_sub (by omega)]
      congr 1
      show 10 * vN g n i q + cA g n (i + q) - 48 = 10 * vN g n i q + (cA g n (i + q) - 48)
      omega
    rw [ev]
    have H2 := (H.num (nI (vN g n i (q + 1)))).adv hi
    refine ih (q + 1) f _ (by omega) (by omega) H2 ?_
    rw [up_j (by decide), up_s]
theorem r_reads (T : TXM t0 g n) {S : List Nat} {d : Nat} {L : List It} {i m : Nat} {t : Sg} (hm : dg g n i m) {P : Int32 × Sg → Prop} (H : RMd n t0 t i S d L) (h0 : m = 0 → ∀ t', RFl t0 t' 1 i → P (0, t')) (h4 : m = 4 → dig g n (i + 4) → ∀ t', RFl t0 t' 1 (i + 4) → P (0, t')) (hk : 1 ≤ m → ¬ dig g n (i + m) → ∀ t', RMd n t0 t' (i + m) S d L → t' 10 0 40 = nI (vN g n i m) → P (1, t')) : Ok (f_X10_reads t) P := by
  unfold f_X10_reads
  refine ok_I (ok_S ?_)
  rw [H.2.2.1]
  have := hm.1
  exact r_L10 T hm h0 h4 hk m 0 FU _ (by omega) (by unfold FU; omega) (H.num 0) up_s
def lO (c : Nat) : Int32 := if c = 108 then 0 else if c = 116 then 1 else if c = 119 then 2 else if c = 107 then 3 else if c = 109 then 4 else -1
theorem r_letter {c : Nat} {t : Sg} (hc : c < 256) : f_X10_letterOf (nI c) t = some (lO c, t) := by
  unfold f_X10_letterOf lO
  have e : ∀ k : Nat, k < 256 → (nI c = nI k ↔ c = k) := fun k hk => nI_eq (by omega) (by omega)
  rw [show (108 : Int32) = nI 108 from rfl, show (116 : Int32) = nI 116 from rfl, show (119 : Int32) = nI 119 from rfl, show (107 : Int32) = nI 107 from rfl, show (109 : Int32) = nI 109 from rfl]
  simp only [e 108 (by omega), e 116 (by omega), e 119 (by omega), e 107 (by omega), e 109 (by omega)]
  by_cases q1 : c = 108
  · simp only [if_pos q1]
  · simp only [if_neg q1]
    by_cases q2 : c = 116
    · simp only [if_pos q2]
    · simp only [if_neg q2]
      by_cases q3 : c = 119
      · simp only [if_pos q3]
      · simp only [if_neg q3]
        by_cases q4 : c = 107
        · simp only [if_pos q4]
        · simp only [if_neg q4]
          by_cases q5 : c = 109
          · simp only [if_pos q5]
          · simp only [if_neg q5]
theorem nIc {a b : Nat} (h : ¬ a = b) (ha : a < 256) (hb : b < 256) : ¬ nI a = nI b := by rw [nI_eq (by omega) (by omega)]; exact h
/-- a bracket or ! -/
theorem kf_open (T : TXM t0 g n) {w f i c : Nat} {S : List Nat} {L : List It} {t : Sg} {P : Int32 × Sg → Prop} (H : RM n t0 t i S L) (hc : c = 33 ∨ c = 40) (h : cA g n i = c) (h8 : cnO S < 8) (hK : ∀ t', RM n t0 t' (i + 1) (c :: S) L → Ok (KF w f t') P) : Ok (KF w (f + 1) t) P := by
  have hi := cA_pos h (by omega)
  have hn := T.1
  have B18 : Ok (Option.bind (f_X10_readsFactor_B18 (f_X10_readsFactor_L0 f_X10_readsFactor_B122 f) f_X10_readsFactor_B122 t) fun q4 => if q4.1 = 0 then some (0, q4.2) else KB w FU q4.2) P := by
    unfold f_X10_readsFactor_B18
    refine ok_bn (by rw [H.2.2.2.2.2.2.1, L_8, nI_eq (by omega) (by omega)]; omega) (ok_bS ?_)
    rw [H.2.2.2.2.2.2.1, nI_1]
    have H1 := H.deep (cnO S + 1)
    refine ok_bb (ok_call (r_here T H1) ?_)
    dsimp only
    rw [h]
    obtain ⟨t', y1, y2⟩ := r_push H1 hn hi (c := c) (by omega)
    refine ok_bb (ok_call y1 (ok_bS (hK _ ?_)))
    have e : cnO (c :: S) = cnO S + 1 := by
      show cnO S + (if c = 33 ∨ c = 40 then 1 else 0) = _
      rw [if_pos hc]
    show RMd _ _ _ _ _ (cnO (c :: S)) _
    rw [e]
    exact y2
  show Ok (Option.bind (f_X10_readsFactor_B0 _ _ _) _) _
  unfold f_X10_readsFactor_B0
  refine ok_bb (ok_call (r_here T H) ?_)
  dsimp only
  rw [h]
  rcases hc with e | e
  · subst e
    exact ok_bp rfl B18
  · subst e
    refine ok_bn (by decide) (ok_bb (ok_call (r_here T H) ?_))
    dsimp only
    rw [h]
    exact ok_bp rfl B18
theorem kf_deep (T : TXM t0 g n) {w f i c : Nat} {S : List Nat} {L : List It} {t : Sg} {P : Int32 × Sg → Prop} (H : RM n t0 t i S L) (hc : c = 33 ∨ c = 40) (h : cA g n i = c) (h8 : cnO S = 8) (hP : ∀ t', RFl t0 t' 3 i → P (0, t')) : Ok (KF w (f + 1) t) P := by
  have B18 : Ok (Option.bind (f_X10_readsFactor_B18 (f_X10_readsFactor_L0 f_X10_readsFactor_B122 f) f_X10_readsFactor_B122 t) fun q4 => if q4.1 = 0 then some (0, q4.2) else KB w FU q4.2) P := by
    unfold f_X10_readsFactor_B18
    refine ok_bp (by rw [H.2.2.2.2.2.2.1, h8]; rfl) ?_
    refine ok_bind (r_wrong H 3 (P := fun q => q.1 = 0 ∧ RFl t0 q.2 3 i) (fun t' ht => ⟨rfl, ht⟩)) ?_
    rintro ⟨q, t'⟩ ⟨q1, q2⟩
    dsimp only at q1 q2 ⊢
    exact ok_pos q1 (ok_some (hP t' q2))
  show Ok (Option.bind (f_X10_readsFactor_B0 _ _ _) _) _
  unfold f_X10_readsFactor_B0
  refine ok_bb (ok_call (r_here T H) ?_)
  dsimp only
  rw [h]
  rcases hc with e | e
  · subst e
    exact ok_bp rfl B18
  · subst e
    refine ok_bn (by decide) (ok_bb (ok_call (r_here T H) ?_))
    dsimp only
    rw [h]
    exact ok_bp rfl B18
/-- a comparison -/
def at0 (g : Nat → Nat) (n i : Nat) : Nat := if cA g n (i + 2) = 45 then i + 3 else i + 2
def itC (g : Nat → Nat) (n i m : Nat) : It := (nI (cA g n (i + 1)), lO (cA g n i), if cA g n (i + 2) = 45 then -nI (vN g n (at0 g n i) m) else nI (vN g n (at0 g n i) m))
theorem kf_fail (T : TXM t0 g n) {w i k : Nat} {S : List Nat} {L : List It} {t : Sg} {P : Int32 × Sg → Prop} (H : RM n t0 t i S L) (hP : ∀ t', RFl t0 t' k i → P (0, t')) : Ok (Option.bind (Option.bind (f_X10_wrong (nI k) t) fun q => chk (b01 q.1) (some (q.1, q.2))) fun q4 => if q4.1 = 0 then some (0, q4.2) else KB w FU q4.2) P := by
  refine ok_bind (r_wrong H k (P := fun q => q.1 = 0 ∧ RFl t0 q.2 k i) (fun t' ht => ⟨rfl, ht⟩)) ?_
  rintro ⟨q, t'⟩ ⟨q1, q2⟩
  dsimp only at q1 q2 ⊢
  exact ok_pos q1 (ok_some (hP t' q2))
theorem kf_atom (T : TXM t0 g n) {w f i m : Nat} {S : List Nat} {L : List It} {t : Sg} {P : Int32 × Sg → Prop} (H : RM n t0 t i S L) (h33 : ¬ cA g n i = 33) (h40 : ¬ cA g n i = 40) (hm : dg g n (at0 g n i) m)
    (hA : lO (cA g n i) = -1 → ∀ t', RFl t0 t' 1 i → P (0, t'))
    (hB : ¬ lO (cA g n i) = -1 → ¬ (cA g n (i + 1) = 60 ∨ cA g n (i + 1) = 61 ∨ cA g n (i + 1) = 62) → ∀ t', RFl t0 t' 1 (i + 1) → P (0, t'))
    (hC : ¬ lO (cA g n i) = -1 → (cA g n (i + 1) = 60 ∨ cA g n (i + 1) = 61 ∨ cA g n (i + 1) = 62) → m = 0 → ∀ t', RFl t0 t' 1 (at0 g n i) → P (0, t'))
    (hD : ¬ lO (cA g n i) = -1 → (cA g n (i + 1) = 60 ∨ cA g n (i + 1) = 61 ∨ cA g n (i + 1) = 62) → m = 4 → dig g n (at0 g n i + 4) → ∀ t', RFl t0 t' 1 (at0 g n i + 4) → P (0, t'))
    (hE : ¬ lO (cA g n i) = -1 → (cA g n (i + 1) = 60 ∨ cA g n (i + 1) = 61 ∨ cA g n (i + 1) = 62) → 1 ≤ m → ¬ dig g n (at0 g n i + m) → ∀ t', RM n t0 t' (at0 g n i + m) (stp S (L ++ [itC g n i m])).1 (stp S (L ++ [itC g n i m])).2 → Ok (KB w FU t') P) : Ok (KF w (f + 1) t) P := by
  have hn := T.1
  have hc := cA_lt (i := i) T
  have hc1 := cA_lt (i := i + 1) T
  have hc2 := cA_lt (i := i + 2) T
  show Ok (Option.bind (f_X10_readsFactor_B0 _ _ _) _) _
  unfold f_X10_readsFactor_B0
  refine ok_bb (ok_call (r_here T H) ?_)
  refine ok_bn (nIc (b := 33) h33 hc (show 33 < 256 by omega)) (ok_bb (ok_call (r_here T H) (ok_bn (nIc (b := 40) h40 hc (show 40 < 256 by omega)) (ok_bb (ok_call (r_here T H) (ok_bb (ok_call (r_letter hc) ?_)))))))
  dsimp only
  by_cases hl : lO (cA g n i) = -1
  · exact ok_bp hl (kf_fail T H (hA hl))
  refine ok_bn hl (ok_bS ?_)
  have hi : i < n := by
    rcases Nat.lt_or_ge i n with z | z
    · exact z
    · exfalso
      apply hl
      unfold cA
      rw [if_neg (by omega)]
      rfl
  have H1 := H.adv hi
  refine ok_bb (ok_call (r_here T H1) ?_)
  dsimp only
  have go : (cA g n (i + 1) = 60 ∨ cA g n (i + 1) = 61 ∨ cA g n (i + 1) = 62) → Ok (Option.bind (f_X10_readsFactor_B122 (lO (cA g n i)) (nI (cA g n (i + 1))) (up3 t 10 0 37 (t 10 0 37 + 1))) fun q4 => if q4.1 = 0 then some (0, q4.2) else KB w FU q4.2) P := by
    intro hs
    have hi1 : i + 1 < n := by rcases hs with e | e | e <;> exact cA_pos e (by omega)
    have H2 := H1.adv hi1
    unfold f_X10_readsFactor_B122
    refine ok_bS (ok_bb (ok_call (r_here T H2) ?_))
    dsimp only
    -- from the number on
    have num : ∀ (t2 : Sg) (ng : Bool), (ng = true ↔ cA g n (i + 2) = 45) → RM n t0 t2 (at0 g n i) S L → Ok (Option.bind (f_X10_readsFactor_B161 (lO (cA g n i)) (nI (cA g n (i + 1))) (bI ng) t2) fun q4 => if q4.1 = 0 then some (0, q4.2) else KB w FU q4.2) P := by
      intro t2 ng hng H3
      unfold f_X10_readsFactor_B161
      refine ok_bb (ok_bind (r_reads T hm H3 (P := fun q => (q.1 = 0 ∧ ∃ p, ((m = 0 ∧ p = at0 g n i) ∨ (m = 4 ∧ dig g n (at0 g n i + 4) ∧ p = at0 g n i + 4)) ∧ RFl t0 q.2 1 p) ∨ (q.1 = 1 ∧ 1 ≤ m ∧ ¬ dig g n (at0 g n i + m) ∧ RM n t0 q.2 (at0 g n i + m) S L ∧ q.2 10 0 40 = nI (vN g n (at0 g n i) m))) (fun e t' ht => Or.inl ⟨rfl, _, Or.inl ⟨e, rfl⟩, ht⟩) (fun e e2 t' ht => Or.inl ⟨rfl, _, Or.inr ⟨e, e2, rfl⟩, ht⟩) (fun e e2 t' ht hv => Or.inr ⟨rfl, e, e2, ht, hv⟩)) ?_)
      rintro ⟨q, t3⟩ hq
      dsimp only at hq ⊢
      rcases hq with ⟨q1, p, hp, hfl⟩ | ⟨q1, q2, q3, q4, q5⟩
      · refine ok_bp q1 (ok_bs (ok_pos rfl (ok_some ?_)))
        rcases hp with ⟨e, rfl⟩ | ⟨e, e2, rfl⟩
        · exact hC hl hs e t3 hfl
        · exact hD hl hs e e2 t3 hfl
      · refine ok_bn (by rw [q1]; exact n10) ?_
        have h10 := q4.2.2.2.2.2.2.2.2.2.1
        have h0 := H.2.2.2.2.2.2.2.2.2.1
        have hat : i + 2 ≤ at0 g n i := by unfold at0; by_cases z : cA g n (i + 2) = 45 <;> simp only [z, if_true, if_false] <;> omega
        have code : ∀ x : Int32, x = (if cA g n (i + 2) = 45 then -nI (vN g n (at0 g n i) m) else nI (vN g n (at0 g n i) m)) → Ok (Option.bind (f_X10_readsFactor_B190 0 (lO (cA g n i)) (nI (cA g n (i + 1))) x t3) fun q4 => if q4.1 = 0 then some (0, q4.2) else KB w FU q4.2) P := by
          intro x hx
          unfold f_X10_readsFactor_B190
          have hk : kdI (itC g n i m) = 0 := by
            unfold kdI itC
            dsimp only
            rw [if_neg, if_neg, if_neg]
            · rcases hs with e | e | e <;> rw [e] <;> decide
            · rcases hs with e | e | e <;> rw [e] <;> decide
            · rcases hs with e | e | e <;> rw [e] <;> decide
          obtain ⟨t4, y1, y2⟩ := r_code q4 hn (by omega) (k := 0) (a := lO (cA g n i)) (b := nI (cA g n (i + 1))) (c := x) (it := itC g n i m) hk (fun _ => ⟨rfl, rfl, hx⟩)
          refine ok_bb (ok_call y1 (ok_bb ?_))
          unfold f_X10_ends
          have hlS : S.length < FU := by have := q4.2.2.2.2.2.2.2.2.2.2; unfold FU; omega
          refine ok_bind (r_ends hn S (L ++ [itC g n i m]) t4 FU hlS y2) ?_
          intro t5 h5
          exact ok_bs (ok_neg n10 (hE hl hs q2 q3 t5 h5))
        cases ng with
        | true =>
          have e := hng.mp rfl
          refine ok_bn (by decide) (code _ ?_)
          rw [if_pos e, q5]
        | false =>
          have e : ¬ cA g n (i + 2) = 45 := fun z => absurd (hng.mpr z) (by decide)
          refine ok_bp rfl (code _ ?_)
          rw [if_neg e, q5]
    refine ok_bi (fun z => ?_) (fun z => ?_)
    · have e : cA g n (i + 2) = 45 := (nI_eq (by omega) (by omega)).mp z
      have hi2 := cA_pos e (by omega)
      unfold f_X10_readsFactor_B146
      refine ok_bn n10 (ok_bS (num _ true ⟨fun _ => e, fun _ => rfl⟩ ?_))
      have := H2.adv hi2
      unfold at0
      rw [if_pos e]
      exact this
    · have e : ¬ cA g n (i + 2) = 45 := fun y => z (by rw [y]; rfl)
      unfold f_X10_readsFactor_B146
      refine ok_bp rfl (num _ false ⟨fun y => absurd y (by decide), fun y => absurd y e⟩ ?_)
      unfold at0
      rw [if_neg e]
      exact H2
  by_cases s1 : cA g n (i + 1) = 60
  · exact ok_bp (by rw [s1]; rfl) (go (Or.inl s1))
  refine ok_bn (nIc (b := 60) s1 hc1 (show 60 < 256 by omega)) ?_
  by_cases s2 : cA g n (i + 1) = 61
  · exact ok_bp (by rw [s2]; rfl) (go (Or.inr (Or.inl s2)))
  refine ok_bn (nIc (b := 61) s2 hc1 (show 61 < 256 by omega)) ?_
  by_cases s3 : cA g n (i + 1) = 62
  · exact ok_bp (by rw [s3]; rfl) (go (Or.inr (Or.inr s3)))
  refine ok_bn (nIc (b := 62) s3 hc1 (show 62 < 256 by omega)) (kf_fail T H1 (hB hl ?_))
  rintro (y | y | y)
  · exact s1 y
  · exact s2 y
  · exact s3 y
end PARM2
