/-! the reference's arrays as a configuration; its small methods -/
def kdI (it : It) : Int32 := if it.1 = 33 then 1 else if it.1 = 38 then 2 else if it.1 = 124 then 3 else 0
def CMv (σ : Sg) (c : Cf) (v : Nat) : Prop := σ 52 0 v = nI (lg c v) ∧ σ 48 0 v = nI (ln c v) ∧ σ 50 0 v = sy c v ∧ σ 51 0 v = sa c v ∧ ¬ σ 49 0 v = 0
def CMl (σ : Sg) (c : Cf) (v i : Nat) : Prop := σ 53 0 (6 * v + i) = nI (pg c v i) ∧ σ 54 0 (6 * v + i) = bk c v i ∧ (σ 46 0 (pg c v i) + σ 49 0 v - 1) / σ 49 0 v = th c v i ∧ ∀ m, m < 12 → σ 47 0 (12 * pg c v i + m) = wd c m v i ∧ ¬ σ 49 0 v * (100 + wd c m v i) = 0 ∧ (100 * σ 46 0 (pg c v i) + σ 49 0 v * (100 + wd c m v i) - 1) / (σ 49 0 v * (100 + wd c m v i)) = lh c m v i
def CMo (σ : Sg) (nm v i : Nat) (o : Option (Nat × Nat)) : Prop := match o with
  | none => ∀ k, k < nm → ¬ (σ 56 0 k = nI v ∧ σ 57 0 k = nI i)
  | some (u, j) => ∃ k, k < nm ∧ σ 56 0 k = nI v ∧ σ 57 0 k = nI i ∧ σ 58 0 k = nI u ∧ σ 59 0 k = nI j
def CMm (σ : Sg) (c : Cf) : Prop := ∃ nm, σ 10 0 2 = nI nm ∧ nm ≤ 20 ∧ (∀ a b, a < nm → b < nm → σ 56 0 a = σ 56 0 b → σ 57 0 a = σ 57 0 b → a = b) ∧ ∀ v i, v < nv c → i < lg c v → CMo σ nm v i (mt c v i)
def CMk (σ : Sg) : Nat → List It → Prop
  | _, [] => True
  | b, it :: r => (σ 68 0 b = kdI it ∧ (kdI it = 0 → σ 69 0 b = it.2.1 ∧ σ 70 0 b = it.1 ∧ σ 71 0 b = it.2.2)) ∧ CMk σ (b + 1) r
def CMq (σ : Sg) (l : Nat) : Nat → List Cl → Prop
  | _, [] => True
  | q, x :: r => (σ 64 0 (12 * l + q) = x.1 ∧ σ 65 0 (12 * l + q) = x.2.1 ∧ ∃ a, σ 66 0 (12 * l + q) = nI a ∧ σ 67 0 (12 * l + q) = nI (a + x.2.2.length) ∧ a + x.2.2.length ≤ 200 ∧ CMk σ (200 * l + a) x.2.2) ∧ CMq σ l (q + 1) r
def CMc (σ : Sg) (l : Nat) (x : List Cl) : Prop := σ 61 0 l = nI x.length ∧ CMq σ l 0 x
def CM (σ : Sg) (c : Cf) : Prop := Cok c ∧ σ 10 0 1 = nI (nv c) ∧ (∀ v, v < nv c → CMv σ c v ∧ (∀ i, i < lg c v → CMl σ c v i) ∧ ∀ i, i ≤ lg c v → σ 55 0 (7 * v + i) = nI (pt c v i)) ∧ CMm σ c ∧ ∀ l, l < 4 → CMc σ l (ct c l)
theorem CMk_congr {σ σ' : Sg} (h : σ' 68 = σ 68 ∧ σ' 69 = σ 69 ∧ σ' 70 = σ 70 ∧ σ' 71 = σ 71) : ∀ {l : List It} {b : Nat}, CMk σ b l → CMk σ' b l := by
  intro l
  induction l with
  | nil => intro b _; trivial
  | cons i r ih =>
    intro b hb
    refine ⟨?_, ih hb.2⟩
    rw [h.1, h.2.1, h.2.2.1, h.2.2.2]
    exact hb.1
theorem CMq_congr {σ σ' : Sg} {l : Nat} (h : σ' 68 = σ 68 ∧ σ' 69 = σ 69 ∧ σ' 70 = σ 70 ∧ σ' 71 = σ 71) (h2 : σ' 64 = σ 64 ∧ σ' 65 = σ 65 ∧ σ' 66 = σ 66 ∧ σ' 67 = σ 67) : ∀ {x : List Cl} {q : Nat}, CMq σ l q x → CMq σ' l q x := by
  intro x
  induction x with
  | nil => intro q _; trivial
  | cons i r ih =>
    intro q hb
    obtain ⟨⟨h3, h4, a, h5, h6, h7, h8⟩, h9⟩ := hb
    refine ⟨⟨by rw [h2.1]; exact h3, by rw [h2.2.1]; exact h4, a, by rw [h2.2.2.1]; exact h5, by rw [h2.2.2.2]; exact h6, h7, CMk_congr h h8⟩, ih h9⟩
/-- what CM reads -/
def CMr : List Nat := [46, 47, 48, 49, 50, 51, 52, 53, 54, 55, 56, 57, 58, 59, 61, 64, 65, 66, 67, 68, 69, 70, 71]
theorem CM_congr {σ σ' : Sg} {c : Cf} (h : ∀ k, k ∈ CMr → σ' k = σ k) (h1 : σ' 10 0 1 = σ 10 0 1) (h2 : σ' 10 0 2 = σ 10 0 2) (H : CM σ c) : CM σ' c := by
  have e : ∀ k, k ∈ CMr → σ' k = σ k := h
  obtain ⟨a1, a2, a3, a4, a5⟩ := H
  refine ⟨a1, by rw [h1]; exact a2, fun v hv => ?_, ?_, fun l hl => ?_⟩
  · obtain ⟨b1, b2, b3⟩ := a3 v hv
    refine ⟨?_, fun i hi => ?_, fun i hi => ?_⟩
    · unfold CMv
      rw [e 52 (by decide), e 48 (by decide), e 50 (by decide), e 51 (by decide), e 49 (by decide)]
      exact b1
    · unfold CMl
      rw [e 53 (by decide), e 54 (by decide), e 46 (by decide), e 49 (by decide), e 47 (by decide)]
      exact b2 i hi
    · rw [e 55 (by decide)]
      exact b3 i hi
  · obtain ⟨nm, m1, m2, m3, m4⟩ := a4
    refine ⟨nm, by rw [h2]; exact m1, m2, ?_, fun v i hv hi => ?_⟩
    · rw [e 56 (by decide), e 57 (by decide)]
      exact m3
    · have := m4 v i hv hi
      unfold CMo at this ⊢
      rw [e 56 (by decide), e 57 (by decide), e 58 (by decide), e 59 (by decide)]
      exact this
  · obtain ⟨c1, c2⟩ := a5 l hl
    exact ⟨by rw [e 61 (by decide)]; exact c1, CMq_congr ⟨e 68 (by decide), e 69 (by decide), e 70 (by decide), e 71 (by decide)⟩ ⟨e 64 (by decide), e 65 (by decide), e 66 (by decide), e 67 (by decide)⟩ c2⟩
theorem e_mon (σ : Sg) {h : Nat} (hh : h < 2 ^ 31) : f_X10_month (nI h) σ = some (nI (mon h), σ) := by
  unfold f_X10_month
  rw [L_720, L_12, pk_div hh (by decide) (by decide), pk_rem (by omega) (by decide) (by decide)]
  rfl
section M1
variable {σ : Sg} {c : Cf} {v i : Nat}
theorem e_tH (H : CM σ c) (hv : v < nv c) (hi : i < lg c v) : f_X10_tableHours (nI v) (nI i) σ = some (th c v i, σ) := by
  obtain ⟨⟨k1, k2, -⟩, -, H3, -⟩ := H
  obtain ⟨⟨-, -, -, -, c5⟩, cl, -⟩ := H3 v hv
  obtain ⟨l1, -, l3, -⟩ := cl i hi
  obtain ⟨b1, -, -, -, -, -, b7⟩ := k2 v hv
  have hp := (b7 i hi).1
  unfold f_X10_tableHours f_X10_up
  simp (disch := omega) only [L_6, nI_add, pk_mul, nI_clamp, l1]
  rw [chk, if_pos (gi_nI (by omega) (by decide)), chk, if_pos (gi_nI (by omega) (by decide)), chk, if_pos (gi_nI (by omega) (by decide)), chk, if_pos (decide_eq_true c5)]
  rw [l3]
  rfl
theorem e_dLs (H : CM σ c) (hv : v < nv c) : ∀ (d i k n : Nat), k + d = i → i ≤ lg c v → d < n → f_X10_dueLeave_L10 n (nI v) (nI i) (dL c v k) (nI k) σ = some (dL c v i, σ) := by
  intro d
  induction d with
  | zero =>
    intro i k n h1 h2 h3
    obtain ⟨n, rfl⟩ : ∃ m, n = m + 1 := ⟨n - 1, by omega⟩
    have hk2 := (H.1.2.1 v hv).1
    show f_X10_dueLeave_B10 _ _ _ _ _ _ = _
    unfold f_X10_dueLeave_B10
    rw [if_pos (nI_le (by omega) (by omega)), show k = i by omega]
  | succ d ih =>
    intro i k n h1 h2 h3
    obtain ⟨n, rfl⟩ : ∃ m, n = m + 1 := ⟨n - 1, by omega⟩
    have hk2 := (H.1.2.1 v hv).1
    have hk3 := (H.1.2.1 v hv).2.2.2.2.2.2 k (by omega)
    have hv10 := H.1.1
    obtain ⟨⟨-, -, c3, -⟩, -⟩ := H.2.2.1 v hv
    show f_X10_dueLeave_B10 _ _ _ _ _ _ = _
    unfold f_X10_dueLeave_B10
    rw [if_neg (nI_ge (by omega) (by omega)), e_tH H hv (by omega)]
    show chk _ _ = _
    rw [chk, if_pos (gi_nI (by omega) (by decide))]
    show f_X10_dueLeave_L10 n (nI v) (nI i) (dL c v k + th c v k + σ 50 0 (nI v).toNatClampNeg) (nI k + 1) σ = _
    rw [nI_clamp (by omega), c3, ← hk3.2.1, ← hk3.2.2.1, nI_1]
    exact ih i (k + 1) n (by omega) h2 (by omega)
theorem e_dL (H : CM σ c) (hv : v < nv c) (hi : i ≤ lg c v) : f_X10_dueLeave (nI v) (nI i) σ = some (dL c v i, σ) := by
  have hv10 := H.1.1
  obtain ⟨⟨-, -, -, c4, -⟩, -⟩ := H.2.2.1 v hv
  have hk2 := (H.1.2.1 v hv).1
  have hk5 := (H.1.2.1 v hv).2.2.2.2.1
  unfold f_X10_dueLeave
  rw [chk, if_pos (gi_nI (by omega) (by decide)), nI_clamp (by omega), c4, ← hk5]
  exact e_dLs H hv i i 0 FU (by omega) hi (by unfold FU; omega)
theorem e_dC (H : CM σ c) (hv : v < nv c) (hi : i < lg c v) : f_X10_dueCome (nI v) (nI (i + 1)) σ = some (dC c v (i + 1), σ) := by
  have hk3 := (H.1.2.1 v hv).2.2.2.2.2.2 i (by omega)
  unfold f_X10_dueCome
  rw [L_1, pk_sub (by omega), show i + 1 - 1 = i by omega, e_dL H hv (by omega)]
  show Option.bind (f_X10_tableHours (nI v) (nI i) σ) _ = _
  rw [e_tH H hv hi, hk3.2.1]
  rfl
theorem mon_lt (h : Nat) : mon h < 12 := Nat.mod_lt _ (by decide)
theorem e_wi (H : CM σ c) (hv : v < nv c) (hi : i < lg c v) {h : Nat} (hh : h < 2 ^ 31) : f_X10_windIn (nI v) (nI i) (nI h) σ = some (wd c (mon h) v i, σ) := by
  have hv10 := H.1.1
  have hk2 := (H.1.2.1 v hv).1
  have hk3 := ((H.1.2.1 v hv).2.2.2.2.2.2 i hi).1
  obtain ⟨-, cl, -⟩ := H.2.2.1 v hv
  obtain ⟨l1, -, -, l4⟩ := cl i hi
  have hm := mon_lt h
  unfold f_X10_windIn
  rw [e_mon σ hh]
  simp (disch := omega) only [L_6, L_12, nI_add, pk_mul, nI_clamp, l1, Option.bind_some]
  rw [chk, if_pos (gi_nI (by omega) (by decide)), chk, if_pos (gi_nI (by omega) (by decide)), (l4 (mon h) hm).1]
theorem e_mts (H : CM σ c) (hv : v < nv c) (hi : i < lg c v) {nm : Nat} (hn : σ 10 0 2 = nI nm) (hn2 : nm ≤ 20) : ∀ (d k n : Nat), k + d = nm → d < n → (∀ a, a < k → ¬ (σ 56 0 a = nI v ∧ σ 57 0 a = nI i)) → ((∃ a, a < nm ∧ σ 56 0 a = nI v ∧ σ 57 0 a = nI i ∧ f_X10_meeting_L2 n (nI v) (nI i) (nI k) σ = some (nI a, σ)) ∨ ((∀ a, a < nm → ¬ (σ 56 0 a = nI v ∧ σ 57 0 a = nI i)) ∧ f_X10_meeting_L2 n (nI v) (nI i) (nI k) σ = some (-1, σ))) := by
  intro d
  induction d with
  | zero =>
    intro k n h1 h2 h3
    obtain ⟨n, rfl⟩ : ∃ m, n = m + 1 := ⟨n - 1, by omega⟩
    refine Or.inr ⟨fun a ha => h3 a (by omega), ?_⟩
    show f_X10_meeting_B2 _ _ _ _ _ = _
    unfold f_X10_meeting_B2
    rw [hn, if_pos (nI_le (by omega) (by omega))]
  | succ d ih =>
    intro k n h1 h2 h3
    obtain ⟨n, rfl⟩ : ∃ m, n = m + 1 := ⟨n - 1, by omega⟩
    have e : ∀ r, f_X10_meeting_B2 (f_X10_meeting_L2 n) (nI v) (nI i) (nI k) σ = r ↔ (if σ 56 0 k = nI v ∧ σ 57 0 k = nI i then some (nI k, σ) else f_X10_meeting_L2 n (nI v) (nI i) (nI (k + 1)) σ) = r := by
      intro r
      unfold f_X10_meeting_B2
      rw [hn, if_neg (nI_ge (by omega) (by omega)), nI_clamp (by omega), nI_1]
      rw [chk, if_pos (gi_nI (by omega) (by decide))]
      by_cases g1 : σ 56 0 k = nI v
      · rw [if_pos g1, chk, if_pos (gi_nI (by omega) (by decide))]
        by_cases g2 : σ 57 0 k = nI i
        · rw [if_pos g2, if_pos ⟨g1, g2⟩]
        · rw [if_neg g2, if_neg (fun q => g2 q.2)]
      · rw [if_neg g1, if_neg (fun q => g1 q.1)]
    by_cases g : σ 56 0 k = nI v ∧ σ 57 0 k = nI i
    · exact Or.inl ⟨k, by omega, g.1, g.2, (e _).mpr (by rw [if_pos g])⟩
    · have := ih (k + 1) n (by omega) (by omega) (fun a ha => by
        rcases Nat.lt_succ_iff_lt_or_eq.mp ha with q | rfl
        · exact h3 a q
        · exact g)
      rcases this with ⟨a, a1, a2, a3, a4⟩ | ⟨a1, a2⟩
      · exact Or.inl ⟨a, a1, a2, a3, (e _).mpr (by rw [if_neg g]; exact a4)⟩
      · exact Or.inr ⟨a1, (e _).mpr (by rw [if_neg g]; exact a2)⟩
/-- meeting(v, i): the place of the meeting, or NONE -/
theorem e_mt (H : CM σ c) (hv : v < nv c) (hi : i < lg c v) : match mt c v i with
    | none => f_X10_meeting (nI v) (nI i) σ = some (-1, σ)
    | some (u, j) => ∃ k, k < 20 ∧ f_X10_meeting (nI v) (nI i) σ = some (nI k, σ) ∧ σ 58 0 k = nI u ∧ σ 59 0 k = nI j := by
  obtain ⟨nm, m1, m2, m3, m4⟩ := H.2.2.2.1
  have hm := m4 v i hv hi
  have := e_mts H hv hi m1 m2 nm 0 FU (by omega) (by unfold FU; omega) (fun a ha => absurd ha (Nat.not_lt_zero a))
  cases hc : mt c v i with
  | none =>
    rw [hc] at hm
    rcases this with ⟨a, a1, a2, a3, a4⟩ | ⟨a1, a2⟩
    · exact absurd ⟨a2, a3⟩ (hm a a1)
    · exact a2
  | some q =>
    obtain ⟨u, j⟩ := q
    rw [hc] at hm
    obtain ⟨k, k1, k2, k3, k4, k5⟩ := hm
    rcases this with ⟨a, a1, a2, a3, a4⟩ | ⟨a1, a2⟩
    · have : a = k := m3 a k a1 k1 (a2.trans k2.symm) (a3.trans k3.symm)
      subst this
      exact ⟨a, by omega, a4, k4, k5⟩
    · exact absurd ⟨k2, k3⟩ (a1 k k1)
end M1
