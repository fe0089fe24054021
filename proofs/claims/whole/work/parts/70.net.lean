/-! letters without arrays: rides, ways, as few rides as can be -/
theorem fb_holes : ∀ (m n : Nat) (f : Nat → Nat), (∀ i, i < n → f i < m) → (∀ i j, i < j → j < n → f i ≠ f j) → n ≤ m := by
  intro m
  induction m with
  | zero =>
    intro n f h1 _
    rcases Nat.eq_zero_or_pos n with h | h
    · omega
    · exact absurd (h1 0 h) (Nat.not_lt_zero _)
  | succ m ih =>
    intro n f h1 h2
    by_cases hx : ∃ i, i < n ∧ f i = m
    · obtain ⟨a, ha, hfa⟩ := hx
      have hg := ih (n - 1) (fun i => if i < a then f i else f (i + 1)) (by
        intro i hi
        by_cases q : i < a
        · simp only [if_pos q]
          have b1 := h1 i (by omega)
          have b2 := h2 i a q ha
          omega
        · simp only [if_neg q]
          have b1 := h1 (i + 1) (by omega)
          have b2 := h2 a (i + 1) (by omega) (by omega)
          omega) (by
        intro i j hij hj
        by_cases q : i < a
        · by_cases r : j < a
          · simp only [if_pos q, if_pos r]
            exact h2 i j hij (by omega)
          · simp only [if_pos q, if_neg r]
            exact h2 i (j + 1) (by omega) (by omega)
        · have r : ¬ j < a := by omega
          simp only [if_neg q, if_neg r]
          exact h2 (i + 1) (j + 1) (by omega) (by omega))
      omega
    · have hg := ih n f (fun i hi => by
        have b1 := h1 i hi
        have b2 : f i ≠ m := fun e => hx ⟨i, hi, e⟩
        omega) h2
      omega
/-- two of them in one place -/
theorem fb_twice {m n : Nat} {f : Nat → Nat} (h : ∀ i, i < n → f i < m) (hm : m < n) : ∃ i j, i < j ∧ j < n ∧ f i = f j := by
  refine Classical.byContradiction fun hx => ?_
  have := fb_holes m n f h (fun i j hij hj e => hx ⟨i, j, hij, hj, e⟩)
  omega
/-- as many as places, none twice: each place is taken -/
abbrev Nt : Type := Nat × (Nat → Nat) × (Nat → Nat → Nat) × (Nat → Nat → Option Nat) × (Nat → Nat → Option Nat)
abbrev nN (N : Nt) : Nat := N.1
abbrev nG (N : Nt) (v : Nat) : Nat := N.2.1 v
abbrev nP (N : Nt) (v i : Nat) : Nat := N.2.2.1 v i
abbrev nL (N : Nt) (v i : Nat) : Option Nat := N.2.2.2.1 v i
abbrev nC (N : Nt) (v i : Nat) : Option Nat := N.2.2.2.2 v i
/-- a ride: aboard voyage v at place i in hour g, ashore at place j in hour c -/
def Rd (N : Nt) (v i j g c : Nat) : Prop := v < nN N ∧ i < j ∧ j ≤ nG N v ∧ nL N v i = some g ∧ nC N v j = some c
def Nok (N : Nt) : Prop := nN N ≤ 10 ∧ (∀ v, v < nN N → nG N v ≤ 6) ∧ (∀ v i, v < nN N → i ≤ nG N v → nP N v i < 8) ∧ ∀ v i j g c, Rd N v i j g c → g ≤ c ∧ c ≤ 100000
def Sp1 (N : Nt) (p t q s : Nat) : Prop := ∃ v i j g c, Rd N v i j g c ∧ nP N v i = p ∧ t ≤ g ∧ nP N v j = q ∧ s = c + 1
def Pa (N : Nt) : Nat → Nat → Nat → Nat → Nat → Prop
  | 0, p, t, q, s => p = q ∧ t = s
  | n + 1, p, t, q, s => ∃ m u, Sp1 N p t m u ∧ Pa N n m u q s
section NET
variable {N : Nt}
theorem stp_mono {p t t0 q s : Nat} (h : Sp1 N p t q s) (ht : t0 ≤ t) : Sp1 N p t0 q s := by
  obtain ⟨v, i, j, g, c, h1, h2, h3, h4, h5⟩ := h
  exact ⟨v, i, j, g, c, h1, h2, by omega, h4, h5⟩
theorem stp_lt (K : Nok N) {p t q s : Nat} (h : Sp1 N p t q s) : t < s ∧ s ≤ 100001 ∧ q < 8 := by
  obtain ⟨v, i, j, g, c, h1, h2, h3, h4, h5⟩ := h
  obtain ⟨a, b⟩ := K.2.2.2 v i j g c h1
  have := K.2.2.1 v j h1.1 h1.2.2.1
  exact ⟨by omega, by omega, by omega⟩
theorem pa_mono {n p t t0 q s : Nat} (h : Pa N (n + 1) p t q s) (ht : t0 ≤ t) : Pa N (n + 1) p t0 q s := by
  obtain ⟨m, u, h1, h2⟩ := h
  exact ⟨m, u, stp_mono h1 ht, h2⟩
theorem pa_app {n k p t m u q s : Nat} (h : Pa N n p t m u) (h' : Pa N k m u q s) : Pa N (n + k) p t q s := by
  induction n generalizing p t with
  | zero =>
    obtain ⟨rfl, rfl⟩ := h
    rw [Nat.zero_add]
    exact h'
  | succ n ih =>
    obtain ⟨m', u', h1, h2⟩ := h
    rw [Nat.succ_add]
    exact ⟨m', u', h1, ih h2⟩
theorem pa_one {p t q s : Nat} : Pa N 1 p t q s ↔ Sp1 N p t q s := by
  constructor
  · rintro ⟨m, u, h1, rfl, rfl⟩; exact h1
  · intro h; exact ⟨q, s, h, rfl, rfl⟩
theorem pa_snoc {n p t m u q s : Nat} (h : Pa N n p t m u) (h' : Sp1 N m u q s) : Pa N (n + 1) p t q s := pa_app h (pa_one.mpr h')
theorem pa_unsnoc {n p t q s : Nat} (h : Pa N (n + 1) p t q s) : ∃ m u, Pa N n p t m u ∧ Sp1 N m u q s := by
  induction n generalizing p t with
  | zero =>
    obtain ⟨m, u, h1, rfl, rfl⟩ := h
    exact ⟨p, t, ⟨rfl, rfl⟩, h1⟩
  | succ n ih =>
    obtain ⟨m, u, h1, h2⟩ := h
    obtain ⟨m', u', h3, h4⟩ := ih h2
    exact ⟨m', u', ⟨m, u, h1, h3⟩, h4⟩
theorem pa_le (K : Nok N) {n p t q s : Nat} (h : Pa N n p t q s) : t + n ≤ s := by
  induction n generalizing p t with
  | zero => obtain ⟨rfl, rfl⟩ := h; omega
  | succ n ih =>
    obtain ⟨m, u, h1, h2⟩ := h
    have := ih h2
    have := (stp_lt K h1).1
    omega
theorem pa_q (K : Nok N) {n p t q s : Nat} (h : Pa N (n + 1) p t q s) : q < 8 ∧ s ≤ 100001 := by
  obtain ⟨m, u, h1, h2⟩ := pa_unsnoc h
  exact ⟨(stp_lt K h2).2.2, (stp_lt K h2).2.1⟩
theorem pa_seq {n p t q s : Nat} (h : Pa N n p t q s) : ∃ (P T : Nat → Nat), P 0 = p ∧ T 0 = t ∧ P n = q ∧ T n = s ∧ ∀ m, m < n → Sp1 N (P m) (T m) (P (m + 1)) (T (m + 1)) := by
  induction n generalizing p t with
  | zero =>
    obtain ⟨rfl, rfl⟩ := h
    exact ⟨fun _ => p, fun _ => t, rfl, rfl, rfl, rfl, fun m hm => absurd hm (Nat.not_lt_zero m)⟩
  | succ n ih =>
    obtain ⟨m, u, h1, h2⟩ := h
    obtain ⟨P, T, a1, a2, a3, a4, a5⟩ := ih h2
    refine ⟨fun k => match k with
      | 0 => p
      | k + 1 => P k, fun k => match k with
      | 0 => t
      | k + 1 => T k, rfl, rfl, a3, a4, fun k hk => ?_⟩
    match k with
    | 0 =>
      show Sp1 N p t (P 0) (T 0)
      rw [a1, a2]
      exact h1
    | k + 1 => exact a5 k (by omega)
theorem seq_pa {n : Nat} {P T : Nat → Nat} (h : ∀ m, m < n → Sp1 N (P m) (T m) (P (m + 1)) (T (m + 1))) : ∀ (d i : Nat), i + d ≤ n → Pa N d (P i) (T i) (P (i + d)) (T (i + d)) := by
  intro d
  induction d with
  | zero => intro i _; exact ⟨rfl, rfl⟩
  | succ d ih =>
    intro i hi
    have h1 := ih i (by omega)
    exact pa_snoc h1 (h (i + d) (by omega))
/-- a way of nine stations passes one port twice: it can be cut -/
theorem pa_cut (K : Nok N) {n p t q s : Nat} (hp : p < 8) (hn : 8 ≤ n) (h : Pa N n p t q s) : ∃ n' s', n' < n ∧ s' ≤ s ∧ Pa N n' p t q s' := by
  obtain ⟨P, T, a1, a2, a3, a4, a5⟩ := pa_seq h
  have hP : ∀ i, i < n + 1 → P i < 8 := by
    intro i hi
    cases i with
    | zero => rw [a1]; exact hp
    | succ i => exact (stp_lt K (a5 i (by omega))).2.2
  obtain ⟨i, j, hij, hj, e⟩ := fb_twice hP (by omega)
  have s1 := seq_pa a5 i 0 (by omega)
  rw [Nat.zero_add, a1, a2] at s1
  have hT : T i ≤ T j := by
    have s2 := pa_le K (seq_pa a5 (j - i) i (by omega))
    rw [show i + (j - i) = j by omega] at s2
    omega
  have s3 := seq_pa a5 (n - j) j (by omega)
  rw [show j + (n - j) = n by omega, a3, a4] at s3
  by_cases hjn : j = n
  · refine ⟨i, T i, by omega, ?_, ?_⟩
    · rw [← a4, ← hjn]; exact hT
    · rw [e, hjn, a3] at s1; exact s1
  · obtain ⟨k, hk⟩ : ∃ k, n - j = k + 1 := ⟨n - j - 1, by omega⟩
    rw [hk] at s3
    have s4 := pa_mono s3 hT
    rw [← e] at s4
    exact ⟨i + (k + 1), s, by omega, Nat.le_refl _, pa_app s1 s4⟩
theorem pa_seven (K : Nok N) {p t q : Nat} (hp : p < 8) : ∀ (n s : Nat), Pa N n p t q s → ∃ n' s', n' ≤ 7 ∧ n' ≤ n ∧ s' ≤ s ∧ Pa N n' p t q s' := by
  intro n
  induction n using Nat.strongRecOn with
  | ind n ih =>
    intro s h
    by_cases hn : n ≤ 7
    · exact ⟨n, s, hn, Nat.le_refl _, Nat.le_refl _, h⟩
    · obtain ⟨n1, s1, h1, h2, h3⟩ := pa_cut K hp (by omega) h
      obtain ⟨n2, s2, g1, g2, g3, g4⟩ := ih n1 h1 s1 h3
      exact ⟨n2, s2, g1, by omega, by omega, g4⟩
/-- it can come to q in hour c, by at most r rides -/
def Re (N : Nt) (r p t q c : Nat) : Prop := ∃ n, 1 ≤ n ∧ n ≤ r ∧ Pa N n p t q (c + 1)
theorem re_mono {r r' p t q c : Nat} (h : Re N r p t q c) (hr : r ≤ r') : Re N r' p t q c := by
  obtain ⟨n, a, b, d⟩ := h
  exact ⟨n, a, by omega, d⟩
theorem re_t {r p t t0 q c : Nat} (h : Re N r p t q c) (ht : t0 ≤ t) : Re N r p t0 q c := by
  obtain ⟨n, a, b, d⟩ := h
  obtain ⟨m, rfl⟩ : ∃ m, n = m + 1 := ⟨n - 1, by omega⟩
  exact ⟨m + 1, a, b, pa_mono d ht⟩
theorem re_succ {r p t q c : Nat} : Re N (r + 1) p t q c ↔ ∃ v i j g c1, Rd N v i j g c1 ∧ nP N v i = p ∧ t ≤ g ∧ ((nP N v j = q ∧ c1 = c) ∨ Re N r (nP N v j) (c1 + 1) q c) := by
  constructor
  · rintro ⟨n, h1, h2, h3⟩
    obtain ⟨m, rfl⟩ : ∃ m, n = m + 1 := ⟨n - 1, by omega⟩
    obtain ⟨m', u, ⟨v, i, j, g, c1, b1, b2, b3, b4, b5⟩, h4⟩ := h3
    refine ⟨v, i, j, g, c1, b1, b2, b3, ?_⟩
    subst b4; subst b5
    cases m with
    | zero =>
      obtain ⟨e1, e2⟩ := h4
      exact Or.inl ⟨e1, by omega⟩
    | succ m => exact Or.inr ⟨m + 1, by omega, by omega, h4⟩
  · rintro ⟨v, i, j, g, c1, b1, b2, b3, b4⟩
    have st : Sp1 N p t (nP N v j) (c1 + 1) := ⟨v, i, j, g, c1, b1, b2, b3, rfl, rfl⟩
    rcases b4 with ⟨e1, e2⟩ | ⟨n, n1, n2, n3⟩
    · subst e1; subst e2
      exact ⟨1, by omega, by omega, pa_one.mpr st⟩
    · exact ⟨n + 1, by omega, by omega, ⟨_, _, st, n3⟩⟩
theorem re_0 {p t q c : Nat} : ¬ Re N 0 p t q c := by
  rintro ⟨n, h1, h2, -⟩
  omega
/-- between two ports seven rides do -/
theorem re_seven (K : Nok N) {r p t q c : Nat} (hp : p < 8) (hpq : ¬ p = q) (h : Re N r p t q c) : ∃ c', c' ≤ c ∧ Re N 7 p t q c' ∧ Re N r p t q c' := by
  obtain ⟨n, h1, h2, h3⟩ := h
  obtain ⟨n', s', a1, a2, a3, a4⟩ := pa_seven K hp n _ h3
  have hn' : 1 ≤ n' := by
    rcases Nat.eq_zero_or_pos n' with z | z
    · subst z; exact absurd a4.1 hpq
    · exact z
  have hs := pa_le K a4
  refine ⟨s' - 1, by omega, ⟨n', hn', a1, ?_⟩, ⟨n', hn', by omega, ?_⟩⟩ <;> rw [show s' - 1 + 1 = s' by omega] <;> exact a4
end NET
