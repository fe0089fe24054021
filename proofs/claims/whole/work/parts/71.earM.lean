/-! letters, reference: earliest() -/
def oI : Option Nat → Int32
  | none => -1
  | some t => nI t
def LA (s' s : Sg) : Prop := Ag [84, 85] s' s ∧ ∀ j, ¬ j = 55 → s' 10 0 j = s 10 0 j
theorem LA.rfl {s : Sg} : LA s s := ⟨Ag.rfl, fun _ _ => Eq.refl _⟩
theorem LA.trans {a b c : Sg} (h : LA a b) (h' : LA b c) : LA a c := ⟨h.1.trans h'.1 _ (fun k hk => ⟨hk, hk⟩), fun j hj => (h.2 j hj).trans (h'.2 j hj)⟩
theorem LA.up {a b : Sg} {k i j : Nat} {x : Int32} (h : LA a b) (hk : k ∈ [84, 85]) : LA (up3 a k i j x) b := ⟨h.1.up hk, fun j hj => by
  rw [up_k (show ¬ 10 = k by intro e; subst e; revert hk; decide)]
  exact h.2 j hj⟩
def NMb (s : Sg) (N : Nt) : Prop := Nok N ∧ s 10 0 1 = nI (nN N) ∧ ∀ v, v < nN N → s 52 0 v = nI (nG N v) ∧ (∀ i, i ≤ nG N v → s 55 0 (7 * v + i) = nI (nP N v i)) ∧ (∀ i, i < nG N v → f_X10_leaving (nI v) (nI i) s = some (oI (nL N v i), s) ∧ ∀ g, nL N v i = some g → g ≤ 100000) ∧ ∀ j, j < nG N v → f_X10_coming (nI v) (nI (j + 1)) s = some (oI (nC N v (j + 1)), s) ∧ ∀ c, nC N v (j + 1) = some c → c ≤ 100000
def NM (s : Sg) (N : Nt) : Prop := ∀ s', LA s' s → NMb s' N
theorem NM.b {s : Sg} {N : Nt} (h : NM s N) : NMb s N := h s LA.rfl
theorem NM.of {s s' : Sg} {N : Nt} (h : NM s N) (hs : LA s' s) : NM s' N := fun s'' h'' => h s'' (h''.trans hs)
def Pn (N : Nt) (p t k q s : Nat) : Prop := ∃ n, n ≤ k ∧ Pa N n p t q s
def Dl (v0 i0 j0 v i j : Nat) : Prop := v < v0 ∨ v = v0 ∧ (i < i0 ∨ i = i0 ∧ j < j0)
def FR (s : Sg) (k : Nat) (f : Nat → Nat) : Prop := ∀ q, q < 8 → s k 0 q = nI (f q)
theorem FR.of {s s' : Sg} {k : Nat} {f : Nat → Nat} (h : FR s k f) (e : s' k = s k) : FR s' k f := fun q hq => by rw [e]; exact h q hq
def updN (f : Nat → Nat) (j x : Nat) : Nat → Nat := fun q => if q = j then x else f q
theorem FR.up {s : Sg} {k j x : Nat} {f : Nat → Nat} (h : FR s k f) : FR (up3 s k 0 j (nI x)) k (updN f j x) := fun q hq => by
  unfold updN
  by_cases e : q = j
  · subst e; rw [up_s, if_pos rfl]
  · rw [up_j e, if_neg e]; exact h q hq
section EAR
variable {N : Nt} {p t b k v i : Nat}
def EF (N : Nt) (p t k : Nat) (f : Nat → Nat) : Prop := ∀ q, q < 8 → f q ≤ 1000000 ∧ (f q = 1000000 ∨ Pn N p t k q (f q))
def EI (N : Nt) (p t b k : Nat) (f g : Nat → Nat) (be : Nat) (D : Nat → Nat → Nat → Prop) : Prop := (∀ q, q < 8 → g q ≤ f q) ∧ EF N p t (k + 1) g ∧ (be ≤ 1000000 ∧ (be = 1000000 ∨ Re N (k + 1) p t b be)) ∧ (∀ c, Re N k p t b c → be ≤ c) ∧ ∀ v i j x c, D v i j → Rd N v i j x c → f (nP N v i) ≤ x → g (nP N v j) ≤ c + 1 ∧ (nP N v j = b → be ≤ c)
theorem EI.D {f g : Nat → Nat} {be : Nat} {D D' : Nat → Nat → Nat → Prop} (h : EI N p t b k f g be D) (hD : ∀ v i j x c, D' v i j → Rd N v i j x c → f (nP N v i) ≤ x → D v i j) : EI N p t b k f g be D' := ⟨h.1, h.2.1, h.2.2.1, h.2.2.2.1, fun v i j x c h1 h2 h3 => h.2.2.2.2 v i j x c (hD v i j x c h1 h2 h3) h2 h3⟩
theorem EI.step {f g g' : Nat → Nat} {be be' j x c : Nat} (K : Nok N) (h : EI N p t b k f g be (Dl v i j)) (hf : EF N p t k f) (hr : Rd N v i j x c) (hx : f (nP N v i) ≤ x) (b1 : nP N v j = b → be' ≤ c) (b2 : be' ≤ be) (b3 : be' = be ∨ be' = c ∧ nP N v j = b) (g1 : g' (nP N v j) ≤ c + 1) (g2 : ∀ q, g' q ≤ g q) (g3 : ∀ q, g' q = g q ∨ q = nP N v j ∧ g' q = c + 1) : EI N p t b k f g' be' (Dl v i (j + 1)) := by
  have hc := K.2.2.2 v i j x c hr
  have hpi := K.2.2.1 v i hr.1 (by have := hr.2.1; have := hr.2.2.1; omega)
  obtain ⟨n, n1, n2⟩ : Pn N p t k (nP N v i) (f (nP N v i)) := by
    rcases (hf _ hpi).2 with e | e
    · omega
    · exact e
  have hpa : Pa N (n + 1) p t (nP N v j) (c + 1) := pa_snoc n2 ⟨v, i, j, x, c, hr, rfl, hx, rfl, rfl⟩
  obtain ⟨h1, h2, ⟨h3, h3'⟩, h4, h5⟩ := h
  refine ⟨fun q hq => Nat.le_trans (g2 q) (h1 q hq), fun q hq => ⟨Nat.le_trans (g2 q) (h2 q hq).1, ?_⟩, ⟨by omega, ?_⟩, fun c' hc' => Nat.le_trans b2 (h4 c' hc'), fun v' i' j' x' c' d r e => ?_⟩
  · rcases g3 q with e | ⟨e1, e2⟩
    · rw [e]; exact (h2 q hq).2
    · subst e1
      rw [e2]
      exact Or.inr ⟨n + 1, by omega, hpa⟩
  · rcases b3 with e | ⟨e1, e2⟩
    · rw [e]; exact h3'
    · subst e2
      rw [e1]
      exact Or.inr ⟨n + 1, by omega, by omega, hpa⟩
  · by_cases q : Dl v i j v' i' j'
    · obtain ⟨u1, u2⟩ := h5 v' i' j' x' c' q r e
      exact ⟨Nat.le_trans (g2 _) u1, fun z => Nat.le_trans b2 (u2 z)⟩
    · have hv : v' = v ∧ i' = i ∧ j' = j := by
        unfold Dl at d q
        omega
      obtain ⟨rfl, rfl, rfl⟩ := hv
      have hcc : c' = c := by
        have e1 := r.2.2.2.2
        have e2 := hr.2.2.2.2
        rw [e1] at e2
        exact Option.some.inj e2
      subst hcc
      exact ⟨g1, b1⟩
/-- the state of a round of earliest() -/
def ES (s0 : Sg) (N : Nt) (p t b k : Nat) (f : Nat → Nat) (D : Nat → Nat → Nat → Prop) (s : Sg) (be : Nat) : Prop := LA s s0 ∧ FR s 84 f ∧ ∃ g, FR s 85 g ∧ EI N p t b k f g be D
theorem e_E219 (k156 : Int32 → Int32 → Int32 → Int32 → Int32 → Int32 → Int32 → Sg → Option (Int32 × Sg)) (k96 : Int32 → Int32 → Int32 → Int32 → Int32 → Int32 → Sg → Option (Int32 × Sg)) {s0 s : Sg} {f : Nat → Nat} {P : Int32 × Sg → Prop} {r be be' j x c : Nat} (K : Nok N) (hf : EF N p t k f) (hr : Rd N v i j x c) (hx : f (nP N v i) ≤ x) (b1 : nP N v j = b → be' ≤ c) (b2 : be' ≤ be) (b3 : be' = be ∨ be' = c ∧ nP N v j = b) (h : ES s0 N p t b k f (Dl v i j) s be) (hK : ∀ s', ES s0 N p t b k f (Dl v i (j + 1)) s' be' → Ok (k156 (nI b) (nI r) (nI be') (nI k) (nI v) (nI i) (nI (j + 1)) s') P) : Ok (f_X10_earliest_B219 k156 k96 (nI b) (nI r) (nI be') (nI k) (nI v) (nI i) (nI j) (nI c) (nI (nP N v j)) s) P := by
  have hc := K.2.2.2 v i j x c hr
  have hpj := K.2.2.1 v j hr.1 hr.2.2.1
  obtain ⟨l1, l2, g, l3, l4⟩ := h
  have hgb := (l4.2.1 _ hpj).1
  unfold f_X10_earliest_B219
  refine ok_gi _ rfl hpj ?_
  rw [nI_clamp (by omega), l3 _ hpj, nI_1, nI_1]
  refine ok_ite (fun q => ?_) (fun q => ?_)
  · rw [nI_leI (by omega) (by omega)] at q
    exact hK s ⟨l1, l2, g, l3, l4.step K hf hr hx b1 b2 b3 q (fun _ => Nat.le_refl _) (fun _ => Or.inl rfl)⟩
  · rw [nI_leI (by omega) (by omega)] at q
    refine ok_gi _ rfl hpj (ok_S ?_)
    refine hK _ ⟨l1.up (by decide), l2.of (up_k (by decide)), updN g (nP N v j) (c + 1), l3.up, l4.step K hf hr hx b1 b2 b3 ?_ ?_ ?_⟩
    · unfold updN; rw [if_pos rfl]; exact Nat.le_refl _
    · intro z
      unfold updN
      by_cases e : z = nP N v j
      · subst e; rw [if_pos rfl]; omega
      · rw [if_neg e]; exact Nat.le_refl _
    · intro z
      unfold updN
      by_cases e : z = nP N v j
      · exact Or.inr ⟨e, by rw [if_pos e]⟩
      · exact Or.inl (by rw [if_neg e])
theorem e_E156 (k96 : Int32 → Int32 → Int32 → Int32 → Int32 → Int32 → Sg → Option (Int32 × Sg)) {s0 : Sg} {f : Nat → Nat} {P : Int32 × Sg → Prop} {r x : Nat} (H : NM s0 N) (hb : b < 8) (hf : EF N p t k f) (hv : v < nN N) (hi : i < nG N v) (hl : nL N v i = some x) (hx : f (nP N v i) ≤ x) (hK : ∀ s be, ES s0 N p t b k f (Dl v (i + 1) 0) s be → Ok (k96 (nI b) (nI r) (nI be) (nI k) (nI v) (nI (i + 1)) s) P) : ∀ (d j n : Nat) (s : Sg) (be : Nat), (j + 1) + d = nG N v + 1 → d < n → i < j + 1 → ES s0 N p t b k f (Dl v i (j + 1)) s be → Ok (f_X10_earliest_L156 k96 n (nI b) (nI r) (nI be) (nI k) (nI v) (nI i) (nI (j + 1)) s) P := by
  have K := H.b.1
  have hv10 := K.1
  have hG := K.2.1 v hv
  intro d
  induction d with
  | zero =>
    intro j n s be h1 h2 h3 h4
    obtain ⟨n, rfl⟩ : ∃ m, n = m + 1 := ⟨n - 1, by omega⟩
    obtain ⟨B1, B2, B3⟩ := H s h4.1
    show Ok (f_X10_earliest_B156 _ _ _ _ _ _ _ _ _ _) _
    unfold f_X10_earliest_B156
    refine ok_gi v rfl (by omega) ?_
    rw [nI_clamp (by omega), (B3 v hv).1]
    refine ok_pos (nI_lt (by omega) (by omega)) ?_
    rw [nI_1]
    obtain ⟨l1, l2, g, l3, l4⟩ := h4
    refine hK s be ⟨l1, l2, g, l3, l4.D ?_⟩
    intro v' i' j' x' c' d r e
    have := r.2.2.1
    unfold Dl at d ⊢
    by_cases q : v' = v
    · subst q; omega
    · omega
  | succ d ih =>
    intro j n s be h1 h2 h3 h4
    obtain ⟨n, rfl⟩ : ∃ m, n = m + 1 := ⟨n - 1, by omega⟩
    obtain ⟨B1, B2, B3⟩ := H s h4.1
    have hj : j < nG N v := by omega
    obtain ⟨C1, C2⟩ := (B3 v hv).2.2.2 j hj
    have hbe := h4
    obtain ⟨-, -, g, -, -, -, ⟨hbe, -⟩, -, -⟩ := hbe
    have hpj := K.2.2.1 v (j + 1) hv (by omega)
    show Ok (f_X10_earliest_B156 _ _ _ _ _ _ _ _ _ _) _
    unfold f_X10_earliest_B156
    refine ok_gi v rfl (by omega) ?_
    rw [nI_clamp (by omega), (B3 v hv).1]
    refine ok_neg (nI_nlt (by omega) (by omega)) ?_
    refine ok_call C1 ?_
    dsimp only
    rw [L_7, pk_mul, nI_add]
    refine ok_gi _ rfl (by omega) (ok_I ?_)
    rw [nI_clamp (by omega), (B3 v hv).2.1 (j + 1) (by omega)]
    cases hc : nC N v (j + 1) with
    | none =>
      refine ok_pos rfl ?_
      rw [nI_1]
      refine ih (j + 1) n s be (by omega) (by omega) (by omega) ?_
      obtain ⟨l1, l2, g, l3, l4⟩ := h4
      refine ⟨l1, l2, g, l3, l4.D ?_⟩
      intro v' i' j' x' c' d r e
      have hr := r.2.2.2.2
      unfold Dl at d ⊢
      by_cases q : v' = v ∧ j' = j + 1
      · obtain ⟨rfl, rfl⟩ := q
        rw [hc] at hr
        exact absurd hr (by simp)
      · omega
    | some c =>
      have hcb := C2 c hc
      have hr : Rd N v i (j + 1) x c := ⟨hv, h3, by omega, hl, hc⟩
      show Ok (if nI c = -1 then _ else _) _
      refine ok_neg (nIm1 (by omega)) ?_
      show Ok (if nI _ = nI _ then _ else _) _
      refine ok_ite (fun q => ?_) (fun q => ?_)
      · rw [nI_eq (by omega) (by omega)] at q
        show Ok (if nI _ ≤ nI _ then _ else _) _
        refine ok_ite (fun q2 => ?_) (fun q2 => ?_)
        · rw [nI_leI (by omega) (by omega)] at q2
          exact e_E219 _ _ K hf hr hx (fun _ => q2) (Nat.le_refl _) (Or.inl rfl) h4 (fun s' hs => ih (j + 1) n s' be (by omega) (by omega) (by omega) hs)
        · rw [nI_leI (by omega) (by omega)] at q2
          exact e_E219 _ _ K hf hr hx (fun _ => Nat.le_refl _) (by omega) (Or.inr ⟨rfl, q⟩) h4 (fun s' hs => ih (j + 1) n s' c (by omega) (by omega) (by omega) hs)
      · rw [nI_eq (by omega) (by omega)] at q
        exact e_E219 _ _ K hf hr hx (fun z => absurd z q) (Nat.le_refl _) (Or.inl rfl) h4 (fun s' hs => ih (j + 1) n s' be (by omega) (by omega) (by omega) hs)
end EAR
