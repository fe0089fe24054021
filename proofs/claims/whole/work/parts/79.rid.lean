/-! letters: the rides that are chosen, without arrays -/
section RID
variable {N : Nt} {p t b go left : Nat}
def GR (N : Nt) (p t b go left v i j : Nat) : Prop := ∃ g c, Rd N v i j g c ∧ nP N v i = p ∧ t ≤ g ∧ ((left = 0 ∧ nP N v j = b ∧ c = go) ∨ (0 < left ∧ Re N left (nP N v j) (c + 1) b go))
def Lst (N : Nt) (p t b go left v i j : Nat) : Prop := GR N p t b go left v i j ∧ ∀ v' i' j', Dl v i j v' i' j' → ¬ GR N p t b go left v' i' j'
theorem Lst.uniq {v i j v' i' j' : Nat} (h : Lst N p t b go left v i j) (h' : Lst N p t b go left v' i' j') : v = v' ∧ i = i' ∧ j = j' := by
  have h1 : ¬ Dl v i j v' i' j' := fun d => h.2 v' i' j' d h'.1
  have h2 : ¬ Dl v' i' j' v i j := fun d => h'.2 v i j d h.1
  unfold Dl at h1 h2
  omega
def Opt (N : Nt) (p t b go left : Nat) : Prop := Re N (left + 1) p t b go ∧ (∀ r c, Re N r p t b c → go ≤ c) ∧ ¬ Re N left p t b go
theorem gr_class {v i j : Nat} {f : Nat → Option Nat} (K : Nok N) (O : Opt N p t b go left) (hW : RowR N b go left f) : GR N p t b go left v i j ↔ ∃ g c, Rd N v i j g c ∧ nP N v i = p ∧ t ≤ g ∧ Gd N b go f v j c := by
  constructor
  · rintro ⟨g, c, h1, h2, h3, h4⟩
    refine ⟨g, c, h1, h2, h3, ?_⟩
    have hpj := K.2.2.1 v j h1.1 h1.2.2.1
    rcases h4 with ⟨e1, e2, e3⟩ | ⟨e1, e2⟩
    · exact Or.inl ⟨e2, by omega⟩
    · exact Or.inr (hW.2 _ _ _ hpj (Nat.le_refl _) e2)
  · rintro ⟨g, c, h1, h2, h3, h4⟩
    refine ⟨g, c, h1, h2, h3, ?_⟩
    have hpj := K.2.2.1 v j h1.1 h1.2.2.1
    rcases h4 with ⟨e1, e2⟩ | ⟨m, e1, e2⟩
    · have r1 : Re N 1 p t b c := re_succ.mpr ⟨v, i, j, g, c, h1, h2, h3, Or.inl ⟨e1, rfl⟩⟩
      have := O.2.1 1 c r1
      have hc : c = go := by omega
      subst hc
      by_cases z : left = 0
      · exact Or.inl ⟨z, e1, rfl⟩
      · exact absurd (re_mono r1 (by omega)) O.2.2
    · obtain ⟨-, c', y1, y2⟩ := hW.1 _ hpj m e1
      have r1 : Re N left (nP N v j) (c + 1) b c' := re_t y2 e2
      have r2 : Re N (left + 1) p t b c' := re_succ.mpr ⟨v, i, j, g, c, h1, h2, h3, Or.inr r1⟩
      have := O.2.1 _ c' r2
      have hc : c' = go := by omega
      subst hc
      by_cases z : left = 0
      · subst z; exact absurd r1 re_0
      · exact Or.inr ⟨by omega, r1⟩
theorem gr_ref {v i j g c x : Nat} (O : Opt N p t b go left) (hgo : go ≤ 100000) (h1 : Rd N v i j g c) (h2 : nP N v i = p) (h3 : t ≤ g) (hx : Inf (Re N left (nP N v j) (c + 1) b) x) : x = go ↔ Re N left (nP N v j) (c + 1) b go := by
  constructor
  · intro e
    subst e
    rcases hx.2.1 with e | e
    · omega
    · exact e
  · intro e
    have e1 := hx.2.2 go e
    rcases hx.2.1 with e2 | e2
    · omega
    · have := O.2.1 _ x (re_succ.mpr ⟨v, i, j, g, c, h1, h2, h3, Or.inr e2⟩ : Re N (left + 1) p t b x)
      omega
theorem gr_ex (O : Opt N p t b go left) : ∃ v i j, GR N p t b go left v i j := by
  obtain ⟨v, i, j, g, c, a1, a2, a3, a4⟩ := re_succ.mp O.1
  refine ⟨v, i, j, g, c, a1, a2, a3, ?_⟩
  by_cases z : left = 0
  · subst z
    rcases a4 with ⟨e1, e2⟩ | e
    · exact Or.inl ⟨rfl, e1, e2⟩
    · exact absurd e re_0
  · rcases a4 with ⟨e1, e2⟩ | e
    · exact absurd (re_mono (re_succ.mpr ⟨v, i, j, g, c, a1, a2, a3, Or.inl ⟨e1, e2⟩⟩ : Re N 1 p t b go) (by omega)) O.2.2
    · exact Or.inr ⟨by omega, e⟩
theorem opt_next {l v i j : Nat} {g c : Nat} (O : Opt N p t b go (l + 1)) (h1 : Rd N v i j g c) (h2 : nP N v i = p) (h3 : t ≤ g) (h4 : Re N (l + 1) (nP N v j) (c + 1) b go) : Opt N (nP N v j) (c + 1) b go l := by
  refine ⟨h4, fun r c' hr => O.2.1 (r + 1) c' (re_succ.mpr ⟨v, i, j, g, c, h1, h2, h3, Or.inr hr⟩), fun hr => O.2.2 (re_succ.mpr ⟨v, i, j, g, c, h1, h2, h3, Or.inr hr⟩)⟩
/-- the rides one by one -/
def RdL (N : Nt) (b go : Nat) : Nat → Nat → Nat → List (Nat × Nat × Nat) → Prop
  | 0, _, _, l => l = []
  | n + 1, p, t, l => ∃ v i j c l', l = (v, i, j) :: l' ∧ Lst N p t b go n v i j ∧ nC N v j = some c ∧ RdL N b go n (nP N v j) (c + 1) l'
theorem RdL.uniq : ∀ {n p t : Nat} {l l' : List (Nat × Nat × Nat)}, RdL N b go n p t l → RdL N b go n p t l' → l = l' := by
  intro n
  induction n with
  | zero => intro p t l l' h h'; exact (show l = [] from h).trans (show l' = [] from h').symm
  | succ n ih =>
    rintro p t l l' ⟨v, i, j, c, m, e, h1, h2, h3⟩ ⟨v', i', j', c', m', e', h1', h2', h3'⟩
    obtain ⟨rfl, rfl, rfl⟩ := h1.uniq h1'
    rw [h2] at h2'
    have := Option.some.inj h2'
    subst this
    rw [e, e', ih h3 h3']
end RID
