section EAR2
variable {N : Nt} {p t b k v i : Nat}
theorem e_E96 (k84 : Int32 → Int32 → Int32 → Int32 → Int32 → Sg → Option (Int32 × Sg)) {s0 : Sg} {f : Nat → Nat} {P : Int32 × Sg → Prop} {r : Nat} (H : NM s0 N) (hb : b < 8) (hf : EF N p t k f) (hv : v < nN N) (hK : ∀ s be, ES s0 N p t b k f (Dl (v + 1) 0 0) s be → Ok (k84 (nI b) (nI r) (nI be) (nI k) (nI (v + 1)) s) P) : ∀ (d i n : Nat) (s : Sg) (be : Nat), i + d = nG N v → d < n → ES s0 N p t b k f (Dl v i 0) s be → Ok (f_X10_earliest_L96 k84 n (nI b) (nI r) (nI be) (nI k) (nI v) (nI i) s) P := by
  have K := H.b.1
  have hv10 := K.1
  have hG := K.2.1 v hv
  intro d
  induction d with
  | zero =>
    intro i n s be h1 h2 h4
    obtain ⟨n, rfl⟩ : ∃ m, n = m + 1 := ⟨n - 1, by omega⟩
    obtain ⟨B1, B2, B3⟩ := H s h4.1
    show Ok (f_X10_earliest_B96 _ _ _ _ _ _ _ _ _) _
    unfold f_X10_earliest_B96
    refine ok_gi v rfl (by omega) ?_
    rw [nI_clamp (by omega), (B3 v hv).1]
    refine ok_pos (by rw [nI_leI (by omega) (by omega)]; omega) ?_
    rw [nI_1]
    obtain ⟨l1, l2, g, l3, l4⟩ := h4
    refine hK s be ⟨l1, l2, g, l3, l4.D ?_⟩
    intro v' i' j' x' c' d r e
    have := r.2.2.1
    have := r.2.1
    unfold Dl at d ⊢
    by_cases q : v' = v
    · subst q; omega
    · omega
  | succ d ih =>
    intro i n s be h1 h2 h4
    obtain ⟨n, rfl⟩ : ∃ m, n = m + 1 := ⟨n - 1, by omega⟩
    obtain ⟨B1, B2, B3⟩ := H s h4.1
    have hi : i < nG N v := by omega
    obtain ⟨C1, C2⟩ := (B3 v hv).2.2.1 i hi
    have hpi := K.2.2.1 v i hv (by omega)
    have hfi := (hf _ hpi).1
    show Ok (f_X10_earliest_B96 _ _ _ _ _ _ _ _ _) _
    unfold f_X10_earliest_B96
    refine ok_gi v rfl (by omega) ?_
    rw [nI_clamp (by omega), (B3 v hv).1]
    refine ok_neg (by rw [nI_leI (by omega) (by omega)]; omega) ?_
    refine ok_call C1 ?_
    dsimp only
    cases hl : nL N v i with
    | none =>
      refine ok_pos rfl ?_
      rw [nI_1]
      refine ih (i + 1) n s be (by omega) (by omega) ?_
      obtain ⟨l1, l2, g, l3, l4⟩ := h4
      refine ⟨l1, l2, g, l3, l4.D ?_⟩
      intro v' i' j' x' c' d r e
      have hr := r.2.2.2.1
      unfold Dl at d ⊢
      by_cases q : v' = v ∧ i' = i
      · obtain ⟨rfl, rfl⟩ := q
        rw [hl] at hr
        exact absurd hr (by simp)
      · omega
    | some x =>
      have hxb := C2 x hl
      show Ok (if nI x = -1 then _ else _) _
      refine ok_neg (nIm1 (by omega)) ?_
      rw [L_7, pk_mul, nI_add]
      refine ok_gi _ rfl (by omega) ?_
      rw [nI_clamp (by omega)]
      have e5 := (B3 v hv).2.1 i (by omega)
      have e8 : s 84 0 (s 55 0 (7 * v + i)).toNatClampNeg = nI (f (nP N v i)) := by rw [e5, nI_clamp (by omega), h4.2.1 _ hpi]
      refine ok_gi _ e5 hpi ?_
      refine ok_ite (fun q => ?_) (fun q => ?_)
      · rw [e8] at q
        change nI _ ≤ nI x at q
        rw [nI_leI (by omega) (by omega)] at q
        refine ok_I ?_
        rw [nI_1]
        refine e_E156 _ H hb hf hv hi hl q (fun s' be' hs => ih (i + 1) n s' be' (by omega) (by omega) hs) (nG N v - i) i FU s be (by omega) (by unfold FU; omega) (by omega) ?_
        obtain ⟨l1, l2, g, l3, l4⟩ := h4
        refine ⟨l1, l2, g, l3, l4.D ?_⟩
        intro v' i' j' x' c' d r e
        have := r.2.1
        unfold Dl at d ⊢
        omega
      · rw [e8] at q
        change ¬ nI _ ≤ nI x at q
        rw [nI_leI (by omega) (by omega)] at q
        rw [nI_1]
        refine ih (i + 1) n s be (by omega) (by omega) ?_
        obtain ⟨l1, l2, g, l3, l4⟩ := h4
        refine ⟨l1, l2, g, l3, l4.D ?_⟩
        intro v' i' j' x' c' d r e
        unfold Dl at d ⊢
        by_cases z : v' = v ∧ i' = i
        · obtain ⟨rfl, rfl⟩ := z
          have hr := r.2.2.2.1
          rw [hl] at hr
          have := Option.some.inj hr
          omega
        · omega
theorem e_E84 (k265 : Int32 → Int32 → Int32 → Int32 → Int32 → Sg → Option (Int32 × Sg)) {s0 : Sg} {f : Nat → Nat} {P : Int32 × Sg → Prop} {r : Nat} (H : NM s0 N) (hb : b < 8) (hf : EF N p t k f) (hK : ∀ s be, ES s0 N p t b k f (fun _ _ _ => True) s be → Ok (k265 (nI b) (nI r) (nI be) (nI k) 0 s) P) : ∀ (d v n : Nat) (s : Sg) (be : Nat), v + d = nN N → d < n → ES s0 N p t b k f (Dl v 0 0) s be → Ok (f_X10_earliest_L84 k265 n (nI b) (nI r) (nI be) (nI k) (nI v) s) P := by
  have K := H.b.1
  have hv10 := K.1
  intro d
  induction d with
  | zero =>
    intro v n s be h1 h2 h4
    obtain ⟨n, rfl⟩ : ∃ m, n = m + 1 := ⟨n - 1, by omega⟩
    obtain ⟨B1, B2, B3⟩ := H s h4.1
    show Ok (f_X10_earliest_B84 _ _ _ _ _ _ _ _) _
    unfold f_X10_earliest_B84
    rw [B2]
    refine ok_pos (by rw [nI_leI (by omega) (by omega)]; omega) ?_
    obtain ⟨l1, l2, g, l3, l4⟩ := h4
    refine hK s be ⟨l1, l2, g, l3, l4.D ?_⟩
    intro v' i' j' x' c' d r e
    have := r.1
    unfold Dl
    omega
  | succ d ih =>
    intro v n s be h1 h2 h4
    obtain ⟨n, rfl⟩ : ∃ m, n = m + 1 := ⟨n - 1, by omega⟩
    obtain ⟨B1, B2, B3⟩ := H s h4.1
    show Ok (f_X10_earliest_B84 _ _ _ _ _ _ _ _) _
    unfold f_X10_earliest_B84
    rw [B2]
    refine ok_neg (by rw [nI_leI (by omega) (by omega)]; omega) ?_
    have hG := K.2.1 v (by omega)
    exact e_E96 _ H hb hf (by omega) (fun s' be' hs => ih (v + 1) n s' be' (by omega) (by omega) hs) (nG N v) 0 FU s be (by omega) (by unfold FU; omega) h4
theorem e_E54 (k84 : Int32 → Int32 → Int32 → Int32 → Int32 → Sg → Option (Int32 × Sg)) {s0 : Sg} {f : Nat → Nat} {P : Int32 × Sg → Prop} {b r be k : Int32} (hK : ∀ s, LA s s0 → FR s 84 f → FR s 85 f → Ok (k84 b r be k 0 s) P) : ∀ (d q n : Nat) (s : Sg), q + d = 8 → d < n → LA s s0 → FR s 84 f → (∀ z, z < q → s 85 0 z = nI (f z)) → Ok (f_X10_earliest_L54 k84 n b r be k (nI q) s) P := by
  intro d
  induction d with
  | zero =>
    intro q n s h1 h2 h3 h4 h5
    obtain ⟨n, rfl⟩ : ∃ m, n = m + 1 := ⟨n - 1, by omega⟩
    show Ok (f_X10_earliest_B54 _ _ _ _ _ _ _ _) _
    unfold f_X10_earliest_B54
    have : q = 8 := by omega
    subst this
    exact ok_pos (Int32.le_refl _) (hK s h3 h4 h5)
  | succ d ih =>
    intro q n s h1 h2 h3 h4 h5
    obtain ⟨n, rfl⟩ : ∃ m, n = m + 1 := ⟨n - 1, by omega⟩
    show Ok (f_X10_earliest_B54 _ _ _ _ _ _ _ _) _
    unfold f_X10_earliest_B54
    refine ok_neg (by rw [L_8, nI_leI (by omega) (by omega)]; omega) (ok_gi q rfl (by omega) (ok_gi q rfl (by omega) (ok_S ?_)))
    rw [nI_clamp (by omega), nI_1, h4 q (by omega)]
    refine ih (q + 1) n _ (by omega) (by omega) (h3.up (by decide)) (h4.of (up_k (by decide))) ?_
    intro z hz
    by_cases e : z = q
    · subst e; rw [up_s]
    · rw [up_j e]; exact h5 z (by omega)
theorem e_E265 (k44 : Int32 → Int32 → Int32 → Int32 → Sg → Option (Int32 × Sg)) {s0 : Sg} {g : Nat → Nat} {P : Int32 × Sg → Prop} {b r be : Int32} {k : Nat} (hK : ∀ s, LA s s0 → FR s 84 g → Ok (k44 b r be (nI (k + 1)) s) P) : ∀ (d q n : Nat) (s : Sg), q + d = 8 → d < n → LA s s0 → FR s 85 g → (∀ z, z < q → s 84 0 z = nI (g z)) → Ok (f_X10_earliest_L265 k44 n b r be (nI k) (nI q) s) P := by
  intro d
  induction d with
  | zero =>
    intro q n s h1 h2 h3 h4 h5
    obtain ⟨n, rfl⟩ : ∃ m, n = m + 1 := ⟨n - 1, by omega⟩
    show Ok (f_X10_earliest_B265 _ _ _ _ _ _ _ _) _
    unfold f_X10_earliest_B265
    have : q = 8 := by omega
    subst this
    rw [nI_1]
    exact ok_pos (Int32.le_refl _) (hK s h3 h5)
  | succ d ih =>
    intro q n s h1 h2 h3 h4 h5
    obtain ⟨n, rfl⟩ : ∃ m, n = m + 1 := ⟨n - 1, by omega⟩
    show Ok (f_X10_earliest_B265 _ _ _ _ _ _ _ _) _
    unfold f_X10_earliest_B265
    refine ok_neg (by rw [L_8, nI_leI (by omega) (by omega)]; omega) (ok_gi q rfl (by omega) (ok_gi q rfl (by omega) (ok_S ?_)))
    rw [nI_clamp (by omega), nI_1, h4 q (by omega)]
    refine ih (q + 1) n _ (by omega) (by omega) (h3.up (by decide)) (h4.of (up_k (by decide))) ?_
    intro z hz
    by_cases e : z = q
    · subst e; rw [up_s]
    · rw [up_j e]; exact h5 z (by omega)
/-- the least hour of coming, or 1000000 -/
def Inf (S : Nat → Prop) (x : Nat) : Prop := x ≤ 1000000 ∧ (x = 1000000 ∨ S x) ∧ ∀ c, S c → x ≤ c
def EG (N : Nt) (p t k : Nat) (f : Nat → Nat) : Prop := ∀ q, q < 8 → Inf (Pn N p t k q) (f q)
theorem EI.fin {f g : Nat → Nat} {be : Nat} (K : Nok N) (hp : p < 8) (hf : EG N p t k f) (h : EI N p t b k f g be (fun _ _ _ => True)) : EG N p t (k + 1) g ∧ Inf (Re N (k + 1) p t b) be := by
  obtain ⟨h1, h2, h3, h4, h5⟩ := h
  have hmq : ∀ {n m u : Nat}, Pa N n p t m u → m < 8 := by
    intro n m u hn
    cases n with
    | zero => obtain ⟨rfl, rfl⟩ := hn; exact hp
    | succ n => exact (pa_q K hn).1
  refine ⟨fun q hq => ⟨(h2 q hq).1, (h2 q hq).2, ?_⟩, h3.1, h3.2, ?_⟩
  · rintro s ⟨n, n1, n2⟩
    by_cases e : n ≤ k
    · exact Nat.le_trans (h1 q hq) ((hf q hq).2.2 s ⟨n, e, n2⟩)
    · have : n = k + 1 := by omega
      subst this
      obtain ⟨m, u, a1, v, i, j, x, c, b1, b2, b3, b4, b5⟩ := pa_unsnoc n2
      subst b2; subst b4; subst b5
      have := (hf _ (hmq a1)).2.2 u ⟨k, Nat.le_refl _, a1⟩
      exact (h5 v i j x c trivial b1 (by omega)).1
  · rintro c0 ⟨n, n0, n1, n2⟩
    by_cases e : n ≤ k
    · exact h4 c0 ⟨n, n0, e, n2⟩
    · have : n = k + 1 := by omega
      subst this
      obtain ⟨m, u, a1, v, i, j, x, c, b1, b2, b3, b4, b5⟩ := pa_unsnoc n2
      subst b2
      have := (hf _ (hmq a1)).2.2 u ⟨k, Nat.le_refl _, a1⟩
      have := (h5 v i j x c trivial b1 (by omega)).2 b4
      omega
theorem e_E44 {s0 : Sg} {r : Nat} (H : NM s0 N) (hb : b < 8) (hp : p < 8) (hr : r ≤ 8) : ∀ (d k n be : Nat) (s : Sg) (f : Nat → Nat), k + d = r → d < n → LA s s0 → FR s 84 f → EG N p t k f → Inf (Re N k p t b) be → Ok (f_X10_earliest_L44 n (nI b) (nI r) (nI be) (nI k) s) (fun w => (∃ x, w.1 = nI x ∧ Inf (Re N r p t b) x) ∧ LA w.2 s0) := by
  have K := H.b.1
  intro d
  induction d with
  | zero =>
    intro k n be s f h1 h2 h3 h4 h5 h6
    obtain ⟨n, rfl⟩ : ∃ m, n = m + 1 := ⟨n - 1, by omega⟩
    have : k = r := by omega
    subst this
    show Ok (f_X10_earliest_B44 _ _ _ _ _ _) _
    unfold f_X10_earliest_B44
    exact ok_pos (Int32.le_refl _) (ok_some ⟨⟨be, rfl, h6⟩, h3⟩)
  | succ d ih =>
    intro k n be s f h1 h2 h3 h4 h5 h6
    obtain ⟨n, rfl⟩ : ∃ m, n = m + 1 := ⟨n - 1, by omega⟩
    show Ok (f_X10_earliest_B44 _ _ _ _ _ _) _
    unfold f_X10_earliest_B44
    refine ok_neg (by rw [nI_leI (by omega) (by omega)]; omega) ?_
    have hf : EF N p t k f := fun q hq => ⟨(h5 q hq).1, (h5 q hq).2.1⟩
    refine e_E54 _ (s0 := s0) (f := f) (fun s1 a1 a2 a3 => ?_) 8 0 FU s (by omega) (by decide) h3 h4 (fun z hz => absurd hz (Nat.not_lt_zero z))
    refine e_E84 _ H hb hf (fun s2 be2 a4 => ?_) (nN N) 0 FU s1 be (by omega) (by have := K.1; unfold FU; omega) ?_
    · obtain ⟨l1, l2, g, l3, l4⟩ := a4
      obtain ⟨f1, f2⟩ := l4.fin K hp h5
      exact e_E265 _ (g := g) (fun s3 z1 z2 => ih (k + 1) n be2 s3 g (by omega) (by omega) z1 z2 f1 f2) 8 0 FU s2 (by omega) (by decide) l1 l3 (fun z hz => absurd hz (Nat.not_lt_zero z))
    · refine ⟨a1, a2, f, a3, fun q hq => Nat.le_refl _, fun q hq => ⟨(hf q hq).1, ?_⟩, ⟨h6.1, ?_⟩, fun c hc => h6.2.2 c hc, ?_⟩
      · rcases (hf q hq).2 with e | ⟨m, e1, e2⟩
        · exact Or.inl e
        · exact Or.inr ⟨m, by omega, e2⟩
      · rcases h6.2.1 with e | e
        · exact Or.inl e
        · exact Or.inr (re_mono e (by omega))
      · intro v i j x c d
        unfold Dl at d
        omega
theorem e_E8 (k44 : Int32 → Int32 → Int32 → Int32 → Sg → Option (Int32 × Sg)) {s0 : Sg} {P : Int32 × Sg → Prop} {b r : Int32} {p t be : Nat} (hp : p < 8) (hK : ∀ s, LA s s0 → FR s 84 (fun q => if q = p then t else 1000000) → Ok (k44 b r (nI be) 0 s) P) : ∀ (d q n : Nat) (s : Sg), q + d = 8 → d < n → LA s s0 → (∀ z, z < q → s 84 0 z = nI (if z = p then t else 1000000)) → Ok (f_X10_earliest_L8 k44 n (nI p) (nI t) b r (nI be) (nI q) s) P := by
  intro d
  induction d with
  | zero =>
    intro q n s h1 h2 h3 h4
    obtain ⟨n, rfl⟩ : ∃ m, n = m + 1 := ⟨n - 1, by omega⟩
    show Ok (f_X10_earliest_B8 _ _ _ _ _ _ _ _ _) _
    unfold f_X10_earliest_B8
    have : q = 8 := by omega
    subst this
    exact ok_pos (Int32.le_refl _) (hK s h3 h4)
  | succ d ih =>
    intro q n s h1 h2 h3 h4
    obtain ⟨n, rfl⟩ : ∃ m, n = m + 1 := ⟨n - 1, by omega⟩
    show Ok (f_X10_earliest_B8 _ _ _ _ _ _ _ _ _) _
    unfold f_X10_earliest_B8
    refine ok_neg (by rw [L_8, nI_leI (by omega) (by omega)]; omega) (ok_ite (fun e => ?_) (fun e => ?_)) <;> rw [nI_eq (by omega) (by omega)] at e <;> refine ok_gi q rfl (by omega) (ok_S ?_) <;> rw [nI_clamp (by omega), nI_1] <;> refine ih (q + 1) n _ (by omega) (by omega) (h3.up (by decide)) ?_ <;> intro z hz
    · by_cases y : z = q
      · subst y; rw [up_s, if_pos e]
      · rw [up_j y]; exact h4 z (by omega)
    · by_cases y : z = q
      · subst y; rw [up_s, if_neg e]; rfl
      · rw [up_j y]; exact h4 z (by omega)
/-- what earliest() gives -/
theorem e_earliest {s : Sg} {r : Nat} (H : NM s N) (hp : p < 8) (hb : b < 8) (ht : t ≤ 1000000) (hr : r ≤ 8) : Ok (f_X10_earliest (nI p) (nI t) (nI b) (nI r) s) (fun w => (∃ x, w.1 = nI x ∧ Inf (Re N r p t b) x) ∧ LA w.2 s) := by
  unfold f_X10_earliest
  refine e_E8 _ (s0 := s) (be := 1000000) hp (fun s1 a1 a2 => ?_) 8 0 FU s (by omega) (by decide) LA.rfl (fun z hz => absurd hz (Nat.not_lt_zero z))
  refine e_E44 H hb hp hr r 0 FU 1000000 s1 _ (by omega) (by unfold FU; omega) a1 a2 ?_ ?_
  · intro q hq
    refine ⟨?_, ?_, ?_⟩
    · by_cases e : q = p
      · simp only [if_pos e]; exact ht
      · simp only [if_neg e]; exact Nat.le_refl _
    · by_cases e : q = p
      · simp only [if_pos e]; exact Or.inr ⟨0, Nat.le_refl _, e.symm, rfl⟩
      · simp only [if_neg e]; exact Or.inl trivial
    · rintro c ⟨n, n1, n2⟩
      have : n = 0 := by omega
      subst this
      obtain ⟨e1, e2⟩ := n2
      simp only [if_pos e1.symm]
      omega
  · exact ⟨Nat.le_refl _, Or.inl rfl, fun c hc => absurd hc re_0⟩
end EAR2
