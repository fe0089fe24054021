section LASTM2
variable {N : Nt} {b H v i : Nat}
theorem e_T71 (k59 : Int32 → Int32 → Int32 → Int32 → Int32 → Sg → Option (Int32 × Sg)) {s0 : Sg} {f0 : Nat → Option Nat} {P : Int32 × Sg → Prop} {a : Int32} (HN : NM s0 N) (hb : b < 8) (hH : H ≤ 1000000) (hv : v < nN N) (hK : ∀ s mo, LT s0 N b H f0 (Dl (v + 1) 0 0) s mo → Ok (k59 a (nI b) (nI H) mo (nI (v + 1)) s) P) : ∀ (d i n : Nat) (s : Sg) (mo : Int32), i + d = nG N v → d < n → LT s0 N b H f0 (Dl v i 0) s mo → Ok (f_X10_last_L71 k59 n a (nI b) (nI H) mo (nI v) (nI i) s) P := by
  have K := HN.b.1
  have hv10 := K.1
  have hG := K.2.1 v hv
  intro d
  induction d with
  | zero =>
    intro i n s mo h1 h2 h4
    obtain ⟨n, rfl⟩ : ∃ m, n = m + 1 := ⟨n - 1, by omega⟩
    obtain ⟨B1, B2, B3⟩ := HN s h4.1
    show Ok (f_X10_last_B71 _ _ _ _ _ _ _ _ _) _
    unfold f_X10_last_B71
    refine ok_gi v rfl (by omega) ?_
    rw [nI_clamp (by omega), (B3 v hv).1]
    refine ok_pos (by rw [nI_leI (by omega) (by omega)]; omega) ?_
    rw [nI_1]
    refine hK s mo (h4.D ?_)
    intro v' i' j' x' c' d r e
    have := r.2.2.1
    have := r.2.1
    right
    unfold Dl at d ⊢
    by_cases q : v' = v
    · subst q; omega
    · omega
  | succ d ih =>
    intro i n s mo h1 h2 h4
    obtain ⟨n, rfl⟩ : ∃ m, n = m + 1 := ⟨n - 1, by omega⟩
    obtain ⟨B1, B2, B3⟩ := HN s h4.1
    have hi : i < nG N v := by omega
    obtain ⟨C1, C2⟩ := (B3 v hv).2.2.1 i hi
    have hpi := K.2.2.1 v i hv (by omega)
    show Ok (f_X10_last_B71 _ _ _ _ _ _ _ _ _) _
    unfold f_X10_last_B71
    refine ok_gi v rfl (by omega) ?_
    rw [nI_clamp (by omega), (B3 v hv).1]
    refine ok_neg (by rw [nI_leI (by omega) (by omega)]; omega) ?_
    refine ok_call C1 ?_
    dsimp only
    rw [L_7, pk_mul, nI_add]
    refine ok_gi _ rfl (by omega) (ok_I ?_)
    rw [nI_clamp (by omega), (B3 v hv).2.1 i (by omega)]
    cases hl : nL N v i with
    | none =>
      refine ok_pos rfl ?_
      rw [nI_1]
      refine ih (i + 1) n s mo (by omega) (by omega) (h4.D ?_)
      intro v' i' j' x' c' d r e
      have hr := r.2.2.2.1
      right
      unfold Dl at d ⊢
      by_cases q : v' = v ∧ i' = i
      · obtain ⟨rfl, rfl⟩ := q
        rw [hl] at hr
        exact absurd hr (by simp)
      · omega
    | some x =>
      have hxb := C2 x hl
      show Ok (if nI x = -1 then _ else _) _
      refine ok_neg (nIm1 (by omega)) ?_
      refine ok_gi _ rfl hpi ?_
      rw [nI_clamp (by omega)]
      obtain ⟨l1, f, l2, l3, l4⟩ := h4
      have e8 := l2 _ hpi
      refine ok_ite (fun q => ?_) (fun q => ?_)
      · refine ok_I ?_
        rw [nI_1]
        refine e_T135 _ HN hb hH hv hi hl (fun s' mo' hs => ih (i + 1) n s' mo' (by omega) (by omega) hs) (nG N v - i) i FU s mo (by omega) (by unfold FU; omega) (by omega) (LT.D ⟨l1, f, l2, l3, l4⟩ ?_)
        intro v' i' j' x' c' d r e
        have := r.2.1
        right
        unfold Dl at d ⊢
        omega
      · rw [e8] at q
        change ¬ oI _ < nI x at q
        rw [oI_lt (l3.bd hpi) (by omega)] at q
        have q' := Classical.not_not.mp q
        rw [nI_1]
        refine ih (i + 1) n s mo (by omega) (by omega) ?_
        rcases l4 with ⟨z1, z2, z3⟩ | z
        · subst z2
          refine (LT.D (D := Dl v i 0) ⟨l1, f, l2, l3, Or.inl ⟨z1, rfl, z3⟩⟩ ?_)
          intro v' i' j' x' c' d r e
          by_cases y : Dl v i 0 v' i' j'
          · exact Or.inr y
          · have hh : v' = v ∧ i' = i := by
              unfold Dl at d y
              omega
            obtain ⟨rfl, rfl⟩ := hh
            have e1 := r.2.2.2.1
            rw [hl] at e1
            have := Option.some.inj e1
            subst this
            exact Or.inl q'
        · exact ⟨l1, f, l2, l3, Or.inr z⟩
theorem e_T59 (k48 : Int32 → Int32 → Int32 → Int32 → Sg → Option (Int32 × Sg)) {s0 : Sg} {f0 : Nat → Option Nat} {P : Int32 × Sg → Prop} {a : Int32} (HN : NM s0 N) (hb : b < 8) (hH : H ≤ 1000000) (hK : ∀ s mo, LT s0 N b H f0 (fun _ _ _ => True) s mo → Ok (k48 a (nI b) (nI H) mo s) P) : ∀ (d v n : Nat) (s : Sg) (mo : Int32), v + d = nN N → d < n → LT s0 N b H f0 (Dl v 0 0) s mo → Ok (f_X10_last_L59 k48 n a (nI b) (nI H) mo (nI v) s) P := by
  have K := HN.b.1
  have hv10 := K.1
  intro d
  induction d with
  | zero =>
    intro v n s mo h1 h2 h4
    obtain ⟨n, rfl⟩ : ∃ m, n = m + 1 := ⟨n - 1, by omega⟩
    obtain ⟨B1, B2, B3⟩ := HN s h4.1
    show Ok (f_X10_last_B59 _ _ _ _ _ _ _ _) _
    unfold f_X10_last_B59
    rw [B2]
    refine ok_pos (by rw [nI_leI (by omega) (by omega)]; omega) ?_
    refine hK s mo (h4.D ?_)
    intro v' i' j' x' c' d r e
    have := r.1
    right
    unfold Dl
    omega
  | succ d ih =>
    intro v n s mo h1 h2 h4
    obtain ⟨n, rfl⟩ : ∃ m, n = m + 1 := ⟨n - 1, by omega⟩
    obtain ⟨B1, B2, B3⟩ := HN s h4.1
    show Ok (f_X10_last_B59 _ _ _ _ _ _ _ _) _
    unfold f_X10_last_B59
    rw [B2]
    refine ok_neg (by rw [nI_leI (by omega) (by omega)]; omega) ?_
    have hG := K.2.1 v (by omega)
    exact e_T71 _ HN hb hH (by omega) (fun s' mo' hs => ih (v + 1) n s' mo' (by omega) (by omega) hs) (nG N v) 0 FU s mo (by omega) (by unfold FU; omega) h4
/-- the latest hour in a port, or none -/
def SupO (S : Nat → Prop) (o : Option Nat) : Prop := (∀ m, o = some m → m ≤ 100000 ∧ S m) ∧ ∀ t, S t → geO o t
theorem e_T48 {s0 : Sg} {a : Nat} (HN : NM s0 N) (ha : a < 8) (hb : b < 8) (hH : H ≤ 1000000) : ∀ (d n : Nat) (s : Sg) (f : Nat → Option Nat), 800008 - msO f ≤ d → d + 1 < n → LA s s0 → OR s 84 f → Snd N b H f → Ok (f_X10_last_L48 n (nI a) (nI b) (nI H) 1 s) (fun w => (∃ o, w.1 = oI o ∧ SupO (Lr N b H a) o) ∧ LA w.2 s0) := by
  have K := HN.b.1
  intro d
  induction d using Nat.strongRecOn with
  | ind d ih =>
    intro n s f h1 h2 h3 h4 h5
    obtain ⟨n, rfl⟩ : ∃ m, n = m + 1 := ⟨n - 1, by omega⟩
    show Ok (f_X10_last_B48 _ _ _ _ _ _) _
    unfold f_X10_last_B48
    refine ok_neg (by decide) ?_
    refine e_T59 _ (f0 := f) HN hb hH (fun s' mo hs => ?_) (nN N) 0 FU s 0 (by omega) (by have := K.1; unfold FU; omega) ⟨h3, f, h4, h5, Or.inl ⟨rfl, rfl, ?_⟩⟩
    · obtain ⟨l1, f', l2, l3, l4⟩ := hs
      rcases l4 with ⟨z1, z2, z3⟩ | ⟨z1, z2⟩
      · subst z1
        obtain ⟨n, rfl⟩ : ∃ m, n = m + 1 := ⟨n - 1, by omega⟩
        show Ok (f_X10_last_B48 _ _ _ _ _ _) _
        unfold f_X10_last_B48
        refine ok_pos rfl (ok_gi a rfl ha (ok_some ⟨⟨f' a, ?_, ?_, ?_⟩, l1⟩))
        · show s' 84 0 _ = _
          rw [nI_clamp (by omega), l2 a ha]
        · intro m hm; exact l3 a ha m hm
        · rintro t ⟨r, c, c1, c2⟩; exact z3.all r a t c c1 c2
      · subst z1
        have b1 := msO_le h5
        have b2 := msO_le l3
        exact ih (800008 - msO f') (by omega) n s' f' (Nat.le_refl _) (by omega) l1 l2 l3
    · intro v i j x c d
      unfold Dl at d
      omega
theorem e_T24 (k48 : Int32 → Int32 → Int32 → Int32 → Sg → Option (Int32 × Sg)) {s0 : Sg} {P : Int32 × Sg → Prop} {a b h : Int32} (hK : ∀ s, LA s s0 → OR s 84 (fun _ => none) → Ok (k48 a b h 1 s) P) : ∀ (d q n : Nat) (s : Sg), q + d = 8 → d < n → LA s s0 → (∀ z, z < q → s 84 0 z = -1) → Ok (f_X10_last_L24 k48 n a b h (nI q) s) P := by
  intro d
  induction d with
  | zero =>
    intro q n s h1 h2 h3 h4
    obtain ⟨n, rfl⟩ : ∃ m, n = m + 1 := ⟨n - 1, by omega⟩
    show Ok (f_X10_last_B24 _ _ _ _ _ _ _) _
    unfold f_X10_last_B24
    have : q = 8 := by omega
    subst this
    exact ok_pos (Int32.le_refl _) (hK s h3 h4)
  | succ d ih =>
    intro q n s h1 h2 h3 h4
    obtain ⟨n, rfl⟩ : ∃ m, n = m + 1 := ⟨n - 1, by omega⟩
    show Ok (f_X10_last_B24 _ _ _ _ _ _ _) _
    unfold f_X10_last_B24
    refine ok_neg (by rw [L_8, nI_leI (by omega) (by omega)]; omega) (ok_gi q rfl (by omega) (ok_S ?_))
    rw [nI_clamp (by omega), nI_1]
    refine ih (q + 1) n _ (by omega) (by omega) (h3.up (by decide)) ?_
    intro z hz
    by_cases e : z = q
    · subst e; rw [up_s]
    · rw [up_j e]; exact h4 z (by omega)
/-- what the loops of last() give -/
theorem e_last {s : Sg} {a : Nat} (HN : NM s N) (ha : a < 8) (hb : b < 8) (hH : H ≤ 1000000) : Ok (f_X10_last_L24 (f_X10_last_L48 FU) FU (nI a) (nI b) (nI H) 0 s) (fun w => (∃ o, w.1 = oI o ∧ SupO (Lr N b H a) o) ∧ LA w.2 s) := by
  refine e_T24 _ (s0 := s) (fun s1 a1 a2 => ?_) 8 0 FU s (by omega) (by decide) LA.rfl (fun z hz => absurd hz (Nat.not_lt_zero z))
  exact e_T48 HN ha hb hH 800008 FU s1 (fun _ => none) (by omega) (by decide) a1 a2 (fun q hq m hm => absurd hm (by simp))
end LASTM2
