/-! letters, reference: last() -/
def geO (o : Option Nat) (g : Nat) : Prop := ∃ m, o = some m ∧ g ≤ m
def bdO (o : Option Nat) : Prop := ∀ m, o = some m → m ≤ 100000
theorem oI_lt {o : Option Nat} {g : Nat} (ho : bdO o) (hg : g ≤ 1000000) : oI o < nI g ↔ ¬ geO o g := by
  cases o with
  | none =>
    refine ⟨fun _ => ?_, fun _ => ?_⟩
    · rintro ⟨m, h, -⟩; exact absurd h (by simp)
    · show (-1 : Int32) < nI g
      rw [Int32.lt_iff_toInt_lt, nI_toInt (by omega)]
      have h2 : (-1 : Int32).toInt = -1 := by decide
      omega
  | some m =>
    have := ho m rfl
    show nI m < nI g ↔ _
    rw [nI_ltI (by omega) (by omega)]
    refine ⟨fun h => ?_, fun h => ?_⟩
    · rintro ⟨m', h1, h2⟩
      have := Option.some.inj h1
      omega
    · exact Nat.lt_of_not_le (fun q => h ⟨m, rfl, q⟩)
def Lr (N : Nt) (b H q t : Nat) : Prop := ∃ r c, c ≤ H ∧ Re N r q t b c
def Gd (N : Nt) (b H : Nat) (f : Nat → Option Nat) (v j c : Nat) : Prop := (nP N v j = b ∧ c ≤ H) ∨ geO (f (nP N v j)) (c + 1)
def Clo (N : Nt) (b H : Nat) (f : Nat → Option Nat) (D : Nat → Nat → Nat → Prop) : Prop := ∀ v i j x c, D v i j → Rd N v i j x c → Gd N b H f v j c → geO (f (nP N v i)) x
def Snd (N : Nt) (b H : Nat) (f : Nat → Option Nat) : Prop := ∀ q, q < 8 → ∀ m, f q = some m → m ≤ 100000 ∧ Lr N b H q m
def OR (s : Sg) (k : Nat) (f : Nat → Option Nat) : Prop := ∀ q, q < 8 → s k 0 q = oI (f q)
def updO (f : Nat → Option Nat) (j x : Nat) : Nat → Option Nat := fun q => if q = j then some x else f q
def wO : Option Nat → Nat
  | none => 0
  | some m => m + 1
def msO (f : Nat → Option Nat) : Nat := wO (f 0) + wO (f 1) + wO (f 2) + wO (f 3) + wO (f 4) + wO (f 5) + wO (f 6) + wO (f 7)
theorem msO_up {f : Nat → Option Nat} {q x : Nat} (hq : q < 8) (h : ¬ geO (f q) x) : msO f < msO (updO f q x) := by
  have hw : wO (f q) < x + 1 := by
    cases e : f q with
    | none => exact Nat.succ_pos _
    | some m =>
      show m + 1 < x + 1
      have : ¬ x ≤ m := fun z => h ⟨m, e, z⟩
      omega
  unfold msO updO
  obtain rfl | rfl | rfl | rfl | rfl | rfl | rfl | rfl : q = 0 ∨ q = 1 ∨ q = 2 ∨ q = 3 ∨ q = 4 ∨ q = 5 ∨ q = 6 ∨ q = 7 := by omega
  all_goals
    simp
    have : wO (some x) = x + 1 := rfl
    omega
section LASTM
variable {N : Nt} {b H v i : Nat}
theorem Snd.bd {f : Nat → Option Nat} (h : Snd N b H f) {q : Nat} (hq : q < 8) : bdO (f q) := fun m hm => (h q hq m hm).1
theorem msO_le {f : Nat → Option Nat} (h : Snd N b H f) : msO f ≤ 800008 := by
  have hw : ∀ q, q < 8 → wO (f q) ≤ 100001 := by
    intro q hq
    cases e : f q with
    | none => exact Nat.zero_le _
    | some m =>
      have := (h q hq m e).1
      show m + 1 ≤ 100001
      omega
  have h0 := hw 0 (by omega)
  have h1 := hw 1 (by omega)
  have h2 := hw 2 (by omega)
  have h3 := hw 3 (by omega)
  have h4 := hw 4 (by omega)
  have h5 := hw 5 (by omega)
  have h6 := hw 6 (by omega)
  have h7 := hw 7 (by omega)
  unfold msO
  omega
theorem Snd.up {f : Nat → Option Nat} (K : Nok N) (h : Snd N b H f) {j x c : Nat} (hr : Rd N v i j x c) (hg : Gd N b H f v j c) : Snd N b H (updO f (nP N v i) x) := by
  intro q hq m hm
  unfold updO at hm
  by_cases e : q = nP N v i
  · rw [if_pos e] at hm
    have hmx := Option.some.inj hm
    subst hmx
    have hc := K.2.2.2 v i j x c hr
    refine ⟨by omega, ?_⟩
    have hpj := K.2.2.1 v j hr.1 hr.2.2.1
    rcases hg with ⟨g1, g2⟩ | ⟨m, g1, g2⟩
    · exact ⟨1, c, g2, re_succ.mpr ⟨v, i, j, x, c, hr, e.symm, Nat.le_refl _, Or.inl ⟨g1, rfl⟩⟩⟩
    · obtain ⟨-, r, c', a1, a2⟩ := h _ hpj m g1
      exact ⟨r + 1, c', a1, re_succ.mpr ⟨v, i, j, x, c, hr, e.symm, Nat.le_refl _, Or.inr (re_t a2 g2)⟩⟩
  · rw [if_neg e] at hm
    exact h q hq m hm
theorem Clo.all {f : Nat → Option Nat} (h : Clo N b H f (fun _ _ _ => True)) : ∀ r p t c, c ≤ H → Re N r p t b c → geO (f p) t := by
  intro r
  induction r with
  | zero => intro p t c _ h2; exact absurd h2 re_0
  | succ r ih =>
    intro p t c h1 h2
    obtain ⟨v, i, j, g, c1, a1, a2, a3, a4⟩ := re_succ.mp h2
    have hg : Gd N b H f v j c1 := by
      rcases a4 with ⟨e1, e2⟩ | e
      · exact Or.inl ⟨e1, by omega⟩
      · exact Or.inr (ih _ _ _ h1 e)
    obtain ⟨m, m1, m2⟩ := h v i j g c1 trivial a1 hg
    rw [a2] at m1
    exact ⟨m, m1, by omega⟩
theorem OR.up {s : Sg} {k j x : Nat} {f : Nat → Option Nat} (h : OR s k f) : OR (up3 s k 0 j (nI x)) k (updO f j x) := fun q hq => by
  unfold updO
  by_cases e : q = j
  · subst e; rw [up_s, if_pos rfl]; rfl
  · rw [up_j e, if_neg e]; exact h q hq
def LT (s0 : Sg) (N : Nt) (b H : Nat) (f0 : Nat → Option Nat) (D : Nat → Nat → Nat → Prop) (s : Sg) (mo : Int32) : Prop := LA s s0 ∧ ∃ f, OR s 84 f ∧ Snd N b H f ∧ ((mo = 0 ∧ f = f0 ∧ Clo N b H f D) ∨ (mo = 1 ∧ msO f0 < msO f))
theorem LT.D {s0 s : Sg} {f0 : Nat → Option Nat} {D D' : Nat → Nat → Nat → Prop} {mo : Int32} (h : LT s0 N b H f0 D s mo) (hD : ∀ v i j x c, D' v i j → Rd N v i j x c → Gd N b H f0 v j c → geO (f0 (nP N v i)) x ∨ D v i j) : LT s0 N b H f0 D' s mo := by
  obtain ⟨h1, f, h2, h3, h4⟩ := h
  refine ⟨h1, f, h2, h3, ?_⟩
  rcases h4 with ⟨a1, a2, a3⟩ | a
  · refine Or.inl ⟨a1, a2, fun v i j x c d r g => ?_⟩
    subst a2
    rcases hD v i j x c d r g with e | e
    · exact e
    · exact a3 v i j x c e r g
  · exact Or.inr a
theorem e_T135 (k71 : Int32 → Int32 → Int32 → Int32 → Int32 → Int32 → Sg → Option (Int32 × Sg)) {s0 : Sg} {f0 : Nat → Option Nat} {P : Int32 × Sg → Prop} {a : Int32} {x : Nat} (HN : NM s0 N) (hb : b < 8) (hH : H ≤ 1000000) (hv : v < nN N) (hi : i < nG N v) (hl : nL N v i = some x) (hK : ∀ s mo, LT s0 N b H f0 (Dl v (i + 1) 0) s mo → Ok (k71 a (nI b) (nI H) mo (nI v) (nI (i + 1)) s) P) : ∀ (d j n : Nat) (s : Sg) (mo : Int32), (j + 1) + d = nG N v + 1 → d < n → i < j + 1 → LT s0 N b H f0 (Dl v i (j + 1)) s mo → Ok (f_X10_last_L135 k71 n a (nI b) (nI H) mo (nI v) (nI i) (nI x) (nI (nP N v i)) (nI (j + 1)) s) P := by
  have K := HN.b.1
  have hv10 := K.1
  have hG := K.2.1 v hv
  have hpi := K.2.2.1 v i hv (by omega)
  have hxb := ((HN.b.2.2 v hv).2.2.1 i hi).2 x hl
  intro d
  induction d with
  | zero =>
    intro j n s mo h1 h2 h3 h4
    obtain ⟨n, rfl⟩ : ∃ m, n = m + 1 := ⟨n - 1, by omega⟩
    obtain ⟨B1, B2, B3⟩ := HN s h4.1
    show Ok (f_X10_last_B135 _ _ _ _ _ _ _ _ _ _ _ _) _
    unfold f_X10_last_B135
    refine ok_gi v rfl (by omega) ?_
    rw [nI_clamp (by omega), (B3 v hv).1]
    refine ok_pos (nI_lt (by omega) (by omega)) ?_
    rw [nI_1]
    refine hK s mo (h4.D ?_)
    intro v' i' j' x' c' d r e
    have := r.2.2.1
    right
    unfold Dl at d ⊢
    by_cases q : v' = v
    · subst q; omega
    · omega
  | succ d ih =>
    intro j n s mo h1 h2 h3 h4
    obtain ⟨n, rfl⟩ : ∃ m, n = m + 1 := ⟨n - 1, by omega⟩
    obtain ⟨B1, B2, B3⟩ := HN s h4.1
    have hj : j < nG N v := by omega
    obtain ⟨C1, C2⟩ := (B3 v hv).2.2.2 j hj
    have hpj := K.2.2.1 v (j + 1) hv (by omega)
    -- not good: go on
    have no : (∀ c, nC N v (j + 1) = some c → ¬ Gd N b H f0 v (j + 1) c ∨ ¬ mo = 0) → Ok (f_X10_last_B219 (f_X10_last_L135 k71 n) k71 a (nI b) (nI H) mo (nI v) (nI i) (nI x) (nI (nP N v i)) (nI (j + 1)) s) P := by
      intro hn
      unfold f_X10_last_B219 f_X10_last_B220
      refine ok_pos rfl ?_
      rw [nI_1]
      refine ih (j + 1) n s mo (by omega) (by omega) (by omega) ?_
      by_cases hm : mo = 0
      · refine h4.D ?_
        intro v' i' j' x' c' d r e
        by_cases q : v' = v ∧ j' = j + 1
        · obtain ⟨rfl, rfl⟩ := q
          rcases hn c' r.2.2.2.2 with z | z
          · exact absurd e z
          · exact absurd hm z
        · right
          unfold Dl at d ⊢
          omega
      · obtain ⟨l1, f, l2, l3, l4⟩ := h4
        rcases l4 with ⟨z, -⟩ | z
        · exact absurd z hm
        · exact ⟨l1, f, l2, l3, Or.inr z⟩
    have yes : ∀ c f, nC N v (j + 1) = some c → LA s s0 → OR s 84 f → Snd N b H f → ((mo = 0 ∧ f = f0 ∧ Clo N b H f (Dl v i (j + 1))) ∨ (mo = 1 ∧ msO f0 < msO f)) → Gd N b H f v (j + 1) c → Ok (f_X10_last_B215 (f_X10_last_L135 k71 n) k71 a (nI b) (nI H) mo (nI v) (nI i) (nI x) (nI (nP N v i)) (nI (j + 1)) s) P := by
      intro c f hc l1 l2 l3 l4 hg
      have hr : Rd N v i (j + 1) x c := ⟨hv, h3, by omega, hl, hc⟩
      unfold f_X10_last_B215 f_X10_last_B220
      refine ok_neg (by decide) (ok_gi _ rfl hpi ?_)
      rw [nI_clamp (by omega), l2 _ hpi]
      refine ok_ite (fun q => ?_) (fun q => ?_)
      · rw [oI_lt (l3.bd hpi) (by omega)] at q
        refine ok_gi _ rfl hpi (ok_S ?_)
        rw [nI_1]
        refine ih (j + 1) n _ 1 (by omega) (by omega) (by omega) ⟨l1.up (by decide), _, l2.up, l3.up K hr hg, Or.inr ⟨rfl, ?_⟩⟩
        have := msO_up hpi q
        rcases l4 with ⟨-, z, -⟩ | ⟨-, z⟩
        · subst z; exact this
        · omega
      · rw [oI_lt (l3.bd hpi) (by omega)] at q
        have q' := Classical.not_not.mp q
        rw [nI_1]
        refine ih (j + 1) n s mo (by omega) (by omega) (by omega) ?_
        rcases l4 with ⟨z1, z2, z3⟩ | z
        · subst z2
          refine (LT.D (D := Dl v i (j + 1)) ⟨l1, f, l2, l3, Or.inl ⟨z1, rfl, z3⟩⟩ ?_)
          intro v' i' j' x' c' d r e
          by_cases y : Dl v i (j + 1) v' i' j'
          · exact Or.inr y
          · have hh : v' = v ∧ i' = i ∧ j' = j + 1 := by
              unfold Dl at d y
              omega
            obtain ⟨rfl, rfl, rfl⟩ := hh
            have e1 := r.2.2.2.1
            rw [hl] at e1
            have := Option.some.inj e1
            subst this
            exact Or.inl q'
        · exact ⟨l1, f, l2, l3, Or.inr z⟩
    show Ok (f_X10_last_B135 _ _ _ _ _ _ _ _ _ _ _ _) _
    unfold f_X10_last_B135
    refine ok_gi v rfl (by omega) ?_
    rw [nI_clamp (by omega), (B3 v hv).1]
    refine ok_neg (nI_nlt (by omega) (by omega)) ?_
    refine ok_call C1 ?_
    dsimp only
    rw [L_7, pk_mul, nI_add]
    refine ok_gi _ rfl (by omega) (ok_I ?_)
    rw [nI_clamp (by omega), (B3 v hv).2.1 (j + 1) (by omega)]
    cases hc : nC N v (j + 1) with
    | none =>
      refine ok_pos rfl ?_
      exact no (fun c h => absurd (hc.symm.trans h) (by simp))
    | some c =>
      have hcb := C2 c hc
      obtain ⟨l1, f, l2, l3, l4⟩ := h4
      have un : ∀ c', nC N v (j + 1) = some c' → c' = c := fun c' h => (Option.some.inj (hc.symm.trans h)).symm
      have nog : ¬ Gd N b H f v (j + 1) c → ∀ c', nC N v (j + 1) = some c' → ¬ Gd N b H f0 v (j + 1) c' ∨ ¬ mo = 0 := by
        intro hn c' h
        have := un c' h
        subst this
        rcases l4 with ⟨z1, z2, z3⟩ | ⟨z1, z2⟩
        · subst z2; exact Or.inl hn
        · refine Or.inr ?_
          rw [z1]; decide
      have chk190 : ¬ (nP N v (j + 1) = b ∧ c ≤ H) → Ok (f_X10_last_B190 (f_X10_last_L135 k71 n) k71 a (nI b) (nI H) mo (nI v) (nI i) (nI x) (nI (nP N v i)) (nI (j + 1)) (nI c) (nI (nP N v (j + 1))) s) P := by
        intro hn
        unfold f_X10_last_B190
        refine ok_gi _ rfl hpj ?_
        rw [nI_clamp (by omega), l2 _ hpj]
        refine ok_ite (fun q => ?_) (fun q => ?_)
        · refine no (nog ?_)
          rintro (g | ⟨m, m1, m2⟩)
          · exact hn g
          · rw [m1] at q
            have := (l3 _ hpj m m1).1
            exact nIm1 (by omega) q
        · refine ok_gi _ rfl hpj ?_
          rw [nI_1]
          refine ok_ite (fun q2 => ?_) (fun q2 => ?_)
          · rw [oI_lt (l3.bd hpj) (by omega)] at q2
            refine no (nog ?_)
            rintro (g | g)
            · exact hn g
            · exact q2 g
          · rw [oI_lt (l3.bd hpj) (by omega)] at q2
            exact yes c f hc l1 l2 l3 l4 (Or.inr (Classical.not_not.mp q2))
      show Ok (if nI c = -1 then _ else _) _
      refine ok_neg (nIm1 (by omega)) ?_
      show Ok (if nI _ = nI _ then _ else _) _
      refine ok_ite (fun q => ?_) (fun q => ?_)
      · rw [nI_eq (by omega) (by omega)] at q
        show Ok (if nI _ ≤ nI _ then _ else _) _
        refine ok_ite (fun q2 => ?_) (fun q2 => ?_)
        · rw [nI_leI (by omega) (by omega)] at q2
          exact yes c f hc l1 l2 l3 l4 (Or.inl ⟨q, q2⟩)
        · rw [nI_leI (by omega) (by omega)] at q2
          exact chk190 (fun z => q2 z.2)
      · rw [nI_eq (by omega) (by omega)] at q
        exact chk190 (fun z => q z.1)
end LASTM
