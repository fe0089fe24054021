/-! letters, reference: first() -/
def LB (s' s : Sg) : Prop := Ag [10, 84, 85, 86, 87, 88] s' s ∧ ∀ j, ¬ j = 55 → s' 10 0 j = s 10 0 j
theorem LB.rfl {s : Sg} : LB s s := ⟨Ag.rfl, fun _ _ => Eq.refl _⟩
theorem LB.trans {a b c : Sg} (h : LB a b) (h' : LB b c) : LB a c := ⟨h.1.trans h'.1 _ (fun k hk => ⟨hk, hk⟩), fun j hj => (h.2 j hj).trans (h'.2 j hj)⟩
theorem LA.B {a b : Sg} (h : LA a b) : LB a b := ⟨h.1.sub (by decide), h.2⟩
theorem LB.up {a b : Sg} {k i j : Nat} {x : Int32} (h : LB a b) (hk : k ∈ [84, 85, 86, 87, 88]) : LB (up3 a k i j x) b := ⟨h.1.up (List.mem_cons_of_mem _ hk), fun j hj => by
  rw [up_k (show ¬ 10 = k by intro e; subst e; revert hk; decide)]
  exact h.2 j hj⟩
def NB (s : Sg) (N : Nt) : Prop := ∀ s', LB s' s → NMb s' N
theorem NB.of {s s' : Sg} {N : Nt} (h : NB s N) (hs : LB s' s) : NB s' N := fun s'' h'' => h s'' (h''.trans hs)
theorem NB.m {s : Sg} {N : Nt} (h : NB s N) : NM s N := fun s' h' => h s' h'.B
section RIDM
variable {N : Nt} {p t b go left : Nat}
theorem e_isRide {s : Sg} {v i j : Nat} (H : NM s N) (hp : p < 8) (ht : t ≤ 1000000) (hb : b < 8) (hgo : go ≤ 100000) (hl : left ≤ 8) (O : Opt N p t b go left) (hv : v < nN N) (hij : i < j) (hj : j ≤ nG N v) : Ok (f_X10_isRide (nI v) (nI i) (nI j) (nI p) (nI t) (nI b) (nI go) (nI left) s) (fun w => LA w.2 s ∧ ((w.1 = 1 ∧ GR N p t b go left v i j) ∨ (w.1 = 0 ∧ ¬ GR N p t b go left v i j))) := by
  obtain ⟨j, rfl⟩ : ∃ m, j = m + 1 := ⟨j - 1, by omega⟩
  obtain ⟨K, B2, B3⟩ := H.b
  have hv10 := K.1
  have hG := K.2.1 v hv
  obtain ⟨D1, D2⟩ := (B3 v hv).2.2.1 i (by omega)
  obtain ⟨C1, C2⟩ := (B3 v hv).2.2.2 j (by omega)
  have hpi := K.2.2.1 v i hv (by omega)
  have hpj := K.2.2.1 v (j + 1) hv hj
  have P1 := (B3 v hv).2.1 i (by omega)
  have P2 := (B3 v hv).2.1 (j + 1) hj
  unfold f_X10_isRide
  refine ok_call D1 ?_
  dsimp only
  rw [L_7, pk_mul, nI_add]
  refine ok_gi _ rfl (by omega) ?_
  rw [nI_clamp (by omega)]
  refine ok_ite (fun q => ?_) (fun q => ?_)
  · rw [P1, nI_eq (by omega) (by omega)] at q
    cases hg : nL N v i with
    | none =>
      refine ok_pos rfl (ok_some ⟨LA.rfl, Or.inr ⟨rfl, ?_⟩⟩)
      rintro ⟨g, c, r, -⟩
      have := r.2.2.2.1
      rw [hg] at this
      exact absurd this (by simp)
    | some g =>
      have hgb := D2 g hg
      show Ok (if nI g = -1 then _ else _) _
      refine ok_neg (nIm1 (by omega)) ?_
      show Ok (if nI g < nI t then _ else _) _
      refine ok_ite (fun q2 => ?_) (fun q2 => ?_)
      · rw [nI_ltI (by omega) (by omega)] at q2
        refine ok_some ⟨LA.rfl, Or.inr ⟨rfl, ?_⟩⟩
        rintro ⟨g', c, r, -, h3, -⟩
        have := r.2.2.2.1
        rw [hg] at this
        have := Option.some.inj this
        omega
      · rw [nI_ltI (by omega) (by omega)] at q2
        refine ok_call C1 ?_
        dsimp only
        cases hc : nC N v (j + 1) with
        | none =>
          refine ok_pos rfl (ok_some ⟨LA.rfl, Or.inr ⟨rfl, ?_⟩⟩)
          rintro ⟨g', c, r, -⟩
          have := r.2.2.2.2
          rw [hc] at this
          exact absurd this (by simp)
        | some c =>
          have hcb := C2 c hc
          have hr : Rd N v i (j + 1) g c := ⟨hv, hij, hj, hg, hc⟩
          have C1' : f_X10_coming (nI v) (nI (j + 1)) s = some (nI c, s) := by rw [C1, hc]; rfl
          show Ok (if nI c = -1 then _ else _) _
          refine ok_neg (nIm1 (by omega)) ?_
          rw [nI_add]
          refine ok_gi _ rfl (by omega) (ok_I ?_)
          rw [nI_clamp (by omega), P2]
          refine ok_ite (fun z => ?_) (fun z => ?_)
          · have z' : left = 0 := by
              rw [← nI_0, nI_eq (by omega) (by omega)] at z
              exact z
            refine ok_ite (fun y => ?_) (fun y => ?_)
            · rw [nI_eq (by omega) (by omega)] at y
              refine ok_call C1' ?_
              dsimp only
              refine ok_ite (fun x => ?_) (fun x => ?_)
              · rw [nI_eq (by omega) (by omega)] at x
                exact ok_some ⟨LA.rfl, Or.inl ⟨rfl, g, c, hr, q, by omega, Or.inl ⟨z', y, x⟩⟩⟩
              · rw [nI_eq (by omega) (by omega)] at x
                refine ok_some ⟨LA.rfl, Or.inr ⟨rfl, ?_⟩⟩
                rintro ⟨g', c', r, -, -, h4⟩
                have := r.2.2.2.2
                rw [hc] at this
                have := Option.some.inj this
                rcases h4 with ⟨-, -, h4⟩ | ⟨h4, -⟩ <;> omega
            · rw [nI_eq (by omega) (by omega)] at y
              refine ok_some ⟨LA.rfl, Or.inr ⟨rfl, ?_⟩⟩
              rintro ⟨g', c', r, -, -, h4⟩
              rcases h4 with ⟨-, h4, -⟩ | ⟨h4, -⟩
              · exact y h4
              · omega
          · have z' : 0 < left := by
              rw [← nI_0, nI_eq (by omega) (by omega)] at z
              omega
            refine ok_call C1' ?_
            dsimp only
            rw [nI_1]
            refine ok_bind (e_earliest H hpj hb (by omega) hl) ?_
            rintro ⟨w, s'⟩ ⟨⟨x, w1, w2⟩, w3⟩
            dsimp only at w1 w3 ⊢
            have hx := gr_ref O hgo hr q (by omega) w2
            have hx1 := w2.1
            rw [w1]
            refine ok_ite (fun y => ?_) (fun y => ?_)
            · rw [nI_eq (by omega) (by omega)] at y
              exact ok_some ⟨w3, Or.inl ⟨rfl, g, c, hr, q, by omega, Or.inr ⟨z', hx.mp y⟩⟩⟩
            · rw [nI_eq (by omega) (by omega)] at y
              refine ok_some ⟨w3, Or.inr ⟨rfl, ?_⟩⟩
              rintro ⟨g', c', r, -, -, h4⟩
              have := r.2.2.2.2
              rw [hc] at this
              have := Option.some.inj this
              subst this
              rcases h4 with ⟨h4, -⟩ | ⟨-, h4⟩
              · omega
              · exact y (hx.mpr h4)
  · rw [P1, nI_eq (by omega) (by omega)] at q
    refine ok_some ⟨LA.rfl, Or.inr ⟨rfl, ?_⟩⟩
    rintro ⟨g, c, r, h2, -⟩
    exact q h2
def note3 (s : Sg) (k v i j : Nat) : Sg := up3 (up3 (up3 s 86 0 k (nI v)) 87 0 k (nI i)) 88 0 k (nI j)
def FRt (N : Nt) (p t b go left k : Nat) (s : Sg) (w : Int32 × Sg) : Prop := ∃ v i j s1, w = (1, note3 s1 k v i j) ∧ LA s1 s ∧ Lst N p t b go left v i j
theorem e_fS33 (k15 : Int32 → Int32 → Int32 → Int32 → Int32 → Int32 → Int32 → Int32 → Sg → Option (Int32 × Sg)) {s0 : Sg} {v i k : Nat} (H : NM s0 N) (hp : p < 8) (ht : t ≤ 1000000) (hb : b < 8) (hgo : go ≤ 100000) (hl : left ≤ 8) (hk : k < 8) (O : Opt N p t b go left) (hv : v < nN N) (hi : i < nG N v) (hK : ∀ s, LA s s0 → (∀ v' i' j', Dl v (i + 1) 0 v' i' j' → ¬ GR N p t b go left v' i' j') → Ok (k15 (nI k) (nI p) (nI t) (nI b) (nI go) (nI left) (nI v) (nI (i + 1)) s) (FRt N p t b go left k s0)) : ∀ (d j n : Nat) (s : Sg), j + d = nG N v + 1 → d < n → i < j → LA s s0 → (∀ v' i' j', Dl v i j v' i' j' → ¬ GR N p t b go left v' i' j') → Ok (f_X10_findsRide_L33 k15 n (nI k) (nI p) (nI t) (nI b) (nI go) (nI left) (nI v) (nI i) (nI j) s) (FRt N p t b go left k s0) := by
  have K := H.b.1
  have hv10 := K.1
  have hG := K.2.1 v hv
  intro d
  induction d with
  | zero =>
    intro j n s h1 h2 h3 h4 h5
    obtain ⟨n, rfl⟩ : ∃ m, n = m + 1 := ⟨n - 1, by omega⟩
    obtain ⟨B1, B2, B3⟩ := H s h4
    show Ok (f_X10_findsRide_B33 _ _ _ _ _ _ _ _ _ _ _ _) _
    unfold f_X10_findsRide_B33
    refine ok_gi v rfl (by omega) ?_
    rw [nI_clamp (by omega), (B3 v hv).1]
    refine ok_pos (nI_lt (by omega) (by omega)) ?_
    rw [nI_1]
    refine hK s h4 (fun v' i' j' hd hg => h5 v' i' j' ?_ hg)
    obtain ⟨g, c, r, -⟩ := hg
    have r2 := r.2.2.1
    unfold Dl at hd ⊢
    by_cases e : v' = v
    · subst e; omega
    · omega
  | succ d ih =>
    intro j n s h1 h2 h3 h4 h5
    obtain ⟨n, rfl⟩ : ∃ m, n = m + 1 := ⟨n - 1, by omega⟩
    obtain ⟨B1, B2, B3⟩ := H s h4
    show Ok (f_X10_findsRide_B33 _ _ _ _ _ _ _ _ _ _ _ _) _
    unfold f_X10_findsRide_B33
    refine ok_gi v rfl (by omega) ?_
    rw [nI_clamp (by omega), (B3 v hv).1]
    refine ok_neg (nI_nlt (by omega) (by omega)) ?_
    refine ok_bind (e_isRide (H.of h4) hp ht hb hgo hl O hv h3 (by omega)) ?_
    rintro ⟨w, s'⟩ ⟨w1, w2⟩
    dsimp only at w1 w2 ⊢
    rcases w2 with ⟨z1, z2⟩ | ⟨z1, z2⟩
    · refine ok_neg (by rw [z1]; decide) (ok_gi k rfl hk (ok_S (ok_gi k rfl hk (ok_S (ok_gi k rfl hk (ok_S (ok_some ?_)))))))
      rw [nI_clamp (by omega)]
      exact ⟨v, i, j, s', rfl, w1.trans h4, z2, h5⟩
    · refine ok_pos z1 ?_
      rw [nI_1]
      refine ih (j + 1) n s' (by omega) (by omega) (by omega) (w1.trans h4) (fun v' i' j' hd hg => ?_)
      by_cases e : v' = v ∧ i' = i ∧ j' = j
      · obtain ⟨rfl, rfl, rfl⟩ := e
        exact z2 hg
      · refine h5 v' i' j' ?_ hg
        unfold Dl at hd ⊢
        omega
theorem e_fS15 (k3 : Int32 → Int32 → Int32 → Int32 → Int32 → Int32 → Int32 → Sg → Option (Int32 × Sg)) {s0 : Sg} {v k : Nat} (H : NM s0 N) (hp : p < 8) (ht : t ≤ 1000000) (hb : b < 8) (hgo : go ≤ 100000) (hl : left ≤ 8) (hk : k < 8) (O : Opt N p t b go left) (hv : v < nN N) (hK : ∀ s, LA s s0 → (∀ v' i' j', Dl (v + 1) 0 0 v' i' j' → ¬ GR N p t b go left v' i' j') → Ok (k3 (nI k) (nI p) (nI t) (nI b) (nI go) (nI left) (nI (v + 1)) s) (FRt N p t b go left k s0)) : ∀ (d i n : Nat) (s : Sg), i + d = nG N v → d < n → LA s s0 → (∀ v' i' j', Dl v i 0 v' i' j' → ¬ GR N p t b go left v' i' j') → Ok (f_X10_findsRide_L15 k3 n (nI k) (nI p) (nI t) (nI b) (nI go) (nI left) (nI v) (nI i) s) (FRt N p t b go left k s0) := by
  have K := H.b.1
  have hv10 := K.1
  have hG := K.2.1 v hv
  intro d
  induction d with
  | zero =>
    intro i n s h1 h2 h4 h5
    obtain ⟨n, rfl⟩ : ∃ m, n = m + 1 := ⟨n - 1, by omega⟩
    obtain ⟨B1, B2, B3⟩ := H s h4
    show Ok (f_X10_findsRide_B15 _ _ _ _ _ _ _ _ _ _ _) _
    unfold f_X10_findsRide_B15
    refine ok_gi v rfl (by omega) ?_
    rw [nI_clamp (by omega), (B3 v hv).1]
    refine ok_pos (nI_le (by omega) (by omega)) ?_
    rw [nI_1]
    refine hK s h4 (fun v' i' j' hd hg => h5 v' i' j' ?_ hg)
    obtain ⟨g, c, r, -⟩ := hg
    have r1 := r.2.1
    have r2 := r.2.2.1
    unfold Dl at hd ⊢
    by_cases e : v' = v
    · subst e; omega
    · omega
  | succ d ih =>
    intro i n s h1 h2 h4 h5
    obtain ⟨n, rfl⟩ : ∃ m, n = m + 1 := ⟨n - 1, by omega⟩
    obtain ⟨B1, B2, B3⟩ := H s h4
    show Ok (f_X10_findsRide_B15 _ _ _ _ _ _ _ _ _ _ _) _
    unfold f_X10_findsRide_B15
    refine ok_gi v rfl (by omega) ?_
    rw [nI_clamp (by omega), (B3 v hv).1]
    refine ok_neg (nI_ge (by omega) (by omega)) (ok_I ?_)
    rw [nI_1]
    refine e_fS33 _ H hp ht hb hgo hl hk O hv (by omega) (fun s' a1 a2 => ih (i + 1) n s' (by omega) (by omega) a1 a2) (nG N v - i) (i + 1) FU s (by omega) (by unfold FU; omega) (by omega) h4 (fun v' i' j' hd hg => h5 v' i' j' ?_ hg)
    obtain ⟨g, c, r, -⟩ := hg
    have r1 := r.2.1
    unfold Dl at hd ⊢
    omega
theorem e_fS3 {s0 : Sg} {k : Nat} (H : NM s0 N) (hp : p < 8) (ht : t ≤ 1000000) (hb : b < 8) (hgo : go ≤ 100000) (hl : left ≤ 8) (hk : k < 8) (O : Opt N p t b go left) : ∀ (d v n : Nat) (s : Sg), v + d = nN N → d < n → LA s s0 → (∀ v' i' j', Dl v 0 0 v' i' j' → ¬ GR N p t b go left v' i' j') → Ok (f_X10_findsRide_L3 n (nI k) (nI p) (nI t) (nI b) (nI go) (nI left) (nI v) s) (FRt N p t b go left k s0) := by
  have K := H.b.1
  have hv10 := K.1
  intro d
  induction d with
  | zero =>
    intro v n s h1 h2 h4 h5
    obtain ⟨v', i', j', hg⟩ := gr_ex O
    obtain ⟨g, c, r, -⟩ := id hg
    refine absurd hg (h5 v' i' j' ?_)
    have := r.1
    unfold Dl
    omega
  | succ d ih =>
    intro v n s h1 h2 h4 h5
    obtain ⟨n, rfl⟩ : ∃ m, n = m + 1 := ⟨n - 1, by omega⟩
    obtain ⟨B1, B2, B3⟩ := H s h4
    have hG := K.2.1 v (by omega)
    show Ok (f_X10_findsRide_B3 _ _ _ _ _ _ _ _ _) _
    unfold f_X10_findsRide_B3
    rw [B2]
    refine ok_neg (by rw [nI_leI (by omega) (by omega)]; omega) ?_
    exact e_fS15 _ H hp ht hb hgo hl hk O (by omega) (fun s' a1 a2 => ih (v + 1) n s' (by omega) (by omega) a1 a2) (nG N v) 0 FU s (by omega) (by unfold FU; omega) h4 h5
theorem e_findsRide {s : Sg} {k : Nat} (H : NM s N) (hp : p < 8) (ht : t ≤ 1000000) (hb : b < 8) (hgo : go ≤ 100000) (hl : left ≤ 8) (hk : k < 8) (O : Opt N p t b go left) : Ok (f_X10_findsRide (nI k) (nI p) (nI t) (nI b) (nI go) (nI left) s) (FRt N p t b go left k s) := by
  have hv10 := H.b.1.1
  unfold f_X10_findsRide
  refine e_fS3 H hp ht hb hgo hl hk O (nN N) 0 FU s (by omega) (by unfold FU; omega) LA.rfl ?_
  intro v' i' j' hd
  unfold Dl at hd
  omega
/-- the rides as they are kept in the reference -/
def SM (s : Sg) : Nat → List (Nat × Nat × Nat) → Prop
  | _, [] => True
  | m, x :: r => (s 86 0 m = nI x.1 ∧ s 87 0 m = nI x.2.1 ∧ s 88 0 m = nI x.2.2) ∧ SM s (m + 1) r
def mAg (s' s : Sg) (k : Nat) : Prop := LB s' s ∧ s' 10 0 55 = s 10 0 55 ∧ ∀ m, m < k → s' 86 0 m = s 86 0 m ∧ s' 87 0 m = s 87 0 m ∧ s' 88 0 m = s 88 0 m
theorem e_f83 {s0 : Sg} {n0 : Nat} (hb : b < 8) (hgo : go ≤ 100000) (H0 : NB s0 N) (hn0 : n0 ≤ 8) : ∀ (n p t k fu : Nat) (s : Sg), n + k = n0 → n < fu → p < 8 → t ≤ 1000000 → OptN N b go n p t → LB s s0 → Ok (f_X10_first_L83 fu (nI b) (nI go) (nI n0) (nI p) (nI t) (nI k) s) (fun w => w.1 = nI go ∧ ∃ l, RdL N b go n p t l ∧ SM w.2 k l ∧ mAg w.2 s k) := by
  intro n
  induction n with
  | zero =>
    intro p t k fu s h1 h2 h3 h4 h5 h6
    obtain ⟨fu, rfl⟩ : ∃ m, fu = m + 1 := ⟨fu - 1, by omega⟩
    show Ok (f_X10_first_B83 _ _ _ _ _ _ _ _) _
    unfold f_X10_first_B83
    exact ok_pos (nI_le (by omega) (by omega)) (ok_some ⟨rfl, [], rfl, trivial, LB.rfl, rfl, fun _ _ => ⟨rfl, rfl, rfl⟩⟩)
  | succ n ih =>
    intro p t k fu s h1 h2 h3 h4 h5 h6
    obtain ⟨fu, rfl⟩ : ∃ m, fu = m + 1 := ⟨fu - 1, by omega⟩
    have HB := H0.of h6
    have O : Opt N p t b go n := h5
    show Ok (f_X10_first_B83 _ _ _ _ _ _ _ _) _
    unfold f_X10_first_B83
    refine ok_neg (nI_ge (by omega) (by omega)) ?_
    have e1 : nI n0 - 1 - nI k = nI n := by
      rw [L_1, pk_sub (by omega), pk_sub (by omega)]
      congr 1; omega
    rw [e1]
    refine ok_bind (e_findsRide HB.m h3 h4 hb hgo (by omega) (show k < 8 by omega) O) ?_
    rintro ⟨w, s2⟩ ⟨v, i, j, s1, e, hA, hL⟩
    have e3 : s2 = note3 s1 k v i j := congrArg Prod.snd e
    subst e3
    obtain ⟨g, c, r, -⟩ := id hL.1
    have hv := r.1
    have hj := r.2.2.1
    have hij := r.2.1
    have hB2 : LB (note3 s1 k v i j) s := by
      unfold note3
      exact ((hA.B.up (by decide)).up (by decide)).up (by decide)
    obtain ⟨K, B2, B3⟩ := HB _ hB2
    have hv10 := K.1
    have hG := K.2.1 v hv
    have a1 : note3 s1 k v i j 86 0 k = nI v := by unfold note3; rw [up_k (by decide), up_k (by decide), up_s]
    have a2 : note3 s1 k v i j 87 0 k = nI i := by unfold note3; rw [up_k (by decide), up_s]
    have a3 : note3 s1 k v i j 88 0 k = nI j := by unfold note3; rw [up_s]
    have a4 : ∀ m, m < k → note3 s1 k v i j 86 0 m = s 86 0 m ∧ note3 s1 k v i j 87 0 m = s 87 0 m ∧ note3 s1 k v i j 88 0 m = s 88 0 m := by
      intro m hm
      unfold note3
      refine ⟨?_, ?_, ?_⟩
      · rw [up_k (by decide), up_k (by decide), up_j (by omega), hA.1 86 (by decide)]
      · rw [up_k (by decide), up_j (by omega), up_k (by decide), hA.1 87 (by decide)]
      · rw [up_j (by omega), up_k (by decide), up_k (by decide), hA.1 88 (by decide)]
    have a5 : note3 s1 k v i j 10 0 55 = s 10 0 55 := by
      unfold note3
      rw [up_k (by decide), up_k (by decide), up_k (by decide), hA.1 10 (by decide)]
    generalize note3 s1 k v i j = s2 at a1 a2 a3 a4 a5 hB2 B2 B3 ⊢
    dsimp only
    have hcb := (B3 v hv).2.2.2 (j - 1) (by omega)
    rw [show j - 1 + 1 = j by omega, r.2.2.2.2] at hcb
    obtain ⟨C1, C2⟩ := hcb
    have hc := C2 c rfl
    refine ok_gi k rfl (by omega) (ok_gi k rfl (by omega) ?_)
    rw [nI_clamp (show k < 2 ^ 31 by omega), a1, a3, L_7, pk_mul, nI_add]
    refine ok_gi _ rfl (by omega) (ok_I (ok_gi k rfl (by omega) (ok_gi k rfl (by omega) ?_)))
    refine ok_call C1 (ok_I ?_)
    dsimp only
    rw [nI_clamp (show 7 * v + j < 2 ^ 31 by omega), (B3 v hv).2.1 j hj]
    show Ok (f_X10_first_L83 fu _ _ _ _ (nI c + 1) _ _) _
    rw [nI_1, nI_1]
    refine Ok.mono (ih (nP N v j) (c + 1) (k + 1) fu s2 (by omega) (by omega) (K.2.2.1 v j hv hj) (by omega) (gr_next O hL.1 r.2.2.2.2) (hB2.trans h6)) ?_
    rintro ⟨w', s'⟩ ⟨b1, l, b2, b3, b4, b5, b6⟩
    dsimp only at b1 b3 b4 b5 b6 ⊢
    obtain ⟨y1, y2, y3⟩ := b6 k (by omega)
    refine ⟨b1, (v, i, j) :: l, ⟨v, i, j, c, l, rfl, hL, r.2.2.2.2, b2⟩, ⟨⟨?_, ?_, ?_⟩, b3⟩, b4.trans hB2, b5.trans a5, fun m hm => ?_⟩
    · exact y1.trans a1
    · exact y2.trans a2
    · exact y3.trans a3
    · obtain ⟨x1, x2, x3⟩ := b6 m (by omega)
      obtain ⟨u1, u2, u3⟩ := a4 m hm
      exact ⟨x1.trans u1, x2.trans u2, x3.trans u3⟩
theorem e_f45 {s0 : Sg} {a h : Nat} (hb : b < 8) (ha : a < 8) (hab : ¬ a = b) (hh : h ≤ 20000) (hgo : go ≤ 100000) (H0 : NB s0 N) (hmin : ∀ r c, Re N r a h b c → go ≤ c) (hre : Re N 8 a h b go) : ∀ (d n fu : Nat) (s : Sg), n + d = 8 → d < fu → 1 ≤ n → LA s s0 → ¬ Re N (n - 1) a h b go → Ok (f_X10_first_L45 (f_X10_first_L83 FU) fu (nI a) (nI b) (nI h) (nI go) (nI n) s) (fun w => w.1 = nI go ∧ ∃ n l, n < 8 ∧ Opt N a h b go n ∧ RdL N b go (n + 1) a h l ∧ SM w.2 0 l ∧ w.2 10 0 55 = nI (n + 1) ∧ LB w.2 s0) := by
  intro d
  induction d with
  | zero =>
    intro n fu s h1 h2 h3 h4 h5
    obtain ⟨fu, rfl⟩ : ∃ m, fu = m + 1 := ⟨fu - 1, by omega⟩
    have : n = 8 := by omega
    subst this
    exfalso
    obtain ⟨c', y1, y2, -⟩ := re_seven (H0.m.b.1) ha hab hre
    have := hmin _ _ y2
    have : c' = go := by omega
    subst this
    exact h5 y2
  | succ d ih =>
    intro n fu s h1 h2 h3 h4 h5
    obtain ⟨fu, rfl⟩ : ∃ m, fu = m + 1 := ⟨fu - 1, by omega⟩
    show Ok (f_X10_first_B45 _ _ _ _ _ _ _ _) _
    unfold f_X10_first_B45
    refine ok_bind (e_earliest (H0.m.of h4) ha hb (by omega) (show n ≤ 8 by omega)) ?_
    rintro ⟨w, s'⟩ ⟨⟨x, w1, w2⟩, w3⟩
    dsimp only at w1 w3 ⊢
    have hx1 := w2.1
    rw [w1]
    refine ok_ite (fun y => ?_) (fun y => ?_)
    · rw [nI_eq (by omega) (by omega)] at y
      subst y
      have hR : Re N n a h b x := by
        rcases w2.2.1 with e | e
        · omega
        · exact e
      obtain ⟨n, rfl⟩ : ∃ m, n = m + 1 := ⟨n - 1, by omega⟩
      have O : Opt N a h b x n := ⟨hR, hmin, h5⟩
      refine ok_S ?_
      have hLB : LB (up3 s' 10 0 55 (nI (n + 1))) s0 := ⟨((w3.trans h4).B.1).up (by decide), fun j hj => by rw [up_j hj]; exact (w3.trans h4).2 j hj⟩
      refine Ok.mono (e_f83 hb hgo H0 (show n + 1 ≤ 8 by omega) (n + 1) a h 0 FU _ (by omega) (by unfold FU; omega) ha (by omega) O hLB) ?_
      rintro ⟨w', s2⟩ ⟨b1, l, b2, b3, b4, b5, b6⟩
      exact ⟨b1, n, l, by omega, O, b2, b3, b5.trans up_s, b4.trans hLB⟩
    · rw [nI_eq (by omega) (by omega)] at y
      refine ok_I ?_
      rw [nI_1]
      refine ih (n + 1) fu s' (by omega) (by omega) (by omega) (w3.trans h4) (fun hr => y ?_)
      have := w2.2.2 go hr
      rcases w2.2.1 with e | e
      · omega
      · have := hmin _ _ e
        omega
/-- first() of the reference behind runs() -/
theorem e_firstM {s : Sg} {a h : Nat} (H0 : NB s N) (ha : a < 8) (hb : b < 8) (hab : ¬ a = b) (hh : h ≤ 20000) : Ok (Option.bind (f_X10_earliest (nI a) (nI h) (nI b) 8 s) fun q5 => if q5.1 = 1000000 then some (-1, q5.2) else (f_X10_first_L45 (f_X10_first_L83 FU) FU) (nI a) (nI b) (nI h) q5.1 1 q5.2) (fun w => (w.1 = -1 ∧ (∀ r c, ¬ Re N r a h b c) ∧ LA w.2 s) ∨ ∃ go n l, w.1 = nI go ∧ go ≤ 100000 ∧ n < 8 ∧ Opt N a h b go n ∧ RdL N b go (n + 1) a h l ∧ SM w.2 0 l ∧ w.2 10 0 55 = nI (n + 1) ∧ LB w.2 s) := by
  have K := H0.m.b.1
  refine ok_bind (e_earliest (r := 8) H0.m ha hb (by omega) (by omega)) ?_
  rintro ⟨w, s'⟩ ⟨⟨x, w1, w2⟩, w3⟩
  dsimp only at w1 w3 ⊢
  have hx1 := w2.1
  rw [w1]
  have all : ∀ r c, Re N r a h b c → x ≤ c := by
    intro r c hr
    obtain ⟨c', y1, y2, -⟩ := re_seven K ha hab hr
    have := w2.2.2 c' (re_mono y2 (by omega))
    omega
  have bd : ∀ r c, Re N r a h b c → c ≤ 100000 := by
    rintro r c ⟨n, n1, n2, n3⟩
    obtain ⟨n, rfl⟩ : ∃ m, n = m + 1 := ⟨n - 1, by omega⟩
    have := (pa_q K n3).2
    omega
  refine ok_ite (fun y => ?_) (fun y => ?_)
  · rw [show (1000000 : Int32) = nI 1000000 from rfl, nI_eq (by omega) (by omega)] at y
    refine ok_some (Or.inl ⟨rfl, fun r c hr => ?_, w3⟩)
    have := all r c hr
    have := bd r c hr
    omega
  · rw [show (1000000 : Int32) = nI 1000000 from rfl, nI_eq (by omega) (by omega)] at y
    have hR : Re N 8 a h b x := by
      rcases w2.2.1 with e | e
      · exact absurd e y
      · exact e
    have hx := bd 8 x hR
    refine Ok.mono (e_f45 hb ha hab hh hx H0 all hR 7 1 FU s' (by omega) (by decide) (by omega) w3 re_0) ?_
    rintro ⟨w', s2⟩ ⟨b1, n, l, b2, b3, b4, b5, b6, b7⟩
    exact Or.inr ⟨x, n, l, b1, hx, b2, b3, b4, b5, b6, b7⟩
end RIDM
