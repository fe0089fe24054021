/-! letters, class: firstComing() -/
def cX (N : Nt) (v i : Nat) : Option Nat := if i = 0 then none else nC N v i
def lX (N : Nt) (v i : Nat) : Option Nat := if i < nG N v then nL N v i else none
def NX (s : Sg) (N : Nt) : Prop := Nok N ∧ s 0 0 2 = nI (nN N) ∧ ∀ v, v < nN N → s 8 v 4 = nI (nG N v) ∧ ∀ i, i ≤ nG N v → s 36 v i = nI (nP N v i) ∧ s 25 0 (7 * v + i) = oI (cX N v i) ∧ s 26 0 (7 * v + i) = oI (lX N v i) ∧ bdO (cX N v i) ∧ bdO (lX N v i)
theorem NX.of {s s' : Sg} {N : Nt} (h : NX s N) (hs : Ag [4, 27, 28, 29] s' s) : NX s' N := by
  obtain ⟨h1, h2, h3⟩ := h
  refine ⟨h1, by rw [hs 0 (by decide)]; exact h2, fun v hv => ?_⟩
  rw [hs 8 (by decide), hs 36 (by decide), hs 25 (by decide), hs 26 (by decide)]
  exact h3 v hv
def Dc (v0 i0 v _i j : Nat) : Prop := v < v0 ∨ v = v0 ∧ j < i0
section FIRX
variable {N : Nt} {p t : Nat}
def CS (N : Nt) (p t : Nat) (f : Nat → Nat) : Prop := ∀ q, q < 8 → f q ≤ 1000000 ∧ (f q = 1000000 ∨ ∃ n, Pa N n p t q (f q))
/-- the state of a round of firstComing() -/
def CI (N : Nt) (p t : Nat) (f0 f : Nat → Nat) (D : Nat → Nat → Nat → Prop) : Prop := (∀ q, q < 8 → f q ≤ f0 q) ∧ CS N p t f ∧ ∀ v i j x c, D v i j → Rd N v i j x c → f0 (nP N v i) ≤ x → f (nP N v j) ≤ c + 1
theorem CI.D {f0 f : Nat → Nat} {D D' : Nat → Nat → Nat → Prop} (h : CI N p t f0 f D) (hD : ∀ v i j x c, D' v i j → Rd N v i j x c → f0 (nP N v i) ≤ x → f (nP N v j) ≤ c + 1 ∨ D v i j) : CI N p t f0 f D' := ⟨h.1, h.2.1, fun v i j x c h1 h2 h3 => by
  rcases hD v i j x c h1 h2 h3 with e | e
  · exact e
  · exact h.2.2 v i j x c e h2 h3⟩
/-- aboard, or not -/
def AB (N : Nt) (p t : Nat) (f0 : Nat → Nat) (v i : Nat) (ab : Int32) : Prop := (ab = 0 ∧ ∀ i' x, i' < i → lX N v i' = some x → ¬ f0 (nP N v i') ≤ x) ∨ (ab = 1 ∧ ∃ i' x n u, i' < i ∧ lX N v i' = some x ∧ Pa N n p t (nP N v i') u ∧ u ≤ x)
theorem lX_some {v i x : Nat} (h : lX N v i = some x) : i < nG N v ∧ nL N v i = some x := by
  unfold lX at h
  by_cases e : i < nG N v
  · rw [if_pos e] at h; exact ⟨e, h⟩
  · rw [if_neg e] at h; exact absurd h (by simp)
theorem cX_some {v i c : Nat} (h : cX N v i = some c) : 0 < i ∧ nC N v i = some c := by
  unfold cX at h
  by_cases e : i = 0
  · rw [if_pos e] at h; exact absurd h (by simp)
  · rw [if_neg e] at h; exact ⟨by omega, h⟩
theorem e_C78 (k8 : Nat → Int32 → Int32 → Int32 → Int32 → Sg → Option (Int32 × Sg)) {s0 s : Sg} {f0 f fs : Nat → Nat} {P : Int32 × Sg → Prop} {v i : Nat} {ab ear : Int32} (HN : NX s0 N) (hv : v < nN N) (hi : i ≤ nG N v) (hag : Ag [27] s s0) (hF : FR s 27 f) (hC : CI N p t f0 f (Dc v (i + 1))) (hA : AB N p t f0 v i ab) (hK : ∀ ab', AB N p t f0 v (i + 1) ab' → Ok (k8 v (nI v) ab' ear (nI (i + 1)) s) P) : Ok (f_X4_carry_B78 k8 v (nI v) ab ear (nI i) (nI (nP N v i)) s) P := by
  obtain ⟨K, B2, B3⟩ := HN.of (hag.sub (by decide))
  have hv10 := K.1
  have hG := K.2.1 v hv
  have hpi := K.2.2.1 v i hv hi
  obtain ⟨C1, C2, C3, C4, C5⟩ := (B3 v hv).2 i hi
  have hfb := (hC.2.1 _ hpi).1
  unfold f_X4_carry_B78
  have e1 : nI v * 7 + nI i = nI (7 * v + i) := by rw [L_7, pk_mul, nI_add, Nat.mul_comm]
  rw [e1]
  refine ok_gi _ rfl (by omega) (ok_gi _ rfl hpi ?_)
  rw [nI_clamp (by omega), nI_clamp (by omega), C3, hF _ hpi]
  refine ok_ite (fun q => ?_) (fun q => ?_)
  · rw [oI_lt C5 hfb] at q
    rw [nI_1]
    refine hK ab ?_
    rcases hA with ⟨a1, a2⟩ | ⟨a1, i', x, n, u, b1, b2⟩
    · refine Or.inl ⟨a1, fun i' x h1 h2 h3 => ?_⟩
      by_cases e : i' = i
      · subst e
        exact q ⟨x, h2, Nat.le_trans (hC.1 _ hpi) h3⟩
      · exact a2 i' x (by omega) h2 h3
    · exact Or.inr ⟨a1, i', x, n, u, by omega, b2⟩
  · rw [oI_lt C5 hfb] at q
    obtain ⟨x, q1, q2⟩ := Classical.not_not.mp q
    rw [nI_1]
    refine hK 1 (Or.inr ⟨rfl, i, x, ?_⟩)
    have := C5 x q1
    rcases (hC.2.1 _ hpi).2 with e | ⟨n, e⟩
    · omega
    · exact ⟨n, _, by omega, q1, e, q2⟩
theorem e_carryL {s0 : Sg} {f0 fs : Nat → Nat} {v : Nat} (HN : NX s0 N) (hv : v < nN N) : ∀ (d i n : Nat) (s : Sg) (f : Nat → Nat) (ab ear : Int32), i + d = nG N v + 1 → d < n → Ag [27] s s0 → FR s 27 f → CI N p t f0 f (Dc v i) → AB N p t f0 v i ab → ((ear = 0 ∧ ∀ q, q < 8 → f q = fs q) ∨ ear = 1) → Ok (f_X4_carry_L8 n v (nI v) ab ear (nI i) s) (fun w => Ag [27] w.2 s0 ∧ ∃ f', FR w.2 27 f' ∧ CI N p t f0 f' (Dc (v + 1) 0) ∧ ((w.1 = 0 ∧ ∀ q, q < 8 → f' q = fs q) ∨ w.1 = 1)) := by
  have K := HN.1
  have hv10 := K.1
  have hG := K.2.1 v hv
  intro d
  induction d with
  | zero =>
    intro i n s f ab ear h1 h2 h3 h4 h5 h6 h7
    obtain ⟨n, rfl⟩ : ∃ m, n = m + 1 := ⟨n - 1, by omega⟩
    obtain ⟨-, B2, B3⟩ := HN.of (h3.sub (by decide))
    show Ok (f_X4_carry_B8 _ _ _ _ _ _ _) _
    unfold f_X4_carry_B8
    rw [(B3 v hv).1]
    refine ok_pos (nI_lt (by omega) (by omega)) (ok_chk ?_ (ok_some ⟨h3, f, h4, h5.D ?_, h7⟩))
    · rcases h7 with ⟨e, -⟩ | e <;> rw [e] <;> rfl
    · intro v' i' j' x' c' d r e
      have := r.2.2.1
      right
      unfold Dc at d ⊢
      by_cases q : v' = v
      · subst q; omega
      · omega
  | succ d ih =>
    intro i n s f ab ear h1 h2 h3 h4 h5 h6 h7
    obtain ⟨n, rfl⟩ : ∃ m, n = m + 1 := ⟨n - 1, by omega⟩
    obtain ⟨-, B2, B3⟩ := HN.of (h3.sub (by decide))
    have hi : i ≤ nG N v := by omega
    have hpi := K.2.2.1 v i hv hi
    obtain ⟨C1, C2, C3, C4, C5⟩ := (B3 v hv).2 i hi
    have hfb := (h5.2.1 _ hpi).1
    have e1 : nI v * 7 + nI i = nI (7 * v + i) := by rw [L_7, pk_mul, nI_add, Nat.mul_comm]
    -- a ride ends here without news
    have go : (∀ i' x c, Rd N v i' i x c → f0 (nP N v i') ≤ x → f (nP N v i) ≤ c + 1) → Ok (f_X4_carry_B78 (f_X4_carry_L8 n) v (nI v) ab ear (nI i) (nI (nP N v i)) s) (fun w => Ag [27] w.2 s0 ∧ ∃ f', FR w.2 27 f' ∧ CI N p t f0 f' (Dc (v + 1) 0) ∧ ((w.1 = 0 ∧ ∀ q, q < 8 → f' q = fs q) ∨ w.1 = 1)) := by
      intro hn
      have h5' : CI N p t f0 f (Dc v (i + 1)) := by
        refine h5.D ?_
        intro v' i' j' x' c' d r e
        by_cases q : v' = v ∧ j' = i
        · obtain ⟨rfl, rfl⟩ := q
          exact Or.inl (hn i' x' c' r e)
        · right
          unfold Dc at d ⊢
          omega
      exact e_C78 _ (fs := fs) HN hv hi h3 h4 h5' h6 (fun ab' ha => ih (i + 1) n s f ab' ear (by omega) (by omega) h3 h4 h5' ha h7)
    show Ok (f_X4_carry_B8 _ _ _ _ _ _ _) _
    unfold f_X4_carry_B8
    rw [(B3 v hv).1]
    refine ok_neg (nI_nlt (by omega) (by omega)) (ok_gi i rfl (by omega) (ok_I ?_))
    rw [e1]
    refine ok_gi _ rfl (by omega) (ok_I ?_)
    rw [nI_clamp (by omega), nI_clamp (by omega), C1, C2]
    rcases h6 with ⟨a1, a2⟩ | ⟨a1, i0, x0, n0, u0, b1, b2, b3, b4⟩
    · refine ok_pos a1 (go ?_)
      intro i' x c r e
      have e2 : lX N v i' = some x := by
        unfold lX
        rw [if_pos (by have := r.2.1; have := r.2.2.1; omega)]
        exact r.2.2.2.1
      exact absurd e (a2 i' x r.2.1 e2)
    · refine ok_neg (by rw [a1]; decide) ?_
      cases hc : cX N v i with
      | none =>
        refine ok_pos rfl (go ?_)
        intro i' x c r e
        have r1 := r.2.1
        have r2 := r.2.2.2.2
        unfold cX at hc
        rw [if_neg (by omega), r2] at hc
        exact absurd hc (by simp)
      | some c =>
        have hcb := C4 c hc
        obtain ⟨c1, c2⟩ := cX_some hc
        obtain ⟨l1, l2⟩ := lX_some b2
        have hr : Rd N v i0 i x0 c := ⟨hv, b1, hi, l2, c2⟩
        show Ok (if nI c = -1 then _ else _) _
        refine ok_neg (nIm1 (by omega)) (ok_gi _ rfl hpi ?_)
        rw [nI_clamp (by omega)]
        have e27 := h4 _ hpi
        refine ok_ite (fun q => ?_) (fun q => ?_)
        · rw [e27] at q
          change nI _ ≤ nI c + 1 at q
          rw [nI_1, nI_leI (by omega) (by omega)] at q
          refine go ?_
          intro i' x c' r e
          have r2 := r.2.2.2.2
          rw [c2] at r2
          have := Option.some.inj r2
          omega
        · rw [e27] at q
          change ¬ nI _ ≤ nI c + 1 at q
          rw [nI_1, nI_leI (by omega) (by omega)] at q
          refine ok_gi _ rfl hpi (ok_S ?_)
          show Ok (f_X4_carry_B78 _ _ _ _ _ _ _ (up3 s 27 0 _ (nI c + 1))) _
          rw [nI_1]
          have hF := h4.up (j := nP N v i) (x := c + 1)
          have le' : ∀ q, updN f (nP N v i) (c + 1) q ≤ f q := by
            intro z
            unfold updN
            by_cases e : z = nP N v i
            · subst e; rw [if_pos rfl]; omega
            · rw [if_neg e]; exact Nat.le_refl _
          have hC : CI N p t f0 (updN f (nP N v i) (c + 1)) (Dc v (i + 1)) := by
            refine ⟨fun q hq => Nat.le_trans (le' q) (h5.1 q hq), fun q hq => ⟨Nat.le_trans (le' q) (h5.2.1 q hq).1, ?_⟩, fun v' i' j' x' c' d r e => ?_⟩
            · unfold updN
              by_cases e : q = nP N v i
              · subst e
                rw [if_pos rfl]
                exact Or.inr ⟨n0 + 1, pa_snoc b3 ⟨v, i0, i, x0, c, hr, rfl, b4, rfl, rfl⟩⟩
              · rw [if_neg e]; exact (h5.2.1 q hq).2
            · by_cases z : v' = v ∧ j' = i
              · obtain ⟨rfl, rfl⟩ := z
                have r2 := r.2.2.2.2
                rw [c2] at r2
                have := Option.some.inj r2
                unfold updN
                rw [if_pos rfl]
                omega
              · refine Nat.le_trans (le' _) (h5.2.2 v' i' j' x' c' ?_ r e)
                unfold Dc at d ⊢
                omega
          exact e_C78 _ (fs := fs) HN hv hi (h3.up (by decide)) hF hC (Or.inr ⟨a1, i0, x0, n0, u0, b1, b2, b3, b4⟩) (fun ab' ha => ih (i + 1) n _ _ ab' 1 (by omega) (by omega) (h3.up (by decide)) hF hC ha (Or.inr rfl))
theorem e_carry {s : Sg} {f0 f : Nat → Nat} {v : Nat} (HN : NX s N) (hv : v < nN N) (hF : FR s 27 f) (hC : CI N p t f0 f (Dc v 0)) : Ok (f_X4_carry v (nI v) s) (fun w => Ag [27] w.2 s ∧ ∃ f', FR w.2 27 f' ∧ CI N p t f0 f' (Dc (v + 1) 0) ∧ ((w.1 = 0 ∧ ∀ q, q < 8 → f' q = f q) ∨ w.1 = 1)) := by
  have hG := HN.1.2.1 v hv
  unfold f_X4_carry
  exact e_carryL HN hv (nG N v + 1) 0 FU s f 0 0 (by omega) (by unfold FU; omega) Ag.rfl hF hC (Or.inl ⟨rfl, fun i' x h => absurd h (Nat.not_lt_zero _)⟩) (Or.inl ⟨rfl, fun _ _ => rfl⟩)
theorem e_F41 (k23 : Int32 → Int32 → Int32 → Sg → Option (Int32 × Sg)) {s0 : Sg} {f0 : Nat → Nat} {P : Int32 × Sg → Prop} {b r : Int32} (HN : NX s0 N) (hK : ∀ s f ch, Ag [27] s s0 → FR s 27 f → CI N p t f0 f (fun _ _ _ => True) → ((ch = 0 ∧ ∀ q, q < 8 → f q = f0 q) ∨ ch = 1) → Ok (k23 b ch (r + 1) s) P) : ∀ (d v n : Nat) (s : Sg) (f : Nat → Nat) (ch : Int32), v + d = nN N → d < n → Ag [27] s s0 → FR s 27 f → CI N p t f0 f (Dc v 0) → ((ch = 0 ∧ ∀ q, q < 8 → f q = f0 q) ∨ ch = 1) → Ok (f_X4_firstComing_L41 k23 n b ch r (nI v) s) P := by
  have K := HN.1
  have hv10 := K.1
  intro d
  induction d with
  | zero =>
    intro v n s f ch h1 h2 h3 h4 h5 h6
    obtain ⟨n, rfl⟩ : ∃ m, n = m + 1 := ⟨n - 1, by omega⟩
    have HS := HN.of (h3.sub (by decide))
    show Ok (f_X4_firstComing_B41 _ _ _ _ _ _ _) _
    unfold f_X4_firstComing_B41
    rw [HS.2.1]
    refine ok_pos (by rw [nI_leI (by omega) (by omega)]; omega) ?_
    refine hK s f ch h3 h4 (h5.D ?_) h6
    intro v' i' j' x' c' d r e
    have := r.1
    right
    unfold Dc
    omega
  | succ d ih =>
    intro v n s f ch h1 h2 h3 h4 h5 h6
    obtain ⟨n, rfl⟩ : ∃ m, n = m + 1 := ⟨n - 1, by omega⟩
    have HS := HN.of (h3.sub (by decide))
    show Ok (f_X4_firstComing_B41 _ _ _ _ _ _ _) _
    unfold f_X4_firstComing_B41
    rw [HS.2.1]
    refine ok_neg (by rw [nI_leI (by omega) (by omega)]; omega) (ok_gi v rfl (by omega) ?_)
    rw [nI_clamp (by omega)]
    refine ok_bind (e_carry HS (by omega) h4 h5) ?_
    rintro ⟨w, s'⟩ ⟨a1, f', a2, a3, a4⟩
    dsimp only at a1 a2 a4 ⊢
    have hag : Ag [27] s' s0 := a1.trans h3 _ (fun k hk => ⟨hk, hk⟩)
    rw [nI_1]
    rcases a4 with ⟨z1, z2⟩ | z
    · refine ok_pos z1 (ih (v + 1) n s' f' ch (by omega) (by omega) hag a2 a3 ?_)
      rcases h6 with ⟨y1, y2⟩ | y
      · exact Or.inl ⟨y1, fun q hq => (z2 q hq).trans (y2 q hq)⟩
      · exact Or.inr y
    · refine ok_neg (by rw [z]; decide) (ih (v + 1) n s' f' 1 (by omega) (by omega) hag a2 a3 (Or.inr rfl))
/-- the least hour from which it lies in port q -/
def IA (N : Nt) (p t q s : Nat) : Prop := ∃ n, Pa N n p t q s
theorem pa8 (K : Nok N) (hp : p < 8) {n m u : Nat} (hn : Pa N n p t m u) : m < 8 := by
  cases n with
  | zero => obtain ⟨rfl, rfl⟩ := hn; exact hp
  | succ n => exact (pa_q K hn).1
theorem e_F81 {s : Sg} {f : Nat → Nat} {b : Nat} (hb : b < 8) (hF : FR s 27 f) (hf : f b ≤ 1000000) (h1 : 1 ≤ f b) : f_X4_firstComing_B81 (nI b) s = some (if f b = 1000000 then -1 else nI (f b - 1), s) := by
  unfold f_X4_firstComing_B81
  have e27 := hF b hb
  simp only [chk, gi_nI hb (by decide), if_true, nI_clamp (show b < 2 ^ 31 by omega), e27]
  by_cases e : f b = 1000000
  · rw [if_pos e, if_pos (by rw [e]; rfl)]
  · rw [if_neg e, if_neg (by rw [show (1000000 : Int32) = nI 1000000 from rfl, nI_eq (by omega) (by omega)]; exact e)]
    congr 2
    rw [L_1]
    have := nI_add (f b - 1) 1
    rw [show f b - 1 + 1 = f b by omega] at this
    rw [← this, Int32.add_sub_cancel]
theorem e_F23 {s0 : Sg} {b : Nat} (HN : NX s0 N) (hb : b < 8) (hp : p < 8) (hpb : ¬ p = b) (ht : t ≤ 20000) : ∀ (d k n : Nat) (s : Sg) (f : Nat → Nat) (ch : Int32), k + d = 10 → d < n → Ag [27] s s0 → FR s 27 f → CS N p t f → (∀ m q u, m ≤ k → Pa N m p t q u → f q ≤ u) → (ch = 1 ∨ (ch = 0 ∧ ∀ v i j x c, Rd N v i j x c → f (nP N v i) ≤ x → f (nP N v j) ≤ c + 1)) → Ok (f_X4_firstComing_L23 f_X4_firstComing_B81 n (nI b) ch (nI k) s) (fun w => (∃ y, Inf (IA N p t b) y ∧ w.1 = if y = 1000000 then -1 else nI (y - 1)) ∧ Ag [27] w.2 s0) := by
  have K := HN.1
  have fin : ∀ (s : Sg) (f : Nat → Nat), Ag [27] s s0 → FR s 27 f → CS N p t f → (∀ m u, Pa N m p t b u → f b ≤ u) → Ok (f_X4_firstComing_B81 (nI b) s) (fun w => (∃ y, Inf (IA N p t b) y ∧ w.1 = if y = 1000000 then -1 else nI (y - 1)) ∧ Ag [27] w.2 s0) := by
    intro s f h3 h4 h5 h6
    have hf := h5 b hb
    have h1 : 1 ≤ f b := by
      rcases hf.2 with e | ⟨n, e⟩
      · omega
      · cases n with
        | zero => exact absurd e.1 hpb
        | succ n => have := pa_le K e; omega
    exact ⟨_, e_F81 hb h4 hf.1 h1, ⟨f b, ⟨hf.1, hf.2, fun c ⟨n, hc⟩ => h6 n c hc⟩, rfl⟩, h3⟩
  intro d
  induction d with
  | zero =>
    intro k n s f ch h1 h2 h3 h4 h5 h6 h7
    obtain ⟨n, rfl⟩ : ∃ m, n = m + 1 := ⟨n - 1, by omega⟩
    show Ok (f_X4_firstComing_B23 _ _ _ _ _ _) _
    unfold f_X4_firstComing_B23
    refine ok_pos (by rw [L_10, nI_leI (by omega) (by omega)]; omega) (fin s f h3 h4 h5 ?_)
    intro m u hm
    obtain ⟨n', s', a1, a2, a3, a4⟩ := pa_seven K hp m u hm
    exact Nat.le_trans (h6 n' b s' (by omega) a4) a3
  | succ d ih =>
    intro k n s f ch h1 h2 h3 h4 h5 h6 h7
    obtain ⟨n, rfl⟩ : ∃ m, n = m + 1 := ⟨n - 1, by omega⟩
    have HS := HN.of (h3.sub (by decide))
    show Ok (f_X4_firstComing_B23 _ _ _ _ _ _) _
    unfold f_X4_firstComing_B23
    refine ok_neg (by rw [L_10, nI_leI (by omega) (by omega)]; omega) ?_
    rcases h7 with e | ⟨e, h8⟩
    · refine ok_neg (by rw [e]; decide) ?_
      refine e_F41 _ HS (f0 := f) (p := p) (t := t) (fun s' f' ch' a1 a2 a3 a4 => ?_) (nN N) 0 FU s f 0 (by omega) (by have := K.1; unfold FU; omega) Ag.rfl h4 ⟨fun q hq => Nat.le_refl _, h5, ?_⟩ (Or.inl ⟨rfl, fun _ _ => rfl⟩)
      · rw [nI_1]
        refine ih (k + 1) n s' f' ch' (by omega) (by omega) (a1.trans h3 _ (fun k hk => ⟨hk, hk⟩)) a2 a3.2.1 ?_ ?_
        · intro m q u hm hpa
          have hq := pa8 K hp hpa
          by_cases e : m ≤ k
          · exact Nat.le_trans (a3.1 q hq) (h6 m q u e hpa)
          · have : m = k + 1 := by omega
            subst this
            obtain ⟨m', u', b1, v, i, j, x, c, c1, c2, c3, c4, c5⟩ := pa_unsnoc hpa
            subst c2; subst c4; subst c5
            have := h6 k _ u' (Nat.le_refl _) b1
            exact a3.2.2 v i j x c trivial c1 (by omega)
        · rcases a4 with ⟨z1, z2⟩ | z
          · refine Or.inr ⟨z1, fun v i j x c r e => a3.2.2 v i j x c trivial r ?_⟩
            rw [← z2 _ (K.2.2.1 v i r.1 (by have := r.2.1; have := r.2.2.1; omega))]
            exact e
          · exact Or.inl z
      · intro v i j x c d
        unfold Dc at d
        omega
    · refine ok_pos e (fin s f h3 h4 h5 ?_)
      have all : ∀ m q u, Pa N m p t q u → f q ≤ u := by
        intro m
        induction m with
        | zero => intro q u hq; exact h6 0 q u (Nat.zero_le _) hq
        | succ m ihm =>
          intro q u hq
          obtain ⟨m', u', b1, v, i, j, x, c, c1, c2, c3, c4, c5⟩ := pa_unsnoc hq
          subst c2; subst c4; subst c5
          have := ihm _ _ b1
          exact h8 v i j x c c1 (by omega)
      exact fun m u => all m b u
theorem e_fill27 {x : Int32} {s0 : Sg} : ∀ (d q n : Nat) (s : Sg), q + d = 8 → d < n → Ag [27] s s0 → (∀ z, z < q → s 27 0 z = x) → Ok (f_J7_fill_27_L5 n x (nI q) 8 s) (fun s' => Ag [27] s' s0 ∧ ∀ z, z < 8 → s' 27 0 z = x) := by
  intro d
  induction d with
  | zero =>
    intro q n s h1 h2 h3 h4
    obtain ⟨n, rfl⟩ : ∃ m, n = m + 1 := ⟨n - 1, by omega⟩
    show Ok (f_J7_fill_27_B5 _ _ _ _ _) _
    unfold f_J7_fill_27_B5
    have : q = 8 := by omega
    subst this
    exact ok_pos (Int32.le_refl _) (ok_some ⟨h3, h4⟩)
  | succ d ih =>
    intro q n s h1 h2 h3 h4
    obtain ⟨n, rfl⟩ : ∃ m, n = m + 1 := ⟨n - 1, by omega⟩
    show Ok (f_J7_fill_27_B5 _ _ _ _ _) _
    unfold f_J7_fill_27_B5
    refine ok_neg (by rw [L_8, nI_leI (by omega) (by omega)]; omega) (ok_gi q rfl (by omega) (ok_S ?_))
    rw [nI_clamp (by omega), nI_1]
    refine ih (q + 1) n _ (by omega) (by omega) (h3.up (by decide)) ?_
    intro z hz
    by_cases e : z = q
    · subst e; rw [up_s]
    · rw [up_j e]; exact h4 z (by omega)
/-- what firstComing() gives -/
theorem e_firstComing {s : Sg} {b : Nat} (HN : NX s N) (hp : p < 8) (hb : b < 8) (hpb : ¬ p = b) (ht : t ≤ 20000) : Ok (f_X4_firstComing (nI p) (nI b) (nI t) s) (fun w => (∃ y, Inf (IA N p t b) y ∧ w.1 = if y = 1000000 then -1 else nI (y - 1)) ∧ Ag [27] w.2 s) := by
  unfold f_X4_firstComing f_J7_fill_27
  refine ok_bind (e_fill27 8 0 FU s (by omega) (by decide) Ag.rfl (fun z hz => absurd hz (Nat.not_lt_zero z))) ?_
  rintro s1 ⟨a1, a2⟩
  refine ok_gi p rfl hp (ok_S ?_)
  rw [nI_clamp (by omega)]
  have hF : FR (up3 s1 27 0 p (nI t)) 27 (fun q => if q = p then t else 1000000) := by
    intro q hq
    by_cases e : q = p
    · subst e; rw [up_s]; simp only [if_true]
    · rw [up_j e, a2 q hq]; simp only [if_neg e]; rfl
  refine e_F23 HN hb hp hpb ht 10 0 FU _ _ 1 (by omega) (by decide) (a1.up (by decide)) hF ?_ ?_ (Or.inl rfl)
  · intro q hq
    by_cases e : q = p
    · subst e; simp only [if_true]; exact ⟨by omega, Or.inr ⟨0, rfl, rfl⟩⟩
    · simp only [if_neg e]; exact ⟨Nat.le_refl _, Or.inl trivial⟩
  · intro m q u hm h
    have : m = 0 := by omega
    subst this
    obtain ⟨e1, e2⟩ := h
    simp only [if_pos e1.symm]
    omega
end FIRX
