section LATX2
variable {N : Nt} {b H : Nat}
theorem GI'.D {r : Nat} {g f : Nat → Option Nat} {D D' : Nat → Nat → Nat → Prop} (h : GI' N b H r g f D) (hD : ∀ v i j x c, D' v i j → Rd N v i j x c → Gd N b H g v j c → geO (f (nP N v i)) x ∨ D v i j) : GI' N b H r g f D' := ⟨h.1, h.2.1, fun v i j x c h1 h2 h3 => by
  rcases hD v i j x c h1 h2 h3 with e | e
  · exact e
  · exact h.2.2 v i j x c e h2 h3⟩
theorem geO_up {f : Nat → Option Nat} {q x z t : Nat} (h : ¬ geO (f q) x) (hz : geO (f z) t) : geO (updO f q x z) t := by
  unfold updO
  by_cases e : z = q
  · rw [if_pos e]
    subst e
    obtain ⟨m, m1, m2⟩ := hz
    refine ⟨x, rfl, ?_⟩
    have : ¬ x ≤ m := fun y => h ⟨m, m1, y⟩
    omega
  · rw [if_neg e]; exact hz
theorem GT'.up {s0 s : Sg} {r q x : Nat} {f : Nat → Option Nat} (hq : q < 8) (h : GT' s0 r f s) : GT' s0 r (updO f q x) (up3 s 28 0 (8 * (r + 1) + q) (nI x)) := by
  refine ⟨h.1.up (by decide), fun z hz => ?_, fun j hj => ?_⟩
  · unfold updO
    by_cases e : z = q
    · subst e; rw [up_s, if_pos rfl]; rfl
    · rw [up_j (by omega), if_neg e]; exact h.2.1 z hz
  · rw [up_j (by omega)]; exact h.2.2 j hj
theorem e_goBackL {s0 : Sg} {g fs : Nat → Option Nat} {v r : Nat} (HN : NX s0 N) (hb : b < 8) (hH : H ≤ 1000000) (hr : r < 10) (hv : v < nN N) (hg : RowR N b H r g) (hg0 : RR s0 r g) : ∀ (k n : Nat) (s : Sg) (f : Nat → Option Nat) (ar la : Int32), k ≤ nG N v + 1 → k < n → GT' s0 r f s → GI' N b H r g f (Db v k) → AR N b H g v k ar → ((la = 0 ∧ ∀ q, q < 8 → f q = fs q) ∨ la = 1) → Ok (f_X4_goBack_L12 n v (nI v) (nI (r + 1)) (nI b) (nI H) ar la (nI k + (-1)) s) (fun w => ∃ f', GT' s0 r f' w.2 ∧ GI' N b H r g f' (Db (v + 1) 100) ∧ ((w.1 = 0 ∧ ∀ q, q < 8 → f' q = fs q) ∨ w.1 = 1)) := by
  have K := HN.1
  have hv10 := K.1
  have hG := K.2.1 v hv
  intro k
  induction k with
  | zero =>
    intro n s f ar la h1 h2 h3 h4 h5 h6
    obtain ⟨n, rfl⟩ : ∃ m, n = m + 1 := ⟨n - 1, by omega⟩
    show Ok (f_X4_goBack_B12 _ _ _ _ _ _ _ _ _ _) _
    unfold f_X4_goBack_B12
    refine ok_pos (by decide) (ok_chk ?_ (ok_some ⟨f, h3, h4.D ?_, h6⟩))
    · rcases h6 with ⟨e, -⟩ | e <;> rw [e] <;> rfl
    · intro v' i' j' x' c' d r e
      have := r.2.2.1
      have := r.2.1
      have := K.2.1 v' r.1
      right
      unfold Db at d ⊢
      omega
  | succ i ih =>
    intro n s f ar la h1 h2 h3 h4 h5 h6
    obtain ⟨n, rfl⟩ : ∃ m, n = m + 1 := ⟨n - 1, by omega⟩
    obtain ⟨-, B2, B3⟩ := HN.of (h3.1.sub (by decide))
    have hi : i ≤ nG N v := by omega
    have hpi := K.2.2.1 v i hv hi
    obtain ⟨C1, C2, C3, C4, C5⟩ := (B3 v hv).2 i hi
    have hfb : bdO (f (nP N v i)) := fun m hm => (h4.1 _ hpi m hm).1
    have e1 : nI v * 7 + nI i = nI (7 * v + i) := by rw [L_7, pk_mul, nI_add, Nat.mul_comm]
    have e2 : nI (r + 1) * 8 + nI (nP N v i) = nI (8 * (r + 1) + nP N v i) := by rw [L_8, pk_mul, nI_add, Nat.mul_comm]
    have go : (∀ j x c, Rd N v i j x c → Gd N b H g v j c → geO (f (nP N v i)) x) → Ok (f_X4_goBack_B79 (f_X4_goBack_L12 n) v (nI v) (nI (r + 1)) (nI b) (nI H) ar la (nI i) (nI (7 * v + i)) s) (fun w => ∃ f', GT' s0 r f' w.2 ∧ GI' N b H r g f' (Db (v + 1) 100) ∧ ((w.1 = 0 ∧ ∀ q, q < 8 → f' q = fs q) ∨ w.1 = 1)) := by
      intro hn
      refine e_G79 _ HN hb hH hr hv hi hg hg0 h3 h5 (fun ar' ha => ih n s f ar' la (by omega) (by omega) h3 (h4.D ?_) ha h6)
      intro v' i' j' x' c' d r e
      by_cases q : v' = v ∧ i' = i
      · obtain ⟨rfl, rfl⟩ := q
        exact Or.inl (hn j' x' c' r e)
      · right
        unfold Db at d ⊢
        omega
    rw [m1I]
    show Ok (f_X4_goBack_B12 _ _ _ _ _ _ _ _ _ _) _
    unfold f_X4_goBack_B12
    refine ok_neg (nI_pos (by omega)) (ok_I (ok_gi i rfl (by omega) (ok_I ?_)))
    rw [nI_clamp (show i < 2 ^ 31 by omega), C1, e1, e2]
    rcases h5 with ⟨a1, a2⟩ | ⟨a1, j0, c0, b1, b2, b3, b4⟩
    · refine ok_pos a1 (go ?_)
      intro j x c r' e
      have e2 : cX N v j = some c := by
        unfold cX
        rw [if_neg (by have := r'.2.1; omega)]
        exact r'.2.2.2.2
      exact absurd e (a2 j c r'.2.1 r'.2.2.1 e2)
    · refine ok_neg (by rw [a1]; decide) (ok_gi _ rfl (by omega) (ok_gi _ rfl (by omega) ?_))
      rw [nI_clamp (show 7 * v + i < 2 ^ 31 by omega), nI_clamp (show 8 * (r + 1) + nP N v i < 2 ^ 31 by omega), C3, h3.2.1 _ hpi]
      refine ok_ite (fun q => ?_) (fun q => ?_)
      · rw [oI_leO C5 hfb] at q
        refine go ?_
        intro j x c r' e
        refine q x ?_
        unfold lX
        rw [if_pos (by have := r'.2.1; have := r'.2.2.1; omega)]
        exact r'.2.2.2.1
      · rw [oI_leO C5 hfb] at q
        obtain ⟨x, q1, q2⟩ : ∃ x, lX N v i = some x ∧ ¬ geO (f (nP N v i)) x := by
          refine Classical.byContradiction fun hx => q (fun x hx1 => Classical.not_not.mp (fun hx2 => hx ⟨x, hx1, hx2⟩))
        obtain ⟨l1, l2⟩ := lX_some q1
        obtain ⟨c1, c2⟩ := cX_some b3
        have hrd : Rd N v i j0 x c0 := ⟨hv, b1, b2, l2, c2⟩
        refine ok_gi _ rfl (by omega) (ok_gi _ rfl (by omega) (ok_S ?_))
        rw [q1]
        have hT : GT' s0 r (updO f (nP N v i) x) (up3 s 28 0 (8 * (r + 1) + nP N v i) (oI (some x))) := h3.up hpi
        have hI : GI' N b H r g (updO f (nP N v i) x) (Db v i) := by
          refine ⟨fun z hz m hm => ?_, fun z t hz ht => geO_up q2 (h4.2.1 z t hz ht), fun v' i' j' x' c' d r' e => ?_⟩
          · by_cases e : z = nP N v i
            · unfold updO at hm
              rw [if_pos e] at hm
              have hmx := Option.some.inj hm
              subst hmx
              have hxb := C5 x q1
              refine ⟨hxb, ?_⟩
              have hpj := K.2.2.1 v j0 hv b2
              rcases b4 with ⟨g1, g2⟩ | ⟨m, g1, g2⟩
              · exact ⟨c0, g2, re_succ.mpr ⟨v, i, j0, x, c0, hrd, e.symm, Nat.le_refl _, Or.inl ⟨g1, rfl⟩⟩⟩
              · obtain ⟨-, c', y1, y2⟩ := hg.1 _ hpj m g1
                exact ⟨c', y1, re_succ.mpr ⟨v, i, j0, x, c0, hrd, e.symm, Nat.le_refl _, Or.inr (re_t y2 g2)⟩⟩
            · unfold updO at hm
              rw [if_neg e] at hm
              exact h4.1 z hz m hm
          · by_cases y : v' = v ∧ i' = i
            · obtain ⟨rfl, rfl⟩ := y
              have e1 := r'.2.2.2.1
              rw [l2] at e1
              have := Option.some.inj e1
              subst this
              unfold updO
              rw [if_pos rfl]
              exact ⟨x, rfl, Nat.le_refl _⟩
            · refine geO_up q2 (h4.2.2 v' i' j' x' c' ?_ r' e)
              unfold Db at d ⊢
              omega
        exact e_G79 _ HN hb hH hr hv hi hg hg0 hT (Or.inr ⟨a1, j0, c0, b1, b2, b3, b4⟩) (fun ar' ha => ih n _ _ ar' 1 (by omega) (by omega) hT hI ha (Or.inr rfl))
theorem e_goBack {s0 s : Sg} {g f : Nat → Option Nat} {v r : Nat} (HN : NX s0 N) (hb : b < 8) (hH : H ≤ 1000000) (hr : r < 10) (hv : v < nN N) (hg : RowR N b H r g) (hg0 : RR s0 r g) (hT : GT' s0 r f s) (hI : GI' N b H r g f (Db v 100)) : Ok (f_X4_goBack v (nI v) (nI (r + 1)) (nI b) (nI H) s) (fun w => ∃ f', GT' s0 r f' w.2 ∧ GI' N b H r g f' (Db (v + 1) 100) ∧ ((w.1 = 0 ∧ ∀ q, q < 8 → f' q = f q) ∨ w.1 = 1)) := by
  have K := HN.1
  have hG := K.2.1 v hv
  have HS := HN.of (hT.1.sub (by decide))
  unfold f_X4_goBack
  rw [(HS.2.2 v hv).1]
  refine ok_I ?_
  rw [← m1I (nG N v)]
  refine e_goBackL HN hb hH hr hv hg hg0 (nG N v + 1) FU s f 0 0 (Nat.le_refl _) (by unfold FU; omega) hT (hI.D ?_) (Or.inl ⟨rfl, fun j c h1 h2 => absurd h2 (by omega)⟩) (Or.inl ⟨rfl, fun _ _ => rfl⟩)
  intro v' i' j' x' c' d r e
  have := r.2.2.1
  have := r.2.1
  have := K.2.1 v' r.1
  right
  unfold Db at d ⊢
  by_cases z : v' = v
  · subst z; omega
  · omega
end LATX2
