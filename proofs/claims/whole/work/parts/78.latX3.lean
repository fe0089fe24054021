section LATX3
variable {N : Nt} {b H : Nat}
theorem GI'.row {r : Nat} {g f : Nat → Option Nat} (K : Nok N) (hg : RowR N b H r g) (h : GI' N b H r g f (fun _ _ _ => True)) : RowR N b H (r + 1) f := by
  refine ⟨h.1, fun q t c hq hc hre => ?_⟩
  obtain ⟨v, i, j, x, c1, a1, a2, a3, a4⟩ := re_succ.mp hre
  have hpj := K.2.2.1 v j a1.1 a1.2.2.1
  have hgd : Gd N b H g v j c1 := by
    rcases a4 with ⟨e1, e2⟩ | e
    · exact Or.inl ⟨e1, by omega⟩
    · exact Or.inr (hg.2 _ _ _ hpj hc e)
  obtain ⟨m, m1, m2⟩ := h.2.2 v i j x c1 trivial a1 hgd
  rw [a2] at m1
  exact ⟨m, m1, by omega⟩
theorem e_R62 (k19 : Int32 → Int32 → Int32 → Int32 → Sg → Option Sg) {s0 : Sg} {g f0 : Nat → Option Nat} {P : Sg → Prop} {r : Nat} (HN : NX s0 N) (hb : b < 8) (hH : H ≤ 1000000) (hr : r < 10) (hg : RowR N b H r g) (hg0 : RR s0 r g) (hK : ∀ s f ch, GT' s0 r f s → GI' N b H r g f (fun _ _ _ => True) → ((ch = 0 ∧ ∀ q, q < 8 → f q = f0 q) ∨ ch = 1) → Ok (k19 (nI b) (nI H) ch (nI (r + 2)) (up3 s 4 0 4 (nI (r + 1)))) P) : ∀ (d v n : Nat) (s : Sg) (f : Nat → Option Nat) (ch : Int32), v + d = nN N → d < n → GT' s0 r f s → GI' N b H r g f (Db v 100) → ((ch = 0 ∧ ∀ q, q < 8 → f q = f0 q) ∨ ch = 1) → Ok (f_X4_reckonLatest_L62 k19 n (nI b) (nI H) ch (nI (r + 1)) (nI v) s) P := by
  have K := HN.1
  have hv10 := K.1
  intro d
  induction d with
  | zero =>
    intro v n s f ch h1 h2 h3 h4 h5
    obtain ⟨n, rfl⟩ : ∃ m, n = m + 1 := ⟨n - 1, by omega⟩
    have HS := HN.of (h3.1.sub (by decide))
    show Ok (f_X4_reckonLatest_B62 _ _ _ _ _ _ _ _) _
    unfold f_X4_reckonLatest_B62
    rw [HS.2.1]
    refine ok_pos (by rw [nI_leI (by omega) (by omega)]; omega) (ok_S ?_)
    rw [nI_1]
    refine hK s f ch h3 (h4.D ?_) h5
    intro v' i' j' x' c' d r e
    have := r.1
    right
    unfold Db
    omega
  | succ d ih =>
    intro v n s f ch h1 h2 h3 h4 h5
    obtain ⟨n, rfl⟩ : ∃ m, n = m + 1 := ⟨n - 1, by omega⟩
    have HS := HN.of (h3.1.sub (by decide))
    show Ok (f_X4_reckonLatest_B62 _ _ _ _ _ _ _ _) _
    unfold f_X4_reckonLatest_B62
    rw [HS.2.1]
    refine ok_neg (by rw [nI_leI (by omega) (by omega)]; omega) (ok_gi v rfl (by omega) ?_)
    rw [nI_clamp (by omega)]
    refine ok_bind (e_goBack HN hb hH hr (by omega) hg hg0 h3 h4) ?_
    rintro ⟨w, s'⟩ ⟨f', a2, a3, a4⟩
    dsimp only at a2 a4 ⊢
    rw [nI_1]
    rcases a4 with ⟨z1, z2⟩ | z
    · refine ok_pos z1 (ih (v + 1) n s' f' ch (by omega) (by omega) a2 a3 ?_)
      rcases h5 with ⟨y1, y2⟩ | y
      · exact Or.inl ⟨y1, fun q hq => (z2 q hq).trans (y2 q hq)⟩
      · exact Or.inr y
    · exact ok_neg (by rw [z]; decide) (ih (v + 1) n s' f' 1 (by omega) (by omega) a2 a3 (Or.inr rfl))
/-- the rows as reckonLatest() leaves them -/
def RK (s : Sg) (N : Nt) (b H R : Nat) (L : Nat → Nat → Option Nat) : Prop := s 4 0 4 = nI R ∧ 1 ≤ R ∧ R ≤ 10 ∧ (∀ r, r ≤ R → RR s r (L r) ∧ RowR N b H r (L r)) ∧ ∀ q t c r, q < 8 → ¬ q = b → c ≤ H → Re N r q t b c → geO (L R q) t
def rAg (s s0 : Sg) : Prop := Ag [4, 28] s s0 ∧ ∀ j, ¬ j = 4 → s 4 0 j = s0 4 0 j
theorem e_R19 {s0 : Sg} (HN : NX s0 N) (hb : b < 8) (hH : H ≤ 1000000) : ∀ (d r n : Nat) (s : Sg) (L : Nat → Nat → Option Nat) (ch : Int32), r + d = 10 → d < n → rAg s s0 → (∀ r', r' ≤ r → RR s r' (L r') ∧ RowR N b H r' (L r')) → s 4 0 4 = nI r → (ch = 1 ∨ (ch = 0 ∧ 1 ≤ r ∧ Clo N b H (L r) (fun _ _ _ => True))) → Ok (f_X4_reckonLatest_L19 n (nI b) (nI H) ch (nI (r + 1)) s) (fun s' => rAg s' s0 ∧ ∃ R L, RK s' N b H R L) := by
  have K := HN.1
  intro d
  induction d with
  | zero =>
    intro r n s L ch h1 h2 h3 h4 h5 h6
    obtain ⟨n, rfl⟩ : ∃ m, n = m + 1 := ⟨n - 1, by omega⟩
    have : r = 10 := by omega
    subst this
    show Ok (f_X4_reckonLatest_B19 _ _ _ _ _ _) _
    unfold f_X4_reckonLatest_B19
    refine ok_pos (by decide) (ok_some ⟨h3, 10, L, h5, by omega, by omega, h4, ?_⟩)
    intro q t c r hq hqb hc hre
    obtain ⟨c', c1, c2, -⟩ := re_seven K hq hqb hre
    exact (h4 10 (by omega)).2.2 q t c' hq (by omega) (re_mono c2 (by omega))
  | succ d ih =>
    intro r n s L ch h1 h2 h3 h4 h5 h6
    obtain ⟨n, rfl⟩ : ∃ m, n = m + 1 := ⟨n - 1, by omega⟩
    show Ok (f_X4_reckonLatest_B19 _ _ _ _ _ _) _
    unfold f_X4_reckonLatest_B19
    refine ok_neg (by rw [L_10]; exact nI_nlt (by omega) (by omega)) ?_
    rcases h6 with e | ⟨e, e1, e2⟩
    · refine ok_neg (by rw [e]; decide) ?_
      have x1 : (nI (r + 1) - 1) * 8 = nI (8 * r) := by rw [← nI_1, Int32.add_sub_cancel, L_8, pk_mul, Nat.mul_comm]
      have x2 : nI (r + 1) * 8 = nI (8 * (r + 1)) := by rw [L_8, pk_mul, Nat.mul_comm]
      rw [x1, x2, L_8]
      have c1 : tn (nI (8 * r)) = 8 * r := nI_clamp (by omega)
      have c2 : tn (nI (8 * (r + 1))) = 8 * (r + 1) := nI_clamp (by omega)
      have c3 : tn (nI 8) = 8 := nI_clamp (by omega)
      refine ok_chk ?_ (ok_S ?_)
      · unfold cpok
        rw [c1, c2, c3]
        exact decide_eq_true ⟨nI_pos (by omega), nI_pos (by omega), nI_pos (by omega), by omega, by omega⟩
      · rw [nI_clamp (show 8 * r < 2 ^ 31 by omega), nI_clamp (show 8 * (r + 1) < 2 ^ 31 by omega), nI_clamp (show 8 < 2 ^ 31 by omega)]
        obtain ⟨hR, hW⟩ := h4 r (Nat.le_refl _)
        have hs1 : ∀ j, (row3 s 28 0 (va_cpy (s 28 0) (s 28 0) (8 * r) (8 * (r + 1)) 8)) 28 0 j = if 8 * (r + 1) ≤ j ∧ j < 8 * (r + 1) + 8 then s 28 0 (8 * r + (j - 8 * (r + 1))) else s 28 0 j := by
          intro j
          unfold row3 va_cpy
          rw [if_pos ⟨rfl, rfl⟩]
        have hag1 : Ag [28] (row3 s 28 0 (va_cpy (s 28 0) (s 28 0) (8 * r) (8 * (r + 1)) 8)) s := by
          intro k hk
          funext a
          unfold row3
          rw [if_neg (fun z => hk (by rw [z.1]; decide))]
        generalize row3 s 28 0 (va_cpy (s 28 0) (s 28 0) (8 * r) (8 * (r + 1)) 8) = s1 at hs1 hag1 ⊢
        have HN1 : NX s1 N := (HN.of (h3.1.sub (by decide))).of (hag1.sub (by decide))
        have rr1 : ∀ r', r' ≤ r → RR s1 r' (L r') := fun r' hr' q hq => by
          rw [hs1, if_neg (by omega)]
          exact (h4 r' hr').1 q hq
        have hT : GT' s1 r (L r) s1 := ⟨Ag.rfl, fun q hq => by
          rw [hs1, if_pos (by omega), show 8 * r + (8 * (r + 1) + q - 8 * (r + 1)) = 8 * r + q by omega]
          exact hR q hq, fun _ _ => rfl⟩
        refine e_R62 _ HN1 hb hH (by omega) hW (rr1 r (Nat.le_refl _)) (f0 := L r) (fun s2 f ch2 a1 a2 a3 => ?_) (nN N) 0 FU s1 (L r) 0 (by omega) (by have := K.1; unfold FU; omega) hT ⟨?_, fun _ _ _ h => h, ?_⟩ (Or.inl ⟨rfl, fun _ _ => rfl⟩)
        · refine ih (r + 1) n _ (fun r' => if r' = r + 1 then f else L r') ch2 (by omega) (by omega) ?_ ?_ up_s ?_
          · refine ⟨?_, fun j hj => ?_⟩
            · refine Ag.up ?_ (by decide)
              exact ((a1.1.trans hag1 [4, 28] (fun k hk => ⟨fun z => hk (List.mem_cons_of_mem _ z), fun z => hk (List.mem_cons_of_mem _ z)⟩)).trans h3.1 [4, 28] (fun k hk => ⟨hk, hk⟩))
            · rw [up_j hj, a1.1 4 (by decide), hag1 4 (by decide)]
              exact h3.2 j hj
          · intro r' hr'
            by_cases z : r' = r + 1
            · subst z
              simp only [if_true]
              refine ⟨fun q hq => ?_, a2.row K hW⟩
              rw [up_k (by decide)]
              exact a1.2.1 q hq
            · simp only [if_neg z]
              refine ⟨fun q hq => ?_, (h4 r' (by omega)).2⟩
              rw [up_k (by decide)]
              exact a1.rr (rr1 r' (by omega)) (by omega) q hq
          · rcases a3 with ⟨z1, z2⟩ | z
            · refine Or.inr ⟨z1, by omega, ?_⟩
              simp only [if_true]
              intro v i j x c dd rd gd
              have hpj := K.2.2.1 v j rd.1 rd.2.2.1
              refine a2.2.2 v i j x c trivial rd ?_
              rcases gd with gd | gd
              · exact Or.inl gd
              · refine Or.inr ?_
                rw [← z2 _ hpj]
                exact gd
            · exact Or.inl z
        · intro q hq m hm
          obtain ⟨m1, c, m2, m3⟩ := hW.1 q hq m hm
          exact ⟨m1, c, m2, re_mono m3 (by omega)⟩
        · intro v i j x c dd rd
          unfold Db at dd
          have := rd.2.1
          have := rd.2.2.1
          have := K.2.1 v rd.1
          omega
    · refine ok_pos e (ok_some ⟨h3, r, L, h5, e1, by omega, h4, ?_⟩)
      intro q t c r' hq hqb hc hre
      exact e2.all r' q t c hc hre
theorem e_fill28 {x : Int32} {s0 : Sg} : ∀ (d q n : Nat) (s : Sg), q + d = 88 → d < n → Ag [28] s s0 → (∀ z, z < q → s 28 0 z = x) → Ok (f_J7_fill_28_L5 n x (nI q) 88 s) (fun s' => Ag [28] s' s0 ∧ ∀ z, z < 88 → s' 28 0 z = x) := by
  intro d
  induction d with
  | zero =>
    intro q n s h1 h2 h3 h4
    obtain ⟨n, rfl⟩ : ∃ m, n = m + 1 := ⟨n - 1, by omega⟩
    show Ok (f_J7_fill_28_B5 _ _ _ _ _) _
    unfold f_J7_fill_28_B5
    have : q = 88 := by omega
    subst this
    exact ok_pos (Int32.le_refl _) (ok_some ⟨h3, h4⟩)
  | succ d ih =>
    intro q n s h1 h2 h3 h4
    obtain ⟨n, rfl⟩ : ∃ m, n = m + 1 := ⟨n - 1, by omega⟩
    show Ok (f_J7_fill_28_B5 _ _ _ _ _) _
    unfold f_J7_fill_28_B5
    refine ok_neg (by rw [show (88 : Int32) = nI 88 from rfl, nI_leI (by omega) (by omega)]; omega) (ok_gi q rfl (by omega) (ok_S ?_))
    rw [nI_clamp (by omega), nI_1]
    refine ih (q + 1) n _ (by omega) (by omega) (h3.up (by decide)) ?_
    intro z hz
    by_cases e : z = q
    · subst e; rw [up_s]
    · rw [up_j e]; exact h4 z (by omega)
/-- what reckonLatest() gives -/
theorem e_reckonLatest {s : Sg} (HN : NX s N) (hb : b < 8) (hH : H ≤ 1000000) : Ok (f_X4_reckonLatest (nI b) (nI H) s) (fun s' => rAg s' s ∧ ∃ R L, RK s' N b H R L) := by
  unfold f_X4_reckonLatest f_J7_fill_28
  refine ok_bind (e_fill28 88 0 FU s (by omega) (by decide) Ag.rfl (fun z hz => absurd hz (Nat.not_lt_zero z))) ?_
  rintro s1 ⟨a1, a2⟩
  refine ok_S ?_
  refine e_R19 HN hb hH 10 0 FU _ (fun _ _ => none) 1 (by omega) (by decide) ⟨(a1.sub (by decide)).up (by decide), fun j hj => ?_⟩ ?_ up_s (Or.inl rfl)
  · rw [up_j hj, a1 4 (by decide)]
  · intro r' hr'
    have : r' = 0 := by omega
    subst this
    refine ⟨fun q hq => ?_, fun q hq m hm => absurd hm (by simp), fun q t c hq hc hre => absurd hre re_0⟩
    rw [up_k (by decide)]
    exact a2 _ (by omega)
end LATX3
