section CONTRACT2
variable {s : Sg}
/-- the rest of the books and of the state, where only the contracts' rows, tape and faults change -/
def CTk : List Nat := [5, 2, 18, 19, 20, 21, 22, 23, 7, 12, 0, 3, 10, 61, 62, 63, 64, 65, 66, 67, 68, 69, 70, 71, 72]
theorem ct_rel {u : Sg} {np n nm : Nat} {K K' : Nat → List Cl} {o o' : Nat → Nat} (B : BK s np n nm K o) (A : Ag CTk u s) (h0 : ∀ j, ¬ j = 5 → u 0 0 j = s 0 0 j) (h10 : ∀ j, j = 0 ∨ j = 1 ∨ j = 2 ∨ j = 55 → u 10 0 j = s 10 0 j) (H6 : P6 u K' o') (R8 : P8 s) (h7 : u 7 0 1 = 0 ∧ u 10 0 21 = 0) (h9 : P9 u) (hP : PF u (cfg u K')) : Rel u := by
  obtain ⟨B1, B2, B3, B4, B5, B6⟩ := B
  refine ⟨cfg u K', np, n, nm, K', o', ⟨P1_of (fun k hk => A k (by revert k; decide)) (h10 0 (by omega)) B1, P2_of (fun k hk => A k (by revert k; decide)) B2, ?_, P4_of (fun k hk => A k (by revert k; decide)) B4, ?_, H6⟩, rfl, ⟨0, by omega, h7.1, h7.2, fun k hk => absurd hk (Nat.not_lt_zero k)⟩, P8_of (fun k hk => A k (by revert k; decide)) (by rw [A 4 (by decide)]) (h10 55 (by omega)) R8, h9, hP⟩
  · refine ⟨B3.1, by rw [h0 2 (by decide)]; exact B3.2.1, by rw [h10 1 (by omega)]; exact B3.2.2.1, fun v hv => ?_⟩
    have H := B3.2.2.2 v hv
    unfold Vv Vp Vl lgs at H ⊢
    rw [A 8 (by decide), A 48 (by decide), A 49 (by decide), A 50 (by decide), A 51 (by decide), A 43 (by decide), A 52 (by decide), A 36 (by decide), A 55 (by decide), A 37 (by decide), A 53 (by decide), A 39 (by decide), A 54 (by decide), A 38 (by decide), A 16 (by decide), A 42 (by decide)]
    exact H
  · refine ⟨B5.1, by rw [h0 3 (by decide)]; exact B5.2.1, by rw [h10 2 (by omega)]; exact B5.2.2.1, ?_⟩
    have H := B5.2.2.2
    unfold Mk lgs at H ⊢
    rw [A 8 (by decide), A 40 (by decide), A 41 (by decide), A 56 (by decide), A 57 (by decide), A 58 (by decide), A 59 (by decide)]
    exact H
theorem CXc_of {u s : Sg} {o : Nat} {x : List Cl} (h : u 2 o = s 2 o ∧ u 18 o = s 18 o ∧ u 19 o = s 19 o ∧ u 20 o = s 20 o ∧ u 21 o = s 21 o ∧ u 22 o = s 22 o ∧ u 23 o = s 23 o) (H : CXc s o x) : CXc u o x := ⟨by rw [h.1]; exact H.1, CXq_congr ⟨h.2.2.2.2.1, h.2.2.2.2.2.1, h.2.2.2.2.2.2⟩ ⟨h.2.1, h.2.2.1, h.2.2.2.1⟩ H.2⟩
theorem CMc_of {u s : Sg} {l : Nat} {x : List Cl} (hl : l < 4) (hx : x.length ≤ 12) (h61 : u 61 0 l = s 61 0 l) (h64 : ∀ j, 12 * l ≤ j → j < 12 * l + 12 → u 64 0 j = s 64 0 j ∧ u 65 0 j = s 65 0 j ∧ u 66 0 j = s 66 0 j ∧ u 67 0 j = s 67 0 j) (h68 : ∀ j, 200 * l ≤ j → j < 200 * l + 200 → u 68 0 j = s 68 0 j ∧ u 69 0 j = s 69 0 j ∧ u 70 0 j = s 70 0 j ∧ u 71 0 j = s 71 0 j) (H : CMc s l x) : CMc u l x := ⟨by rw [h61]; exact H.1, CMq_sh (fun q hq => h64 _ (by omega) (by omega)) (fun j hj => h68 _ (by omega) (by omega)) (by omega) H.2⟩
theorem q_contract (R : Rel s) (a1 a2 : Int32) : Bo (f_X9_contract a1 a2) (f_X10_contract a1 a2) s := by
  obtain ⟨c, np, nv', nm, K, o, B, hc, ⟨m, u1, u2, u3, u4⟩, R8, R9, hP⟩ := id R
  obtain ⟨b1, b2, b3, b4⟩ := B.2.2.2.2.2
  rcases ix_cases a1 (n := 4) (by omega) with z | ⟨l, hl, rfl⟩
  · refine bo_eq (r := -1) R ?_ ?_
    · unfold f_X9_contract; simp only [isL_no (s := s) z, Option.bind_some, if_true]
    · unfold f_X10_contract
      by_cases q : a1 < 0
      · rw [if_pos q]
      · rw [if_neg q, L_4, if_pos (z.resolve_left q)]
  have l0 : ¬ nI l < 0 := nI_pos (by omega)
  have l4 : ¬ (4 : Int32) ≤ nI l := by rw [L_4]; exact nI_ge hl (by omega)
  rcases ix_cases a2 (n := m + 1) (by omega) with z | ⟨n, hn, rfl⟩
  · refine bo_eq (r := -1) R ?_ ?_
    · unfold f_X9_contract
      by_cases q : a2 < 0
      · simp only [isL_yes (s := s) hl, Option.bind_some, if_neg n10, if_pos q]
      · have q2 : ¬ a2 ≤ nI m := by
          obtain ⟨j, j1, rfl⟩ := nI_of q
          have := z.resolve_left q
          rw [nI_leI (by omega) (by omega)] at this ⊢
          omega
        simp only [isL_yes (s := s) hl, Option.bind_some, if_neg n10, if_neg q, u2, if_neg q2]
    · unfold f_X10_contract
      by_cases q : a2 < 0
      · simp only [if_neg l0, if_neg l4, if_pos q]
      · have q2 : ¬ a2 ≤ nI m := by
          obtain ⟨j, j1, rfl⟩ := nI_of q
          have := z.resolve_left q
          rw [nI_leI (by omega) (by omega)] at this ⊢
          omega
        simp only [if_neg l0, if_neg l4, if_neg q, u3, if_neg q2]
  have n0 : ¬ nI n < 0 := nI_pos (by omega)
  have n1 : nI n ≤ nI m := nI_le (by omega) (by omega)
  have o4 := b1 4 (by omega)
  have ol := b1 l (by omega)
  have hne : ¬ o l = o 4 := fun e => by have := b2 l 4 (by omega) (by omega) e; omega
  have c4 : (nI (o 4)).toNatClampNeg = o 4 := nI_clamp (by omega)
  have cl : (nI (o l)).toNatClampNeg = o l := nI_clamp (by omega)
  -- the text
  have TX : TXX s (fun k => (s 35 0 k).toNatClampNeg) n := ⟨by omega, fun k hk => by
    obtain ⟨b, q1, q2, q3⟩ := u4 k (by omega)
    dsimp only
    rw [q2, nI_clamp (by omega)]
    exact ⟨q1, rfl⟩⟩
  have TM : ∀ t : Sg, t 60 = s 60 → TXM t (fun k => (s 35 0 k).toNatClampNeg) n := fun t ht => ⟨by omega, fun k hk => by
    obtain ⟨b, q1, q2, q3⟩ := u4 k (by omega)
    dsimp only
    rw [ht, q2, nI_clamp (by omega)]
    exact ⟨q1, q3⟩⟩
  obtain ⟨⟨w, s3⟩, e1, hT⟩ := x_read (n := n) (o := o 4) TX o4
  -- the reference up to its text
  have refT : ∀ (t : Sg) (Q : Int32 × Sg → Prop), t 10 0 21 = nI m → Ok (Option.bind (Mtx t n) fun q3 => bdS (up3 q3.2 10 0 21 0) fun s4 => if q3.1 = 0 then some (-2, s4) else chk (gi 4 5) (chk (gi (nI l) 5) (bdS (up3 s4 61 0 (nI l).toNatClampNeg (s4 61 0 (4 : Int32).toNatClampNeg)) fun s7 => chk (gi 4 5) (chk (gi (nI l) 5) (bdS (up3 s7 62 0 (nI l).toNatClampNeg (s7 62 0 (4 : Int32).toNatClampNeg)) fun s10 => chk (gi 4 5) (chk (gi (nI l) 5) (bdS (up3 s10 63 0 (nI l).toNatClampNeg (s10 63 0 (4 : Int32).toNatClampNeg)) fun s13 => (f_X10_contract_L90 (f_X10_contract_L194 FU) FU) (nI l) 0 s13))))))) Q → Ok (f_X10_contract (nI l) (nI n) t) Q := by
    intro t Q ht h
    unfold f_X10_contract
    refine ok_neg l0 (ok_neg l4 (ok_neg n0 (ok_pos (by rw [ht]; exact n1) (ok_S (ok_S ?_)))))
    rw [m_text]
    exact h
  have TG : ∀ t : Sg, t 60 = s 60 → TxG n (o 4) s t (Mtx t n) (w, s3) := fun t ht => hT t (TM t ht)
  -- the class up to its text
  unfold Bo f_X9_contract
  refine ok_call (isL_yes hl) (ok_neg n10 (ok_neg n0 (ok_pos (by dsimp only; rw [u2]; exact n1) ?_)))
  have e1' : f_X5_read (nI n) (s 0 0 5).toNatClampNeg s = some (w, s3) := by rw [b3, c4]; exact e1
  refine ok_d (by dsimp only; rw [b3, c4]; exact o4) (ok_call e1' (ok_S ?_))
  by_cases hw : w = 0
  · -- a fault
    refine ok_pos hw (ok_some ?_)
    dsimp only
    obtain ⟨k, p, hx, hr⟩ : ∃ k p, XFc (o 4) s s3 k p ∧ Ok (Mtx (up3 s3 7 0 1 0) n) (fun r => r.1 = 0 ∧ RFc (up3 s3 7 0 1 0) r.2 k p) := by
      have hx0 : ∃ k p, XFc (o 4) s s3 k p := by
        rcases TG s rfl with ⟨-, k, p, h, -⟩ | ⟨h, -⟩
        · exact ⟨k, p, h⟩
        · exact absurd h (by dsimp only; rw [hw]; decide)
      obtain ⟨k0, p0, hx0⟩ := hx0
      rcases TG (up3 s3 7 0 1 0) (by rw [up_k (by decide), hx0.1.1 60 (by decide)]) with ⟨-, k, p, h1, h2⟩ | ⟨h, -⟩
      · exact ⟨k, p, h1, h2⟩
      · exact absurd h (by dsimp only; rw [hw]; decide)
    refine refT _ _ (by rw [up_k (by decide), hx.1.1 10 (by decide)]; exact u3) (ok_bind hr ?_)
    rintro ⟨r, t⟩ ⟨r0, r1⟩
    refine ok_S (ok_pos r0 (ok_some ⟨rfl, ?_⟩))
    dsimp only at r1 ⊢
    -- what has changed
    have A3 : Ag CTk s3 s := hx.1.1.sub (by decide)
    have A4 : Ag CTk (up3 s3 7 0 1 0) s := A3.up (by decide)
    have A : Ag CTk (up3 t 10 0 21 0) s := ((r1.1.1.tr A4 (by decide) (by decide)).up (by decide))
    have v10 : ∀ j, j ∉ [21, 22, 23, 36, 37, 38, 39, 40] → up3 t 10 0 21 0 10 0 j = s 10 0 j := by
      intro j hj
      rw [up_j (fun e => hj (by rw [e]; decide)), r1.1.2.1 j (fun q => hj (List.mem_cons_of_mem _ q)), up_k (by decide), hx.1.1 10 (by decide)]
    have kX : ∀ k, k ∈ [0, 2, 3, 5, 12, 18, 19, 20, 21, 22, 23] → up3 t 10 0 21 0 k = s3 k := by
      intro k hk
      have h1 : ¬ k = 10 := by rintro rfl; revert hk; decide
      have h2 : ¬ k = 7 := by rintro rfl; revert hk; decide
      have h3 : k ∉ [10, 61, 62, 63, 64, 65, 66, 67, 68, 69, 70, 71, 72] := by revert k; decide
      rw [up_k h1, r1.1.1 k h3, up_k h2]
    have e0 : up3 t 10 0 21 0 0 = s 0 := by rw [kX 0 (by decide), hx.1.1 0 (by decide)]
    have cc : cfg (up3 t 10 0 21 0) K = cfg s K := cfg_of (fun k hk => by
      by_cases hk0 : k = 0
      · rw [hk0]; exact e0
      · exact A k (by revert k; decide))
    refine ct_rel B A (fun j _ => by rw [e0]) (fun j hj => v10 j (by rcases hj with e | e | e | e <;> subst e <;> decide)) (K' := K) (o' := o) ⟨b1, b2, by rw [e0]; exact b3, fun q hq => ?_⟩ R8 ⟨?_, up_s⟩ ⟨?_, ?_⟩ ?_
    · obtain ⟨d1, d2, d3, d4, d5, d6⟩ := b4 q hq
      have hqo : ¬ o q = o 4 := fun e => by have := b2 q 4 (by omega) (by omega) e; omega
      obtain ⟨f1, f2, f3, f4, f5, f6, f7⟩ := hx.1.2 (o q) hqo
      refine ⟨?_, CXc_of ⟨?_, ?_, ?_, ?_, ?_, ?_, ?_⟩ d2, CMc_of hq d5 ?_ (fun j j1 j2 => ?_) (fun j j1 j2 => ?_) d3, ?_, d5, d6⟩
      · rw [kX 12 (by decide), hx.1.1 12 (by decide)]; exact d1
      · rw [kX 2 (by decide)]; exact f1
      · rw [kX 18 (by decide)]; exact f2
      · rw [kX 19 (by decide)]; exact f3
      · rw [kX 20 (by decide)]; exact f4
      · rw [kX 21 (by decide)]; exact f5
      · rw [kX 22 (by decide)]; exact f6
      · rw [kX 23 (by decide)]; exact f7
      · rw [up_k (by decide), (r1.1.2.2.2.2 q hq).1, up_k (by decide), hx.1.1 61 (by decide)]
      · simp only [up_k (show ¬ (64 : Nat) = 10 by decide), up_k (show ¬ (65 : Nat) = 10 by decide), up_k (show ¬ (66 : Nat) = 10 by decide), up_k (show ¬ (67 : Nat) = 10 by decide)]
        obtain ⟨g1, g2, g3, g4⟩ := r1.1.2.2.2.1 j (by omega)
        rw [g1, g2, g3, g4, up_k (by decide), up_k (by decide), up_k (by decide), up_k (by decide), hx.1.1 64 (by decide), hx.1.1 65 (by decide), hx.1.1 66 (by decide), hx.1.1 67 (by decide)]
        exact ⟨rfl, rfl, rfl, rfl⟩
      · simp only [up_k (show ¬ (68 : Nat) = 10 by decide), up_k (show ¬ (69 : Nat) = 10 by decide), up_k (show ¬ (70 : Nat) = 10 by decide), up_k (show ¬ (71 : Nat) = 10 by decide)]
        obtain ⟨g1, g2, g3, g4⟩ := r1.1.2.2.1 j (by omega)
        rw [g1, g2, g3, g4, up_k (by decide), up_k (by decide), up_k (by decide), up_k (by decide), hx.1.1 68 (by decide), hx.1.1 69 (by decide), hx.1.1 70 (by decide), hx.1.1 71 (by decide)]
        exact ⟨rfl, rfl, rfl, rfl⟩
      · rw [kX 2 (by decide), f1, up_k (by decide), (r1.1.2.2.2.2 q hq).2, up_k (by decide), hx.1.1 63 (by decide)]
        exact d4
    · rw [up_k (by decide), r1.1.1 7 (by decide), up_s]
    · rw [kX 5 (by decide), hx.2.1, up_j (by decide), r1.2.1]
    · rw [kX 5 (by decide), hx.2.2, up_j (by decide), r1.2.2]
    · rw [cc, ← hc]
      have e3 : up3 t 10 0 21 0 3 = s 3 := by rw [kX 3 (by decide), hx.1.1 3 (by decide)]
      refine ⟨by rw [v10 19 (by decide)]; exact hP.1, ?_, ?_⟩
      · rw [v10 19 (by decide)]
        exact fun q u hu => MSv_k (fun k hk => A k (by revert k; decide)) (hP.2.1 q u hu)
      · rw [e3]
        exact fun q => RX_of (fun k hk => A k (by revert k; decide)) (hP.2.2 q)
  · -- a contract
    refine ok_neg hw ?_
    have hx0 : ∃ j Ks, XC n (o 4) s s3 j Ks := by
      rcases TG s rfl with ⟨h, -⟩ | ⟨-, j, Ks, h, -⟩
      · exact absurd h hw
      · exact ⟨j, Ks, h⟩
    obtain ⟨j0, K0, hx0⟩ := hx0
    have k12 : up3 s3 7 0 1 0 12 = s 12 := by rw [up_k (by decide), hx0.1.1 12 (by decide)]
    have k0 : up3 s3 7 0 1 0 0 = s 0 := by rw [up_k (by decide), hx0.1.1 0 (by decide)]
    have cL : (nI l).toNatClampNeg = l := nI_clamp (by omega)
    rw [k12, k0, cL, (b4 l hl).1, b3, cl, c4]
    refine ok_gi l rfl hl (ok_d ol (ok_d o4 (ok_gi l rfl hl (ok_S (ok_S (ok_S (ok_gi l rfl hl ?_)))))))
    have e12 : (up3 (up3 (up3 (up3 s3 7 0 1 0) 12 0 l (nI (o 4))) 0 0 5 (nI (o l))) 3 0 2 1) 12 0 l = nI (o 4) := by simp only [up_k (show ¬ (12 : Nat) = 3 by decide), up_k (show ¬ (12 : Nat) = 0 by decide), up_s]
    rw [e12, c4]
    refine ok_d o4 (ok_some ?_)
    dsimp only
    have h60 : (up3 (up3 (up3 (up3 s3 7 0 1 0) 12 0 l (nI (o 4))) 0 0 5 (nI (o l))) 3 0 2 1) 60 = s 60 := by simp only [up_k (show ¬ (60 : Nat) = 3 by decide), up_k (show ¬ (60 : Nat) = 0 by decide), up_k (show ¬ (60 : Nat) = 12 by decide), up_k (show ¬ (60 : Nat) = 7 by decide)]; exact hx0.1.1 60 (by decide)
    have sX : ∀ k, k ∉ [3, 0, 12, 7] → (up3 (up3 (up3 (up3 s3 7 0 1 0) 12 0 l (nI (o 4))) 0 0 5 (nI (o l))) 3 0 2 1) k = s3 k := by
      intro k hk
      rw [up_k (fun e => hk (by rw [e]; decide)), up_k (fun e => hk (by rw [e]; decide)), up_k (fun e => hk (by rw [e]; decide)), up_k (fun e => hk (by rw [e]; decide))]
    have s12 : ∀ q, (up3 (up3 (up3 (up3 s3 7 0 1 0) 12 0 l (nI (o 4))) 0 0 5 (nI (o l))) 3 0 2 1) 12 0 q = if q = l then nI (o 4) else s 12 0 q := by
      intro q
      simp only [up_k (show ¬ (12 : Nat) = 3 by decide), up_k (show ¬ (12 : Nat) = 0 by decide), up_k (show ¬ (12 : Nat) = 7 by decide), up_at]
      rw [hx0.1.1 12 (by decide)]
    have s0' : ∀ q, (up3 (up3 (up3 (up3 s3 7 0 1 0) 12 0 l (nI (o 4))) 0 0 5 (nI (o l))) 3 0 2 1) 0 0 q = if q = 5 then nI (o l) else s 0 0 q := by
      intro q
      simp only [up_k (show ¬ (0 : Nat) = 3 by decide), up_k (show ¬ (0 : Nat) = 12 by decide), up_k (show ¬ (0 : Nat) = 7 by decide), up_at]
      rw [hx0.1.1 0 (by decide)]
    have s32 : (up3 (up3 (up3 (up3 s3 7 0 1 0) 12 0 l (nI (o 4))) 0 0 5 (nI (o l))) 3 0 2 1) 3 0 2 = 1 := up_s
    have s71 : (up3 (up3 (up3 (up3 s3 7 0 1 0) 12 0 l (nI (o 4))) 0 0 5 (nI (o l))) 3 0 2 1) 7 0 1 = 0 := by simp only [up_k (show ¬ (7 : Nat) = 3 by decide), up_k (show ¬ (7 : Nat) = 0 by decide), up_k (show ¬ (7 : Nat) = 12 by decide), up_s]
    have A11 : Ag CTk (up3 (up3 (up3 (up3 s3 7 0 1 0) 12 0 l (nI (o 4))) 0 0 5 (nI (o l))) 3 0 2 1) s := by
      repeat refine Ag.up ?_ (by decide)
      exact hx0.1.1.sub (by decide)
    generalize up3 (up3 (up3 (up3 s3 7 0 1 0) 12 0 l (nI (o 4))) 0 0 5 (nI (o l))) 3 0 2 1 = y at e12 h60 sX s12 s0' s32 s71 A11 ⊢
    obtain ⟨j, Ks, hx, hK12, hcl, hr⟩ : ∃ j Ks, XC n (o 4) s s3 j Ks ∧ Ks.length ≤ 12 ∧ (∀ z ∈ Ks, clok z) ∧ Ok (Mtx y n) (fun r => r.1 = 1 ∧ RCb y r.2 Ks) := by
      rcases TG y h60 with ⟨h, -⟩ | ⟨-, j, Ks, h1, h2, h3, h4⟩
      · exact absurd h hw
      · exact ⟨j, Ks, h1, h2, h3, h4⟩
    have y10 : y 10 = s 10 := by rw [sX 10 (by decide), hx.1.1 10 (by decide)]
    refine refT _ _ (by rw [y10]; exact u3) (ok_bind hr ?_)
    rintro ⟨r, t⟩ ⟨r0, rg, rf, rc62, rc61, rc63, rck, rmr⟩
    dsimp only at rg rf rc62 rc61 rc63 rck rmr ⊢
    refine ok_S (ok_neg (ne1 r0) (ok_chk rfl (ok_gi l rfl (by omega) (ok_S (ok_chk rfl (ok_gi l rfl (by omega) (ok_S (ok_chk rfl (ok_gi l rfl (by omega) (ok_S ?_))))))))))
    rw [cL, show (4 : Int32).toNatClampNeg = 4 from rfl]
    refine m_cp90 _ hl (fun t5 C5 => m_cp194 hl (fun t6 C6 => ?_) 200 0 FU t5 (by omega) (by decide) Cp.rfl) 12 0 FU _ (by omega) (by decide) Cp.rfl
    -- the state t6: where it came from
    have g61 : ∀ q, t6 61 0 q = if q = l then t 61 0 4 else t 61 0 q := by
      intro q
      rw [C6.1 61 (by decide), C5.1 61 (by decide)]
      simp only [up_k (show ¬ (61 : Nat) = 10 by decide), up_k (show ¬ (61 : Nat) = 62 by decide), up_k (show ¬ (61 : Nat) = 63 by decide), up_at]
    have g63 : ∀ q, t6 63 0 q = if q = l then t 63 0 4 else t 63 0 q := by
      intro q
      rw [C6.1 63 (by decide), C5.1 63 (by decide)]
      simp only [up_k (show ¬ (63 : Nat) = 10 by decide), up_k (show ¬ (63 : Nat) = 61 by decide), up_k (show ¬ (63 : Nat) = 62 by decide), up_at]
    have g64 : ∀ q, (t6 64 0 q = if 12 * l ≤ q ∧ q < 12 * l + 12 then t 64 0 (48 + (q - 12 * l)) else t 64 0 q) ∧ (t6 65 0 q = if 12 * l ≤ q ∧ q < 12 * l + 12 then t 65 0 (48 + (q - 12 * l)) else t 65 0 q) ∧ (t6 66 0 q = if 12 * l ≤ q ∧ q < 12 * l + 12 then t 66 0 (48 + (q - 12 * l)) else t 66 0 q) ∧ (t6 67 0 q = if 12 * l ≤ q ∧ q < 12 * l + 12 then t 67 0 (48 + (q - 12 * l)) else t 67 0 q) := by
      intro q
      have := C5.2 q
      simp only [up_k (show ¬ (64 : Nat) = 10 by decide), up_k (show ¬ (64 : Nat) = 61 by decide), up_k (show ¬ (64 : Nat) = 62 by decide), up_k (show ¬ (64 : Nat) = 63 by decide), up_k (show ¬ (65 : Nat) = 10 by decide), up_k (show ¬ (65 : Nat) = 61 by decide), up_k (show ¬ (65 : Nat) = 62 by decide), up_k (show ¬ (65 : Nat) = 63 by decide), up_k (show ¬ (66 : Nat) = 10 by decide), up_k (show ¬ (66 : Nat) = 61 by decide), up_k (show ¬ (66 : Nat) = 62 by decide), up_k (show ¬ (66 : Nat) = 63 by decide), up_k (show ¬ (67 : Nat) = 10 by decide), up_k (show ¬ (67 : Nat) = 61 by decide), up_k (show ¬ (67 : Nat) = 62 by decide), up_k (show ¬ (67 : Nat) = 63 by decide)] at this
      rw [C6.1 64 (by decide), C6.1 65 (by decide), C6.1 66 (by decide), C6.1 67 (by decide)]
      exact this
    have g68 : ∀ q, (t6 68 0 q = if 200 * l ≤ q ∧ q < 200 * l + 200 then t 68 0 (800 + (q - 200 * l)) else t 68 0 q) ∧ (t6 69 0 q = if 200 * l ≤ q ∧ q < 200 * l + 200 then t 69 0 (800 + (q - 200 * l)) else t 69 0 q) ∧ (t6 70 0 q = if 200 * l ≤ q ∧ q < 200 * l + 200 then t 70 0 (800 + (q - 200 * l)) else t 70 0 q) ∧ (t6 71 0 q = if 200 * l ≤ q ∧ q < 200 * l + 200 then t 71 0 (800 + (q - 200 * l)) else t 71 0 q) := by
      intro q
      have := C6.2 q
      rw [C5.1 68 (by decide), C5.1 69 (by decide), C5.1 70 (by decide), C5.1 71 (by decide)] at this
      simp only [up_k (show ¬ (68 : Nat) = 10 by decide), up_k (show ¬ (68 : Nat) = 61 by decide), up_k (show ¬ (68 : Nat) = 62 by decide), up_k (show ¬ (68 : Nat) = 63 by decide), up_k (show ¬ (69 : Nat) = 10 by decide), up_k (show ¬ (69 : Nat) = 61 by decide), up_k (show ¬ (69 : Nat) = 62 by decide), up_k (show ¬ (69 : Nat) = 63 by decide), up_k (show ¬ (70 : Nat) = 10 by decide), up_k (show ¬ (70 : Nat) = 61 by decide), up_k (show ¬ (70 : Nat) = 62 by decide), up_k (show ¬ (70 : Nat) = 63 by decide), up_k (show ¬ (71 : Nat) = 10 by decide), up_k (show ¬ (71 : Nat) = 61 by decide), up_k (show ¬ (71 : Nat) = 62 by decide), up_k (show ¬ (71 : Nat) = 63 by decide)] at this
      exact this
    have g10 : ∀ q, t6 10 0 q = if q = 21 then 0 else t 10 0 q := by
      intro q
      rw [C6.1 10 (by decide), C5.1 10 (by decide)]
      simp only [up_k (show ¬ (10 : Nat) = 61 by decide), up_k (show ¬ (10 : Nat) = 62 by decide), up_k (show ¬ (10 : Nat) = 63 by decide), up_at]
    have A6 : Ag CTk t6 s := by
      refine C6.1.tr (C5.1.tr (l' := CTk) ?_ (m := CTk) (by decide) (by decide)) (by decide) (by decide)
      repeat refine Ag.up ?_ (by decide)
      exact rg.1.tr A11 (by decide) (by decide)
    have kX : ∀ k, k ∈ [0, 2, 3, 5, 7, 12, 18, 19, 20, 21, 22, 23] → t6 k = y k := by
      intro k hk
      rw [C6.1 k (by revert k; decide), C5.1 k (by revert k; decide)]
      rw [up_k (by rintro rfl; revert hk; decide), up_k (by rintro rfl; revert hk; decide), up_k (by rintro rfl; revert hk; decide), up_k (by rintro rfl; revert hk; decide), rg.1 k (by revert k; decide)]
    clear C5 C6
    refine ⟨?_, ?_⟩
    · rw [g61, if_pos rfl, rc61, sX 2 (by decide)]
      exact hx.2.2.2.2.2.2.2.1
    · dsimp only
      have uk : ∀ k, ¬ k = 10 → up3 t6 10 0 19 0 k = t6 k := fun k hk => up_k hk
      have v10 : ∀ q, q ∉ [19, 21, 22, 23, 36, 37, 38, 39, 40] → up3 t6 10 0 19 0 10 0 q = s 10 0 q := by
        intro q hq
        rw [up_j (fun e => hq (by rw [e]; decide)), g10, if_neg (fun e => hq (by rw [e]; decide)), rg.2.1 q (fun z => hq (List.mem_cons_of_mem _ (List.mem_cons_of_mem _ z))), y10]
      have hCM4 : CMc t 4 Ks := ⟨rc61, MRr_cm rmr (by simpa using rck) (by have h1 := hx.2.2.2.2.2.2.2.2.2.2.2; omega)⟩
      have hCX4 : CXc s3 (o 4) Ks := ⟨hx.2.2.2.2.2.2.2.1, XRr_cx hx.2.2.2.2.2.2.2.2.2.2.1 hx.2.2.2.2.2.2.2.2.2.1 (by have h1 := hx.2.2.2.2.2.2.2.2.2.2.2; omega)⟩
      refine ct_rel (K' := fun q => if q = l then Ks else K q) (o' := fun q => if q = l then o 4 else if q = 4 then o l else o q) B (A6.up (by decide)) (fun q hq => ?_) (fun q hq => v10 q (by rcases hq with e | e | e | e <;> subst e <;> decide)) ⟨fun q hq => ?_, fun a b ha hb => ?_, ?_, fun q hq => ?_⟩ R8 ⟨?_, ?_⟩ ⟨?_, ?_⟩ (PF.no up_s ?_)
      · rw [uk 0 (by decide), kX 0 (by decide), s0', if_neg hq]
      · dsimp only
        by_cases q1 : q = l
        · rw [if_pos q1]; exact o4
        · rw [if_neg q1]
          by_cases q2 : q = 4
          · rw [if_pos q2]; exact ol
          · rw [if_neg q2]; exact b1 q hq
      · dsimp only
        have h4 : ¬ (4 : Nat) = l := by omega
        by_cases a1 : a = l
        · by_cases b1' : b = l
          · intro _; omega
          · rw [if_pos a1, if_neg b1']
            by_cases b2' : b = 4
            · rw [if_pos b2']; intro e; exact absurd e.symm hne
            · rw [if_neg b2']; intro e; have := b2 4 b (by omega) hb e; omega
        · rw [if_neg a1]
          by_cases a2 : a = 4
          · rw [if_pos a2]
            by_cases b1' : b = l
            · rw [if_pos b1']; intro e; exact absurd e hne
            · rw [if_neg b1']
              by_cases b2' : b = 4
              · intro _; omega
              · rw [if_neg b2']; intro e; have := b2 l b (by omega) hb e; omega
          · rw [if_neg a2]
            by_cases b1' : b = l
            · rw [if_pos b1']; intro e; have := b2 a 4 ha (by omega) e; omega
            · rw [if_neg b1']
              by_cases b2' : b = 4
              · rw [if_pos b2']; intro e; have := b2 a l ha (by omega) e; omega
              · rw [if_neg b2']; exact b2 a b ha hb
      · dsimp only
        rw [uk 0 (by decide), kX 0 (by decide), s0', if_pos rfl, if_neg (show ¬ (4 : Nat) = l by omega), if_pos rfl]
      · dsimp only
        by_cases ql : q = l
        · subst ql
          rw [if_pos rfl, if_pos rfl]
          refine ⟨?_, CXc_of (s := s3) ⟨?_, ?_, ?_, ?_, ?_, ?_, ?_⟩ hCX4, ⟨?_, ?_⟩, ?_, hK12, hcl⟩
          · rw [uk 12 (by decide), kX 12 (by decide), s12, if_pos rfl]
          · rw [uk 2 (by decide), kX 2 (by decide), sX 2 (by decide)]
          · rw [uk 18 (by decide), kX 18 (by decide), sX 18 (by decide)]
          · rw [uk 19 (by decide), kX 19 (by decide), sX 19 (by decide)]
          · rw [uk 20 (by decide), kX 20 (by decide), sX 20 (by decide)]
          · rw [uk 21 (by decide), kX 21 (by decide), sX 21 (by decide)]
          · rw [uk 22 (by decide), kX 22 (by decide), sX 22 (by decide)]
          · rw [uk 23 (by decide), kX 23 (by decide), sX 23 (by decide)]
          · rw [uk 61 (by decide), g61, if_pos rfl]; exact rc61
          · refine CMq_sh (r := t) (m := 4) (fun z hz => ?_) (fun z hz => ?_) (by omega) hCM4.2
            · obtain ⟨c1, c2, c3, c4⟩ := g64 (12 * q + z)
              rw [uk 64 (by decide), uk 65 (by decide), uk 66 (by decide), uk 67 (by decide), c1, c2, c3, c4, if_pos (by omega), if_pos (by omega), if_pos (by omega), if_pos (by omega), show 12 * q + z - 12 * q = z by omega]
              exact ⟨rfl, rfl, rfl, rfl⟩
            · obtain ⟨c1, c2, c3, c4⟩ := g68 (200 * q + z)
              rw [uk 68 (by decide), uk 69 (by decide), uk 70 (by decide), uk 71 (by decide), c1, c2, c3, c4, if_pos (by omega), if_pos (by omega), if_pos (by omega), if_pos (by omega), show 200 * q + z - 200 * q = z by omega]
              exact ⟨rfl, rfl, rfl, rfl⟩
          · rw [uk 2 (by decide), kX 2 (by decide), sX 2 (by decide), uk 63 (by decide), g63, if_pos rfl, rc63]
            exact hx.2.2.2.2.2.2.2.2.1
        · rw [if_neg ql, if_neg ql, if_neg (show ¬ q = 4 by omega)]
          obtain ⟨d1, d2, d3, d4, d5, d6⟩ := b4 q hq
          have hqo : ¬ o q = o 4 := fun e => by have := b2 q 4 (by omega) (by omega) e; omega
          obtain ⟨f1, f2, f3, f4, f5, f6, f7⟩ := hx.1.2 (o q) hqo
          refine ⟨?_, CXc_of ⟨?_, ?_, ?_, ?_, ?_, ?_, ?_⟩ d2, CMc_of hq d5 ?_ (fun z z1 z2 => ?_) (fun z z1 z2 => ?_) d3, ?_, d5, d6⟩
          · rw [uk 12 (by decide), kX 12 (by decide), s12, if_neg ql]; exact d1
          · rw [uk 2 (by decide), kX 2 (by decide), sX 2 (by decide)]; exact f1
          · rw [uk 18 (by decide), kX 18 (by decide), sX 18 (by decide)]; exact f2
          · rw [uk 19 (by decide), kX 19 (by decide), sX 19 (by decide)]; exact f3
          · rw [uk 20 (by decide), kX 20 (by decide), sX 20 (by decide)]; exact f4
          · rw [uk 21 (by decide), kX 21 (by decide), sX 21 (by decide)]; exact f5
          · rw [uk 22 (by decide), kX 22 (by decide), sX 22 (by decide)]; exact f6
          · rw [uk 23 (by decide), kX 23 (by decide), sX 23 (by decide)]; exact f7
          · rw [uk 61 (by decide), g61, if_neg ql, (rg.2.2.2.2 q hq).1, sX 61 (by decide), hx.1.1 61 (by decide)]
          · obtain ⟨c1, c2, c3, c4⟩ := g64 z
            obtain ⟨h1, h2, h3, h4⟩ := rg.2.2.2.1 z (by omega)
            rw [uk 64 (by decide), uk 65 (by decide), uk 66 (by decide), uk 67 (by decide), c1, c2, c3, c4, if_neg (by omega), if_neg (by omega), if_neg (by omega), if_neg (by omega), h1, h2, h3, h4, sX 64 (by decide), sX 65 (by decide), sX 66 (by decide), sX 67 (by decide), hx.1.1 64 (by decide), hx.1.1 65 (by decide), hx.1.1 66 (by decide), hx.1.1 67 (by decide)]
            exact ⟨rfl, rfl, rfl, rfl⟩
          · obtain ⟨c1, c2, c3, c4⟩ := g68 z
            obtain ⟨h1, h2, h3, h4⟩ := rg.2.2.1 z (by omega)
            rw [uk 68 (by decide), uk 69 (by decide), uk 70 (by decide), uk 71 (by decide), c1, c2, c3, c4, if_neg (by omega), if_neg (by omega), if_neg (by omega), if_neg (by omega), h1, h2, h3, h4, sX 68 (by decide), sX 69 (by decide), sX 70 (by decide), sX 71 (by decide), hx.1.1 68 (by decide), hx.1.1 69 (by decide), hx.1.1 70 (by decide), hx.1.1 71 (by decide)]
            exact ⟨rfl, rfl, rfl, rfl⟩
          · rw [uk 2 (by decide), kX 2 (by decide), sX 2 (by decide), f1, uk 63 (by decide), g63, if_neg ql, (rg.2.2.2.2 q hq).2, sX 63 (by decide), hx.1.1 63 (by decide)]
            exact d4
      · rw [uk 7 (by decide), kX 7 (by decide)]; exact s71
      · rw [up_j (by decide), g10, if_pos rfl]
      · rw [uk 5 (by decide), kX 5 (by decide), sX 5 (by decide), hx.2.1.1, up_j (by decide), g10, if_neg (by decide), rf.1]
      · rw [uk 5 (by decide), kX 5 (by decide), sX 5 (by decide), hx.2.1.2, up_j (by decide), g10, if_neg (by decide), rf.2]
      · rw [uk 3 (by decide), kX 3 (by decide)]; exact s32
end CONTRACT2
