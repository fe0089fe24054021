/-! the relation is kept where only scratch rows change -/
def BKr : List Nat := [0, 1, 2, 8, 12, 14, 15, 16, 17, 18, 19, 20, 21, 22, 23, 36, 37, 38, 39, 40, 41, 42, 43, 44, 45, 46, 47, 48, 49, 50, 51, 52, 53, 54, 55, 56, 57, 58, 59, 61, 63, 64, 65, 66, 67, 68, 69, 70, 71]
theorem P1_of {s s' : Sg} {np : Nat} (h : ∀ k, k ∈ [1, 14, 15, 16, 44, 45, 46] → s' k = s k) (h0 : s' 10 0 0 = s 10 0 0) (H : P1 s np) : P1 s' np := by
  unfold P1
  rw [h0, h 1 (by decide), h 14 (by decide), h 15 (by decide), h 16 (by decide), h 44 (by decide), h 45 (by decide), h 46 (by decide)]
  exact H
theorem P2_of {s s' : Sg} (h : ∀ k, k ∈ [17, 47] → s' k = s k) (H : P2 s) : P2 s' := by
  unfold P2
  rw [h 17 (by decide), h 47 (by decide)]
  exact H
theorem P3_of {s s' : Sg} {np n : Nat} (h : ∀ k, k ∈ [0, 8, 16, 36, 37, 38, 39, 42, 43, 48, 49, 50, 51, 52, 53, 54, 55] → s' k = s k) (h1 : s' 10 0 1 = s 10 0 1) (H : P3 s np n) : P3 s' np n := by
  unfold P3 Vv Vp Vl lgs
  rw [h1, h 0 (by decide), h 8 (by decide), h 16 (by decide), h 36 (by decide), h 37 (by decide), h 38 (by decide), h 39 (by decide), h 42 (by decide), h 43 (by decide), h 48 (by decide), h 49 (by decide), h 50 (by decide), h 51 (by decide), h 52 (by decide), h 53 (by decide), h 54 (by decide), h 55 (by decide)]
  exact H
theorem P4_of {s s' : Sg} {n : Nat} (h : ∀ k, k ∈ [8, 39, 40] → s' k = s k) (H : P4 s n) : P4 s' n := by
  unfold P4 lgs
  rw [h 8 (by decide), h 39 (by decide), h 40 (by decide)]
  exact H
theorem P5_of {s s' : Sg} {n nm : Nat} (h : ∀ k, k ∈ [0, 8, 40, 41, 56, 57, 58, 59] → s' k = s k) (h2 : s' 10 0 2 = s 10 0 2) (H : P5 s n nm) : P5 s' n nm := by
  unfold P5 Mk lgs
  rw [h2, h 0 (by decide), h 8 (by decide), h 40 (by decide), h 41 (by decide), h 56 (by decide), h 57 (by decide), h 58 (by decide), h 59 (by decide)]
  exact H
theorem P6_of {s s' : Sg} {K : Nat → List Cl} {o : Nat → Nat} (h0 : s' 0 0 5 = s 0 0 5) (h : ∀ k, k ∈ [2, 12, 18, 19, 20, 21, 22, 23, 61, 63, 64, 65, 66, 67, 68, 69, 70, 71] → s' k = s k) (H : P6 s K o) : P6 s' K o := by
  obtain ⟨a1, a2, a3, a4⟩ := H
  refine ⟨a1, a2, by rw [h0]; exact a3, fun l hl => ?_⟩
  obtain ⟨b1, ⟨b2, b2'⟩, ⟨b3, b3'⟩, b4, b5, b6⟩ := a4 l hl
  refine ⟨by rw [h 12 (by decide)]; exact b1, ⟨by rw [h 2 (by decide)]; exact b2, CXq_congr ⟨?_, ?_, ?_⟩ ⟨?_, ?_, ?_⟩ b2'⟩, ⟨by rw [h 61 (by decide)]; exact b3, CMq_congr ⟨h 68 (by decide), h 69 (by decide), h 70 (by decide), h 71 (by decide)⟩ ⟨h 64 (by decide), h 65 (by decide), h 66 (by decide), h 67 (by decide)⟩ b3'⟩, by rw [h 2 (by decide), h 63 (by decide)]; exact b4, b5, b6⟩
  · rw [h 21 (by decide)]
  · rw [h 22 (by decide)]
  · rw [h 23 (by decide)]
  · rw [h 18 (by decide)]
  · rw [h 19 (by decide)]
  · rw [h 20 (by decide)]
theorem P7_of {s s' : Sg} (h : ∀ k, k ∈ [7, 35, 60] → s' k = s k) (h2 : s' 10 0 21 = s 10 0 21) (H : P7 s) : P7 s' := by
  unfold P7
  rw [h2, h 7 (by decide), h 35 (by decide), h 60 (by decide)]
  exact H
theorem P8_of {s s' : Sg} (h : ∀ k, k ∈ [29, 86, 87, 88] → s' k = s k) (h1 : s' 4 0 6 = s 4 0 6) (h2 : s' 10 0 55 = s 10 0 55) (H : P8 s) : P8 s' := by
  unfold P8
  rw [h1, h2, h 29 (by decide), h 86 (by decide), h 87 (by decide), h 88 (by decide)]
  exact H
theorem P9_of {s s' : Sg} (h : s' 5 = s 5) (h1 : s' 10 0 22 = s 10 0 22) (h2 : s' 10 0 23 = s 10 0 23) (H : P9 s) : P9 s' := by
  unfold P9
  rw [h, h1, h2]
  exact H
theorem BK_of {s s' : Sg} {np n nm : Nat} {K : Nat → List Cl} {o : Nat → Nat} (h : ∀ k, k ∈ BKr → s' k = s k) (h0 : s' 10 0 0 = s 10 0 0) (h1 : s' 10 0 1 = s 10 0 1) (h2 : s' 10 0 2 = s 10 0 2) (B : BK s np n nm K o) : BK s' np n nm K o := by
  obtain ⟨B1, B2, B3, B4, B5, B6⟩ := B
  exact ⟨P1_of (fun k hk => h k (by revert k; decide)) h0 B1, P2_of (fun k hk => h k (by revert k; decide)) B2, P3_of (fun k hk => h k (by revert k; decide)) h1 B3, P4_of (fun k hk => h k (by revert k; decide)) B4, P5_of (fun k hk => h k (by revert k; decide)) h2 B5, P6_of (by rw [h 0 (by decide)]) (fun k hk => h k (by revert k; decide)) B6⟩
theorem cfg_of {s s' : Sg} {K : Nat → List Cl} (h : ∀ k, k ∈ [0, 8, 16, 17, 36, 37, 38, 39, 40, 41, 42, 43] → s' k = s k) : cfg s' K = cfg s K := by
  have e1 : cfgD s' = cfgD s := by
    funext k v i
    unfold cfgD lhX
    rw [h 0 (by decide), h 8 (by decide), h 16 (by decide), h 17 (by decide), h 37 (by decide), h 38 (by decide), h 39 (by decide), h 42 (by decide), h 43 (by decide)]
  have e2 : cfgM s' = cfgM s := by
    funext v i
    unfold cfgM
    rw [h 40 (by decide), h 41 (by decide)]
  unfold cfg
  rw [e1, e2, h 0 (by decide), h 8 (by decide), h 36 (by decide), h 37 (by decide)]
def Qk : List Nat := [4, 10, 3, 6, 24, 25, 26, 27, 28, 30, 31, 32, 33, 34, 73, 74, 75, 76, 77, 78, 79, 80, 81, 82, 83, 84, 85]
theorem Qk_no (k : Nat) (h : k ∈ BKr ∨ k ∈ [5, 7, 29, 35, 60, 86, 87, 88]) : k ∉ Qk := by
  rcases h with h | h <;> revert k <;> decide
theorem RelC.of {s s' : Sg} {c : Cf} (h : Ag Qk s' s) (h4 : s' 4 0 6 = s 4 0 6) (h10 : ∀ j, ¬ j = 19 → ¬ j = 52 → s' 10 0 j = s 10 0 j) (hPF : PF s' c) (R : RelC s c) : RelC s' c := by
  obtain ⟨np, n, nm, K, o, B, hc, R7, R8, R9, -⟩ := R
  have hb : ∀ k, k ∈ BKr → s' k = s k := fun k hk => h k (Qk_no k (Or.inl hk))
  have hr : ∀ k, k ∈ [5, 7, 29, 35, 60, 86, 87, 88] → s' k = s k := fun k hk => h k (Qk_no k (Or.inr hk))
  refine ⟨np, n, nm, K, o, BK_of hb (h10 0 (by decide) (by decide)) (h10 1 (by decide) (by decide)) (h10 2 (by decide) (by decide)) B, ?_, P7_of (fun k hk => hr k (by revert k; decide)) (h10 21 (by decide) (by decide)) R7, P8_of (fun k hk => hr k (by revert k; decide)) h4 (h10 55 (by decide) (by decide)) R8, P9_of (hr 5 (by decide)) (h10 22 (by decide) (by decide)) (h10 23 (by decide) (by decide)) R9, hPF⟩
  rw [hc]
  exact (cfg_of (fun k hk => hb k (by revert k; decide))).symm
theorem RelC.cx {s : Sg} {c : Cf} (R : RelC s c) : CX s c := by
  obtain ⟨np, n, nm, K, o, B, hc, -⟩ := R
  rw [hc]; exact B.cx
theorem RelC.cm {s : Sg} {c : Cf} (R : RelC s c) : CM s c := by
  obtain ⟨np, n, nm, K, o, B, hc, -⟩ := R
  rw [hc]; exact B.cm
theorem RelC.pf {s : Sg} {c : Cf} (R : RelC s c) : PF s c := by
  obtain ⟨np, n, nm, K, o, B, hc, -, -, -, h⟩ := R
  exact h
theorem MSv_k {s s' Y : Sg} {v : Nat} (h : ∀ k, k ∈ [75, 76, 77, 78, 79, 80, 81, 82, 83] → s' k = s k) (H : MSv s Y v) : MSv s' Y v := by
  unfold MSv
  rw [h 75 (by decide), h 76 (by decide), h 77 (by decide), h 78 (by decide), h 79 (by decide), h 80 (by decide), h 81 (by decide), h 82 (by decide), h 83 (by decide)]
  exact H
theorem RX_of {s s' : Sg} {c : Cf} (h : ∀ k, k ∈ [30, 31, 32, 33] → s' k = s k) (H : RX s c) : RX s' c := by
  unfold RX
  rw [h 30 (by decide), h 31 (by decide), h 32 (by decide), h 33 (by decide)]
  exact H
/-- the class brings its course up to date -/
theorem x_upd {s : Sg} {c : Cf} (R : RelC s c) : Ok (f_X3_bringUpToDate s) (fun s' => RelC s' c ∧ RX s' c) := by
  refine Ok.mono (e_upToDate R.cx R.pf.2.2) ?_
  rintro s' ⟨h1, h2, h3, h4⟩
  refine ⟨R.of (h1.sub (by decide)) (by rw [h1 4 (by decide)]) (fun j _ _ => by rw [h1 10 (by decide)]) ⟨?_, ?_, fun _ => h4⟩, h4⟩
  · rw [h1 10 (by decide)]; exact R.pf.1
  · rw [h1 10 (by decide)]
    exact fun q u hu => MSv_k (fun k hk => h1 k (by revert k; decide)) (R.pf.2.1 q u hu)
/-- the reference runs -/
theorem m_runs {s : Sg} {c : Cf} (R : RelC s c) : Ok (f_X10_runs s) (fun s' => RelC s' c ∧ ∀ u, u < nv c → MSv s' (Tr c) u) := by
  refine Ok.mono (e_runs R.cm R.pf.2.1 R.pf.1) ?_
  rintro s' ⟨h1, h2, h3, h4⟩
  refine ⟨R.of (h1.sub (by decide)) (by rw [h1 4 (by decide)]) (fun j hj _ => h2 j hj) ⟨Or.inr h3, fun _ => h4, ?_⟩, h4⟩
  rw [h1 3 (by decide)]
  exact fun q => RX_of (fun k hk => h1 k (by revert k; decide)) (R.pf.2.2 q)
/-- a call of the class and the same one of the reference -/
def Bo {ρ : Type} (fX fM : Sg → Option (ρ × Sg)) (s : Sg) : Prop := Ok (fX s) (fun w => Ok (fM w.2) (fun w2 => w.1 = w2.1 ∧ Rel w2.2))
theorem bo_eq {ρ : Type} {fX fM : Sg → Option (ρ × Sg)} {s : Sg} {r : ρ} (R : Rel s) (h1 : fX s = some (r, s)) (h2 : fM s = some (r, s)) : Bo fX fM s := ⟨_, h1, _, h2, rfl, R⟩
/-- by way of an answer that both give -/
theorem bo_ans {ρ : Type} {fX fM : Sg → Option (ρ × Sg)} {s : Sg} {c : Cf} (r : ρ) (h1 : Ok (fX s) (fun w => w.1 = r ∧ RelC w.2 c)) (h2 : ∀ s', RelC s' c → Ok (fM s') (fun w => w.1 = r ∧ RelC w.2 c)) : Bo fX fM s := by
  obtain ⟨q, a1, a2, a3⟩ := h1
  obtain ⟨q', b1, b2, b3⟩ := h2 q.2 a3
  exact ⟨q, a1, q', b1, a2.trans b2.symm, c, b3⟩
theorem ok_bi {ρ ρ' : Type} {c : Prop} [Decidable c] {a b : Option ρ'} {k : ρ' → Option ρ} {P : ρ → Prop} (h1 : c → Ok (Option.bind a k) P) (h2 : ¬ c → Ok (Option.bind b k) P) : Ok (Option.bind (if c then a else b) k) P := by
  by_cases h : c
  · rw [if_pos h]; exact h1 h
  · rw [if_neg h]; exact h2 h
theorem ok_bp {ρ ρ' : Type} {c : Prop} [Decidable c] {a b : Option ρ'} {k : ρ' → Option ρ} {P : ρ → Prop} (h : c) (h1 : Ok (Option.bind a k) P) : Ok (Option.bind (if c then a else b) k) P := by rw [if_pos h]; exact h1
theorem ok_bn {ρ ρ' : Type} {c : Prop} [Decidable c] {a b : Option ρ'} {k : ρ' → Option ρ} {P : ρ → Prop} (h : ¬ c) (h1 : Ok (Option.bind b k) P) : Ok (Option.bind (if c then a else b) k) P := by rw [if_neg h]; exact h1
theorem ok_bs {ρ ρ' : Type} {q : ρ'} {k : ρ' → Option ρ} {P : ρ → Prop} (h : Ok (k q) P) : Ok (Option.bind (some q) k) P := h
theorem ok_bc {ρ ρ' : Type} {b : Bool} {o : Option ρ'} {k : ρ' → Option ρ} {P : ρ → Prop} (h : b = true) (h1 : Ok (Option.bind o k) P) : Ok (Option.bind (chk b o) k) P := by unfold chk; rw [if_pos h]; exact h1
/-! which voyage, which place -/
theorem hvX_no {s : Sg} {n : Nat} {x : Int32} (h : s 0 0 2 = nI n) (hx : x < 0 ∨ nI n ≤ x) : f_X0_hasVoyage x s = some (0, s) := by
  unfold f_X0_hasVoyage
  by_cases q : x < 0
  · rw [if_pos q]
  · rw [if_neg q, h, if_pos (hx.resolve_left q)]
theorem hvX_yes {s : Sg} {n j : Nat} (h : s 0 0 2 = nI n) (hj : j < n) (hn : n ≤ 10) : f_X0_hasVoyage (nI j) s = some (1, s) := by
  unfold f_X0_hasVoyage
  rw [if_neg (nI_pos (by omega)), h, if_neg (nI_ge hj (by omega))]
theorem hvM_no {s : Sg} {n : Nat} {x : Int32} (h : s 10 0 1 = nI n) (hx : x < 0 ∨ nI n ≤ x) : f_X10_isVoyage x s = some (0, s) := by
  unfold f_X10_isVoyage
  by_cases q : x < 0
  · rw [if_pos q]
  · rw [if_neg q, h, if_pos (hx.resolve_left q)]
theorem hvM_yes {s : Sg} {n j : Nat} (h : s 10 0 1 = nI n) (hj : j < n) (hn : n ≤ 10) : f_X10_isVoyage (nI j) s = some (1, s) := by
  unfold f_X10_isVoyage
  rw [if_neg (nI_pos (by omega)), h, if_neg (nI_ge hj (by omega))]
theorem ix_cases (x : Int32) {n : Nat} (hn : n < 2 ^ 31) : (x < 0 ∨ nI n ≤ x) ∨ ∃ j : Nat, j < n ∧ x = nI j := by
  rcases pk_ix x hn with h | h | h
  · exact Or.inl (Or.inl h)
  · exact Or.inl (Or.inr h)
  · exact Or.inr h
theorem ct_no {c : Cf} {s : Sg} {v : Nat} {x : Int32} (H : CX s c) (hv : v < nv c) (hx : x < 0 ∨ nI (lg c v + 1) ≤ x) : f_X8_comesTo v x s = some (0, s) ∧ f_X8_leavesFrom v x s = some (0, s) ∧ f_X8_hasPlace v x s = some (0, s) := by
  have hlg := (H.1.2.1 v hv).1
  have e := (H.2.2.1 v hv).1.2.2.2
  unfold f_X8_comesTo f_X8_leavesFrom f_X8_hasPlace
  rw [e]
  by_cases q : x < 0
  · have q1 : x < 1 := by
      rw [Int32.lt_iff_toInt_lt] at q ⊢
      have e1 : (0 : Int32).toInt = 0 := rfl
      have e2 : (1 : Int32).toInt = 1 := rfl
      omega
    rw [if_pos q, if_pos q1, if_pos q]
    exact ⟨rfl, rfl, rfl⟩
  · obtain ⟨j, j1, rfl⟩ := nI_of q
    have hj := hx.resolve_left q
    rw [nI_leI (by omega) (by omega)] at hj
    have q1 : ¬ nI j < 1 := by rw [L_1, nI_ltI (by omega) (by omega)]; omega
    have q2 : nI (lg c v) < nI j := by rw [nI_ltI (by omega) (by omega)]; omega
    have q3 : nI (lg c v) ≤ nI j := by rw [nI_leI (by omega) (by omega)]; omega
    simp only [if_neg q, if_neg q1, if_pos q2, if_pos q3, and_self]
theorem hp_yes {c : Cf} {s : Sg} {v i : Nat} (H : CX s c) (hv : v < nv c) (hi : i ≤ lg c v) : f_X8_hasPlace v (nI i) s = some (1, s) := by
  have hlg := (H.1.2.1 v hv).1
  unfold f_X8_hasPlace
  rw [(H.2.2.1 v hv).1.2.2.2, if_neg (nI_pos (by omega)), if_neg (nI_nlt hi (by omega))]
