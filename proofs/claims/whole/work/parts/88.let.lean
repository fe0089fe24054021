/-! letters: first() and last() of both -/
def Rel0 (s : Sg) (c : Cf) : Prop := ∃ np n nm K o, BK s np n nm K o ∧ c = cfg s K ∧ P7 s ∧ P9 s ∧ PF s c
theorem RelC.r0 {s : Sg} {c : Cf} (R : RelC s c) : Rel0 s c := by
  obtain ⟨np, n, nm, K, o, B, hc, R7, R8, R9, hP⟩ := R
  exact ⟨np, n, nm, K, o, B, hc, R7, R9, hP⟩
theorem RelC.p8 {s : Sg} {c : Cf} (R : RelC s c) : P8 s := by
  obtain ⟨np, n, nm, K, o, B, hc, R7, R8, R9, hP⟩ := R
  exact R8
theorem Rel0.c {s : Sg} {c : Cf} (R : Rel0 s c) (h : P8 s) : RelC s c := by
  obtain ⟨np, n, nm, K, o, B, hc, R7, R9, hP⟩ := R
  exact ⟨np, n, nm, K, o, B, hc, R7, h, R9, hP⟩
theorem Rel0.cx {s : Sg} {c : Cf} (R : Rel0 s c) : CX s c := by
  obtain ⟨np, n, nm, K, o, B, hc, -⟩ := R
  rw [hc]; exact B.cx
theorem Rel0.cm {s : Sg} {c : Cf} (R : Rel0 s c) : CM s c := by
  obtain ⟨np, n, nm, K, o, B, hc, -⟩ := R
  rw [hc]; exact B.cm
theorem Rel0.pf {s : Sg} {c : Cf} (R : Rel0 s c) : PF s c := by
  obtain ⟨np, n, nm, K, o, B, hc, -, -, h⟩ := R
  exact h
def Wk : List Nat := [4, 10, 3, 6, 24, 25, 26, 27, 28, 29, 30, 31, 32, 33, 34, 73, 74, 75, 76, 77, 78, 79, 80, 81, 82, 83, 84, 85, 86, 87, 88]
theorem Wk_no (k : Nat) (h : k ∈ BKr ∨ k ∈ [5, 7, 35, 60]) : k ∉ Wk := by
  rcases h with h | h <;> revert k <;> decide
theorem Rel0.of {s s' : Sg} {c : Cf} (h : Ag Wk s' s) (h10 : ∀ j, ¬ j = 19 → ¬ j = 52 → ¬ j = 55 → s' 10 0 j = s 10 0 j) (hPF : PF s' c) (R : Rel0 s c) : Rel0 s' c := by
  obtain ⟨np, n, nm, K, o, B, hc, R7, R9, -⟩ := R
  have hb : ∀ k, k ∈ BKr → s' k = s k := fun k hk => h k (Wk_no k (Or.inl hk))
  have hr : ∀ k, k ∈ [5, 7, 35, 60] → s' k = s k := fun k hk => h k (Wk_no k (Or.inr hk))
  refine ⟨np, n, nm, K, o, BK_of hb (h10 0 (by decide) (by decide) (by decide)) (h10 1 (by decide) (by decide) (by decide)) (h10 2 (by decide) (by decide) (by decide)) B, ?_, P7_of (fun k hk => hr k (by revert k; decide)) (h10 21 (by decide) (by decide) (by decide)) R7, P9_of (hr 5 (by decide)) (h10 22 (by decide) (by decide) (by decide)) (h10 23 (by decide) (by decide) (by decide)) R9, hPF⟩
  rw [hc]
  exact (cfg_of (fun k hk => hb k (by revert k; decide))).symm
theorem PF.x {s s' : Sg} {c : Cf} (h : Ag [4, 25, 26, 27, 28, 29] s' s) (H : PF s c) : PF s' c := by
  obtain ⟨h1, h2, h3⟩ := H
  refine ⟨by rw [h 10 (by decide)]; exact h1, ?_, ?_⟩
  · rw [h 10 (by decide)]
    exact fun q u hu => MSv_k (fun k hk => h k (by revert k; decide)) (h2 q u hu)
  · rw [h 3 (by decide)]
    exact fun q => RX_of (fun k hk => h k (by revert k; decide)) (h3 q)
theorem x_upd0 {s : Sg} {c : Cf} (R : Rel0 s c) : Ok (f_X3_bringUpToDate s) (fun s' => Rel0 s' c ∧ RX s' c ∧ Ag (3 :: xK) s' s) := by
  refine Ok.mono (e_upToDate R.cx R.pf.2.2) ?_
  rintro s' ⟨h1, h2, h3, h4⟩
  refine ⟨R.of (h1.sub (by decide)) (fun j _ _ _ => by rw [h1 10 (by decide)]) ⟨?_, ?_, fun _ => h4⟩, h4, h1⟩
  · rw [h1 10 (by decide)]; exact R.pf.1
  · rw [h1 10 (by decide)]
    exact fun q u hu => MSv_k (fun k hk => h1 k (by revert k; decide)) (R.pf.2.1 q u hu)
theorem m_runs0 {s : Sg} {c : Cf} (R : Rel0 s c) : Ok (f_X10_runs s) (fun s' => Rel0 s' c ∧ (∀ u, u < nv c → MSv s' (Tr c) u) ∧ Ag (10 :: rK) s' s ∧ (∀ j, ¬ j = 19 → s' 10 0 j = s 10 0 j)) := by
  refine Ok.mono (e_runs R.cm R.pf.2.1 R.pf.1) ?_
  rintro s' ⟨h1, h2, h3, h4⟩
  refine ⟨R.of (h1.sub (by decide)) (fun j hj _ _ => h2 j hj) ⟨Or.inr h3, fun _ => h4, ?_⟩, h4, h1, h2⟩
  rw [h1 3 (by decide)]
  exact fun q => RX_of (fun k hk => h1 k (by revert k; decide)) (R.pf.2.2 q)
theorem RdL.len {N : Nt} {b go : Nat} : ∀ {n p t : Nat} {l : List (Nat × Nat × Nat)}, RdL N b go n p t l → l.length = n := by
  intro n
  induction n with
  | zero => intro p t l h; rw [show l = [] from h]; rfl
  | succ n ih =>
    rintro p t l ⟨v, i, j, c, m, e, -, -, h3⟩
    rw [e, List.length_cons, ih h3]
theorem SR_SM {s : Sg} : ∀ {l : List (Nat × Nat × Nat)} {m : Nat}, SR s m l → SM s m l → ∀ k, m ≤ k → k < m + l.length → s 29 0 (3 * k) = s 86 0 k ∧ s 29 0 (3 * k + 1) = s 87 0 k ∧ s 29 0 (3 * k + 2) = s 88 0 k := by
  intro l
  induction l with
  | nil => intro m _ _ k h1 h2; simp only [List.length_nil] at h2; omega
  | cons x r ih =>
    intro m h1 h2 k h3 h4
    obtain ⟨⟨a1, a2, a3⟩, a4⟩ := h1
    obtain ⟨⟨b1, b2, b3⟩, b4⟩ := h2
    by_cases e : k = m
    · subst e
      exact ⟨a1.trans b1.symm, a2.trans b2.symm, a3.trans b3.symm⟩
    · simp only [List.length_cons] at h4
      exact ih a4 b4 k (by omega) (by omega)
theorem SR_of {s s' : Sg} (h : s' 29 = s 29) : ∀ {l : List (Nat × Nat × Nat)} {m : Nat}, SR s m l → SR s' m l := by
  intro l
  induction l with
  | nil => intro m _; trivial
  | cons x r ih =>
    rintro m ⟨a, b⟩
    refine ⟨?_, ih b⟩
    rw [h]
    exact a
theorem Ag.tr {l l' m : List Nat} {a b c : Sg} (h : Ag l a b) (h' : Ag l' b c) (h1 : ∀ k, k ∈ l → k ∈ m) (h2 : ∀ k, k ∈ l' → k ∈ m) : Ag m a c := fun k hk => (h k (fun q => hk (h1 k q))).trans (h' k (fun q => hk (h2 k q)))
section LET
variable {s : Sg} {c : Cf}
theorem ip_no {x : Int32} (h : x < 0 ∨ nI 8 ≤ x) : f_X9_isPort x s = some (0, s) ∧ f_X10_isPort x s = some (0, s) := by
  unfold f_X9_isPort f_X10_isPort
  by_cases q : x < 0
  · rw [if_pos q]; exact ⟨rfl, rfl⟩
  · rw [if_neg q, L_8, if_pos (h.resolve_left q)]; exact ⟨rfl, rfl⟩
theorem ip_yes {p : Nat} (h : p < 8) : f_X9_isPort (nI p) s = some (1, s) ∧ f_X10_isPort (nI p) s = some (1, s) := by
  unfold f_X9_isPort f_X10_isPort
  rw [if_neg (nI_pos (by omega)), L_8, if_neg (nI_ge h (by omega))]
  exact ⟨rfl, rfl⟩
theorem two_no {a b : Int32} (h : ¬ ∃ p q, p < 8 ∧ q < 8 ∧ ¬ p = q ∧ a = nI p ∧ b = nI q) : f_X9_areTwoPorts a b s = some (0, s) ∧ ∀ x, f_X10_areAsked a b x s = some (0, s) := by
  unfold f_X9_areTwoPorts f_X10_areAsked
  rcases ix_cases a (n := 8) (by omega) with z | ⟨p, hp, rfl⟩
  · simp only [(ip_no (s := s) z).1, (ip_no (s := s) z).2, Option.bind_some, if_true, and_self, implies_true]
  · simp only [(ip_yes (s := s) hp).1, (ip_yes (s := s) hp).2, Option.bind_some, if_neg n10]
    rcases ix_cases b (n := 8) (by omega) with z | ⟨q, hq, rfl⟩
    · simp only [(ip_no (s := s) z).1, (ip_no (s := s) z).2, Option.bind_some, if_true, and_self, implies_true]
    · simp only [(ip_yes (s := s) hq).1, (ip_yes (s := s) hq).2, Option.bind_some, if_neg n10]
      have e : nI p = nI q := by
        rcases Nat.decEq p q with e | e
        · exact absurd ⟨p, q, hp, hq, e, rfl, rfl⟩ h
        · rw [e]
      simp only [if_pos e, and_self, implies_true]
theorem two_yes {p q : Nat} (hp : p < 8) (hq : q < 8) (hpq : ¬ p = q) : f_X9_areTwoPorts (nI p) (nI q) s = some (1, s) := by
  have e : ¬ nI p = nI q := by rw [nI_eq (by omega) (by omega)]; exact hpq
  unfold f_X9_areTwoPorts
  simp only [(ip_yes (s := s) hp).1, (ip_yes (s := s) hq).1, Option.bind_some, if_neg n10, if_neg e]
theorem ask_at {p q : Nat} (hp : p < 8) (hq : q < 8) (hpq : ¬ p = q) {x : Int32} : f_X10_areAsked (nI p) (nI q) x s = f_X9_isAskedHour x s := by
  have e : ¬ nI p = nI q := by rw [nI_eq (by omega) (by omega)]; exact hpq
  unfold f_X10_areAsked f_X9_isAskedHour
  simp only [(ip_yes (s := s) hp).2, (ip_yes (s := s) hq).2, Option.bind_some, if_neg n10, if_neg e]
theorem ask_no {p q : Nat} (hp : p < 8) (hq : q < 8) (hpq : ¬ p = q) {x : Int32} (h : x < 0 ∨ nI 20001 ≤ x) : f_X9_isAskedHour x s = some (0, s) ∧ f_X10_areAsked (nI p) (nI q) x s = some (0, s) := by
  have h2 : ¬ x < 0 → 20000 < x := by
    intro z
    have := h.resolve_left z
    rw [Int32.le_iff_toInt_le, nI_toInt (by omega)] at this
    rw [Int32.lt_iff_toInt_lt, show (20000 : Int32).toInt = 20000 from rfl]
    omega
  have e : f_X9_isAskedHour x s = some (0, s) := by
    unfold f_X9_isAskedHour
    by_cases z : x < 0
    · rw [if_pos z]
    · rw [if_neg z, if_pos (h2 z)]
  exact ⟨e, by rw [ask_at hp hq hpq]; exact e⟩
theorem ask_yes {p q h : Nat} (hp : p < 8) (hq : q < 8) (hpq : ¬ p = q) (hh : h ≤ 20000) : f_X9_isAskedHour (nI h) s = some (1, s) ∧ f_X10_areAsked (nI p) (nI q) (nI h) s = some (1, s) := by
  have e : f_X9_isAskedHour (nI h) s = some (1, s) := by
    unfold f_X9_isAskedHour
    rw [if_neg (nI_pos (by omega)), show (20000 : Int32) = nI 20000 from rfl, if_neg (nI_nlt hh (by omega))]
  exact ⟨e, by rw [ask_at hp hq hpq]; exact e⟩
/-- the class's first coming as a goal -/
theorem ia_goal {N : Nt} {a h b y : Nat} (K : Nok N) (hab : ¬ a = b) (H : Inf (IA N a h b) y) : (y = 1000000 ∧ ∀ r x, ¬ Re N r a h b x) ∨ (¬ y = 1000000 ∧ 1 ≤ y ∧ y - 1 ≤ 100000 ∧ (∃ r, Re N r a h b (y - 1)) ∧ ∀ r x, Re N r a h b x → y - 1 ≤ x) := by
  have low : ∀ r x, Re N r a h b x → y ≤ x + 1 := by
    rintro r x ⟨n, n1, n2, n3⟩
    exact H.2.2 (x + 1) ⟨n, n3⟩
  have bd : ∀ r x, Re N r a h b x → x ≤ 100000 := by
    rintro r x ⟨n, n1, n2, n3⟩
    obtain ⟨n, rfl⟩ : ∃ m, n = m + 1 := ⟨n - 1, by omega⟩
    have := (pa_q K n3).2
    omega
  rcases H.2.1 with e | ⟨n, hn⟩
  · refine Or.inl ⟨e, fun r x hr => ?_⟩
    have := low r x hr
    have := bd r x hr
    omega
  · have hn1 : 1 ≤ n := by
      rcases Nat.eq_zero_or_pos n with z | z
      · subst z; exact absurd hn.1 hab
      · exact z
    have hle := pa_le K hn
    have hr : Re N n a h b (y - 1) := ⟨n, hn1, Nat.le_refl _, by rw [show y - 1 + 1 = y by omega]; exact hn⟩
    have := bd n _ hr
    exact Or.inr ⟨by omega, by omega, this, ⟨n, hr⟩, fun r x hx => by have := low r x hx; omega⟩
/-- first() of the class from layOut() on -/
theorem x_first33 {a b h : Nat} {tr : Int32} (R : Rel0 s c) (ha : a < 8) (hb : b < 8) (hab : ¬ a = b) (hh : h ≤ 20000) (htr : tr = 0 ∨ tr = 1) (hR : tr = 1 → RX s c) : Ok (f_X9_first_B33 (nI a) (nI b) (nI h) tr s) (fun w => Ag [4, 25, 26, 27, 28, 29] w.2 s ∧ ((w.1 = -1 ∧ (∀ r x, ¬ Re (nt c tr) r a h b x) ∧ w.2 29 = s 29 ∧ w.2 4 0 6 = s 4 0 6) ∨ ∃ go n l, w.1 = nI go ∧ go ≤ 100000 ∧ Opt (nt c tr) a h b go n ∧ RdL (nt c tr) b go (n + 1) a h l ∧ SR w.2 0 l ∧ w.2 4 0 6 = nI (n + 1))) := by
  unfold f_X9_first_B33
  refine ok_bind (e_layOut R.cx htr hR) ?_
  rintro s1 ⟨a1, N1⟩
  refine ok_bind (e_firstComing N1 ha hb hab hh) ?_
  rintro ⟨w, s2⟩ ⟨⟨y, y1, y2⟩, a2⟩
  dsimp only at y2 a2 ⊢
  have K := N1.1
  have A2 : Ag [4, 25, 26, 27, 28, 29] s2 s := a2.tr a1 (by decide) (by decide)
  rcases ia_goal K hab y1 with ⟨e1, e2⟩ | ⟨e1, e2, e3, e4, e5⟩
  · rw [if_pos e1] at y2
    refine ok_pos y2 (ok_some ⟨A2, Or.inl ⟨y2, e2, ?_, ?_⟩⟩)
    · dsimp only; rw [a2 29 (by decide), a1 29 (by decide)]
    · dsimp only; rw [a2 4 (by decide), a1 4 (by decide)]
  · rw [if_neg e1] at y2
    subst y2
    refine ok_neg (nIm1 (by omega)) ?_
    have N2 := N1.of (a2.sub (by decide))
    refine ok_bind (e_reckonLatest N2 hb (by omega)) ?_
    rintro s3 ⟨a3, R3, L, hRK⟩
    have N3 := N2.of (a3.1.sub (by decide))
    refine ok_bind (e_chooseRides N3 ha hb hab hh e3 hRK e5 e4) ?_
    rintro s4 ⟨n, l, b1, b2, b3, b4, b5, b6⟩
    refine ok_some ⟨?_, Or.inr ⟨y - 1, n, l, rfl, e3, b2, b3, b4, b5⟩⟩
    exact (b6.1.tr a3.1 (m := [4, 25, 26, 27, 28, 29]) (by decide) (by decide)).tr A2 (by decide) (by decide)
theorem x_last33 {a b h : Nat} {tr : Int32} (R : Rel0 s c) (ha : a < 8) (hb : b < 8) (hab : ¬ a = b) (hh : h ≤ 20000) (htr : tr = 0 ∨ tr = 1) (hR : tr = 1 → RX s c) : Ok (f_X9_last_B33 (nI a) (nI b) (nI h) tr s) (fun w => Ag [4, 25, 26, 27, 28, 29] w.2 s ∧ w.2 29 = s 29 ∧ w.2 4 0 6 = s 4 0 6 ∧ ∃ o, w.1 = oI o ∧ SupO (Lr (nt c tr) b h a) o) := by
  unfold f_X9_last_B33
  refine ok_bind (e_layOut R.cx htr hR) ?_
  rintro s1 ⟨a1, N1⟩
  refine ok_bind (e_reckonLatest N1 hb (show h ≤ 1000000 by omega)) ?_
  rintro s3 ⟨a3, R3, L, q1, q2, q3, q4, q5⟩
  obtain ⟨w1, w2⟩ := q4 R3 (Nat.le_refl _)
  have e1 : nI R3 * 8 + nI a = nI (8 * R3 + a) := by rw [L_8, pk_mul, nI_add, Nat.mul_comm]
  have hlf : f_X4_latestFrom (nI a) (s3 4 0 4) s3 = some (oI (L R3 a), s3) := by
    unfold f_X4_latestFrom
    rw [q1, e1]
    simp only [chk, gi_nI (show 8 * R3 + a < 88 by omega) (by decide), if_true, nI_clamp (show 8 * R3 + a < 2 ^ 31 by omega), w1 a ha]
  refine ok_call hlf (ok_some ⟨a3.1.tr a1 (by decide) (by decide), ?_, ?_, L R3 a, rfl, fun m hm => ?_, ?_⟩)
  · dsimp only; rw [a3.1 29 (by decide), a1 29 (by decide)]
  · dsimp only; rw [a3.2 6 (by decide), a1 4 (by decide)]
  · obtain ⟨m1, x, m2, m3⟩ := w2.1 a ha m hm
    exact ⟨m1, R3, x, m2, m3⟩
  · rintro t ⟨r, x, x1, x2⟩
    exact q5 a t x r ha hab x1 x2
theorem sup_uniq {S : Nat → Prop} {o o' : Option Nat} (h : SupO S o) (h' : SupO S o') : o = o' := by
  cases o with
  | none =>
    cases o' with
    | none => rfl
    | some m =>
      obtain ⟨x, x1, -⟩ := h.2 m (h'.1 m rfl).2
      exact absurd x1 (by simp)
  | some m =>
    obtain ⟨x, x1, x2⟩ := h'.2 m (h.1 m rfl).2
    obtain ⟨y, y1, y2⟩ := h.2 x (h'.1 x x1).2
    have := Option.some.inj y1
    rw [x1]
    congr 1
    omega
theorem PF.m {s' : Sg} (h : LB s' s) (H : PF s c) : PF s' c := by
  obtain ⟨h1, h2, h3⟩ := H
  refine ⟨by rw [h.2 19 (by decide)]; exact h1, ?_, ?_⟩
  · rw [h.2 19 (by decide)]
    exact fun q u hu => MSv_k (fun k hk => h.1 k (by revert k; decide)) (h2 q u hu)
  · rw [h.1 3 (by decide)]
    exact fun q => RX_of (fun k hk => h.1 k (by revert k; decide)) (h3 q)
theorem PF.b52 {x : Int32} (H : PF s c) : PF (up3 s 10 0 52 x) c := by
  obtain ⟨h1, h2, h3⟩ := H
  refine ⟨by rw [up_j (by decide)]; exact h1, ?_, ?_⟩
  · rw [up_j (by decide)]
    exact fun q u hu => MSv_k (fun k hk => up_k (by rintro rfl; revert hk; decide)) (h2 q u hu)
  · rw [up_k (by decide)]
    exact fun q => RX_of (fun k hk => up_k (by rintro rfl; revert hk; decide)) (h3 q)
/-- the reference behind runs(): its net stands -/
theorem m_net {tr : Int32} (R : Rel0 s c) (M : ∀ u, u < nv c → MSv s (Tr c) u) : NB (up3 s 10 0 52 tr) (nt c tr) ∧ Rel0 (up3 s 10 0 52 tr) c := by
  have R' : Rel0 (up3 s 10 0 52 tr) c := R.of (Ag.rfl.up (by decide)) (fun j _ h _ => up_j h) R.pf.b52
  exact ⟨e_NB R'.cm (fun _ u hu => MSv_k (fun k hk => up_k (by rintro rfl; revert hk; decide)) (M u hu)) up_s, R'⟩
theorem opt_uniq {N : Nt} {p t b go go' n n' : Nat} (O : Opt N p t b go n) (O' : Opt N p t b go' n') : go = go' ∧ n = n' := by
  have h1 := O.2.1 _ _ O'.1
  have h2 := O'.2.1 _ _ O.1
  have e : go = go' := by omega
  subst e
  refine ⟨rfl, ?_⟩
  rcases Nat.lt_trichotomy n n' with h | h | h
  · exact absurd (re_mono O.1 (by omega)) O'.2.2
  · exact h
  · exact absurd (re_mono O'.1 (by omega)) O.2.2
theorem b01_ok {x : Int32} (h : x = 0 ∨ x = 1) : b01 x = true := by
  rcases h with h | h <;> subst h <;> rfl
theorem q_first (R : Rel s) (a1 a2 a3 : Int32) {tr : Int32} (htr : tr = 0 ∨ tr = 1) : Bo (f_X9_first a1 a2 a3 tr) (f_X10_first a1 a2 a3 tr) s := by
  obtain ⟨c, RC⟩ := id R
  by_cases hp : ∃ p q, p < 8 ∧ q < 8 ∧ ¬ p = q ∧ a1 = nI p ∧ a2 = nI q
  · obtain ⟨a, b, ha, hb, hab, rfl, rfl⟩ := hp
    rcases ix_cases a3 (n := 20001) (by omega) with h | ⟨h, hh, rfl⟩
    · obtain ⟨x1, x2⟩ := ask_no (s := s) ha hb hab h
      refine bo_eq (r := -1) R ?_ ?_
      · unfold f_X9_first; rw [two_yes ha hb hab]; show Option.bind (f_X9_isAskedHour a3 s) _ = _; rw [x1]; rfl
      · unfold f_X10_first; rw [x2]; rfl
    · have hX : Ok (f_X9_first (nI a) (nI b) (nI h) tr s) (fun w => Rel0 w.2 c ∧ w.2 10 = s 10 ∧ w.2 86 = s 86 ∧ w.2 87 = s 87 ∧ w.2 88 = s 88 ∧ ((w.1 = -1 ∧ (∀ r x, ¬ Re (nt c tr) r a h b x) ∧ w.2 29 = s 29 ∧ w.2 4 0 6 = s 4 0 6) ∨ ∃ go n l, w.1 = nI go ∧ go ≤ 100000 ∧ Opt (nt c tr) a h b go n ∧ RdL (nt c tr) b go (n + 1) a h l ∧ SR w.2 0 l ∧ w.2 4 0 6 = nI (n + 1))) := by
        unfold f_X9_first
        refine ok_call (two_yes ha hb hab) (ok_neg n10 (ok_call (ask_yes ha hb hab (by omega)).1 (ok_neg n10 ?_)))
        dsimp only
        rcases htr with e | e
        · subst e
          refine ok_pos rfl (Ok.mono (x_first33 RC.r0 ha hb hab (by omega) (Or.inl rfl) (fun z => absurd z (by decide))) ?_)
          rintro ⟨w, s'⟩ ⟨A, H⟩
          exact ⟨RC.r0.of (A.sub (by decide)) (fun j _ _ _ => by rw [A 10 (by decide)]) (RC.pf.x A), A 10 (by decide), A 86 (by decide), A 87 (by decide), A 88 (by decide), H⟩
        · subst e
          refine ok_neg n10 (ok_bind (x_upd0 RC.r0) ?_)
          rintro s1 ⟨R1, X1, A1⟩
          refine Ok.mono (x_first33 R1 ha hb hab (by omega) (Or.inr rfl) (fun _ => X1)) ?_
          rintro ⟨w, s'⟩ ⟨A, H⟩
          dsimp only at A H ⊢
          rw [A1 29 (by decide), A1 4 (by decide)] at H
          exact ⟨R1.of (A.sub (by decide)) (fun j _ _ _ => by rw [A 10 (by decide)]) (R1.pf.x A), by rw [A 10 (by decide), A1 10 (by decide)], by rw [A 86 (by decide), A1 86 (by decide)], by rw [A 87 (by decide), A1 87 (by decide)], by rw [A 88 (by decide), A1 88 (by decide)], H⟩
      obtain ⟨⟨w, s1⟩, y1, R1, e10, e86, e87, e88, H⟩ := hX
      refine ⟨_, y1, ?_⟩
      dsimp only at R1 e10 e86 e87 e88 H ⊢
      unfold f_X10_first
      refine ok_call (ask_yes ha hb hab (by omega)).2 (ok_neg n10 (ok_bind (m_runs0 R1) ?_))
      rintro s2 ⟨R2, M2, A2, B2⟩
      dsimp only at A2 B2
      refine ok_chk (b01_ok htr) (ok_S ?_)
      obtain ⟨NBs, R3⟩ := m_net (tr := tr) R2 M2
      refine Ok.mono (e_firstM NBs ha hb hab (show h ≤ 20000 by omega)) ?_
      rintro ⟨w', s4⟩ H'
      dsimp only at H' ⊢
      have t52 : ∀ k, ¬ k = 10 → up3 s2 10 0 52 tr k = s2 k := fun k hk => up_k hk
      rcases H' with ⟨g1, g2, g3⟩ | ⟨go', n', l', g1, g2, g3, g4, g5, g6, g7, g8⟩
      · have R4 : Rel0 s4 c := R3.of (g3.B.1.sub (by decide)) (fun j _ _ h55 => g3.2 j h55) (R3.pf.m g3.B)
        rcases H with ⟨h1, h2, h3, h4⟩ | ⟨go, n, l, h1, h2, h3, -⟩
        · refine ⟨h1.trans g1.symm, c, R4.c (P8_of ?_ ?_ ?_ RC.p8)⟩
          · intro k hk
            have hk10 : ¬ k = 10 := by rintro rfl; revert hk; decide
            have hk1 : k = 29 ∨ k = 86 ∨ k = 87 ∨ k = 88 := by simpa using hk
            rw [g3.1 k (by rcases hk1 with rfl | rfl | rfl | rfl <;> decide), t52 k hk10, A2 k (by rcases hk1 with rfl | rfl | rfl | rfl <;> decide)]
            rcases hk1 with rfl | rfl | rfl | rfl
            · exact h3
            · exact e86
            · exact e87
            · exact e88
          · rw [g3.1 4 (by decide), t52 4 (by decide), A2 4 (by decide)]; exact h4
          · rw [g3.1 10 (by decide), up_j (by decide), B2 55 (by decide), e10]
        · exact absurd h3.1 (g2 _ _)
      · have R4 : Rel0 s4 c := R3.of (g8.1.sub (by decide)) (fun j _ _ h55 => g8.2 j h55) (R3.pf.m g8)
        rcases H with ⟨h1, h2, h3, h4⟩ | ⟨go, n, l, h1, h2, h3, h4, h5, h6⟩
        · exact absurd g4.1 (h2 _ _)
        · obtain ⟨e1, e2⟩ := opt_uniq h3 g4
          subst e1; subst e2
          have e3 := h4.uniq g5
          subst e3
          refine ⟨h1.trans g1.symm, c, R4.c ⟨n + 1, by omega, ?_, g7, fun k hk => ?_⟩⟩
          · rw [g8.1 4 (by decide), t52 4 (by decide), A2 4 (by decide)]; exact h6
          · have e29 : s4 29 = s1 29 := by rw [g8.1 29 (by decide), t52 29 (by decide), A2 29 (by decide)]
            exact SR_SM (SR_of e29 h5) g6 k (Nat.zero_le _) (by rw [h4.len]; omega)
  · obtain ⟨x1, x2⟩ := two_no (s := s) hp
    refine bo_eq (r := -1) R ?_ ?_
    · unfold f_X9_first; rw [x1]; rfl
    · unfold f_X10_first; rw [x2]; rfl
theorem q_last (R : Rel s) (a1 a2 a3 : Int32) {tr : Int32} (htr : tr = 0 ∨ tr = 1) : Bo (f_X9_last a1 a2 a3 tr) (f_X10_last a1 a2 a3 tr) s := by
  obtain ⟨c, RC⟩ := id R
  by_cases hp : ∃ p q, p < 8 ∧ q < 8 ∧ ¬ p = q ∧ a1 = nI p ∧ a2 = nI q
  · obtain ⟨a, b, ha, hb, hab, rfl, rfl⟩ := hp
    rcases ix_cases a3 (n := 20001) (by omega) with h | ⟨h, hh, rfl⟩
    · obtain ⟨x1, x2⟩ := ask_no (s := s) ha hb hab h
      refine bo_eq (r := -1) R ?_ ?_
      · unfold f_X9_last; rw [two_yes ha hb hab]; show Option.bind (f_X9_isAskedHour a3 s) _ = _; rw [x1]; rfl
      · unfold f_X10_last; rw [x2]; rfl
    · have hX : Ok (f_X9_last (nI a) (nI b) (nI h) tr s) (fun w => Rel0 w.2 c ∧ w.2 10 = s 10 ∧ w.2 86 = s 86 ∧ w.2 87 = s 87 ∧ w.2 88 = s 88 ∧ w.2 29 = s 29 ∧ w.2 4 0 6 = s 4 0 6 ∧ ∃ o, w.1 = oI o ∧ SupO (Lr (nt c tr) b h a) o) := by
        unfold f_X9_last
        refine ok_call (two_yes ha hb hab) (ok_neg n10 (ok_call (ask_yes ha hb hab (by omega)).1 (ok_neg n10 ?_)))
        dsimp only
        rcases htr with e | e
        · subst e
          refine ok_pos rfl (Ok.mono (x_last33 RC.r0 ha hb hab (by omega) (Or.inl rfl) (fun z => absurd z (by decide))) ?_)
          rintro ⟨w, s'⟩ ⟨A, H⟩
          exact ⟨RC.r0.of (A.sub (by decide)) (fun j _ _ _ => by rw [A 10 (by decide)]) (RC.pf.x A), A 10 (by decide), A 86 (by decide), A 87 (by decide), A 88 (by decide), H⟩
        · subst e
          refine ok_neg n10 (ok_bind (x_upd0 RC.r0) ?_)
          rintro s1 ⟨R1, X1, A1⟩
          refine Ok.mono (x_last33 R1 ha hb hab (by omega) (Or.inr rfl) (fun _ => X1)) ?_
          rintro ⟨w, s'⟩ ⟨A, H⟩
          dsimp only at A H ⊢
          rw [A1 29 (by decide), A1 4 (by decide)] at H
          exact ⟨R1.of (A.sub (by decide)) (fun j _ _ _ => by rw [A 10 (by decide)]) (R1.pf.x A), by rw [A 10 (by decide), A1 10 (by decide)], by rw [A 86 (by decide), A1 86 (by decide)], by rw [A 87 (by decide), A1 87 (by decide)], by rw [A 88 (by decide), A1 88 (by decide)], H⟩
      obtain ⟨⟨w, s1⟩, y1, R1, e10, e86, e87, e88, h3, h4, o, o1, o2⟩ := hX
      refine ⟨_, y1, ?_⟩
      dsimp only at R1 e10 e86 e87 e88 h3 h4 o1 ⊢
      unfold f_X10_last
      refine ok_call (ask_yes ha hb hab (by omega)).2 (ok_neg n10 (ok_bind (m_runs0 R1) ?_))
      rintro s2 ⟨R2, M2, A2, B2⟩
      dsimp only at A2 B2
      refine ok_chk (b01_ok htr) (ok_S ?_)
      obtain ⟨NBs, R3⟩ := m_net (tr := tr) R2 M2
      refine Ok.mono (e_last NBs.m ha hb (show h ≤ 1000000 by omega)) ?_
      rintro ⟨w', s4⟩ ⟨⟨o', g1, g2⟩, g3⟩
      dsimp only at g1 g3 ⊢
      have t52 : ∀ k, ¬ k = 10 → up3 s2 10 0 52 tr k = s2 k := fun k hk => up_k hk
      have R4 : Rel0 s4 c := R3.of (g3.B.1.sub (by decide)) (fun j _ _ h55 => g3.2 j h55) (R3.pf.m g3.B)
      have eo := sup_uniq o2 g2
      subst eo
      refine ⟨o1.trans g1.symm, c, R4.c (P8_of ?_ ?_ ?_ RC.p8)⟩
      · intro k hk
        have hk10 : ¬ k = 10 := by rintro rfl; revert hk; decide
        have hk1 : k = 29 ∨ k = 86 ∨ k = 87 ∨ k = 88 := by simpa using hk
        rw [g3.1 k (by rcases hk1 with rfl | rfl | rfl | rfl <;> decide), t52 k hk10, A2 k (by rcases hk1 with rfl | rfl | rfl | rfl <;> decide)]
        rcases hk1 with rfl | rfl | rfl | rfl
        · exact h3
        · exact e86
        · exact e87
        · exact e88
      · rw [g3.1 4 (by decide), t52 4 (by decide), A2 4 (by decide)]; exact h4
      · rw [g3.1 10 (by decide), up_j (by decide), B2 55 (by decide), e10]
  · obtain ⟨x1, x2⟩ := two_no (s := s) hp
    refine bo_eq (r := -1) R ?_ ?_
    · unfold f_X9_last; rw [x1]; rfl
    · unfold f_X10_last; rw [x2]; rfl
end LET
