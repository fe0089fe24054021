/-! class and reference read a clause alike: the whole of it -/
/-- the reference at place i, whatever lies on its pile -/
def RMw (n : Nat) (t0 t : Sg) (i : Nat) (L : List It) : Prop := RG t0 t ∧ (t 10 0 22 = 0 ∧ t 10 0 23 = -1) ∧ t 10 0 37 = nI i ∧ t 10 0 38 = nI n ∧ t 62 0 4 = nI L.length ∧ CMk t 800 L ∧ L.length ≤ i ∧ i ≤ n
section WEAK
variable {g : Nat → Nat} {n : Nat} {t0 t : Sg} {i : Nat} {L : List It}
theorem w_here (T : TXM t0 g n) (H : RMw n t0 t i L) : f_X10_here t = some (nI (cA g n i), t) := by
  obtain ⟨h0, -, h1, h2, -, -, -, h3⟩ := id H
  have hn := T.1
  unfold f_X10_here cA
  rw [h1, h2]
  by_cases q : i < n
  · rw [if_neg (nI_ge q (by omega)), if_pos q, chk, if_pos (gi_nI (by omega) (by decide)), nI_clamp (by omega), h0.1 60 (by decide), (T.2 i q).2]
  · rw [if_pos (nI_le (by omega) (by omega)), if_neg q]; rfl
theorem w_fl (H : RMw n t0 t i L) (k : Nat) : RFl t0 (up3 (up3 t 10 0 22 (nI k)) 10 0 23 (nI i)) k i := by
  refine ⟨(H.1.up10 (by decide)).up10 (by decide), ?_, up_s⟩
  rw [up_j (by decide), up_s]
theorem w_wrong (H : RMw n t0 t i L) (k : Nat) {P : Int32 × Sg → Prop} (h : ∀ t', RFl t0 t' k i → P (0, t')) : Ok (Option.bind (f_X10_wrong (nI k) t) fun q => chk (b01 q.1) (some (q.1, q.2))) P := by
  unfold f_X10_wrong bdS
  refine ok_bs (ok_chk rfl (ok_some (h _ ?_)))
  dsimp only
  rw [up_j (by decide), H.2.2.1]
  exact w_fl H k
theorem RMw.adv (H : RMw n t0 t i L) (hi : i < n) : RMw n t0 (up3 t 10 0 37 (t 10 0 37 + 1)) (i + 1) L := by
  obtain ⟨h1, h2, h3, h4, h8, h9, h10, h11⟩ := H
  rw [h3, nI_1]
  refine ⟨h1.up10 (by decide), ?_, up_s, ?_, ?_, CMk_lo (fun j _ => ⟨by rw [up_k (by decide)], by rw [up_k (by decide)], by rw [up_k (by decide)], by rw [up_k (by decide)]⟩) h9, by omega, by omega⟩
  · rw [up_j (by decide), up_j (by decide)]; exact h2
  · rw [up_j (by decide)]; exact h4
  · rw [up_k (by decide)]; exact h8
theorem RMw.num (H : RMw n t0 t i L) {j : Nat} (hj : j = 36 ∨ j = 39 ∨ j = 40) (x : Int32) : RMw n t0 (up3 t 10 0 j x) i L := by
  obtain ⟨h1, h2, h3, h4, h8, h9, h10, h11⟩ := H
  refine ⟨h1.up10 (by rcases hj with e | e | e <;> subst e <;> decide), ?_, ?_, ?_, ?_, CMk_lo (fun j _ => ⟨by rw [up_k (by decide)], by rw [up_k (by decide)], by rw [up_k (by decide)], by rw [up_k (by decide)]⟩) h9, h10, h11⟩
  · rw [up_j (by omega), up_j (by omega)]; exact h2
  · rw [up_j (by omega)]; exact h3
  · rw [up_j (by omega)]; exact h4
  · rw [up_k (by decide)]; exact h8
theorem w_L10 (T : TXM t0 g n) {m : Nat} (hm : dg g n i m) {P : Int32 × Sg → Prop} (h0 : m = 0 → ∀ t', RFl t0 t' 1 i → P (0, t')) (h4 : m = 4 → dig g n (i + 4) → ∀ t', RFl t0 t' 1 (i + 4) → P (0, t')) (hk : 1 ≤ m → ¬ dig g n (i + m) → ∀ t', RMw n t0 t' (i + m) L → t' 10 0 40 = nI (vN g n i m) → P (1, t')) : ∀ (e q f : Nat) (t : Sg), q + e = m → e < f → RMw n t0 t (i + q) L → t 10 0 40 = nI (vN g n i q) → Ok (f_X10_reads_L10 f_X10_reads_B76 f (nI i) t) P := by
  have hn := T.1
  have hm4 := hm.1
  have fin : ∀ t : Sg, RMw n t0 t (i + m) L → t 10 0 40 = nI (vN g n i m) → ¬ dig g n (i + m) → Ok (f_X10_reads_B76 (nI i) t) P := by
    intro t H hv hd
    have hi := H.2.2.2.2.2.2.2
    unfold f_X10_reads_B76
    rw [H.2.2.1]
    by_cases z : m = 0
    · refine ok_neg (by rw [nI_ltI (by omega) (by omega)]; omega) ?_
      unfold f_X10_wrong bdS
      refine ok_bs (ok_pos rfl (ok_some (h0 z _ ?_)))
      dsimp only
      rw [up_j (by decide), H.2.2.1]
      have := w_fl H 1
      rw [z, Nat.add_zero] at this ⊢
      exact this
    · exact ok_pos (by rw [nI_ltI (by omega) (by omega)]; omega) (ok_some (hk (by omega) hd t H hv))
  intro e
  induction e with
  | zero =>
    intro q f t h1 h2 H hv
    have : q = m := by omega
    subst this
    obtain ⟨f, rfl⟩ : ∃ m, f = m + 1 := ⟨f - 1, by omega⟩
    have hi := H.2.2.2.2.2.2.2
    have hc := cA_lt (i := i + q) T
    have hD := dig_I hc
    show Ok (f_X10_reads_B10 _ _ _ _) _
    unfold f_X10_reads_B10
    refine ok_call (w_here T H) (ok_ite (fun z => ?_) (fun z => ?_))
    · exact fin t H hv (fun y => (hD.mpr y).1 z)
    · refine ok_call (w_here T H) (ok_ite (fun z2 => ?_) (fun z2 => ?_))
      · exact fin t H hv (fun y => (hD.mpr y).2 z2)
      · have hd : dig g n (i + q) := hD.mp ⟨z, z2⟩
        have e4 : q = 4 := hm.2.2.resolve_right (fun y => y hd)
        subst e4
        dsimp only
        refine ok_pos (by rw [H.2.2.1, L_4, nI_add]) (w_wrong H 1 (fun t' ht => h4 rfl hd t' ht))
  | succ e ih =>
    intro q f t h1 h2 H hv
    obtain ⟨f, rfl⟩ : ∃ m, f = m + 1 := ⟨f - 1, by omega⟩
    have hd := hm.2.1 q (by omega)
    have hi := dig_lt hd
    have hc := cA_lt (i := i + q) T
    have hD := (dig_I hc).mpr hd
    show Ok (f_X10_reads_B10 _ _ _ _) _
    unfold f_X10_reads_B10
    refine ok_call (w_here T H) (ok_neg hD.1 (ok_call (w_here T H) (ok_neg hD.2 ?_)))
    refine ok_neg (by dsimp only; rw [H.2.2.1, L_4, nI_add, nI_eq (by omega) (by omega)]; omega) (ok_call (w_here T H) (ok_S (ok_S ?_)))
    dsimp only
    unfold dig at hd
    have ev : 10 * t 10 0 40 + nI (cA g n (i + q)) - 48 = nI (vN g n i (q + 1)) := by
      rw [hv, L_10, pk_mul, nI_add, L_48, pk_sub (by omega)]
      congr 1
      show 10 * vN g n i q + cA g n (i + q) - 48 = 10 * vN g n i q + (cA g n (i + q) - 48)
      omega
    rw [ev]
    have H2 := (H.num (j := 40) (Or.inr (Or.inr rfl)) (nI (vN g n i (q + 1)))).adv hi
    refine ih (q + 1) f _ (by omega) (by omega) H2 ?_
    rw [up_j (by decide), up_s]
theorem w_reads (T : TXM t0 g n) {m : Nat} (hm : dg g n i m) {P : Int32 × Sg → Prop} (H : RMw n t0 t i L) (h0 : m = 0 → ∀ t', RFl t0 t' 1 i → P (0, t')) (h4 : m = 4 → dig g n (i + 4) → ∀ t', RFl t0 t' 1 (i + 4) → P (0, t')) (hk : 1 ≤ m → ¬ dig g n (i + m) → ∀ t', RMw n t0 t' (i + m) L → t' 10 0 40 = nI (vN g n i m) → P (1, t')) : Ok (f_X10_reads t) P := by
  unfold f_X10_reads
  refine ok_I (ok_S ?_)
  rw [H.2.2.1]
  have := hm.1
  exact w_L10 T hm h0 h4 hk m 0 FU _ (by omega) (by unfold FU; omega) (H.num (Or.inr (Or.inr rfl)) 0) up_s
end WEAK
section CLAUSE2
variable {g : Nat → Nat} {n o : Nat} {s0 t0 : Sg}
/-- a whole test, level 0 -/
theorem s_test0 {s t : Sg} {sc tc : Sg} {i : Nat} {L : List It} (TX : TXX s g n) (T : TXM t g n) (ho : o < 5) (HX : XM n o s sc i L) (HM : RMw n t tc i L) : Ok (f_X5_readTest (f_rF 20) 0 sc) (fun q => (q.1 = 0 ∧ ∃ k p, XFl o s q.2 k p ∧ Ok (f_X10_readsTest tc) (fun r => r.1 = 0 ∧ RFl t r.2 k p)) ∨ (q.1 = 1 ∧ ∃ j M, XM n o s q.2 j (L ++ M) ∧ i < j ∧ dps M 0 = some 1 ∧ ((dig g n j ∧ Ok (f_X10_readsTest tc) (fun r => r.1 = 0 ∧ RFl t r.2 1 j)) ∨ Ok (f_X10_readsTest tc) (fun r => r.1 = 1 ∧ RMw n t r.2 j (L ++ M))))) := by
  have h1 := s_test (t0 := t) TX T ho (F := f_rF 20) (op := 0) (by omega) (fun i L s H => s_factor TX T ho 20 0 i L s (by omega) (by omega) H) HX
  -- the reference begins
  obtain ⟨b1, b2, b3, b4, b8, b9, b10, b11⟩ := (HM.num (j := 36) (Or.inl rfl) 0).num (j := 39) (Or.inr (Or.inl rfl)) 0
  have H0 : RM n t (up3 (up3 tc 10 0 36 0) 10 0 39 0) i [] L := by
    refine ⟨b1, b2, b3, b4, ?_, trivial, up_s, b8, b9, ?_, b11⟩
    · rw [up_j (by decide), up_s]; rfl
    · show L.length + 0 ≤ i; omega
  have beg : ∀ Q : Int32 × Sg → Prop, Ok (KF 999999 FU (up3 (up3 tc 10 0 36 0) 10 0 39 0)) Q → Ok (f_X10_readsTest tc) Q := by
    intro Q h
    unfold f_X10_readsTest
    refine ok_S (ok_S ?_)
    have e : ∀ N, N = 999999 + 1 → f_X10_readsTest_L12 k193 N 1 (up3 (up3 tc 10 0 36 0) 10 0 39 0) = KF 999999 FU (up3 (up3 tc 10 0 36 0) 10 0 39 0) := by
      intro N hN
      subst hN
      rfl
    have e2 := e FU rfl
    show Ok (f_X10_readsTest_L12 k193 FU 1 _) Q
    rw [e2]
    exact h
  have bn : bas [] := ⟨fun z => absurd z (by simp), fun z => absurd z (by simp), fun z => absurd z (by simp)⟩
  refine Ok.mono h1 ?_
  rintro q (⟨q0, k, p, hx, hfa⟩ | ⟨q1, j, M, H2, a1, a2, a3, a4⟩)
  · exact Or.inl ⟨q0, k, p, hx, beg _ (hfa [] L _ 999999 FU _ bn rfl H0 (by omega) (by unfold FU; omega) (fun t' ht => ⟨rfl, ht⟩))⟩
  · refine Or.inr ⟨q1, j, M, H2, a1, a3 0 (by omega), ?_⟩
    have hj := H2.2.2.2.2.2.2.2.2.2
    have hn := T.1
    rcases a4 with ⟨d1, d2⟩ | ⟨a4, a5, a6⟩
    · exact Or.inl ⟨d1, beg _ (d2 [] L _ 999999 FU _ bn rfl H0 (by omega) (by unfold FU; omega) (fun t' ht => ⟨rfl, ht⟩))⟩
    · refine Or.inr (beg _ (a4 [] L _ 999999 FU _ bn rfl H0 (by omega) (by unfold FU; omega) (fun t' a b M1 w' m k1 k2 eM ht => ?_)))
      obtain ⟨w', rfl⟩ : ∃ x, w' = x + 1 := ⟨w' - 1, by omega⟩
      obtain ⟨m, rfl⟩ : ∃ x, m = x + 1 := ⟨m - 1, by omega⟩
      refine kb_end T ht a5 a6 (fun t2 ht2 => ⟨rfl, ?_⟩)
      rw [List.append_assoc, ← eM] at ht2
      obtain ⟨c1, c2, c3, c4, c5, c6, c7, c8, c9, c10, c11⟩ := ht2
      exact ⟨c1, c2, c3, c4, c8, c9, by have : ([] : List Nat).length = 0 := rfl; omega, c11⟩
/-- behind kind and number -/
theorem s_72 {s t sc tc : Sg} {i c b : Nat} {Ks : List Cl} {x : Int32} (TX : TXX s g n) (T : TXM t g n) (ho : o < 5) (HX : XC n o s0 s b Ks) (HM : RC n t0 t b Ks) (hK : Ks.length < 12) (hc : c = 87 ∨ c = 88 ∨ c = 80) (X : XM n o s sc i (fl Ks)) (M : RMw n t tc i (fl Ks)) (x6 : sc 5 0 6 = x) (x40 : tc 10 0 40 = x) : Ok (f_X5_readClause_B72 (nI c) sc) (fun q => (q.1 = 0 ∧ ∃ k p, XFc o s0 q.2 k p ∧ Ok (f_X10_readsClause_B76 (nI c) tc) (fun r => r.1 = 0 ∧ RFc t0 r.2 k p)) ∨ (q.1 = 1 ∧ ∃ j y, XC n o s0 q.2 j (Ks ++ [y]) ∧ i ≤ j ∧ clok y ∧ ((dig g n j ∧ Ok (f_X10_readsClause_B76 (nI c) tc) (fun r => r.1 = 0 ∧ RFc t0 r.2 1 j)) ∨ Ok (f_X10_readsClause_B76 (nI c) tc) (fun r => r.1 = 1 ∧ RC n t0 r.2 j (Ks ++ [y]))))) := by
  have hcc : c < 256 := by omega
  obtain ⟨⟨r1, r2, r3, r4, r5, r6, r7⟩, r8, r9, r10, r11⟩ := id HM
  obtain ⟨m1, m2, m3, m4, m5, m6, m7, m8⟩ := id M
  have c61 : tc 61 0 4 = nI Ks.length := by rw [m1.1 61 (by decide)]; exact r4
  have c63 : tc 63 0 4 = pnF Ks := by rw [m1.1 63 (by decide)]; exact r5
  have cMR : MRr tc 0 0 Ks := MRr_lo (fun j _ => by rw [m1.1 64 (by decide), m1.1 65 (by decide), m1.1 66 (by decide), m1.1 67 (by decide)]; exact ⟨rfl, rfl, rfl, rfl⟩) r7
  have cG := m1.c r1
  unfold f_X5_readClause_B72
  refine ok_I ?_
  rw [x6]
  by_cases hP : c = 80
  · subst hP
    refine ok_pos rfl ?_
    have hXM : XM n o s sc i (fl Ks ++ []) := by rw [List.append_nil]; exact X
    refine Ok.mono (x_102 (k := 80) (x := x) ho HX hXM hK) ?_
    rintro q ⟨q1, q2⟩
    refine Or.inr ⟨q1, i, (nI 80, x, []), q2, Nat.le_refl _, ⟨fun z => ?_, Or.inr (Or.inr rfl), by show 0 ≤ 200; omega⟩, Or.inr ?_⟩
    · rcases z with z | z
      · exact absurd (show nI 80 = 87 from z) (by decide)
      · exact absurd (show nI 80 = 88 from z) (by decide)
    · unfold f_X10_readsClause_B76
      refine ok_I (ok_chk rfl (ok_I (ok_pos rfl (ok_chk rfl (ok_S ?_)))))
      rw [x40]
      show Ok (f_X10_readsClause_B135 (nI 80) x (tc 62 0 4) (up3 tc 63 0 4 x)) _
      refine r_135 (M := []) (i := i) ⟨?_, fun j hj => ?_, fun j hj => ?_, fun j hj => ?_, fun j hj => ?_⟩ ?_ ?_ ?_ ?_ ?_ ?_ ?_ ?_ ?_ m8 hK m5
      · exact cG.1.up (by decide)
      · simp only [up_k (show ¬ (10 : Nat) = 63 by decide)]; exact cG.2.1 j hj
      · simp only [up_k (show ¬ (68 : Nat) = 63 by decide), up_k (show ¬ (69 : Nat) = 63 by decide), up_k (show ¬ (70 : Nat) = 63 by decide), up_k (show ¬ (71 : Nat) = 63 by decide)]; exact cG.2.2.1 j hj
      · simp only [up_k (show ¬ (64 : Nat) = 63 by decide), up_k (show ¬ (65 : Nat) = 63 by decide), up_k (show ¬ (66 : Nat) = 63 by decide), up_k (show ¬ (67 : Nat) = 63 by decide)]; exact cG.2.2.2.1 j hj
      · rw [up_j (by omega), up_k (by decide)]; exact cG.2.2.2.2 j hj
      · simp only [up_k (show ¬ (10 : Nat) = 63 by decide)]; exact m2
      · simp only [up_k (show ¬ (10 : Nat) = 63 by decide)]; exact m3
      · simp only [up_k (show ¬ (10 : Nat) = 63 by decide)]; exact m4
      · rw [up_k (by decide), List.append_nil]; exact m5
      · rw [up_k (by decide)]; exact c61
      · rw [up_s, if_pos (show nI 80 = 80 from rfl)]
      · rw [List.append_nil]; exact CMk_lo (fun j _ => by simp only [up_k (show ¬ (68 : Nat) = 63 by decide), up_k (show ¬ (69 : Nat) = 63 by decide), up_k (show ¬ (70 : Nat) = 63 by decide), up_k (show ¬ (71 : Nat) = 63 by decide), and_self]) m6
      · exact MRr_lo (fun j _ => by simp only [up_k (show ¬ (64 : Nat) = 63 by decide), up_k (show ¬ (65 : Nat) = 63 by decide), up_k (show ¬ (66 : Nat) = 63 by decide), up_k (show ¬ (67 : Nat) = 63 by decide), and_self]) cMR
      · rw [List.append_nil]; exact m7
  · have hne : ¬ nI c = 80 := by rw [show (80 : Int32) = nI 80 from rfl, nI_eq (by omega) (by omega)]; exact hP
    refine ok_neg hne ?_
    -- the reference up to the colon
    have rcol : ∀ Q : Int32 × Sg → Prop, (¬ cA g n i = 58 → ∀ t', RFl t t' 1 i → Q (0, t')) → (cA g n i = 58 → ∀ t', RMw n t t' (i + 1) (fl Ks) → Ok (Option.bind (f_X10_readsTest t') fun q8 => if q8.1 = 0 then some (0, q8.2) else f_X10_readsClause_B135 (nI c) x (nI (fl Ks).length) q8.2) Q) → Ok (f_X10_readsClause_B76 (nI c) tc) Q := by
      intro Q hA hB
      unfold f_X10_readsClause_B76
      refine ok_I (ok_chk rfl (ok_I (ok_neg hne (ok_call (w_here T M) ?_))))
      dsimp only
      rw [x40, show tc 62 0 (4 : Int32).toNatClampNeg = nI (fl Ks).length from m5]
      by_cases z : cA g n i = 58
      · refine ok_pos (by rw [z]; rfl) (ok_S (hB z _ (M.adv (cA_pos z (by omega)))))
      · exact ok_neg (nIc (b := 58) z (cA_lt T) (show 58 < 256 by omega)) (w_wrong M 1 (hA z))
    refine ok_bind (x_take TX X (c := 58) (by omega) (by omega) (P := fun q => (q.1 = 0 ∧ ¬ cA g n i = 58 ∧ XFl o s q.2 1 i) ∨ (q.1 = 1 ∧ cA g n i = 58 ∧ XM n o s q.2 (i + 1) (fl Ks))) (fun e s' hs => Or.inl ⟨rfl, e, hs⟩) (fun e s' hs _ => Or.inr ⟨rfl, e, hs⟩)) ?_
    rintro ⟨w, s1⟩ hw
    dsimp only at hw ⊢
    rcases hw with ⟨w0, w1, w2⟩ | ⟨w0, e58, X1⟩
    · exact ok_pos w0 (ok_some (Or.inl ⟨rfl, 1, i, w2.c HX.1, rcol _ (fun _ t' ht => ⟨rfl, ht.c r1⟩) (fun e => absurd e w1)⟩))
    · refine ok_neg (ne1 w0) ?_
      have Ma := M.adv (cA_pos e58 (by omega))
      -- the class reads the test; the reference from any like state
      refine ok_bind (s_test0 TX T ho X1 Ma) ?_
      rintro ⟨w', s2⟩ hw'
      dsimp only at hw' ⊢
      have rgo : ∀ (Q : Int32 × Sg → Prop), Ok (Option.bind (f_X10_readsTest (up3 tc 10 0 37 (tc 10 0 37 + 1))) fun q8 => if q8.1 = 0 then some (0, q8.2) else f_X10_readsClause_B135 (nI c) x (nI (fl Ks).length) q8.2) Q → Ok (f_X10_readsClause_B76 (nI c) tc) Q := by
        intro Q h
        unfold f_X10_readsClause_B76
        refine ok_I (ok_chk rfl (ok_I (ok_neg hne (ok_call (w_here T M) ?_))))
        dsimp only
        rw [x40, show tc 62 0 (4 : Int32).toNatClampNeg = nI (fl Ks).length from m5]
        exact ok_pos (by rw [e58]; rfl) (ok_S h)
      rcases hw' with ⟨y0, k, p, y1, y2⟩ | ⟨y0, j, N, X2, a1, a2, a3⟩
      · refine ok_pos y0 (ok_some (Or.inl ⟨rfl, k, p, y1.c HX.1, rgo _ (ok_bind y2 ?_)⟩))
        rintro ⟨r, t'⟩ ⟨z0, z1⟩
        exact ok_pos z0 (ok_some ⟨rfl, z1.c r1⟩)
      · refine ok_neg (ne1 y0) ?_
        have hj := X2.2.2.2.2.2.2.2.2.2
        have hl := X2.2.2.2.2.2.2.2.2.1
        rw [List.length_append] at hl
        have hn := T.1
        refine Ok.mono (x_102 (k := c) (x := x) ho HX X2 hK) ?_
        rintro q ⟨q1, q2⟩
        refine Or.inr ⟨q1, j, (nI c, x, N), q2, by omega, ⟨fun _ => a2, ?_, by show N.length ≤ 200; omega⟩, ?_⟩
        · rcases hc with e | e | e
          · exact Or.inl (by rw [e]; rfl)
          · exact Or.inr (Or.inl (by rw [e]; rfl))
          · exact absurd e hP
        · rcases a3 with ⟨d1, d2⟩ | a3
          · refine Or.inl ⟨d1, rgo _ (ok_bind d2 ?_)⟩
            rintro ⟨r, t'⟩ ⟨z0, z1⟩
            exact ok_pos z0 (ok_some ⟨rfl, z1.c r1⟩)
          · refine Or.inr (rgo _ (ok_bind a3 ?_))
            rintro ⟨r, t'⟩ ⟨z0, z1⟩
            dsimp only at z0 z1 ⊢
            refine ok_neg (ne1 z0) ?_
            obtain ⟨k1, k2, k3, k4, k5, k6, k7, k8⟩ := z1
            refine r_135 (k1.c r1) k2 k3 k4 k5 ?_ ?_ k6 (MRr_lo (fun j _ => by rw [k1.1 64 (by decide), k1.1 65 (by decide), k1.1 66 (by decide), k1.1 67 (by decide)]; exact ⟨rfl, rfl, rfl, rfl⟩) r7) k7 k8 hK rfl
            · rw [k1.1 61 (by decide)]; exact r4
            · rw [k1.1 63 (by decide), if_neg hne]; exact r5
end CLAUSE2
