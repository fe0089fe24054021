/-! reading a text, class: small methods -/
theorem CXk_lo {t t' : Sg} {o : Nat} : ∀ {L : List It} {b : Nat}, (∀ j, j < b + L.length → t' 21 o j = t 21 o j ∧ t' 22 o j = t 22 o j ∧ t' 23 o j = t 23 o j) → CXk t o b L → CXk t' o b L := by
  intro L
  induction L with
  | nil => intro b _ _; trivial
  | cons x r ih =>
    intro b h H
    obtain ⟨h1, h2, h3⟩ := h b (by rw [List.length_cons]; omega)
    refine ⟨?_, ih (fun j hj => h j (by rw [List.length_cons]; omega)) H.2⟩
    rw [h1, h2, h3]
    exact H.1
theorem CXk_app {t : Sg} {o : Nat} : ∀ {A B : List It} {b : Nat}, CXk t o b (A ++ B) ↔ CXk t o b A ∧ CXk t o (b + A.length) B := by
  intro A
  induction A with
  | nil => intro B b; exact ⟨fun h => ⟨trivial, h⟩, fun h => h.2⟩
  | cons x r ih =>
    intro B b
    have e := ih (B := B) (b := b + 1)
    rw [show b + 1 + r.length = b + (x :: r).length by rw [List.length_cons]; omega] at e
    constructor
    · intro h
      exact ⟨⟨h.1, (e.mp h.2).1⟩, (e.mp h.2).2⟩
    · intro h
      exact ⟨h.1.1, e.mpr ⟨h.1.2, h.2⟩⟩
def XrP (o : Nat) (s0 s : Sg) : Prop := Ag [5, 2, 21, 22, 23] s s0 ∧ (∀ u, ¬ u = o → s 2 u = s0 2 u ∧ s 21 u = s0 21 u ∧ s 22 u = s0 22 u ∧ s 23 u = s0 23 u) ∧ ∀ j, ¬ j = 5 → s 2 o j = s0 2 o j
def XM (n o : Nat) (s0 s : Sg) (i : Nat) (L : List It) : Prop := XrP o s0 s ∧ (s 5 0 7 = 0 ∧ s 5 0 8 = -1) ∧ s 5 0 0 = 1 ∧ s 5 0 1 = nI n ∧ s 5 0 3 = nI (o + 1) ∧ s 5 0 2 = nI i ∧ s 2 o 5 = nI L.length ∧ CXk s o 0 L ∧ L.length ≤ i ∧ i ≤ n
def XFl (o : Nat) (s0 s : Sg) (k p : Nat) : Prop := XrP o s0 s ∧ s 5 0 7 = nI k ∧ s 5 0 8 = nI p
def TXX (s0 : Sg) (g : Nat → Nat) (n : Nat) : Prop := n ≤ 200 ∧ ∀ k, k < n → g k < 256 ∧ s0 35 0 k = nI (g k)
theorem XrP.up5 {o j : Nat} {s0 s : Sg} {x : Int32} (h : XrP o s0 s) : XrP o s0 (up3 s 5 0 j x) := by
  refine ⟨h.1.up (by decide), fun u hu => ?_, fun q hq => ?_⟩
  · simp only [up_k (show ¬ (2 : Nat) = 5 by decide), up_k (show ¬ (21 : Nat) = 5 by decide), up_k (show ¬ (22 : Nat) = 5 by decide), up_k (show ¬ (23 : Nat) = 5 by decide)]; exact h.2.1 u hu
  · rw [up_k (by decide)]; exact h.2.2 q hq
def sgI (g : Nat → Nat) (n i : Nat) : Int32 := if i < n then nI (g i) else -1
section PARX
variable {g : Nat → Nat} {n o : Nat} {s0 s : Sg} {i : Nat} {L : List It}
theorem XM.up5 {j : Nat} {x : Int32} (H : XM n o s0 s i L) (hj : j = 4 ∨ j = 5 ∨ j = 6) : XM n o s0 (up3 s 5 0 j x) i L := by
  obtain ⟨h1, h2, h3, h4, h5, h6, h7, h8, h9, h10⟩ := H
  refine ⟨h1.up5, ?_, ?_, ?_, ?_, ?_, ?_, CXk_lo (fun q _ => ?_) h8, h9, h10⟩
  · rw [up_j (by omega), up_j (by omega)]; exact h2
  · rw [up_j (by omega)]; exact h3
  · rw [up_j (by omega)]; exact h4
  · rw [up_j (by omega)]; exact h5
  · rw [up_j (by omega)]; exact h6
  · rw [up_k (by decide)]; exact h7
  · simp only [up_k (show ¬ (21 : Nat) = 5 by decide), up_k (show ¬ (22 : Nat) = 5 by decide), up_k (show ¬ (23 : Nat) = 5 by decide), and_self]
theorem XM.adv (H : XM n o s0 s i L) (hi : i < n) : XM n o s0 (up3 s 5 0 2 (s 5 0 2 + 1)) (i + 1) L := by
  obtain ⟨h1, h2, h3, h4, h5, h6, h7, h8, h9, h10⟩ := H
  rw [h6, nI_1]
  refine ⟨h1.up5, ?_, ?_, ?_, ?_, up_s, ?_, CXk_lo (fun q _ => ?_) h8, by omega, by omega⟩
  · rw [up_j (by omega), up_j (by omega)]; exact h2
  · rw [up_j (by omega)]; exact h3
  · rw [up_j (by omega)]; exact h4
  · rw [up_j (by omega)]; exact h5
  · rw [up_k (by decide)]; exact h7
  · simp only [up_k (show ¬ (21 : Nat) = 5 by decide), up_k (show ¬ (22 : Nat) = 5 by decide), up_k (show ¬ (23 : Nat) = 5 by decide), and_self]
theorem x_sign (T : TXX s0 g n) (H : XM n o s0 s i L) : f_X5_sign s = some (sgI g n i, s) := by
  obtain ⟨h1, h2, h3, h4, h5, h6, h7, h8, h9, h10⟩ := H
  have hn := T.1
  unfold f_X5_sign sgI
  rw [h3, h4, h6, if_neg n10, if_neg (nI_pos (by omega))]
  by_cases q : i < n
  · rw [if_neg (nI_ge q (by omega)), if_pos q, chk, if_pos (decide_eq_true n10), chk, if_pos (gi_nI (by omega) (by decide)), nI_clamp (by omega), h1.1 35 (by decide), (T.2 i q).2]
  · rw [if_pos (nI_le (by omega) (by omega)), if_neg q]
theorem sg_c (T : TXX s0 g n) {c : Nat} (h0 : 0 < c) (hc : c < 256) : sgI g n i = nI c ↔ cA g n i = c := by
  unfold sgI cA
  by_cases q : i < n
  · have := (T.2 i q).1
    rw [if_pos q, if_pos q, nI_eq (by omega) (by omega)]
  · rw [if_neg q, if_neg q]
    exact ⟨fun h => absurd h.symm (nIm1 (by omega)), fun h => by omega⟩
theorem cA_X (T : TXX s0 g n) : cA g n i < 256 := by
  unfold cA
  by_cases q : i < n
  · rw [if_pos q]; exact (T.2 i q).1
  · rw [if_neg q]; omega
theorem x_isD (T : TXX s0 g n) : ∃ b, f_X5_isDigit (sgI g n i) s = some (bI b, s) ∧ (b = true ↔ dig g n i) := by
  unfold f_X5_isDigit dig sgI cA
  by_cases q : i < n
  · have := (T.2 i q).1
    rw [if_pos q, if_pos q]
    have e := dig_I this
    by_cases z1 : nI (g i) < 48
    · exact ⟨false, by rw [if_pos z1]; rfl, fun y => absurd y (by decide), fun y => absurd z1 (e.mpr y).1⟩
    · by_cases z2 : 57 < nI (g i)
      · exact ⟨false, by rw [if_neg z1, if_pos z2]; rfl, fun y => absurd y (by decide), fun y => absurd z2 (e.mpr y).2⟩
      · exact ⟨true, by rw [if_neg z1, if_neg z2]; rfl, fun _ => e.mp ⟨z1, z2⟩, fun _ => rfl⟩
  · rw [if_neg q, if_neg q]
    exact ⟨false, rfl, fun y => absurd y (by decide), fun y => by omega⟩
theorem x_refuse (H : XM n o s0 s i L) (k : Nat) {P : Int32 × Sg → Prop} (h : ∀ s', XFl o s0 s' k i → P (0, s')) : Ok (Option.bind (f_X5_refuse (nI k) s) fun q => chk (b01 q.1) (some (q.1, q.2))) P := by
  unfold f_X5_refuse bdS
  refine ok_bs (ok_chk rfl (ok_some (h _ ⟨H.1.up5.up5, ?_, ?_⟩)))
  · dsimp only; rw [up_j (by decide), up_s]
  · dsimp only; rw [up_s, up_j (by decide)]; exact H.2.2.2.2.2.1
theorem x_into (H : XM n o s0 s i L) (ho : o < 5) : (¬ s 5 0 3 = 0 ∧ (s 5 0 3).toNatClampNeg - 1 < 5) ∧ (s 5 0 3).toNatClampNeg - 1 = o := by
  rw [H.2.2.2.2.1, nI_clamp (by omega)]
  exact ⟨⟨nI_ne0 (by omega) (by omega), by omega⟩, by omega⟩
theorem x_stepX (H : XM n o s0 s i L) (hn : n ≤ 200) (hL : L.length + 1 ≤ i) (a b c : Int32) : ∃ s', f_X2_addStep o a b c s = some s' ∧ XM n o s0 s' i (L ++ [(a, b, c)]) := by
  obtain ⟨h1, h2, h3, h4, h5, h6, h7, h8, h9, h10⟩ := H
  refine ⟨up3 (up3 (up3 (up3 s 21 o L.length a) 22 o L.length b) 23 o L.length c) 2 o 5 (nI (L.length + 1)), ?_, ?_⟩
  · unfold f_X2_addStep bdS
    rw [h7, if_neg (by rw [L_200]; exact nI_ge (by omega) (by omega))]
    simp only [h7, chk, gi_nI (show L.length < 200 by omega) (by decide), if_true, nI_clamp (show L.length < 2 ^ 31 by omega), up_k (show ¬ (2 : Nat) = 21 by decide), up_k (show ¬ (2 : Nat) = 22 by decide), up_k (show ¬ (2 : Nat) = 23 by decide), nI_1]
  · refine ⟨⟨?_, fun u hu => ?_, fun j hj => ?_⟩, ?_, ?_, ?_, ?_, ?_, ?_, CXk_app.mpr ⟨CXk_lo (fun q hq => ?_) h8, ⟨?_, ?_, ?_⟩, trivial⟩, ?_, h10⟩
    · repeat refine Ag.up ?_ (by decide)
      exact h1.1
    · have h1u := h1.2.1 u hu
      refine ⟨?_, ?_, ?_, ?_⟩
      · rw [up_i hu]; simp only [up_k (show ¬ (2 : Nat) = 21 by decide), up_k (show ¬ (2 : Nat) = 22 by decide), up_k (show ¬ (2 : Nat) = 23 by decide)]; exact h1u.1
      · simp only [up_k (show ¬ (21 : Nat) = 2 by decide), up_k (show ¬ (21 : Nat) = 22 by decide), up_k (show ¬ (21 : Nat) = 23 by decide)]; rw [up_i hu]; exact h1u.2.1
      · simp only [up_k (show ¬ (22 : Nat) = 2 by decide), up_k (show ¬ (22 : Nat) = 23 by decide)]; rw [up_i hu]; simp only [up_k (show ¬ (22 : Nat) = 21 by decide)]; exact h1u.2.2.1
      · simp only [up_k (show ¬ (23 : Nat) = 2 by decide)]; rw [up_i hu]; simp only [up_k (show ¬ (23 : Nat) = 21 by decide), up_k (show ¬ (23 : Nat) = 22 by decide)]; exact h1u.2.2.2
    · rw [up_j hj]; simp only [up_k (show ¬ (2 : Nat) = 21 by decide), up_k (show ¬ (2 : Nat) = 22 by decide), up_k (show ¬ (2 : Nat) = 23 by decide)]; exact h1.2.2 j hj
    · simp only [up_k (show ¬ (5 : Nat) = 2 by decide), up_k (show ¬ (5 : Nat) = 21 by decide), up_k (show ¬ (5 : Nat) = 22 by decide), up_k (show ¬ (5 : Nat) = 23 by decide)]; exact h2
    · simp only [up_k (show ¬ (5 : Nat) = 2 by decide), up_k (show ¬ (5 : Nat) = 21 by decide), up_k (show ¬ (5 : Nat) = 22 by decide), up_k (show ¬ (5 : Nat) = 23 by decide)]; exact h3
    · simp only [up_k (show ¬ (5 : Nat) = 2 by decide), up_k (show ¬ (5 : Nat) = 21 by decide), up_k (show ¬ (5 : Nat) = 22 by decide), up_k (show ¬ (5 : Nat) = 23 by decide)]; exact h4
    · simp only [up_k (show ¬ (5 : Nat) = 2 by decide), up_k (show ¬ (5 : Nat) = 21 by decide), up_k (show ¬ (5 : Nat) = 22 by decide), up_k (show ¬ (5 : Nat) = 23 by decide)]; exact h5
    · simp only [up_k (show ¬ (5 : Nat) = 2 by decide), up_k (show ¬ (5 : Nat) = 21 by decide), up_k (show ¬ (5 : Nat) = 22 by decide), up_k (show ¬ (5 : Nat) = 23 by decide)]; exact h6
    · rw [up_s, List.length_append]; rfl
    · simp only [up_k (show ¬ (21 : Nat) = 2 by decide), up_k (show ¬ (21 : Nat) = 22 by decide), up_k (show ¬ (21 : Nat) = 23 by decide), up_k (show ¬ (22 : Nat) = 2 by decide), up_k (show ¬ (22 : Nat) = 21 by decide), up_k (show ¬ (22 : Nat) = 23 by decide), up_k (show ¬ (23 : Nat) = 2 by decide), up_k (show ¬ (23 : Nat) = 21 by decide), up_k (show ¬ (23 : Nat) = 22 by decide)]
      rw [up_j (by omega), up_j (by omega), up_j (by omega)]
      exact ⟨rfl, rfl, rfl⟩
    · rw [Nat.zero_add]; simp only [up_k (show ¬ (21 : Nat) = 2 by decide), up_k (show ¬ (21 : Nat) = 22 by decide), up_k (show ¬ (21 : Nat) = 23 by decide), up_s]
    · rw [Nat.zero_add]; simp only [up_k (show ¬ (22 : Nat) = 2 by decide), up_k (show ¬ (22 : Nat) = 23 by decide), up_s]
    · rw [Nat.zero_add]; simp only [up_k (show ¬ (23 : Nat) = 2 by decide), up_s]
    · rw [List.length_append]; exact hL
theorem x_take (T : TXX s0 g n) (H : XM n o s0 s i L) {c : Nat} (h0 : 0 < c) (hc : c < 256) {P : Int32 × Sg → Prop} (hN : ¬ cA g n i = c → ∀ s', XFl o s0 s' 1 i → P (0, s')) (hY : cA g n i = c → ∀ s', XM n o s0 s' (i + 1) L → s' 5 0 6 = s 5 0 6 → P (1, s')) : Ok (f_X5_take (nI c) s) P := by
  unfold f_X5_take
  refine ok_call (x_sign T H) (ok_ite (fun z => ?_) (fun z => ?_))
  · have e := (sg_c T h0 hc).mp z
    exact ok_S (ok_some (hY e _ (H.adv (cA_pos e h0)) (up_j (by decide))))
  · have e : ¬ cA g n i = c := fun y => z ((sg_c T h0 hc).mpr y)
    exact x_refuse H 1 (hN e)
theorem x_L54 (T : TXX s0 g n) {m : Nat} (hm : dg g n i m) {ng : Bool} {x4 x5 : Int32} {P : Int32 × Sg → Prop} (hk : ∀ s', XM n o s0 s' (i + m) L → s' 5 0 6 = (if ng then -nI (vN g n i m) else nI (vN g n i m)) → s' 5 0 4 = x4 → s' 5 0 5 = x5 → P (1, s')) : ∀ (e q f : Nat) (s : Sg), q + e = m → e < f → XM n o s0 s (i + q) L → s 5 0 4 = x4 → s 5 0 5 = x5 → Ok (f_X5_readNumber_L54 f_X5_readNumber_B99 f (bI ng) (nI (vN g n i q)) (nI q) s) P := by
  have hm4 := hm.1
  have fin : ∀ s : Sg, XM n o s0 s (i + m) L → s 5 0 4 = x4 → s 5 0 5 = x5 → Ok (f_X5_readNumber_B99 (bI ng) (nI (vN g n i m)) s) P := by
    intro s H e4 e5
    unfold f_X5_readNumber_B99
    cases ng with
    | true => exact ok_neg n10 (ok_S (ok_some (hk _ (H.up5 (Or.inr (Or.inr rfl))) up_s (by rw [up_j (by decide)]; exact e4) (by rw [up_j (by decide)]; exact e5))))
    | false => exact ok_pos rfl (ok_S (ok_some (hk _ (H.up5 (Or.inr (Or.inr rfl))) up_s (by rw [up_j (by decide)]; exact e4) (by rw [up_j (by decide)]; exact e5))))
  intro e
  induction e with
  | zero =>
    intro q f s h1 h2 H e4 e5
    have : q = m := by omega
    subst this
    obtain ⟨f, rfl⟩ : ∃ m, f = m + 1 := ⟨f - 1, by omega⟩
    show Ok (f_X5_readNumber_B54 _ _ _ _ _ _) _
    unfold f_X5_readNumber_B54
    refine ok_ite (fun z => fin s H e4 e5) (fun z => ?_)
    rw [L_4, nI_leI (by omega) (by omega)] at z
    obtain ⟨b, b1, b2⟩ := x_isD (s := s) (i := i + q) T
    refine ok_call (x_sign T H) (ok_call b1 ?_)
    have hb : b = false := by
      cases b with
      | false => rfl
      | true => exact absurd (b2.mp rfl) (hm.2.2.resolve_left (by omega))
    subst hb
    exact ok_pos rfl (fin s H e4 e5)
  | succ e ih =>
    intro q f s h1 h2 H e4 e5
    obtain ⟨f, rfl⟩ : ∃ m, f = m + 1 := ⟨f - 1, by omega⟩
    have hd := hm.2.1 q (by omega)
    have hi := dig_lt hd
    obtain ⟨b, b1, b2⟩ := x_isD (s := s) (i := i + q) T
    have hb : b = true := b2.mpr hd
    subst hb
    show Ok (f_X5_readNumber_B54 _ _ _ _ _ _) _
    unfold f_X5_readNumber_B54
    refine ok_neg (by rw [L_4, nI_leI (by omega) (by omega)]; omega) (ok_call (x_sign T H) (ok_call b1 (ok_neg n10 (ok_call (x_sign T H) (ok_I (ok_S ?_))))))
    dsimp only
    have es : sgI g n (i + q) = nI (cA g n (i + q)) := by unfold sgI cA; rw [if_pos hi, if_pos hi]
    unfold dig at hd
    have ev : nI (vN g n i q) * 10 + nI (cA g n (i + q)) - 48 = nI (vN g n i (q + 1)) := by
      rw [L_10, pk_mul, nI_add, L_48, pk_sub (by omega)]
      congr 1
      show vN g n i q * 10 + cA g n (i + q) - 48 = 10 * vN g n i q + (cA g n (i + q) - 48)
      omega
    rw [es, ev, nI_1]
    exact ih (q + 1) f _ (by omega) (by omega) (H.adv hi) (by rw [up_j (by decide)]; exact e4) (by rw [up_j (by decide)]; exact e5)
theorem x_B33 (T : TXX s0 g n) {m : Nat} (hm : dg g n i m) {ng : Bool} {P : Int32 × Sg → Prop} (H : XM n o s0 s i L) (h0 : m = 0 → ∀ s', XFl o s0 s' 1 i → P (0, s')) (hk : 1 ≤ m → ∀ s', XM n o s0 s' (i + m) L → s' 5 0 6 = (if ng then -nI (vN g n i m) else nI (vN g n i m)) → s' 5 0 4 = s 5 0 4 → s' 5 0 5 = s 5 0 5 → P (1, s')) : Ok (f_X5_readNumber_B33 (bI ng) s) P := by
  have hm4 := hm.1
  unfold f_X5_readNumber_B33
  obtain ⟨b, b1, b2⟩ := x_isD (s := s) (i := i) T
  refine ok_call (x_sign T H) (ok_call b1 ?_)
  cases b with
  | false =>
    have hz : m = 0 := by
      rcases Nat.eq_zero_or_pos m with z | z
      · exact z
      · exact absurd (b2.mpr (hm.2.1 0 z)) (by decide)
    exact ok_pos rfl (x_refuse H 1 (h0 hz))
  | true =>
    have hz : 1 ≤ m := by
      rcases Nat.eq_zero_or_pos m with z | z
      · exfalso
        have := hm.2.2.resolve_left (by omega)
        rw [z] at this
        exact this (b2.mp rfl)
      · exact z
    exact ok_neg n10 (x_L54 T hm (hk hz) m 0 FU s (by omega) (by unfold FU; omega) H rfl rfl)
theorem x_fact (T : TXX s0 g n) : f_X5_factOf (sgI g n i) s = some (lO (cA g n i), s) := by
  have e : ∀ k : Nat, 0 < k → k < 256 → (sgI g n i = nI k ↔ cA g n i = k) := fun k h0 hk => sg_c T h0 hk
  unfold f_X5_factOf lO
  rw [show (108 : Int32) = nI 108 from rfl, show (116 : Int32) = nI 116 from rfl, show (119 : Int32) = nI 119 from rfl, show (107 : Int32) = nI 107 from rfl, show (109 : Int32) = nI 109 from rfl]
  simp only [e 108 (by omega) (by omega), e 116 (by omega) (by omega), e 119 (by omega) (by omega), e 107 (by omega) (by omega), e 109 (by omega) (by omega)]
  generalize cA g n i = c
  by_cases q1 : c = 108
  · subst q1; rfl
  · by_cases q2 : c = 116
    · subst q2; rfl
    · by_cases q3 : c = 119
      · subst q3; rfl
      · by_cases q4 : c = 107
        · subst q4; rfl
        · by_cases q5 : c = 109
          · subst q5; rfl
          · simp only [if_neg q1, if_neg q2, if_neg q3, if_neg q4, if_neg q5]
/-- letter, sign, number -/
theorem x_atom (T : TXX s0 g n) (ho : o < 5) {m : Nat} (F : Int32 → Sg → Option (Int32 × Sg)) {op : Int32} {P : Int32 × Sg → Prop} (H : XM n o s0 s i L) (h33 : ¬ cA g n i = 33) (h40 : ¬ cA g n i = 40) (hm : dg g n (at0 g n i) m)
    (hA : lO (cA g n i) = -1 → ∀ s', XFl o s0 s' 1 i → P (0, s'))
    (hB : ¬ lO (cA g n i) = -1 → ¬ (cA g n (i + 1) = 60 ∨ cA g n (i + 1) = 61 ∨ cA g n (i + 1) = 62) → ∀ s', XFl o s0 s' 1 (i + 1) → P (0, s'))
    (hC : ¬ lO (cA g n i) = -1 → (cA g n (i + 1) = 60 ∨ cA g n (i + 1) = 61 ∨ cA g n (i + 1) = 62) → m = 0 → ∀ s', XFl o s0 s' 1 (at0 g n i) → P (0, s'))
    (hE : ¬ lO (cA g n i) = -1 → (cA g n (i + 1) = 60 ∨ cA g n (i + 1) = 61 ∨ cA g n (i + 1) = 62) → 1 ≤ m → ∀ s', XM n o s0 s' (at0 g n i + m) (L ++ [itC g n i m]) → P (1, s')) : Ok (f_X5_readFactor F op s) P := by
  have hn := T.1
  have hc1 := cA_X (i := i + 1) T
  unfold f_X5_readFactor
  refine ok_call (x_sign T H) ?_
  refine ok_neg (fun z => h33 ((sg_c T (by omega) (by omega)).mp z)) (ok_neg (fun z => h40 ((sg_c T (by omega) (by omega)).mp z)) ?_)
  -- the letter
  have L1 : Ok (f_X5_readLetter s) (fun q => (q.1 = 0 ∧ lO (cA g n i) = -1 ∧ XFl o s0 q.2 1 i) ∨ (q.1 = 1 ∧ ¬ lO (cA g n i) = -1 ∧ XM n o s0 q.2 (i + 1) L ∧ q.2 5 0 4 = lO (cA g n i))) := by
    unfold f_X5_readLetter
    refine ok_call (x_sign T H) (ok_call (x_fact T) (ok_S ?_))
    dsimp only
    have H1 := H.up5 (j := 4) (x := lO (cA g n i)) (Or.inl rfl)
    refine ok_ite (fun z => ?_) (fun z => ?_)
    · rw [up_s] at z
      exact x_refuse H1 1 (fun s' hs => Or.inl ⟨rfl, z, hs⟩)
    · rw [up_s] at z
      have hi : i < n := by
        rcases Nat.lt_or_ge i n with y | y
        · exact y
        · exfalso
          apply z
          unfold cA
          rw [if_neg (by omega)]
          rfl
      refine ok_S (ok_some (Or.inr ⟨rfl, z, H1.adv hi, ?_⟩))
      dsimp only
      rw [up_j (by decide), up_s]
  refine ok_bind L1 ?_
  rintro ⟨q, s1⟩ hq
  dsimp only at hq ⊢
  rcases hq with ⟨q1, q2, q3⟩ | ⟨q1, hl, H1, e4⟩
  · exact ok_pos q1 (ok_some (hA q2 s1 q3))
  refine ok_neg (by rw [q1]; exact n10) ?_
  -- the sign
  have L2 : Ok (f_X5_readComparison s1) (fun q => (q.1 = 0 ∧ ¬ (cA g n (i + 1) = 60 ∨ cA g n (i + 1) = 61 ∨ cA g n (i + 1) = 62) ∧ XFl o s0 q.2 1 (i + 1)) ∨ (q.1 = 1 ∧ (cA g n (i + 1) = 60 ∨ cA g n (i + 1) = 61 ∨ cA g n (i + 1) = 62) ∧ XM n o s0 q.2 (i + 2) L ∧ q.2 5 0 4 = lO (cA g n i) ∧ q.2 5 0 5 = nI (cA g n (i + 1)))) := by
    unfold f_X5_readComparison
    refine ok_call (x_sign T H1) (ok_S ?_)
    dsimp only
    have H2 := H1.up5 (j := 5) (x := sgI g n (i + 1)) (Or.inr (Or.inl rfl))
    rw [up_s]
    have e60 := sg_c (i := i + 1) T (c := 60) (by omega) (by omega)
    have e61 := sg_c (i := i + 1) T (c := 61) (by omega) (by omega)
    have e62 := sg_c (i := i + 1) T (c := 62) (by omega) (by omega)
    by_cases hs : cA g n (i + 1) = 60 ∨ cA g n (i + 1) = 61 ∨ cA g n (i + 1) = 62
    · have hcmp : ∀ u : Sg, f_X2_isComparison (sgI g n (i + 1)) u = some (1, u) := by
        intro u
        unfold f_X2_isComparison
        by_cases z1 : sgI g n (i + 1) = 60
        · rw [if_pos z1]
        · rw [if_neg z1]
          by_cases z2 : sgI g n (i + 1) = 61
          · rw [if_pos z2]
          · rw [if_neg z2, if_pos]
            rcases hs with e | e | e
            · exact absurd (e60.mpr e) z1
            · exact absurd (e61.mpr e) z2
            · exact e62.mpr e
      refine ok_call (hcmp _) (ok_neg n10 (ok_S (ok_some (Or.inr ⟨rfl, hs, H2.adv ?_, ?_, ?_⟩))))
      · rcases hs with e | e | e <;> exact cA_pos e (by omega)
      · dsimp only; rw [up_j (by decide), up_j (by decide)]; exact e4
      · dsimp only
        rw [up_j (by decide), up_s]
        rcases hs with e | e | e
        · rw [e]; exact e60.mpr e
        · rw [e]; exact e61.mpr e
        · rw [e]; exact e62.mpr e
    · have hcmp : ∀ u : Sg, f_X2_isComparison (sgI g n (i + 1)) u = some (0, u) := by
        intro u
        unfold f_X2_isComparison
        rw [if_neg (show ¬ sgI g n (i + 1) = 60 from fun z => hs (Or.inl (e60.mp z))), if_neg (show ¬ sgI g n (i + 1) = 61 from fun z => hs (Or.inr (Or.inl (e61.mp z)))), if_neg (show ¬ sgI g n (i + 1) = 62 from fun z => hs (Or.inr (Or.inr (e62.mp z))))]
      exact ok_call (hcmp _) (ok_pos rfl (x_refuse H2 1 (fun s' hs' => Or.inl ⟨rfl, hs, hs'⟩)))
  refine ok_bind L2 ?_
  rintro ⟨q', s2⟩ hq
  dsimp only at hq ⊢
  rcases hq with ⟨q1', q2, q3⟩ | ⟨q1', hs, H2, e4', e5⟩
  · exact ok_pos q1' (ok_some (hB hl q2 s2 q3))
  refine ok_neg (by rw [q1']; exact n10) ?_
  -- the number
  have L3 : Ok (f_X5_readNumber 1 s2) (fun q => (q.1 = 0 ∧ m = 0 ∧ XFl o s0 q.2 1 (at0 g n i)) ∨ (q.1 = 1 ∧ 1 ≤ m ∧ XM n o s0 q.2 (at0 g n i + m) L ∧ q.2 5 0 6 = (itC g n i m).2.2 ∧ q.2 5 0 4 = lO (cA g n i) ∧ q.2 5 0 5 = nI (cA g n (i + 1)))) := by
    unfold f_X5_readNumber
    have e45 := sg_c (i := i + 2) T (c := 45) (by omega) (by omega)
    refine ok_neg n10 (ok_call (x_sign T H2) ?_)
    dsimp only
    by_cases z : cA g n (i + 2) = 45
    · refine ok_pos (e45.mpr z) ?_
      unfold f_X5_readNumber_B18
      refine ok_neg n10 (ok_S ?_)
      have ea : at0 g n i = i + 3 := by unfold at0; rw [if_pos z]
      have H3 := H2.adv (cA_pos z (by omega))
      have ei : itC g n i m = (nI (cA g n (i + 1)), lO (cA g n i), -nI (vN g n (at0 g n i) m)) := by unfold itC; rw [if_pos z]
      rw [ei]
      rw [ea] at hm ⊢
      exact x_B33 T hm (ng := true) H3 (fun e s' hs' => Or.inl ⟨rfl, e, hs'⟩) (fun e s' hs' k6 k4 k5 => Or.inr ⟨rfl, e, hs', k6, k4.trans ((up_j (by decide)).trans e4'), k5.trans ((up_j (by decide)).trans e5)⟩)
    · refine ok_neg (fun y => z (e45.mp y)) ?_
      unfold f_X5_readNumber_B17 f_X5_readNumber_B18
      refine ok_pos rfl ?_
      have ea : at0 g n i = i + 2 := by unfold at0; rw [if_neg z]
      have ei : itC g n i m = (nI (cA g n (i + 1)), lO (cA g n i), nI (vN g n (at0 g n i) m)) := by unfold itC; rw [if_neg z]
      rw [ei]
      rw [ea] at hm ⊢
      exact x_B33 T hm (ng := false) H2 (fun e s' hs' => Or.inl ⟨rfl, e, hs'⟩) (fun e s' hs' k6 k4 k5 => Or.inr ⟨rfl, e, hs', k6, k4.trans e4', k5.trans e5⟩)
  refine ok_bind L3 ?_
  rintro ⟨q'', s3⟩ hq
  dsimp only at hq ⊢
  rcases hq with ⟨q1'', q2, q3⟩ | ⟨q1'', hm1, H3, e6, e4'', e5''⟩
  · exact ok_pos q1'' (ok_some (hC hl hs q2 s3 q3))
  refine ok_neg (by rw [q1'']; exact n10) ?_
  obtain ⟨i1, i2⟩ := x_into H3 ho
  have hat : i + 2 ≤ at0 g n i := by unfold at0; by_cases z : cA g n (i + 2) = 45 <;> simp only [z, if_true, if_false] <;> omega
  have hL0 := H.2.2.2.2.2.2.2.2.1
  obtain ⟨s4, y1, y2⟩ := x_stepX H3 hn (by omega) (s3 5 0 5) (s3 5 0 4) (s3 5 0 6)
  refine ok_d i1 ?_
  rw [i2]
  refine ok_call y1 (ok_some (hE hl hs hm1 s4 ?_))
  have ei : itC g n i m = (s3 5 0 5, s3 5 0 4, s3 5 0 6) := by rw [e4'', e5'', e6]; rfl
  rw [ei]
  exact y2
end PARX
