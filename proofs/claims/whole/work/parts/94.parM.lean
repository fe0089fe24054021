/-! reading a text, reference: its small methods -/
def cA (g : Nat → Nat) (n i : Nat) : Nat := if i < n then g i else 0
def itO (c : Nat) : It := (nI c, 0, 0)
def cnO : List Nat → Nat
  | [] => 0
  | x :: S => cnO S + (if x = 33 ∨ x = 40 then 1 else 0)
def PL (t : Sg) : List Nat → Prop
  | [] => True
  | x :: S => (t 72 0 S.length = nI x ∧ x < 256) ∧ PL t S
def RG (t0 t : Sg) : Prop := Ag [10, 62, 68, 69, 70, 71, 72] t t0 ∧ (∀ j, j ∉ [22, 23, 36, 37, 39, 40] → t 10 0 j = t0 10 0 j) ∧ ∀ j, j < 800 → t 68 0 j = t0 68 0 j ∧ t 69 0 j = t0 69 0 j ∧ t 70 0 j = t0 70 0 j ∧ t 71 0 j = t0 71 0 j
/-- the reference at place i of the text: pile S, depth d, items L -/
def RMd (n : Nat) (t0 t : Sg) (i : Nat) (S : List Nat) (d : Nat) (L : List It) : Prop := RG t0 t ∧ (t 10 0 22 = 0 ∧ t 10 0 23 = -1) ∧ t 10 0 37 = nI i ∧ t 10 0 38 = nI n ∧ t 10 0 36 = nI S.length ∧ PL t S ∧ t 10 0 39 = nI d ∧ t 62 0 4 = nI L.length ∧ CMk t 800 L ∧ L.length + S.length ≤ i ∧ i ≤ n
def RFl (t0 t : Sg) (k p : Nat) : Prop := RG t0 t ∧ t 10 0 22 = nI k ∧ t 10 0 23 = nI p
def TXM (t0 : Sg) (g : Nat → Nat) (n : Nat) : Prop := n ≤ 200 ∧ ∀ k, k < n → g k < 256 ∧ t0 60 0 k &&& 255 = nI (g k)
theorem CMk_lo {t t' : Sg} : ∀ {L : List It} {b : Nat}, (∀ j, j < b + L.length → t' 68 0 j = t 68 0 j ∧ t' 69 0 j = t 69 0 j ∧ t' 70 0 j = t 70 0 j ∧ t' 71 0 j = t 71 0 j) → CMk t b L → CMk t' b L := by
  intro L
  induction L with
  | nil => intro b _ _; trivial
  | cons x r ih =>
    intro b h H
    obtain ⟨h1, h2, h3, h4⟩ := h b (by rw [List.length_cons]; omega)
    refine ⟨?_, ih (fun j hj => h j (by rw [List.length_cons]; omega)) H.2⟩
    rw [h1, h2, h3, h4]
    exact H.1
theorem CMk_app {t : Sg} : ∀ {A B : List It} {b : Nat}, CMk t b (A ++ B) ↔ CMk t b A ∧ CMk t (b + A.length) B := by
  intro A
  induction A with
  | nil => intro B b; exact ⟨fun h => ⟨trivial, h⟩, fun h => h.2⟩
  | cons x r ih =>
    intro B b
    have e := ih (B := B) (b := b + 1)
    rw [show b + 1 + r.length = b + (x :: r).length by rw [List.length_cons]; omega] at e
    constructor
    · intro h
      exact ⟨⟨h.1, (e.mp h.2).1⟩, (e.mp h.2).2⟩
    · intro h
      exact ⟨h.1.1, e.mpr ⟨h.1.2, h.2⟩⟩
theorem PL_of {t t' : Sg} : ∀ {S : List Nat}, (∀ j, j < S.length → t' 72 0 j = t 72 0 j) → PL t S → PL t' S := by
  intro S
  induction S with
  | nil => intro _ _; trivial
  | cons x r ih =>
    intro h H
    refine ⟨⟨?_, H.1.2⟩, ih (fun j hj => h j (by rw [List.length_cons]; omega)) H.2⟩
    rw [h _ (by rw [List.length_cons]; omega)]
    exact H.1.1
theorem PL_op {t : Sg} : ∀ {S : List Nat}, PL t S → ((∃ k, k < S.length ∧ t 72 0 k = 40) ↔ 40 ∈ S) := by
  intro S
  induction S with
  | nil => intro _; exact ⟨fun ⟨k, h, _⟩ => absurd h (Nat.not_lt_zero k), fun h => absurd h (by simp)⟩
  | cons x r ih =>
    intro H
    have e := ih H.2
    constructor
    · rintro ⟨k, h1, h2⟩
      by_cases q : k = r.length
      · subst q
        rw [H.1.1, show (40 : Int32) = nI 40 from rfl, nI_eq (by have := H.1.2; omega) (by omega)] at h2
        rw [h2]; exact List.mem_cons_self
      · exact List.mem_cons_of_mem _ (e.mp ⟨k, by rw [List.length_cons] at h1; omega, h2⟩)
    · intro h
      rcases List.mem_cons.mp h with q | q
      · exact ⟨r.length, by rw [List.length_cons]; omega, by rw [H.1.1, ← q]; rfl⟩
      · obtain ⟨k, k1, k2⟩ := e.mpr q
        exact ⟨k, by rw [List.length_cons]; omega, k2⟩
theorem RG.up10 {t0 t : Sg} {j : Nat} {x : Int32} (h : RG t0 t) (hj : j ∈ [22, 23, 36, 37, 39, 40]) : RG t0 (up3 t 10 0 j x) := by
  refine ⟨h.1.up (by decide), fun q hq => ?_, fun q hq => ?_⟩
  · rw [up_j (fun e => hq (by rw [e]; exact hj))]
    exact h.2.1 q hq
  · simp only [up_k (show ¬ (68 : Nat) = 10 by decide), up_k (show ¬ (69 : Nat) = 10 by decide), up_k (show ¬ (70 : Nat) = 10 by decide), up_k (show ¬ (71 : Nat) = 10 by decide)]
    exact h.2.2 q hq
section PARM
variable {g : Nat → Nat} {n : Nat} {t0 t : Sg} {i d : Nat} {S : List Nat} {L : List It}
theorem RMd.tx (T : TXM t0 g n) (H : RMd n t0 t i S d L) : TXM t g n := by
  refine ⟨T.1, ?_⟩
  rw [H.1.1 60 (by decide)]
  exact T.2
theorem r_here (T : TXM t0 g n) (H : RMd n t0 t i S d L) : f_X10_here t = some (nI (cA g n i), t) := by
  obtain ⟨-, -, h1, h2, -, -, -, -, -, -, h3⟩ := id H
  have hn := T.1
  unfold f_X10_here cA
  rw [h1, h2]
  by_cases q : i < n
  · rw [if_neg (nI_ge q (by omega)), if_pos q, chk, if_pos (gi_nI (by omega) (by decide)), nI_clamp (by omega), ((H.tx T).2 i q).2]
  · rw [if_pos (nI_le (by omega) (by omega)), if_neg q]; rfl
theorem cA_lt (T : TXM t0 g n) : cA g n i < 256 := by
  unfold cA
  by_cases q : i < n
  · rw [if_pos q]; exact (T.2 i q).1
  · rw [if_neg q]; omega
theorem cA_pos {c : Nat} (h : cA g n i = c) (hc : 0 < c) : i < n := by
  unfold cA at h
  by_cases q : i < n
  · exact q
  · rw [if_neg q] at h; omega
theorem r_fl (H : RMd n t0 t i S d L) (k : Nat) : RFl t0 (up3 (up3 t 10 0 22 (nI k)) 10 0 23 (nI i)) k i := by
  refine ⟨(H.1.up10 (by decide)).up10 (by decide), ?_, up_s⟩
  rw [up_j (by decide), up_s]
theorem r_wrong (H : RMd n t0 t i S d L) (k : Nat) {P : Int32 × Sg → Prop} (h : ∀ t', RFl t0 t' k i → P (0, t')) : Ok (Option.bind (f_X10_wrong (nI k) t) fun q => chk (b01 q.1) (some (q.1, q.2))) P := by
  unfold f_X10_wrong bdS
  refine ok_bs (ok_chk rfl (ok_some (h _ ?_)))
  dsimp only
  rw [up_j (by decide), H.2.2.1]
  exact r_fl H k
theorem RMd.adv (H : RMd n t0 t i S d L) (hi : i < n) : RMd n t0 (up3 t 10 0 37 (t 10 0 37 + 1)) (i + 1) S d L := by
  obtain ⟨h1, h2, h3, h4, h5, h6, h7, h8, h9, h10, h11⟩ := H
  rw [h3, nI_1]
  refine ⟨h1.up10 (by decide), ?_, up_s, ?_, ?_, PL_of (fun j _ => by rw [up_k (by decide)]) h6, ?_, ?_, CMk_lo (fun j _ => ⟨by rw [up_k (by decide)], by rw [up_k (by decide)], by rw [up_k (by decide)], by rw [up_k (by decide)]⟩) h9, by omega, by omega⟩
  · rw [up_j (by decide), up_j (by decide)]; exact h2
  · rw [up_j (by decide)]; exact h4
  · rw [up_j (by decide)]; exact h5
  · rw [up_j (by decide)]; exact h7
  · rw [up_k (by decide)]; exact h8
theorem RMd.deep (H : RMd n t0 t i S d L) (d' : Nat) : RMd n t0 (up3 t 10 0 39 (nI d')) i S d' L := by
  obtain ⟨h1, h2, h3, h4, h5, h6, h7, h8, h9, h10, h11⟩ := H
  refine ⟨h1.up10 (by decide), ?_, ?_, ?_, ?_, PL_of (fun j _ => by rw [up_k (by decide)]) h6, up_s, ?_, CMk_lo (fun j _ => ⟨by rw [up_k (by decide)], by rw [up_k (by decide)], by rw [up_k (by decide)], by rw [up_k (by decide)]⟩) h9, by omega, by omega⟩
  · rw [up_j (by decide), up_j (by decide)]; exact h2
  · rw [up_j (by decide)]; exact h3
  · rw [up_j (by decide)]; exact h4
  · rw [up_j (by decide)]; exact h5
  · rw [up_k (by decide)]; exact h8
theorem RMd.num (H : RMd n t0 t i S d L) (x : Int32) : RMd n t0 (up3 t 10 0 40 x) i S d L := by
  obtain ⟨h1, h2, h3, h4, h5, h6, h7, h8, h9, h10, h11⟩ := H
  refine ⟨h1.up10 (by decide), ?_, ?_, ?_, ?_, PL_of (fun j _ => by rw [up_k (by decide)]) h6, ?_, ?_, CMk_lo (fun j _ => ⟨by rw [up_k (by decide)], by rw [up_k (by decide)], by rw [up_k (by decide)], by rw [up_k (by decide)]⟩) h9, by omega, by omega⟩
  · rw [up_j (by decide), up_j (by decide)]; exact h2
  · rw [up_j (by decide)]; exact h3
  · rw [up_j (by decide)]; exact h4
  · rw [up_j (by decide)]; exact h5
  · rw [up_j (by decide)]; exact h7
  · rw [up_k (by decide)]; exact h8
/-- push a sign and go on -/
theorem r_push (H : RMd n t0 t i S d L) (hn : n ≤ 200) (hi : i < n) {c : Nat} (hc : c < 256) : ∃ t', f_X10_pushes (nI c) t = some t' ∧ RMd n t0 (up3 t' 10 0 37 (t' 10 0 37 + 1)) (i + 1) (c :: S) d L := by
  obtain ⟨h1, h2, h3, h4, h5, h6, h7, h8, h9, h10, h11⟩ := H
  refine ⟨up3 (up3 t 72 0 S.length (nI c)) 10 0 36 (nI (S.length + 1)), ?_, ?_⟩
  · unfold f_X10_pushes bdS
    simp only [h5, chk, gi_nI (show S.length < 200 by omega) (by decide), if_true, nI_clamp (show S.length < 2 ^ 31 by omega), up_k (show ¬ (10 : Nat) = 72 by decide), nI_1]
  · have e37 : (up3 (up3 t 72 0 S.length (nI c)) 10 0 36 (nI (S.length + 1))) 10 0 37 = nI i := by
      rw [up_j (by decide), up_k (by decide)]; exact h3
    rw [e37, nI_1]
    have a : Ag [10, 62, 68, 69, 70, 71, 72] (up3 t 72 0 S.length (nI c)) t0 := h1.1.up (by decide)
    have r1 : RG t0 (up3 t 72 0 S.length (nI c)) := ⟨a, fun j hj => by rw [up_k (by decide)]; exact h1.2.1 j hj, fun j hj => by simp only [up_k (show ¬ (68 : Nat) = 72 by decide), up_k (show ¬ (69 : Nat) = 72 by decide), up_k (show ¬ (70 : Nat) = 72 by decide), up_k (show ¬ (71 : Nat) = 72 by decide)]; exact h1.2.2 j hj⟩
    refine ⟨(r1.up10 (by decide)).up10 (by decide), ?_, up_s, ?_, ?_, ⟨⟨?_, hc⟩, PL_of (fun j hj => ?_) h6⟩, ?_, ?_, CMk_lo (fun j _ => ?_) h9, ?_, by omega⟩
    · simp only [up_j (show ¬ (22 : Nat) = 37 by decide), up_j (show ¬ (22 : Nat) = 36 by decide), up_j (show ¬ (23 : Nat) = 37 by decide), up_j (show ¬ (23 : Nat) = 36 by decide), up_k (show ¬ (10 : Nat) = 72 by decide)]; exact h2
    · simp only [up_j (show ¬ (38 : Nat) = 37 by decide), up_j (show ¬ (38 : Nat) = 36 by decide), up_k (show ¬ (10 : Nat) = 72 by decide)]; exact h4
    · rw [up_j (by decide), up_s]; rfl
    · simp only [up_k (show ¬ (72 : Nat) = 10 by decide), up_s]
    · simp only [up_k (show ¬ (72 : Nat) = 10 by decide)]; rw [up_j (by omega)]
    · simp only [up_j (show ¬ (39 : Nat) = 37 by decide), up_j (show ¬ (39 : Nat) = 36 by decide), up_k (show ¬ (10 : Nat) = 72 by decide)]; exact h7
    · simp only [up_k (show ¬ (62 : Nat) = 10 by decide), up_k (show ¬ (62 : Nat) = 72 by decide)]; exact h8
    · simp only [up_k (show ¬ (68 : Nat) = 10 by decide), up_k (show ¬ (68 : Nat) = 72 by decide), up_k (show ¬ (69 : Nat) = 10 by decide), up_k (show ¬ (69 : Nat) = 72 by decide), up_k (show ¬ (70 : Nat) = 10 by decide), up_k (show ¬ (70 : Nat) = 72 by decide), up_k (show ¬ (71 : Nat) = 10 by decide), up_k (show ¬ (71 : Nat) = 72 by decide), and_self]
    · rw [List.length_cons]; omega
theorem r_code (H : RMd n t0 t i S d L) (hn : n ≤ 200) (hL : L.length + S.length + 1 ≤ i) {k a b c : Int32} {it : It} (hk : kdI it = k) (h0 : k = 0 → a = it.2.1 ∧ b = it.1 ∧ c = it.2.2) : ∃ t', f_X10_code k a b c t = some t' ∧ RMd n t0 t' i S d (L ++ [it]) := by
  obtain ⟨h1, h2, h3, h4, h5, h6, h7, h8, h9, h10, h11⟩ := H
  have e8 : (800 : Int32) + nI L.length = nI (800 + L.length) := by rw [show (800 : Int32) = nI 800 from rfl, nI_add]
  refine ⟨up3 (up3 (up3 (up3 (up3 t 68 0 (800 + L.length) k) 69 0 (800 + L.length) a) 70 0 (800 + L.length) b) 71 0 (800 + L.length) c) 62 0 4 (nI (L.length + 1)), ?_, ?_⟩
  · unfold f_X10_code bdS bdI
    simp only [show gi 4 5 = true from rfl, chk, if_true, show (4 : Int32).toNatClampNeg = 4 from rfl, h8, e8, gi_nI (show 800 + L.length < 1000 by omega) (by decide), nI_clamp (show 800 + L.length < 2 ^ 31 by omega), up_k (show ¬ (62 : Nat) = 68 by decide), up_k (show ¬ (62 : Nat) = 69 by decide), up_k (show ¬ (62 : Nat) = 70 by decide), up_k (show ¬ (62 : Nat) = 71 by decide), nI_1]
  · refine ⟨⟨?_, fun j hj => ?_, fun j hj => ?_⟩, ?_, ?_, ?_, ?_, PL_of (fun j _ => ?_) h6, ?_, ?_, CMk_app.mpr ⟨CMk_lo (fun j hj => ?_) h9, ⟨⟨?_, fun z => ?_⟩, trivial⟩⟩, ?_, h11⟩
    · repeat refine Ag.up ?_ (by decide)
      exact h1.1
    · simp only [up_k (show ¬ (10 : Nat) = 62 by decide), up_k (show ¬ (10 : Nat) = 68 by decide), up_k (show ¬ (10 : Nat) = 69 by decide), up_k (show ¬ (10 : Nat) = 70 by decide), up_k (show ¬ (10 : Nat) = 71 by decide)]; exact h1.2.1 j hj
    · simp only [up_k (show ¬ (68 : Nat) = 62 by decide), up_k (show ¬ (68 : Nat) = 69 by decide), up_k (show ¬ (68 : Nat) = 70 by decide), up_k (show ¬ (68 : Nat) = 71 by decide), up_k (show ¬ (69 : Nat) = 62 by decide), up_k (show ¬ (69 : Nat) = 68 by decide), up_k (show ¬ (69 : Nat) = 70 by decide), up_k (show ¬ (69 : Nat) = 71 by decide), up_k (show ¬ (70 : Nat) = 62 by decide), up_k (show ¬ (70 : Nat) = 68 by decide), up_k (show ¬ (70 : Nat) = 69 by decide), up_k (show ¬ (70 : Nat) = 71 by decide), up_k (show ¬ (71 : Nat) = 62 by decide), up_k (show ¬ (71 : Nat) = 68 by decide), up_k (show ¬ (71 : Nat) = 69 by decide), up_k (show ¬ (71 : Nat) = 70 by decide)]
      rw [up_j (by omega), up_j (by omega), up_j (by omega), up_j (by omega)]
      exact h1.2.2 j hj
    · simp only [up_k (show ¬ (10 : Nat) = 62 by decide), up_k (show ¬ (10 : Nat) = 68 by decide), up_k (show ¬ (10 : Nat) = 69 by decide), up_k (show ¬ (10 : Nat) = 70 by decide), up_k (show ¬ (10 : Nat) = 71 by decide)]; exact h2
    · simp only [up_k (show ¬ (10 : Nat) = 62 by decide), up_k (show ¬ (10 : Nat) = 68 by decide), up_k (show ¬ (10 : Nat) = 69 by decide), up_k (show ¬ (10 : Nat) = 70 by decide), up_k (show ¬ (10 : Nat) = 71 by decide)]; exact h3
    · simp only [up_k (show ¬ (10 : Nat) = 62 by decide), up_k (show ¬ (10 : Nat) = 68 by decide), up_k (show ¬ (10 : Nat) = 69 by decide), up_k (show ¬ (10 : Nat) = 70 by decide), up_k (show ¬ (10 : Nat) = 71 by decide)]; exact h4
    · simp only [up_k (show ¬ (10 : Nat) = 62 by decide), up_k (show ¬ (10 : Nat) = 68 by decide), up_k (show ¬ (10 : Nat) = 69 by decide), up_k (show ¬ (10 : Nat) = 70 by decide), up_k (show ¬ (10 : Nat) = 71 by decide)]; exact h5
    · simp only [up_k (show ¬ (72 : Nat) = 62 by decide), up_k (show ¬ (72 : Nat) = 68 by decide), up_k (show ¬ (72 : Nat) = 69 by decide), up_k (show ¬ (72 : Nat) = 70 by decide), up_k (show ¬ (72 : Nat) = 71 by decide)]
    · simp only [up_k (show ¬ (10 : Nat) = 62 by decide), up_k (show ¬ (10 : Nat) = 68 by decide), up_k (show ¬ (10 : Nat) = 69 by decide), up_k (show ¬ (10 : Nat) = 70 by decide), up_k (show ¬ (10 : Nat) = 71 by decide)]; exact h7
    · rw [up_s, List.length_append]; rfl
    · simp only [up_k (show ¬ (68 : Nat) = 62 by decide), up_k (show ¬ (68 : Nat) = 69 by decide), up_k (show ¬ (68 : Nat) = 70 by decide), up_k (show ¬ (68 : Nat) = 71 by decide), up_k (show ¬ (69 : Nat) = 62 by decide), up_k (show ¬ (69 : Nat) = 68 by decide), up_k (show ¬ (69 : Nat) = 70 by decide), up_k (show ¬ (69 : Nat) = 71 by decide), up_k (show ¬ (70 : Nat) = 62 by decide), up_k (show ¬ (70 : Nat) = 68 by decide), up_k (show ¬ (70 : Nat) = 69 by decide), up_k (show ¬ (70 : Nat) = 71 by decide), up_k (show ¬ (71 : Nat) = 62 by decide), up_k (show ¬ (71 : Nat) = 68 by decide), up_k (show ¬ (71 : Nat) = 69 by decide), up_k (show ¬ (71 : Nat) = 70 by decide)]
      rw [up_j (by omega), up_j (by omega), up_j (by omega), up_j (by omega)]
      exact ⟨rfl, rfl, rfl, rfl⟩
    · simp only [up_k (show ¬ (68 : Nat) = 62 by decide), up_k (show ¬ (68 : Nat) = 69 by decide), up_k (show ¬ (68 : Nat) = 70 by decide), up_k (show ¬ (68 : Nat) = 71 by decide), up_s]; exact hk.symm
    · obtain ⟨z1, z2, z3⟩ := h0 (hk ▸ z)
      simp only [up_k (show ¬ (69 : Nat) = 62 by decide), up_k (show ¬ (69 : Nat) = 70 by decide), up_k (show ¬ (69 : Nat) = 71 by decide), up_k (show ¬ (70 : Nat) = 62 by decide), up_k (show ¬ (70 : Nat) = 71 by decide), up_k (show ¬ (71 : Nat) = 62 by decide), up_s]
      exact ⟨z1, z2, z3⟩
    · rw [List.length_append]; show L.length + 1 + S.length ≤ i; omega
theorem r_isTop (H : RMd n t0 t i S d L) (hn : n ≤ 200) {c : Nat} (hc : c < 256) : f_X10_isTop (nI c) t = some (bI (decide (S.head? = some c)), t) := by
  obtain ⟨h1, h2, h3, h4, h5, h6, h7, h8, h9, h10, h11⟩ := H
  unfold f_X10_isTop
  rw [h5]
  cases S with
  | nil => rw [if_pos (by decide)]; rfl
  | cons x r =>
    have hl : r.length + 1 ≤ 200 := by rw [List.length_cons] at h10; omega
    rw [List.length_cons, if_neg (nI_nle (by omega) (by omega)), nI_pred, chk, if_pos (gi_nI (by omega) (by decide)), nI_clamp (by omega), h6.1.1]
    by_cases q : x = c
    · rw [if_pos (by rw [q]), decide_eq_true (by rw [q]; rfl)]; rfl
    · rw [if_neg (by rw [nI_eq (by have := h6.1.2; omega) (by omega)]; exact q), decide_eq_false (show ¬ (x :: r).head? = some c from fun z => q (Option.some.inj z))]; rfl
theorem r_pops {x : Nat} (H : RMd n t0 t i (x :: S) d L) (hn : n ≤ 200) (hx : x = 33 ∨ x = 38 ∨ x = 124) : ∃ t', f_X10_pops t = some t' ∧ RMd n t0 t' i S d (L ++ [itO x]) := by
  obtain ⟨h1, h2, h3, h4, h5, h6, h7, h8, h9, h10, h11⟩ := H
  rw [List.length_cons] at h5 h10
  have H' : RMd n t0 (up3 t 10 0 36 (nI S.length)) i S d L := by
    refine ⟨h1.up10 (by decide), ?_, ?_, ?_, up_s, PL_of (fun j _ => by rw [up_k (by decide)]) h6.2, ?_, ?_, CMk_lo (fun j _ => ⟨by rw [up_k (by decide)], by rw [up_k (by decide)], by rw [up_k (by decide)], by rw [up_k (by decide)]⟩) h9, by omega, h11⟩
    · rw [up_j (by decide), up_j (by decide)]; exact h2
    · rw [up_j (by decide)]; exact h3
    · rw [up_j (by decide)]; exact h4
    · rw [up_j (by decide)]; exact h7
    · rw [up_k (by decide)]; exact h8
  have e72 : up3 t 10 0 36 (nI S.length) 72 0 S.length = nI x := by rw [up_k (by decide)]; exact h6.1.1
  unfold f_X10_pops f_X10_pops_B42 bdS bdI
  simp only [h5, nI_pred, up_s, chk, gi_nI (show S.length < 200 by omega) (by decide), if_true, nI_clamp (show S.length < 2 ^ 31 by omega), e72]
  rcases hx with e | e | e
  · subst e
    obtain ⟨t', y1, y2⟩ := r_code H' hn (by omega) (k := 1) (a := 0) (b := 0) (c := 0) (it := itO 33) rfl (fun z => absurd z (by decide))
    exact ⟨t', by rw [if_pos (show nI 33 = 33 from rfl), y1]; rfl, y2⟩
  · subst e
    obtain ⟨t', y1, y2⟩ := r_code H' hn (by omega) (k := 2) (a := 0) (b := 0) (c := 0) (it := itO 38) rfl (fun z => absurd z (by decide))
    exact ⟨t', by rw [if_neg (by decide), if_pos (show nI 38 = 38 from rfl), y1]; rfl, y2⟩
  · subst e
    obtain ⟨t', y1, y2⟩ := r_code H' hn (by omega) (k := 3) (a := 0) (b := 0) (c := 0) (it := itO 124) rfl (fun z => absurd z (by decide))
    exact ⟨t', by rw [if_neg (by decide), if_neg (by decide), y1]; rfl, y2⟩
def stp : List Nat → List It → List Nat × List It
  | [], L => ([], L)
  | x :: S, L => if x = 33 then stp S (L ++ [itO 33]) else (x :: S, L)
end PARM
theorem r_ends {n : Nat} {t0 : Sg} {i : Nat} (hn : n ≤ 200) : ∀ (S : List Nat) (L : List It) (t : Sg) (f : Nat), S.length < f → RMd n t0 t i S (cnO S) L → Ok (f_X10_ends_L0 f t) (fun t' => RMd n t0 t' i (stp S L).1 (cnO (stp S L).1) (stp S L).2) := by
  intro S
  induction S with
  | nil =>
    intro L t f hf H
    obtain ⟨f, rfl⟩ : ∃ m, f = m + 1 := ⟨f - 1, by omega⟩
    show Ok (f_X10_ends_B0 _ _) _
    unfold f_X10_ends_B0
    refine ok_call (r_isTop H hn (c := 33) (by omega)) ?_
    exact ok_pos rfl (ok_some H)
  | cons x S ih =>
    intro L t f hf H
    obtain ⟨f, rfl⟩ : ∃ m, f = m + 1 := ⟨f - 1, by omega⟩
    rw [List.length_cons] at hf
    show Ok (f_X10_ends_B0 _ _) _
    unfold f_X10_ends_B0
    refine ok_call (r_isTop H hn (c := 33) (by omega)) ?_
    by_cases q : x = 33
    · subst q
      obtain ⟨t', y1, y2⟩ := r_pops H hn (Or.inl rfl)
      refine ok_neg (show ¬ bI (decide ((33 :: S).head? = some 33)) = 0 from by rw [decide_eq_true (show (33 :: S).head? = some 33 from rfl)]; exact n10) (ok_call y1 (ok_S ?_))
      have e39 : t' 10 0 39 - 1 = nI (cnO S) := by
        rw [y2.2.2.2.2.2.2.1]
        show nI (cnO S + 1) - 1 = _
        rw [nI_pred]
      rw [e39]
      have := ih (L ++ [itO 33]) _ f (by omega) (y2.deep (cnO S))
      show Ok _ (fun t' => RMd n t0 t' i (stp (33 :: S) L).1 (cnO (stp (33 :: S) L).1) (stp (33 :: S) L).2)
      rw [show stp (33 :: S) L = stp S (L ++ [itO 33]) from rfl]
      exact this
    · have e : stp (x :: S) L = (x :: S, L) := if_neg q
      rw [e]
      refine ok_pos ?_ (ok_some H)
      rw [decide_eq_false (show ¬ (x :: S).head? = some 33 from fun z => q (Option.some.inj z))]
      rfl
theorem r_hasOpen {n : Nat} {t0 t : Sg} {i d : Nat} {S : List Nat} {L : List It} (H : RMd n t0 t i S d L) (hn : n ≤ 200) : f_X10_hasOpen t = some (bI (decide (40 ∈ S)), t) := by
  have hl : S.length ≤ 200 := by have := H.2.2.2.2.2.2.2.2.2; omega
  have h5 := H.2.2.2.2.1
  have hP := PL_op H.2.2.2.2.2.1
  have loop : ∀ (m k f : Nat) (b : Bool), k + m = S.length → m < f → (b = true ↔ ∃ q, q < k ∧ t 72 0 q = 40) → f_X10_hasOpen_L4 f (bI b) (nI k) t = some (bI (decide (40 ∈ S)), t) := by
    intro m
    induction m with
    | zero =>
      intro k f b h1 h2 h3
      obtain ⟨f, rfl⟩ : ∃ m, f = m + 1 := ⟨f - 1, by omega⟩
      show f_X10_hasOpen_B4 _ _ _ _ = _
      unfold f_X10_hasOpen_B4
      have e : decide (40 ∈ S) = b := by
        rw [show k = S.length by omega, hP] at h3
        cases b with
        | true => exact decide_eq_true (h3.mp rfl)
        | false => exact decide_eq_false (fun z => absurd (h3.mpr z) (by decide))
      rw [h5, if_pos (nI_le (by omega) (by omega)), e]
      cases b <;> rfl
    | succ m ih =>
      intro k f b h1 h2 h3
      obtain ⟨f, rfl⟩ : ∃ m, f = m + 1 := ⟨f - 1, by omega⟩
      show f_X10_hasOpen_B4 _ _ _ _ = _
      unfold f_X10_hasOpen_B4 f_X10_hasOpen_B27
      rw [h5, if_neg (nI_ge (by omega) (by omega)), nI_1, chk, if_pos (gi_nI (by omega) (by decide)), nI_clamp (by omega)]
      cases b with
      | true =>
        rw [if_neg (show ¬ bI true = 0 from n10)]
        refine ih (k + 1) f true (by omega) (by omega) ⟨fun _ => ?_, fun _ => rfl⟩
        obtain ⟨q, q1, q2⟩ := h3.mp rfl
        exact ⟨q, by omega, q2⟩
      | false =>
        rw [if_pos (show bI false = 0 from rfl)]
        by_cases z : t 72 0 k = 40
        · rw [if_pos z]
          exact ih (k + 1) f true (by omega) (by omega) ⟨fun _ => ⟨k, by omega, z⟩, fun _ => rfl⟩
        · rw [if_neg z]
          refine ih (k + 1) f false (by omega) (by omega) ⟨fun y => absurd y (by decide), ?_⟩
          rintro ⟨q, q1, q2⟩
          by_cases e : q = k
          · rw [e] at q2; exact absurd q2 z
          · exact absurd (h3.mpr ⟨q, by omega, q2⟩) (by decide)
  unfold f_X10_hasOpen
  exact loop S.length 0 FU false (by omega) (by unfold FU; omega) ⟨fun y => absurd y (by decide), fun ⟨q, q1, _⟩ => absurd q1 (Nat.not_lt_zero q)⟩
