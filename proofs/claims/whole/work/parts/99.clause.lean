/-! class and reference read a clause alike -/
def fl : List Cl → List It
  | [] => []
  | x :: r => x.2.2 ++ fl r
theorem fl_app (A B : List Cl) : fl (A ++ B) = fl A ++ fl B := by
  induction A with
  | nil => rfl
  | cons x r ih => show x.2.2 ++ fl (r ++ B) = x.2.2 ++ fl r ++ fl B; rw [ih, List.append_assoc]
theorem fl_snoc (A : List Cl) (x : Cl) : fl (A ++ [x]) = fl A ++ x.2.2 := by
  rw [fl_app]
  show fl A ++ (x.2.2 ++ []) = _
  rw [List.append_nil]
def pnF (Ks : List Cl) : Int32 := Ks.foldl (fun a x => if x.1 = 80 then x.2.1 else a) 0
theorem pnF_snoc (Ks : List Cl) (x : Cl) : pnF (Ks ++ [x]) = if x.1 = 80 then x.2.1 else pnF Ks := by
  unfold pnF
  rw [List.foldl_append]
  rfl
def XRr (s : Sg) (o : Nat) : Nat → Nat → List Cl → Prop
  | _, _, [] => True
  | q, e, x :: r => (s 18 o q = x.1 ∧ s 19 o q = x.2.1 ∧ s 20 o q = nI (e + x.2.2.length)) ∧ XRr s o (q + 1) (e + x.2.2.length) r
def MRr (t : Sg) : Nat → Nat → List Cl → Prop
  | _, _, [] => True
  | q, e, x :: r => (t 64 0 (48 + q) = x.1 ∧ t 65 0 (48 + q) = x.2.1 ∧ t 66 0 (48 + q) = nI e ∧ t 67 0 (48 + q) = nI (e + x.2.2.length)) ∧ MRr t (q + 1) (e + x.2.2.length) r
theorem XRr_cx {s : Sg} {o : Nat} : ∀ {Ks : List Cl} {q e : Nat}, XRr s o q e Ks → CXk s o e (fl Ks) → e + (fl Ks).length ≤ 200 → CXq s o q e Ks := by
  intro Ks
  induction Ks with
  | nil => intro q e _ _ _; trivial
  | cons x r ih =>
    intro q e h1 h2 h3
    have h4 : CXk s o e (x.2.2 ++ fl r) := h2
    rw [CXk_app] at h4
    have h5 : (fl (x :: r)).length = x.2.2.length + (fl r).length := List.length_append
    exact ⟨⟨h1.1.1, h1.1.2.1, h1.1.2.2, by omega, h4.1⟩, ih h1.2 h4.2 (by omega)⟩
theorem MRr_cm {t : Sg} : ∀ {Ks : List Cl} {q e : Nat}, MRr t q e Ks → CMk t (800 + e) (fl Ks) → e + (fl Ks).length ≤ 200 → CMq t 4 q Ks := by
  intro Ks
  induction Ks with
  | nil => intro q e _ _ _; trivial
  | cons x r ih =>
    intro q e h1 h2 h3
    have h4 : CMk t (800 + e) (x.2.2 ++ fl r) := h2
    rw [CMk_app] at h4
    have h5 : (fl (x :: r)).length = x.2.2.length + (fl r).length := List.length_append
    refine ⟨⟨h1.1.1, h1.1.2.1, e, h1.1.2.2.1, h1.1.2.2.2, by omega, h4.1⟩, ih h1.2 ?_ (by omega)⟩
    rw [← Nat.add_assoc]
    exact h4.2
theorem XRr_snoc {s : Sg} {o : Nat} {x : Cl} : ∀ {Ks : List Cl} {q e : Nat}, XRr s o q e Ks → (s 18 o (q + Ks.length) = x.1 ∧ s 19 o (q + Ks.length) = x.2.1 ∧ s 20 o (q + Ks.length) = nI (e + (fl Ks).length + x.2.2.length)) → XRr s o q e (Ks ++ [x]) := by
  intro Ks
  induction Ks with
  | nil => intro q e _ h; exact ⟨h, trivial⟩
  | cons y r ih =>
    intro q e h1 h2
    have h5 : (fl (y :: r)).length = y.2.2.length + (fl r).length := List.length_append
    refine ⟨h1.1, ih h1.2 ?_⟩
    rw [show q + 1 + r.length = q + (y :: r).length by rw [List.length_cons]; omega, show e + y.2.2.length + (fl r).length = e + (fl (y :: r)).length by omega]
    exact h2
theorem MRr_snoc {t : Sg} {x : Cl} : ∀ {Ks : List Cl} {q e : Nat}, MRr t q e Ks → (t 64 0 (48 + (q + Ks.length)) = x.1 ∧ t 65 0 (48 + (q + Ks.length)) = x.2.1 ∧ t 66 0 (48 + (q + Ks.length)) = nI (e + (fl Ks).length) ∧ t 67 0 (48 + (q + Ks.length)) = nI (e + (fl Ks).length + x.2.2.length)) → MRr t q e (Ks ++ [x]) := by
  intro Ks
  induction Ks with
  | nil => intro q e _ h; exact ⟨h, trivial⟩
  | cons y r ih =>
    intro q e h1 h2
    have h5 : (fl (y :: r)).length = y.2.2.length + (fl r).length := List.length_append
    refine ⟨h1.1, ih h1.2 ?_⟩
    rw [show q + 1 + r.length = q + (y :: r).length by rw [List.length_cons]; omega, show e + y.2.2.length + (fl r).length = e + (fl (y :: r)).length by omega]
    exact h2
theorem XRr_lo {s s' : Sg} {o : Nat} : ∀ {Ks : List Cl} {q e : Nat}, (∀ j, j < q + Ks.length → s' 18 o j = s 18 o j ∧ s' 19 o j = s 19 o j ∧ s' 20 o j = s 20 o j) → XRr s o q e Ks → XRr s' o q e Ks := by
  intro Ks
  induction Ks with
  | nil => intro q e _ _; trivial
  | cons x r ih =>
    intro q e h H
    obtain ⟨h1, h2, h3⟩ := h q (by rw [List.length_cons]; omega)
    refine ⟨?_, ih (fun j hj => h j (by rw [List.length_cons]; omega)) H.2⟩
    rw [h1, h2, h3]; exact H.1
theorem MRr_lo {t t' : Sg} : ∀ {Ks : List Cl} {q e : Nat}, (∀ j, j < 48 + (q + Ks.length) → t' 64 0 j = t 64 0 j ∧ t' 65 0 j = t 65 0 j ∧ t' 66 0 j = t 66 0 j ∧ t' 67 0 j = t 67 0 j) → MRr t q e Ks → MRr t' q e Ks := by
  intro Ks
  induction Ks with
  | nil => intro q e _ _; trivial
  | cons x r ih =>
    intro q e h H
    obtain ⟨h1, h2, h3, h4⟩ := h (48 + q) (by rw [List.length_cons]; omega)
    refine ⟨?_, ih (fun j hj => h j (by rw [List.length_cons]; omega)) H.2⟩
    rw [h1, h2, h3, h4]; exact H.1
/-- only the spare contract and the reader change -/
def XG (o : Nat) (s0 s : Sg) : Prop := Ag [5, 2, 18, 19, 20, 21, 22, 23] s s0 ∧ ∀ u, ¬ u = o → s 2 u = s0 2 u ∧ s 18 u = s0 18 u ∧ s 19 u = s0 19 u ∧ s 20 u = s0 20 u ∧ s 21 u = s0 21 u ∧ s 22 u = s0 22 u ∧ s 23 u = s0 23 u
def XC (n o : Nat) (s0 s : Sg) (i : Nat) (Ks : List Cl) : Prop := XG o s0 s ∧ (s 5 0 7 = 0 ∧ s 5 0 8 = -1) ∧ s 5 0 0 = 1 ∧ s 5 0 1 = nI n ∧ s 5 0 3 = nI (o + 1) ∧ s 5 0 2 = nI i ∧ s 2 o 5 = nI (fl Ks).length ∧ s 2 o 0 = nI Ks.length ∧ s 2 o 1 = pnF Ks ∧ CXk s o 0 (fl Ks) ∧ XRr s o 0 0 Ks ∧ (fl Ks).length ≤ i ∧ i ≤ n
def XFc (o : Nat) (s0 s : Sg) (k p : Nat) : Prop := XG o s0 s ∧ s 5 0 7 = nI k ∧ s 5 0 8 = nI p
theorem XrP.g {o : Nat} {s0 s s' : Sg} (h : XrP o s s') (H : XG o s0 s) : XG o s0 s' := by
  refine ⟨h.1.tr H.1 (by decide) (by decide), fun u hu => ?_⟩
  obtain ⟨a1, a2, a3, a4⟩ := h.2.1 u hu
  obtain ⟨b1, b2, b3, b4, b5, b6, b7⟩ := H.2 u hu
  refine ⟨a1.trans b1, ?_, ?_, ?_, a2.trans b5, a3.trans b6, a4.trans b7⟩
  · rw [h.1 18 (by decide)]; exact b2
  · rw [h.1 19 (by decide)]; exact b3
  · rw [h.1 20 (by decide)]; exact b4
theorem XrP.rfl {o : Nat} {s : Sg} : XrP o s s := ⟨Ag.rfl, fun _ _ => ⟨Eq.refl _, Eq.refl _, Eq.refl _, Eq.refl _⟩, fun _ _ => Eq.refl _⟩
theorem XC.m {n o : Nat} {s0 s : Sg} {i : Nat} {Ks : List Cl} (H : XC n o s0 s i Ks) : XM n o s s i (fl Ks) := by
  obtain ⟨h1, h2, h3, h4, h5, h6, h7, h8, h9, h10, h11, h12, h13⟩ := H
  exact ⟨XrP.rfl, h2, h3, h4, h5, h6, h7, h10, h12, h13⟩
def RGc (t0 t : Sg) : Prop := Ag [10, 61, 62, 63, 64, 65, 66, 67, 68, 69, 70, 71, 72] t t0 ∧ (∀ j, j ∉ [22, 23, 36, 37, 38, 39, 40] → t 10 0 j = t0 10 0 j) ∧ (∀ j, j < 800 → t 68 0 j = t0 68 0 j ∧ t 69 0 j = t0 69 0 j ∧ t 70 0 j = t0 70 0 j ∧ t 71 0 j = t0 71 0 j) ∧ (∀ j, j < 48 → t 64 0 j = t0 64 0 j ∧ t 65 0 j = t0 65 0 j ∧ t 66 0 j = t0 66 0 j ∧ t 67 0 j = t0 67 0 j) ∧ ∀ j, j < 4 → t 61 0 j = t0 61 0 j ∧ t 63 0 j = t0 63 0 j
def RCb (t0 t : Sg) (Ks : List Cl) : Prop := RGc t0 t ∧ (t 10 0 22 = 0 ∧ t 10 0 23 = -1) ∧ t 62 0 4 = nI (fl Ks).length ∧ t 61 0 4 = nI Ks.length ∧ t 63 0 4 = pnF Ks ∧ CMk t 800 (fl Ks) ∧ MRr t 0 0 Ks
def RC (n : Nat) (t0 t : Sg) (i : Nat) (Ks : List Cl) : Prop := RCb t0 t Ks ∧ t 10 0 37 = nI i ∧ t 10 0 38 = nI n ∧ (fl Ks).length ≤ i ∧ i ≤ n
def RFc (t0 t : Sg) (k p : Nat) : Prop := RGc t0 t ∧ t 10 0 22 = nI k ∧ t 10 0 23 = nI p
theorem RG.c {t0 t t' : Sg} (h : RG t t') (H : RGc t0 t) : RGc t0 t' := by
  refine ⟨h.1.tr H.1 (by decide) (by decide), fun j hj => ?_, fun j hj => ?_, fun j hj => ?_, fun j hj => ?_⟩
  · rw [h.2.1 j (fun q => hj (by revert q; simp only [List.mem_cons, List.not_mem_nil, or_false]; omega))]
    exact H.2.1 j hj
  · obtain ⟨a1, a2, a3, a4⟩ := h.2.2 j hj
    obtain ⟨b1, b2, b3, b4⟩ := H.2.2.1 j hj
    exact ⟨a1.trans b1, a2.trans b2, a3.trans b3, a4.trans b4⟩
  · rw [h.1 64 (by decide), h.1 65 (by decide), h.1 66 (by decide), h.1 67 (by decide)]
    exact H.2.2.2.1 j hj
  · rw [h.1 61 (by decide), h.1 63 (by decide)]
    exact H.2.2.2.2 j hj
theorem RG.rfl {t : Sg} : RG t t := ⟨Ag.rfl, fun _ _ => Eq.refl _, fun _ _ => ⟨Eq.refl _, Eq.refl _, Eq.refl _, Eq.refl _⟩⟩
theorem RFl.c {t0 t t' : Sg} {k p : Nat} (h : RFl t t' k p) (H : RGc t0 t) : RFc t0 t' k p := ⟨h.1.c H, h.2⟩
theorem XFl.c {o : Nat} {s0 s s' : Sg} {k p : Nat} (h : XFl o s s' k p) (H : XG o s0 s) : XFc o s0 s' k p := ⟨h.1.g H, h.2⟩
section CLAUSE
variable {g : Nat → Nat} {n o : Nat} {s0 t0 : Sg}
/-- the reference's row of a clause -/
theorem r_135 {t : Sg} {i : Nat} {Ks : List Cl} {M : List It} {k : Nat} {x e : Int32} (H : RGc t0 t) (hf : t 10 0 22 = 0 ∧ t 10 0 23 = -1) (h37 : t 10 0 37 = nI i) (h38 : t 10 0 38 = nI n) (h62 : t 62 0 4 = nI (fl Ks ++ M).length) (h61 : t 61 0 4 = nI Ks.length) (h63 : t 63 0 4 = if nI k = 80 then x else pnF Ks) (hC : CMk t 800 (fl Ks ++ M)) (hR : MRr t 0 0 Ks) (hi : (fl Ks ++ M).length ≤ i) (hn : i ≤ n) (hK : Ks.length < 12) (he : e = nI (fl Ks).length) : Ok (f_X10_readsClause_B135 (nI k) x e t) (fun r => r.1 = 1 ∧ RC n t0 r.2 i (Ks ++ [(nI k, x, M)])) := by
  subst he
  have e48 : (48 : Int32) + nI Ks.length = nI (48 + Ks.length) := by rw [L_48, nI_add]
  have hL : (fl Ks ++ M).length = (fl Ks).length + M.length := List.length_append
  refine ⟨(1, up3 (up3 (up3 (up3 (up3 t 64 0 (48 + Ks.length) (nI k)) 65 0 (48 + Ks.length) x) 66 0 (48 + Ks.length) (nI (fl Ks).length)) 67 0 (48 + Ks.length) (nI (fl Ks ++ M).length)) 61 0 4 (nI (Ks.length + 1))), ?_, rfl, ?_⟩
  · unfold f_X10_readsClause_B135 bdI bdS
    simp only [show gi 4 5 = true from rfl, chk, if_true, show (4 : Int32).toNatClampNeg = 4 from rfl, h61, e48, gi_nI (show 48 + Ks.length < 60 by omega) (by decide), nI_clamp (show 48 + Ks.length < 2 ^ 31 by omega), up_k (show ¬ (62 : Nat) = 64 by decide), up_k (show ¬ (62 : Nat) = 65 by decide), up_k (show ¬ (62 : Nat) = 66 by decide), up_k (show ¬ (62 : Nat) = 67 by decide), h62, up_k (show ¬ (61 : Nat) = 64 by decide), up_k (show ¬ (61 : Nat) = 65 by decide), up_k (show ¬ (61 : Nat) = 66 by decide), up_k (show ¬ (61 : Nat) = 67 by decide), nI_1]
  · dsimp only
    refine ⟨⟨⟨?_, fun j hj => ?_, fun j hj => ?_, fun j hj => ?_, fun j hj => ?_⟩, ?_, ?_, ?_, ?_, ?_, MRr_snoc (MRr_lo (fun j hj => ?_) hR) ⟨?_, ?_, ?_, ?_⟩⟩, ?_, ?_, ?_, hn⟩
    · repeat refine Ag.up ?_ (by decide)
      exact H.1
    · simp only [up_k (show ¬ (10 : Nat) = 61 by decide), up_k (show ¬ (10 : Nat) = 64 by decide), up_k (show ¬ (10 : Nat) = 65 by decide), up_k (show ¬ (10 : Nat) = 66 by decide), up_k (show ¬ (10 : Nat) = 67 by decide)]; exact H.2.1 j hj
    · simp only [up_k (show ¬ (68 : Nat) = 61 by decide), up_k (show ¬ (68 : Nat) = 64 by decide), up_k (show ¬ (68 : Nat) = 65 by decide), up_k (show ¬ (68 : Nat) = 66 by decide), up_k (show ¬ (68 : Nat) = 67 by decide), up_k (show ¬ (69 : Nat) = 61 by decide), up_k (show ¬ (69 : Nat) = 64 by decide), up_k (show ¬ (69 : Nat) = 65 by decide), up_k (show ¬ (69 : Nat) = 66 by decide), up_k (show ¬ (69 : Nat) = 67 by decide), up_k (show ¬ (70 : Nat) = 61 by decide), up_k (show ¬ (70 : Nat) = 64 by decide), up_k (show ¬ (70 : Nat) = 65 by decide), up_k (show ¬ (70 : Nat) = 66 by decide), up_k (show ¬ (70 : Nat) = 67 by decide), up_k (show ¬ (71 : Nat) = 61 by decide), up_k (show ¬ (71 : Nat) = 64 by decide), up_k (show ¬ (71 : Nat) = 65 by decide), up_k (show ¬ (71 : Nat) = 66 by decide), up_k (show ¬ (71 : Nat) = 67 by decide)]; exact H.2.2.1 j hj
    · simp only [up_k (show ¬ (64 : Nat) = 61 by decide), up_k (show ¬ (64 : Nat) = 65 by decide), up_k (show ¬ (64 : Nat) = 66 by decide), up_k (show ¬ (64 : Nat) = 67 by decide), up_k (show ¬ (65 : Nat) = 61 by decide), up_k (show ¬ (65 : Nat) = 64 by decide), up_k (show ¬ (65 : Nat) = 66 by decide), up_k (show ¬ (65 : Nat) = 67 by decide), up_k (show ¬ (66 : Nat) = 61 by decide), up_k (show ¬ (66 : Nat) = 64 by decide), up_k (show ¬ (66 : Nat) = 65 by decide), up_k (show ¬ (66 : Nat) = 67 by decide), up_k (show ¬ (67 : Nat) = 61 by decide), up_k (show ¬ (67 : Nat) = 64 by decide), up_k (show ¬ (67 : Nat) = 65 by decide), up_k (show ¬ (67 : Nat) = 66 by decide)]
      rw [up_j (by omega), up_j (by omega), up_j (by omega), up_j (by omega)]
      exact H.2.2.2.1 j hj
    · rw [up_j (by omega)]
      simp only [up_k (show ¬ (61 : Nat) = 64 by decide), up_k (show ¬ (61 : Nat) = 65 by decide), up_k (show ¬ (61 : Nat) = 66 by decide), up_k (show ¬ (61 : Nat) = 67 by decide), up_k (show ¬ (63 : Nat) = 61 by decide), up_k (show ¬ (63 : Nat) = 64 by decide), up_k (show ¬ (63 : Nat) = 65 by decide), up_k (show ¬ (63 : Nat) = 66 by decide), up_k (show ¬ (63 : Nat) = 67 by decide)]
      exact H.2.2.2.2 j hj
    · simp only [up_k (show ¬ (10 : Nat) = 61 by decide), up_k (show ¬ (10 : Nat) = 64 by decide), up_k (show ¬ (10 : Nat) = 65 by decide), up_k (show ¬ (10 : Nat) = 66 by decide), up_k (show ¬ (10 : Nat) = 67 by decide)]; exact hf
    · simp only [up_k (show ¬ (62 : Nat) = 61 by decide), up_k (show ¬ (62 : Nat) = 64 by decide), up_k (show ¬ (62 : Nat) = 65 by decide), up_k (show ¬ (62 : Nat) = 66 by decide), up_k (show ¬ (62 : Nat) = 67 by decide)]; rw [fl_snoc]; exact h62
    · rw [up_s, List.length_append]; rfl
    · simp only [up_k (show ¬ (63 : Nat) = 61 by decide), up_k (show ¬ (63 : Nat) = 64 by decide), up_k (show ¬ (63 : Nat) = 65 by decide), up_k (show ¬ (63 : Nat) = 66 by decide), up_k (show ¬ (63 : Nat) = 67 by decide)]; rw [pnF_snoc]; exact h63
    · rw [fl_snoc]
      exact CMk_lo (fun j _ => by simp only [up_k (show ¬ (68 : Nat) = 61 by decide), up_k (show ¬ (68 : Nat) = 64 by decide), up_k (show ¬ (68 : Nat) = 65 by decide), up_k (show ¬ (68 : Nat) = 66 by decide), up_k (show ¬ (68 : Nat) = 67 by decide), up_k (show ¬ (69 : Nat) = 61 by decide), up_k (show ¬ (69 : Nat) = 64 by decide), up_k (show ¬ (69 : Nat) = 65 by decide), up_k (show ¬ (69 : Nat) = 66 by decide), up_k (show ¬ (69 : Nat) = 67 by decide), up_k (show ¬ (70 : Nat) = 61 by decide), up_k (show ¬ (70 : Nat) = 64 by decide), up_k (show ¬ (70 : Nat) = 65 by decide), up_k (show ¬ (70 : Nat) = 66 by decide), up_k (show ¬ (70 : Nat) = 67 by decide), up_k (show ¬ (71 : Nat) = 61 by decide), up_k (show ¬ (71 : Nat) = 64 by decide), up_k (show ¬ (71 : Nat) = 65 by decide), up_k (show ¬ (71 : Nat) = 66 by decide), up_k (show ¬ (71 : Nat) = 67 by decide), and_self]) hC
    · simp only [up_k (show ¬ (64 : Nat) = 61 by decide), up_k (show ¬ (64 : Nat) = 65 by decide), up_k (show ¬ (64 : Nat) = 66 by decide), up_k (show ¬ (64 : Nat) = 67 by decide), up_k (show ¬ (65 : Nat) = 61 by decide), up_k (show ¬ (65 : Nat) = 64 by decide), up_k (show ¬ (65 : Nat) = 66 by decide), up_k (show ¬ (65 : Nat) = 67 by decide), up_k (show ¬ (66 : Nat) = 61 by decide), up_k (show ¬ (66 : Nat) = 64 by decide), up_k (show ¬ (66 : Nat) = 65 by decide), up_k (show ¬ (66 : Nat) = 67 by decide), up_k (show ¬ (67 : Nat) = 61 by decide), up_k (show ¬ (67 : Nat) = 64 by decide), up_k (show ¬ (67 : Nat) = 65 by decide), up_k (show ¬ (67 : Nat) = 66 by decide)]
      rw [up_j (by omega), up_j (by omega), up_j (by omega), up_j (by omega)]
      exact ⟨rfl, rfl, rfl, rfl⟩
    · rw [Nat.zero_add]; simp only [up_k (show ¬ (64 : Nat) = 61 by decide), up_k (show ¬ (64 : Nat) = 65 by decide), up_k (show ¬ (64 : Nat) = 66 by decide), up_k (show ¬ (64 : Nat) = 67 by decide), up_s]
    · rw [Nat.zero_add]; simp only [up_k (show ¬ (65 : Nat) = 61 by decide), up_k (show ¬ (65 : Nat) = 66 by decide), up_k (show ¬ (65 : Nat) = 67 by decide), up_s]
    · rw [Nat.zero_add, Nat.zero_add]; simp only [up_k (show ¬ (66 : Nat) = 61 by decide), up_k (show ¬ (66 : Nat) = 67 by decide), up_s]
    · rw [Nat.zero_add, Nat.zero_add]; simp only [up_k (show ¬ (67 : Nat) = 61 by decide), up_s]; rw [hL]
    · simp only [up_k (show ¬ (10 : Nat) = 61 by decide), up_k (show ¬ (10 : Nat) = 64 by decide), up_k (show ¬ (10 : Nat) = 65 by decide), up_k (show ¬ (10 : Nat) = 66 by decide), up_k (show ¬ (10 : Nat) = 67 by decide)]; exact h37
    · simp only [up_k (show ¬ (10 : Nat) = 61 by decide), up_k (show ¬ (10 : Nat) = 64 by decide), up_k (show ¬ (10 : Nat) = 65 by decide), up_k (show ¬ (10 : Nat) = 66 by decide), up_k (show ¬ (10 : Nat) = 67 by decide)]; exact h38
    · rw [fl_snoc]; exact hi
/-- the class's row of a clause -/
theorem x_102 {s sb : Sg} {i : Nat} {Ks : List Cl} {M : List It} {k : Nat} {x : Int32} (ho : o < 5) (Hb : XC n o s0 sb i Ks) {j : Nat} (H : XM n o sb s j (fl Ks ++ M)) (hK : Ks.length < 12) : Ok (f_X5_readClause_B102 (nI k) x s) (fun r => r.1 = 1 ∧ XC n o s0 r.2 j (Ks ++ [(nI k, x, M)])) := by
  obtain ⟨i1, i2⟩ := x_into H ho
  obtain ⟨h1, h2, h3, h4, h5, h6, h7, h8, h9, h10⟩ := H
  obtain ⟨b1, b2, b3, b4, b5, b6, b7, b8, b9, b10, b11, b12, b13⟩ := Hb
  have k0 : s 2 o 0 = nI Ks.length := by rw [h1.2.2 0 (by decide)]; exact b8
  have k1 : s 2 o 1 = pnF Ks := by rw [h1.2.2 1 (by decide)]; exact b9
  have hL : (fl Ks ++ M).length = (fl Ks).length + M.length := List.length_append
  have hg := h1.g b1
  -- behind the rows
  have fin : ∀ y : Sg, y = up3 (up3 (up3 (up3 s 18 o Ks.length (nI k)) 19 o Ks.length x) 20 o Ks.length (nI (fl Ks ++ M).length)) 2 o 0 (nI (Ks.length + 1)) → Ok (f_X2_endClause_B52 o (nI k) x y) (fun s' => XC n o s0 s' j (Ks ++ [(nI k, x, M)])) := by
    intro y hy
    have yC : ∀ z, XG o s0 y ∧ y 5 = s 5 ∧ y 2 o 5 = s 2 o 5 ∧ y 2 o 0 = nI (Ks.length + 1) ∧ y 2 o 1 = s 2 o 1 ∧ y 21 = s 21 ∧ y 22 = s 22 ∧ y 23 = s 23 ∧ y 18 o Ks.length = nI k ∧ y 19 o Ks.length = x ∧ y 20 o Ks.length = nI (fl Ks ++ M).length ∧ (z < Ks.length → y 18 o z = s 18 o z ∧ y 19 o z = s 19 o z ∧ y 20 o z = s 20 o z) := by
      intro z
      subst hy
      refine ⟨⟨?_, fun u hu => ?_⟩, ?_, ?_, ?_, ?_, ?_, ?_, ?_, ?_, ?_, ?_, fun hz => ?_⟩
      · repeat refine Ag.up ?_ (by decide)
        exact hg.1
      · have hh := hg.2 u hu
        refine ⟨?_, ?_, ?_, ?_, ?_, ?_, ?_⟩
        · rw [up_i hu]; simp only [up_k (show ¬ (2 : Nat) = 18 by decide), up_k (show ¬ (2 : Nat) = 19 by decide), up_k (show ¬ (2 : Nat) = 20 by decide)]; exact hh.1
        · simp only [up_k (show ¬ (18 : Nat) = 2 by decide), up_k (show ¬ (18 : Nat) = 19 by decide), up_k (show ¬ (18 : Nat) = 20 by decide)]; rw [up_i hu]; exact hh.2.1
        · simp only [up_k (show ¬ (19 : Nat) = 2 by decide), up_k (show ¬ (19 : Nat) = 20 by decide)]; rw [up_i hu]; simp only [up_k (show ¬ (19 : Nat) = 18 by decide)]; exact hh.2.2.1
        · simp only [up_k (show ¬ (20 : Nat) = 2 by decide)]; rw [up_i hu]; simp only [up_k (show ¬ (20 : Nat) = 18 by decide), up_k (show ¬ (20 : Nat) = 19 by decide)]; exact hh.2.2.2.1
        · simp only [up_k (show ¬ (21 : Nat) = 2 by decide), up_k (show ¬ (21 : Nat) = 18 by decide), up_k (show ¬ (21 : Nat) = 19 by decide), up_k (show ¬ (21 : Nat) = 20 by decide)]; exact hh.2.2.2.2.1
        · simp only [up_k (show ¬ (22 : Nat) = 2 by decide), up_k (show ¬ (22 : Nat) = 18 by decide), up_k (show ¬ (22 : Nat) = 19 by decide), up_k (show ¬ (22 : Nat) = 20 by decide)]; exact hh.2.2.2.2.2.1
        · simp only [up_k (show ¬ (23 : Nat) = 2 by decide), up_k (show ¬ (23 : Nat) = 18 by decide), up_k (show ¬ (23 : Nat) = 19 by decide), up_k (show ¬ (23 : Nat) = 20 by decide)]; exact hh.2.2.2.2.2.2
      · simp only [up_k (show ¬ (5 : Nat) = 2 by decide), up_k (show ¬ (5 : Nat) = 18 by decide), up_k (show ¬ (5 : Nat) = 19 by decide), up_k (show ¬ (5 : Nat) = 20 by decide)]
      · rw [up_j (by decide)]; simp only [up_k (show ¬ (2 : Nat) = 18 by decide), up_k (show ¬ (2 : Nat) = 19 by decide), up_k (show ¬ (2 : Nat) = 20 by decide)]
      · rw [up_s]
      · rw [up_j (by decide)]; simp only [up_k (show ¬ (2 : Nat) = 18 by decide), up_k (show ¬ (2 : Nat) = 19 by decide), up_k (show ¬ (2 : Nat) = 20 by decide)]
      · simp only [up_k (show ¬ (21 : Nat) = 2 by decide), up_k (show ¬ (21 : Nat) = 18 by decide), up_k (show ¬ (21 : Nat) = 19 by decide), up_k (show ¬ (21 : Nat) = 20 by decide)]
      · simp only [up_k (show ¬ (22 : Nat) = 2 by decide), up_k (show ¬ (22 : Nat) = 18 by decide), up_k (show ¬ (22 : Nat) = 19 by decide), up_k (show ¬ (22 : Nat) = 20 by decide)]
      · simp only [up_k (show ¬ (23 : Nat) = 2 by decide), up_k (show ¬ (23 : Nat) = 18 by decide), up_k (show ¬ (23 : Nat) = 19 by decide), up_k (show ¬ (23 : Nat) = 20 by decide)]
      · simp only [up_k (show ¬ (18 : Nat) = 2 by decide), up_k (show ¬ (18 : Nat) = 19 by decide), up_k (show ¬ (18 : Nat) = 20 by decide), up_s]
      · simp only [up_k (show ¬ (19 : Nat) = 2 by decide), up_k (show ¬ (19 : Nat) = 20 by decide), up_s]
      · simp only [up_k (show ¬ (20 : Nat) = 2 by decide), up_s]
      · simp only [up_k (show ¬ (18 : Nat) = 2 by decide), up_k (show ¬ (18 : Nat) = 19 by decide), up_k (show ¬ (18 : Nat) = 20 by decide), up_k (show ¬ (19 : Nat) = 2 by decide), up_k (show ¬ (19 : Nat) = 18 by decide), up_k (show ¬ (19 : Nat) = 20 by decide), up_k (show ¬ (20 : Nat) = 2 by decide), up_k (show ¬ (20 : Nat) = 18 by decide), up_k (show ¬ (20 : Nat) = 19 by decide)]
        rw [up_j (by omega), up_j (by omega), up_j (by omega)]
        exact ⟨rfl, rfl, rfl⟩
    have big : ∀ y' : Sg, XG o s0 y' → y' 5 = s 5 → y' 2 o 5 = s 2 o 5 → y' 2 o 0 = nI (Ks.length + 1) → y' 2 o 1 = (if nI k = 80 then x else pnF Ks) → y' 18 = y 18 → y' 19 = y 19 → y' 20 = y 20 → y' 21 = s 21 → y' 22 = s 22 → y' 23 = s 23 → XC n o s0 y' j (Ks ++ [(nI k, x, M)]) := by
      intro y' g0 g5 g25 g20 g21 g18 g19 g20' g21' g22 g23
      refine ⟨g0, by rw [g5]; exact h2, by rw [g5]; exact h3, by rw [g5]; exact h4, by rw [g5]; exact h5, by rw [g5]; exact h6, by rw [g25, fl_snoc]; exact h7, by rw [g20, List.length_append]; rfl, by rw [pnF_snoc]; exact g21, ?_, XRr_snoc (XRr_lo (fun z hz => ?_) b11) ⟨?_, ?_, ?_⟩, by rw [fl_snoc]; exact h9, h10⟩
      · rw [fl_snoc]
        exact CXk_lo (fun q _ => by rw [g21', g22, g23]; exact ⟨rfl, rfl, rfl⟩) h8
      · obtain ⟨c1, c2, c3⟩ := (yC z).2.2.2.2.2.2.2.2.2.2.2 (by omega)
        rw [g18, g19, g20', c1, c2, c3, h1.1 18 (by decide), h1.1 19 (by decide), h1.1 20 (by decide)]
        exact ⟨rfl, rfl, rfl⟩
      · rw [Nat.zero_add, g18]; exact (yC 0).2.2.2.2.2.2.2.2.1
      · rw [Nat.zero_add, g19]; exact (yC 0).2.2.2.2.2.2.2.2.2.1
      · rw [Nat.zero_add, Nat.zero_add, g20']
        rw [(yC 0).2.2.2.2.2.2.2.2.2.2.1, hL]
    obtain ⟨c0, c1, c2, c3, c4, c5, c6, c7, c8, c9, c10, -⟩ := yC 0
    unfold f_X2_endClause_B52
    refine ok_ite (fun z => ?_) (fun z => ?_)
    · refine ok_S (ok_some (big _ ⟨c0.1.up (by decide), fun u hu => ?_⟩ ?_ ?_ ?_ ?_ ?_ ?_ ?_ ?_ ?_ ?_))
      · rw [up_i hu]
        simp only [up_k (show ¬ (18 : Nat) = 2 by decide), up_k (show ¬ (19 : Nat) = 2 by decide), up_k (show ¬ (20 : Nat) = 2 by decide), up_k (show ¬ (21 : Nat) = 2 by decide), up_k (show ¬ (22 : Nat) = 2 by decide), up_k (show ¬ (23 : Nat) = 2 by decide)]
        exact c0.2 u hu
      · rw [up_k (by decide)]; exact c1
      · rw [up_j (by decide)]; exact c2
      · rw [up_j (by decide)]; exact c3
      · rw [up_s, if_pos z]
      · rw [up_k (by decide)]
      · rw [up_k (by decide)]
      · rw [up_k (by decide)]
      · rw [up_k (by decide)]; exact c5
      · rw [up_k (by decide)]; exact c6
      · rw [up_k (by decide)]; exact c7
    · exact ok_some (big y c0 c1 c2 c3 (by rw [if_neg z, c4]; exact k1) rfl rfl rfl c5 c6 c7)
  unfold f_X5_readClause_B102
  refine ok_d i1 ?_
  rw [i2]
  have hE : Ok (f_X2_endClause o (nI k) x s) (fun s' => XC n o s0 s' j (Ks ++ [(nI k, x, M)])) := by
    unfold f_X2_endClause
    refine ok_neg (by rw [k0, L_12]; exact nI_ge hK (by omega)) ?_
    rw [k0]
    refine ok_gi _ rfl hK (ok_S ?_)
    have e2 : ∀ (z : Sg), z = up3 s 18 o (nI Ks.length).toNatClampNeg (nI k) → z 2 o 0 = nI Ks.length := by intro z hz; rw [hz, up_k (by decide)]; exact k0
    rw [nI_clamp (show Ks.length < 2 ^ 31 by omega)]
    simp only [up_k (show ¬ (2 : Nat) = 18 by decide), up_k (show ¬ (2 : Nat) = 19 by decide), up_k (show ¬ (2 : Nat) = 20 by decide), k0, h7]
    refine ok_gi _ rfl hK (ok_S (ok_gi Ks.length (by rw [up_k (by decide), up_k (by decide)]; exact k0) hK (ok_S (ok_S ?_))))
    simp only [nI_clamp (show Ks.length < 2 ^ 31 by omega), up_k (show ¬ (2 : Nat) = 18 by decide), up_k (show ¬ (2 : Nat) = 19 by decide), up_k (show ¬ (2 : Nat) = 20 by decide), k0, h7, nI_1]
    exact fin _ rfl
  exact ok_bind hE (fun s' hs => ok_some ⟨rfl, hs⟩)
end CLAUSE
