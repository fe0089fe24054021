/-! class and reference read a text alike -/
section TEXT
variable {g : Nat → Nat} {n o : Nat} {s0 t0 : Sg}
theorem RC.w {t : Sg} {i : Nat} {Ks : List Cl} (H : RC n t0 t i Ks) : RMw n t t i (fl Ks) := ⟨RG.rfl, H.1.2.1, H.2.1, H.2.2.1, H.1.2.2.1, H.1.2.2.2.2.2.1, H.2.2.2.1, H.2.2.2.2⟩
theorem s_clause (TX : TXX s0 g n) (T : TXM t0 g n) (ho : o < 5) {s t : Sg} {i : Nat} {Ks : List Cl} (HX : XC n o s0 s i Ks) (HM : RC n t0 t i Ks) (hK : Ks.length ≤ 12) : Ok (f_X5_readClause (nI Ks.length) s) (fun q => (q.1 = 0 ∧ ∃ k p, XFc o s0 q.2 k p ∧ Ok (f_X10_readsClause t) (fun r => r.1 = 0 ∧ RFc t0 r.2 k p)) ∨ (q.1 = 1 ∧ Ks.length < 12 ∧ ∃ j y, XC n o s0 q.2 j (Ks ++ [y]) ∧ i < j ∧ clok y ∧ ((dig g n j ∧ Ok (f_X10_readsClause t) (fun r => r.1 = 0 ∧ RFc t0 r.2 1 j)) ∨ Ok (f_X10_readsClause t) (fun r => r.1 = 1 ∧ RC n t0 r.2 j (Ks ++ [y]))))) := by
  have hn := T.1
  have TX' : TXX s g n := ⟨hn, by rw [HX.1.1 35 (by decide)]; exact TX.2⟩
  have T' : TXM t g n := ⟨hn, by rw [HM.1.1.1 60 (by decide)]; exact T.2⟩
  have X := HX.m
  have M := HM.w
  have r1 := HM.1.1
  have hcc := cA_lt (i := i) T'
  -- both know the kind
  by_cases hk : cA g n i = 87 ∨ cA g n i = 88 ∨ cA g n i = 80
  · have hi : i < n := by rcases hk with e | e | e <;> exact cA_pos e (by omega)
    have es : sgI g n i = nI (cA g n i) := by unfold sgI cA; rw [if_pos hi, if_pos hi]
    have xk : ∀ Q : Int32 × Sg → Prop, Ok (f_X5_readClause_B29 (nI Ks.length) (nI (cA g n i)) s) Q → Ok (f_X5_readClause (nI Ks.length) s) Q := by
      intro Q h
      unfold f_X5_readClause
      refine ok_call (x_sign TX' X) ?_
      dsimp only
      rw [es]
      refine ok_ite (fun _ => h) (fun z1 => ok_ite (fun _ => h) (fun z2 => ok_ite (fun _ => h) (fun z3 => ?_)))
      exfalso
      rcases hk with e | e | e
      · exact z1 (by rw [e]; rfl)
      · exact z2 (by rw [e]; rfl)
      · exact z3 (by rw [e]; rfl)
    have rk : ∀ Q : Int32 × Sg → Prop, Ok (f_X10_readsClause_B29 (nI (cA g n i)) t) Q → Ok (f_X10_readsClause t) Q := by
      intro Q h
      unfold f_X10_readsClause
      refine ok_call (w_here T' M) ?_
      dsimp only
      refine ok_ite (fun _ => h) (fun z1 => ok_ite (fun _ => h) (fun z2 => ok_ite (fun _ => h) (fun z3 => ?_)))
      exfalso
      rcases hk with e | e | e
      · exact z1 (by rw [e]; rfl)
      · exact z2 (by rw [e]; rfl)
      · exact z3 (by rw [e]; rfl)
    refine xk _ ?_
    unfold f_X5_readClause_B29
    have e61 : t 61 0 (4 : Int32).toNatClampNeg = nI Ks.length := HM.1.2.2.2.1
    by_cases h12 : Ks.length = 12
    · refine ok_neg (by rw [L_12, nI_ltI (by omega) (by omega)]; omega) (x_refuse X 2 (fun s' hs => Or.inl ⟨rfl, 2, i, hs.c HX.1, rk _ ?_⟩))
      unfold f_X10_readsClause_B29
      refine ok_chk rfl (ok_pos (by rw [e61, h12]; rfl) (w_wrong M 2 (fun t' ht => ⟨rfl, ht.c r1⟩)))
    · have hK2 : Ks.length < 12 := by omega
      refine ok_pos (by rw [L_12, nI_ltI (by omega) (by omega)]; omega) (ok_S (ok_S ?_))
      have X1 := (X.adv hi).up5 (j := 6) (x := 0) (Or.inr (Or.inr rfl))
      have M1 := (M.adv hi).num (j := 40) (Or.inr (Or.inr rfl)) 0
      have r29 : ∀ Q : Int32 × Sg → Prop, Ok (if nI (cA g n i) = 88 then f_X10_readsClause_B76 (nI (cA g n i)) (up3 (up3 t 10 0 37 (t 10 0 37 + 1)) 10 0 40 0) else Option.bind (f_X10_reads (up3 (up3 t 10 0 37 (t 10 0 37 + 1)) 10 0 40 0)) fun q6 => if q6.1 = 0 then some (0, q6.2) else f_X10_readsClause_B76 (nI (cA g n i)) q6.2) Q → Ok (f_X10_readsClause t) Q := by
        intro Q h
        refine rk _ ?_
        unfold f_X10_readsClause_B29
        exact ok_chk rfl (ok_neg (by rw [e61, L_12, nI_eq (by omega) (by omega)]; exact h12) (ok_S (ok_S h)))
      by_cases hX : cA g n i = 88
      · have e88 : nI (cA g n i) = 88 := by rw [hX]; rfl
        refine ok_pos e88 ?_
        refine Ok.mono (s_72 TX' T' ho HX HM hK2 hk X1 M1 up_s up_s) ?_
        rintro q (⟨q0, k, p, q1, q2⟩ | ⟨q0, j, y, q1, q2, q3, q4⟩)
        · exact Or.inl ⟨q0, k, p, q1, r29 _ (ok_pos e88 q2)⟩
        · refine Or.inr ⟨q0, hK2, j, y, q1, by omega, q3, ?_⟩
          rcases q4 with ⟨d1, d2⟩ | q4
          · exact Or.inl ⟨d1, r29 _ (ok_pos e88 d2)⟩
          · exact Or.inr (r29 _ (ok_pos e88 q4))
      · have e88 : ¬ nI (cA g n i) = 88 := nIc (b := 88) hX hcc (show 88 < 256 by omega)
        refine ok_neg e88 ?_
        obtain ⟨m, hm⟩ := dg_ex g n (i + 1)
        have hm4 := hm.1
        -- the class's number
        have xn : Ok (f_X5_readNumber 0 (up3 (up3 s 5 0 2 (s 5 0 2 + 1)) 5 0 6 0)) (fun q => (q.1 = 0 ∧ m = 0 ∧ XFl o s q.2 1 (i + 1)) ∨ (q.1 = 1 ∧ 1 ≤ m ∧ XM n o s q.2 (i + 1 + m) (fl Ks) ∧ q.2 5 0 6 = nI (vN g n (i + 1) m))) := by
          unfold f_X5_readNumber f_X5_readNumber_B17 f_X5_readNumber_B18
          refine ok_pos rfl (ok_pos rfl ?_)
          exact x_B33 TX' hm (ng := false) X1 (fun e s' hs => Or.inl ⟨rfl, e, hs⟩) (fun e s' hs k6 _ _ => Or.inr ⟨rfl, e, hs, k6⟩)
        refine ok_bind xn ?_
        rintro ⟨w, s1⟩ hw
        dsimp only at hw ⊢
        rcases hw with ⟨w0, w1, w2⟩ | ⟨w0, w1, X2, w6⟩
        · refine ok_pos w0 (ok_some (Or.inl ⟨rfl, 1, i + 1, w2.c HX.1, r29 _ (ok_neg e88 (ok_bind (w_reads T' hm M1 (P := fun q => q.1 = 0 ∧ RFl t q.2 1 (i + 1)) (fun _ t' ht => ⟨rfl, ht⟩) (fun e => by omega) (fun e => by omega)) ?_))⟩))
          rintro ⟨r, t'⟩ ⟨z0, z1⟩
          exact ok_pos z0 (ok_some ⟨rfl, z1.c r1⟩)
        · refine ok_neg (ne1 w0) ?_
          by_cases hd : dig g n (i + 1 + m)
          · -- a fifth digit
            have e4 : m = 4 := hm.2.2.resolve_right (fun y => y hd)
            have rf : Ok (f_X10_readsClause t) (fun r => r.1 = 0 ∧ RFc t0 r.2 1 (i + 1 + m)) := by
              refine r29 _ (ok_neg e88 (ok_bind (w_reads T' hm M1 (P := fun q => q.1 = 0 ∧ RFl t q.2 1 (i + 1 + m)) (fun e => by omega) (fun _ _ t' ht => ⟨rfl, by rw [e4]; exact ht⟩) (fun _ y => absurd hd y)) ?_))
              rintro ⟨r, t'⟩ ⟨z0, z1⟩
              exact ok_pos z0 (ok_some ⟨rfl, z1.c r1⟩)
            unfold f_X5_readClause_B72
            refine ok_I (ok_ite (fun z => ?_) (fun z => ?_))
            · have hXM : XM n o s s1 (i + 1 + m) (fl Ks ++ []) := by rw [List.append_nil]; exact X2
              refine Ok.mono (x_102 (k := cA g n i) (x := s1 5 0 6) ho HX hXM hK2) ?_
              rintro q ⟨q1, q2⟩
              refine Or.inr ⟨q1, hK2, i + 1 + m, _, q2, by omega, ⟨fun y => ?_, Or.inr (Or.inr z), by show 0 ≤ 200; omega⟩, Or.inl ⟨hd, rf⟩⟩
              have y' : nI (cA g n i) = 87 ∨ nI (cA g n i) = 88 := y
              rw [z] at y'
              exact absurd y' (by decide)
            · refine ok_bind (x_take TX' X2 (c := 58) (by omega) (by omega) (P := fun q => q.1 = 0 ∧ XFl o s q.2 1 (i + 1 + m)) (fun _ s' hs => ⟨rfl, hs⟩) (fun e => absurd e (dig_no hd (by omega)))) ?_
              rintro ⟨r, s2⟩ ⟨z0, z1⟩
              exact ok_pos z0 (ok_some (Or.inl ⟨rfl, 1, i + 1 + m, z1.c HX.1, rf⟩))
          · -- a number of its own
            have rn : ∀ Q : Int32 × Sg → Prop, (∀ t', RMw n t t' (i + 1 + m) (fl Ks) → t' 10 0 40 = nI (vN g n (i + 1) m) → Ok (f_X10_readsClause_B76 (nI (cA g n i)) t') Q) → Ok (f_X10_readsClause t) Q := by
              intro Q h
              refine r29 _ (ok_neg e88 (ok_bind (w_reads T' hm M1 (P := fun q => q.1 = 1 ∧ RMw n t q.2 (i + 1 + m) (fl Ks) ∧ q.2 10 0 40 = nI (vN g n (i + 1) m)) (fun e => by omega) (fun e y => absurd (show dig g n (i + 1 + m) by rw [e]; exact y) hd) (fun _ _ t' ht hv => ⟨rfl, ht, hv⟩)) ?_))
              rintro ⟨r, t'⟩ ⟨z0, z1, z2⟩
              exact ok_neg (ne1 z0) (h t' z1 z2)
            -- the state in which the reference goes on
            have ex : ∃ t', f_X10_reads (up3 (up3 t 10 0 37 (t 10 0 37 + 1)) 10 0 40 0) = some (1, t') ∧ RMw n t t' (i + 1 + m) (fl Ks) ∧ t' 10 0 40 = nI (vN g n (i + 1) m) := by
              obtain ⟨q, q1, q2, q3, q4⟩ := w_reads T' hm M1 (P := fun q => q.1 = 1 ∧ RMw n t q.2 (i + 1 + m) (fl Ks) ∧ q.2 10 0 40 = nI (vN g n (i + 1) m)) (fun e => by omega) (fun e y => absurd (show dig g n (i + 1 + m) by rw [e]; exact y) hd) (fun _ _ t' ht hv => ⟨rfl, ht, hv⟩)
              obtain ⟨q, t'⟩ := q
              dsimp only at q2 q3 q4
              subst q2
              exact ⟨t', q1, q3, q4⟩
            obtain ⟨t', y1, y2, y3⟩ := ex
            have rg : ∀ Q : Int32 × Sg → Prop, Ok (f_X10_readsClause_B76 (nI (cA g n i)) t') Q → Ok (f_X10_readsClause t) Q := fun Q h => r29 _ (ok_neg e88 (ok_call y1 (ok_neg n10 h)))
            refine Ok.mono (s_72 TX' T' ho HX HM hK2 hk X2 y2 w6 y3) ?_
            rintro q (⟨q0, k, p, q1, q2⟩ | ⟨q0, j, y, q1, q2, q3, q4⟩)
            · exact Or.inl ⟨q0, k, p, q1, rg _ q2⟩
            · refine Or.inr ⟨q0, hK2, j, y, q1, by omega, q3, ?_⟩
              rcases q4 with ⟨d1, d2⟩ | q4
              · exact Or.inl ⟨d1, rg _ d2⟩
              · exact Or.inr (rg _ q4)
  · have k1 : ¬ cA g n i = 87 := fun e => hk (Or.inl e)
    have k2 : ¬ cA g n i = 88 := fun e => hk (Or.inr (Or.inl e))
    have k3 : ¬ cA g n i = 80 := fun e => hk (Or.inr (Or.inr e))
    unfold f_X5_readClause
    refine ok_call (x_sign TX' X) ?_
    refine ok_neg (fun z => k1 ((sg_c TX' (by omega) (by omega)).mp z)) (ok_neg (fun z => k2 ((sg_c TX' (by omega) (by omega)).mp z)) (ok_neg (fun z => k3 ((sg_c TX' (by omega) (by omega)).mp z)) ?_))
    refine x_refuse X 1 (fun s' hs => Or.inl ⟨rfl, 1, i, hs.c HX.1, ?_⟩)
    unfold f_X10_readsClause
    refine ok_call (w_here T' M) ?_
    exact ok_neg (nIc (b := 87) k1 hcc (show 87 < 256 by omega)) (ok_neg (nIc (b := 88) k2 hcc (show 88 < 256 by omega)) (ok_neg (nIc (b := 80) k3 hcc (show 80 < 256 by omega)) (w_wrong M 1 (fun t' ht => ⟨rfl, ht.c r1⟩))))
/-- what a text gives -/
def TxG (n o : Nat) (s0 t0 : Sg) (fM : Option (Int32 × Sg)) (q : Int32 × Sg) : Prop := (q.1 = 0 ∧ ∃ k p, XFc o s0 q.2 k p ∧ Ok fM (fun r => r.1 = 0 ∧ RFc t0 r.2 k p)) ∨ (q.1 = 1 ∧ ∃ j Ks, XC n o s0 q.2 j Ks ∧ Ks.length ≤ 12 ∧ (∀ y ∈ Ks, clok y) ∧ Ok fM (fun r => r.1 = 1 ∧ RCb t0 r.2 Ks))
theorem RCb.adv {t : Sg} {Ks : List Cl} {x : Int32} (H : RCb t0 t Ks) : RCb t0 (up3 t 10 0 37 x) Ks := by
  obtain ⟨r1, r2, r3, r4, r5, r6, r7⟩ := H
  refine ⟨⟨r1.1.up (by decide), fun j hj => ?_, fun j hj => ?_, fun j hj => ?_, fun j hj => ?_⟩, ?_, ?_, ?_, ?_, CMk_lo (fun j _ => by simp only [up_k (show ¬ (68 : Nat) = 10 by decide), up_k (show ¬ (69 : Nat) = 10 by decide), up_k (show ¬ (70 : Nat) = 10 by decide), up_k (show ¬ (71 : Nat) = 10 by decide), and_self]) r6, MRr_lo (fun j _ => by simp only [up_k (show ¬ (64 : Nat) = 10 by decide), up_k (show ¬ (65 : Nat) = 10 by decide), up_k (show ¬ (66 : Nat) = 10 by decide), up_k (show ¬ (67 : Nat) = 10 by decide), and_self]) r7⟩
  · rw [up_j (fun e => hj (by rw [e]; decide))]; exact r1.2.1 j hj
  · simp only [up_k (show ¬ (68 : Nat) = 10 by decide), up_k (show ¬ (69 : Nat) = 10 by decide), up_k (show ¬ (70 : Nat) = 10 by decide), up_k (show ¬ (71 : Nat) = 10 by decide)]; exact r1.2.2.1 j hj
  · simp only [up_k (show ¬ (64 : Nat) = 10 by decide), up_k (show ¬ (65 : Nat) = 10 by decide), up_k (show ¬ (66 : Nat) = 10 by decide), up_k (show ¬ (67 : Nat) = 10 by decide)]; exact r1.2.2.2.1 j hj
  · simp only [up_k (show ¬ (61 : Nat) = 10 by decide), up_k (show ¬ (63 : Nat) = 10 by decide)]; exact r1.2.2.2.2 j hj
  · rw [up_j (by decide), up_j (by decide)]; exact r2
  · rw [up_k (by decide)]; exact r3
  · rw [up_k (by decide)]; exact r4
  · rw [up_k (by decide)]; exact r5
theorem XC.adv {s : Sg} {i : Nat} {Ks : List Cl} (H : XC n o s0 s i Ks) {s' : Sg} (h : XM n o s s' (i + 1) (fl Ks)) : XC n o s0 s' (i + 1) Ks := by
  obtain ⟨h1, h2, h3, h4, h5, h6, h7, h8, h9, h10, h11, h12, h13⟩ := H
  obtain ⟨a1, a2, a3, a4, a5, a6, a7, a8, a9, a10⟩ := h
  refine ⟨a1.g h1, a2, a3, a4, a5, a6, a7, ?_, ?_, a8, XRr_lo (fun j _ => ?_) h11, a9, a10⟩
  · rw [a1.2.2 0 (by decide)]; exact h8
  · rw [a1.2.2 1 (by decide)]; exact h9
  · rw [a1.1 18 (by decide), a1.1 19 (by decide), a1.1 20 (by decide)]; exact ⟨rfl, rfl, rfl⟩
theorem s_text (TX : TXX s0 g n) (T : TXM t0 g n) (ho : o < 5) : ∀ (e : Nat) (i : Nat) (Ks : List Cl) (s t : Sg) (f1 f2 : Nat), Ks.length + e = 13 → e < f1 → e < f2 → XC n o s0 s i Ks → RC n t0 t i Ks → (∀ y ∈ Ks, clok y) → Ks.length ≤ 12 → Ok (f_X5_read_L59 f1 1 (nI Ks.length) s) (TxG n o s0 t0 (f_X10_readsText_L39 f2 1 t)) := by
  have hn := T.1
  intro e
  induction e with
  | zero => intro i Ks s t f1 f2 h1 h2 h3 HX HM hc hK; omega
  | succ e ih =>
    intro i Ks s t f1 f2 h1 h2 h3 HX HM hc hK
    obtain ⟨f1, rfl⟩ : ∃ m, f1 = m + 1 := ⟨f1 - 1, by omega⟩
    obtain ⟨f2, rfl⟩ : ∃ m, f2 = m + 1 := ⟨f2 - 1, by omega⟩
    show Ok (f_X5_read_B59 _ _ _ _) _
    unfold f_X5_read_B59
    refine ok_neg (by rw [L_12, nI_ltI (by omega) (by omega)]; omega) (ok_neg n10 (ok_bind (s_clause TX T ho HX HM hK) ?_))
    rintro ⟨w, s1⟩ hw
    dsimp only at hw ⊢
    have r39 : ∀ Q : Int32 × Sg → Prop, Ok (Option.bind (f_X10_readsClause t) fun q1 => if q1.1 = 0 then some (0, q1.2) else if (q1.2 10 0 38) ≤ (q1.2 10 0 37) then f_X10_readsText_B68 (f_X10_readsText_L39 f2) 0 q1.2 else f_X10_readsText_B68 (f_X10_readsText_L39 f2) 1 q1.2) Q → Ok (f_X10_readsText_L39 (f2 + 1) 1 t) Q := by
      intro Q h
      show Ok (f_X10_readsText_B39 _ _ _) _
      unfold f_X10_readsText_B39
      exact ok_neg n10 h
    have rfail : ∀ k p, Ok (f_X10_readsClause t) (fun r => r.1 = 0 ∧ RFc t0 r.2 k p) → Ok (f_X10_readsText_L39 (f2 + 1) 1 t) (fun r => r.1 = 0 ∧ RFc t0 r.2 k p) := by
      intro k p h
      refine r39 _ (ok_bind h ?_)
      rintro ⟨r, t'⟩ ⟨z0, z1⟩
      exact ok_pos z0 (ok_some ⟨rfl, z1⟩)
    rcases hw with ⟨w0, k, p, w1, w2⟩ | ⟨w0, hK2, j, y, X1, a1, a2, a3⟩
    · exact ok_pos w0 (ok_some (Or.inl ⟨rfl, k, p, w1, rfail k p w2⟩))
    · refine ok_neg (ne1 w0) ?_
      have hj := X1.2.2.2.2.2.2.2.2.2.2.2.2
      have TX1 : TXX s1 g n := ⟨hn, by rw [X1.1.1 35 (by decide)]; exact TX.2⟩
      have hlen : (Ks ++ [y]).length = Ks.length + 1 := List.length_append
      have hcl : ∀ z ∈ Ks ++ [y], clok z := by
        intro z hz
        rcases List.mem_append.mp hz with q | q
        · exact hc z q
        · rw [List.mem_singleton.mp q]; exact a2
      refine ok_call (x_sign TX1 X1.m) ?_
      dsimp only
      by_cases hend : j < n
      · -- more is to come
        have hsg : ¬ sgI g n j = -1 := by
          unfold sgI
          rw [if_pos hend]
          exact nIm1 (by have := (TX.2 j hend).1; omega)
        refine ok_neg hsg ?_
        unfold f_X5_read_B95
        refine ok_neg n10 ?_
        refine ok_bind (x_take TX1 X1.m (c := 59) (by omega) (by omega) (P := fun q => (q.1 = 0 ∧ ¬ cA g n j = 59 ∧ XFl o s1 q.2 1 j) ∨ (q.1 = 1 ∧ cA g n j = 59 ∧ XM n o s1 q.2 (j + 1) (fl (Ks ++ [y])))) (fun e s' hs => Or.inl ⟨rfl, e, hs⟩) (fun e s' hs _ => Or.inr ⟨rfl, e, hs⟩)) ?_
        rintro ⟨w', s2⟩ hw'
        dsimp only at hw' ⊢
        rcases hw' with ⟨y0, y1, y2⟩ | ⟨y0, e59, X2⟩
        · refine ok_pos y0 (ok_some (Or.inl ⟨rfl, 1, j, y2.c X1.1, ?_⟩))
          rcases a3 with ⟨d1, d2⟩ | a3
          · exact rfail 1 j d2
          · refine r39 _ (ok_bind a3 ?_)
            rintro ⟨r, t'⟩ ⟨z0, z1⟩
            dsimp only at z0 z1 ⊢
            have T1 : TXM t' g n := ⟨hn, by rw [z1.1.1.1 60 (by decide)]; exact T.2⟩
            refine ok_neg (ne1 z0) (ok_neg (by rw [z1.2.1, z1.2.2.1]; exact nI_ge hend (by omega)) ?_)
            unfold f_X10_readsText_B68
            refine ok_neg n10 (ok_call (w_here T1 z1.w) (ok_neg (nIc (b := 59) y1 (cA_lt T1) (show 59 < 256 by omega)) (w_wrong z1.w 1 (fun t2 ht => ⟨rfl, ht.c z1.1.1⟩))))
        · refine ok_neg (ne1 y0) ?_
          rcases a3 with ⟨d1, d2⟩ | a3
          · exact absurd e59 (dig_no d1 (by omega))
          · -- both go on
            obtain ⟨⟨r, t'⟩, q1, z0, z1⟩ := a3
            dsimp only at z0 z1
            have T1 : TXM t' g n := ⟨hn, by rw [z1.1.1.1 60 (by decide)]; exact T.2⟩
            have HM2 : RC n t0 (up3 t' 10 0 37 (t' 10 0 37 + 1)) (j + 1) (Ks ++ [y]) := by
              refine ⟨z1.1.adv, ?_, ?_, ?_, by omega⟩
              · rw [up_s, z1.2.1, nI_1]
              · rw [up_j (by decide)]; exact z1.2.2.1
              · have := z1.2.2.2.1; omega
            have rgo : ∀ Q : Int32 × Sg → Prop, Ok (f_X10_readsText_L39 f2 1 (up3 t' 10 0 37 (t' 10 0 37 + 1))) Q → Ok (f_X10_readsText_L39 (f2 + 1) 1 t) Q := by
              intro Q h
              refine r39 _ (ok_call q1 ?_)
              dsimp only
              refine ok_neg (ne1 z0) (ok_neg (by rw [z1.2.1, z1.2.2.1]; exact nI_ge hend (by omega)) ?_)
              unfold f_X10_readsText_B68
              refine ok_neg n10 (ok_call (w_here T1 z1.w) (ok_pos (by dsimp only; rw [e59]; rfl) ?_))
              unfold f_X10_readsText_B88
              exact ok_S h
            have nxt := ih (j + 1) (Ks ++ [y]) s2 _ f1 f2 (by omega) (by omega) (by omega) (X1.adv X2) HM2 hcl (by omega)
            rw [hlen, ← nI_1] at nxt
            refine Ok.mono nxt ?_
            rintro q (⟨v0, k, p, v1, v2⟩ | ⟨v0, j', Ks', v1, v2, v3, v4⟩)
            · exact Or.inl ⟨v0, k, p, v1, rgo _ v2⟩
            · exact Or.inr ⟨v0, j', Ks', v1, v2, v3, rgo _ v4⟩
      · -- the end
        have hsg : sgI g n j = -1 := by unfold sgI; rw [if_neg hend]
        refine ok_pos hsg ?_
        unfold f_X5_read_B95
        refine ok_pos rfl ?_
        obtain ⟨f1, rfl⟩ : ∃ m, f1 = m + 1 := ⟨f1 - 1, by omega⟩
        have stop : Ok (f_X5_read_L59 (f1 + 1) 0 (nI Ks.length + 1) s1) (fun q => q = (1, s1)) := by
          show Ok (f_X5_read_B59 _ _ _ _) _
          unfold f_X5_read_B59
          exact ok_ite (fun _ => ok_some rfl) (fun _ => ok_pos rfl (ok_some rfl))
        refine Ok.mono stop ?_
        rintro q rfl
        refine Or.inr ⟨rfl, j, Ks ++ [y], X1, by omega, hcl, ?_⟩
        rcases a3 with ⟨d1, d2⟩ | a3
        · exact absurd (dig_lt d1) hend
        · refine r39 _ (ok_bind a3 ?_)
          rintro ⟨r, t'⟩ ⟨z0, z1⟩
          dsimp only at z0 z1 ⊢
          refine ok_neg (ne1 z0) (ok_pos (by rw [z1.2.1, z1.2.2.1]; exact nI_le (by omega) (by omega)) ?_)
          unfold f_X10_readsText_B68 f_X10_readsText_B88
          refine ok_pos rfl (ok_S ?_)
          obtain ⟨f2, rfl⟩ : ∃ m, f2 = m + 1 := ⟨f2 - 1, by omega⟩
          show Ok (f_X10_readsText_B39 _ _ _) _
          unfold f_X10_readsText_B39
          exact ok_pos rfl (ok_some ⟨rfl, z1.1.adv⟩)
end TEXT
