/-! the calls that only ask -/
theorem bI_t : bI true = 1 := rfl
theorem bI_f : bI false = 0 := rfl
theorem n10 : ¬ (1 : Int32) = 0 := by decide
section QRY
variable {s : Sg} {c : Cf}
theorem RelC.nvX (R : RelC s c) : s 0 0 2 = nI (nv c) ∧ nv c ≤ 10 := ⟨R.cx.2.1, R.cx.1.1⟩
theorem RelC.nvM (R : RelC s c) : s 10 0 1 = nI (nv c) := R.cm.2.1
theorem q_fault (R : Rel s) (a : Int32) : Bo (f_X9_fault a) (f_X10_fault a) s := by
  obtain ⟨c, np, n, nm, K, o, B, hc, R7, R8, R9, hP⟩ := id R
  refine bo_eq (r := if a = 0 then s 5 0 7 else if a = 1 then s 5 0 8 else -1) R ?_ ?_
  · unfold f_X9_fault
    by_cases h : a = 0
    · rw [if_pos h, if_pos h]
    · rw [if_neg h, if_neg h]
      by_cases h1 : a = 1
      · rw [if_pos h1, if_pos h1]
      · rw [if_neg h1, if_neg h1]
  · unfold f_X10_fault
    rw [R9.1, R9.2]
    by_cases h : a = 0
    · rw [if_pos h, if_pos h]
    · rw [if_neg h, if_neg h]
      by_cases h1 : a = 1
      · rw [if_pos h1, if_pos h1]
      · rw [if_neg h1, if_neg h1]
theorem q_due (R : Rel s) (a1 a2 a3 : Int32) : Bo (f_X9_due a1 a2 a3) (f_X10_due a1 a2 a3) s := by
  obtain ⟨c, RC⟩ := id R
  have HX := RC.cx
  have HM := RC.cm
  obtain ⟨n1, n2⟩ := RC.nvX
  rcases ix_cases a1 (n := nv c) (by omega) with h | ⟨v, hv, rfl⟩
  · refine bo_eq (r := -1) R ?_ ?_
    · unfold f_X9_due; rw [hvX_no n1 h]; rfl
    · unfold f_X10_due; rw [hvM_no RC.nvM h]; rfl
  · have hlg := (HX.1.2.1 v hv).1
    have e52 := (HM.2.2.1 v hv).1.1
    have g10 := gi_nI (j := v) (n := 10) (by omega) (by decide)
    have cv : (nI v).toNatClampNeg = v := nI_clamp (by omega)
    rcases ix_cases a2 (n := lg c v + 1) (by omega) with h | ⟨i, hi, rfl⟩
    · obtain ⟨x1, x2, -⟩ := ct_no HX hv h
      have hB : f_X9_due_B45 a2 a3 v s = some (-1, s) := by
        unfold f_X9_due_B45
        rw [x2]
        by_cases z : a3 = 1
        · rw [if_pos z]; rfl
        · rw [if_neg z]
      refine bo_eq (r := -1) R ?_ ?_
      · unfold f_X9_due
        rw [hvX_yes n1 hv n2]
        show chk _ _ = _
        rw [chk, if_pos g10, cv]
        by_cases z : a3 = 0
        · rw [if_pos z]
          show Option.bind (f_X8_comesTo v a2 s) _ = _
          rw [x1]
          exact hB
        · rw [if_neg z]
          exact hB
      · unfold f_X10_due
        rw [hvM_yes RC.nvM hv n2]
        show (if a2 < 0 then _ else _) = _
        by_cases z : a2 < 0
        · rw [if_pos z]
        · rw [if_neg z, chk, if_pos g10, cv]
          have h2 := h.resolve_left z
          obtain ⟨j, j1, rfl⟩ := nI_of z
          rw [nI_leI (by omega) (by omega)] at h2
          show (if nI j ≤ s 52 0 v then _ else _) = _
          rw [e52, if_neg (nI_ge (by omega) (by omega))]
    · have ci : (nI i).toNatClampNeg = i := nI_clamp (by omega)
      have g7 := gi_nI (j := i) (n := 7) (by omega) (by decide)
      have x1 := e_ctX HX hv (show i ≤ 7 by omega)
      have x2 := e_lvX HX hv (show i ≤ 7 by omega)
      have x43 := ((HX.2.2.1 v hv).2.2 i (by omega)).2
      have hB : f_X9_due_B45 (nI i) a3 v s = some (if a3 = 1 ∧ i < lg c v then dL c v i else -1, s) := by
        unfold f_X9_due_B45
        rw [x2]
        by_cases z : a3 = 1
        · rw [if_pos z]
          by_cases g : i < lg c v
          · rw [if_pos ⟨z, g⟩, decide_eq_true g]
            show (if (1 : Int32) = 0 then some (-1, s) else chk (gi (nI i) 7) (some (s 43 v (nI i).toNatClampNeg, s))) = _
            rw [if_neg n10, chk, if_pos g7, ci, x43]
          · rw [if_neg (fun q => g q.2), decide_eq_false g]
            rfl
        · rw [if_neg z, if_neg (fun q => z q.1)]
      refine bo_eq (r := if a3 = 0 then (if i = 0 then -1 else dC c v i) else if a3 = 1 ∧ i < lg c v then dL c v i else -1) R ?_ ?_
      · unfold f_X9_due
        rw [hvX_yes n1 hv n2]
        show chk _ _ = _
        rw [chk, if_pos g10, cv]
        by_cases z : a3 = 0
        · rw [if_pos z, if_pos z]
          show Option.bind (f_X8_comesTo v (nI i) s) _ = _
          rw [x1]
          by_cases g : i = 0
          · rw [if_pos g, decide_eq_false (by omega)]
            show f_X9_due_B45 (nI i) a3 v s = _
            rw [hB, if_neg (fun q => by rw [z] at q; exact absurd q.1 (by decide))]
          · rw [if_neg g, decide_eq_true (by omega)]
            have := ((HX.2.2.1 v hv).2.1 (i - 1) (by omega)).2.2.2.2.1
            rw [show i - 1 + 1 = i by omega] at this
            show (if (1 : Int32) = 0 then f_X9_due_B45 (nI i) a3 v s else chk (gi (nI i) 7) (some (s 42 v (nI i).toNatClampNeg, s))) = _
            rw [if_neg n10, chk, if_pos g7, ci, this]
        · rw [if_neg z, if_neg z]
          exact hB
      · unfold f_X10_due
        rw [hvM_yes RC.nvM hv n2]
        show (if nI i < 0 then _ else _) = _
        rw [if_neg (nI_pos (by omega)), chk, if_pos g10, cv]
        show (if nI i ≤ s 52 0 v then _ else _) = _
        rw [e52, if_pos (nI_le (by omega) (by omega))]
        by_cases z : a3 = 0
        · rw [if_pos z, if_pos z]
          by_cases g : i = 0
          · rw [if_pos g, if_pos (by rw [g]; rfl)]
          · rw [if_neg g, if_neg (by rw [← nI_0, nI_eq (by omega) (by omega)]; exact g)]
            have := e_dC HM hv (show i - 1 < lg c v by omega)
            rw [show i - 1 + 1 = i by omega] at this
            show Option.bind (f_X10_dueCome (nI v) (nI i) s) _ = _
            rw [this]
            rfl
        · rw [if_neg z, if_neg z]
          by_cases z1 : a3 = 1
          · rw [if_pos z1, chk, if_pos g10]
            show (if s 52 0 v ≤ nI i then _ else _) = _
            rw [e52]
            by_cases g : i < lg c v
            · rw [if_pos (show a3 = 1 ∧ i < lg c v from ⟨z1, g⟩), if_neg (nI_ge g (by omega))]
              show Option.bind (f_X10_dueLeave (nI v) (nI i) s) _ = _
              rw [e_dL HM hv (by omega)]
              rfl
            · rw [if_neg (show ¬ (a3 = 1 ∧ i < lg c v) from fun q => g q.2), if_pos (nI_le (by omega) (by omega))]
          · rw [if_neg z1, if_neg (fun q => z1 q.1)]
/-- IN TRUTH -/
def aTr (c : Cf) (v i : Nat) (x : Int32) : Int32 := if x = 0 then Tr c 1 v i else if x = 1 then Tr c 2 v i else if x = 2 then (if Tr c 2 v i = -1 then -1 else Tr c 3 v i) else if x = 3 then (if Tr c 1 v i = -1 then -1 else if 0 < Tr c 1 v i - dC c v i then Tr c 1 v i - dC c v i else 0) else -1
theorem tr_c (H : Cok c) {v i : Nat} (hv : v < nv c) (h : ¬ Tr c 1 v i = -1) : ∃ t, Tr c 1 v i = nI t ∧ t ≤ 20001 ∧ 1 ≤ i ∧ i ≤ pl (Tr c) v ∧ pl (Tr c) v ≤ lg c v := by
  have Y := YA_run H 20001 (Nat.le_refl _) v hv
  rcases (Y.2.2.2.2.2.1 i).1 with e | ⟨t, e, t1, t2, t3⟩
  · exact absurd e h
  · exact ⟨t, e, t1, t2, t3, Y.2.1⟩
theorem late_eq {t d : Nat} (ht : t ≤ 1000000) (hd : d ≤ 1000000) : (if 0 < nI t - nI d then nI t - nI d else 0) = (if nI t ≤ nI d then 0 else nI t - nI d) := by
  by_cases h : t ≤ d
  · rw [if_pos (nI_le h (by omega)), if_neg]
    intro q
    rw [Int32.lt_iff_toInt_lt, pk_sub_toInt (by omega) (by omega), show (0 : Int32).toInt = 0 from rfl] at q
    omega
  · rw [if_neg (nI_ge (by omega) (by omega)), if_pos]
    rw [Int32.lt_iff_toInt_lt, pk_sub_toInt (by omega) (by omega), show (0 : Int32).toInt = 0 from rfl]
    omega
theorem q_truth (R : Rel s) (a1 a2 a3 : Int32) : Bo (f_X9_truth a1 a2 a3) (f_X10_truth a1 a2 a3) s := by
  obtain ⟨c, RC⟩ := id R
  have HX := RC.cx
  have HM := RC.cm
  obtain ⟨n1, n2⟩ := RC.nvX
  rcases ix_cases a1 (n := nv c) (by omega) with h | ⟨v, hv, rfl⟩
  · refine bo_eq (r := -1) R ?_ ?_
    · unfold f_X9_truth; rw [hvX_no n1 h]; rfl
    · unfold f_X10_truth; rw [hvM_no RC.nvM h]; rfl
  · have hlg := (HX.1.2.1 v hv).1
    have e52 := (HM.2.2.1 v hv).1.1
    have g10 := gi_nI (j := v) (n := 10) (by omega) (by decide)
    have cv : (nI v).toNatClampNeg = v := nI_clamp (by omega)
    rcases ix_cases a2 (n := lg c v + 1) (by omega) with h | ⟨i, hi, rfl⟩
    · obtain ⟨-, -, x1⟩ := ct_no HX hv h
      refine bo_eq (r := -1) R ?_ ?_
      · unfold f_X9_truth
        rw [hvX_yes n1 hv n2]
        show chk _ _ = _
        rw [chk, if_pos g10, cv]
        show Option.bind (f_X8_hasPlace v a2 s) _ = _
        rw [x1]
        rfl
      · unfold f_X10_truth
        rw [hvM_yes RC.nvM hv n2]
        show (if a2 < 0 then _ else _) = _
        by_cases z : a2 < 0
        · rw [if_pos z]
        · rw [if_neg z, chk, if_pos g10, cv]
          have h2 := h.resolve_left z
          obtain ⟨j, j1, rfl⟩ := nI_of z
          rw [nI_leI (by omega) (by omega)] at h2
          show (if nI j ≤ s 52 0 v then _ else _) = _
          rw [e52, if_neg (nI_ge (by omega) (by omega))]
    · have ci : (nI i).toNatClampNeg = i := nI_clamp (by omega)
      have hd : ∀ t, Tr c 1 v i = nI t → t ≤ 20001 → 1 ≤ i → ∃ d, d ≤ 1000000 ∧ dC c v i = nI d := by
        intro t _ _ h1
        obtain ⟨y, y1, y2⟩ := cok_dC HX.1 hv (show i - 1 < lg c v by omega)
        rw [show i - 1 + 1 = i by omega] at y2
        exact ⟨y, by omega, y2⟩
      refine bo_ans (c := c) (aTr c v i a3) ?_ ?_
      · unfold f_X9_truth
        refine ok_call (hvX_yes n1 hv n2) (ok_neg n10 (ok_gi v rfl (by omega) ?_))
        dsimp only
        rw [cv]
        refine ok_call (hp_yes HX hv (by omega)) (ok_neg n10 (ok_bind (x_upd RC) ?_))
        rintro s' ⟨R', X'⟩
        obtain ⟨y1, y2, y3⟩ := (X' v hv).1 i (by omega)
        refine ok_gi v rfl (by omega) ?_
        unfold aTr
        rw [ci, y1, y2]
        refine ok_ite (fun z => ?_) (fun z => ?_)
        · rw [if_pos z]; exact ok_gi i rfl (by omega) (ok_some ⟨rfl, R'⟩)
        · rw [if_neg z]
          refine ok_ite (fun z => ?_) (fun z => ?_)
          · rw [if_pos z]; exact ok_gi i rfl (by omega) (ok_some ⟨rfl, R'⟩)
          · rw [if_neg z]
            refine ok_ite (fun z => ?_) (fun z => ?_)
            · rw [if_pos z]
              refine ok_gi i rfl (by omega) (ok_ite (fun z => ?_) (fun z => ?_))
              · rw [if_pos z]; exact ok_some ⟨rfl, R'⟩
              · rw [if_neg z]; exact ok_gi i rfl (by omega) (ok_some ⟨y3 z, R'⟩)
            · rw [if_neg z]
              refine ok_ite (fun z => ?_) (fun z => ?_)
              · rw [if_pos z]
                refine ok_gi i rfl (by omega) (ok_ite (fun z => ?_) (fun z => ?_))
                · rw [if_pos z]; exact ok_some ⟨rfl, R'⟩
                · rw [if_neg z]
                  obtain ⟨t, t1, t2, t3, -⟩ := tr_c HX.1 hv z
                  have el := e_lateX R'.cx hv (show i - 1 < lg c v by omega) (h := Tr c 1 v i)
                  rw [show i - 1 + 1 = i by omega] at el
                  refine ok_gi v rfl (by omega) (ok_gi i rfl (by omega) (ok_call el ?_))
                  exact ok_some ⟨rfl, R'⟩
              · rw [if_neg z]; exact ok_some ⟨rfl, R'⟩
      · intro s1 RC1
        unfold f_X10_truth
        have e52' := (RC1.cm.2.2.1 v hv).1.1
        refine ok_call (hvM_yes RC1.nvM hv n2) (ok_neg n10 (ok_neg (nI_pos (by omega)) (ok_gi v rfl (by omega) ?_)))
        refine ok_pos (by rw [cv]; dsimp only; rw [e52']; exact nI_le (by omega) (by omega)) (ok_bind (m_runs RC1) ?_)
        rintro s' ⟨R', M'⟩
        obtain ⟨y1, y2, y3, -⟩ := (M' v hv).2.2.2.2 i (by omega)
        refine ok_I ?_
        rw [L_7, pk_mul, nI_add, nI_clamp (show 7 * v + i < 2 ^ 31 by omega)]
        unfold aTr
        rw [y1, y2]
        refine ok_ite (fun z => ?_) (fun z => ?_)
        · rw [if_pos z]; exact ok_gi _ rfl (by omega) (ok_some ⟨rfl, R'⟩)
        · rw [if_neg z]
          refine ok_ite (fun z => ?_) (fun z => ?_)
          · rw [if_pos z]; exact ok_gi _ rfl (by omega) (ok_some ⟨rfl, R'⟩)
          · rw [if_neg z]
            refine ok_ite (fun z => ?_) (fun z => ?_)
            · rw [if_pos z]
              refine ok_gi _ rfl (by omega) (ok_ite (fun z => ?_) (fun z => ?_))
              · rw [if_pos z]; exact ok_some ⟨rfl, R'⟩
              · rw [if_neg z]; exact ok_gi _ rfl (by omega) (ok_some ⟨y3, R'⟩)
            · rw [if_neg z]
              refine ok_ite (fun z => ?_) (fun z => ?_)
              · rw [if_pos z]
                refine ok_gi _ rfl (by omega) (ok_ite (fun z => ?_) (fun z => ?_))
                · rw [if_pos z]; exact ok_some ⟨rfl, R'⟩
                · rw [if_neg z]
                  obtain ⟨t, t1, t2, t3, -⟩ := tr_c HX.1 hv z
                  obtain ⟨d, d1, d2⟩ := hd t t1 t2 t3
                  have el := e_dC R'.cm hv (show i - 1 < lg c v by omega)
                  rw [show i - 1 + 1 = i by omega] at el
                  refine ok_gi _ rfl (by omega) (ok_call el ?_)
                  dsimp only
                  rw [t1, d2, late_eq (by omega) d1]
                  refine ok_ite (fun z => ?_) (fun z => ?_)
                  · rw [if_pos z]; exact ok_some ⟨rfl, R'⟩
                  · rw [if_neg z]
                    refine ok_gi _ rfl (by omega) (ok_call el (ok_some ⟨?_, R'⟩))
                    dsimp only
                    rw [y1, t1, d2]
              · rw [if_neg z]; exact ok_some ⟨rfl, R'⟩
theorem isL_no {x : Int32} (h : x < 0 ∨ nI 4 ≤ x) : f_X9_isLine x s = some (0, s) := by
  unfold f_X9_isLine
  by_cases q : x < 0
  · rw [if_pos q]
  · rw [if_neg q, L_4, if_pos (h.resolve_left q)]
theorem isL_yes {l : Nat} (h : l < 4) : f_X9_isLine (nI l) s = some (1, s) := by
  unfold f_X9_isLine
  rw [if_neg (nI_pos (by omega)), L_4, if_neg (nI_ge h (by omega))]
theorem q_share (R : Rel s) (a1 a2 a3 : Int32) : Bo (f_X9_share a1 a2 a3) (f_X10_share a1 a2 a3) s := by
  obtain ⟨c, RC⟩ := id R
  have HX := RC.cx
  have HM := RC.cm
  obtain ⟨n1, n2⟩ := RC.nvX
  rcases ix_cases a1 (n := nv c) (by omega) with h | ⟨v, hv, rfl⟩
  · refine bo_eq (r := -1) R ?_ ?_
    · unfold f_X9_share; rw [hvX_no n1 h]; rfl
    · unfold f_X10_share; rw [hvM_no RC.nvM h]; rfl
  · have hlg := (HX.1.2.1 v hv).1
    have e52 := (HM.2.2.1 v hv).1.1
    have g10 := gi_nI (j := v) (n := 10) (by omega) (by decide)
    have cv : (nI v).toNatClampNeg = v := nI_clamp (by omega)
    by_cases hp : ∃ i, 1 ≤ i ∧ i ≤ lg c v ∧ a2 = nI i
    · obtain ⟨i, hi1, hi2, rfl⟩ := hp
      have ci : (nI i).toNatClampNeg = i := nI_clamp (by omega)
      have x1 := e_ctX HX hv (show i ≤ 7 by omega)
      rw [decide_eq_true ⟨hi1, hi2⟩, bI_t] at x1
      have i1 : ¬ nI i < 1 := by rw [L_1, nI_ltI (by omega) (by omega)]; omega
      have core : ∀ k : Nat, k < 5 → (k = 0 ∧ a3 = -1 ∨ ∃ l, k = 1 + l ∧ a3 = nI l) → Bo (f_X9_share (nI v) (nI i) a3) (f_X10_share (nI v) (nI i) a3) s := by
        intro k hk ha
        refine bo_ans (c := c) (if Tr c 1 v i = -1 then -1 else Tr c (4 + k) v i) ?_ ?_
        · have hB : Ok (f_X9_share_B41 (nI v) (nI i) a3 s) (fun w => w.1 = (if Tr c 1 v i = -1 then -1 else Tr c (4 + k) v i) ∧ RelC w.2 c) := by
            unfold f_X9_share_B41
            refine ok_bind (x_upd RC) ?_
            rintro s' ⟨R', X'⟩
            obtain ⟨y1, -⟩ := (X' v hv).1 i (by omega)
            refine ok_gi v rfl (by omega) (ok_gi i rfl (by omega) ?_)
            rw [cv, ci, y1]
            refine ok_ite (fun z => ?_) (fun z => ?_)
            · rw [if_pos z]; exact ok_some ⟨rfl, R'⟩
            · rw [if_neg z]
              obtain ⟨t, t1, t2, t3, t4, t5⟩ := tr_c HX.1 hv z
              have y5 := (X' v hv).2 i k hi1 t4 hk
              have sh : ∀ x, x = nI k → Ok (f_X9_share_B93 v (nI i) x s') (fun w => w.1 = Tr c (4 + k) v i ∧ RelC w.2 c) := by
                intro x hx
                subst hx
                unfold f_X9_share_B93 f_X6_shareAt
                have e1 : nI i * 5 + nI k = nI (5 * i + k) := by rw [L_5, pk_mul, nI_add, Nat.mul_comm]
                rw [e1]
                refine ok_bc (gi_nI (by omega) (by decide)) (ok_bs (ok_some ⟨?_, R'⟩))
                dsimp only
                rw [nI_clamp (by omega)]
                exact y5
              rcases ha with ⟨k0, a0⟩ | ⟨l, k1, a0⟩
              · refine ok_pos a0 (sh 0 (by rw [k0]; rfl))
              · refine ok_neg (by rw [a0]; exact nIm1 (by omega)) (sh _ ?_)
                rw [a0, k1, L_1, nI_add]
          unfold f_X9_share
          refine ok_call (hvX_yes n1 hv n2) (ok_neg n10 (ok_gi v rfl (by omega) ?_))
          dsimp only
          rw [cv]
          refine ok_call x1 (ok_neg n10 ?_)
          dsimp only
          rcases ha with ⟨k0, a0⟩ | ⟨l, k1, a0⟩
          · exact ok_pos a0 hB
          · refine ok_neg (by rw [a0]; exact nIm1 (by omega)) ?_
            refine ok_call (by rw [a0]; exact isL_yes (by omega)) (ok_neg n10 hB)
        · intro s1 RC1
          unfold f_X10_share
          have e52' := (RC1.cm.2.2.1 v hv).1.1
          refine ok_call (hvM_yes RC1.nvM hv n2) (ok_neg n10 (ok_neg i1 (ok_gi v rfl (by omega) ?_)))
          refine ok_neg (by rw [cv]; dsimp only; rw [e52']; exact nI_nlt (by omega) (by omega)) ?_
          have a3b : ¬ a3 < -1 ∧ a3 < 4 := by
            rcases ha with ⟨k0, a0⟩ | ⟨l, k1, a0⟩
            · rw [a0]; exact ⟨by decide, by decide⟩
            · rw [a0]
              refine ⟨fun q => ?_, by rw [L_4]; exact nI_lt (by omega) (by omega)⟩
              rw [Int32.lt_iff_toInt_lt, nI_toInt (by omega), show (-1 : Int32).toInt = -1 from rfl] at q
              omega
          refine ok_neg a3b.1 (ok_pos a3b.2 (ok_bind (m_runs RC1) ?_))
          rintro s' ⟨R', M'⟩
          obtain ⟨y1, y2, y3, y4, y5⟩ := (M' v hv).2.2.2.2 i (by omega)
          refine ok_I ?_
          rw [L_7, pk_mul, nI_add, nI_clamp (show 7 * v + i < 2 ^ 31 by omega), y1]
          refine ok_gi _ rfl (by omega) (ok_ite (fun z => ?_) (fun z => ?_))
          · rw [if_pos z]; exact ok_some ⟨rfl, R'⟩
          · rw [if_neg z]
            rcases ha with ⟨k0, a0⟩ | ⟨l, k1, a0⟩
            · refine ok_pos a0 (ok_gi _ rfl (by omega) (ok_some ⟨?_, R'⟩))
              rw [k0]; exact y4
            · refine ok_neg (by rw [a0]; exact nIm1 (by omega)) ?_
              rw [a0, L_4, pk_mul, nI_add]
              refine ok_gi _ rfl (by omega) (ok_some ⟨?_, R'⟩)
              dsimp only
              rw [nI_clamp (by omega), y5 l (by omega), k1, show 4 + (1 + l) = 5 + l by omega]
      by_cases hm : a3 = -1
      · exact core 0 (by omega) (Or.inl ⟨rfl, hm⟩)
      · rcases ix_cases a3 (n := 4) (by omega) with h | ⟨l, hl, e⟩
        · refine bo_eq (r := -1) R ?_ ?_
          · unfold f_X9_share
            rw [hvX_yes n1 hv n2]
            show chk _ _ = _
            rw [chk, if_pos g10, cv]
            show Option.bind (f_X8_comesTo v (nI i) s) _ = _
            rw [x1]
            show (if a3 = -1 then f_X9_share_B41 (nI v) (nI i) a3 s else Option.bind (f_X9_isLine a3 s) (fun q4 => if q4.1 = 0 then some (-1, q4.2) else f_X9_share_B41 (nI v) (nI i) a3 q4.2)) = _
            rw [if_neg hm, isL_no h]
            rfl
          · unfold f_X10_share
            rw [hvM_yes RC.nvM hv n2]
            show (if nI i < 1 then _ else _) = _
            rw [if_neg i1, chk, if_pos g10, cv]
            show (if s 52 0 v < nI i then _ else _) = _
            rw [e52, if_neg (nI_nlt (by omega) (by omega))]
            by_cases z : a3 < -1
            · rw [if_pos z]
            · rw [if_neg z]
              have z2 : ¬ a3 < 4 := by
                rcases h with h | h
                · intro _
                  rw [Int32.lt_iff_toInt_lt] at h z
                  have e1 : (-1 : Int32).toInt = -1 := rfl
                  have e2 : (0 : Int32).toInt = 0 := rfl
                  exact hm (Int32.toInt_inj.mp (by omega))
                · rw [L_4]; exact Int32.not_lt.mpr h
              rw [if_neg z2]
        · exact core (1 + l) (by omega) (Or.inr ⟨l, rfl, e⟩)
    · have x1 : f_X8_comesTo v a2 s = some (0, s) := by
        rcases ix_cases a2 (n := lg c v + 1) (by omega) with h | ⟨i, hi, rfl⟩
        · exact (ct_no HX hv h).1
        · have : i = 0 := by
            rcases Nat.eq_zero_or_pos i with z | z
            · exact z
            · exact absurd ⟨i, z, by omega, rfl⟩ hp
          subst this
          have := e_ctX HX hv (show 0 ≤ 7 by omega)
          rw [decide_eq_false (by omega), bI_f] at this
          exact this
      refine bo_eq (r := -1) R ?_ ?_
      · unfold f_X9_share
        rw [hvX_yes n1 hv n2]
        show chk _ _ = _
        rw [chk, if_pos g10, cv]
        show Option.bind (f_X8_comesTo v a2 s) _ = _
        rw [x1]
        rfl
      · unfold f_X10_share
        rw [hvM_yes RC.nvM hv n2]
        show (if a2 < 1 then _ else _) = _
        by_cases z : a2 < 1
        · rw [if_pos z]
        · rw [if_neg z, chk, if_pos g10, cv]
          show (if s 52 0 v < a2 then _ else _) = _
          rw [e52, if_pos]
          have z0 : ¬ a2 < 0 := by
            rw [Int32.lt_iff_toInt_lt] at z ⊢
            have e1 : (0 : Int32).toInt = 0 := rfl
            have e2 : (1 : Int32).toInt = 1 := rfl
            omega
          obtain ⟨j, j1, rfl⟩ := nI_of z0
          rw [L_1, nI_ltI (by omega) (by omega)] at z
          rw [nI_ltI (by omega) (by omega)]
          rcases Nat.lt_or_ge (lg c v) j with y | y
          · exact y
          · exact absurd ⟨j, by omega, y, rfl⟩ hp
end QRY
