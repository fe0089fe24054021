def f_X5_read_B95 (k59 : Int32 → Int32 → Sg → Option (Int32 × Sg)) (a5 : Int32) (as0 : Int32) (s0 : Sg) : Option (Int32 × Sg) :=
  if as0 = 0 then
  k59 as0 (a5 + (1 : Int32)) s0
  else
  Option.bind (f_X5_take (59 : Int32) s0) fun q1 =>
  if q1.1 = 0 then
  some ((0 : Int32), q1.2)
  else
  k59 as0 (a5 + (1 : Int32)) q1.2
set_option maxRecDepth 4000 in
theorem i_X5_read_B95 (X : Cx) (g : GT) (hF : Fx X g RX5 cX5_read 6 622 18645) (hM : FM X g (some .boolean)) (hI : GI g) (k59 : Int32 → Int32 → Sg → Option (Int32 × Sg)) (hk59 : ∀ (a4 : Int32) (a5 : Int32) (s0 : Sg), Im X g 6 (Qm X g embI) s0 59 [(0, .ref (g.2.1 5 0)), (4, .int a4), (5, .int a5)] [] (k59 a4 a5 s0)) (a5 : Int32) (as0 : Int32) (s0 : Sg) : Im X g 6 (Qm X g embI) s0 95 [(0, .ref (g.2.1 5 0)), (5, .int a5)] [.int as0] (f_X5_read_B95 k59 a5 as0 s0) := by
  unfold f_X5_read_B95
  refine im_istore hF dX5_read_95 (lv' := [(4, .int as0), (0, .ref (g.2.1 5 0)), (5, .int a5)]) (by decide) rfl ?_
  refine im_iload hF dX5_read_97 0 rfl ?_
  refine im_if_eq hF 113 dX5_read_99 (by decide) (fun _ => ?_) (fun _ => ?_)
  · refine im_iinc hF dX5_read_113 (v := (a5 + (1 : Int32))) (lv' := [(5, .int (a5 + (1 : Int32))), (4, .int as0), (0, .ref (g.2.1 5 0))]) 2 rfl rfl (by decide) rfl ?_
    refine im_goto hF 59 dX5_read_116 (by decide) ?_
    refine im_sub (lv' := [(0, .ref (g.2.1 5 0)), (4, .int as0), (5, .int (a5 + (1 : Int32)))]) [2, 1, 0] rfl ?_
    exact hk59 as0 (a5 + (1 : Int32)) s0
  · refine im_aload_n hF dX5_read_102 1 rfl ?_
    refine im_bipush hF dX5_read_103 (v := (59 : Int32)) (by decide) ?_
    refine im_callVI hF (As := [.int (59 : Int32)]) (rest := []) my_X5_take mv_X5_take wl_485 (fun l r hr => c_X5_take l g hI (59 : Int32) s0 r hr) ⟨by decide, by decide⟩ (by decide) (by decide) ⟨_, rfl, rfl⟩ rfl rfl (Nat.le_of_ble_eq_true rfl) dX5_read_105 (fun q1 => ?_)
    refine im_if_ne hF 113 dX5_read_108 (by decide) (fun _ => ?_) (fun _ => ?_)
    · refine im_iconst hF dX5_read_111 (v := (0 : Int32)) (by decide) ?_
      exact im_zret hF hM (by decide) dX5_read_112
    · refine im_iinc hF dX5_read_113 (v := (a5 + (1 : Int32))) (lv' := [(5, .int (a5 + (1 : Int32))), (4, .int as0), (0, .ref (g.2.1 5 0))]) 2 rfl rfl (by decide) rfl ?_
      refine im_goto hF 59 dX5_read_116 (by decide) ?_
      refine im_sub (lv' := [(0, .ref (g.2.1 5 0)), (4, .int as0), (5, .int (a5 + (1 : Int32)))]) [2, 1, 0] rfl ?_
      exact hk59 as0 (a5 + (1 : Int32)) q1.2
def f_X5_read_B59 (k59 : Int32 → Int32 → Sg → Option (Int32 × Sg)) (a4 : Int32) (a5 : Int32) (s0 : Sg) : Option (Int32 × Sg) :=
  if (12 : Int32) < a5 then
  some ((1 : Int32), s0)
  else
  if a4 = 0 then
  some ((1 : Int32), s0)
  else
  Option.bind (f_X5_readClause a5 s0) fun q1 =>
  if q1.1 = 0 then
  some ((0 : Int32), q1.2)
  else
  Option.bind (f_X5_sign q1.2) fun q2 =>
  if q2.1 = (-1 : Int32) then
  (f_X5_read_B95 k59) a5 (0 : Int32) q2.2
  else
  (f_X5_read_B95 k59) a5 (1 : Int32) q2.2
set_option maxRecDepth 4000 in
theorem i_X5_read_B59 (X : Cx) (g : GT) (hF : Fx X g RX5 cX5_read 6 622 18645) (hM : FM X g (some .boolean)) (hI : GI g) (k59 : Int32 → Int32 → Sg → Option (Int32 × Sg)) (hk59 : ∀ (a4 : Int32) (a5 : Int32) (s0 : Sg), Im X g 6 (Qm X g embI) s0 59 [(0, .ref (g.2.1 5 0)), (4, .int a4), (5, .int a5)] [] (k59 a4 a5 s0)) (a4 : Int32) (a5 : Int32) (s0 : Sg) : Im X g 6 (Qm X g embI) s0 59 [(0, .ref (g.2.1 5 0)), (4, .int a4), (5, .int a5)] [] (f_X5_read_B59 k59 a4 a5 s0) := by
  unfold f_X5_read_B59
  refine im_iload hF dX5_read_59 2 rfl ?_
  refine im_bipush hF dX5_read_61 (v := (12 : Int32)) (by decide) ?_
  refine im_icmp_gt hF 119 dX5_read_63 (by decide) (fun _ => ?_) (fun _ => ?_)
  · refine im_iconst hF dX5_read_119 (v := (1 : Int32)) (by decide) ?_
    exact im_zret hF hM (by decide) dX5_read_120
  · refine im_iload hF dX5_read_66 1 rfl ?_
    refine im_if_eq hF 119 dX5_read_68 (by decide) (fun _ => ?_) (fun _ => ?_)
    · refine im_iconst hF dX5_read_119 (v := (1 : Int32)) (by decide) ?_
      exact im_zret hF hM (by decide) dX5_read_120
    · refine im_aload_n hF dX5_read_71 0 rfl ?_
      refine im_iload hF dX5_read_72 2 rfl ?_
      refine im_callVI hF (As := [.int a5]) (rest := []) my_X5_readClause mv_X5_readClause wl_466 (fun l r hr => c_X5_readClause l g hI a5 s0 r hr) ⟨by decide, by decide⟩ (by decide) (by decide) ⟨_, rfl, rfl⟩ rfl rfl (Nat.le_of_ble_eq_true rfl) dX5_read_74 (fun q1 => ?_)
      refine im_if_ne hF 82 dX5_read_77 (by decide) (fun _ => ?_) (fun _ => ?_)
      · refine im_iconst hF dX5_read_80 (v := (0 : Int32)) (by decide) ?_
        exact im_zret hF hM (by decide) dX5_read_81
      · refine im_aload_n hF dX5_read_82 0 rfl ?_
        refine im_callVI hF (As := []) (rest := []) my_X5_sign mv_X5_sign wl_470 (fun l r hr => c_X5_sign l g hI  q1.2 r hr) ⟨by decide, by decide⟩ (by decide) (by decide) ⟨_, rfl, rfl⟩ rfl rfl (Nat.le_of_ble_eq_true rfl) dX5_read_83 (fun q2 => ?_)
        refine im_iconst hF dX5_read_86 (v := (-1 : Int32)) (by decide) ?_
        refine im_icmp_eq hF 94 dX5_read_87 (by decide) (fun _ => ?_) (fun _ => ?_)
        · refine im_iconst hF dX5_read_94 (v := (0 : Int32)) (by decide) ?_
          refine im_sub (lv' := [(0, .ref (g.2.1 5 0)), (5, .int a5)]) [0, 2] rfl ?_
          exact (i_X5_read_B95 X g hF hM hI k59 hk59) a5 (0 : Int32) q2.2
        · refine im_iconst hF dX5_read_90 (v := (1 : Int32)) (by decide) ?_
          refine im_goto hF 95 dX5_read_91 (by decide) ?_
          refine im_sub (lv' := [(0, .ref (g.2.1 5 0)), (5, .int a5)]) [0, 2] rfl ?_
          exact (i_X5_read_B95 X g hF hM hI k59 hk59) a5 (1 : Int32) q2.2
def f_X5_read_L59 : Nat → Int32 → Int32 → Sg → Option (Int32 × Sg)
  | 0 => fun _ _ _ => none
  | n + 1 => fun a4 a5 s0 => f_X5_read_B59 (f_X5_read_L59 n) a4 a5 s0
theorem i_X5_read_L59 (X : Cx) (g : GT) (hF : Fx X g RX5 cX5_read 6 622 18645) (hM : FM X g (some .boolean)) (hI : GI g) : ∀ (n : Nat) (a4 : Int32) (a5 : Int32) (s0 : Sg), Im X g 6 (Qm X g embI) s0 59 [(0, .ref (g.2.1 5 0)), (4, .int a4), (5, .int a5)] [] (f_X5_read_L59 n a4 a5 s0) := by
  intro n
  induction n with
  | zero => intros; exact im_none
  | succ n ih => intro a4 a5 s0; exact i_X5_read_B59 X g hF hM hI (f_X5_read_L59 n) ih a4 a5 s0
def f_X5_read (a2 : Int32) (o3 : Nat) (s0 : Sg) : Option (Int32 × Sg) :=
  bdS (up3 s0 5 0 0 (1 : Int32)) fun s1 =>
  bdS (up3 s1 5 0 1 (if (200 : Int32) < a2 then (200 : Int32) else a2)) fun s2 =>
  bdS (up3 s2 5 0 2 (0 : Int32)) fun s3 =>
  bdS (up3 s3 5 0 3 (nI (o3 + 1))) fun s4 =>
  chk (decide (¬ s4 5 0 3 = 0 ∧ ((s4 5 0 3).toNatClampNeg - 1) < 5)) (
  Option.bind (f_X2_empty ((s4 5 0 3).toNatClampNeg - 1) s4) fun q6 =>
  bdS (up3 q6 5 0 7 (0 : Int32)) fun s7 =>
  bdS (up3 s7 5 0 8 (-1 : Int32)) fun s8 =>
  if (s8 5 0 1) ≤ 0 then
  (f_X5_read_L59 FU) (0 : Int32) (0 : Int32) s8
  else
  (f_X5_read_L59 FU) (1 : Int32) (0 : Int32) s8)
set_option maxRecDepth 4000 in
theorem i_X5_read (X : Cx) (g : GT) (hF : Fx X g RX5 cX5_read 6 622 18645) (hM : FM X g (some .boolean)) (hI : GI g) (a2 : Int32) (o3 : Nat) (ho3 : o3 < cnt 2) (s0 : Sg) : Im X g 6 (Qm X g embI) s0 0 [(0, .ref (g.2.1 5 0)), (1, .ref (g.2.1 35 0)), (2, .int a2), (3, .ref (g.2.1 2 o3))] [] (f_X5_read a2 o3 s0) := by
  unfold f_X5_read
  refine im_aload_n hF dX5_read_0 0 rfl ?_
  refine im_aload_n hF dX5_read_1 1 rfl ?_
  refine im_put hF (1 : Int32) fp_5_18 (by decide) (by decide) rfl rfl rfl dX5_read_2 ?_
  refine im_bdS (fun s1 => ?_)
  refine im_aload_n hF dX5_read_5 0 rfl ?_
  refine im_iload_n hF dX5_read_6 2 rfl ?_
  refine im_aload_n hF dX5_read_7 1 rfl ?_
  refine im_alen hF (v := (200 : Int32)) ar_35 (by decide) (by decide) (by decide) dX5_read_8 ?_
  refine im_mmin hF wl_459 (by decide) (by decide) (Nat.le_of_ble_eq_true rfl) mm_min dX5_read_9 ?_
  refine im_put hF (if (200 : Int32) < a2 then (200 : Int32) else a2) fp_5_28 (by decide) (by decide) rfl rfl rfl dX5_read_12 ?_
  refine im_bdS (fun s2 => ?_)
  refine im_aload_n hF dX5_read_15 0 rfl ?_
  refine im_iconst hF dX5_read_16 (v := (0 : Int32)) (by decide) ?_
  refine im_put hF (0 : Int32) fp_5_31 (by decide) (by decide) rfl rfl rfl dX5_read_17 ?_
  refine im_bdS (fun s3 => ?_)
  refine im_aload_n hF dX5_read_20 0 rfl ?_
  refine im_aload_n hF dX5_read_21 3 rfl ?_
  refine im_put hF (nI (o3 + 1)) fp_5_34 (by decide) (by decide) (into_fv ho3) rfl rfl dX5_read_22 ?_
  refine im_bdS (fun s4 => ?_)
  refine im_aload_n hF dX5_read_25 0 rfl ?_
  refine im_chk (fun h5 => ?_)
  refine im_get hF (v := .ref (g.2.1 2 ((s4 5 0 3).toNatClampNeg - 1))) fl_5_34 (by decide) (by decide) (if_neg (of_decide_eq_true h5).1) dX5_read_26 ?_
  refine im_callVV hF (As := []) (rest := []) my_X2_empty mv_X2_empty wl_462 (fun l r hr => c_X2_empty l g hI ((s4 5 0 3).toNatClampNeg - 1) (of_decide_eq_true h5).2 s4 r hr) ⟨by decide, by decide⟩ (by decide) (of_decide_eq_true h5).2 ⟨_, rfl, rfl⟩ rfl rfl (Nat.le_of_ble_eq_true rfl) dX5_read_29 (fun q6 => ?_)
  refine im_aload_n hF dX5_read_32 0 rfl ?_
  refine im_iconst hF dX5_read_33 (v := (0 : Int32)) (by decide) ?_
  refine im_put hF (0 : Int32) fp_5_9 (by decide) (by decide) rfl rfl rfl dX5_read_34 ?_
  refine im_bdS (fun s7 => ?_)
  refine im_aload_n hF dX5_read_37 0 rfl ?_
  refine im_iconst hF dX5_read_38 (v := (-1 : Int32)) (by decide) ?_
  refine im_put hF (-1 : Int32) fp_5_15 (by decide) (by decide) rfl rfl rfl dX5_read_39 ?_
  refine im_bdS (fun s8 => ?_)
  refine im_aload_n hF dX5_read_42 0 rfl ?_
  refine im_get hF (v := .int (s8 5 0 1)) fl_5_28 (by decide) (by decide) rfl dX5_read_43 ?_
  refine im_if_le hF 53 dX5_read_46 (by decide) (fun _ => ?_) (fun _ => ?_)
  · refine im_iconst hF dX5_read_53 (v := (0 : Int32)) (by decide) ?_
    refine im_istore hF dX5_read_54 (lv' := [(4, .int (0 : Int32)), (0, .ref (g.2.1 5 0)), (1, .ref (g.2.1 35 0)), (2, .int a2), (3, .ref (g.2.1 2 o3))]) (by decide) rfl ?_
    refine im_iconst hF dX5_read_56 (v := (0 : Int32)) (by decide) ?_
    refine im_istore hF dX5_read_57 (lv' := [(5, .int (0 : Int32)), (4, .int (0 : Int32)), (0, .ref (g.2.1 5 0)), (1, .ref (g.2.1 35 0)), (2, .int a2), (3, .ref (g.2.1 2 o3))]) (by decide) rfl ?_
    refine im_sub (lv' := [(0, .ref (g.2.1 5 0)), (4, .int (0 : Int32)), (5, .int (0 : Int32))]) [2, 1, 0] rfl ?_
    exact (i_X5_read_L59 X g hF hM hI FU) (0 : Int32) (0 : Int32) s8
  · refine im_iconst hF dX5_read_49 (v := (1 : Int32)) (by decide) ?_
    refine im_goto hF 54 dX5_read_50 (by decide) ?_
    refine im_istore hF dX5_read_54 (lv' := [(4, .int (1 : Int32)), (0, .ref (g.2.1 5 0)), (1, .ref (g.2.1 35 0)), (2, .int a2), (3, .ref (g.2.1 2 o3))]) (by decide) rfl ?_
    refine im_iconst hF dX5_read_56 (v := (0 : Int32)) (by decide) ?_
    refine im_istore hF dX5_read_57 (lv' := [(5, .int (0 : Int32)), (4, .int (1 : Int32)), (0, .ref (g.2.1 5 0)), (1, .ref (g.2.1 35 0)), (2, .int a2), (3, .ref (g.2.1 2 o3))]) (by decide) rfl ?_
    refine im_sub (lv' := [(0, .ref (g.2.1 5 0)), (4, .int (1 : Int32)), (5, .int (0 : Int32))]) [2, 1, 0] rfl ?_
    exact (i_X5_read_L59 X g hF hM hI FU) (1 : Int32) (0 : Int32) s8
theorem c_X5_read (l : Launch) (g : GT) (hI : GI g) (a2 : Int32) (o3 : Nat) (ho3 : o3 < cnt 2) (s0 : Sg) (r : (Int32 × Sg)) (hr : f_X5_read a2 o3 s0 = some r) : Ct l yX5_read cX5_read 6 (some .boolean) 622 18645 g [.ref (g.2.1 5 0), .ref (g.2.1 35 0), .int a2, .ref (g.2.1 2 o3)] s0 (embI r) := ct_of (by decide) hI (Nat.le_of_ble_eq_true rfl) (fun X hF hM => i_X5_read X g hF hM hI a2 o3 ho3 s0) r hr
def f_X9_contract (a1 : Int32) (a2 : Int32) (s0 : Sg) : Option (Int32 × Sg) :=
  Option.bind (f_X9_isLine a1 s0) fun q1 =>
  if q1.1 = 0 then
  some ((-1 : Int32), q1.2)
  else
  if a2 < 0 then
  some ((-1 : Int32), q1.2)
  else
  if a2 ≤ (q1.2 7 0 1) then
  chk (decide ((q1.2 0 0 5).toNatClampNeg < 5)) (
  Option.bind (f_X5_read a2 ((q1.2 0 0 5).toNatClampNeg) q1.2) fun q3 =>
  bdS (up3 q3.2 7 0 1 (0 : Int32)) fun s4 =>
  if q3.1 = 0 then
  some ((-2 : Int32), s4)
  else
  chk (gi a1 4) (chk (decide ((s4 12 0 a1.toNatClampNeg).toNatClampNeg < 5)) (
  chk (decide ((s4 0 0 5).toNatClampNeg < 5)) (
  chk (gi a1 4) (bdS (up3 s4 12 0 a1.toNatClampNeg (nI ((s4 0 0 5).toNatClampNeg))) fun s9 =>
  bdS (up3 s9 0 0 5 (nI ((s4 12 0 a1.toNatClampNeg).toNatClampNeg))) fun s10 =>
  bdS (up3 s10 3 0 2 (1 : Int32)) fun s11 =>
  chk (gi a1 4) (chk (decide ((s11 12 0 a1.toNatClampNeg).toNatClampNeg < 5)) (
  some ((s11 2 ((s11 12 0 a1.toNatClampNeg).toNatClampNeg) 0), s11))))))))
  else
  some ((-1 : Int32), q1.2)
set_option maxRecDepth 4000 in
theorem i_X9_contract (X : Cx) (g : GT) (hF : Fx X g RX9 cX9_contract 5 623 18670) (hM : FM X g (some .int)) (hI : GI g) (a1 : Int32) (a2 : Int32) (s0 : Sg) : Im X g 5 (Qm X g embI) s0 0 [(0, .ref (g.2.1 9 0)), (1, .int a1), (2, .int a2)] [] (f_X9_contract a1 a2 s0) := by
  unfold f_X9_contract
  refine im_iload_n hF dX9_contract_0 1 rfl ?_
  refine im_callSI hF (As := [.int a1]) (rest := []) my_X9_isLine ms_X9_isLine wl_404 (fun l r hr => c_X9_isLine l g hI a1 s0 r hr) ⟨by decide, by decide⟩ rfl rfl (Nat.le_of_ble_eq_true rfl) dX9_contract_1 (fun q1 => ?_)
  refine im_if_eq hF 22 dX9_contract_4 (by decide) (fun _ => ?_) (fun _ => ?_)
  · refine im_iconst hF dX9_contract_22 (v := (-1 : Int32)) (by decide) ?_
    exact im_iret hF hM dX9_contract_23
  · refine im_iload_n hF dX9_contract_7 2 rfl ?_
    refine im_if_lt hF 22 dX9_contract_8 (by decide) (fun _ => ?_) (fun _ => ?_)
    · refine im_iconst hF dX9_contract_22 (v := (-1 : Int32)) (by decide) ?_
      exact im_iret hF hM dX9_contract_23
    · refine im_iload_n hF dX9_contract_11 2 rfl ?_
      refine im_aload_n hF dX9_contract_12 0 rfl ?_
      refine im_get hF (v := .ref (g.2.1 7 0)) fl_9_19 (by decide) (by decide) rfl dX9_contract_13 ?_
      refine im_get hF (v := .int (q1.2 7 0 1)) fl_9_44 (by decide) (by decide) rfl dX9_contract_16 ?_
      refine im_icmp_le hF 24 dX9_contract_19 (by decide) (fun _ => ?_) (fun _ => ?_)
      · refine im_aload_n hF dX9_contract_24 0 rfl ?_
        refine im_get hF (v := .ref (g.2.1 5 0)) fl_9_26 (by decide) (by decide) rfl dX9_contract_25 ?_
        refine im_aload_n hF dX9_contract_28 0 rfl ?_
        refine im_get hF (v := .ref (g.2.1 7 0)) fl_9_19 (by decide) (by decide) rfl dX9_contract_29 ?_
        refine im_get hF (v := .ref (g.2.1 35 0)) fl_9_148 (by decide) (by decide) rfl dX9_contract_32 ?_
        refine im_iload_n hF dX9_contract_35 2 rfl ?_
        refine im_aload_n hF dX9_contract_36 0 rfl ?_
        refine im_get hF (v := .ref (g.2.1 0 0)) fl_9_10 (by decide) (by decide) rfl dX9_contract_37 ?_
        refine im_chk (fun h2 => ?_)
        refine im_get hF (v := .ref (g.2.1 2 ((q1.2 0 0 5).toNatClampNeg))) fl_9_151 (by decide) (by decide) rfl dX9_contract_40 ?_
        refine im_callVI hF (As := [.ref (g.2.1 35 0), .int a2, .ref (g.2.1 2 ((q1.2 0 0 5).toNatClampNeg))]) (rest := []) my_X5_read mv_X5_read wl_455 (fun l r hr => c_X5_read l g hI a2 ((q1.2 0 0 5).toNatClampNeg) (of_decide_eq_true h2) q1.2 r hr) ⟨by decide, by decide⟩ (by decide) (by decide) ⟨_, rfl, rfl⟩ rfl rfl (Nat.le_of_ble_eq_true rfl) dX9_contract_43 (fun q3 => ?_)
        refine im_istore_n hF dX9_contract_46 (lv' := [(3, .int q3.1), (0, .ref (g.2.1 9 0)), (1, .int a1), (2, .int a2)]) rfl (by decide) rfl ?_
        refine im_aload_n hF dX9_contract_47 1 rfl ?_
        refine im_get hF (v := .ref (g.2.1 7 0)) fl_9_19 (by decide) (by decide) rfl dX9_contract_48 ?_
        refine im_iconst hF dX9_contract_51 (v := (0 : Int32)) (by decide) ?_
        refine im_put hF (0 : Int32) fp_9_44 (by decide) (by decide) rfl rfl rfl dX9_contract_52 ?_
        refine im_bdS (fun s4 => ?_)
        refine im_iload_n hF dX9_contract_55 0 rfl ?_
        refine im_if_ne hF 62 dX9_contract_56 (by decide) (fun _ => ?_) (fun _ => ?_)
        · refine im_bipush hF dX9_contract_59 (v := (-2 : Int32)) (by decide) ?_
          exact im_iret hF hM dX9_contract_61
        · refine im_aload_n hF dX9_contract_62 1 rfl ?_
          refine im_get hF (v := .ref (g.2.1 0 0)) fl_9_10 (by decide) (by decide) rfl dX9_contract_63 ?_
          refine im_get hF (v := .ref (g.2.1 12 0)) fl_9_159 (by decide) (by decide) rfl dX9_contract_66 ?_
          refine im_iload_n hF dX9_contract_69 2 rfl ?_
          refine im_aald12 hF dX9_contract_70 (fun h5 => ?_)
          refine im_chk (fun h6 => ?_)
          refine im_astore hF dX9_contract_71 (lv' := [(4, .ref (g.2.1 2 ((s4 12 0 a1.toNatClampNeg).toNatClampNeg))), (3, .int q3.1), (0, .ref (g.2.1 9 0)), (1, .int a1), (2, .int a2)]) (by decide) rfl ?_
          refine im_aload_n hF dX9_contract_73 2 rfl ?_
          refine im_get hF (v := .ref (g.2.1 0 0)) fl_9_10 (by decide) (by decide) rfl dX9_contract_74 ?_
          refine im_get hF (v := .ref (g.2.1 12 0)) fl_9_159 (by decide) (by decide) rfl dX9_contract_77 ?_
          refine im_iload_n hF dX9_contract_80 3 rfl ?_
          refine im_aload_n hF dX9_contract_81 2 rfl ?_
          refine im_get hF (v := .ref (g.2.1 0 0)) fl_9_10 (by decide) (by decide) rfl dX9_contract_82 ?_
          refine im_chk (fun h7 => ?_)
          refine im_get hF (v := .ref (g.2.1 2 ((s4 0 0 5).toNatClampNeg))) fl_9_151 (by decide) (by decide) rfl dX9_contract_85 ?_
          refine im_aast12 hF (of_decide_eq_true h7) dX9_contract_88 (fun h8 => im_bdS (fun s9 => ?_))
          refine im_aload_n hF dX9_contract_89 2 rfl ?_
          refine im_get hF (v := .ref (g.2.1 0 0)) fl_9_10 (by decide) (by decide) rfl dX9_contract_90 ?_
          refine im_aload hF dX9_contract_93 0 rfl ?_
          refine im_put hF (nI ((s4 12 0 a1.toNatClampNeg).toNatClampNeg)) fp_9_151 (by decide) (by decide) (spare_fv (of_decide_eq_true h6)) rfl rfl dX9_contract_95 ?_
          refine im_bdS (fun s10 => ?_)
          refine im_aload_n hF dX9_contract_98 2 rfl ?_
          refine im_get hF (v := .ref (g.2.1 3 0)) fl_9_33 (by decide) (by decide) rfl dX9_contract_99 ?_
          refine im_iconst hF dX9_contract_102 (v := (1 : Int32)) (by decide) ?_
          refine im_put hF (1 : Int32) fp_9_83 (by decide) (by decide) rfl rfl rfl dX9_contract_103 ?_
          refine im_bdS (fun s11 => ?_)
          refine im_aload_n hF dX9_contract_106 2 rfl ?_
          refine im_get hF (v := .ref (g.2.1 0 0)) fl_9_10 (by decide) (by decide) rfl dX9_contract_107 ?_
          refine im_get hF (v := .ref (g.2.1 12 0)) fl_9_159 (by decide) (by decide) rfl dX9_contract_110 ?_
          refine im_iload_n hF dX9_contract_113 3 rfl ?_
          refine im_aald12 hF dX9_contract_114 (fun h12 => ?_)
          refine im_chk (fun h13 => ?_)
          refine im_get hF (v := .int (s11 2 ((s11 12 0 a1.toNatClampNeg).toNatClampNeg) 0)) fl_9_163 (by decide) (of_decide_eq_true h13) rfl dX9_contract_115 ?_
          exact im_iret hF hM dX9_contract_118
      · refine im_iconst hF dX9_contract_22 (v := (-1 : Int32)) (by decide) ?_
        exact im_iret hF hM dX9_contract_23
theorem c_X9_contract (l : Launch) (g : GT) (hI : GI g) (a1 : Int32) (a2 : Int32) (s0 : Sg) (r : (Int32 × Sg)) (hr : f_X9_contract a1 a2 s0 = some r) : Ct l yX9_contract cX9_contract 5 (some .int) 623 18670 g [.ref (g.2.1 9 0), .int a1, .int a2] s0 (embI r) := ct_of (by decide) hI (Nat.le_of_ble_eq_true rfl) (fun X hF hM => i_X9_contract X g hF hM hI a1 a2 s0) r hr
def f_X9_fault (a1 : Int32) (s0 : Sg) : Option (Int32 × Sg) :=
  if a1 = (0 : Int32) then
  some ((s0 5 0 7), s0)
  else
  if a1 = (1 : Int32) then
  some ((s0 5 0 8), s0)
  else
  some ((-1 : Int32), s0)
set_option maxRecDepth 4000 in
theorem i_X9_fault (X : Cx) (g : GT) (hF : Fx X g RX9 cX9_fault 2 0 0) (hM : FM X g (some .int)) (hI : GI g) (a1 : Int32) (s0 : Sg) : Im X g 2 (Qm X g embI) s0 0 [(0, .ref (g.2.1 9 0)), (1, .int a1)] [] (f_X9_fault a1 s0) := by
  unfold f_X9_fault
  refine im_iload_n hF dX9_fault_0 1 rfl ?_
  refine im_ite (fun h1 => ?_) (fun h1 => ?_)
  · refine im_lookup hF (off := 27) 28 dX9_fault_1 (by decide) ((congrArg (fun z : Int32 => Op.lookupswitch.offset _ _ z.toInt) h1).trans rfl) (by decide) ?_
    refine im_aload_n hF dX9_fault_28 0 rfl ?_
    refine im_get hF (v := .ref (g.2.1 5 0)) fl_9_26 (by decide) (by decide) rfl dX9_fault_29 ?_
    refine im_get hF (v := .int (s0 5 0 7)) fl_9_168 (by decide) (by decide) rfl dX9_fault_32 ?_
    exact im_iret hF hM dX9_fault_35
  · refine im_ite (fun h2 => ?_) (fun h2 => ?_)
    · refine im_lookup hF (off := 35) 36 dX9_fault_1 (by decide) ((congrArg (fun z : Int32 => Op.lookupswitch.offset _ _ z.toInt) h2).trans rfl) (by decide) ?_
      refine im_aload_n hF dX9_fault_36 0 rfl ?_
      refine im_get hF (v := .ref (g.2.1 5 0)) fl_9_26 (by decide) (by decide) rfl dX9_fault_37 ?_
      refine im_get hF (v := .int (s0 5 0 8)) fl_9_171 (by decide) (by decide) rfl dX9_fault_40 ?_
      exact im_iret hF hM dX9_fault_43
    · refine im_lookup hF (off := 43) 44 dX9_fault_1 (by decide) ((lv_osw h1 rfl).trans ((lv_osw h2 rfl).trans rfl)) (by decide) ?_
      refine im_iconst hF dX9_fault_44 (v := (-1 : Int32)) (by decide) ?_
      exact im_iret hF hM dX9_fault_45
theorem c_X9_fault (l : Launch) (g : GT) (hI : GI g) (a1 : Int32) (s0 : Sg) (r : (Int32 × Sg)) (hr : f_X9_fault a1 s0 = some r) : Ct l yX9_fault cX9_fault 2 (some .int) 0 0 g [.ref (g.2.1 9 0), .int a1] s0 (embI r) := ct_of (by decide) hI (Nat.le_of_ble_eq_true rfl) (fun X hF hM => i_X9_fault X g hF hM hI a1 s0) r hr
def f_X9_due_B45 (a2 : Int32) (a3 : Int32) (o4 : Nat) (s0 : Sg) : Option (Int32 × Sg) :=
  if a3 = (1 : Int32) then
  Option.bind (f_X8_leavesFrom o4 a2 s0) fun q1 =>
  if q1.1 = 0 then
  some ((-1 : Int32), q1.2)
  else
  chk (gi a2 7) (
  some ((q1.2 43 o4 a2.toNatClampNeg), q1.2))
  else
  some ((-1 : Int32), s0)
set_option maxRecDepth 4000 in
theorem i_X9_due_B45 (X : Cx) (g : GT) (hF : Fx X g RX9 cX9_due 5 1 21) (hM : FM X g (some .int)) (hI : GI g) (a2 : Int32) (a3 : Int32) (o4 : Nat) (ho4 : o4 < cnt 8) (s0 : Sg) : Im X g 5 (Qm X g embI) s0 45 [(2, .int a2), (3, .int a3), (4, .ref (g.2.1 8 o4))] [] (f_X9_due_B45 a2 a3 o4 s0) := by
  unfold f_X9_due_B45
  refine im_iload_n hF dX9_due_45 1 rfl ?_
  refine im_iconst hF dX9_due_46 (v := (1 : Int32)) (by decide) ?_
  refine im_icmp_ne hF 67 dX9_due_47 (by decide) (fun _ => ?_) (fun _ => ?_)
  · refine im_aload hF dX9_due_50 2 rfl ?_
    refine im_iload_n hF dX9_due_52 0 rfl ?_
    refine im_callVI hF (As := [.int a2]) (rest := []) my_X8_leavesFrom mv_X8_leavesFrom wl_439 (fun l r hr => c_X8_leavesFrom l g hI o4 a2 ho4 s0 r hr) ⟨by decide, by decide⟩ (by decide) ho4 ⟨_, rfl, rfl⟩ rfl rfl (Nat.le_of_ble_eq_true rfl) dX9_due_53 (fun q1 => ?_)
    refine im_if_eq hF 67 dX9_due_56 (by decide) (fun _ => ?_) (fun _ => ?_)
    · refine im_iconst hF dX9_due_67 (v := (-1 : Int32)) (by decide) ?_
      exact im_iret hF hM dX9_due_68
    · refine im_aload hF dX9_due_59 2 rfl ?_
      refine im_get hF (v := .ref (g.2.1 43 o4)) fl_9_177 (by decide) ho4 rfl dX9_due_61 ?_
      refine im_iload_n hF dX9_due_64 0 rfl ?_
      refine im_iald hF ar_43 ho4 dX9_due_65 (fun h2 => ?_)
      exact im_iret hF hM dX9_due_66
  · refine im_iconst hF dX9_due_67 (v := (-1 : Int32)) (by decide) ?_
    exact im_iret hF hM dX9_due_68
def f_X9_due (a1 : Int32) (a2 : Int32) (a3 : Int32) (s0 : Sg) : Option (Int32 × Sg) :=
  Option.bind (f_X0_hasVoyage a1 s0) fun q1 =>
  if q1.1 = 0 then
  some ((-1 : Int32), q1.2)
  else
  chk (gi a1 10) (
  if a3 = 0 then
  Option.bind (f_X8_comesTo a1.toNatClampNeg a2 q1.2) fun q3 =>
  if q3.1 = 0 then
  (f_X9_due_B45) a2 a3 a1.toNatClampNeg q3.2
  else
  chk (gi a2 7) (
  some ((q3.2 42 a1.toNatClampNeg a2.toNatClampNeg), q3.2))
  else
  (f_X9_due_B45) a2 a3 a1.toNatClampNeg q1.2)
set_option maxRecDepth 4000 in
theorem i_X9_due (X : Cx) (g : GT) (hF : Fx X g RX9 cX9_due 5 1 21) (hM : FM X g (some .int)) (hI : GI g) (a1 : Int32) (a2 : Int32) (a3 : Int32) (s0 : Sg) : Im X g 5 (Qm X g embI) s0 0 [(0, .ref (g.2.1 9 0)), (1, .int a1), (2, .int a2), (3, .int a3)] [] (f_X9_due a1 a2 a3 s0) := by
  unfold f_X9_due
  refine im_aload_n hF dX9_due_0 0 rfl ?_
  refine im_get hF (v := .ref (g.2.1 0 0)) fl_9_10 (by decide) (by decide) rfl dX9_due_1 ?_
  refine im_iload_n hF dX9_due_4 1 rfl ?_
  refine im_callVI hF (As := [.int a1]) (rest := []) my_X0_hasVoyage mv_X0_hasVoyage wl_415 (fun l r hr => c_X0_hasVoyage l g hI a1 s0 r hr) ⟨by decide, by decide⟩ (by decide) (by decide) ⟨_, rfl, rfl⟩ rfl rfl (Nat.le_of_ble_eq_true rfl) dX9_due_5 (fun q1 => ?_)
  refine im_if_ne hF 13 dX9_due_8 (by decide) (fun _ => ?_) (fun _ => ?_)
  · refine im_iconst hF dX9_due_11 (v := (-1 : Int32)) (by decide) ?_
    exact im_iret hF hM dX9_due_12
  · refine im_aload_n hF dX9_due_13 0 rfl ?_
    refine im_get hF (v := .ref (g.2.1 0 0)) fl_9_10 (by decide) (by decide) rfl dX9_due_14 ?_
    refine im_get hF (v := .ref (g.2.1 11 0)) fl_9_96 (by decide) (by decide) rfl dX9_due_17 ?_
    refine im_iload_n hF dX9_due_20 1 rfl ?_
    refine im_aald11 hF dX9_due_21 (fun h2 => ?_)
    refine im_astore hF dX9_due_22 (lv' := [(4, .ref (g.2.1 8 a1.toNatClampNeg)), (0, .ref (g.2.1 9 0)), (1, .int a1), (2, .int a2), (3, .int a3)]) (by decide) rfl ?_
    refine im_iload_n hF dX9_due_24 4 rfl ?_
    refine im_if_ne hF 45 dX9_due_25 (by decide) (fun _ => ?_) (fun _ => ?_)
    · refine im_aload hF dX9_due_28 0 rfl ?_
      refine im_iload_n hF dX9_due_30 3 rfl ?_
      refine im_callVI hF (As := [.int a2]) (rest := []) my_X8_comesTo mv_X8_comesTo wl_447 (fun l r hr => c_X8_comesTo l g hI a1.toNatClampNeg a2 (gi_lt h2) q1.2 r hr) ⟨by decide, by decide⟩ (by decide) (gi_lt h2) ⟨_, rfl, rfl⟩ rfl rfl (Nat.le_of_ble_eq_true rfl) dX9_due_31 (fun q3 => ?_)
      refine im_if_eq hF 45 dX9_due_34 (by decide) (fun _ => ?_) (fun _ => ?_)
      · refine im_sub (lv' := [(2, .int a2), (3, .int a3), (4, .ref (g.2.1 8 a1.toNatClampNeg))]) [3, 4, 0] rfl ?_
        exact (i_X9_due_B45 X g hF hM hI) a2 a3 a1.toNatClampNeg (gi_lt h2) q3.2
      · refine im_aload hF dX9_due_37 0 rfl ?_
        refine im_get hF (v := .ref (g.2.1 42 a1.toNatClampNeg)) fl_9_174 (by decide) (gi_lt h2) rfl dX9_due_39 ?_
        refine im_iload_n hF dX9_due_42 3 rfl ?_
        refine im_iald hF ar_42 (gi_lt h2) dX9_due_43 (fun h4 => ?_)
        exact im_iret hF hM dX9_due_44
    · refine im_sub (lv' := [(2, .int a2), (3, .int a3), (4, .ref (g.2.1 8 a1.toNatClampNeg))]) [3, 4, 0] rfl ?_
      exact (i_X9_due_B45 X g hF hM hI) a2 a3 a1.toNatClampNeg (gi_lt h2) q1.2
theorem c_X9_due (l : Launch) (g : GT) (hI : GI g) (a1 : Int32) (a2 : Int32) (a3 : Int32) (s0 : Sg) (r : (Int32 × Sg)) (hr : f_X9_due a1 a2 a3 s0 = some r) : Ct l yX9_due cX9_due 5 (some .int) 1 21 g [.ref (g.2.1 9 0), .int a1, .int a2, .int a3] s0 (embI r) := ct_of (by decide) hI (Nat.le_of_ble_eq_true rfl) (fun X hF hM => i_X9_due X g hF hM hI a1 a2 a3 s0) r hr
def f_X8_hasPlace (o0 : Nat) (a1 : Int32) (s0 : Sg) : Option (Int32 × Sg) :=
  if a1 < 0 then
  some ((0 : Int32), s0)
  else
  if (s0 8 o0 4) < a1 then
  some ((0 : Int32), s0)
  else
  some ((1 : Int32), s0)
set_option maxRecDepth 4000 in
theorem i_X8_hasPlace (X : Cx) (g : GT) (hF : Fx X g RX8 cX8_hasPlace 2 0 0) (hM : FM X g (some .boolean)) (hI : GI g) (o0 : Nat) (a1 : Int32) (ho0 : o0 < cnt 8) (s0 : Sg) : Im X g 2 (Qm X g embI) s0 0 [(0, .ref (g.2.1 8 o0)), (1, .int a1)] [] (f_X8_hasPlace o0 a1 s0) := by
  unfold f_X8_hasPlace
  refine im_iload_n hF dX8_hasPlace_0 1 rfl ?_
  refine im_if_lt hF 16 dX8_hasPlace_1 (by decide) (fun _ => ?_) (fun _ => ?_)
  · refine im_iconst hF dX8_hasPlace_16 (v := (0 : Int32)) (by decide) ?_
    exact im_zret hF hM (by decide) dX8_hasPlace_17
  · refine im_iload_n hF dX8_hasPlace_4 1 rfl ?_
    refine im_aload_n hF dX8_hasPlace_5 0 rfl ?_
    refine im_get hF (v := .int (s0 8 o0 4)) fl_8_55 (by decide) ho0 rfl dX8_hasPlace_6 ?_
    refine im_icmp_gt hF 16 dX8_hasPlace_9 (by decide) (fun _ => ?_) (fun _ => ?_)
    · refine im_iconst hF dX8_hasPlace_16 (v := (0 : Int32)) (by decide) ?_
      exact im_zret hF hM (by decide) dX8_hasPlace_17
    · refine im_iconst hF dX8_hasPlace_12 (v := (1 : Int32)) (by decide) ?_
      refine im_goto hF 17 dX8_hasPlace_13 (by decide) ?_
      exact im_zret hF hM (by decide) dX8_hasPlace_17
theorem c_X8_hasPlace (l : Launch) (g : GT) (hI : GI g) (o0 : Nat) (a1 : Int32) (ho0 : o0 < cnt 8) (s0 : Sg) (r : (Int32 × Sg)) (hr : f_X8_hasPlace o0 a1 s0 = some r) : Ct l yX8_hasPlace cX8_hasPlace 2 (some .boolean) 0 0 g [.ref (g.2.1 8 o0), .int a1] s0 (embI r) := ct_of (by decide) hI (Nat.le_of_ble_eq_true rfl) (fun X hF hM => i_X8_hasPlace X g hF hM hI o0 a1 ho0 s0) r hr
def f_J7_fill_30_B5 (k5 : Nat → Int32 → Int32 → Int32 → Sg → Option Sg) (o0 : Nat) (a1 : Int32) (a2 : Int32) (a3 : Int32) (s0 : Sg) : Option Sg :=
  if a3 ≤ a2 then
  some s0
  else
  chk (gi a2 7) (bdS (up3 s0 30 o0 a2.toNatClampNeg a1) fun s2 =>
  k5 o0 a1 (a2 + (1 : Int32)) a3 s2)
set_option maxRecDepth 4000 in
theorem i_J7_fill_30_B5 (X : Cx) (g : GT) (hF : Fx X g RJ7 cJ7_fill_53178 4 0 0) (hM : FM X g none) (hI : GI g) (k5 : Nat → Int32 → Int32 → Int32 → Sg → Option Sg) (hk5 : ∀ (o0 : Nat) (a1 : Int32) (a2 : Int32) (a3 : Int32) (ho0 : o0 < cnt 30) (s0 : Sg), Im X g 4 (Qm X g embV) s0 5 [(0, .ref (g.2.1 30 o0)), (1, .int a1), (2, .int a2), (3, .int a3)] [] (k5 o0 a1 a2 a3 s0)) (o0 : Nat) (a1 : Int32) (a2 : Int32) (a3 : Int32) (ho0 : o0 < cnt 30) (s0 : Sg) : Im X g 4 (Qm X g embV) s0 5 [(0, .ref (g.2.1 30 o0)), (1, .int a1), (2, .int a2), (3, .int a3)] [] (f_J7_fill_30_B5 k5 o0 a1 a2 a3 s0) := by
  unfold f_J7_fill_30_B5
  refine im_iload_n hF dJ7_fill_53178_5 2 rfl ?_
  refine im_iload_n hF dJ7_fill_53178_6 3 rfl ?_
  refine im_icmp_ge hF 20 dJ7_fill_53178_7 (by decide) (fun _ => ?_) (fun _ => ?_)
  · exact im_vret hF hM dJ7_fill_53178_20
  · refine im_aload_n hF dJ7_fill_53178_10 0 rfl ?_
    refine im_iload_n hF dJ7_fill_53178_11 2 rfl ?_
    refine im_iload_n hF dJ7_fill_53178_12 1 rfl ?_
    refine im_iast hF ar_30 ho0 dJ7_fill_53178_13 (fun h1 => im_bdS (fun s2 => ?_))
    refine im_iinc hF dJ7_fill_53178_14 (v := (a2 + (1 : Int32))) (lv' := [(2, .int (a2 + (1 : Int32))), (0, .ref (g.2.1 30 o0)), (1, .int a1), (3, .int a3)]) 2 rfl rfl (by decide) rfl ?_
    refine im_goto hF 5 dJ7_fill_53178_17 (by decide) ?_
    refine im_sub (lv' := [(0, .ref (g.2.1 30 o0)), (1, .int a1), (2, .int (a2 + (1 : Int32))), (3, .int a3)]) [1, 2, 0, 3] rfl ?_
    exact hk5 o0 a1 (a2 + (1 : Int32)) a3 ho0 s2
def f_J7_fill_30_L5 : Nat → Nat → Int32 → Int32 → Int32 → Sg → Option Sg
  | 0 => fun _ _ _ _ _ => none
  | n + 1 => fun o0 a1 a2 a3 s0 => f_J7_fill_30_B5 (f_J7_fill_30_L5 n) o0 a1 a2 a3 s0
theorem i_J7_fill_30_L5 (X : Cx) (g : GT) (hF : Fx X g RJ7 cJ7_fill_53178 4 0 0) (hM : FM X g none) (hI : GI g) : ∀ (n : Nat) (o0 : Nat) (a1 : Int32) (a2 : Int32) (a3 : Int32) (ho0 : o0 < cnt 30) (s0 : Sg), Im X g 4 (Qm X g embV) s0 5 [(0, .ref (g.2.1 30 o0)), (1, .int a1), (2, .int a2), (3, .int a3)] [] (f_J7_fill_30_L5 n o0 a1 a2 a3 s0) := by
  intro n
  induction n with
  | zero => intros; exact im_none
  | succ n ih => intro o0 a1 a2 a3 ho0 s0; exact i_J7_fill_30_B5 X g hF hM hI (f_J7_fill_30_L5 n) ih o0 a1 a2 a3 ho0 s0
def f_J7_fill_30 (o0 : Nat) (a1 : Int32) (s0 : Sg) : Option Sg :=
  (f_J7_fill_30_L5 FU) o0 a1 (0 : Int32) (7 : Int32) s0
set_option maxRecDepth 4000 in
theorem i_J7_fill_30 (X : Cx) (g : GT) (hF : Fx X g RJ7 cJ7_fill_53178 4 0 0) (hM : FM X g none) (hI : GI g) (o0 : Nat) (a1 : Int32) (ho0 : o0 < cnt 30) (s0 : Sg) : Im X g 4 (Qm X g embV) s0 0 [(0, .ref (g.2.1 30 o0)), (1, .int a1)] [] (f_J7_fill_30 o0 a1 s0) := by
  unfold f_J7_fill_30
  refine im_iconst hF dJ7_fill_53178_0 (v := (0 : Int32)) (by decide) ?_
  refine im_istore_n hF dJ7_fill_53178_1 (lv' := [(2, .int (0 : Int32)), (0, .ref (g.2.1 30 o0)), (1, .int a1)]) rfl (by decide) rfl ?_
  refine im_aload_n hF dJ7_fill_53178_2 1 rfl ?_
  refine im_alen hF (v := (7 : Int32)) ar_30 (by decide) ho0 (by decide) dJ7_fill_53178_3 ?_
  refine im_istore_n hF dJ7_fill_53178_4 (lv' := [(3, .int (7 : Int32)), (2, .int (0 : Int32)), (0, .ref (g.2.1 30 o0)), (1, .int a1)]) rfl (by decide) rfl ?_
  refine im_sub (lv' := [(0, .ref (g.2.1 30 o0)), (1, .int a1), (2, .int (0 : Int32)), (3, .int (7 : Int32))]) [2, 3, 1, 0] rfl ?_
  exact (i_J7_fill_30_L5 X g hF hM hI FU) o0 a1 (0 : Int32) (7 : Int32) ho0 s0
theorem c_J7_fill_30 (l : Launch) (g : GT) (hI : GI g) (o0 : Nat) (a1 : Int32) (ho0 : o0 < cnt 30) (s0 : Sg) (r : Sg) (hr : f_J7_fill_30 o0 a1 s0 = some r) : Ct l yJ7_fill_53178 cJ7_fill_53178 4 none 0 0 g [.ref (g.2.1 30 o0), .int a1] s0 (embV r) := ct_of (by decide) hI (Nat.le_of_ble_eq_true rfl) (fun X hF hM => i_J7_fill_30 X g hF hM hI o0 a1 ho0 s0) r hr
def f_J7_fill_31_B5 (k5 : Nat → Int32 → Int32 → Int32 → Sg → Option Sg) (o0 : Nat) (a1 : Int32) (a2 : Int32) (a3 : Int32) (s0 : Sg) : Option Sg :=
  if a3 ≤ a2 then
  some s0
  else
  chk (gi a2 7) (bdS (up3 s0 31 o0 a2.toNatClampNeg a1) fun s2 =>
  k5 o0 a1 (a2 + (1 : Int32)) a3 s2)
set_option maxRecDepth 4000 in
theorem i_J7_fill_31_B5 (X : Cx) (g : GT) (hF : Fx X g RJ7 cJ7_fill_53178 4 0 0) (hM : FM X g none) (hI : GI g) (k5 : Nat → Int32 → Int32 → Int32 → Sg → Option Sg) (hk5 : ∀ (o0 : Nat) (a1 : Int32) (a2 : Int32) (a3 : Int32) (ho0 : o0 < cnt 31) (s0 : Sg), Im X g 4 (Qm X g embV) s0 5 [(0, .ref (g.2.1 31 o0)), (1, .int a1), (2, .int a2), (3, .int a3)] [] (k5 o0 a1 a2 a3 s0)) (o0 : Nat) (a1 : Int32) (a2 : Int32) (a3 : Int32) (ho0 : o0 < cnt 31) (s0 : Sg) : Im X g 4 (Qm X g embV) s0 5 [(0, .ref (g.2.1 31 o0)), (1, .int a1), (2, .int a2), (3, .int a3)] [] (f_J7_fill_31_B5 k5 o0 a1 a2 a3 s0) := by
  unfold f_J7_fill_31_B5
  refine im_iload_n hF dJ7_fill_53178_5 2 rfl ?_
  refine im_iload_n hF dJ7_fill_53178_6 3 rfl ?_
  refine im_icmp_ge hF 20 dJ7_fill_53178_7 (by decide) (fun _ => ?_) (fun _ => ?_)
  · exact im_vret hF hM dJ7_fill_53178_20
  · refine im_aload_n hF dJ7_fill_53178_10 0 rfl ?_
    refine im_iload_n hF dJ7_fill_53178_11 2 rfl ?_
    refine im_iload_n hF dJ7_fill_53178_12 1 rfl ?_
    refine im_iast hF ar_31 ho0 dJ7_fill_53178_13 (fun h1 => im_bdS (fun s2 => ?_))
    refine im_iinc hF dJ7_fill_53178_14 (v := (a2 + (1 : Int32))) (lv' := [(2, .int (a2 + (1 : Int32))), (0, .ref (g.2.1 31 o0)), (1, .int a1), (3, .int a3)]) 2 rfl rfl (by decide) rfl ?_
    refine im_goto hF 5 dJ7_fill_53178_17 (by decide) ?_
    refine im_sub (lv' := [(0, .ref (g.2.1 31 o0)), (1, .int a1), (2, .int (a2 + (1 : Int32))), (3, .int a3)]) [1, 2, 0, 3] rfl ?_
    exact hk5 o0 a1 (a2 + (1 : Int32)) a3 ho0 s2
def f_J7_fill_31_L5 : Nat → Nat → Int32 → Int32 → Int32 → Sg → Option Sg
  | 0 => fun _ _ _ _ _ => none
  | n + 1 => fun o0 a1 a2 a3 s0 => f_J7_fill_31_B5 (f_J7_fill_31_L5 n) o0 a1 a2 a3 s0
theorem i_J7_fill_31_L5 (X : Cx) (g : GT) (hF : Fx X g RJ7 cJ7_fill_53178 4 0 0) (hM : FM X g none) (hI : GI g) : ∀ (n : Nat) (o0 : Nat) (a1 : Int32) (a2 : Int32) (a3 : Int32) (ho0 : o0 < cnt 31) (s0 : Sg), Im X g 4 (Qm X g embV) s0 5 [(0, .ref (g.2.1 31 o0)), (1, .int a1), (2, .int a2), (3, .int a3)] [] (f_J7_fill_31_L5 n o0 a1 a2 a3 s0) := by
  intro n
  induction n with
  | zero => intros; exact im_none
  | succ n ih => intro o0 a1 a2 a3 ho0 s0; exact i_J7_fill_31_B5 X g hF hM hI (f_J7_fill_31_L5 n) ih o0 a1 a2 a3 ho0 s0
def f_J7_fill_31 (o0 : Nat) (a1 : Int32) (s0 : Sg) : Option Sg :=
  (f_J7_fill_31_L5 FU) o0 a1 (0 : Int32) (7 : Int32) s0
set_option maxRecDepth 4000 in
theorem i_J7_fill_31 (X : Cx) (g : GT) (hF : Fx X g RJ7 cJ7_fill_53178 4 0 0) (hM : FM X g none) (hI : GI g) (o0 : Nat) (a1 : Int32) (ho0 : o0 < cnt 31) (s0 : Sg) : Im X g 4 (Qm X g embV) s0 0 [(0, .ref (g.2.1 31 o0)), (1, .int a1)] [] (f_J7_fill_31 o0 a1 s0) := by
  unfold f_J7_fill_31
  refine im_iconst hF dJ7_fill_53178_0 (v := (0 : Int32)) (by decide) ?_
  refine im_istore_n hF dJ7_fill_53178_1 (lv' := [(2, .int (0 : Int32)), (0, .ref (g.2.1 31 o0)), (1, .int a1)]) rfl (by decide) rfl ?_
  refine im_aload_n hF dJ7_fill_53178_2 1 rfl ?_
  refine im_alen hF (v := (7 : Int32)) ar_31 (by decide) ho0 (by decide) dJ7_fill_53178_3 ?_
  refine im_istore_n hF dJ7_fill_53178_4 (lv' := [(3, .int (7 : Int32)), (2, .int (0 : Int32)), (0, .ref (g.2.1 31 o0)), (1, .int a1)]) rfl (by decide) rfl ?_
  refine im_sub (lv' := [(0, .ref (g.2.1 31 o0)), (1, .int a1), (2, .int (0 : Int32)), (3, .int (7 : Int32))]) [2, 3, 1, 0] rfl ?_
  exact (i_J7_fill_31_L5 X g hF hM hI FU) o0 a1 (0 : Int32) (7 : Int32) ho0 s0
theorem c_J7_fill_31 (l : Launch) (g : GT) (hI : GI g) (o0 : Nat) (a1 : Int32) (ho0 : o0 < cnt 31) (s0 : Sg) (r : Sg) (hr : f_J7_fill_31 o0 a1 s0 = some r) : Ct l yJ7_fill_53178 cJ7_fill_53178 4 none 0 0 g [.ref (g.2.1 31 o0), .int a1] s0 (embV r) := ct_of (by decide) hI (Nat.le_of_ble_eq_true rfl) (fun X hF hM => i_J7_fill_31 X g hF hM hI o0 a1 ho0 s0) r hr
def f_J7_fill_34_B5 (k5 : Nat → Int32 → Int32 → Int32 → Sg → Option Sg) (o0 : Nat) (a1 : Int32) (a2 : Int32) (a3 : Int32) (s0 : Sg) : Option Sg :=
  if a3 ≤ a2 then
  some s0
  else
  chk (gi a2 5) (bdS (up3 s0 34 o0 a2.toNatClampNeg a1) fun s2 =>
  k5 o0 a1 (a2 + (1 : Int32)) a3 s2)
set_option maxRecDepth 4000 in
theorem i_J7_fill_34_B5 (X : Cx) (g : GT) (hF : Fx X g RJ7 cJ7_fill_53178 4 0 0) (hM : FM X g none) (hI : GI g) (k5 : Nat → Int32 → Int32 → Int32 → Sg → Option Sg) (hk5 : ∀ (o0 : Nat) (a1 : Int32) (a2 : Int32) (a3 : Int32) (ho0 : o0 < cnt 34) (s0 : Sg), Im X g 4 (Qm X g embV) s0 5 [(0, .ref (g.2.1 34 o0)), (1, .int a1), (2, .int a2), (3, .int a3)] [] (k5 o0 a1 a2 a3 s0)) (o0 : Nat) (a1 : Int32) (a2 : Int32) (a3 : Int32) (ho0 : o0 < cnt 34) (s0 : Sg) : Im X g 4 (Qm X g embV) s0 5 [(0, .ref (g.2.1 34 o0)), (1, .int a1), (2, .int a2), (3, .int a3)] [] (f_J7_fill_34_B5 k5 o0 a1 a2 a3 s0) := by
  unfold f_J7_fill_34_B5
  refine im_iload_n hF dJ7_fill_53178_5 2 rfl ?_
  refine im_iload_n hF dJ7_fill_53178_6 3 rfl ?_
  refine im_icmp_ge hF 20 dJ7_fill_53178_7 (by decide) (fun _ => ?_) (fun _ => ?_)
  · exact im_vret hF hM dJ7_fill_53178_20
  · refine im_aload_n hF dJ7_fill_53178_10 0 rfl ?_
    refine im_iload_n hF dJ7_fill_53178_11 2 rfl ?_
    refine im_iload_n hF dJ7_fill_53178_12 1 rfl ?_
    refine im_iast hF ar_34 ho0 dJ7_fill_53178_13 (fun h1 => im_bdS (fun s2 => ?_))
    refine im_iinc hF dJ7_fill_53178_14 (v := (a2 + (1 : Int32))) (lv' := [(2, .int (a2 + (1 : Int32))), (0, .ref (g.2.1 34 o0)), (1, .int a1), (3, .int a3)]) 2 rfl rfl (by decide) rfl ?_
    refine im_goto hF 5 dJ7_fill_53178_17 (by decide) ?_
    refine im_sub (lv' := [(0, .ref (g.2.1 34 o0)), (1, .int a1), (2, .int (a2 + (1 : Int32))), (3, .int a3)]) [1, 2, 0, 3] rfl ?_
    exact hk5 o0 a1 (a2 + (1 : Int32)) a3 ho0 s2
def f_J7_fill_34_L5 : Nat → Nat → Int32 → Int32 → Int32 → Sg → Option Sg
  | 0 => fun _ _ _ _ _ => none
  | n + 1 => fun o0 a1 a2 a3 s0 => f_J7_fill_34_B5 (f_J7_fill_34_L5 n) o0 a1 a2 a3 s0
theorem i_J7_fill_34_L5 (X : Cx) (g : GT) (hF : Fx X g RJ7 cJ7_fill_53178 4 0 0) (hM : FM X g none) (hI : GI g) : ∀ (n : Nat) (o0 : Nat) (a1 : Int32) (a2 : Int32) (a3 : Int32) (ho0 : o0 < cnt 34) (s0 : Sg), Im X g 4 (Qm X g embV) s0 5 [(0, .ref (g.2.1 34 o0)), (1, .int a1), (2, .int a2), (3, .int a3)] [] (f_J7_fill_34_L5 n o0 a1 a2 a3 s0) := by
  intro n
  induction n with
  | zero => intros; exact im_none
  | succ n ih => intro o0 a1 a2 a3 ho0 s0; exact i_J7_fill_34_B5 X g hF hM hI (f_J7_fill_34_L5 n) ih o0 a1 a2 a3 ho0 s0
def f_J7_fill_34 (o0 : Nat) (a1 : Int32) (s0 : Sg) : Option Sg :=
  (f_J7_fill_34_L5 FU) o0 a1 (0 : Int32) (5 : Int32) s0
set_option maxRecDepth 4000 in
theorem i_J7_fill_34 (X : Cx) (g : GT) (hF : Fx X g RJ7 cJ7_fill_53178 4 0 0) (hM : FM X g none) (hI : GI g) (o0 : Nat) (a1 : Int32) (ho0 : o0 < cnt 34) (s0 : Sg) : Im X g 4 (Qm X g embV) s0 0 [(0, .ref (g.2.1 34 o0)), (1, .int a1)] [] (f_J7_fill_34 o0 a1 s0) := by
  unfold f_J7_fill_34
  refine im_iconst hF dJ7_fill_53178_0 (v := (0 : Int32)) (by decide) ?_
  refine im_istore_n hF dJ7_fill_53178_1 (lv' := [(2, .int (0 : Int32)), (0, .ref (g.2.1 34 o0)), (1, .int a1)]) rfl (by decide) rfl ?_
  refine im_aload_n hF dJ7_fill_53178_2 1 rfl ?_
  refine im_alen hF (v := (5 : Int32)) ar_34 (by decide) ho0 (by decide) dJ7_fill_53178_3 ?_
  refine im_istore_n hF dJ7_fill_53178_4 (lv' := [(3, .int (5 : Int32)), (2, .int (0 : Int32)), (0, .ref (g.2.1 34 o0)), (1, .int a1)]) rfl (by decide) rfl ?_
  refine im_sub (lv' := [(0, .ref (g.2.1 34 o0)), (1, .int a1), (2, .int (0 : Int32)), (3, .int (5 : Int32))]) [2, 3, 1, 0] rfl ?_
  exact (i_J7_fill_34_L5 X g hF hM hI FU) o0 a1 (0 : Int32) (5 : Int32) ho0 s0
theorem c_J7_fill_34 (l : Launch) (g : GT) (hI : GI g) (o0 : Nat) (a1 : Int32) (ho0 : o0 < cnt 34) (s0 : Sg) (r : Sg) (hr : f_J7_fill_34 o0 a1 s0 = some r) : Ct l yJ7_fill_53178 cJ7_fill_53178 4 none 0 0 g [.ref (g.2.1 34 o0), .int a1] s0 (embV r) := ct_of (by decide) hI (Nat.le_of_ble_eq_true rfl) (fun X hF hM => i_J7_fill_34 X g hF hM hI o0 a1 ho0 s0) r hr
def f_X6_lieInPort (o0 : Nat) (a1 : Int32) (s0 : Sg) : Option Sg :=
  bdS (up3 s0 6 o0 6 (0 : Int32)) fun s1 =>
  bdS (up3 s1 6 o0 7 a1) fun s2 =>
  bdS (up3 s2 6 o0 8 a1) fun s3 =>
  some s3
set_option maxRecDepth 4000 in
theorem i_X6_lieInPort (X : Cx) (g : GT) (hF : Fx X g RX6 cX6_lieInPort 2 0 0) (hM : FM X g none) (hI : GI g) (o0 : Nat) (a1 : Int32) (ho0 : o0 < cnt 6) (s0 : Sg) : Im X g 2 (Qm X g embV) s0 0 [(0, .ref (g.2.1 6 o0)), (1, .int a1)] [] (f_X6_lieInPort o0 a1 s0) := by
  unfold f_X6_lieInPort
  refine im_aload_n hF dX6_lieInPort_0 0 rfl ?_
  refine im_iconst hF dX6_lieInPort_1 (v := (0 : Int32)) (by decide) ?_
  refine im_put hF (0 : Int32) fp_6_51 (by decide) ho0 rfl rfl rfl dX6_lieInPort_2 ?_
  refine im_bdS (fun s1 => ?_)
  refine im_aload_n hF dX6_lieInPort_5 0 rfl ?_
  refine im_iload_n hF dX6_lieInPort_6 1 rfl ?_
  refine im_put hF a1 fp_6_55 (by decide) ho0 rfl rfl rfl dX6_lieInPort_7 ?_
  refine im_bdS (fun s2 => ?_)
  refine im_aload_n hF dX6_lieInPort_10 0 rfl ?_
  refine im_iload_n hF dX6_lieInPort_11 1 rfl ?_
  refine im_put hF a1 fp_6_58 (by decide) ho0 rfl rfl rfl dX6_lieInPort_12 ?_
  refine im_bdS (fun s3 => ?_)
  exact im_vret hF hM dX6_lieInPort_15
theorem c_X6_lieInPort (l : Launch) (g : GT) (hI : GI g) (o0 : Nat) (a1 : Int32) (ho0 : o0 < cnt 6) (s0 : Sg) (r : Sg) (hr : f_X6_lieInPort o0 a1 s0 = some r) : Ct l yX6_lieInPort cX6_lieInPort 2 none 0 0 g [.ref (g.2.1 6 o0), .int a1] s0 (embV r) := ct_of (by decide) hI (Nat.le_of_ble_eq_true rfl) (fun X hF hM => i_X6_lieInPort X g hF hM hI o0 a1 ho0 s0) r hr
def f_X6_begin_B47 (os0 : Nat) (as1 : Int32) (s0 : Sg) : Option Sg :=
  Option.bind (f_X6_lieInPort os0 as1 s0) fun q1 =>
  some q1
set_option maxRecDepth 4000 in
theorem i_X6_begin_B47 (X : Cx) (g : GT) (hF : Fx X g RX6 cX6_begin 2 1 23) (hM : FM X g none) (hI : GI g) (os0 : Nat) (as1 : Int32) (hos0 : os0 < cnt 6) (s0 : Sg) : Im X g 2 (Qm X g embV) s0 47 [] [.int as1, .ref (g.2.1 6 os0)] (f_X6_begin_B47 os0 as1 s0) := by
  unfold f_X6_begin_B47
  refine im_callVV hF (As := [.int as1]) (rest := []) my_X6_lieInPort mv_X6_lieInPort wl_550 (fun l r hr => c_X6_lieInPort l g hI os0 as1 hos0 s0 r hr) ⟨by decide, by decide⟩ (by decide) hos0 ⟨_, rfl, rfl⟩ rfl rfl (Nat.le_of_ble_eq_true rfl) dX6_begin_47 (fun q1 => ?_)
  exact im_vret hF hM dX6_begin_50
def f_X6_begin (o0 : Nat) (o1 : Nat) (s0 : Sg) : Option Sg :=
  Option.bind (f_J7_fill_30 o0 (-1 : Int32) s0) fun q1 =>
  Option.bind (f_J7_fill_31 o0 (-1 : Int32) q1) fun q2 =>
  Option.bind (f_J7_fill_34 o0 (0 : Int32) q2) fun q3 =>
  bdS (up3 q3 6 o0 5 (0 : Int32)) fun s4 =>
  Option.bind (f_X8_leavesFrom o1 (0 : Int32) s4) fun q5 =>
  if q5.1 = 0 then
  (f_X6_begin_B47) o0 (1000000 : Int32) q5.2
  else
  (f_X6_begin_B47) o0 (q5.2 8 o1 3) q5.2
set_option maxRecDepth 4000 in
theorem i_X6_begin (X : Cx) (g : GT) (hF : Fx X g RX6 cX6_begin 2 1 23) (hM : FM X g none) (hI : GI g) (o0 : Nat) (o1 : Nat) (ho0 : o0 < cnt 6) (ho1 : o1 < cnt 8) (s0 : Sg) : Im X g 2 (Qm X g embV) s0 0 [(0, .ref (g.2.1 6 o0)), (1, .ref (g.2.1 8 o1))] [] (f_X6_begin o0 o1 s0) := by
  unfold f_X6_begin
  refine im_aload_n hF dX6_begin_0 0 rfl ?_
  refine im_get hF (v := .ref (g.2.1 30 o0)) fl_6_9 (by decide) ho0 rfl dX6_begin_1 ?_
  refine im_iconst hF dX6_begin_4 (v := (-1 : Int32)) (by decide) ?_
  refine im_callSV hF (As := [.ref (g.2.1 30 o0), .int (-1 : Int32)]) (rest := []) my_J7_fill_53178 ms_J7_fill_53178 wl_547 (fun l r hr => c_J7_fill_30 l g hI o0 (-1 : Int32) ho0 s0 r hr) ⟨by decide, by decide⟩ rfl rfl (Nat.le_of_ble_eq_true rfl) dX6_begin_5 (fun q1 => ?_)
  refine im_aload_n hF dX6_begin_8 0 rfl ?_
  refine im_get hF (v := .ref (g.2.1 31 o0)) fl_6_15 (by decide) ho0 rfl dX6_begin_9 ?_
  refine im_iconst hF dX6_begin_12 (v := (-1 : Int32)) (by decide) ?_
  refine im_callSV hF (As := [.ref (g.2.1 31 o0), .int (-1 : Int32)]) (rest := []) my_J7_fill_53178 ms_J7_fill_53178 wl_547 (fun l r hr => c_J7_fill_31 l g hI o0 (-1 : Int32) ho0 q1 r hr) ⟨by decide, by decide⟩ rfl rfl (Nat.le_of_ble_eq_true rfl) dX6_begin_13 (fun q2 => ?_)
  refine im_aload_n hF dX6_begin_16 0 rfl ?_
  refine im_get hF (v := .ref (g.2.1 34 o0)) fl_6_24 (by decide) ho0 rfl dX6_begin_17 ?_
  refine im_iconst hF dX6_begin_20 (v := (0 : Int32)) (by decide) ?_
  refine im_callSV hF (As := [.ref (g.2.1 34 o0), .int (0 : Int32)]) (rest := []) my_J7_fill_53178 ms_J7_fill_53178 wl_547 (fun l r hr => c_J7_fill_34 l g hI o0 (0 : Int32) ho0 q2 r hr) ⟨by decide, by decide⟩ rfl rfl (Nat.le_of_ble_eq_true rfl) dX6_begin_21 (fun q3 => ?_)
  refine im_aload_n hF dX6_begin_24 0 rfl ?_
  refine im_iconst hF dX6_begin_25 (v := (0 : Int32)) (by decide) ?_
  refine im_put hF (0 : Int32) fp_6_33 (by decide) ho0 rfl rfl rfl dX6_begin_26 ?_
  refine im_bdS (fun s4 => ?_)
  refine im_aload_n hF dX6_begin_29 0 rfl ?_
  refine im_aload_n hF dX6_begin_30 1 rfl ?_
  refine im_iconst hF dX6_begin_31 (v := (0 : Int32)) (by decide) ?_
  refine im_callVI hF (As := [.int (0 : Int32)]) (rest := [.ref (g.2.1 6 o0)]) my_X8_leavesFrom mv_X8_leavesFrom wl_548 (fun l r hr => c_X8_leavesFrom l g hI o1 (0 : Int32) ho1 s4 r hr) ⟨by decide, by decide⟩ (by decide) ho1 ⟨_, rfl, rfl⟩ rfl rfl (Nat.le_of_ble_eq_true rfl) dX6_begin_32 (fun q5 => ?_)
  refine im_if_eq hF 45 dX6_begin_35 (by decide) (fun _ => ?_) (fun _ => ?_)
  · refine im_ldc hF (v := (1000000 : Int32)) wl_549 dX6_begin_45 ?_
    refine im_sub (lv' := []) [] rfl ?_
    exact (i_X6_begin_B47 X g hF hM hI) o0 (1000000 : Int32) ho0 q5.2
  · refine im_aload_n hF dX6_begin_38 1 rfl ?_
    refine im_get hF (v := .int (q5.2 8 o1 3)) fl_6_43 (by decide) ho1 rfl dX6_begin_39 ?_
    refine im_goto hF 47 dX6_begin_42 (by decide) ?_
    refine im_sub (lv' := []) [] rfl ?_
    exact (i_X6_begin_B47 X g hF hM hI) o0 (q5.2 8 o1 3) ho0 q5.2
theorem c_X6_begin (l : Launch) (g : GT) (hI : GI g) (o0 : Nat) (o1 : Nat) (ho0 : o0 < cnt 6) (ho1 : o1 < cnt 8) (s0 : Sg) (r : Sg) (hr : f_X6_begin o0 o1 s0 = some r) : Ct l yX6_begin cX6_begin 2 none 1 23 g [.ref (g.2.1 6 o0), .ref (g.2.1 8 o1)] s0 (embV r) := ct_of (by decide) hI (Nat.le_of_ble_eq_true rfl) (fun X hF hM => i_X6_begin X g hF hM hI o0 o1 ho0 ho1 s0) r hr
def f_X3_nextHour_B5 (k5 : Int32 → Int32 → Int32 → Sg → Option (Int32 × Sg)) (a1 : Int32) (a2 : Int32) (a3 : Int32) (s0 : Sg) : Option (Int32 × Sg) :=
  if a1 ≤ a3 then
  some (a2, s0)
  else
  chk (gi a3 10) (
  bdI (if (s0 6 a3.toNatClampNeg 8) < a2 then (s0 6 a3.toNatClampNeg 8) else a2) fun x2 =>
  k5 a1 x2 (a3 + (1 : Int32)) s0)
set_option maxRecDepth 4000 in
theorem i_X3_nextHour_B5 (X : Cx) (g : GT) (hF : Fx X g RX3 cX3_nextHour 4 1 21) (hM : FM X g (some .int)) (hI : GI g) (k5 : Int32 → Int32 → Int32 → Sg → Option (Int32 × Sg)) (hk5 : ∀ (a1 : Int32) (a2 : Int32) (a3 : Int32) (s0 : Sg), Im X g 4 (Qm X g embI) s0 5 [(0, .ref (g.2.1 3 0)), (1, .int a1), (2, .int a2), (3, .int a3)] [] (k5 a1 a2 a3 s0)) (a1 : Int32) (a2 : Int32) (a3 : Int32) (s0 : Sg) : Im X g 4 (Qm X g embI) s0 5 [(0, .ref (g.2.1 3 0)), (1, .int a1), (2, .int a2), (3, .int a3)] [] (f_X3_nextHour_B5 k5 a1 a2 a3 s0) := by
  unfold f_X3_nextHour_B5
  refine im_iload_n hF dX3_nextHour_5 3 rfl ?_
  refine im_iload_n hF dX3_nextHour_6 1 rfl ?_
  refine im_icmp_ge hF 30 dX3_nextHour_7 (by decide) (fun _ => ?_) (fun _ => ?_)
  · refine im_iload_n hF dX3_nextHour_30 2 rfl ?_
    exact im_iret hF hM dX3_nextHour_31
  · refine im_iload_n hF dX3_nextHour_10 2 rfl ?_
    refine im_aload_n hF dX3_nextHour_11 0 rfl ?_
    refine im_get hF (v := .ref (g.2.1 13 0)) fl_3_11 (by decide) (by decide) rfl dX3_nextHour_12 ?_
    refine im_iload_n hF dX3_nextHour_15 3 rfl ?_
    refine im_aald13 hF dX3_nextHour_16 (fun h1 => ?_)
    refine im_get hF (v := .int (s0 6 a3.toNatClampNeg 8)) fl_3_51 (by decide) (gi_lt h1) rfl dX3_nextHour_17 ?_
    refine im_mmin hF wl_559 (by decide) (by decide) (Nat.le_of_ble_eq_true rfl) mm_min dX3_nextHour_20 ?_
    refine im_bdI (fun x2 => ?_)
    refine im_istore_n hF dX3_nextHour_23 (lv' := [(2, .int x2), (0, .ref (g.2.1 3 0)), (1, .int a1), (3, .int a3)]) rfl (by decide) rfl ?_
    refine im_iinc hF dX3_nextHour_24 (v := (a3 + (1 : Int32))) (lv' := [(3, .int (a3 + (1 : Int32))), (2, .int x2), (0, .ref (g.2.1 3 0)), (1, .int a1)]) 3 rfl rfl (by decide) rfl ?_
    refine im_goto hF 5 dX3_nextHour_27 (by decide) ?_
    refine im_sub (lv' := [(0, .ref (g.2.1 3 0)), (1, .int a1), (2, .int x2), (3, .int (a3 + (1 : Int32)))]) [2, 3, 1, 0] rfl ?_
    exact hk5 a1 x2 (a3 + (1 : Int32)) s0
def f_X3_nextHour_L5 : Nat → Int32 → Int32 → Int32 → Sg → Option (Int32 × Sg)
  | 0 => fun _ _ _ _ => none
  | n + 1 => fun a1 a2 a3 s0 => f_X3_nextHour_B5 (f_X3_nextHour_L5 n) a1 a2 a3 s0
theorem i_X3_nextHour_L5 (X : Cx) (g : GT) (hF : Fx X g RX3 cX3_nextHour 4 1 21) (hM : FM X g (some .int)) (hI : GI g) : ∀ (n : Nat) (a1 : Int32) (a2 : Int32) (a3 : Int32) (s0 : Sg), Im X g 4 (Qm X g embI) s0 5 [(0, .ref (g.2.1 3 0)), (1, .int a1), (2, .int a2), (3, .int a3)] [] (f_X3_nextHour_L5 n a1 a2 a3 s0) := by
  intro n
  induction n with
  | zero => intros; exact im_none
  | succ n ih => intro a1 a2 a3 s0; exact i_X3_nextHour_B5 X g hF hM hI (f_X3_nextHour_L5 n) ih a1 a2 a3 s0
def f_X3_nextHour (a1 : Int32) (s0 : Sg) : Option (Int32 × Sg) :=
  (f_X3_nextHour_L5 FU) a1 (1000000 : Int32) (0 : Int32) s0
set_option maxRecDepth 4000 in
theorem i_X3_nextHour (X : Cx) (g : GT) (hF : Fx X g RX3 cX3_nextHour 4 1 21) (hM : FM X g (some .int)) (hI : GI g) (a1 : Int32) (s0 : Sg) : Im X g 4 (Qm X g embI) s0 0 [(0, .ref (g.2.1 3 0)), (1, .int a1)] [] (f_X3_nextHour a1 s0) := by
  unfold f_X3_nextHour
  refine im_ldc hF (v := (1000000 : Int32)) wl_558 dX3_nextHour_0 ?_
  refine im_istore_n hF dX3_nextHour_2 (lv' := [(2, .int (1000000 : Int32)), (0, .ref (g.2.1 3 0)), (1, .int a1)]) rfl (by decide) rfl ?_
  refine im_iconst hF dX3_nextHour_3 (v := (0 : Int32)) (by decide) ?_
  refine im_istore_n hF dX3_nextHour_4 (lv' := [(3, .int (0 : Int32)), (2, .int (1000000 : Int32)), (0, .ref (g.2.1 3 0)), (1, .int a1)]) rfl (by decide) rfl ?_
  refine im_sub (lv' := [(0, .ref (g.2.1 3 0)), (1, .int a1), (2, .int (1000000 : Int32)), (3, .int (0 : Int32))]) [2, 3, 1, 0] rfl ?_
  exact (i_X3_nextHour_L5 X g hF hM hI FU) a1 (1000000 : Int32) (0 : Int32) s0
theorem c_X3_nextHour (l : Launch) (g : GT) (hI : GI g) (a1 : Int32) (s0 : Sg) (r : (Int32 × Sg)) (hr : f_X3_nextHour a1 s0 = some r) : Ct l yX3_nextHour cX3_nextHour 4 (some .int) 1 21 g [.ref (g.2.1 3 0), .int a1] s0 (embI r) := ct_of (by decide) hI (Nat.le_of_ble_eq_true rfl) (fun X hF hM => i_X3_nextHour X g hF hM hI a1 s0) r hr
def f_X8_lateAt (o0 : Nat) (a1 : Int32) (a2 : Int32) (s0 : Sg) : Option (Int32 × Sg) :=
  chk (gi a1 7) (
  some ((if (0 : Int32) < (a2 - (s0 42 o0 a1.toNatClampNeg)) then (a2 - (s0 42 o0 a1.toNatClampNeg)) else (0 : Int32)), s0))
set_option maxRecDepth 4000 in
theorem i_X8_lateAt (X : Cx) (g : GT) (hF : Fx X g RX8 cX8_lateAt 3 1 21) (hM : FM X g (some .int)) (hI : GI g) (o0 : Nat) (a1 : Int32) (a2 : Int32) (ho0 : o0 < cnt 8) (s0 : Sg) : Im X g 3 (Qm X g embI) s0 0 [(0, .ref (g.2.1 8 o0)), (1, .int a1), (2, .int a2)] [] (f_X8_lateAt o0 a1 a2 s0) := by
  unfold f_X8_lateAt
  refine im_iconst hF dX8_lateAt_0 (v := (0 : Int32)) (by decide) ?_
  refine im_iload_n hF dX8_lateAt_1 2 rfl ?_
  refine im_aload_n hF dX8_lateAt_2 0 rfl ?_
  refine im_get hF (v := .ref (g.2.1 42 o0)) fl_8_36 (by decide) ho0 rfl dX8_lateAt_3 ?_
  refine im_iload_n hF dX8_lateAt_6 1 rfl ?_
  refine im_iald hF ar_42 ho0 dX8_lateAt_7 (fun h1 => ?_)
  refine im_isub hF dX8_lateAt_8 ?_
  refine im_mmax hF wl_576 (by decide) (by decide) (Nat.le_of_ble_eq_true rfl) mm_max dX8_lateAt_9 ?_
  exact im_iret hF hM dX8_lateAt_12
theorem c_X8_lateAt (l : Launch) (g : GT) (hI : GI g) (o0 : Nat) (a1 : Int32) (a2 : Int32) (ho0 : o0 < cnt 8) (s0 : Sg) (r : (Int32 × Sg)) (hr : f_X8_lateAt o0 a1 a2 s0 = some r) : Ct l yX8_lateAt cX8_lateAt 3 (some .int) 1 21 g [.ref (g.2.1 8 o0), .int a1, .int a2] s0 (embI r) := ct_of (by decide) hI (Nat.le_of_ble_eq_true rfl) (fun X hF hM => i_X8_lateAt X g hF hM hI o0 a1 a2 ho0 s0) r hr
def f_X9_monthOf (a0 : Int32) (s0 : Sg) : Option (Int32 × Sg) :=
  some (((a0 / (720 : Int32)) - (a0 / (720 : Int32)) / (12 : Int32) * (12 : Int32)), s0)
set_option maxRecDepth 4000 in
theorem i_X9_monthOf (X : Cx) (g : GT) (hF : Fx X g RX9 cX9_monthOf 1 0 0) (hM : FM X g (some .int)) (hI : GI g) (a0 : Int32) (s0 : Sg) : Im X g 1 (Qm X g embI) s0 0 [(0, .int a0)] [] (f_X9_monthOf a0 s0) := by
  unfold f_X9_monthOf
  refine im_iload_n hF dX9_monthOf_0 0 rfl ?_
  refine im_sipush hF dX9_monthOf_1 (v := (720 : Int32)) (by decide) ?_
  refine im_idiv hF dX9_monthOf_4 (by decide) ?_
  refine im_bipush hF dX9_monthOf_5 (v := (12 : Int32)) (by decide) ?_
  refine im_irem hF dX9_monthOf_7 (by decide) ?_
  exact im_iret hF hM dX9_monthOf_8
theorem c_X9_monthOf (l : Launch) (g : GT) (hI : GI g) (a0 : Int32) (s0 : Sg) (r : (Int32 × Sg)) (hr : f_X9_monthOf a0 s0 = some r) : Ct l yX9_monthOf cX9_monthOf 1 (some .int) 0 0 g [.int a0] s0 (embI r) := ct_of (by decide) hI (Nat.le_of_ble_eq_true rfl) (fun X hF hM => i_X9_monthOf X g hF hM hI a0 s0) r hr
def f_X1_windIn (a1 : Int32) (a2 : Int32) (s0 : Sg) : Option (Int32 × Sg) :=
  Option.bind (f_X9_monthOf a2 s0) fun q1 =>
  chk (gi ((a1 * (12 : Int32)) + q1.1) 144) (
  some ((q1.2 17 0 ((a1 * (12 : Int32)) + q1.1).toNatClampNeg), q1.2))
set_option maxRecDepth 4000 in
theorem i_X1_windIn (X : Cx) (g : GT) (hF : Fx X g RX1 cX1_windIn 3 1 20) (hM : FM X g (some .int)) (hI : GI g) (a1 : Int32) (a2 : Int32) (s0 : Sg) : Im X g 3 (Qm X g embI) s0 0 [(0, .ref (g.2.1 1 0)), (1, .int a1), (2, .int a2)] [] (f_X1_windIn a1 a2 s0) := by
  unfold f_X1_windIn
  refine im_aload_n hF dX1_windIn_0 0 rfl ?_
  refine im_get hF (v := .ref (g.2.1 17 0)) fl_1_21 (by decide) (by decide) rfl dX1_windIn_1 ?_
  refine im_iload_n hF dX1_windIn_4 1 rfl ?_
  refine im_bipush hF dX1_windIn_5 (v := (12 : Int32)) (by decide) ?_
  refine im_imul hF dX1_windIn_7 ?_
  refine im_iload_n hF dX1_windIn_8 2 rfl ?_
  refine im_callNI hF (As := [.int a2]) (rest := [.int (a1 * (12 : Int32)), .ref (g.2.1 17 0)]) my_X9_monthOf ms_X9_monthOf nest_2 (fun l r hr => c_X9_monthOf l g hI a2 s0 r hr) ⟨by decide, by decide⟩ rfl rfl (Nat.le_of_ble_eq_true rfl) dX1_windIn_9 (fun q1 => ?_)
  refine im_iadd hF dX1_windIn_12 ?_
  refine im_iald hF ar_17 (by decide) dX1_windIn_13 (fun h2 => ?_)
  exact im_iret hF hM dX1_windIn_14
theorem c_X1_windIn (l : Launch) (g : GT) (hI : GI g) (a1 : Int32) (a2 : Int32) (s0 : Sg) (r : (Int32 × Sg)) (hr : f_X1_windIn a1 a2 s0 = some r) : Ct l yX1_windIn cX1_windIn 3 (some .int) 1 20 g [.ref (g.2.1 1 0), .int a1, .int a2] s0 (embI r) := ct_of (by decide) hI (Nat.le_of_ble_eq_true rfl) (fun X hF hM => i_X1_windIn X g hF hM hI a1 a2 s0) r hr
def f_X2_beginOf (o0 : Nat) (a1 : Int32) (s0 : Sg) : Option (Int32 × Sg) :=
  if a1 ≤ 0 then
  some ((0 : Int32), s0)
  else
  chk (gi (a1 - (1 : Int32)) 12) (
  some ((s0 20 o0 (a1 - (1 : Int32)).toNatClampNeg), s0))
set_option maxRecDepth 4000 in
theorem i_X2_beginOf (X : Cx) (g : GT) (hF : Fx X g RX2 cX2_beginOf 2 0 0) (hM : FM X g (some .int)) (hI : GI g) (o0 : Nat) (a1 : Int32) (ho0 : o0 < cnt 2) (s0 : Sg) : Im X g 2 (Qm X g embI) s0 0 [(0, .ref (g.2.1 2 o0)), (1, .int a1)] [] (f_X2_beginOf o0 a1 s0) := by
  unfold f_X2_beginOf
  refine im_iload_n hF dX2_beginOf_0 1 rfl ?_
  refine im_if_le hF 15 dX2_beginOf_1 (by decide) (fun _ => ?_) (fun _ => ?_)
  · refine im_iconst hF dX2_beginOf_15 (v := (0 : Int32)) (by decide) ?_
    exact im_iret hF hM dX2_beginOf_16
  · refine im_aload_n hF dX2_beginOf_4 0 rfl ?_
    refine im_get hF (v := .ref (g.2.1 20 o0)) fl_2_18 (by decide) ho0 rfl dX2_beginOf_5 ?_
    refine im_iload_n hF dX2_beginOf_8 1 rfl ?_
    refine im_iconst hF dX2_beginOf_9 (v := (1 : Int32)) (by decide) ?_
    refine im_isub hF dX2_beginOf_10 ?_
    refine im_iald hF ar_20 ho0 dX2_beginOf_11 (fun h1 => ?_)
    refine im_goto hF 16 dX2_beginOf_12 (by decide) ?_
    exact im_iret hF hM dX2_beginOf_16
theorem c_X2_beginOf (l : Launch) (g : GT) (hI : GI g) (o0 : Nat) (a1 : Int32) (ho0 : o0 < cnt 2) (s0 : Sg) (r : (Int32 × Sg)) (hr : f_X2_beginOf o0 a1 s0 = some r) : Ct l yX2_beginOf cX2_beginOf 2 (some .int) 0 0 g [.ref (g.2.1 2 o0), .int a1] s0 (embI r) := ct_of (by decide) hI (Nat.le_of_ble_eq_true rfl) (fun X hF hM => i_X2_beginOf X g hF hM hI o0 a1 ho0 s0) r hr
def f_X2_compares (o0 : Nat) (a1 : Int32) (a2 : Int32) (s0 : Sg) : Option (Int32 × Sg) :=
  chk (gi a1 200) (
  if (s0 21 o0 a1.toNatClampNeg) = (60 : Int32) then
  chk (gi a1 200) (
  if (s0 23 o0 a1.toNatClampNeg) ≤ a2 then
  some ((0 : Int32), s0)
  else
  some ((1 : Int32), s0))
  else
  chk (gi a1 200) (
  if (s0 21 o0 a1.toNatClampNeg) = (62 : Int32) then
  chk (gi a1 200) (
  if a2 ≤ (s0 23 o0 a1.toNatClampNeg) then
  some ((0 : Int32), s0)
  else
  some ((1 : Int32), s0))
  else
  chk (gi a1 200) (
  if a2 = (s0 23 o0 a1.toNatClampNeg) then
  some ((1 : Int32), s0)
  else
  some ((0 : Int32), s0))))
set_option maxRecDepth 4000 in
theorem i_X2_compares (X : Cx) (g : GT) (hF : Fx X g RX2 cX2_compares 3 0 0) (hM : FM X g (some .boolean)) (hI : GI g) (o0 : Nat) (a1 : Int32) (a2 : Int32) (ho0 : o0 < cnt 2) (s0 : Sg) : Im X g 3 (Qm X g embI) s0 0 [(0, .ref (g.2.1 2 o0)), (1, .int a1), (2, .int a2)] [] (f_X2_compares o0 a1 a2 s0) := by
  unfold f_X2_compares
  refine im_aload_n hF dX2_compares_0 0 rfl ?_
  refine im_get hF (v := .ref (g.2.1 21 o0)) fl_2_21 (by decide) ho0 rfl dX2_compares_1 ?_
  refine im_iload_n hF dX2_compares_4 1 rfl ?_
  refine im_iald hF ar_21 ho0 dX2_compares_5 (fun h1 => ?_)
  refine im_bipush hF dX2_compares_6 (v := (60 : Int32)) (by decide) ?_
  refine im_icmp_ne hF 27 dX2_compares_8 (by decide) (fun _ => ?_) (fun _ => ?_)
  · refine im_iload_n hF dX2_compares_11 2 rfl ?_
    refine im_aload_n hF dX2_compares_12 0 rfl ?_
    refine im_get hF (v := .ref (g.2.1 23 o0)) fl_2_27 (by decide) ho0 rfl dX2_compares_13 ?_
    refine im_iload_n hF dX2_compares_16 1 rfl ?_
    refine im_iald hF ar_23 ho0 dX2_compares_17 (fun h2 => ?_)
    refine im_icmp_ge hF 25 dX2_compares_18 (by decide) (fun _ => ?_) (fun _ => ?_)
    · refine im_iconst hF dX2_compares_25 (v := (0 : Int32)) (by decide) ?_
      exact im_zret hF hM (by decide) dX2_compares_26
    · refine im_iconst hF dX2_compares_21 (v := (1 : Int32)) (by decide) ?_
      refine im_goto hF 26 dX2_compares_22 (by decide) ?_
      exact im_zret hF hM (by decide) dX2_compares_26
  · refine im_aload_n hF dX2_compares_27 0 rfl ?_
    refine im_get hF (v := .ref (g.2.1 21 o0)) fl_2_21 (by decide) ho0 rfl dX2_compares_28 ?_
    refine im_iload_n hF dX2_compares_31 1 rfl ?_
    refine im_iald hF ar_21 ho0 dX2_compares_32 (fun h3 => ?_)
    refine im_bipush hF dX2_compares_33 (v := (62 : Int32)) (by decide) ?_
    refine im_icmp_ne hF 56 dX2_compares_35 (by decide) (fun _ => ?_) (fun _ => ?_)
    · refine im_iload_n hF dX2_compares_38 2 rfl ?_
      refine im_aload_n hF dX2_compares_39 0 rfl ?_
      refine im_get hF (v := .ref (g.2.1 23 o0)) fl_2_27 (by decide) ho0 rfl dX2_compares_40 ?_
      refine im_iload_n hF dX2_compares_43 1 rfl ?_
      refine im_iald hF ar_23 ho0 dX2_compares_44 (fun h4 => ?_)
      refine im_icmp_le hF 52 dX2_compares_45 (by decide) (fun _ => ?_) (fun _ => ?_)
      · refine im_iconst hF dX2_compares_52 (v := (0 : Int32)) (by decide) ?_
        refine im_goto hF 71 dX2_compares_53 (by decide) ?_
        exact im_zret hF hM (by decide) dX2_compares_71
      · refine im_iconst hF dX2_compares_48 (v := (1 : Int32)) (by decide) ?_
        refine im_goto hF 71 dX2_compares_49 (by decide) ?_
        exact im_zret hF hM (by decide) dX2_compares_71
    · refine im_iload_n hF dX2_compares_56 2 rfl ?_
      refine im_aload_n hF dX2_compares_57 0 rfl ?_
      refine im_get hF (v := .ref (g.2.1 23 o0)) fl_2_27 (by decide) ho0 rfl dX2_compares_58 ?_
      refine im_iload_n hF dX2_compares_61 1 rfl ?_
      refine im_iald hF ar_23 ho0 dX2_compares_62 (fun h5 => ?_)
      refine im_icmp_ne hF 70 dX2_compares_63 (by decide) (fun _ => ?_) (fun _ => ?_)
      · refine im_iconst hF dX2_compares_66 (v := (1 : Int32)) (by decide) ?_
        refine im_goto hF 71 dX2_compares_67 (by decide) ?_
        exact im_zret hF hM (by decide) dX2_compares_71
      · refine im_iconst hF dX2_compares_70 (v := (0 : Int32)) (by decide) ?_
        exact im_zret hF hM (by decide) dX2_compares_71
theorem c_X2_compares (l : Launch) (g : GT) (hI : GI g) (o0 : Nat) (a1 : Int32) (a2 : Int32) (ho0 : o0 < cnt 2) (s0 : Sg) (r : (Int32 × Sg)) (hr : f_X2_compares o0 a1 a2 s0 = some r) : Ct l yX2_compares cX2_compares 3 (some .boolean) 0 0 g [.ref (g.2.1 2 o0), .int a1, .int a2] s0 (embI r) := ct_of (by decide) hI (Nat.le_of_ble_eq_true rfl) (fun X hF hM => i_X2_compares X g hF hM hI o0 a1 a2 ho0 s0) r hr
def f_X2_holds_B9 (k9 : Nat → Int32 → Int32 → Int32 → Sg → Option (Int32 × Sg)) (o0 : Nat) (a1 : Int32) (a3 : Int32) (a4 : Int32) (s0 : Sg) : Option (Int32 × Sg) :=
  chk (gi a1 12) (
  if (s0 20 o0 a1.toNatClampNeg) ≤ a4 then
  if (a3 &&& (1 : Int32)) = (1 : Int32) then
  some ((1 : Int32), s0)
  else
  some ((0 : Int32), s0)
  else
  bdI (a3 &&& (1 : Int32)) fun x2 =>
  chk (gi a4 200) (
  if (s0 21 o0 a4.toNatClampNeg) = (33 : Int32) then
  bdI (a3 ^^^ (1 : Int32)) fun x5 =>
  k9 o0 a1 x5 (a4 + (1 : Int32)) s0
  else
  if (s0 21 o0 a4.toNatClampNeg) = (38 : Int32) then
  bdI ((ushr a3 (1 : Int32)) &&& (x2 ||| (-2 : Int32))) fun x7 =>
  k9 o0 a1 x7 (a4 + (1 : Int32)) s0
  else
  if (s0 21 o0 a4.toNatClampNeg) = (124 : Int32) then
  bdI ((ushr a3 (1 : Int32)) ||| x2) fun x9 =>
  k9 o0 a1 x9 (a4 + (1 : Int32)) s0
  else
  chk (gi a4 200) (
  chk (gi (s0 22 o0 a4.toNatClampNeg) 5) (
  Option.bind (f_X2_compares o0 a4 (s0 24 0 (s0 22 o0 a4.toNatClampNeg).toNatClampNeg) s0) fun q12 =>
  if q12.1 = 0 then
  bdI ((a3 <<< ((1 : Int32) &&& 31)) ||| (0 : Int32)) fun x13 =>
  k9 o0 a1 x13 (a4 + (1 : Int32)) q12.2
  else
  bdI ((a3 <<< ((1 : Int32) &&& 31)) ||| (1 : Int32)) fun x14 =>
  k9 o0 a1 x14 (a4 + (1 : Int32)) q12.2))))
set_option maxRecDepth 4000 in
theorem i_X2_holds_B9 (X : Cx) (g : GT) (hF : Fx X g RX2 cX2_holds 6 1 22) (hM : FM X g (some .boolean)) (hI : GI g) (k9 : Nat → Int32 → Int32 → Int32 → Sg → Option (Int32 × Sg)) (hk9 : ∀ (o0 : Nat) (a1 : Int32) (a3 : Int32) (a4 : Int32) (ho0 : o0 < cnt 2) (s0 : Sg), Im X g 6 (Qm X g embI) s0 9 [(0, .ref (g.2.1 2 o0)), (1, .int a1), (2, .ref (g.2.1 24 0)), (3, .int a3), (4, .int a4)] [] (k9 o0 a1 a3 a4 s0)) (o0 : Nat) (a1 : Int32) (a3 : Int32) (a4 : Int32) (ho0 : o0 < cnt 2) (s0 : Sg) : Im X g 6 (Qm X g embI) s0 9 [(0, .ref (g.2.1 2 o0)), (1, .int a1), (2, .ref (g.2.1 24 0)), (3, .int a3), (4, .int a4)] [] (f_X2_holds_B9 k9 o0 a1 a3 a4 s0) := by
  unfold f_X2_holds_B9
  refine im_iload hF dX2_holds_9 4 rfl ?_
  refine im_aload_n hF dX2_holds_11 0 rfl ?_
  refine im_get hF (v := .ref (g.2.1 20 o0)) fl_2_18 (by decide) ho0 rfl dX2_holds_12 ?_
  refine im_iload_n hF dX2_holds_15 1 rfl ?_
  refine im_iald hF ar_20 ho0 dX2_holds_16 (fun h1 => ?_)
  refine im_icmp_ge hF 132 dX2_holds_17 (by decide) (fun _ => ?_) (fun _ => ?_)
  · refine im_iload_n hF dX2_holds_132 3 rfl ?_
    refine im_iconst hF dX2_holds_133 (v := (1 : Int32)) (by decide) ?_
    refine im_iand hF dX2_holds_134 ?_
    refine im_iconst hF dX2_holds_135 (v := (1 : Int32)) (by decide) ?_
    refine im_icmp_ne hF 143 dX2_holds_136 (by decide) (fun _ => ?_) (fun _ => ?_)
    · refine im_iconst hF dX2_holds_139 (v := (1 : Int32)) (by decide) ?_
      refine im_goto hF 144 dX2_holds_140 (by decide) ?_
      exact im_zret hF hM (by decide) dX2_holds_144
    · refine im_iconst hF dX2_holds_143 (v := (0 : Int32)) (by decide) ?_
      exact im_zret hF hM (by decide) dX2_holds_144
  · refine im_iload_n hF dX2_holds_20 3 rfl ?_
    refine im_iconst hF dX2_holds_21 (v := (1 : Int32)) (by decide) ?_
    refine im_iand hF dX2_holds_22 ?_
    refine im_bdI (fun x2 => ?_)
    refine im_istore hF dX2_holds_23 (lv' := [(5, .int x2), (0, .ref (g.2.1 2 o0)), (1, .int a1), (2, .ref (g.2.1 24 0)), (3, .int a3), (4, .int a4)]) (by decide) rfl ?_
    refine im_aload_n hF dX2_holds_25 1 rfl ?_
    refine im_get hF (v := .ref (g.2.1 21 o0)) fl_2_21 (by decide) ho0 rfl dX2_holds_26 ?_
    refine im_iload hF dX2_holds_29 5 rfl ?_
    refine im_iald hF ar_21 ho0 dX2_holds_31 (fun h3 => ?_)
    refine im_ite (fun h4 => ?_) (fun h4 => ?_)
    · refine im_lookup hF (off := 36) 68 dX2_holds_32 (by decide) ((congrArg (fun z : Int32 => Op.lookupswitch.offset _ _ z.toInt) h4).trans rfl) (by decide) ?_
      refine im_iload_n hF dX2_holds_68 4 rfl ?_
      refine im_iconst hF dX2_holds_69 (v := (1 : Int32)) (by decide) ?_
      refine im_ixor hF dX2_holds_70 ?_
      refine im_bdI (fun x5 => ?_)
      refine im_istore_n hF dX2_holds_71 (lv' := [(3, .int x5), (5, .int x2), (0, .ref (g.2.1 2 o0)), (1, .int a1), (2, .ref (g.2.1 24 0)), (4, .int a4)]) rfl (by decide) rfl ?_
      refine im_goto hF 126 dX2_holds_72 (by decide) ?_
      refine im_iinc hF dX2_holds_126 (v := (a4 + (1 : Int32))) (lv' := [(4, .int (a4 + (1 : Int32))), (3, .int x5), (5, .int x2), (0, .ref (g.2.1 2 o0)), (1, .int a1), (2, .ref (g.2.1 24 0))]) 5 rfl rfl (by decide) rfl ?_
      refine im_goto hF 9 dX2_holds_129 (by decide) ?_
      refine im_sub (lv' := [(0, .ref (g.2.1 2 o0)), (1, .int a1), (2, .ref (g.2.1 24 0)), (3, .int x5), (4, .int (a4 + (1 : Int32)))]) [3, 4, 5, 1, 0] rfl ?_
      exact hk9 o0 a1 x5 (a4 + (1 : Int32)) ho0 s0
    · refine im_ite (fun h6 => ?_) (fun h6 => ?_)
      · refine im_lookup hF (off := 43) 75 dX2_holds_32 (by decide) ((congrArg (fun z : Int32 => Op.lookupswitch.offset _ _ z.toInt) h6).trans rfl) (by decide) ?_
        refine im_iload_n hF dX2_holds_75 4 rfl ?_
        refine im_iconst hF dX2_holds_76 (v := (1 : Int32)) (by decide) ?_
        refine im_iushr hF dX2_holds_77 ?_
        refine im_iload hF dX2_holds_78 0 rfl ?_
        refine im_bipush hF dX2_holds_80 (v := (-2 : Int32)) (by decide) ?_
        refine im_ior hF dX2_holds_82 ?_
        refine im_iand hF dX2_holds_83 ?_
        refine im_bdI (fun x7 => ?_)
        refine im_istore_n hF dX2_holds_84 (lv' := [(3, .int x7), (5, .int x2), (0, .ref (g.2.1 2 o0)), (1, .int a1), (2, .ref (g.2.1 24 0)), (4, .int a4)]) rfl (by decide) rfl ?_
        refine im_goto hF 126 dX2_holds_85 (by decide) ?_
        refine im_iinc hF dX2_holds_126 (v := (a4 + (1 : Int32))) (lv' := [(4, .int (a4 + (1 : Int32))), (3, .int x7), (5, .int x2), (0, .ref (g.2.1 2 o0)), (1, .int a1), (2, .ref (g.2.1 24 0))]) 5 rfl rfl (by decide) rfl ?_
        refine im_goto hF 9 dX2_holds_129 (by decide) ?_
        refine im_sub (lv' := [(0, .ref (g.2.1 2 o0)), (1, .int a1), (2, .ref (g.2.1 24 0)), (3, .int x7), (4, .int (a4 + (1 : Int32)))]) [3, 4, 5, 1, 0] rfl ?_
        exact hk9 o0 a1 x7 (a4 + (1 : Int32)) ho0 s0
      · refine im_ite (fun h8 => ?_) (fun h8 => ?_)
        · refine im_lookup hF (off := 56) 88 dX2_holds_32 (by decide) ((congrArg (fun z : Int32 => Op.lookupswitch.offset _ _ z.toInt) h8).trans rfl) (by decide) ?_
          refine im_iload_n hF dX2_holds_88 4 rfl ?_
          refine im_iconst hF dX2_holds_89 (v := (1 : Int32)) (by decide) ?_
          refine im_iushr hF dX2_holds_90 ?_
          refine im_iload hF dX2_holds_91 0 rfl ?_
          refine im_ior hF dX2_holds_93 ?_
          refine im_bdI (fun x9 => ?_)
          refine im_istore_n hF dX2_holds_94 (lv' := [(3, .int x9), (5, .int x2), (0, .ref (g.2.1 2 o0)), (1, .int a1), (2, .ref (g.2.1 24 0)), (4, .int a4)]) rfl (by decide) rfl ?_
          refine im_goto hF 126 dX2_holds_95 (by decide) ?_
          refine im_iinc hF dX2_holds_126 (v := (a4 + (1 : Int32))) (lv' := [(4, .int (a4 + (1 : Int32))), (3, .int x9), (5, .int x2), (0, .ref (g.2.1 2 o0)), (1, .int a1), (2, .ref (g.2.1 24 0))]) 5 rfl rfl (by decide) rfl ?_
          refine im_goto hF 9 dX2_holds_129 (by decide) ?_
          refine im_sub (lv' := [(0, .ref (g.2.1 2 o0)), (1, .int a1), (2, .ref (g.2.1 24 0)), (3, .int x9), (4, .int (a4 + (1 : Int32)))]) [3, 4, 5, 1, 0] rfl ?_
          exact hk9 o0 a1 x9 (a4 + (1 : Int32)) ho0 s0
        · refine im_lookup hF (off := 66) 98 dX2_holds_32 (by decide) ((lv_osw h4 rfl).trans ((lv_osw h6 rfl).trans ((lv_osw h8 rfl).trans rfl))) (by decide) ?_
          refine im_iload_n hF dX2_holds_98 4 rfl ?_
          refine im_iconst hF dX2_holds_99 (v := (1 : Int32)) (by decide) ?_
          refine im_ishl hF dX2_holds_100 ?_
          refine im_aload_n hF dX2_holds_101 1 rfl ?_
          refine im_iload hF dX2_holds_102 5 rfl ?_
          refine im_aload_n hF dX2_holds_104 3 rfl ?_
          refine im_aload_n hF dX2_holds_105 1 rfl ?_
          refine im_get hF (v := .ref (g.2.1 22 o0)) fl_2_24 (by decide) ho0 rfl dX2_holds_106 ?_
          refine im_iload hF dX2_holds_109 5 rfl ?_
          refine im_iald hF ar_22 ho0 dX2_holds_111 (fun h10 => ?_)
          refine im_iald hF ar_24 (by decide) dX2_holds_112 (fun h11 => ?_)
          refine im_callVI hF (As := [.int a4, .int (s0 24 0 (s0 22 o0 a4.toNatClampNeg).toNatClampNeg)]) (rest := [.int (a3 <<< ((1 : Int32) &&& 31))]) my_X2_compares mv_X2_compares wl_599 (fun l r hr => c_X2_compares l g hI o0 a4 (s0 24 0 (s0 22 o0 a4.toNatClampNeg).toNatClampNeg) ho0 s0 r hr) ⟨by decide, by decide⟩ (by decide) ho0 ⟨_, rfl, rfl⟩ rfl rfl (Nat.le_of_ble_eq_true rfl) dX2_holds_113 (fun q12 => ?_)
          refine im_if_eq hF 123 dX2_holds_116 (by decide) (fun _ => ?_) (fun _ => ?_)
          · refine im_iconst hF dX2_holds_123 (v := (0 : Int32)) (by decide) ?_
            refine im_ior hF dX2_holds_124 ?_
            refine im_bdI (fun x13 => ?_)
            refine im_istore_n hF dX2_holds_125 (lv' := [(3, .int x13), (5, .int x2), (0, .ref (g.2.1 2 o0)), (1, .int a1), (2, .ref (g.2.1 24 0)), (4, .int a4)]) rfl (by decide) rfl ?_
            refine im_iinc hF dX2_holds_126 (v := (a4 + (1 : Int32))) (lv' := [(4, .int (a4 + (1 : Int32))), (3, .int x13), (5, .int x2), (0, .ref (g.2.1 2 o0)), (1, .int a1), (2, .ref (g.2.1 24 0))]) 5 rfl rfl (by decide) rfl ?_
            refine im_goto hF 9 dX2_holds_129 (by decide) ?_
            refine im_sub (lv' := [(0, .ref (g.2.1 2 o0)), (1, .int a1), (2, .ref (g.2.1 24 0)), (3, .int x13), (4, .int (a4 + (1 : Int32)))]) [3, 4, 5, 1, 0] rfl ?_
            exact hk9 o0 a1 x13 (a4 + (1 : Int32)) ho0 q12.2
          · refine im_iconst hF dX2_holds_119 (v := (1 : Int32)) (by decide) ?_
            refine im_goto hF 124 dX2_holds_120 (by decide) ?_
            refine im_ior hF dX2_holds_124 ?_
            refine im_bdI (fun x14 => ?_)
            refine im_istore_n hF dX2_holds_125 (lv' := [(3, .int x14), (5, .int x2), (0, .ref (g.2.1 2 o0)), (1, .int a1), (2, .ref (g.2.1 24 0)), (4, .int a4)]) rfl (by decide) rfl ?_
            refine im_iinc hF dX2_holds_126 (v := (a4 + (1 : Int32))) (lv' := [(4, .int (a4 + (1 : Int32))), (3, .int x14), (5, .int x2), (0, .ref (g.2.1 2 o0)), (1, .int a1), (2, .ref (g.2.1 24 0))]) 5 rfl rfl (by decide) rfl ?_
            refine im_goto hF 9 dX2_holds_129 (by decide) ?_
            refine im_sub (lv' := [(0, .ref (g.2.1 2 o0)), (1, .int a1), (2, .ref (g.2.1 24 0)), (3, .int x14), (4, .int (a4 + (1 : Int32)))]) [3, 4, 5, 1, 0] rfl ?_
            exact hk9 o0 a1 x14 (a4 + (1 : Int32)) ho0 q12.2
def f_X2_holds_L9 : Nat → Nat → Int32 → Int32 → Int32 → Sg → Option (Int32 × Sg)
  | 0 => fun _ _ _ _ _ => none
  | n + 1 => fun o0 a1 a3 a4 s0 => f_X2_holds_B9 (f_X2_holds_L9 n) o0 a1 a3 a4 s0
theorem i_X2_holds_L9 (X : Cx) (g : GT) (hF : Fx X g RX2 cX2_holds 6 1 22) (hM : FM X g (some .boolean)) (hI : GI g) : ∀ (n : Nat) (o0 : Nat) (a1 : Int32) (a3 : Int32) (a4 : Int32) (ho0 : o0 < cnt 2) (s0 : Sg), Im X g 6 (Qm X g embI) s0 9 [(0, .ref (g.2.1 2 o0)), (1, .int a1), (2, .ref (g.2.1 24 0)), (3, .int a3), (4, .int a4)] [] (f_X2_holds_L9 n o0 a1 a3 a4 s0) := by
  intro n
  induction n with
  | zero => intros; exact im_none
  | succ n ih => intro o0 a1 a3 a4 ho0 s0; exact i_X2_holds_B9 X g hF hM hI (f_X2_holds_L9 n) ih o0 a1 a3 a4 ho0 s0
def f_X2_holds (o0 : Nat) (a1 : Int32) (s0 : Sg) : Option (Int32 × Sg) :=
  Option.bind (f_X2_beginOf o0 a1 s0) fun q1 =>
  (f_X2_holds_L9 FU) o0 a1 (0 : Int32) q1.1 q1.2
set_option maxRecDepth 4000 in
theorem i_X2_holds (X : Cx) (g : GT) (hF : Fx X g RX2 cX2_holds 6 1 22) (hM : FM X g (some .boolean)) (hI : GI g) (o0 : Nat) (a1 : Int32) (ho0 : o0 < cnt 2) (s0 : Sg) : Im X g 6 (Qm X g embI) s0 0 [(0, .ref (g.2.1 2 o0)), (1, .int a1), (2, .ref (g.2.1 24 0))] [] (f_X2_holds o0 a1 s0) := by
  unfold f_X2_holds
  refine im_iconst hF dX2_holds_0 (v := (0 : Int32)) (by decide) ?_
  refine im_istore_n hF dX2_holds_1 (lv' := [(3, .int (0 : Int32)), (0, .ref (g.2.1 2 o0)), (1, .int a1), (2, .ref (g.2.1 24 0))]) rfl (by decide) rfl ?_
  refine im_aload_n hF dX2_holds_2 1 rfl ?_
  refine im_iload_n hF dX2_holds_3 2 rfl ?_
  refine im_callVI hF (As := [.int a1]) (rest := []) my_X2_beginOf mv_X2_beginOf wl_595 (fun l r hr => c_X2_beginOf l g hI o0 a1 ho0 s0 r hr) ⟨by decide, by decide⟩ (by decide) ho0 ⟨_, rfl, rfl⟩ rfl rfl (Nat.le_of_ble_eq_true rfl) dX2_holds_4 (fun q1 => ?_)
  refine im_istore hF dX2_holds_7 (lv' := [(4, .int q1.1), (3, .int (0 : Int32)), (0, .ref (g.2.1 2 o0)), (1, .int a1), (2, .ref (g.2.1 24 0))]) (by decide) rfl ?_
  refine im_sub (lv' := [(0, .ref (g.2.1 2 o0)), (1, .int a1), (2, .ref (g.2.1 24 0)), (3, .int (0 : Int32)), (4, .int q1.1)]) [2, 3, 4, 1, 0] rfl ?_
  exact (i_X2_holds_L9 X g hF hM hI FU) o0 a1 (0 : Int32) q1.1 ho0 q1.2
theorem c_X2_holds (l : Launch) (g : GT) (hI : GI g) (o0 : Nat) (a1 : Int32) (ho0 : o0 < cnt 2) (s0 : Sg) (r : (Int32 × Sg)) (hr : f_X2_holds o0 a1 s0 = some r) : Ct l yX2_holds cX2_holds 6 (some .boolean) 1 22 g [.ref (g.2.1 2 o0), .int a1, .ref (g.2.1 24 0)] s0 (embI r) := ct_of (by decide) hI (Nat.le_of_ble_eq_true rfl) (fun X hF hM => i_X2_holds X g hF hM hI o0 a1 ho0 s0) r hr
def f_X2_excuses_B2 (k2 : Nat → Int32 → Sg → Option (Int32 × Sg)) (o0 : Nat) (a2 : Int32) (s0 : Sg) : Option (Int32 × Sg) :=
  if (s0 2 o0 0) ≤ a2 then
  some ((0 : Int32), s0)
  else
  chk (gi a2 12) (
  if (s0 18 o0 a2.toNatClampNeg) = (88 : Int32) then
  Option.bind (f_X2_holds o0 a2 s0) fun q2 =>
  if q2.1 = 0 then
  k2 o0 (a2 + (1 : Int32)) q2.2
  else
  some ((1 : Int32), q2.2)
  else
  k2 o0 (a2 + (1 : Int32)) s0)
set_option maxRecDepth 4000 in
theorem i_X2_excuses_B2 (X : Cx) (g : GT) (hF : Fx X g RX2 cX2_excuses 3 2 47) (hM : FM X g (some .boolean)) (hI : GI g) (k2 : Nat → Int32 → Sg → Option (Int32 × Sg)) (hk2 : ∀ (o0 : Nat) (a2 : Int32) (ho0 : o0 < cnt 2) (s0 : Sg), Im X g 3 (Qm X g embI) s0 2 [(0, .ref (g.2.1 2 o0)), (1, .ref (g.2.1 24 0)), (2, .int a2)] [] (k2 o0 a2 s0)) (o0 : Nat) (a2 : Int32) (ho0 : o0 < cnt 2) (s0 : Sg) : Im X g 3 (Qm X g embI) s0 2 [(0, .ref (g.2.1 2 o0)), (1, .ref (g.2.1 24 0)), (2, .int a2)] [] (f_X2_excuses_B2 k2 o0 a2 s0) := by
  unfold f_X2_excuses_B2
  refine im_iload_n hF dX2_excuses_2 2 rfl ?_
  refine im_aload_n hF dX2_excuses_3 0 rfl ?_
  refine im_get hF (v := .int (s0 2 o0 0)) fl_2_30 (by decide) ho0 rfl dX2_excuses_4 ?_
  refine im_icmp_ge hF 38 dX2_excuses_7 (by decide) (fun _ => ?_) (fun _ => ?_)
  · refine im_iconst hF dX2_excuses_38 (v := (0 : Int32)) (by decide) ?_
    exact im_zret hF hM (by decide) dX2_excuses_39
  · refine im_aload_n hF dX2_excuses_10 0 rfl ?_
    refine im_get hF (v := .ref (g.2.1 18 o0)) fl_2_9 (by decide) ho0 rfl dX2_excuses_11 ?_
    refine im_iload_n hF dX2_excuses_14 2 rfl ?_
    refine im_iald hF ar_18 ho0 dX2_excuses_15 (fun h1 => ?_)
    refine im_bipush hF dX2_excuses_16 (v := (88 : Int32)) (by decide) ?_
    refine im_icmp_ne hF 32 dX2_excuses_18 (by decide) (fun _ => ?_) (fun _ => ?_)
    · refine im_aload_n hF dX2_excuses_21 0 rfl ?_
      refine im_iload_n hF dX2_excuses_22 2 rfl ?_
      refine im_aload_n hF dX2_excuses_23 1 rfl ?_
      refine im_callVI hF (As := [.int a2, .ref (g.2.1 24 0)]) (rest := []) my_X2_holds mv_X2_holds wl_591 (fun l r hr => c_X2_holds l g hI o0 a2 ho0 s0 r hr) ⟨by decide, by decide⟩ (by decide) ho0 ⟨_, rfl, rfl⟩ rfl rfl (Nat.le_of_ble_eq_true rfl) dX2_excuses_24 (fun q2 => ?_)
      refine im_if_eq hF 32 dX2_excuses_27 (by decide) (fun _ => ?_) (fun _ => ?_)
      · refine im_iinc hF dX2_excuses_32 (v := (a2 + (1 : Int32))) (lv' := [(2, .int (a2 + (1 : Int32))), (0, .ref (g.2.1 2 o0)), (1, .ref (g.2.1 24 0))]) 2 rfl rfl (by decide) rfl ?_
        refine im_goto hF 2 dX2_excuses_35 (by decide) ?_
        refine im_sub (lv' := [(0, .ref (g.2.1 2 o0)), (1, .ref (g.2.1 24 0)), (2, .int (a2 + (1 : Int32)))]) [1, 2, 0] rfl ?_
        exact hk2 o0 (a2 + (1 : Int32)) ho0 q2.2
      · refine im_iconst hF dX2_excuses_30 (v := (1 : Int32)) (by decide) ?_
        exact im_zret hF hM (by decide) dX2_excuses_31
    · refine im_iinc hF dX2_excuses_32 (v := (a2 + (1 : Int32))) (lv' := [(2, .int (a2 + (1 : Int32))), (0, .ref (g.2.1 2 o0)), (1, .ref (g.2.1 24 0))]) 2 rfl rfl (by decide) rfl ?_
      refine im_goto hF 2 dX2_excuses_35 (by decide) ?_
      refine im_sub (lv' := [(0, .ref (g.2.1 2 o0)), (1, .ref (g.2.1 24 0)), (2, .int (a2 + (1 : Int32)))]) [1, 2, 0] rfl ?_
      exact hk2 o0 (a2 + (1 : Int32)) ho0 s0
def f_X2_excuses_L2 : Nat → Nat → Int32 → Sg → Option (Int32 × Sg)
  | 0 => fun _ _ _ => none
  | n + 1 => fun o0 a2 s0 => f_X2_excuses_B2 (f_X2_excuses_L2 n) o0 a2 s0
theorem i_X2_excuses_L2 (X : Cx) (g : GT) (hF : Fx X g RX2 cX2_excuses 3 2 47) (hM : FM X g (some .boolean)) (hI : GI g) : ∀ (n : Nat) (o0 : Nat) (a2 : Int32) (ho0 : o0 < cnt 2) (s0 : Sg), Im X g 3 (Qm X g embI) s0 2 [(0, .ref (g.2.1 2 o0)), (1, .ref (g.2.1 24 0)), (2, .int a2)] [] (f_X2_excuses_L2 n o0 a2 s0) := by
  intro n
  induction n with
  | zero => intros; exact im_none
  | succ n ih => intro o0 a2 ho0 s0; exact i_X2_excuses_B2 X g hF hM hI (f_X2_excuses_L2 n) ih o0 a2 ho0 s0
def f_X2_excuses (o0 : Nat) (s0 : Sg) : Option (Int32 × Sg) :=
  (f_X2_excuses_L2 FU) o0 (0 : Int32) s0
set_option maxRecDepth 4000 in
theorem i_X2_excuses (X : Cx) (g : GT) (hF : Fx X g RX2 cX2_excuses 3 2 47) (hM : FM X g (some .boolean)) (hI : GI g) (o0 : Nat) (ho0 : o0 < cnt 2) (s0 : Sg) : Im X g 3 (Qm X g embI) s0 0 [(0, .ref (g.2.1 2 o0)), (1, .ref (g.2.1 24 0))] [] (f_X2_excuses o0 s0) := by
  unfold f_X2_excuses
  refine im_iconst hF dX2_excuses_0 (v := (0 : Int32)) (by decide) ?_
  refine im_istore_n hF dX2_excuses_1 (lv' := [(2, .int (0 : Int32)), (0, .ref (g.2.1 2 o0)), (1, .ref (g.2.1 24 0))]) rfl (by decide) rfl ?_
  refine im_sub (lv' := [(0, .ref (g.2.1 2 o0)), (1, .ref (g.2.1 24 0)), (2, .int (0 : Int32))]) [1, 2, 0] rfl ?_
  exact (i_X2_excuses_L2 X g hF hM hI FU) o0 (0 : Int32) ho0 s0
theorem c_X2_excuses (l : Launch) (g : GT) (hI : GI g) (o0 : Nat) (ho0 : o0 < cnt 2) (s0 : Sg) (r : (Int32 × Sg)) (hr : f_X2_excuses o0 s0 = some r) : Ct l yX2_excuses cX2_excuses 3 (some .boolean) 2 47 g [.ref (g.2.1 2 o0), .ref (g.2.1 24 0)] s0 (embI r) := ct_of (by decide) hI (Nat.le_of_ble_eq_true rfl) (fun X hF hM => i_X2_excuses X g hF hM hI o0 ho0 s0) r hr
def f_X3_isExcused (a2 : Int32) (a3 : Int32) (s0 : Sg) : Option (Int32 × Sg) :=
  chk (gi a2 10) (
  chk (gi a2 10) (
  bdI (s0 6 a2.toNatClampNeg 5) fun x3 =>
  Option.bind (f_X8_lateAt a2.toNatClampNeg (x3 + (1 : Int32)) a3 s0) fun q4 =>
  chk (gi (0 : Int32) 5) (bdS (up3 q4.2 24 0 (0 : Int32).toNatClampNeg q4.1) fun s6 =>
  chk (gi x3 7) (
  chk (gi (1 : Int32) 5) (bdS (up3 s6 24 0 (1 : Int32).toNatClampNeg (s6 32 a2.toNatClampNeg x3.toNatClampNeg)) fun s9 =>
  chk (gi x3 6) (
  chk (gi x3 7) (
  Option.bind (f_X1_windIn (s9 37 a2.toNatClampNeg x3.toNatClampNeg) (s9 31 a2.toNatClampNeg x3.toNatClampNeg) s9) fun q12 =>
  chk (gi (2 : Int32) 5) (bdS (up3 q12.2 24 0 (2 : Int32).toNatClampNeg q12.1) fun s14 =>
  chk (gi x3 6) (
  chk (gi (3 : Int32) 5) (bdS (up3 s14 24 0 (3 : Int32).toNatClampNeg (s14 39 a2.toNatClampNeg x3.toNatClampNeg)) fun s17 =>
  Option.bind (f_X9_monthOf a3 s17) fun q18 =>
  chk (gi (4 : Int32) 5) (bdS (up3 q18.2 24 0 (4 : Int32).toNatClampNeg q18.1) fun s20 =>
  chk (gi (s20 8 a2.toNatClampNeg 0) 4) (chk (decide ((s20 12 0 (s20 8 a2.toNatClampNeg 0).toNatClampNeg).toNatClampNeg < 5)) (
  Option.bind (f_X2_excuses ((s20 12 0 (s20 8 a2.toNatClampNeg 0).toNatClampNeg).toNatClampNeg) s20) fun q23 =>
  chk (b01 q23.1) (some (q23.1, q23.2)))))))))))))))
set_option maxRecDepth 4000 in
theorem i_X3_isExcused (X : Cx) (g : GT) (hF : Fx X g RX3 cX3_isExcused 7 3 69) (hM : FM X g (some .boolean)) (hI : GI g) (a2 : Int32) (a3 : Int32) (s0 : Sg) : Im X g 7 (Qm X g embI) s0 0 [(0, .ref (g.2.1 3 0)), (1, .ref (g.2.1 0 0)), (2, .int a2), (3, .int a3)] [] (f_X3_isExcused a2 a3 s0) := by
  unfold f_X3_isExcused
  refine im_aload_n hF dX3_isExcused_0 1 rfl ?_
  refine im_get hF (v := .ref (g.2.1 11 0)) fl_3_32 (by decide) (by decide) rfl dX3_isExcused_1 ?_
  refine im_iload_n hF dX3_isExcused_4 2 rfl ?_
  refine im_aald11 hF dX3_isExcused_5 (fun h1 => ?_)
  refine im_astore hF dX3_isExcused_6 (lv' := [(4, .ref (g.2.1 8 a2.toNatClampNeg)), (0, .ref (g.2.1 3 0)), (1, .ref (g.2.1 0 0)), (2, .int a2), (3, .int a3)]) (by decide) rfl ?_
  refine im_aload_n hF dX3_isExcused_8 1 rfl ?_
  refine im_get hF (v := .ref (g.2.1 13 0)) fl_3_11 (by decide) (by decide) rfl dX3_isExcused_9 ?_
  refine im_iload_n hF dX3_isExcused_12 3 rfl ?_
  refine im_aald13 hF dX3_isExcused_13 (fun h2 => ?_)
  refine im_astore hF dX3_isExcused_14 (lv' := [(5, .ref (g.2.1 6 a2.toNatClampNeg)), (4, .ref (g.2.1 8 a2.toNatClampNeg)), (0, .ref (g.2.1 3 0)), (1, .ref (g.2.1 0 0)), (2, .int a2), (3, .int a3)]) (by decide) rfl ?_
  refine im_aload hF dX3_isExcused_16 0 rfl ?_
  refine im_get hF (v := .int (s0 6 a2.toNatClampNeg 5)) fl_3_71 (by decide) (gi_lt h2) rfl dX3_isExcused_18 ?_
  refine im_bdI (fun x3 => ?_)
  refine im_istore hF dX3_isExcused_21 (lv' := [(6, .int x3), (5, .ref (g.2.1 6 a2.toNatClampNeg)), (4, .ref (g.2.1 8 a2.toNatClampNeg)), (0, .ref (g.2.1 3 0)), (1, .ref (g.2.1 0 0)), (2, .int a2), (3, .int a3)]) (by decide) rfl ?_
  refine im_aload_n hF dX3_isExcused_23 3 rfl ?_
  refine im_get hF (v := .ref (g.2.1 24 0)) fl_3_18 (by decide) (by decide) rfl dX3_isExcused_24 ?_
  refine im_iconst hF dX3_isExcused_27 (v := (0 : Int32)) (by decide) ?_
  refine im_aload hF dX3_isExcused_28 2 rfl ?_
  refine im_iload hF dX3_isExcused_30 0 rfl ?_
  refine im_iconst hF dX3_isExcused_32 (v := (1 : Int32)) (by decide) ?_
  refine im_iadd hF dX3_isExcused_33 ?_
  refine im_iload_n hF dX3_isExcused_34 6 rfl ?_
  refine im_callVI hF (As := [.int (x3 + (1 : Int32)), .int a3]) (rest := [.int (0 : Int32), .ref (g.2.1 24 0)]) my_X8_lateAt mv_X8_lateAt wl_572 (fun l r hr => c_X8_lateAt l g hI a2.toNatClampNeg (x3 + (1 : Int32)) a3 (gi_lt h1) s0 r hr) ⟨by decide, by decide⟩ (by decide) (gi_lt h1) ⟨_, rfl, rfl⟩ rfl rfl (Nat.le_of_ble_eq_true rfl) dX3_isExcused_35 (fun q4 => ?_)
  refine im_iast hF ar_24 (by decide) dX3_isExcused_38 (fun h5 => im_bdS (fun s6 => ?_))
  refine im_aload_n hF dX3_isExcused_39 3 rfl ?_
  refine im_get hF (v := .ref (g.2.1 24 0)) fl_3_18 (by decide) (by decide) rfl dX3_isExcused_40 ?_
  refine im_iconst hF dX3_isExcused_43 (v := (1 : Int32)) (by decide) ?_
  refine im_aload hF dX3_isExcused_44 1 rfl ?_
  refine im_get hF (v := .ref (g.2.1 32 a2.toNatClampNeg)) fl_3_122 (by decide) (gi_lt h2) rfl dX3_isExcused_46 ?_
  refine im_iload hF dX3_isExcused_49 0 rfl ?_
  refine im_iald hF ar_32 (gi_lt h2) dX3_isExcused_51 (fun h7 => ?_)
  refine im_iast hF ar_24 (by decide) dX3_isExcused_52 (fun h8 => im_bdS (fun s9 => ?_))
  refine im_aload_n hF dX3_isExcused_53 3 rfl ?_
  refine im_get hF (v := .ref (g.2.1 24 0)) fl_3_18 (by decide) (by decide) rfl dX3_isExcused_54 ?_
  refine im_iconst hF dX3_isExcused_57 (v := (2 : Int32)) (by decide) ?_
  refine im_aload_n hF dX3_isExcused_58 4 rfl ?_
  refine im_get hF (v := .ref (g.2.1 1 0)) fl_3_125 (by decide) (by decide) rfl dX3_isExcused_59 ?_
  refine im_aload hF dX3_isExcused_62 2 rfl ?_
  refine im_get hF (v := .ref (g.2.1 37 a2.toNatClampNeg)) fl_3_129 (by decide) (gi_lt h1) rfl dX3_isExcused_64 ?_
  refine im_iload hF dX3_isExcused_67 0 rfl ?_
  refine im_iald hF ar_37 (gi_lt h1) dX3_isExcused_69 (fun h10 => ?_)
  refine im_aload hF dX3_isExcused_70 1 rfl ?_
  refine im_get hF (v := .ref (g.2.1 31 a2.toNatClampNeg)) fl_3_74 (by decide) (gi_lt h2) rfl dX3_isExcused_72 ?_
  refine im_iload hF dX3_isExcused_75 0 rfl ?_
  refine im_iald hF ar_31 (gi_lt h2) dX3_isExcused_77 (fun h11 => ?_)
  refine im_callVI hF (As := [.int (s9 37 a2.toNatClampNeg x3.toNatClampNeg), .int (s9 31 a2.toNatClampNeg x3.toNatClampNeg)]) (rest := [.int (2 : Int32), .ref (g.2.1 24 0)]) my_X1_windIn mv_X1_windIn wl_579 (fun l r hr => c_X1_windIn l g hI (s9 37 a2.toNatClampNeg x3.toNatClampNeg) (s9 31 a2.toNatClampNeg x3.toNatClampNeg) s9 r hr) ⟨by decide, by decide⟩ (by decide) (by decide) ⟨_, rfl, rfl⟩ rfl rfl (Nat.le_of_ble_eq_true rfl) dX3_isExcused_78 (fun q12 => ?_)
  refine im_iast hF ar_24 (by decide) dX3_isExcused_81 (fun h13 => im_bdS (fun s14 => ?_))
  refine im_aload_n hF dX3_isExcused_82 3 rfl ?_
  refine im_get hF (v := .ref (g.2.1 24 0)) fl_3_18 (by decide) (by decide) rfl dX3_isExcused_83 ?_
  refine im_iconst hF dX3_isExcused_86 (v := (3 : Int32)) (by decide) ?_
  refine im_aload hF dX3_isExcused_87 2 rfl ?_
  refine im_get hF (v := .ref (g.2.1 39 a2.toNatClampNeg)) fl_3_137 (by decide) (gi_lt h1) rfl dX3_isExcused_89 ?_
  refine im_iload hF dX3_isExcused_92 0 rfl ?_
  refine im_iald hF ar_39 (gi_lt h1) dX3_isExcused_94 (fun h15 => ?_)
  refine im_iast hF ar_24 (by decide) dX3_isExcused_95 (fun h16 => im_bdS (fun s17 => ?_))
  refine im_aload_n hF dX3_isExcused_96 3 rfl ?_
  refine im_get hF (v := .ref (g.2.1 24 0)) fl_3_18 (by decide) (by decide) rfl dX3_isExcused_97 ?_
  refine im_iconst hF dX3_isExcused_100 (v := (4 : Int32)) (by decide) ?_
  refine im_iload_n hF dX3_isExcused_101 6 rfl ?_
  refine im_callNI hF (As := [.int a3]) (rest := [.int (4 : Int32), .ref (g.2.1 24 0)]) my_X9_monthOf ms_X9_monthOf nest_3 (fun l r hr => c_X9_monthOf l g hI a3 s17 r hr) ⟨by decide, by decide⟩ rfl rfl (Nat.le_of_ble_eq_true rfl) dX3_isExcused_102 (fun q18 => ?_)
  refine im_iast hF ar_24 (by decide) dX3_isExcused_105 (fun h19 => im_bdS (fun s20 => ?_))
  refine im_aload_n hF dX3_isExcused_106 4 rfl ?_
  refine im_get hF (v := .ref (g.2.1 12 0)) fl_3_143 (by decide) (by decide) rfl dX3_isExcused_107 ?_
  refine im_aload hF dX3_isExcused_110 2 rfl ?_
  refine im_get hF (v := .int (s20 8 a2.toNatClampNeg 0)) fl_3_89 (by decide) (gi_lt h1) rfl dX3_isExcused_112 ?_
  refine im_aald12 hF dX3_isExcused_115 (fun h21 => ?_)
  refine im_chk (fun h22 => ?_)
  refine im_aload_n hF dX3_isExcused_116 3 rfl ?_
  refine im_get hF (v := .ref (g.2.1 24 0)) fl_3_18 (by decide) (by decide) rfl dX3_isExcused_117 ?_
  refine im_callVI hF (As := [.ref (g.2.1 24 0)]) (rest := []) my_X2_excuses mv_X2_excuses wl_587 (fun l r hr => c_X2_excuses l g hI ((s20 12 0 (s20 8 a2.toNatClampNeg 0).toNatClampNeg).toNatClampNeg) (of_decide_eq_true h22) s20 r hr) ⟨by decide, by decide⟩ (by decide) (of_decide_eq_true h22) ⟨_, rfl, rfl⟩ rfl rfl (Nat.le_of_ble_eq_true rfl) dX3_isExcused_120 (fun q23 => ?_)
  exact im_chk (fun h24 => im_zret hF hM (b01_or h24) dX3_isExcused_123)
theorem c_X3_isExcused (l : Launch) (g : GT) (hI : GI g) (a2 : Int32) (a3 : Int32) (s0 : Sg) (r : (Int32 × Sg)) (hr : f_X3_isExcused a2 a3 s0 = some r) : Ct l yX3_isExcused cX3_isExcused 7 (some .boolean) 3 69 g [.ref (g.2.1 3 0), .ref (g.2.1 0 0), .int a2, .int a3] s0 (embI r) := ct_of (by decide) hI (Nat.le_of_ble_eq_true rfl) (fun X hF hM => i_X3_isExcused X g hF hM hI a2 a3 s0) r hr
def f_X6_writeDownShares_B2 (k2 : Nat → Int32 → Int32 → Sg → Option Sg) (o0 : Nat) (a1 : Int32) (a2 : Int32) (s0 : Sg) : Option Sg :=
  if (5 : Int32) ≤ a2 then
  some s0
  else
  chk (gi a2 5) (
  chk (gi ((a1 * (5 : Int32)) + a2) 35) (bdS (up3 s0 33 o0 ((a1 * (5 : Int32)) + a2).toNatClampNeg (s0 34 o0 a2.toNatClampNeg)) fun s3 =>
  k2 o0 a1 (a2 + (1 : Int32)) s3))
set_option maxRecDepth 4000 in
theorem i_X6_writeDownShares_B2 (X : Cx) (g : GT) (hF : Fx X g RX6 cX6_writeDownShares 3 0 0) (hM : FM X g none) (hI : GI g) (k2 : Nat → Int32 → Int32 → Sg → Option Sg) (hk2 : ∀ (o0 : Nat) (a1 : Int32) (a2 : Int32) (ho0 : o0 < cnt 6) (s0 : Sg), Im X g 3 (Qm X g embV) s0 2 [(0, .ref (g.2.1 6 o0)), (1, .int a1), (2, .int a2)] [] (k2 o0 a1 a2 s0)) (o0 : Nat) (a1 : Int32) (a2 : Int32) (ho0 : o0 < cnt 6) (s0 : Sg) : Im X g 3 (Qm X g embV) s0 2 [(0, .ref (g.2.1 6 o0)), (1, .int a1), (2, .int a2)] [] (f_X6_writeDownShares_B2 k2 o0 a1 a2 s0) := by
  unfold f_X6_writeDownShares_B2
  refine im_iload_n hF dX6_writeDownShares_2 2 rfl ?_
  refine im_iconst hF dX6_writeDownShares_3 (v := (5 : Int32)) (by decide) ?_
  refine im_icmp_ge hF 29 dX6_writeDownShares_4 (by decide) (fun _ => ?_) (fun _ => ?_)
  · exact im_vret hF hM dX6_writeDownShares_29
  · refine im_aload_n hF dX6_writeDownShares_7 0 rfl ?_
    refine im_get hF (v := .ref (g.2.1 33 o0)) fl_6_21 (by decide) ho0 rfl dX6_writeDownShares_8 ?_
    refine im_iload_n hF dX6_writeDownShares_11 1 rfl ?_
    refine im_iconst hF dX6_writeDownShares_12 (v := (5 : Int32)) (by decide) ?_
    refine im_imul hF dX6_writeDownShares_13 ?_
    refine im_iload_n hF dX6_writeDownShares_14 2 rfl ?_
    refine im_iadd hF dX6_writeDownShares_15 ?_
    refine im_aload_n hF dX6_writeDownShares_16 0 rfl ?_
    refine im_get hF (v := .ref (g.2.1 34 o0)) fl_6_24 (by decide) ho0 rfl dX6_writeDownShares_17 ?_
    refine im_iload_n hF dX6_writeDownShares_20 2 rfl ?_
    refine im_iald hF ar_34 ho0 dX6_writeDownShares_21 (fun h1 => ?_)
    refine im_iast hF ar_33 ho0 dX6_writeDownShares_22 (fun h2 => im_bdS (fun s3 => ?_))
    refine im_iinc hF dX6_writeDownShares_23 (v := (a2 + (1 : Int32))) (lv' := [(2, .int (a2 + (1 : Int32))), (0, .ref (g.2.1 6 o0)), (1, .int a1)]) 2 rfl rfl (by decide) rfl ?_
    refine im_goto hF 2 dX6_writeDownShares_26 (by decide) ?_
    refine im_sub (lv' := [(0, .ref (g.2.1 6 o0)), (1, .int a1), (2, .int (a2 + (1 : Int32)))]) [1, 2, 0] rfl ?_
    exact hk2 o0 a1 (a2 + (1 : Int32)) ho0 s3
def f_X6_writeDownShares_L2 : Nat → Nat → Int32 → Int32 → Sg → Option Sg
  | 0 => fun _ _ _ _ => none
  | n + 1 => fun o0 a1 a2 s0 => f_X6_writeDownShares_B2 (f_X6_writeDownShares_L2 n) o0 a1 a2 s0
theorem i_X6_writeDownShares_L2 (X : Cx) (g : GT) (hF : Fx X g RX6 cX6_writeDownShares 3 0 0) (hM : FM X g none) (hI : GI g) : ∀ (n : Nat) (o0 : Nat) (a1 : Int32) (a2 : Int32) (ho0 : o0 < cnt 6) (s0 : Sg), Im X g 3 (Qm X g embV) s0 2 [(0, .ref (g.2.1 6 o0)), (1, .int a1), (2, .int a2)] [] (f_X6_writeDownShares_L2 n o0 a1 a2 s0) := by
  intro n
  induction n with
  | zero => intros; exact im_none
  | succ n ih => intro o0 a1 a2 ho0 s0; exact i_X6_writeDownShares_B2 X g hF hM hI (f_X6_writeDownShares_L2 n) ih o0 a1 a2 ho0 s0
def f_X6_writeDownShares (o0 : Nat) (a1 : Int32) (s0 : Sg) : Option Sg :=
  (f_X6_writeDownShares_L2 FU) o0 a1 (0 : Int32) s0
set_option maxRecDepth 4000 in
theorem i_X6_writeDownShares (X : Cx) (g : GT) (hF : Fx X g RX6 cX6_writeDownShares 3 0 0) (hM : FM X g none) (hI : GI g) (o0 : Nat) (a1 : Int32) (ho0 : o0 < cnt 6) (s0 : Sg) : Im X g 3 (Qm X g embV) s0 0 [(0, .ref (g.2.1 6 o0)), (1, .int a1)] [] (f_X6_writeDownShares o0 a1 s0) := by
  unfold f_X6_writeDownShares
  refine im_iconst hF dX6_writeDownShares_0 (v := (0 : Int32)) (by decide) ?_
  refine im_istore_n hF dX6_writeDownShares_1 (lv' := [(2, .int (0 : Int32)), (0, .ref (g.2.1 6 o0)), (1, .int a1)]) rfl (by decide) rfl ?_
  refine im_sub (lv' := [(0, .ref (g.2.1 6 o0)), (1, .int a1), (2, .int (0 : Int32))]) [1, 2, 0] rfl ?_
  exact (i_X6_writeDownShares_L2 X g hF hM hI FU) o0 a1 (0 : Int32) ho0 s0
theorem c_X6_writeDownShares (l : Launch) (g : GT) (hI : GI g) (o0 : Nat) (a1 : Int32) (ho0 : o0 < cnt 6) (s0 : Sg) (r : Sg) (hr : f_X6_writeDownShares o0 a1 s0 = some r) : Ct l yX6_writeDownShares cX6_writeDownShares 3 none 0 0 g [.ref (g.2.1 6 o0), .int a1] s0 (embV r) := ct_of (by decide) hI (Nat.le_of_ble_eq_true rfl) (fun X hF hM => i_X6_writeDownShares X g hF hM hI o0 a1 ho0 s0) r hr
def f_X6_takeFrom (o0 : Nat) (a1 : Int32) (a2 : Int32) (s0 : Sg) : Option (Int32 × Sg) :=
  chk (gi a1 5) (
  bdI (if a2 < (s0 34 o0 a1.toNatClampNeg) then a2 else (s0 34 o0 a1.toNatClampNeg)) fun x2 =>
  chk (gi a1 5) (
  chk (gi a1 5) (bdS (up3 s0 34 o0 a1.toNatClampNeg ((s0 34 o0 a1.toNatClampNeg) - x2)) fun s5 =>
  some ((a2 - x2), s5))))
set_option maxRecDepth 4000 in
theorem i_X6_takeFrom (X : Cx) (g : GT) (hF : Fx X g RX6 cX6_takeFrom 4 1 21) (hM : FM X g (some .int)) (hI : GI g) (o0 : Nat) (a1 : Int32) (a2 : Int32) (ho0 : o0 < cnt 6) (s0 : Sg) : Im X g 4 (Qm X g embI) s0 0 [(0, .ref (g.2.1 6 o0)), (1, .int a1), (2, .int a2)] [] (f_X6_takeFrom o0 a1 a2 s0) := by
  unfold f_X6_takeFrom
  refine im_aload_n hF dX6_takeFrom_0 0 rfl ?_
  refine im_get hF (v := .ref (g.2.1 34 o0)) fl_6_24 (by decide) ho0 rfl dX6_takeFrom_1 ?_
  refine im_iload_n hF dX6_takeFrom_4 1 rfl ?_
  refine im_iald hF ar_34 ho0 dX6_takeFrom_5 (fun h1 => ?_)
  refine im_iload_n hF dX6_takeFrom_6 2 rfl ?_
  refine im_mmin hF wl_611 (by decide) (by decide) (Nat.le_of_ble_eq_true rfl) mm_min dX6_takeFrom_7 ?_
  refine im_bdI (fun x2 => ?_)
  refine im_istore_n hF dX6_takeFrom_10 (lv' := [(3, .int x2), (0, .ref (g.2.1 6 o0)), (1, .int a1), (2, .int a2)]) rfl (by decide) rfl ?_
  refine im_aload_n hF dX6_takeFrom_11 1 rfl ?_
  refine im_get hF (v := .ref (g.2.1 34 o0)) fl_6_24 (by decide) ho0 rfl dX6_takeFrom_12 ?_
  refine im_iload_n hF dX6_takeFrom_15 2 rfl ?_
  refine im_dup2 hF dX6_takeFrom_16 rfl rfl ?_
  refine im_iald hF ar_34 ho0 dX6_takeFrom_17 (fun h3 => ?_)
  refine im_iload_n hF dX6_takeFrom_18 0 rfl ?_
  refine im_isub hF dX6_takeFrom_19 ?_
  refine im_iast hF ar_34 ho0 dX6_takeFrom_20 (fun h4 => im_bdS (fun s5 => ?_))
  refine im_iload_n hF dX6_takeFrom_21 3 rfl ?_
  refine im_iload_n hF dX6_takeFrom_22 0 rfl ?_
  refine im_isub hF dX6_takeFrom_23 ?_
  exact im_iret hF hM dX6_takeFrom_24
theorem c_X6_takeFrom (l : Launch) (g : GT) (hI : GI g) (o0 : Nat) (a1 : Int32) (a2 : Int32) (ho0 : o0 < cnt 6) (s0 : Sg) (r : (Int32 × Sg)) (hr : f_X6_takeFrom o0 a1 a2 s0 = some r) : Ct l yX6_takeFrom cX6_takeFrom 4 (some .int) 1 21 g [.ref (g.2.1 6 o0), .int a1, .int a2] s0 (embI r) := ct_of (by decide) hI (Nat.le_of_ble_eq_true rfl) (fun X hF hM => i_X6_takeFrom X g hF hM hI o0 a1 a2 ho0 s0) r hr
def f_X6_makeUp_B19 (k19 : Nat → Int32 → Int32 → Sg → Option Sg) (o0 : Nat) (a3 : Int32) (a4 : Int32) (s0 : Sg) : Option Sg :=
  if (4 : Int32) ≤ a4 then
  some s0
  else
  Option.bind (f_X6_takeFrom o0 ((1 : Int32) + a4) a3 s0) fun q1 =>
  k19 o0 q1.1 (a4 + (1 : Int32)) q1.2
set_option maxRecDepth 4000 in
theorem i_X6_makeUp_B19 (X : Cx) (g : GT) (hF : Fx X g RX6 cX6_makeUp 5 2 44) (hM : FM X g none) (hI : GI g) (k19 : Nat → Int32 → Int32 → Sg → Option Sg) (hk19 : ∀ (o0 : Nat) (a3 : Int32) (a4 : Int32) (ho0 : o0 < cnt 6) (s0 : Sg), Im X g 5 (Qm X g embV) s0 19 [(0, .ref (g.2.1 6 o0)), (3, .int a3), (4, .int a4)] [] (k19 o0 a3 a4 s0)) (o0 : Nat) (a3 : Int32) (a4 : Int32) (ho0 : o0 < cnt 6) (s0 : Sg) : Im X g 5 (Qm X g embV) s0 19 [(0, .ref (g.2.1 6 o0)), (3, .int a3), (4, .int a4)] [] (f_X6_makeUp_B19 k19 o0 a3 a4 s0) := by
  unfold f_X6_makeUp_B19
  refine im_iload hF dX6_makeUp_19 2 rfl ?_
  refine im_iconst hF dX6_makeUp_21 (v := (4 : Int32)) (by decide) ?_
  refine im_icmp_ge hF 41 dX6_makeUp_22 (by decide) (fun _ => ?_) (fun _ => ?_)
  · exact im_vret hF hM dX6_makeUp_41
  · refine im_aload_n hF dX6_makeUp_25 0 rfl ?_
    refine im_iconst hF dX6_makeUp_26 (v := (1 : Int32)) (by decide) ?_
    refine im_iload hF dX6_makeUp_27 2 rfl ?_
    refine im_iadd hF dX6_makeUp_29 ?_
    refine im_iload_n hF dX6_makeUp_30 1 rfl ?_
    refine im_callVI hF (As := [.int ((1 : Int32) + a4), .int a3]) (rest := []) my_X6_takeFrom mv_X6_takeFrom wl_607 (fun l r hr => c_X6_takeFrom l g hI o0 ((1 : Int32) + a4) a3 ho0 s0 r hr) ⟨by decide, by decide⟩ (by decide) ho0 ⟨_, rfl, rfl⟩ rfl rfl (Nat.le_of_ble_eq_true rfl) dX6_makeUp_31 (fun q1 => ?_)
    refine im_istore_n hF dX6_makeUp_34 (lv' := [(3, .int q1.1), (0, .ref (g.2.1 6 o0)), (4, .int a4)]) rfl (by decide) rfl ?_
    refine im_iinc hF dX6_makeUp_35 (v := (a4 + (1 : Int32))) (lv' := [(4, .int (a4 + (1 : Int32))), (3, .int q1.1), (0, .ref (g.2.1 6 o0))]) 2 rfl rfl (by decide) rfl ?_
    refine im_goto hF 19 dX6_makeUp_38 (by decide) ?_
    refine im_sub (lv' := [(0, .ref (g.2.1 6 o0)), (3, .int q1.1), (4, .int (a4 + (1 : Int32)))]) [2, 1, 0] rfl ?_
    exact hk19 o0 q1.1 (a4 + (1 : Int32)) ho0 q1.2
def f_X6_makeUp_L19 : Nat → Nat → Int32 → Int32 → Sg → Option Sg
  | 0 => fun _ _ _ _ => none
  | n + 1 => fun o0 a3 a4 s0 => f_X6_makeUp_B19 (f_X6_makeUp_L19 n) o0 a3 a4 s0
theorem i_X6_makeUp_L19 (X : Cx) (g : GT) (hF : Fx X g RX6 cX6_makeUp 5 2 44) (hM : FM X g none) (hI : GI g) : ∀ (n : Nat) (o0 : Nat) (a3 : Int32) (a4 : Int32) (ho0 : o0 < cnt 6) (s0 : Sg), Im X g 5 (Qm X g embV) s0 19 [(0, .ref (g.2.1 6 o0)), (3, .int a3), (4, .int a4)] [] (f_X6_makeUp_L19 n o0 a3 a4 s0) := by
  intro n
  induction n with
  | zero => intros; exact im_none
  | succ n ih => intro o0 a3 a4 ho0 s0; exact i_X6_makeUp_B19 X g hF hM hI (f_X6_makeUp_L19 n) ih o0 a3 a4 ho0 s0
def f_X6_makeUp (o0 : Nat) (a1 : Int32) (a2 : Int32) (s0 : Sg) : Option Sg :=
  Option.bind (f_X6_takeFrom o0 (0 : Int32) a1 s0) fun q1 =>
  Option.bind (f_X6_takeFrom o0 ((1 : Int32) + a2) q1.1 q1.2) fun q2 =>
  (f_X6_makeUp_L19 FU) o0 q2.1 (0 : Int32) q2.2
set_option maxRecDepth 4000 in
theorem i_X6_makeUp (X : Cx) (g : GT) (hF : Fx X g RX6 cX6_makeUp 5 2 44) (hM : FM X g none) (hI : GI g) (o0 : Nat) (a1 : Int32) (a2 : Int32) (ho0 : o0 < cnt 6) (s0 : Sg) : Im X g 5 (Qm X g embV) s0 0 [(0, .ref (g.2.1 6 o0)), (1, .int a1), (2, .int a2)] [] (f_X6_makeUp o0 a1 a2 s0) := by
  unfold f_X6_makeUp
  refine im_aload_n hF dX6_makeUp_0 0 rfl ?_
  refine im_iconst hF dX6_makeUp_1 (v := (0 : Int32)) (by decide) ?_
  refine im_iload_n hF dX6_makeUp_2 1 rfl ?_
  refine im_callVI hF (As := [.int (0 : Int32), .int a1]) (rest := []) my_X6_takeFrom mv_X6_takeFrom wl_607 (fun l r hr => c_X6_takeFrom l g hI o0 (0 : Int32) a1 ho0 s0 r hr) ⟨by decide, by decide⟩ (by decide) ho0 ⟨_, rfl, rfl⟩ rfl rfl (Nat.le_of_ble_eq_true rfl) dX6_makeUp_3 (fun q1 => ?_)
  refine im_istore_n hF dX6_makeUp_6 (lv' := [(3, .int q1.1), (0, .ref (g.2.1 6 o0)), (1, .int a1), (2, .int a2)]) rfl (by decide) rfl ?_
  refine im_aload_n hF dX6_makeUp_7 1 rfl ?_
  refine im_iconst hF dX6_makeUp_8 (v := (1 : Int32)) (by decide) ?_
  refine im_iload_n hF dX6_makeUp_9 3 rfl ?_
  refine im_iadd hF dX6_makeUp_10 ?_
  refine im_iload_n hF dX6_makeUp_11 0 rfl ?_
  refine im_callVI hF (As := [.int ((1 : Int32) + a2), .int q1.1]) (rest := []) my_X6_takeFrom mv_X6_takeFrom wl_607 (fun l r hr => c_X6_takeFrom l g hI o0 ((1 : Int32) + a2) q1.1 ho0 q1.2 r hr) ⟨by decide, by decide⟩ (by decide) ho0 ⟨_, rfl, rfl⟩ rfl rfl (Nat.le_of_ble_eq_true rfl) dX6_makeUp_12 (fun q2 => ?_)
  refine im_istore_n hF dX6_makeUp_15 (lv' := [(3, .int q2.1), (0, .ref (g.2.1 6 o0)), (1, .int a1), (2, .int a2)]) rfl (by decide) rfl ?_
  refine im_iconst hF dX6_makeUp_16 (v := (0 : Int32)) (by decide) ?_
  refine im_istore hF dX6_makeUp_17 (lv' := [(4, .int (0 : Int32)), (3, .int q2.1), (0, .ref (g.2.1 6 o0)), (1, .int a1), (2, .int a2)]) (by decide) rfl ?_
  refine im_sub (lv' := [(0, .ref (g.2.1 6 o0)), (3, .int q2.1), (4, .int (0 : Int32))]) [2, 1, 0] rfl ?_
  exact (i_X6_makeUp_L19 X g hF hM hI FU) o0 q2.1 (0 : Int32) ho0 q2.2
theorem c_X6_makeUp (l : Launch) (g : GT) (hI : GI g) (o0 : Nat) (a1 : Int32) (a2 : Int32) (ho0 : o0 < cnt 6) (s0 : Sg) (r : Sg) (hr : f_X6_makeUp o0 a1 a2 s0 = some r) : Ct l yX6_makeUp cX6_makeUp 5 none 2 44 g [.ref (g.2.1 6 o0), .int a1, .int a2] s0 (embV r) := ct_of (by decide) hI (Nat.le_of_ble_eq_true rfl) (fun X hF hM => i_X6_makeUp X g hF hM hI o0 a1 a2 ho0 s0) r hr
def f_X3_comeIn_B169 (os0 : Nat) (as1 : Int32) (s0 : Sg) : Option Sg :=
  Option.bind (f_X6_lieInPort os0 as1 s0) fun q1 =>
  some q1
set_option maxRecDepth 4000 in
theorem i_X3_comeIn_B169 (X : Cx) (g : GT) (hF : Fx X g RX3 cX3_comeIn 10 4 95) (hM : FM X g none) (hI : GI g) (os0 : Nat) (as1 : Int32) (hos0 : os0 < cnt 6) (s0 : Sg) : Im X g 10 (Qm X g embV) s0 169 [] [.int as1, .ref (g.2.1 6 os0)] (f_X3_comeIn_B169 os0 as1 s0) := by
  unfold f_X3_comeIn_B169
  refine im_callVV hF (As := [.int as1]) (rest := []) my_X6_lieInPort mv_X6_lieInPort wl_618 (fun l r hr => c_X6_lieInPort l g hI os0 as1 hos0 s0 r hr) ⟨by decide, by decide⟩ (by decide) hos0 ⟨_, rfl, rfl⟩ rfl rfl (Nat.le_of_ble_eq_true rfl) dX3_comeIn_169 (fun q1 => ?_)
  exact im_vret hF hM dX3_comeIn_172
def f_X3_comeIn_B101 (a3 : Int32) (o4 : Nat) (o5 : Nat) (a6 : Int32) (s0 : Sg) : Option Sg :=
  bdI (a6 + (1 : Int32)) fun x1 =>
  bdS (up3 s0 6 o5 5 x1) fun s2 =>
  chk (gi x1 7) (bdS (up3 s2 30 o5 x1.toNatClampNeg a3) fun s4 =>
  Option.bind (f_X6_writeDownShares o5 x1 s4) fun q5 =>
  Option.bind (f_X8_leavesFrom o4 x1 q5) fun q6 =>
  if q6.1 = 0 then
  (f_X3_comeIn_B169) o5 (1000000 : Int32) q6.2
  else
  chk (gi x1 7) (
  (f_X3_comeIn_B169) o5 (if (a3 + (q6.2 8 o4 2)) < (q6.2 43 o4 x1.toNatClampNeg) then (q6.2 43 o4 x1.toNatClampNeg) else (a3 + (q6.2 8 o4 2))) q6.2))
set_option maxRecDepth 4000 in
theorem i_X3_comeIn_B101 (X : Cx) (g : GT) (hF : Fx X g RX3 cX3_comeIn 10 4 95) (hM : FM X g none) (hI : GI g) (a3 : Int32) (o4 : Nat) (o5 : Nat) (a6 : Int32) (ho4 : o4 < cnt 8) (ho5 : o5 < cnt 6) (s0 : Sg) : Im X g 10 (Qm X g embV) s0 101 [(3, .int a3), (4, .ref (g.2.1 8 o4)), (5, .ref (g.2.1 6 o5)), (6, .int a6)] [] (f_X3_comeIn_B101 a3 o4 o5 a6 s0) := by
  unfold f_X3_comeIn_B101
  refine im_iload hF dX3_comeIn_101 3 rfl ?_
  refine im_iconst hF dX3_comeIn_103 (v := (1 : Int32)) (by decide) ?_
  refine im_iadd hF dX3_comeIn_104 ?_
  refine im_bdI (fun x1 => ?_)
  refine im_istore hF dX3_comeIn_105 (lv' := [(8, .int x1), (3, .int a3), (4, .ref (g.2.1 8 o4)), (5, .ref (g.2.1 6 o5)), (6, .int a6)]) (by decide) rfl ?_
  refine im_aload hF dX3_comeIn_107 3 rfl ?_
  refine im_iload hF dX3_comeIn_109 0 rfl ?_
  refine im_put hF x1 fp_3_71 (by decide) ho5 rfl rfl rfl dX3_comeIn_111 ?_
  refine im_bdS (fun s2 => ?_)
  refine im_aload hF dX3_comeIn_114 3 rfl ?_
  refine im_get hF (v := .ref (g.2.1 30 o5)) fl_3_96 (by decide) ho5 rfl dX3_comeIn_116 ?_
  refine im_iload hF dX3_comeIn_119 0 rfl ?_
  refine im_iload_n hF dX3_comeIn_121 1 rfl ?_
  refine im_iast hF ar_30 ho5 dX3_comeIn_122 (fun h3 => im_bdS (fun s4 => ?_))
  refine im_aload hF dX3_comeIn_123 3 rfl ?_
  refine im_iload hF dX3_comeIn_125 0 rfl ?_
  refine im_callVV hF (As := [.int x1]) (rest := []) my_X6_writeDownShares mv_X6_writeDownShares wl_612 (fun l r hr => c_X6_writeDownShares l g hI o5 x1 ho5 s4 r hr) ⟨by decide, by decide⟩ (by decide) ho5 ⟨_, rfl, rfl⟩ rfl rfl (Nat.le_of_ble_eq_true rfl) dX3_comeIn_127 (fun q5 => ?_)
  refine im_aload hF dX3_comeIn_130 2 rfl ?_
  refine im_iload hF dX3_comeIn_132 0 rfl ?_
  refine im_callVI hF (As := [.int x1]) (rest := []) my_X8_leavesFrom mv_X8_leavesFrom wl_616 (fun l r hr => c_X8_leavesFrom l g hI o4 x1 ho4 q5 r hr) ⟨by decide, by decide⟩ (by decide) ho4 ⟨_, rfl, rfl⟩ rfl rfl (Nat.le_of_ble_eq_true rfl) dX3_comeIn_134 (fun q6 => ?_)
  refine im_istore hF dX3_comeIn_137 (lv' := [(9, .int q6.1), (8, .int x1), (3, .int a3), (4, .ref (g.2.1 8 o4)), (5, .ref (g.2.1 6 o5)), (6, .int a6)]) (by decide) rfl ?_
  refine im_aload hF dX3_comeIn_139 4 rfl ?_
  refine im_iload hF dX3_comeIn_141 0 rfl ?_
  refine im_if_eq hF 167 dX3_comeIn_143 (by decide) (fun _ => ?_) (fun _ => ?_)
  · refine im_ldc hF (v := (1000000 : Int32)) wl_558 dX3_comeIn_167 ?_
    refine im_sub (lv' := []) [] rfl ?_
    exact (i_X3_comeIn_B169 X g hF hM hI) o5 (1000000 : Int32) ho5 q6.2
  · refine im_iload_n hF dX3_comeIn_146 2 rfl ?_
    refine im_aload hF dX3_comeIn_147 3 rfl ?_
    refine im_get hF (v := .int (q6.2 8 o4 2)) fl_3_107 (by decide) ho4 rfl dX3_comeIn_149 ?_
    refine im_iadd hF dX3_comeIn_152 ?_
    refine im_aload hF dX3_comeIn_153 3 rfl ?_
    refine im_get hF (v := .ref (g.2.1 43 o4)) fl_3_110 (by decide) ho4 rfl dX3_comeIn_155 ?_
    refine im_iload hF dX3_comeIn_158 1 rfl ?_
    refine im_iald hF ar_43 ho4 dX3_comeIn_160 (fun h7 => ?_)
    refine im_mmax hF wl_617 (by decide) (by decide) (Nat.le_of_ble_eq_true rfl) mm_max dX3_comeIn_161 ?_
    refine im_goto hF 169 dX3_comeIn_164 (by decide) ?_
    refine im_sub (lv' := []) [] rfl ?_
    exact (i_X3_comeIn_B169 X g hF hM hI) o5 (if (a3 + (q6.2 8 o4 2)) < (q6.2 43 o4 x1.toNatClampNeg) then (q6.2 43 o4 x1.toNatClampNeg) else (a3 + (q6.2 8 o4 2))) ho5 q6.2
def f_X3_comeIn_B79 (a3 : Int32) (o4 : Nat) (o5 : Nat) (a6 : Int32) (a7 : Int32) (os0 : Nat) (as1 : Int32) (s0 : Sg) : Option Sg :=
  chk (gi as1 5) (
  chk (gi as1 5) (bdS (up3 s0 34 os0 as1.toNatClampNeg ((s0 34 os0 as1.toNatClampNeg) + a7)) fun s3 =>
  (f_X3_comeIn_B101) a3 o4 o5 a6 s3))
set_option maxRecDepth 4000 in
theorem i_X3_comeIn_B79 (X : Cx) (g : GT) (hF : Fx X g RX3 cX3_comeIn 10 4 95) (hM : FM X g none) (hI : GI g) (a3 : Int32) (o4 : Nat) (o5 : Nat) (a6 : Int32) (a7 : Int32) (os0 : Nat) (as1 : Int32) (ho4 : o4 < cnt 8) (ho5 : o5 < cnt 6) (hos0 : os0 < cnt 34) (s0 : Sg) : Im X g 10 (Qm X g embV) s0 79 [(3, .int a3), (4, .ref (g.2.1 8 o4)), (5, .ref (g.2.1 6 o5)), (6, .int a6), (7, .int a7)] [.int as1, .ref (g.2.1 34 os0)] (f_X3_comeIn_B79 a3 o4 o5 a6 a7 os0 as1 s0) := by
  unfold f_X3_comeIn_B79
  refine im_dup2 hF dX3_comeIn_79 rfl rfl ?_
  refine im_iald hF ar_34 hos0 dX3_comeIn_80 (fun h1 => ?_)
  refine im_iload hF dX3_comeIn_81 4 rfl ?_
  refine im_iadd hF dX3_comeIn_83 ?_
  refine im_iast hF ar_34 hos0 dX3_comeIn_84 (fun h2 => im_bdS (fun s3 => ?_))
  refine im_goto hF 101 dX3_comeIn_85 (by decide) ?_
  refine im_sub (lv' := [(3, .int a3), (4, .ref (g.2.1 8 o4)), (5, .ref (g.2.1 6 o5)), (6, .int a6)]) [0, 1, 2, 3] rfl ?_
  exact (i_X3_comeIn_B101 X g hF hM hI) a3 o4 o5 a6 ho4 ho5 s3
def f_X3_comeIn (a2 : Int32) (a3 : Int32) (s0 : Sg) : Option Sg :=
  chk (gi a2 10) (
  chk (gi a2 10) (
  bdI (s0 6 a2.toNatClampNeg 5) fun x3 =>
  chk (gi x3 7) (
  chk (gi x3 6) (
  bdI ((a3 - (s0 31 a2.toNatClampNeg x3.toNatClampNeg)) - (s0 38 a2.toNatClampNeg x3.toNatClampNeg)) fun x6 =>
  if x6 ≤ 0 then
  Option.bind (f_X6_makeUp a2.toNatClampNeg (-x6) (s0 8 a2.toNatClampNeg 0) s0) fun q7 =>
  (f_X3_comeIn_B101) a3 a2.toNatClampNeg a2.toNatClampNeg x3 q7
  else
  Option.bind (f_X3_isExcused a2 a3 s0) fun q8 =>
  if q8.1 = 0 then
  (f_X3_comeIn_B79) a3 a2.toNatClampNeg a2.toNatClampNeg x3 x6 a2.toNatClampNeg ((1 : Int32) + (q8.2 8 a2.toNatClampNeg 0)) q8.2
  else
  (f_X3_comeIn_B79) a3 a2.toNatClampNeg a2.toNatClampNeg x3 x6 a2.toNatClampNeg (0 : Int32) q8.2))))
set_option maxRecDepth 4000 in
theorem i_X3_comeIn (X : Cx) (g : GT) (hF : Fx X g RX3 cX3_comeIn 10 4 95) (hM : FM X g none) (hI : GI g) (a2 : Int32) (a3 : Int32) (s0 : Sg) : Im X g 10 (Qm X g embV) s0 0 [(0, .ref (g.2.1 3 0)), (1, .ref (g.2.1 0 0)), (2, .int a2), (3, .int a3)] [] (f_X3_comeIn a2 a3 s0) := by
  unfold f_X3_comeIn
  refine im_aload_n hF dX3_comeIn_0 1 rfl ?_
  refine im_get hF (v := .ref (g.2.1 11 0)) fl_3_32 (by decide) (by decide) rfl dX3_comeIn_1 ?_
  refine im_iload_n hF dX3_comeIn_4 2 rfl ?_
  refine im_aald11 hF dX3_comeIn_5 (fun h1 => ?_)
  refine im_astore hF dX3_comeIn_6 (lv' := [(4, .ref (g.2.1 8 a2.toNatClampNeg)), (0, .ref (g.2.1 3 0)), (1, .ref (g.2.1 0 0)), (2, .int a2), (3, .int a3)]) (by decide) rfl ?_
  refine im_aload_n hF dX3_comeIn_8 1 rfl ?_
  refine im_get hF (v := .ref (g.2.1 13 0)) fl_3_11 (by decide) (by decide) rfl dX3_comeIn_9 ?_
  refine im_iload_n hF dX3_comeIn_12 3 rfl ?_
  refine im_aald13 hF dX3_comeIn_13 (fun h2 => ?_)
  refine im_astore hF dX3_comeIn_14 (lv' := [(5, .ref (g.2.1 6 a2.toNatClampNeg)), (4, .ref (g.2.1 8 a2.toNatClampNeg)), (0, .ref (g.2.1 3 0)), (1, .ref (g.2.1 0 0)), (2, .int a2), (3, .int a3)]) (by decide) rfl ?_
  refine im_aload hF dX3_comeIn_16 0 rfl ?_
  refine im_get hF (v := .int (s0 6 a2.toNatClampNeg 5)) fl_3_71 (by decide) (gi_lt h2) rfl dX3_comeIn_18 ?_
  refine im_bdI (fun x3 => ?_)
  refine im_istore hF dX3_comeIn_21 (lv' := [(6, .int x3), (5, .ref (g.2.1 6 a2.toNatClampNeg)), (4, .ref (g.2.1 8 a2.toNatClampNeg)), (0, .ref (g.2.1 3 0)), (1, .ref (g.2.1 0 0)), (2, .int a2), (3, .int a3)]) (by decide) rfl ?_
  refine im_iload_n hF dX3_comeIn_23 6 rfl ?_
  refine im_aload hF dX3_comeIn_24 1 rfl ?_
  refine im_get hF (v := .ref (g.2.1 31 a2.toNatClampNeg)) fl_3_74 (by decide) (gi_lt h2) rfl dX3_comeIn_26 ?_
  refine im_iload hF dX3_comeIn_29 0 rfl ?_
  refine im_iald hF ar_31 (gi_lt h2) dX3_comeIn_31 (fun h4 => ?_)
  refine im_isub hF dX3_comeIn_32 ?_
  refine im_aload hF dX3_comeIn_33 2 rfl ?_
  refine im_get hF (v := .ref (g.2.1 38 a2.toNatClampNeg)) fl_3_77 (by decide) (gi_lt h1) rfl dX3_comeIn_35 ?_
  refine im_iload hF dX3_comeIn_38 0 rfl ?_
  refine im_iald hF ar_38 (gi_lt h1) dX3_comeIn_40 (fun h5 => ?_)
  refine im_isub hF dX3_comeIn_41 ?_
  refine im_bdI (fun x6 => ?_)
  refine im_istore hF dX3_comeIn_42 (lv' := [(7, .int x6), (6, .int x3), (5, .ref (g.2.1 6 a2.toNatClampNeg)), (4, .ref (g.2.1 8 a2.toNatClampNeg)), (0, .ref (g.2.1 3 0)), (1, .ref (g.2.1 0 0)), (2, .int a2), (3, .int a3)]) (by decide) rfl ?_
  refine im_iload hF dX3_comeIn_44 0 rfl ?_
  refine im_if_le hF 88 dX3_comeIn_46 (by decide) (fun _ => ?_) (fun _ => ?_)
  · refine im_aload hF dX3_comeIn_88 2 rfl ?_
    refine im_iload hF dX3_comeIn_90 0 rfl ?_
    refine im_ineg hF dX3_comeIn_92 ?_
    refine im_aload hF dX3_comeIn_93 3 rfl ?_
    refine im_get hF (v := .int (s0 8 a2.toNatClampNeg 0)) fl_3_89 (by decide) (gi_lt h1) rfl dX3_comeIn_95 ?_
    refine im_callVV hF (As := [.int (-x6), .int (s0 8 a2.toNatClampNeg 0)]) (rest := []) my_X6_makeUp mv_X6_makeUp wl_603 (fun l r hr => c_X6_makeUp l g hI a2.toNatClampNeg (-x6) (s0 8 a2.toNatClampNeg 0) (gi_lt h2) s0 r hr) ⟨by decide, by decide⟩ (by decide) (gi_lt h2) ⟨_, rfl, rfl⟩ rfl rfl (Nat.le_of_ble_eq_true rfl) dX3_comeIn_98 (fun q7 => ?_)
    refine im_sub (lv' := [(3, .int a3), (4, .ref (g.2.1 8 a2.toNatClampNeg)), (5, .ref (g.2.1 6 a2.toNatClampNeg)), (6, .int x3)]) [7, 3, 2, 1] rfl ?_
    exact (i_X3_comeIn_B101 X g hF hM hI) a3 a2.toNatClampNeg a2.toNatClampNeg x3 (gi_lt h1) (gi_lt h2) q7
  · refine im_aload_n hF dX3_comeIn_49 4 rfl ?_
    refine im_aload_n hF dX3_comeIn_50 5 rfl ?_
    refine im_iload_n hF dX3_comeIn_51 6 rfl ?_
    refine im_iload_n hF dX3_comeIn_52 7 rfl ?_
    refine im_callVI hF (As := [.ref (g.2.1 0 0), .int a2, .int a3]) (rest := []) my_X3_isExcused mv_X3_isExcused wl_568 (fun l r hr => c_X3_isExcused l g hI a2 a3 s0 r hr) ⟨by decide, by decide⟩ (by decide) (by decide) ⟨_, rfl, rfl⟩ rfl rfl (Nat.le_of_ble_eq_true rfl) dX3_comeIn_53 (fun q8 => ?_)
    refine im_istore hF dX3_comeIn_56 (lv' := [(8, .int q8.1), (7, .int x6), (6, .int x3), (5, .ref (g.2.1 6 a2.toNatClampNeg)), (4, .ref (g.2.1 8 a2.toNatClampNeg)), (0, .ref (g.2.1 3 0)), (1, .ref (g.2.1 0 0)), (2, .int a2), (3, .int a3)]) (by decide) rfl ?_
    refine im_aload hF dX3_comeIn_58 3 rfl ?_
    refine im_get hF (v := .ref (g.2.1 34 a2.toNatClampNeg)) fl_3_86 (by decide) (gi_lt h2) rfl dX3_comeIn_60 ?_
    refine im_iload hF dX3_comeIn_63 0 rfl ?_
    refine im_if_eq hF 72 dX3_comeIn_65 (by decide) (fun _ => ?_) (fun _ => ?_)
    · refine im_iconst hF dX3_comeIn_72 (v := (1 : Int32)) (by decide) ?_
      refine im_aload hF dX3_comeIn_73 4 rfl ?_
      refine im_get hF (v := .int (q8.2 8 a2.toNatClampNeg 0)) fl_3_89 (by decide) (gi_lt h1) rfl dX3_comeIn_75 ?_
      refine im_iadd hF dX3_comeIn_78 ?_
      refine im_sub (lv' := [(3, .int a3), (4, .ref (g.2.1 8 a2.toNatClampNeg)), (5, .ref (g.2.1 6 a2.toNatClampNeg)), (6, .int x3), (7, .int x6)]) [8, 4, 3, 2, 1] rfl ?_
      exact (i_X3_comeIn_B79 X g hF hM hI) a3 a2.toNatClampNeg a2.toNatClampNeg x3 x6 a2.toNatClampNeg ((1 : Int32) + (q8.2 8 a2.toNatClampNeg 0)) (gi_lt h1) (gi_lt h2) (gi_lt h2) q8.2
    · refine im_iconst hF dX3_comeIn_68 (v := (0 : Int32)) (by decide) ?_
      refine im_goto hF 79 dX3_comeIn_69 (by decide) ?_
      refine im_sub (lv' := [(3, .int a3), (4, .ref (g.2.1 8 a2.toNatClampNeg)), (5, .ref (g.2.1 6 a2.toNatClampNeg)), (6, .int x3), (7, .int x6)]) [8, 4, 3, 2, 1] rfl ?_
      exact (i_X3_comeIn_B79 X g hF hM hI) a3 a2.toNatClampNeg a2.toNatClampNeg x3 x6 a2.toNatClampNeg (0 : Int32) (gi_lt h1) (gi_lt h2) (gi_lt h2) q8.2
theorem c_X3_comeIn (l : Launch) (g : GT) (hI : GI g) (a2 : Int32) (a3 : Int32) (s0 : Sg) (r : Sg) (hr : f_X3_comeIn a2 a3 s0 = some r) : Ct l yX3_comeIn cX3_comeIn 10 none 4 95 g [.ref (g.2.1 3 0), .ref (g.2.1 0 0), .int a2, .int a3] s0 (embV r) := ct_of (by decide) hI (Nat.le_of_ble_eq_true rfl) (fun X hF hM => i_X3_comeIn X g hF hM hI a2 a3 s0) r hr
def f_X3_isAwaiting (o1 : Nat) (a2 : Int32) (s0 : Sg) : Option (Int32 × Sg) :=
  chk (gi a2 6) (
  bdI (s0 40 o1 a2.toNatClampNeg) fun x2 =>
  if x2 = (-1 : Int32) then
  some ((0 : Int32), s0)
  else
  chk (gi x2 10) (
  chk (gi a2 6) (
  chk (gi (s0 41 o1 a2.toNatClampNeg) 7) (
  if (s0 30 x2.toNatClampNeg (s0 41 o1 a2.toNatClampNeg).toNatClampNeg) = (-1 : Int32) then
  some ((1 : Int32), s0)
  else
  some ((0 : Int32), s0)))))
set_option maxRecDepth 4000 in
theorem i_X3_isAwaiting (X : Cx) (g : GT) (hF : Fx X g RX3 cX3_isAwaiting 4 0 0) (hM : FM X g (some .boolean)) (hI : GI g) (o1 : Nat) (a2 : Int32) (ho1 : o1 < cnt 8) (s0 : Sg) : Im X g 4 (Qm X g embI) s0 0 [(0, .ref (g.2.1 3 0)), (1, .ref (g.2.1 8 o1)), (2, .int a2)] [] (f_X3_isAwaiting o1 a2 s0) := by
  unfold f_X3_isAwaiting
  refine im_aload_n hF dX3_isAwaiting_0 1 rfl ?_
  refine im_get hF (v := .ref (g.2.1 40 o1)) fl_3_164 (by decide) ho1 rfl dX3_isAwaiting_1 ?_
  refine im_iload_n hF dX3_isAwaiting_4 2 rfl ?_
  refine im_iald hF ar_40 ho1 dX3_isAwaiting_5 (fun h1 => ?_)
  refine im_bdI (fun x2 => ?_)
  refine im_istore_n hF dX3_isAwaiting_6 (lv' := [(3, .int x2), (0, .ref (g.2.1 3 0)), (1, .ref (g.2.1 8 o1)), (2, .int a2)]) rfl (by decide) rfl ?_
  refine im_iload_n hF dX3_isAwaiting_7 0 rfl ?_
  refine im_iconst hF dX3_isAwaiting_8 (v := (-1 : Int32)) (by decide) ?_
  refine im_icmp_eq hF 36 dX3_isAwaiting_9 (by decide) (fun _ => ?_) (fun _ => ?_)
  · refine im_iconst hF dX3_isAwaiting_36 (v := (0 : Int32)) (by decide) ?_
    exact im_zret hF hM (by decide) dX3_isAwaiting_37
  · refine im_aload_n hF dX3_isAwaiting_12 1 rfl ?_
    refine im_get hF (v := .ref (g.2.1 13 0)) fl_3_11 (by decide) (by decide) rfl dX3_isAwaiting_13 ?_
    refine im_iload_n hF dX3_isAwaiting_16 0 rfl ?_
    refine im_aald13 hF dX3_isAwaiting_17 (fun h3 => ?_)
    refine im_get hF (v := .ref (g.2.1 30 x2.toNatClampNeg)) fl_3_96 (by decide) (gi_lt h3) rfl dX3_isAwaiting_18 ?_
    refine im_aload_n hF dX3_isAwaiting_21 2 rfl ?_
    refine im_get hF (v := .ref (g.2.1 41 o1)) fl_3_167 (by decide) ho1 rfl dX3_isAwaiting_22 ?_
    refine im_iload_n hF dX3_isAwaiting_25 3 rfl ?_
    refine im_iald hF ar_41 ho1 dX3_isAwaiting_26 (fun h4 => ?_)
    refine im_iald hF ar_30 (gi_lt h3) dX3_isAwaiting_27 (fun h5 => ?_)
    refine im_iconst hF dX3_isAwaiting_28 (v := (-1 : Int32)) (by decide) ?_
    refine im_icmp_ne hF 36 dX3_isAwaiting_29 (by decide) (fun _ => ?_) (fun _ => ?_)
    · refine im_iconst hF dX3_isAwaiting_32 (v := (1 : Int32)) (by decide) ?_
      refine im_goto hF 37 dX3_isAwaiting_33 (by decide) ?_
      exact im_zret hF hM (by decide) dX3_isAwaiting_37
    · refine im_iconst hF dX3_isAwaiting_36 (v := (0 : Int32)) (by decide) ?_
      exact im_zret hF hM (by decide) dX3_isAwaiting_37
theorem c_X3_isAwaiting (l : Launch) (g : GT) (hI : GI g) (o1 : Nat) (a2 : Int32) (ho1 : o1 < cnt 8) (s0 : Sg) (r : (Int32 × Sg)) (hr : f_X3_isAwaiting o1 a2 s0 = some r) : Ct l yX3_isAwaiting cX3_isAwaiting 4 (some .boolean) 0 0 g [.ref (g.2.1 3 0), .ref (g.2.1 8 o1), .int a2] s0 (embI r) := ct_of (by decide) hI (Nat.le_of_ble_eq_true rfl) (fun X hF hM => i_X3_isAwaiting X g hF hM hI o1 a2 ho1 s0) r hr
def f_X2_steadyHours_B76 (k31 : Nat → Int32 → Int32 → Int32 → Sg → Option (Int32 × Sg)) (o0 : Nat) (a1 : Int32) (a4 : Int32) (a5 : Int32) (s0 : Sg) : Option (Int32 × Sg) :=
  chk (gi a5 200) (
  chk (gi a5 200) (
  chk (gi (s0 22 o0 a5.toNatClampNeg) 5) (
  bdI ((s0 23 o0 a5.toNatClampNeg) - (s0 24 0 (s0 22 o0 a5.toNatClampNeg).toNatClampNeg)) fun x4 =>
  if x4 < 0 then
  k31 o0 a1 a4 (a5 + (1 : Int32)) s0
  else
  bdI (if (if (1 : Int32) < x4 then x4 else (1 : Int32)) < a4 then (if (1 : Int32) < x4 then x4 else (1 : Int32)) else a4) fun x5 =>
  k31 o0 a1 x5 (a5 + (1 : Int32)) s0)))
set_option maxRecDepth 4000 in
theorem i_X2_steadyHours_B76 (X : Cx) (g : GT) (hF : Fx X g RX2 cX2_steadyHours 7 1 21) (hM : FM X g (some .int)) (hI : GI g) (k31 : Nat → Int32 → Int32 → Int32 → Sg → Option (Int32 × Sg)) (hk31 : ∀ (o0 : Nat) (a1 : Int32) (a4 : Int32) (a5 : Int32) (ho0 : o0 < cnt 2) (s0 : Sg), Im X g 7 (Qm X g embI) s0 31 [(0, .ref (g.2.1 2 o0)), (1, .int a1), (2, .ref (g.2.1 24 0)), (4, .int a4), (5, .int a5)] [] (k31 o0 a1 a4 a5 s0)) (o0 : Nat) (a1 : Int32) (a4 : Int32) (a5 : Int32) (ho0 : o0 < cnt 2) (s0 : Sg) : Im X g 7 (Qm X g embI) s0 76 [(0, .ref (g.2.1 2 o0)), (1, .int a1), (2, .ref (g.2.1 24 0)), (4, .int a4), (5, .int a5)] [] (f_X2_steadyHours_B76 k31 o0 a1 a4 a5 s0) := by
  unfold f_X2_steadyHours_B76
  refine im_aload_n hF dX2_steadyHours_76 0 rfl ?_
  refine im_get hF (v := .ref (g.2.1 23 o0)) fl_2_27 (by decide) ho0 rfl dX2_steadyHours_77 ?_
  refine im_iload hF dX2_steadyHours_80 4 rfl ?_
  refine im_iald hF ar_23 ho0 dX2_steadyHours_82 (fun h1 => ?_)
  refine im_aload_n hF dX2_steadyHours_83 2 rfl ?_
  refine im_aload_n hF dX2_steadyHours_84 0 rfl ?_
  refine im_get hF (v := .ref (g.2.1 22 o0)) fl_2_24 (by decide) ho0 rfl dX2_steadyHours_85 ?_
  refine im_iload hF dX2_steadyHours_88 4 rfl ?_
  refine im_iald hF ar_22 ho0 dX2_steadyHours_90 (fun h2 => ?_)
  refine im_iald hF ar_24 (by decide) dX2_steadyHours_91 (fun h3 => ?_)
  refine im_isub hF dX2_steadyHours_92 ?_
  refine im_bdI (fun x4 => ?_)
  refine im_istore hF dX2_steadyHours_93 (lv' := [(6, .int x4), (0, .ref (g.2.1 2 o0)), (1, .int a1), (2, .ref (g.2.1 24 0)), (4, .int a4), (5, .int a5)]) (by decide) rfl ?_
  refine im_iload hF dX2_steadyHours_95 0 rfl ?_
  refine im_if_lt hF 113 dX2_steadyHours_97 (by decide) (fun _ => ?_) (fun _ => ?_)
  · refine im_iinc hF dX2_steadyHours_113 (v := (a5 + (1 : Int32))) (lv' := [(5, .int (a5 + (1 : Int32))), (6, .int x4), (0, .ref (g.2.1 2 o0)), (1, .int a1), (2, .ref (g.2.1 24 0)), (4, .int a4)]) 5 rfl rfl (by decide) rfl ?_
    refine im_goto hF 31 dX2_steadyHours_116 (by decide) ?_
    refine im_sub (lv' := [(0, .ref (g.2.1 2 o0)), (1, .int a1), (2, .ref (g.2.1 24 0)), (4, .int a4), (5, .int (a5 + (1 : Int32)))]) [2, 3, 4, 5, 0] rfl ?_
    exact hk31 o0 a1 a4 (a5 + (1 : Int32)) ho0 s0
  · refine im_iload hF dX2_steadyHours_100 4 rfl ?_
    refine im_iconst hF dX2_steadyHours_102 (v := (1 : Int32)) (by decide) ?_
    refine im_iload hF dX2_steadyHours_103 0 rfl ?_
    refine im_mmax hF wl_641 (by decide) (by decide) (Nat.le_of_ble_eq_true rfl) mm_max dX2_steadyHours_105 ?_
    refine im_mmin hF wl_639 (by decide) (by decide) (Nat.le_of_ble_eq_true rfl) mm_min dX2_steadyHours_108 ?_
    refine im_bdI (fun x5 => ?_)
    refine im_istore hF dX2_steadyHours_111 (lv' := [(4, .int x5), (6, .int x4), (0, .ref (g.2.1 2 o0)), (1, .int a1), (2, .ref (g.2.1 24 0)), (5, .int a5)]) (by decide) rfl ?_
    refine im_iinc hF dX2_steadyHours_113 (v := (a5 + (1 : Int32))) (lv' := [(5, .int (a5 + (1 : Int32))), (4, .int x5), (6, .int x4), (0, .ref (g.2.1 2 o0)), (1, .int a1), (2, .ref (g.2.1 24 0))]) 5 rfl rfl (by decide) rfl ?_
    refine im_goto hF 31 dX2_steadyHours_116 (by decide) ?_
    refine im_sub (lv' := [(0, .ref (g.2.1 2 o0)), (1, .int a1), (2, .ref (g.2.1 24 0)), (4, .int x5), (5, .int (a5 + (1 : Int32)))]) [3, 4, 5, 1, 0] rfl ?_
    exact hk31 o0 a1 x5 (a5 + (1 : Int32)) ho0 s0
def f_X2_steadyHours_B31 (k31 : Nat → Int32 → Int32 → Int32 → Sg → Option (Int32 × Sg)) (o0 : Nat) (a1 : Int32) (a4 : Int32) (a5 : Int32) (s0 : Sg) : Option (Int32 × Sg) :=
  chk (gi a1 12) (
  if (s0 20 o0 a1.toNatClampNeg) ≤ a5 then
  some (a4, s0)
  else
  chk (gi a5 200) (
  Option.bind (f_X2_isComparison (s0 21 o0 a5.toNatClampNeg) s0) fun q3 =>
  if q3.1 = 0 then
  k31 o0 a1 a4 (a5 + (1 : Int32)) q3.2
  else
  chk (gi a5 200) (
  if (q3.2 22 o0 a5.toNatClampNeg) = 0 then
  (f_X2_steadyHours_B76 k31) o0 a1 a4 a5 q3.2
  else
  chk (gi a5 200) (
  if (q3.2 22 o0 a5.toNatClampNeg) = (1 : Int32) then
  (f_X2_steadyHours_B76 k31) o0 a1 a4 a5 q3.2
  else
  k31 o0 a1 a4 (a5 + (1 : Int32)) q3.2))))
set_option maxRecDepth 4000 in
theorem i_X2_steadyHours_B31 (X : Cx) (g : GT) (hF : Fx X g RX2 cX2_steadyHours 7 1 21) (hM : FM X g (some .int)) (hI : GI g) (k31 : Nat → Int32 → Int32 → Int32 → Sg → Option (Int32 × Sg)) (hk31 : ∀ (o0 : Nat) (a1 : Int32) (a4 : Int32) (a5 : Int32) (ho0 : o0 < cnt 2) (s0 : Sg), Im X g 7 (Qm X g embI) s0 31 [(0, .ref (g.2.1 2 o0)), (1, .int a1), (2, .ref (g.2.1 24 0)), (4, .int a4), (5, .int a5)] [] (k31 o0 a1 a4 a5 s0)) (o0 : Nat) (a1 : Int32) (a4 : Int32) (a5 : Int32) (ho0 : o0 < cnt 2) (s0 : Sg) : Im X g 7 (Qm X g embI) s0 31 [(0, .ref (g.2.1 2 o0)), (1, .int a1), (2, .ref (g.2.1 24 0)), (4, .int a4), (5, .int a5)] [] (f_X2_steadyHours_B31 k31 o0 a1 a4 a5 s0) := by
  unfold f_X2_steadyHours_B31
  refine im_iload hF dX2_steadyHours_31 4 rfl ?_
  refine im_aload_n hF dX2_steadyHours_33 0 rfl ?_
  refine im_get hF (v := .ref (g.2.1 20 o0)) fl_2_18 (by decide) ho0 rfl dX2_steadyHours_34 ?_
  refine im_iload_n hF dX2_steadyHours_37 1 rfl ?_
  refine im_iald hF ar_20 ho0 dX2_steadyHours_38 (fun h1 => ?_)
  refine im_icmp_ge hF 119 dX2_steadyHours_39 (by decide) (fun _ => ?_) (fun _ => ?_)
  · refine im_iload hF dX2_steadyHours_119 3 rfl ?_
    exact im_iret hF hM dX2_steadyHours_121
  · refine im_aload_n hF dX2_steadyHours_42 0 rfl ?_
    refine im_get hF (v := .ref (g.2.1 21 o0)) fl_2_21 (by decide) ho0 rfl dX2_steadyHours_43 ?_
    refine im_iload hF dX2_steadyHours_46 4 rfl ?_
    refine im_iald hF ar_21 ho0 dX2_steadyHours_48 (fun h2 => ?_)
    refine im_callSI hF (As := [.int (s0 21 o0 a5.toNatClampNeg)]) (rest := []) my_X2_isComparison ms_X2_isComparison wl_640 (fun l r hr => c_X2_isComparison l g hI (s0 21 o0 a5.toNatClampNeg) s0 r hr) ⟨by decide, by decide⟩ rfl rfl (Nat.le_of_ble_eq_true rfl) dX2_steadyHours_49 (fun q3 => ?_)
    refine im_if_eq hF 113 dX2_steadyHours_52 (by decide) (fun _ => ?_) (fun _ => ?_)
    · refine im_iinc hF dX2_steadyHours_113 (v := (a5 + (1 : Int32))) (lv' := [(5, .int (a5 + (1 : Int32))), (0, .ref (g.2.1 2 o0)), (1, .int a1), (2, .ref (g.2.1 24 0)), (4, .int a4)]) 4 rfl rfl (by decide) rfl ?_
      refine im_goto hF 31 dX2_steadyHours_116 (by decide) ?_
      refine im_sub (lv' := [(0, .ref (g.2.1 2 o0)), (1, .int a1), (2, .ref (g.2.1 24 0)), (4, .int a4), (5, .int (a5 + (1 : Int32)))]) [1, 2, 3, 4, 0] rfl ?_
      exact hk31 o0 a1 a4 (a5 + (1 : Int32)) ho0 q3.2
    · refine im_aload_n hF dX2_steadyHours_55 0 rfl ?_
      refine im_get hF (v := .ref (g.2.1 22 o0)) fl_2_24 (by decide) ho0 rfl dX2_steadyHours_56 ?_
      refine im_iload hF dX2_steadyHours_59 4 rfl ?_
      refine im_iald hF ar_22 ho0 dX2_steadyHours_61 (fun h4 => ?_)
      refine im_if_eq hF 76 dX2_steadyHours_62 (by decide) (fun _ => ?_) (fun _ => ?_)
      · exact (i_X2_steadyHours_B76 X g hF hM hI k31 hk31) o0 a1 a4 a5 ho0 q3.2
      · refine im_aload_n hF dX2_steadyHours_65 0 rfl ?_
        refine im_get hF (v := .ref (g.2.1 22 o0)) fl_2_24 (by decide) ho0 rfl dX2_steadyHours_66 ?_
        refine im_iload hF dX2_steadyHours_69 4 rfl ?_
        refine im_iald hF ar_22 ho0 dX2_steadyHours_71 (fun h5 => ?_)
        refine im_iconst hF dX2_steadyHours_72 (v := (1 : Int32)) (by decide) ?_
        refine im_icmp_ne hF 113 dX2_steadyHours_73 (by decide) (fun _ => ?_) (fun _ => ?_)
        · exact (i_X2_steadyHours_B76 X g hF hM hI k31 hk31) o0 a1 a4 a5 ho0 q3.2
        · refine im_iinc hF dX2_steadyHours_113 (v := (a5 + (1 : Int32))) (lv' := [(5, .int (a5 + (1 : Int32))), (0, .ref (g.2.1 2 o0)), (1, .int a1), (2, .ref (g.2.1 24 0)), (4, .int a4)]) 4 rfl rfl (by decide) rfl ?_
          refine im_goto hF 31 dX2_steadyHours_116 (by decide) ?_
          refine im_sub (lv' := [(0, .ref (g.2.1 2 o0)), (1, .int a1), (2, .ref (g.2.1 24 0)), (4, .int a4), (5, .int (a5 + (1 : Int32)))]) [1, 2, 3, 4, 0] rfl ?_
          exact hk31 o0 a1 a4 (a5 + (1 : Int32)) ho0 q3.2
def f_X2_steadyHours_L31 : Nat → Nat → Int32 → Int32 → Int32 → Sg → Option (Int32 × Sg)
  | 0 => fun _ _ _ _ _ => none
  | n + 1 => fun o0 a1 a4 a5 s0 => f_X2_steadyHours_B31 (f_X2_steadyHours_L31 n) o0 a1 a4 a5 s0
theorem i_X2_steadyHours_L31 (X : Cx) (g : GT) (hF : Fx X g RX2 cX2_steadyHours 7 1 21) (hM : FM X g (some .int)) (hI : GI g) : ∀ (n : Nat) (o0 : Nat) (a1 : Int32) (a4 : Int32) (a5 : Int32) (ho0 : o0 < cnt 2) (s0 : Sg), Im X g 7 (Qm X g embI) s0 31 [(0, .ref (g.2.1 2 o0)), (1, .int a1), (2, .ref (g.2.1 24 0)), (4, .int a4), (5, .int a5)] [] (f_X2_steadyHours_L31 n o0 a1 a4 a5 s0) := by
  intro n
  induction n with
  | zero => intros; exact im_none
  | succ n ih => intro o0 a1 a4 a5 ho0 s0; exact i_X2_steadyHours_B31 X g hF hM hI (f_X2_steadyHours_L31 n) ih o0 a1 a4 a5 ho0 s0
def f_X2_steadyHours (o0 : Nat) (a1 : Int32) (a3 : Int32) (s0 : Sg) : Option (Int32 × Sg) :=
  chk (gi a1 12) (
  chk (gi (1 : Int32) 5) (
  bdI (if ((720 : Int32) - (a3 - a3 / (720 : Int32) * (720 : Int32))) < ((s0 19 o0 a1.toNatClampNeg) - (s0 24 0 (1 : Int32).toNatClampNeg)) then ((720 : Int32) - (a3 - a3 / (720 : Int32) * (720 : Int32))) else ((s0 19 o0 a1.toNatClampNeg) - (s0 24 0 (1 : Int32).toNatClampNeg))) fun x3 =>
  Option.bind (f_X2_beginOf o0 a1 s0) fun q4 =>
  (f_X2_steadyHours_L31 FU) o0 a1 x3 q4.1 q4.2))
set_option maxRecDepth 4000 in
theorem i_X2_steadyHours (X : Cx) (g : GT) (hF : Fx X g RX2 cX2_steadyHours 7 1 21) (hM : FM X g (some .int)) (hI : GI g) (o0 : Nat) (a1 : Int32) (a3 : Int32) (ho0 : o0 < cnt 2) (s0 : Sg) : Im X g 7 (Qm X g embI) s0 0 [(0, .ref (g.2.1 2 o0)), (1, .int a1), (2, .ref (g.2.1 24 0)), (3, .int a3)] [] (f_X2_steadyHours o0 a1 a3 s0) := by
  unfold f_X2_steadyHours
  refine im_aload_n hF dX2_steadyHours_0 0 rfl ?_
  refine im_get hF (v := .ref (g.2.1 19 o0)) fl_2_15 (by decide) ho0 rfl dX2_steadyHours_1 ?_
  refine im_iload_n hF dX2_steadyHours_4 1 rfl ?_
  refine im_iald hF ar_19 ho0 dX2_steadyHours_5 (fun h1 => ?_)
  refine im_aload_n hF dX2_steadyHours_6 2 rfl ?_
  refine im_iconst hF dX2_steadyHours_7 (v := (1 : Int32)) (by decide) ?_
  refine im_iald hF ar_24 (by decide) dX2_steadyHours_8 (fun h2 => ?_)
  refine im_isub hF dX2_steadyHours_9 ?_
  refine im_sipush hF dX2_steadyHours_10 (v := (720 : Int32)) (by decide) ?_
  refine im_iload_n hF dX2_steadyHours_13 3 rfl ?_
  refine im_sipush hF dX2_steadyHours_14 (v := (720 : Int32)) (by decide) ?_
  refine im_irem hF dX2_steadyHours_17 (by decide) ?_
  refine im_isub hF dX2_steadyHours_18 ?_
  refine im_mmin hF wl_639 (by decide) (by decide) (Nat.le_of_ble_eq_true rfl) mm_min dX2_steadyHours_19 ?_
  refine im_bdI (fun x3 => ?_)
  refine im_istore hF dX2_steadyHours_22 (lv' := [(4, .int x3), (0, .ref (g.2.1 2 o0)), (1, .int a1), (2, .ref (g.2.1 24 0)), (3, .int a3)]) (by decide) rfl ?_
  refine im_aload_n hF dX2_steadyHours_24 1 rfl ?_
  refine im_iload_n hF dX2_steadyHours_25 2 rfl ?_
  refine im_callVI hF (As := [.int a1]) (rest := []) my_X2_beginOf mv_X2_beginOf wl_595 (fun l r hr => c_X2_beginOf l g hI o0 a1 ho0 s0 r hr) ⟨by decide, by decide⟩ (by decide) ho0 ⟨_, rfl, rfl⟩ rfl rfl (Nat.le_of_ble_eq_true rfl) dX2_steadyHours_26 (fun q4 => ?_)
  refine im_istore hF dX2_steadyHours_29 (lv' := [(5, .int q4.1), (4, .int x3), (0, .ref (g.2.1 2 o0)), (1, .int a1), (2, .ref (g.2.1 24 0)), (3, .int a3)]) (by decide) rfl ?_
  refine im_sub (lv' := [(0, .ref (g.2.1 2 o0)), (1, .int a1), (2, .ref (g.2.1 24 0)), (4, .int x3), (5, .int q4.1)]) [2, 3, 4, 1, 0] rfl ?_
  exact (i_X2_steadyHours_L31 X g hF hM hI FU) o0 a1 x3 q4.1 ho0 q4.2
theorem c_X2_steadyHours (l : Launch) (g : GT) (hI : GI g) (o0 : Nat) (a1 : Int32) (a3 : Int32) (ho0 : o0 < cnt 2) (s0 : Sg) (r : (Int32 × Sg)) (hr : f_X2_steadyHours o0 a1 a3 s0 = some r) : Ct l yX2_steadyHours cX2_steadyHours 7 (some .int) 1 21 g [.ref (g.2.1 2 o0), .int a1, .ref (g.2.1 24 0), .int a3] s0 (embI r) := ct_of (by decide) hI (Nat.le_of_ble_eq_true rfl) (fun X hF hM => i_X2_steadyHours X g hF hM hI o0 a1 a3 ho0 s0) r hr
def f_X2_waitHours_B2 (k2 : Nat → Int32 → Int32 → Sg → Option (Int32 × Sg)) (o0 : Nat) (a2 : Int32) (a3 : Int32) (s0 : Sg) : Option (Int32 × Sg) :=
  if (s0 2 o0 0) ≤ a3 then
  some ((0 : Int32), s0)
  else
  chk (gi a3 12) (
  if (s0 18 o0 a3.toNatClampNeg) = (87 : Int32) then
  chk (gi a3 12) (
  chk (gi (1 : Int32) 5) (
  if (s0 19 o0 a3.toNatClampNeg) ≤ (s0 24 0 (1 : Int32).toNatClampNeg) then
  k2 o0 a2 (a3 + (1 : Int32)) s0
  else
  Option.bind (f_X2_holds o0 a3 s0) fun q4 =>
  if q4.1 = 0 then
  k2 o0 a2 (a3 + (1 : Int32)) q4.2
  else
  Option.bind (f_X2_steadyHours o0 a3 a2 q4.2) fun q5 =>
  some (q5.1, q5.2)))
  else
  k2 o0 a2 (a3 + (1 : Int32)) s0)
set_option maxRecDepth 4000 in
theorem i_X2_waitHours_B2 (X : Cx) (g : GT) (hF : Fx X g RX2 cX2_waitHours 4 2 47) (hM : FM X g (some .int)) (hI : GI g) (k2 : Nat → Int32 → Int32 → Sg → Option (Int32 × Sg)) (hk2 : ∀ (o0 : Nat) (a2 : Int32) (a3 : Int32) (ho0 : o0 < cnt 2) (s0 : Sg), Im X g 4 (Qm X g embI) s0 2 [(0, .ref (g.2.1 2 o0)), (1, .ref (g.2.1 24 0)), (2, .int a2), (3, .int a3)] [] (k2 o0 a2 a3 s0)) (o0 : Nat) (a2 : Int32) (a3 : Int32) (ho0 : o0 < cnt 2) (s0 : Sg) : Im X g 4 (Qm X g embI) s0 2 [(0, .ref (g.2.1 2 o0)), (1, .ref (g.2.1 24 0)), (2, .int a2), (3, .int a3)] [] (f_X2_waitHours_B2 k2 o0 a2 a3 s0) := by
  unfold f_X2_waitHours_B2
  refine im_iload_n hF dX2_waitHours_2 3 rfl ?_
  refine im_aload_n hF dX2_waitHours_3 0 rfl ?_
  refine im_get hF (v := .int (s0 2 o0 0)) fl_2_30 (by decide) ho0 rfl dX2_waitHours_4 ?_
  refine im_icmp_ge hF 56 dX2_waitHours_7 (by decide) (fun _ => ?_) (fun _ => ?_)
  · refine im_iconst hF dX2_waitHours_56 (v := (0 : Int32)) (by decide) ?_
    exact im_iret hF hM dX2_waitHours_57
  · refine im_aload_n hF dX2_waitHours_10 0 rfl ?_
    refine im_get hF (v := .ref (g.2.1 18 o0)) fl_2_9 (by decide) ho0 rfl dX2_waitHours_11 ?_
    refine im_iload_n hF dX2_waitHours_14 3 rfl ?_
    refine im_iald hF ar_18 ho0 dX2_waitHours_15 (fun h1 => ?_)
    refine im_bipush hF dX2_waitHours_16 (v := (87 : Int32)) (by decide) ?_
    refine im_icmp_ne hF 50 dX2_waitHours_18 (by decide) (fun _ => ?_) (fun _ => ?_)
    · refine im_aload_n hF dX2_waitHours_21 0 rfl ?_
      refine im_get hF (v := .ref (g.2.1 19 o0)) fl_2_15 (by decide) ho0 rfl dX2_waitHours_22 ?_
      refine im_iload_n hF dX2_waitHours_25 3 rfl ?_
      refine im_iald hF ar_19 ho0 dX2_waitHours_26 (fun h2 => ?_)
      refine im_aload_n hF dX2_waitHours_27 1 rfl ?_
      refine im_iconst hF dX2_waitHours_28 (v := (1 : Int32)) (by decide) ?_
      refine im_iald hF ar_24 (by decide) dX2_waitHours_29 (fun h3 => ?_)
      refine im_icmp_le hF 50 dX2_waitHours_30 (by decide) (fun _ => ?_) (fun _ => ?_)
      · refine im_iinc hF dX2_waitHours_50 (v := (a3 + (1 : Int32))) (lv' := [(3, .int (a3 + (1 : Int32))), (0, .ref (g.2.1 2 o0)), (1, .ref (g.2.1 24 0)), (2, .int a2)]) 3 rfl rfl (by decide) rfl ?_
        refine im_goto hF 2 dX2_waitHours_53 (by decide) ?_
        refine im_sub (lv' := [(0, .ref (g.2.1 2 o0)), (1, .ref (g.2.1 24 0)), (2, .int a2), (3, .int (a3 + (1 : Int32)))]) [1, 2, 3, 0] rfl ?_
        exact hk2 o0 a2 (a3 + (1 : Int32)) ho0 s0
      · refine im_aload_n hF dX2_waitHours_33 0 rfl ?_
        refine im_iload_n hF dX2_waitHours_34 3 rfl ?_
        refine im_aload_n hF dX2_waitHours_35 1 rfl ?_
        refine im_callVI hF (As := [.int a3, .ref (g.2.1 24 0)]) (rest := []) my_X2_holds mv_X2_holds wl_591 (fun l r hr => c_X2_holds l g hI o0 a3 ho0 s0 r hr) ⟨by decide, by decide⟩ (by decide) ho0 ⟨_, rfl, rfl⟩ rfl rfl (Nat.le_of_ble_eq_true rfl) dX2_waitHours_36 (fun q4 => ?_)
        refine im_if_eq hF 50 dX2_waitHours_39 (by decide) (fun _ => ?_) (fun _ => ?_)
        · refine im_iinc hF dX2_waitHours_50 (v := (a3 + (1 : Int32))) (lv' := [(3, .int (a3 + (1 : Int32))), (0, .ref (g.2.1 2 o0)), (1, .ref (g.2.1 24 0)), (2, .int a2)]) 3 rfl rfl (by decide) rfl ?_
          refine im_goto hF 2 dX2_waitHours_53 (by decide) ?_
          refine im_sub (lv' := [(0, .ref (g.2.1 2 o0)), (1, .ref (g.2.1 24 0)), (2, .int a2), (3, .int (a3 + (1 : Int32)))]) [1, 2, 3, 0] rfl ?_
          exact hk2 o0 a2 (a3 + (1 : Int32)) ho0 q4.2
        · refine im_aload_n hF dX2_waitHours_42 0 rfl ?_
          refine im_iload_n hF dX2_waitHours_43 3 rfl ?_
          refine im_aload_n hF dX2_waitHours_44 1 rfl ?_
          refine im_iload_n hF dX2_waitHours_45 2 rfl ?_
          refine im_callVI hF (As := [.int a3, .ref (g.2.1 24 0), .int a2]) (rest := []) my_X2_steadyHours mv_X2_steadyHours wl_635 (fun l r hr => c_X2_steadyHours l g hI o0 a3 a2 ho0 q4.2 r hr) ⟨by decide, by decide⟩ (by decide) ho0 ⟨_, rfl, rfl⟩ rfl rfl (Nat.le_of_ble_eq_true rfl) dX2_waitHours_46 (fun q5 => ?_)
          exact im_iret hF hM dX2_waitHours_49
    · refine im_iinc hF dX2_waitHours_50 (v := (a3 + (1 : Int32))) (lv' := [(3, .int (a3 + (1 : Int32))), (0, .ref (g.2.1 2 o0)), (1, .ref (g.2.1 24 0)), (2, .int a2)]) 3 rfl rfl (by decide) rfl ?_
      refine im_goto hF 2 dX2_waitHours_53 (by decide) ?_
      refine im_sub (lv' := [(0, .ref (g.2.1 2 o0)), (1, .ref (g.2.1 24 0)), (2, .int a2), (3, .int (a3 + (1 : Int32)))]) [1, 2, 3, 0] rfl ?_
      exact hk2 o0 a2 (a3 + (1 : Int32)) ho0 s0
def f_X2_waitHours_L2 : Nat → Nat → Int32 → Int32 → Sg → Option (Int32 × Sg)
  | 0 => fun _ _ _ _ => none
  | n + 1 => fun o0 a2 a3 s0 => f_X2_waitHours_B2 (f_X2_waitHours_L2 n) o0 a2 a3 s0
theorem i_X2_waitHours_L2 (X : Cx) (g : GT) (hF : Fx X g RX2 cX2_waitHours 4 2 47) (hM : FM X g (some .int)) (hI : GI g) : ∀ (n : Nat) (o0 : Nat) (a2 : Int32) (a3 : Int32) (ho0 : o0 < cnt 2) (s0 : Sg), Im X g 4 (Qm X g embI) s0 2 [(0, .ref (g.2.1 2 o0)), (1, .ref (g.2.1 24 0)), (2, .int a2), (3, .int a3)] [] (f_X2_waitHours_L2 n o0 a2 a3 s0) := by
  intro n
  induction n with
  | zero => intros; exact im_none
  | succ n ih => intro o0 a2 a3 ho0 s0; exact i_X2_waitHours_B2 X g hF hM hI (f_X2_waitHours_L2 n) ih o0 a2 a3 ho0 s0
def f_X2_waitHours (o0 : Nat) (a2 : Int32) (s0 : Sg) : Option (Int32 × Sg) :=
  (f_X2_waitHours_L2 FU) o0 a2 (0 : Int32) s0
set_option maxRecDepth 4000 in
theorem i_X2_waitHours (X : Cx) (g : GT) (hF : Fx X g RX2 cX2_waitHours 4 2 47) (hM : FM X g (some .int)) (hI : GI g) (o0 : Nat) (a2 : Int32) (ho0 : o0 < cnt 2) (s0 : Sg) : Im X g 4 (Qm X g embI) s0 0 [(0, .ref (g.2.1 2 o0)), (1, .ref (g.2.1 24 0)), (2, .int a2)] [] (f_X2_waitHours o0 a2 s0) := by
  unfold f_X2_waitHours
  refine im_iconst hF dX2_waitHours_0 (v := (0 : Int32)) (by decide) ?_
  refine im_istore_n hF dX2_waitHours_1 (lv' := [(3, .int (0 : Int32)), (0, .ref (g.2.1 2 o0)), (1, .ref (g.2.1 24 0)), (2, .int a2)]) rfl (by decide) rfl ?_
  refine im_sub (lv' := [(0, .ref (g.2.1 2 o0)), (1, .ref (g.2.1 24 0)), (2, .int a2), (3, .int (0 : Int32))]) [1, 2, 3, 0] rfl ?_
  exact (i_X2_waitHours_L2 X g hF hM hI FU) o0 a2 (0 : Int32) ho0 s0
theorem c_X2_waitHours (l : Launch) (g : GT) (hI : GI g) (o0 : Nat) (a2 : Int32) (ho0 : o0 < cnt 2) (s0 : Sg) (r : (Int32 × Sg)) (hr : f_X2_waitHours o0 a2 s0 = some r) : Ct l yX2_waitHours cX2_waitHours 4 (some .int) 2 47 g [.ref (g.2.1 2 o0), .ref (g.2.1 24 0), .int a2] s0 (embI r) := ct_of (by decide) hI (Nat.le_of_ble_eq_true rfl) (fun X hF hM => i_X2_waitHours X g hF hM hI o0 a2 ho0 s0) r hr
def f_X3_waitHours (a2 : Int32) (a3 : Int32) (s0 : Sg) : Option (Int32 × Sg) :=
  chk (gi a2 10) (
  chk (gi a2 10) (
  bdI (s0 6 a2.toNatClampNeg 5) fun x3 =>
  chk (gi x3 6) (
  chk (gi (s0 40 a2.toNatClampNeg x3.toNatClampNeg) 10) (
  chk (gi x3 6) (
  chk (gi (s0 41 a2.toNatClampNeg x3.toNatClampNeg) 7) (
  chk (gi (0 : Int32) 5) (bdS (up3 s0 24 0 (0 : Int32).toNatClampNeg (a3 - (s0 42 ((s0 40 a2.toNatClampNeg x3.toNatClampNeg).toNatClampNeg) (s0 41 a2.toNatClampNeg x3.toNatClampNeg).toNatClampNeg))) fun s9 =>
  chk (gi (1 : Int32) 5) (bdS (up3 s9 24 0 (1 : Int32).toNatClampNeg (a3 - (s9 6 a2.toNatClampNeg 7))) fun s11 =>
  chk (gi x3 6) (
  Option.bind (f_X1_windIn (s11 37 a2.toNatClampNeg x3.toNatClampNeg) a3 s11) fun q13 =>
  chk (gi (2 : Int32) 5) (bdS (up3 q13.2 24 0 (2 : Int32).toNatClampNeg q13.1) fun s15 =>
  chk (gi x3 6) (
  chk (gi (3 : Int32) 5) (bdS (up3 s15 24 0 (3 : Int32).toNatClampNeg (s15 39 a2.toNatClampNeg x3.toNatClampNeg)) fun s18 =>
  Option.bind (f_X9_monthOf a3 s18) fun q19 =>
  chk (gi (4 : Int32) 5) (bdS (up3 q19.2 24 0 (4 : Int32).toNatClampNeg q19.1) fun s21 =>
  chk (gi (s21 8 a2.toNatClampNeg 0) 4) (chk (decide ((s21 12 0 (s21 8 a2.toNatClampNeg 0).toNatClampNeg).toNatClampNeg < 5)) (
  Option.bind (f_X2_waitHours ((s21 12 0 (s21 8 a2.toNatClampNeg 0).toNatClampNeg).toNatClampNeg) a3 s21) fun q24 =>
  some (q24.1, q24.2))))))))))))))))
set_option maxRecDepth 4000 in
theorem i_X3_waitHours (X : Cx) (g : GT) (hF : Fx X g RX3 cX3_waitHours 8 3 70) (hM : FM X g (some .int)) (hI : GI g) (a2 : Int32) (a3 : Int32) (s0 : Sg) : Im X g 8 (Qm X g embI) s0 0 [(0, .ref (g.2.1 3 0)), (1, .ref (g.2.1 0 0)), (2, .int a2), (3, .int a3)] [] (f_X3_waitHours a2 a3 s0) := by
  unfold f_X3_waitHours
  refine im_aload_n hF dX3_waitHours_0 1 rfl ?_
  refine im_get hF (v := .ref (g.2.1 11 0)) fl_3_32 (by decide) (by decide) rfl dX3_waitHours_1 ?_
  refine im_iload_n hF dX3_waitHours_4 2 rfl ?_
  refine im_aald11 hF dX3_waitHours_5 (fun h1 => ?_)
  refine im_astore hF dX3_waitHours_6 (lv' := [(4, .ref (g.2.1 8 a2.toNatClampNeg)), (0, .ref (g.2.1 3 0)), (1, .ref (g.2.1 0 0)), (2, .int a2), (3, .int a3)]) (by decide) rfl ?_
  refine im_aload_n hF dX3_waitHours_8 1 rfl ?_
  refine im_get hF (v := .ref (g.2.1 13 0)) fl_3_11 (by decide) (by decide) rfl dX3_waitHours_9 ?_
  refine im_iload_n hF dX3_waitHours_12 3 rfl ?_
  refine im_aald13 hF dX3_waitHours_13 (fun h2 => ?_)
  refine im_astore hF dX3_waitHours_14 (lv' := [(5, .ref (g.2.1 6 a2.toNatClampNeg)), (4, .ref (g.2.1 8 a2.toNatClampNeg)), (0, .ref (g.2.1 3 0)), (1, .ref (g.2.1 0 0)), (2, .int a2), (3, .int a3)]) (by decide) rfl ?_
  refine im_aload hF dX3_waitHours_16 0 rfl ?_
  refine im_get hF (v := .int (s0 6 a2.toNatClampNeg 5)) fl_3_71 (by decide) (gi_lt h2) rfl dX3_waitHours_18 ?_
  refine im_bdI (fun x3 => ?_)
  refine im_istore hF dX3_waitHours_21 (lv' := [(6, .int x3), (5, .ref (g.2.1 6 a2.toNatClampNeg)), (4, .ref (g.2.1 8 a2.toNatClampNeg)), (0, .ref (g.2.1 3 0)), (1, .ref (g.2.1 0 0)), (2, .int a2), (3, .int a3)]) (by decide) rfl ?_
  refine im_aload_n hF dX3_waitHours_23 4 rfl ?_
  refine im_get hF (v := .ref (g.2.1 11 0)) fl_3_32 (by decide) (by decide) rfl dX3_waitHours_24 ?_
  refine im_aload hF dX3_waitHours_27 2 rfl ?_
  refine im_get hF (v := .ref (g.2.1 40 a2.toNatClampNeg)) fl_3_164 (by decide) (gi_lt h1) rfl dX3_waitHours_29 ?_
  refine im_iload hF dX3_waitHours_32 0 rfl ?_
  refine im_iald hF ar_40 (gi_lt h1) dX3_waitHours_34 (fun h4 => ?_)
  refine im_aald11 hF dX3_waitHours_35 (fun h5 => ?_)
  refine im_astore hF dX3_waitHours_36 (lv' := [(7, .ref (g.2.1 8 ((s0 40 a2.toNatClampNeg x3.toNatClampNeg).toNatClampNeg))), (6, .int x3), (5, .ref (g.2.1 6 a2.toNatClampNeg)), (4, .ref (g.2.1 8 a2.toNatClampNeg)), (0, .ref (g.2.1 3 0)), (1, .ref (g.2.1 0 0)), (2, .int a2), (3, .int a3)]) (by decide) rfl ?_
  refine im_aload_n hF dX3_waitHours_38 4 rfl ?_
  refine im_get hF (v := .ref (g.2.1 24 0)) fl_3_18 (by decide) (by decide) rfl dX3_waitHours_39 ?_
  refine im_iconst hF dX3_waitHours_42 (v := (0 : Int32)) (by decide) ?_
  refine im_iload_n hF dX3_waitHours_43 7 rfl ?_
  refine im_aload hF dX3_waitHours_44 0 rfl ?_
  refine im_get hF (v := .ref (g.2.1 42 ((s0 40 a2.toNatClampNeg x3.toNatClampNeg).toNatClampNeg))) fl_3_170 (by decide) (gi_lt h5) rfl dX3_waitHours_46 ?_
  refine im_aload hF dX3_waitHours_49 3 rfl ?_
  refine im_get hF (v := .ref (g.2.1 41 a2.toNatClampNeg)) fl_3_167 (by decide) (gi_lt h1) rfl dX3_waitHours_51 ?_
  refine im_iload hF dX3_waitHours_54 1 rfl ?_
  refine im_iald hF ar_41 (gi_lt h1) dX3_waitHours_56 (fun h6 => ?_)
  refine im_iald hF ar_42 (gi_lt h5) dX3_waitHours_57 (fun h7 => ?_)
  refine im_isub hF dX3_waitHours_58 ?_
  refine im_iast hF ar_24 (by decide) dX3_waitHours_59 (fun h8 => im_bdS (fun s9 => ?_))
  refine im_aload_n hF dX3_waitHours_60 4 rfl ?_
  refine im_get hF (v := .ref (g.2.1 24 0)) fl_3_18 (by decide) (by decide) rfl dX3_waitHours_61 ?_
  refine im_iconst hF dX3_waitHours_64 (v := (1 : Int32)) (by decide) ?_
  refine im_iload_n hF dX3_waitHours_65 7 rfl ?_
  refine im_aload hF dX3_waitHours_66 2 rfl ?_
  refine im_get hF (v := .int (s9 6 a2.toNatClampNeg 7)) fl_3_58 (by decide) (gi_lt h2) rfl dX3_waitHours_68 ?_
  refine im_isub hF dX3_waitHours_71 ?_
  refine im_iast hF ar_24 (by decide) dX3_waitHours_72 (fun h10 => im_bdS (fun s11 => ?_))
  refine im_aload_n hF dX3_waitHours_73 4 rfl ?_
  refine im_get hF (v := .ref (g.2.1 24 0)) fl_3_18 (by decide) (by decide) rfl dX3_waitHours_74 ?_
  refine im_iconst hF dX3_waitHours_77 (v := (2 : Int32)) (by decide) ?_
  refine im_aload_n hF dX3_waitHours_78 5 rfl ?_
  refine im_get hF (v := .ref (g.2.1 1 0)) fl_3_125 (by decide) (by decide) rfl dX3_waitHours_79 ?_
  refine im_aload hF dX3_waitHours_82 3 rfl ?_
  refine im_get hF (v := .ref (g.2.1 37 a2.toNatClampNeg)) fl_3_129 (by decide) (gi_lt h1) rfl dX3_waitHours_84 ?_
  refine im_iload hF dX3_waitHours_87 1 rfl ?_
  refine im_iald hF ar_37 (gi_lt h1) dX3_waitHours_89 (fun h12 => ?_)
  refine im_iload_n hF dX3_waitHours_90 7 rfl ?_
  refine im_callVI hF (As := [.int (s11 37 a2.toNatClampNeg x3.toNatClampNeg), .int a3]) (rest := [.int (2 : Int32), .ref (g.2.1 24 0)]) my_X1_windIn mv_X1_windIn wl_579 (fun l r hr => c_X1_windIn l g hI (s11 37 a2.toNatClampNeg x3.toNatClampNeg) a3 s11 r hr) ⟨by decide, by decide⟩ (by decide) (by decide) ⟨_, rfl, rfl⟩ rfl rfl (Nat.le_of_ble_eq_true rfl) dX3_waitHours_91 (fun q13 => ?_)
  refine im_iast hF ar_24 (by decide) dX3_waitHours_94 (fun h14 => im_bdS (fun s15 => ?_))
  refine im_aload_n hF dX3_waitHours_95 4 rfl ?_
  refine im_get hF (v := .ref (g.2.1 24 0)) fl_3_18 (by decide) (by decide) rfl dX3_waitHours_96 ?_
  refine im_iconst hF dX3_waitHours_99 (v := (3 : Int32)) (by decide) ?_
  refine im_aload hF dX3_waitHours_100 3 rfl ?_
  refine im_get hF (v := .ref (g.2.1 39 a2.toNatClampNeg)) fl_3_137 (by decide) (gi_lt h1) rfl dX3_waitHours_102 ?_
  refine im_iload hF dX3_waitHours_105 1 rfl ?_
  refine im_iald hF ar_39 (gi_lt h1) dX3_waitHours_107 (fun h16 => ?_)
  refine im_iast hF ar_24 (by decide) dX3_waitHours_108 (fun h17 => im_bdS (fun s18 => ?_))
  refine im_aload_n hF dX3_waitHours_109 4 rfl ?_
  refine im_get hF (v := .ref (g.2.1 24 0)) fl_3_18 (by decide) (by decide) rfl dX3_waitHours_110 ?_
  refine im_iconst hF dX3_waitHours_113 (v := (4 : Int32)) (by decide) ?_
  refine im_iload_n hF dX3_waitHours_114 7 rfl ?_
  refine im_callNI hF (As := [.int a3]) (rest := [.int (4 : Int32), .ref (g.2.1 24 0)]) my_X9_monthOf ms_X9_monthOf nest_3 (fun l r hr => c_X9_monthOf l g hI a3 s18 r hr) ⟨by decide, by decide⟩ rfl rfl (Nat.le_of_ble_eq_true rfl) dX3_waitHours_115 (fun q19 => ?_)
  refine im_iast hF ar_24 (by decide) dX3_waitHours_118 (fun h20 => im_bdS (fun s21 => ?_))
  refine im_aload_n hF dX3_waitHours_119 5 rfl ?_
  refine im_get hF (v := .ref (g.2.1 12 0)) fl_3_143 (by decide) (by decide) rfl dX3_waitHours_120 ?_
  refine im_aload hF dX3_waitHours_123 3 rfl ?_
  refine im_get hF (v := .int (s21 8 a2.toNatClampNeg 0)) fl_3_89 (by decide) (gi_lt h1) rfl dX3_waitHours_125 ?_
  refine im_aald12 hF dX3_waitHours_128 (fun h22 => ?_)
  refine im_chk (fun h23 => ?_)
  refine im_aload_n hF dX3_waitHours_129 4 rfl ?_
  refine im_get hF (v := .ref (g.2.1 24 0)) fl_3_18 (by decide) (by decide) rfl dX3_waitHours_130 ?_
  refine im_iload_n hF dX3_waitHours_133 7 rfl ?_
  refine im_callVI hF (As := [.ref (g.2.1 24 0), .int a3]) (rest := []) my_X2_waitHours mv_X2_waitHours wl_631 (fun l r hr => c_X2_waitHours l g hI ((s21 12 0 (s21 8 a2.toNatClampNeg 0).toNatClampNeg).toNatClampNeg) a3 (of_decide_eq_true h23) s21 r hr) ⟨by decide, by decide⟩ (by decide) (of_decide_eq_true h23) ⟨_, rfl, rfl⟩ rfl rfl (Nat.le_of_ble_eq_true rfl) dX3_waitHours_134 (fun q24 => ?_)
  exact im_iret hF hM dX3_waitHours_137
theorem c_X3_waitHours (l : Launch) (g : GT) (hI : GI g) (a2 : Int32) (a3 : Int32) (s0 : Sg) (r : (Int32 × Sg)) (hr : f_X3_waitHours a2 a3 s0 = some r) : Ct l yX3_waitHours cX3_waitHours 8 (some .int) 3 70 g [.ref (g.2.1 3 0), .ref (g.2.1 0 0), .int a2, .int a3] s0 (embI r) := ct_of (by decide) hI (Nat.le_of_ble_eq_true rfl) (fun X hF hM => i_X3_waitHours X g hF hM hI a2 a3 s0) r hr
def f_X6_putToSea (o0 : Nat) (a1 : Int32) (a2 : Int32) (s0 : Sg) : Option Sg :=
  chk (gi (s0 6 o0 5) 7) (bdS (up3 s0 31 o0 (s0 6 o0 5).toNatClampNeg a1) fun s2 =>
  chk (gi (s2 6 o0 5) 7) (bdS (up3 s2 32 o0 (s2 6 o0 5).toNatClampNeg (a1 - (s2 6 o0 7))) fun s4 =>
  bdS (up3 s4 6 o0 6 (1 : Int32)) fun s5 =>
  bdS (up3 s5 6 o0 8 (a1 + a2)) fun s6 =>
  some s6))
set_option maxRecDepth 4000 in
theorem i_X6_putToSea (X : Cx) (g : GT) (hF : Fx X g RX6 cX6_putToSea 3 0 0) (hM : FM X g none) (hI : GI g) (o0 : Nat) (a1 : Int32) (a2 : Int32) (ho0 : o0 < cnt 6) (s0 : Sg) : Im X g 3 (Qm X g embV) s0 0 [(0, .ref (g.2.1 6 o0)), (1, .int a1), (2, .int a2)] [] (f_X6_putToSea o0 a1 a2 s0) := by
  unfold f_X6_putToSea
  refine im_aload_n hF dX6_putToSea_0 0 rfl ?_
  refine im_get hF (v := .ref (g.2.1 31 o0)) fl_6_15 (by decide) ho0 rfl dX6_putToSea_1 ?_
  refine im_aload_n hF dX6_putToSea_4 0 rfl ?_
  refine im_get hF (v := .int (s0 6 o0 5)) fl_6_33 (by decide) ho0 rfl dX6_putToSea_5 ?_
  refine im_iload_n hF dX6_putToSea_8 1 rfl ?_
  refine im_iast hF ar_31 ho0 dX6_putToSea_9 (fun h1 => im_bdS (fun s2 => ?_))
  refine im_aload_n hF dX6_putToSea_10 0 rfl ?_
  refine im_get hF (v := .ref (g.2.1 32 o0)) fl_6_18 (by decide) ho0 rfl dX6_putToSea_11 ?_
  refine im_aload_n hF dX6_putToSea_14 0 rfl ?_
  refine im_get hF (v := .int (s2 6 o0 5)) fl_6_33 (by decide) ho0 rfl dX6_putToSea_15 ?_
  refine im_iload_n hF dX6_putToSea_18 1 rfl ?_
  refine im_aload_n hF dX6_putToSea_19 0 rfl ?_
  refine im_get hF (v := .int (s2 6 o0 7)) fl_6_55 (by decide) ho0 rfl dX6_putToSea_20 ?_
  refine im_isub hF dX6_putToSea_23 ?_
  refine im_iast hF ar_32 ho0 dX6_putToSea_24 (fun h3 => im_bdS (fun s4 => ?_))
  refine im_aload_n hF dX6_putToSea_25 0 rfl ?_
  refine im_iconst hF dX6_putToSea_26 (v := (1 : Int32)) (by decide) ?_
  refine im_put hF (1 : Int32) fp_6_51 (by decide) ho0 rfl rfl rfl dX6_putToSea_27 ?_
  refine im_bdS (fun s5 => ?_)
  refine im_aload_n hF dX6_putToSea_30 0 rfl ?_
  refine im_iload_n hF dX6_putToSea_31 1 rfl ?_
  refine im_iload_n hF dX6_putToSea_32 2 rfl ?_
  refine im_iadd hF dX6_putToSea_33 ?_
  refine im_put hF (a1 + a2) fp_6_58 (by decide) ho0 rfl rfl rfl dX6_putToSea_34 ?_
  refine im_bdS (fun s6 => ?_)
  exact im_vret hF hM dX6_putToSea_37
theorem c_X6_putToSea (l : Launch) (g : GT) (hI : GI g) (o0 : Nat) (a1 : Int32) (a2 : Int32) (ho0 : o0 < cnt 6) (s0 : Sg) (r : Sg) (hr : f_X6_putToSea o0 a1 a2 s0 = some r) : Ct l yX6_putToSea cX6_putToSea 3 none 0 0 g [.ref (g.2.1 6 o0), .int a1, .int a2] s0 (embV r) := ct_of (by decide) hI (Nat.le_of_ble_eq_true rfl) (fun X hF hM => i_X6_putToSea X g hF hM hI o0 a1 a2 ho0 s0) r hr
def f_X3_leavePort (a2 : Int32) (a3 : Int32) (s0 : Sg) : Option Sg :=
  chk (gi a2 10) (
  chk (gi a2 10) (
  bdI (s0 6 a2.toNatClampNeg 5) fun x3 =>
  chk (gi x3 6) (
  bdI (s0 37 a2.toNatClampNeg x3.toNatClampNeg) fun x5 =>
  Option.bind (f_X1_windIn x5 a3 s0) fun q6 =>
  bdI ((s0 8 a2.toNatClampNeg 1) * ((100 : Int32) + q6.1)) fun x7 =>
  chk (gi x5 12) (
  Option.bind (f_X9_hoursFor ((100 : Int32) * (q6.2 16 0 x5.toNatClampNeg)) x7 q6.2) fun q9 =>
  chk (gi x3 6) (
  Option.bind (f_X6_putToSea a2.toNatClampNeg a3 (q9.1 + (q9.2 39 a2.toNatClampNeg x3.toNatClampNeg)) q9.2) fun q11 =>
  chk (gi x3 6) (
  bdI (q11 40 a2.toNatClampNeg x3.toNatClampNeg) fun x13 =>
  if x13 = (-1 : Int32) then
  some q11
  else
  chk (gi x13 10) (
  chk (gi ((1 : Int32) + (q11 8 x13.toNatClampNeg 0)) 5) (
  chk (gi x3 7) (
  chk (gi ((1 : Int32) + (q11 8 x13.toNatClampNeg 0)) 5) (bdS (up3 q11 34 a2.toNatClampNeg ((1 : Int32) + (q11 8 x13.toNatClampNeg 0)).toNatClampNeg ((q11 34 a2.toNatClampNeg ((1 : Int32) + (q11 8 x13.toNatClampNeg 0)).toNatClampNeg) + (q11 32 a2.toNatClampNeg x3.toNatClampNeg))) fun s18 =>
  some s18))))))))))
set_option maxRecDepth 4000 in
theorem i_X3_leavePort (X : Cx) (g : GT) (hF : Fx X g RX3 cX3_leavePort 10 2 42) (hM : FM X g none) (hI : GI g) (a2 : Int32) (a3 : Int32) (s0 : Sg) : Im X g 10 (Qm X g embV) s0 0 [(0, .ref (g.2.1 3 0)), (1, .ref (g.2.1 0 0)), (2, .int a2), (3, .int a3)] [] (f_X3_leavePort a2 a3 s0) := by
  unfold f_X3_leavePort
  refine im_aload_n hF dX3_leavePort_0 1 rfl ?_
  refine im_get hF (v := .ref (g.2.1 11 0)) fl_3_32 (by decide) (by decide) rfl dX3_leavePort_1 ?_
  refine im_iload_n hF dX3_leavePort_4 2 rfl ?_
  refine im_aald11 hF dX3_leavePort_5 (fun h1 => ?_)
  refine im_astore hF dX3_leavePort_6 (lv' := [(4, .ref (g.2.1 8 a2.toNatClampNeg)), (0, .ref (g.2.1 3 0)), (1, .ref (g.2.1 0 0)), (2, .int a2), (3, .int a3)]) (by decide) rfl ?_
  refine im_aload_n hF dX3_leavePort_8 1 rfl ?_
  refine im_get hF (v := .ref (g.2.1 13 0)) fl_3_11 (by decide) (by decide) rfl dX3_leavePort_9 ?_
  refine im_iload_n hF dX3_leavePort_12 3 rfl ?_
  refine im_aald13 hF dX3_leavePort_13 (fun h2 => ?_)
  refine im_astore hF dX3_leavePort_14 (lv' := [(5, .ref (g.2.1 6 a2.toNatClampNeg)), (4, .ref (g.2.1 8 a2.toNatClampNeg)), (0, .ref (g.2.1 3 0)), (1, .ref (g.2.1 0 0)), (2, .int a2), (3, .int a3)]) (by decide) rfl ?_
  refine im_aload hF dX3_leavePort_16 0 rfl ?_
  refine im_get hF (v := .int (s0 6 a2.toNatClampNeg 5)) fl_3_71 (by decide) (gi_lt h2) rfl dX3_leavePort_18 ?_
  refine im_bdI (fun x3 => ?_)
  refine im_istore hF dX3_leavePort_21 (lv' := [(6, .int x3), (5, .ref (g.2.1 6 a2.toNatClampNeg)), (4, .ref (g.2.1 8 a2.toNatClampNeg)), (0, .ref (g.2.1 3 0)), (1, .ref (g.2.1 0 0)), (2, .int a2), (3, .int a3)]) (by decide) rfl ?_
  refine im_aload hF dX3_leavePort_23 2 rfl ?_
  refine im_get hF (v := .ref (g.2.1 37 a2.toNatClampNeg)) fl_3_129 (by decide) (gi_lt h1) rfl dX3_leavePort_25 ?_
  refine im_iload hF dX3_leavePort_28 0 rfl ?_
  refine im_iald hF ar_37 (gi_lt h1) dX3_leavePort_30 (fun h4 => ?_)
  refine im_bdI (fun x5 => ?_)
  refine im_istore hF dX3_leavePort_31 (lv' := [(7, .int x5), (6, .int x3), (5, .ref (g.2.1 6 a2.toNatClampNeg)), (4, .ref (g.2.1 8 a2.toNatClampNeg)), (0, .ref (g.2.1 3 0)), (1, .ref (g.2.1 0 0)), (2, .int a2), (3, .int a3)]) (by decide) rfl ?_
  refine im_aload hF dX3_leavePort_33 3 rfl ?_
  refine im_get hF (v := .int (s0 8 a2.toNatClampNeg 1)) fl_3_176 (by decide) (gi_lt h1) rfl dX3_leavePort_35 ?_
  refine im_bipush hF dX3_leavePort_38 (v := (100 : Int32)) (by decide) ?_
  refine im_aload_n hF dX3_leavePort_40 5 rfl ?_
  refine im_get hF (v := .ref (g.2.1 1 0)) fl_3_125 (by decide) (by decide) rfl dX3_leavePort_41 ?_
  refine im_iload hF dX3_leavePort_44 0 rfl ?_
  refine im_iload_n hF dX3_leavePort_46 7 rfl ?_
  refine im_callVI hF (As := [.int x5, .int a3]) (rest := [.int (100 : Int32), .int (s0 8 a2.toNatClampNeg 1)]) my_X1_windIn mv_X1_windIn wl_579 (fun l r hr => c_X1_windIn l g hI x5 a3 s0 r hr) ⟨by decide, by decide⟩ (by decide) (by decide) ⟨_, rfl, rfl⟩ rfl rfl (Nat.le_of_ble_eq_true rfl) dX3_leavePort_47 (fun q6 => ?_)
  refine im_iadd hF dX3_leavePort_50 ?_
  refine im_imul hF dX3_leavePort_51 ?_
  refine im_bdI (fun x7 => ?_)
  refine im_istore hF dX3_leavePort_52 (lv' := [(8, .int x7), (7, .int x5), (6, .int x3), (5, .ref (g.2.1 6 a2.toNatClampNeg)), (4, .ref (g.2.1 8 a2.toNatClampNeg)), (0, .ref (g.2.1 3 0)), (1, .ref (g.2.1 0 0)), (2, .int a2), (3, .int a3)]) (by decide) rfl ?_
  refine im_aload hF dX3_leavePort_54 3 rfl ?_
  refine im_iload_n hF dX3_leavePort_56 8 rfl ?_
  refine im_bipush hF dX3_leavePort_57 (v := (100 : Int32)) (by decide) ?_
  refine im_aload_n hF dX3_leavePort_59 6 rfl ?_
  refine im_get hF (v := .ref (g.2.1 1 0)) fl_3_125 (by decide) (by decide) rfl dX3_leavePort_60 ?_
  refine im_get hF (v := .ref (g.2.1 16 0)) fl_3_179 (by decide) (by decide) rfl dX3_leavePort_63 ?_
  refine im_iload hF dX3_leavePort_66 1 rfl ?_
  refine im_iald hF ar_16 (by decide) dX3_leavePort_68 (fun h8 => ?_)
  refine im_imul hF dX3_leavePort_69 ?_
  refine im_iload hF dX3_leavePort_70 0 rfl ?_
  refine im_callNI hF (As := [.int ((100 : Int32) * (q6.2 16 0 x5.toNatClampNeg)), .int x7]) (rest := [.int a3, .ref (g.2.1 6 a2.toNatClampNeg)]) my_X9_hoursFor ms_X9_hoursFor nest_4 (fun l r hr => c_X9_hoursFor l g hI ((100 : Int32) * (q6.2 16 0 x5.toNatClampNeg)) x7 q6.2 r hr) ⟨by decide, by decide⟩ rfl rfl (Nat.le_of_ble_eq_true rfl) dX3_leavePort_72 (fun q9 => ?_)
  refine im_aload hF dX3_leavePort_75 4 rfl ?_
  refine im_get hF (v := .ref (g.2.1 39 a2.toNatClampNeg)) fl_3_137 (by decide) (gi_lt h1) rfl dX3_leavePort_77 ?_
  refine im_iload hF dX3_leavePort_80 2 rfl ?_
  refine im_iald hF ar_39 (gi_lt h1) dX3_leavePort_82 (fun h10 => ?_)
  refine im_iadd hF dX3_leavePort_83 ?_
  refine im_callVV hF (As := [.int a3, .int (q9.1 + (q9.2 39 a2.toNatClampNeg x3.toNatClampNeg))]) (rest := []) my_X6_putToSea mv_X6_putToSea wl_647 (fun l r hr => c_X6_putToSea l g hI a2.toNatClampNeg a3 (q9.1 + (q9.2 39 a2.toNatClampNeg x3.toNatClampNeg)) (gi_lt h2) q9.2 r hr) ⟨by decide, by decide⟩ (by decide) (gi_lt h2) ⟨_, rfl, rfl⟩ rfl rfl (Nat.le_of_ble_eq_true rfl) dX3_leavePort_84 (fun q11 => ?_)
  refine im_aload hF dX3_leavePort_87 4 rfl ?_
  refine im_get hF (v := .ref (g.2.1 40 a2.toNatClampNeg)) fl_3_164 (by decide) (gi_lt h1) rfl dX3_leavePort_89 ?_
  refine im_iload hF dX3_leavePort_92 2 rfl ?_
  refine im_iald hF ar_40 (gi_lt h1) dX3_leavePort_94 (fun h12 => ?_)
  refine im_bdI (fun x13 => ?_)
  refine im_istore hF dX3_leavePort_95 (lv' := [(9, .int x13), (8, .int x7), (7, .int x5), (6, .int x3), (5, .ref (g.2.1 6 a2.toNatClampNeg)), (4, .ref (g.2.1 8 a2.toNatClampNeg)), (0, .ref (g.2.1 3 0)), (1, .ref (g.2.1 0 0)), (2, .int a2), (3, .int a3)]) (by decide) rfl ?_
  refine im_iload hF dX3_leavePort_97 0 rfl ?_
  refine im_iconst hF dX3_leavePort_99 (v := (-1 : Int32)) (by decide) ?_
  refine im_icmp_eq hF 132 dX3_leavePort_100 (by decide) (fun _ => ?_) (fun _ => ?_)
  · exact im_vret hF hM dX3_leavePort_132
  · refine im_aload hF dX3_leavePort_103 4 rfl ?_
    refine im_get hF (v := .ref (g.2.1 34 a2.toNatClampNeg)) fl_3_86 (by decide) (gi_lt h2) rfl dX3_leavePort_105 ?_
    refine im_iconst hF dX3_leavePort_108 (v := (1 : Int32)) (by decide) ?_
    refine im_aload_n hF dX3_leavePort_109 7 rfl ?_
    refine im_get hF (v := .ref (g.2.1 11 0)) fl_3_32 (by decide) (by decide) rfl dX3_leavePort_110 ?_
    refine im_iload hF dX3_leavePort_113 0 rfl ?_
    refine im_aald11 hF dX3_leavePort_115 (fun h14 => ?_)
    refine im_get hF (v := .int (q11 8 x13.toNatClampNeg 0)) fl_3_89 (by decide) (gi_lt h14) rfl dX3_leavePort_116 ?_
    refine im_iadd hF dX3_leavePort_119 ?_
    refine im_dup2 hF dX3_leavePort_120 rfl rfl ?_
    refine im_iald hF ar_34 (gi_lt h2) dX3_leavePort_121 (fun h15 => ?_)
    refine im_aload hF dX3_leavePort_122 4 rfl ?_
    refine im_get hF (v := .ref (g.2.1 32 a2.toNatClampNeg)) fl_3_122 (by decide) (gi_lt h2) rfl dX3_leavePort_124 ?_
    refine im_iload hF dX3_leavePort_127 3 rfl ?_
    refine im_iald hF ar_32 (gi_lt h2) dX3_leavePort_129 (fun h16 => ?_)
    refine im_iadd hF dX3_leavePort_130 ?_
    refine im_iast hF ar_34 (gi_lt h2) dX3_leavePort_131 (fun h17 => im_bdS (fun s18 => ?_))
    exact im_vret hF hM dX3_leavePort_132
theorem c_X3_leavePort (l : Launch) (g : GT) (hI : GI g) (a2 : Int32) (a3 : Int32) (s0 : Sg) (r : Sg) (hr : f_X3_leavePort a2 a3 s0 = some r) : Ct l yX3_leavePort cX3_leavePort 10 none 2 42 g [.ref (g.2.1 3 0), .ref (g.2.1 0 0), .int a2, .int a3] s0 (embV r) := ct_of (by decide) hI (Nat.le_of_ble_eq_true rfl) (fun X hF hM => i_X3_leavePort X g hF hM hI a2 a3 s0) r hr
def f_X3_askOne_B56 (a2 : Int32) (a3 : Int32) (o4 : Nat) (as0 : Int32) (s0 : Sg) : Option Sg :=
  if as0 ≤ 0 then
  Option.bind (f_X3_leavePort a2 a3 s0) fun q1 =>
  some q1
  else
  bdS (up3 s0 6 o4 8 (a3 + as0)) fun s2 =>
  some s2
set_option maxRecDepth 4000 in
theorem i_X3_askOne_B56 (X : Cx) (g : GT) (hF : Fx X g RX3 cX3_askOne 7 4 97) (hM : FM X g none) (hI : GI g) (a2 : Int32) (a3 : Int32) (o4 : Nat) (as0 : Int32) (ho4 : o4 < cnt 6) (s0 : Sg) : Im X g 7 (Qm X g embV) s0 56 [(0, .ref (g.2.1 3 0)), (1, .ref (g.2.1 0 0)), (2, .int a2), (3, .int a3), (4, .ref (g.2.1 6 o4))] [.int as0] (f_X3_askOne_B56 a2 a3 o4 as0 s0) := by
  unfold f_X3_askOne_B56
  refine im_istore hF dX3_askOne_56 (lv' := [(6, .int as0), (0, .ref (g.2.1 3 0)), (1, .ref (g.2.1 0 0)), (2, .int a2), (3, .int a3), (4, .ref (g.2.1 6 o4))]) (by decide) rfl ?_
  refine im_iload hF dX3_askOne_58 0 rfl ?_
  refine im_if_le hF 75 dX3_askOne_60 (by decide) (fun _ => ?_) (fun _ => ?_)
  · refine im_aload_n hF dX3_askOne_75 1 rfl ?_
    refine im_aload_n hF dX3_askOne_76 2 rfl ?_
    refine im_iload_n hF dX3_askOne_77 3 rfl ?_
    refine im_iload_n hF dX3_askOne_78 4 rfl ?_
    refine im_callVV hF (As := [.ref (g.2.1 0 0), .int a2, .int a3]) (rest := []) my_X3_leavePort mv_X3_leavePort wl_642 (fun l r hr => c_X3_leavePort l g hI a2 a3 s0 r hr) ⟨by decide, by decide⟩ (by decide) (by decide) ⟨_, rfl, rfl⟩ rfl rfl (Nat.le_of_ble_eq_true rfl) dX3_askOne_79 (fun q1 => ?_)
    exact im_vret hF hM dX3_askOne_82
  · refine im_aload hF dX3_askOne_63 5 rfl ?_
    refine im_iload_n hF dX3_askOne_65 4 rfl ?_
    refine im_iload hF dX3_askOne_66 0 rfl ?_
    refine im_iadd hF dX3_askOne_68 ?_
    refine im_put hF (a3 + as0) fp_3_51 (by decide) ho4 rfl rfl rfl dX3_askOne_69 ?_
    refine im_bdS (fun s2 => ?_)
    refine im_goto hF 82 dX3_askOne_72 (by decide) ?_
    exact im_vret hF hM dX3_askOne_82
def f_X3_askOne_B40 (a2 : Int32) (a3 : Int32) (o4 : Nat) (a5 : Int32) (s0 : Sg) : Option Sg :=
  if a5 = 0 then
  (f_X3_askOne_B56) a2 a3 o4 (0 : Int32) s0
  else
  Option.bind (f_X3_waitHours a2 a3 s0) fun q1 =>
  (f_X3_askOne_B56) a2 a3 o4 q1.1 q1.2
set_option maxRecDepth 4000 in
theorem i_X3_askOne_B40 (X : Cx) (g : GT) (hF : Fx X g RX3 cX3_askOne 7 4 97) (hM : FM X g none) (hI : GI g) (a2 : Int32) (a3 : Int32) (o4 : Nat) (a5 : Int32) (ho4 : o4 < cnt 6) (s0 : Sg) : Im X g 7 (Qm X g embV) s0 40 [(0, .ref (g.2.1 3 0)), (1, .ref (g.2.1 0 0)), (2, .int a2), (3, .int a3), (4, .ref (g.2.1 6 o4)), (5, .int a5)] [] (f_X3_askOne_B40 a2 a3 o4 a5 s0) := by
  unfold f_X3_askOne_B40
  refine im_iload hF dX3_askOne_40 5 rfl ?_
  refine im_if_eq hF 55 dX3_askOne_42 (by decide) (fun _ => ?_) (fun _ => ?_)
  · refine im_iconst hF dX3_askOne_55 (v := (0 : Int32)) (by decide) ?_
    refine im_sub (lv' := [(0, .ref (g.2.1 3 0)), (1, .ref (g.2.1 0 0)), (2, .int a2), (3, .int a3), (4, .ref (g.2.1 6 o4))]) [0, 1, 2, 3, 4] rfl ?_
    exact (i_X3_askOne_B56 X g hF hM hI) a2 a3 o4 (0 : Int32) ho4 s0
  · refine im_aload_n hF dX3_askOne_45 0 rfl ?_
    refine im_aload_n hF dX3_askOne_46 1 rfl ?_
    refine im_iload_n hF dX3_askOne_47 2 rfl ?_
    refine im_iload_n hF dX3_askOne_48 3 rfl ?_
    refine im_callVI hF (As := [.ref (g.2.1 0 0), .int a2, .int a3]) (rest := []) my_X3_waitHours mv_X3_waitHours wl_627 (fun l r hr => c_X3_waitHours l g hI a2 a3 s0 r hr) ⟨by decide, by decide⟩ (by decide) (by decide) ⟨_, rfl, rfl⟩ rfl rfl (Nat.le_of_ble_eq_true rfl) dX3_askOne_49 (fun q1 => ?_)
    refine im_goto hF 56 dX3_askOne_52 (by decide) ?_
    refine im_sub (lv' := [(0, .ref (g.2.1 3 0)), (1, .ref (g.2.1 0 0)), (2, .int a2), (3, .int a3), (4, .ref (g.2.1 6 o4))]) [0, 1, 2, 3, 4] rfl ?_
    exact (i_X3_askOne_B56 X g hF hM hI) a2 a3 o4 q1.1 ho4 q1.2
def f_X3_askOne (a2 : Int32) (a3 : Int32) (s0 : Sg) : Option Sg :=
  chk (gi a2 10) (
  chk (gi a2 10) (
  Option.bind (f_X3_isAwaiting a2.toNatClampNeg (s0 6 a2.toNatClampNeg 5) s0) fun q3 =>
  if q3.1 = 0 then
  (f_X3_askOne_B40) a2 a3 a2.toNatClampNeg q3.1 q3.2
  else
  if (q3.2 6 a2.toNatClampNeg 8) ≤ a3 then
  (f_X3_askOne_B40) a2 a3 a2.toNatClampNeg q3.1 q3.2
  else
  some q3.2))
set_option maxRecDepth 4000 in
theorem i_X3_askOne (X : Cx) (g : GT) (hF : Fx X g RX3 cX3_askOne 7 4 97) (hM : FM X g none) (hI : GI g) (a2 : Int32) (a3 : Int32) (s0 : Sg) : Im X g 7 (Qm X g embV) s0 0 [(0, .ref (g.2.1 3 0)), (1, .ref (g.2.1 0 0)), (2, .int a2), (3, .int a3)] [] (f_X3_askOne a2 a3 s0) := by
  unfold f_X3_askOne
  refine im_aload_n hF dX3_askOne_0 0 rfl ?_
  refine im_get hF (v := .ref (g.2.1 13 0)) fl_3_11 (by decide) (by decide) rfl dX3_askOne_1 ?_
  refine im_iload_n hF dX3_askOne_4 2 rfl ?_
  refine im_aald13 hF dX3_askOne_5 (fun h1 => ?_)
  refine im_astore hF dX3_askOne_6 (lv' := [(4, .ref (g.2.1 6 a2.toNatClampNeg)), (0, .ref (g.2.1 3 0)), (1, .ref (g.2.1 0 0)), (2, .int a2), (3, .int a3)]) (by decide) rfl ?_
  refine im_aload_n hF dX3_askOne_8 1 rfl ?_
  refine im_aload_n hF dX3_askOne_9 2 rfl ?_
  refine im_get hF (v := .ref (g.2.1 11 0)) fl_3_32 (by decide) (by decide) rfl dX3_askOne_10 ?_
  refine im_iload_n hF dX3_askOne_13 3 rfl ?_
  refine im_aald11 hF dX3_askOne_14 (fun h2 => ?_)
  refine im_aload hF dX3_askOne_15 0 rfl ?_
  refine im_get hF (v := .int (s0 6 a2.toNatClampNeg 5)) fl_3_71 (by decide) (gi_lt h1) rfl dX3_askOne_17 ?_
  refine im_callVI hF (As := [.ref (g.2.1 8 a2.toNatClampNeg), .int (s0 6 a2.toNatClampNeg 5)]) (rest := []) my_X3_isAwaiting mv_X3_isAwaiting wl_623 (fun l r hr => c_X3_isAwaiting l g hI a2.toNatClampNeg (s0 6 a2.toNatClampNeg 5) (gi_lt h2) s0 r hr) ⟨by decide, by decide⟩ (by decide) (by decide) ⟨_, rfl, rfl⟩ rfl rfl (Nat.le_of_ble_eq_true rfl) dX3_askOne_20 (fun q3 => ?_)
  refine im_istore hF dX3_askOne_23 (lv' := [(5, .int q3.1), (4, .ref (g.2.1 6 a2.toNatClampNeg)), (0, .ref (g.2.1 3 0)), (1, .ref (g.2.1 0 0)), (2, .int a2), (3, .int a3)]) (by decide) rfl ?_
  refine im_iload hF dX3_askOne_25 0 rfl ?_
  refine im_if_eq hF 40 dX3_askOne_27 (by decide) (fun _ => ?_) (fun _ => ?_)
  · refine im_sub (lv' := [(0, .ref (g.2.1 3 0)), (1, .ref (g.2.1 0 0)), (2, .int a2), (3, .int a3), (4, .ref (g.2.1 6 a2.toNatClampNeg)), (5, .int q3.1)]) [2, 3, 4, 5, 1, 0] rfl ?_
    exact (i_X3_askOne_B40 X g hF hM hI) a2 a3 a2.toNatClampNeg q3.1 (gi_lt h1) q3.2
  · refine im_iload_n hF dX3_askOne_30 5 rfl ?_
    refine im_aload hF dX3_askOne_31 1 rfl ?_
    refine im_get hF (v := .int (q3.2 6 a2.toNatClampNeg 8)) fl_3_51 (by decide) (gi_lt h1) rfl dX3_askOne_33 ?_
    refine im_icmp_ge hF 40 dX3_askOne_36 (by decide) (fun _ => ?_) (fun _ => ?_)
    · refine im_sub (lv' := [(0, .ref (g.2.1 3 0)), (1, .ref (g.2.1 0 0)), (2, .int a2), (3, .int a3), (4, .ref (g.2.1 6 a2.toNatClampNeg)), (5, .int q3.1)]) [2, 3, 4, 5, 1, 0] rfl ?_
      exact (i_X3_askOne_B40 X g hF hM hI) a2 a3 a2.toNatClampNeg q3.1 (gi_lt h1) q3.2
    · exact im_vret hF hM dX3_askOne_39
theorem c_X3_askOne (l : Launch) (g : GT) (hI : GI g) (a2 : Int32) (a3 : Int32) (s0 : Sg) (r : Sg) (hr : f_X3_askOne a2 a3 s0 = some r) : Ct l yX3_askOne cX3_askOne 7 none 4 97 g [.ref (g.2.1 3 0), .ref (g.2.1 0 0), .int a2, .int a3] s0 (embV r) := ct_of (by decide) hI (Nat.le_of_ble_eq_true rfl) (fun X hF hM => i_X3_askOne X g hF hM hI a2 a3 s0) r hr
def f_X3_passHour_B2 (k2 : Int32 → Int32 → Sg → Option Sg) (k50 : Int32 → Int32 → Sg → Option Sg) (a2 : Int32) (a3 : Int32) (s0 : Sg) : Option Sg :=
  if (s0 0 0 2) ≤ a3 then
  k50 a2 (0 : Int32) s0
  else
  chk (gi a3 10) (
  if (s0 6 a3.toNatClampNeg 6) = 0 then
  k2 a2 (a3 + (1 : Int32)) s0
  else
  chk (gi a3 10) (
  if a2 < (s0 6 a3.toNatClampNeg 8) then
  k2 a2 (a3 + (1 : Int32)) s0
  else
  Option.bind (f_X3_comeIn a3 a2 s0) fun q3 =>
  k2 a2 (a3 + (1 : Int32)) q3))
set_option maxRecDepth 4000 in
theorem i_X3_passHour_B2 (X : Cx) (g : GT) (hF : Fx X g RX3 cX3_passHour 4 5 124) (hM : FM X g none) (hI : GI g) (k2 : Int32 → Int32 → Sg → Option Sg) (hk2 : ∀ (a2 : Int32) (a3 : Int32) (s0 : Sg), Im X g 4 (Qm X g embV) s0 2 [(0, .ref (g.2.1 3 0)), (1, .ref (g.2.1 0 0)), (2, .int a2), (3, .int a3)] [] (k2 a2 a3 s0)) (k50 : Int32 → Int32 → Sg → Option Sg) (hk50 : ∀ (a2 : Int32) (a3 : Int32) (s0 : Sg), Im X g 4 (Qm X g embV) s0 50 [(0, .ref (g.2.1 3 0)), (1, .ref (g.2.1 0 0)), (2, .int a2), (3, .int a3)] [] (k50 a2 a3 s0)) (a2 : Int32) (a3 : Int32) (s0 : Sg) : Im X g 4 (Qm X g embV) s0 2 [(0, .ref (g.2.1 3 0)), (1, .ref (g.2.1 0 0)), (2, .int a2), (3, .int a3)] [] (f_X3_passHour_B2 k2 k50 a2 a3 s0) := by
  unfold f_X3_passHour_B2
  refine im_iload_n hF dX3_passHour_2 3 rfl ?_
  refine im_aload_n hF dX3_passHour_3 1 rfl ?_
  refine im_get hF (v := .int (s0 0 0 2)) fl_3_26 (by decide) (by decide) rfl dX3_passHour_4 ?_
  refine im_icmp_ge hF 48 dX3_passHour_7 (by decide) (fun _ => ?_) (fun _ => ?_)
  · refine im_iconst hF dX3_passHour_48 (v := (0 : Int32)) (by decide) ?_
    refine im_istore_n hF dX3_passHour_49 (lv' := [(3, .int (0 : Int32)), (0, .ref (g.2.1 3 0)), (1, .ref (g.2.1 0 0)), (2, .int a2)]) rfl (by decide) rfl ?_
    refine im_sub (lv' := [(0, .ref (g.2.1 3 0)), (1, .ref (g.2.1 0 0)), (2, .int a2), (3, .int (0 : Int32))]) [1, 2, 3, 0] rfl ?_
    exact hk50 a2 (0 : Int32) s0
  · refine im_aload_n hF dX3_passHour_10 0 rfl ?_
    refine im_get hF (v := .ref (g.2.1 13 0)) fl_3_11 (by decide) (by decide) rfl dX3_passHour_11 ?_
    refine im_iload_n hF dX3_passHour_14 3 rfl ?_
    refine im_aald13 hF dX3_passHour_15 (fun h1 => ?_)
    refine im_get hF (v := .int (s0 6 a3.toNatClampNeg 6)) fl_3_48 (by decide) (gi_lt h1) rfl dX3_passHour_16 ?_
    refine im_if_eq hF 42 dX3_passHour_19 (by decide) (fun _ => ?_) (fun _ => ?_)
    · refine im_iinc hF dX3_passHour_42 (v := (a3 + (1 : Int32))) (lv' := [(3, .int (a3 + (1 : Int32))), (0, .ref (g.2.1 3 0)), (1, .ref (g.2.1 0 0)), (2, .int a2)]) 3 rfl rfl (by decide) rfl ?_
      refine im_goto hF 2 dX3_passHour_45 (by decide) ?_
      refine im_sub (lv' := [(0, .ref (g.2.1 3 0)), (1, .ref (g.2.1 0 0)), (2, .int a2), (3, .int (a3 + (1 : Int32)))]) [1, 2, 3, 0] rfl ?_
      exact hk2 a2 (a3 + (1 : Int32)) s0
    · refine im_aload_n hF dX3_passHour_22 0 rfl ?_
      refine im_get hF (v := .ref (g.2.1 13 0)) fl_3_11 (by decide) (by decide) rfl dX3_passHour_23 ?_
      refine im_iload_n hF dX3_passHour_26 3 rfl ?_
      refine im_aald13 hF dX3_passHour_27 (fun h2 => ?_)
      refine im_get hF (v := .int (s0 6 a3.toNatClampNeg 8)) fl_3_51 (by decide) (gi_lt h2) rfl dX3_passHour_28 ?_
      refine im_iload_n hF dX3_passHour_31 2 rfl ?_
      refine im_icmp_gt hF 42 dX3_passHour_32 (by decide) (fun _ => ?_) (fun _ => ?_)
      · refine im_iinc hF dX3_passHour_42 (v := (a3 + (1 : Int32))) (lv' := [(3, .int (a3 + (1 : Int32))), (0, .ref (g.2.1 3 0)), (1, .ref (g.2.1 0 0)), (2, .int a2)]) 3 rfl rfl (by decide) rfl ?_
        refine im_goto hF 2 dX3_passHour_45 (by decide) ?_
        refine im_sub (lv' := [(0, .ref (g.2.1 3 0)), (1, .ref (g.2.1 0 0)), (2, .int a2), (3, .int (a3 + (1 : Int32)))]) [1, 2, 3, 0] rfl ?_
        exact hk2 a2 (a3 + (1 : Int32)) s0
      · refine im_aload_n hF dX3_passHour_35 0 rfl ?_
        refine im_aload_n hF dX3_passHour_36 1 rfl ?_
        refine im_iload_n hF dX3_passHour_37 3 rfl ?_
        refine im_iload_n hF dX3_passHour_38 2 rfl ?_
        refine im_callVV hF (As := [.ref (g.2.1 0 0), .int a3, .int a2]) (rest := []) my_X3_comeIn mv_X3_comeIn wl_564 (fun l r hr => c_X3_comeIn l g hI a3 a2 s0 r hr) ⟨by decide, by decide⟩ (by decide) (by decide) ⟨_, rfl, rfl⟩ rfl rfl (Nat.le_of_ble_eq_true rfl) dX3_passHour_39 (fun q3 => ?_)
        refine im_iinc hF dX3_passHour_42 (v := (a3 + (1 : Int32))) (lv' := [(3, .int (a3 + (1 : Int32))), (0, .ref (g.2.1 3 0)), (1, .ref (g.2.1 0 0)), (2, .int a2)]) 3 rfl rfl (by decide) rfl ?_
        refine im_goto hF 2 dX3_passHour_45 (by decide) ?_
        refine im_sub (lv' := [(0, .ref (g.2.1 3 0)), (1, .ref (g.2.1 0 0)), (2, .int a2), (3, .int (a3 + (1 : Int32)))]) [1, 2, 3, 0] rfl ?_
        exact hk2 a2 (a3 + (1 : Int32)) q3
def f_X3_passHour_L2 (k50 : Int32 → Int32 → Sg → Option Sg) : Nat → Int32 → Int32 → Sg → Option Sg
  | 0 => fun _ _ _ => none
  | n + 1 => fun a2 a3 s0 => f_X3_passHour_B2 (f_X3_passHour_L2 k50 n) k50 a2 a3 s0
theorem i_X3_passHour_L2 (X : Cx) (g : GT) (hF : Fx X g RX3 cX3_passHour 4 5 124) (hM : FM X g none) (hI : GI g) (k50 : Int32 → Int32 → Sg → Option Sg) (hk50 : ∀ (a2 : Int32) (a3 : Int32) (s0 : Sg), Im X g 4 (Qm X g embV) s0 50 [(0, .ref (g.2.1 3 0)), (1, .ref (g.2.1 0 0)), (2, .int a2), (3, .int a3)] [] (k50 a2 a3 s0)) : ∀ (n : Nat) (a2 : Int32) (a3 : Int32) (s0 : Sg), Im X g 4 (Qm X g embV) s0 2 [(0, .ref (g.2.1 3 0)), (1, .ref (g.2.1 0 0)), (2, .int a2), (3, .int a3)] [] (f_X3_passHour_L2 k50 n a2 a3 s0) := by
  intro n
  induction n with
  | zero => intros; exact im_none
  | succ n ih => intro a2 a3 s0; exact i_X3_passHour_B2 X g hF hM hI (f_X3_passHour_L2 k50 n) ih k50 hk50 a2 a3 s0
def f_X3_passHour_B50 (k50 : Int32 → Int32 → Sg → Option Sg) (a2 : Int32) (a3 : Int32) (s0 : Sg) : Option Sg :=
  if (s0 0 0 2) ≤ a3 then
  some s0
  else
  chk (gi a3 10) (
  if (s0 6 a3.toNatClampNeg 6) = 0 then
  chk (gi a3 10) (
  if a2 < (s0 6 a3.toNatClampNeg 7) then
  k50 a2 (a3 + (1 : Int32)) s0
  else
  Option.bind (f_X3_askOne a3 a2 s0) fun q3 =>
  k50 a2 (a3 + (1 : Int32)) q3)
  else
  k50 a2 (a3 + (1 : Int32)) s0)
set_option maxRecDepth 4000 in
theorem i_X3_passHour_B50 (X : Cx) (g : GT) (hF : Fx X g RX3 cX3_passHour 4 5 124) (hM : FM X g none) (hI : GI g) (k50 : Int32 → Int32 → Sg → Option Sg) (hk50 : ∀ (a2 : Int32) (a3 : Int32) (s0 : Sg), Im X g 4 (Qm X g embV) s0 50 [(0, .ref (g.2.1 3 0)), (1, .ref (g.2.1 0 0)), (2, .int a2), (3, .int a3)] [] (k50 a2 a3 s0)) (a2 : Int32) (a3 : Int32) (s0 : Sg) : Im X g 4 (Qm X g embV) s0 50 [(0, .ref (g.2.1 3 0)), (1, .ref (g.2.1 0 0)), (2, .int a2), (3, .int a3)] [] (f_X3_passHour_B50 k50 a2 a3 s0) := by
  unfold f_X3_passHour_B50
  refine im_iload_n hF dX3_passHour_50 3 rfl ?_
  refine im_aload_n hF dX3_passHour_51 1 rfl ?_
  refine im_get hF (v := .int (s0 0 0 2)) fl_3_26 (by decide) (by decide) rfl dX3_passHour_52 ?_
  refine im_icmp_ge hF 96 dX3_passHour_55 (by decide) (fun _ => ?_) (fun _ => ?_)
  · exact im_vret hF hM dX3_passHour_96
  · refine im_aload_n hF dX3_passHour_58 0 rfl ?_
    refine im_get hF (v := .ref (g.2.1 13 0)) fl_3_11 (by decide) (by decide) rfl dX3_passHour_59 ?_
    refine im_iload_n hF dX3_passHour_62 3 rfl ?_
    refine im_aald13 hF dX3_passHour_63 (fun h1 => ?_)
    refine im_get hF (v := .int (s0 6 a3.toNatClampNeg 6)) fl_3_48 (by decide) (gi_lt h1) rfl dX3_passHour_64 ?_
    refine im_if_ne hF 90 dX3_passHour_67 (by decide) (fun _ => ?_) (fun _ => ?_)
    · refine im_aload_n hF dX3_passHour_70 0 rfl ?_
      refine im_get hF (v := .ref (g.2.1 13 0)) fl_3_11 (by decide) (by decide) rfl dX3_passHour_71 ?_
      refine im_iload_n hF dX3_passHour_74 3 rfl ?_
      refine im_aald13 hF dX3_passHour_75 (fun h2 => ?_)
      refine im_get hF (v := .int (s0 6 a3.toNatClampNeg 7)) fl_3_58 (by decide) (gi_lt h2) rfl dX3_passHour_76 ?_
      refine im_iload_n hF dX3_passHour_79 2 rfl ?_
      refine im_icmp_gt hF 90 dX3_passHour_80 (by decide) (fun _ => ?_) (fun _ => ?_)
      · refine im_iinc hF dX3_passHour_90 (v := (a3 + (1 : Int32))) (lv' := [(3, .int (a3 + (1 : Int32))), (0, .ref (g.2.1 3 0)), (1, .ref (g.2.1 0 0)), (2, .int a2)]) 3 rfl rfl (by decide) rfl ?_
        refine im_goto hF 50 dX3_passHour_93 (by decide) ?_
        refine im_sub (lv' := [(0, .ref (g.2.1 3 0)), (1, .ref (g.2.1 0 0)), (2, .int a2), (3, .int (a3 + (1 : Int32)))]) [1, 2, 3, 0] rfl ?_
        exact hk50 a2 (a3 + (1 : Int32)) s0
      · refine im_aload_n hF dX3_passHour_83 0 rfl ?_
        refine im_aload_n hF dX3_passHour_84 1 rfl ?_
        refine im_iload_n hF dX3_passHour_85 3 rfl ?_
        refine im_iload_n hF dX3_passHour_86 2 rfl ?_
        refine im_callVV hF (As := [.ref (g.2.1 0 0), .int a3, .int a2]) (rest := []) my_X3_askOne mv_X3_askOne wl_619 (fun l r hr => c_X3_askOne l g hI a3 a2 s0 r hr) ⟨by decide, by decide⟩ (by decide) (by decide) ⟨_, rfl, rfl⟩ rfl rfl (Nat.le_of_ble_eq_true rfl) dX3_passHour_87 (fun q3 => ?_)
        refine im_iinc hF dX3_passHour_90 (v := (a3 + (1 : Int32))) (lv' := [(3, .int (a3 + (1 : Int32))), (0, .ref (g.2.1 3 0)), (1, .ref (g.2.1 0 0)), (2, .int a2)]) 3 rfl rfl (by decide) rfl ?_
        refine im_goto hF 50 dX3_passHour_93 (by decide) ?_
        refine im_sub (lv' := [(0, .ref (g.2.1 3 0)), (1, .ref (g.2.1 0 0)), (2, .int a2), (3, .int (a3 + (1 : Int32)))]) [1, 2, 3, 0] rfl ?_
        exact hk50 a2 (a3 + (1 : Int32)) q3
    · refine im_iinc hF dX3_passHour_90 (v := (a3 + (1 : Int32))) (lv' := [(3, .int (a3 + (1 : Int32))), (0, .ref (g.2.1 3 0)), (1, .ref (g.2.1 0 0)), (2, .int a2)]) 3 rfl rfl (by decide) rfl ?_
      refine im_goto hF 50 dX3_passHour_93 (by decide) ?_
      refine im_sub (lv' := [(0, .ref (g.2.1 3 0)), (1, .ref (g.2.1 0 0)), (2, .int a2), (3, .int (a3 + (1 : Int32)))]) [1, 2, 3, 0] rfl ?_
      exact hk50 a2 (a3 + (1 : Int32)) s0
def f_X3_passHour_L50 : Nat → Int32 → Int32 → Sg → Option Sg
  | 0 => fun _ _ _ => none
  | n + 1 => fun a2 a3 s0 => f_X3_passHour_B50 (f_X3_passHour_L50 n) a2 a3 s0
theorem i_X3_passHour_L50 (X : Cx) (g : GT) (hF : Fx X g RX3 cX3_passHour 4 5 124) (hM : FM X g none) (hI : GI g) : ∀ (n : Nat) (a2 : Int32) (a3 : Int32) (s0 : Sg), Im X g 4 (Qm X g embV) s0 50 [(0, .ref (g.2.1 3 0)), (1, .ref (g.2.1 0 0)), (2, .int a2), (3, .int a3)] [] (f_X3_passHour_L50 n a2 a3 s0) := by
  intro n
  induction n with
  | zero => intros; exact im_none
  | succ n ih => intro a2 a3 s0; exact i_X3_passHour_B50 X g hF hM hI (f_X3_passHour_L50 n) ih a2 a3 s0
def f_X3_passHour (a2 : Int32) (s0 : Sg) : Option Sg :=
  (f_X3_passHour_L2 (f_X3_passHour_L50 FU) FU) a2 (0 : Int32) s0
set_option maxRecDepth 4000 in
theorem i_X3_passHour (X : Cx) (g : GT) (hF : Fx X g RX3 cX3_passHour 4 5 124) (hM : FM X g none) (hI : GI g) (a2 : Int32) (s0 : Sg) : Im X g 4 (Qm X g embV) s0 0 [(0, .ref (g.2.1 3 0)), (1, .ref (g.2.1 0 0)), (2, .int a2)] [] (f_X3_passHour a2 s0) := by
  unfold f_X3_passHour
  refine im_iconst hF dX3_passHour_0 (v := (0 : Int32)) (by decide) ?_
  refine im_istore_n hF dX3_passHour_1 (lv' := [(3, .int (0 : Int32)), (0, .ref (g.2.1 3 0)), (1, .ref (g.2.1 0 0)), (2, .int a2)]) rfl (by decide) rfl ?_
  refine im_sub (lv' := [(0, .ref (g.2.1 3 0)), (1, .ref (g.2.1 0 0)), (2, .int a2), (3, .int (0 : Int32))]) [1, 2, 3, 0] rfl ?_
  exact (i_X3_passHour_L2 X g hF hM hI (f_X3_passHour_L50 FU) (i_X3_passHour_L50 X g hF hM hI FU) FU) a2 (0 : Int32) s0
theorem c_X3_passHour (l : Launch) (g : GT) (hI : GI g) (a2 : Int32) (s0 : Sg) (r : Sg) (hr : f_X3_passHour a2 s0 = some r) : Ct l yX3_passHour cX3_passHour 4 none 5 124 g [.ref (g.2.1 3 0), .ref (g.2.1 0 0), .int a2] s0 (embV r) := ct_of (by decide) hI (Nat.le_of_ble_eq_true rfl) (fun X hF hM => i_X3_passHour X g hF hM hI a2 s0) r hr
def f_X3_bringUpToDate_B10 (k10 : Int32 → Sg → Option Sg) (k50 : Int32 → Int32 → Sg → Option Sg) (a2 : Int32) (s0 : Sg) : Option Sg :=
  if (s0 0 0 2) ≤ a2 then
  Option.bind (f_X3_nextHour (s0 0 0 2) s0) fun q1 =>
  k50 q1.1 (0 : Int32) q1.2
  else
  chk (gi a2 10) (
  chk (gi a2 10) (
  Option.bind (f_X6_begin a2.toNatClampNeg a2.toNatClampNeg s0) fun q4 =>
  k10 (a2 + (1 : Int32)) q4))
set_option maxRecDepth 4000 in
theorem i_X3_bringUpToDate_B10 (X : Cx) (g : GT) (hF : Fx X g RX3 cX3_bringUpToDate 4 6 147) (hM : FM X g none) (hI : GI g) (k10 : Int32 → Sg → Option Sg) (hk10 : ∀ (a2 : Int32) (s0 : Sg), Im X g 4 (Qm X g embV) s0 10 [(0, .ref (g.2.1 3 0)), (1, .ref (g.2.1 0 0)), (2, .int a2)] [] (k10 a2 s0)) (k50 : Int32 → Int32 → Sg → Option Sg) (hk50 : ∀ (a2 : Int32) (a3 : Int32) (s0 : Sg), Im X g 4 (Qm X g embV) s0 50 [(0, .ref (g.2.1 3 0)), (1, .ref (g.2.1 0 0)), (2, .int a2), (3, .int a3)] [] (k50 a2 a3 s0)) (a2 : Int32) (s0 : Sg) : Im X g 4 (Qm X g embV) s0 10 [(0, .ref (g.2.1 3 0)), (1, .ref (g.2.1 0 0)), (2, .int a2)] [] (f_X3_bringUpToDate_B10 k10 k50 a2 s0) := by
  unfold f_X3_bringUpToDate_B10
  refine im_iload_n hF dX3_bringUpToDate_10 2 rfl ?_
  refine im_aload_n hF dX3_bringUpToDate_11 1 rfl ?_
  refine im_get hF (v := .int (s0 0 0 2)) fl_3_26 (by decide) (by decide) rfl dX3_bringUpToDate_12 ?_
  refine im_icmp_ge hF 39 dX3_bringUpToDate_15 (by decide) (fun _ => ?_) (fun _ => ?_)
  · refine im_aload_n hF dX3_bringUpToDate_39 0 rfl ?_
    refine im_aload_n hF dX3_bringUpToDate_40 1 rfl ?_
    refine im_get hF (v := .int (s0 0 0 2)) fl_3_26 (by decide) (by decide) rfl dX3_bringUpToDate_41 ?_
    refine im_callVI hF (As := [.int (s0 0 0 2)]) (rest := []) my_X3_nextHour mv_X3_nextHour wl_554 (fun l r hr => c_X3_nextHour l g hI (s0 0 0 2) s0 r hr) ⟨by decide, by decide⟩ (by decide) (by decide) ⟨_, rfl, rfl⟩ rfl rfl (Nat.le_of_ble_eq_true rfl) dX3_bringUpToDate_44 (fun q1 => ?_)
    refine im_istore_n hF dX3_bringUpToDate_47 (lv' := [(2, .int q1.1), (0, .ref (g.2.1 3 0)), (1, .ref (g.2.1 0 0))]) rfl (by decide) rfl ?_
    refine im_iconst hF dX3_bringUpToDate_48 (v := (0 : Int32)) (by decide) ?_
    refine im_istore_n hF dX3_bringUpToDate_49 (lv' := [(3, .int (0 : Int32)), (2, .int q1.1), (0, .ref (g.2.1 3 0)), (1, .ref (g.2.1 0 0))]) rfl (by decide) rfl ?_
    refine im_sub (lv' := [(0, .ref (g.2.1 3 0)), (1, .ref (g.2.1 0 0)), (2, .int q1.1), (3, .int (0 : Int32))]) [2, 3, 1, 0] rfl ?_
    exact hk50 q1.1 (0 : Int32) q1.2
  · refine im_aload_n hF dX3_bringUpToDate_18 0 rfl ?_
    refine im_get hF (v := .ref (g.2.1 13 0)) fl_3_11 (by decide) (by decide) rfl dX3_bringUpToDate_19 ?_
    refine im_iload_n hF dX3_bringUpToDate_22 2 rfl ?_
    refine im_aald13 hF dX3_bringUpToDate_23 (fun h2 => ?_)
    refine im_aload_n hF dX3_bringUpToDate_24 1 rfl ?_
    refine im_get hF (v := .ref (g.2.1 11 0)) fl_3_32 (by decide) (by decide) rfl dX3_bringUpToDate_25 ?_
    refine im_iload_n hF dX3_bringUpToDate_28 2 rfl ?_
    refine im_aald11 hF dX3_bringUpToDate_29 (fun h3 => ?_)
    refine im_callVV hF (As := [.ref (g.2.1 8 a2.toNatClampNeg)]) (rest := []) my_X6_begin mv_X6_begin wl_543 (fun l r hr => c_X6_begin l g hI a2.toNatClampNeg a2.toNatClampNeg (gi_lt h2) (gi_lt h3) s0 r hr) ⟨by decide, by decide⟩ (by decide) (gi_lt h2) ⟨_, rfl, rfl⟩ rfl rfl (Nat.le_of_ble_eq_true rfl) dX3_bringUpToDate_30 (fun q4 => ?_)
    refine im_iinc hF dX3_bringUpToDate_33 (v := (a2 + (1 : Int32))) (lv' := [(2, .int (a2 + (1 : Int32))), (0, .ref (g.2.1 3 0)), (1, .ref (g.2.1 0 0))]) 2 rfl rfl (by decide) rfl ?_
    refine im_goto hF 10 dX3_bringUpToDate_36 (by decide) ?_
    refine im_sub (lv' := [(0, .ref (g.2.1 3 0)), (1, .ref (g.2.1 0 0)), (2, .int (a2 + (1 : Int32)))]) [1, 2, 0] rfl ?_
    exact hk10 (a2 + (1 : Int32)) q4
def f_X3_bringUpToDate_L10 (k50 : Int32 → Int32 → Sg → Option Sg) : Nat → Int32 → Sg → Option Sg
  | 0 => fun _ _ => none
  | n + 1 => fun a2 s0 => f_X3_bringUpToDate_B10 (f_X3_bringUpToDate_L10 k50 n) k50 a2 s0
theorem i_X3_bringUpToDate_L10 (X : Cx) (g : GT) (hF : Fx X g RX3 cX3_bringUpToDate 4 6 147) (hM : FM X g none) (hI : GI g) (k50 : Int32 → Int32 → Sg → Option Sg) (hk50 : ∀ (a2 : Int32) (a3 : Int32) (s0 : Sg), Im X g 4 (Qm X g embV) s0 50 [(0, .ref (g.2.1 3 0)), (1, .ref (g.2.1 0 0)), (2, .int a2), (3, .int a3)] [] (k50 a2 a3 s0)) : ∀ (n : Nat) (a2 : Int32) (s0 : Sg), Im X g 4 (Qm X g embV) s0 10 [(0, .ref (g.2.1 3 0)), (1, .ref (g.2.1 0 0)), (2, .int a2)] [] (f_X3_bringUpToDate_L10 k50 n a2 s0) := by
  intro n
  induction n with
  | zero => intros; exact im_none
  | succ n ih => intro a2 s0; exact i_X3_bringUpToDate_B10 X g hF hM hI (f_X3_bringUpToDate_L10 k50 n) ih k50 hk50 a2 s0
def f_X3_bringUpToDate_B50 (k50 : Int32 → Int32 → Sg → Option Sg) (a2 : Int32) (a3 : Int32) (s0 : Sg) : Option Sg :=
  if (20000 : Int32) < a3 then
  bdS (up3 s0 3 0 2 (0 : Int32)) fun s1 =>
  some s1
  else
  if (20000 : Int32) < a2 then
  bdS (up3 s0 3 0 2 (0 : Int32)) fun s2 =>
  some s2
  else
  Option.bind (f_X3_passHour a2 s0) fun q3 =>
  Option.bind (f_X3_nextHour (q3 0 0 2) q3) fun q4 =>
  k50 q4.1 (a3 + (1 : Int32)) q4.2
set_option maxRecDepth 4000 in
theorem i_X3_bringUpToDate_B50 (X : Cx) (g : GT) (hF : Fx X g RX3 cX3_bringUpToDate 4 6 147) (hM : FM X g none) (hI : GI g) (k50 : Int32 → Int32 → Sg → Option Sg) (hk50 : ∀ (a2 : Int32) (a3 : Int32) (s0 : Sg), Im X g 4 (Qm X g embV) s0 50 [(0, .ref (g.2.1 3 0)), (1, .ref (g.2.1 0 0)), (2, .int a2), (3, .int a3)] [] (k50 a2 a3 s0)) (a2 : Int32) (a3 : Int32) (s0 : Sg) : Im X g 4 (Qm X g embV) s0 50 [(0, .ref (g.2.1 3 0)), (1, .ref (g.2.1 0 0)), (2, .int a2), (3, .int a3)] [] (f_X3_bringUpToDate_B50 k50 a2 a3 s0) := by
  unfold f_X3_bringUpToDate_B50
  refine im_iload_n hF dX3_bringUpToDate_50 3 rfl ?_
  refine im_sipush hF dX3_bringUpToDate_51 (v := (20000 : Int32)) (by decide) ?_
  refine im_icmp_gt hF 85 dX3_bringUpToDate_54 (by decide) (fun _ => ?_) (fun _ => ?_)
  · refine im_aload_n hF dX3_bringUpToDate_85 0 rfl ?_
    refine im_iconst hF dX3_bringUpToDate_86 (v := (0 : Int32)) (by decide) ?_
    refine im_put hF (0 : Int32) fp_3_22 (by decide) (by decide) rfl rfl rfl dX3_bringUpToDate_87 ?_
    refine im_bdS (fun s1 => ?_)
    exact im_vret hF hM dX3_bringUpToDate_90
  · refine im_iload_n hF dX3_bringUpToDate_57 2 rfl ?_
    refine im_sipush hF dX3_bringUpToDate_58 (v := (20000 : Int32)) (by decide) ?_
    refine im_icmp_gt hF 85 dX3_bringUpToDate_61 (by decide) (fun _ => ?_) (fun _ => ?_)
    · refine im_aload_n hF dX3_bringUpToDate_85 0 rfl ?_
      refine im_iconst hF dX3_bringUpToDate_86 (v := (0 : Int32)) (by decide) ?_
      refine im_put hF (0 : Int32) fp_3_22 (by decide) (by decide) rfl rfl rfl dX3_bringUpToDate_87 ?_
      refine im_bdS (fun s2 => ?_)
      exact im_vret hF hM dX3_bringUpToDate_90
    · refine im_aload_n hF dX3_bringUpToDate_64 0 rfl ?_
      refine im_aload_n hF dX3_bringUpToDate_65 1 rfl ?_
      refine im_iload_n hF dX3_bringUpToDate_66 2 rfl ?_
      refine im_callVV hF (As := [.ref (g.2.1 0 0), .int a2]) (rest := []) my_X3_passHour mv_X3_passHour wl_560 (fun l r hr => c_X3_passHour l g hI a2 s0 r hr) ⟨by decide, by decide⟩ (by decide) (by decide) ⟨_, rfl, rfl⟩ rfl rfl (Nat.le_of_ble_eq_true rfl) dX3_bringUpToDate_67 (fun q3 => ?_)
      refine im_aload_n hF dX3_bringUpToDate_70 0 rfl ?_
      refine im_aload_n hF dX3_bringUpToDate_71 1 rfl ?_
      refine im_get hF (v := .int (q3 0 0 2)) fl_3_26 (by decide) (by decide) rfl dX3_bringUpToDate_72 ?_
      refine im_callVI hF (As := [.int (q3 0 0 2)]) (rest := []) my_X3_nextHour mv_X3_nextHour wl_554 (fun l r hr => c_X3_nextHour l g hI (q3 0 0 2) q3 r hr) ⟨by decide, by decide⟩ (by decide) (by decide) ⟨_, rfl, rfl⟩ rfl rfl (Nat.le_of_ble_eq_true rfl) dX3_bringUpToDate_75 (fun q4 => ?_)
      refine im_istore_n hF dX3_bringUpToDate_78 (lv' := [(2, .int q4.1), (0, .ref (g.2.1 3 0)), (1, .ref (g.2.1 0 0)), (3, .int a3)]) rfl (by decide) rfl ?_
      refine im_iinc hF dX3_bringUpToDate_79 (v := (a3 + (1 : Int32))) (lv' := [(3, .int (a3 + (1 : Int32))), (2, .int q4.1), (0, .ref (g.2.1 3 0)), (1, .ref (g.2.1 0 0))]) 3 rfl rfl (by decide) rfl ?_
      refine im_goto hF 50 dX3_bringUpToDate_82 (by decide) ?_
      refine im_sub (lv' := [(0, .ref (g.2.1 3 0)), (1, .ref (g.2.1 0 0)), (2, .int q4.1), (3, .int (a3 + (1 : Int32)))]) [2, 3, 1, 0] rfl ?_
      exact hk50 q4.1 (a3 + (1 : Int32)) q4.2
def f_X3_bringUpToDate_L50 : Nat → Int32 → Int32 → Sg → Option Sg
  | 0 => fun _ _ _ => none
  | n + 1 => fun a2 a3 s0 => f_X3_bringUpToDate_B50 (f_X3_bringUpToDate_L50 n) a2 a3 s0
theorem i_X3_bringUpToDate_L50 (X : Cx) (g : GT) (hF : Fx X g RX3 cX3_bringUpToDate 4 6 147) (hM : FM X g none) (hI : GI g) : ∀ (n : Nat) (a2 : Int32) (a3 : Int32) (s0 : Sg), Im X g 4 (Qm X g embV) s0 50 [(0, .ref (g.2.1 3 0)), (1, .ref (g.2.1 0 0)), (2, .int a2), (3, .int a3)] [] (f_X3_bringUpToDate_L50 n a2 a3 s0) := by
  intro n
  induction n with
  | zero => intros; exact im_none
  | succ n ih => intro a2 a3 s0; exact i_X3_bringUpToDate_B50 X g hF hM hI (f_X3_bringUpToDate_L50 n) ih a2 a3 s0
def f_X3_bringUpToDate (s0 : Sg) : Option Sg :=
  if (s0 3 0 2) = 0 then
  some s0
  else
  (f_X3_bringUpToDate_L10 (f_X3_bringUpToDate_L50 FU) FU) (0 : Int32) s0
set_option maxRecDepth 4000 in
theorem i_X3_bringUpToDate (X : Cx) (g : GT) (hF : Fx X g RX3 cX3_bringUpToDate 4 6 147) (hM : FM X g none) (hI : GI g) (s0 : Sg) : Im X g 4 (Qm X g embV) s0 0 [(0, .ref (g.2.1 3 0)), (1, .ref (g.2.1 0 0))] [] (f_X3_bringUpToDate s0) := by
  unfold f_X3_bringUpToDate
  refine im_aload_n hF dX3_bringUpToDate_0 0 rfl ?_
  refine im_get hF (v := .int (s0 3 0 2)) fl_3_22 (by decide) (by decide) rfl dX3_bringUpToDate_1 ?_
  refine im_if_ne hF 8 dX3_bringUpToDate_4 (by decide) (fun _ => ?_) (fun _ => ?_)
  · exact im_vret hF hM dX3_bringUpToDate_7
  · refine im_iconst hF dX3_bringUpToDate_8 (v := (0 : Int32)) (by decide) ?_
    refine im_istore_n hF dX3_bringUpToDate_9 (lv' := [(2, .int (0 : Int32)), (0, .ref (g.2.1 3 0)), (1, .ref (g.2.1 0 0))]) rfl (by decide) rfl ?_
    refine im_sub (lv' := [(0, .ref (g.2.1 3 0)), (1, .ref (g.2.1 0 0)), (2, .int (0 : Int32))]) [1, 2, 0] rfl ?_
    exact (i_X3_bringUpToDate_L10 X g hF hM hI (f_X3_bringUpToDate_L50 FU) (i_X3_bringUpToDate_L50 X g hF hM hI FU) FU) (0 : Int32) s0
theorem c_X3_bringUpToDate (l : Launch) (g : GT) (hI : GI g) (s0 : Sg) (r : Sg) (hr : f_X3_bringUpToDate s0 = some r) : Ct l yX3_bringUpToDate cX3_bringUpToDate 4 none 6 147 g [.ref (g.2.1 3 0), .ref (g.2.1 0 0)] s0 (embV r) := ct_of (by decide) hI (Nat.le_of_ble_eq_true rfl) (fun X hF hM => i_X3_bringUpToDate X g hF hM hI s0) r hr
def f_X9_truth (a1 : Int32) (a2 : Int32) (a3 : Int32) (s0 : Sg) : Option (Int32 × Sg) :=
  Option.bind (f_X0_hasVoyage a1 s0) fun q1 =>
  if q1.1 = 0 then
  some ((-1 : Int32), q1.2)
  else
  chk (gi a1 10) (
  Option.bind (f_X8_hasPlace a1.toNatClampNeg a2 q1.2) fun q3 =>
  if q3.1 = 0 then
  some ((-1 : Int32), q3.2)
  else
  Option.bind (f_X3_bringUpToDate q3.2) fun q4 =>
  chk (gi a1 10) (
  if a3 = (0 : Int32) then
  chk (gi a2 7) (
  some ((q4 30 a1.toNatClampNeg a2.toNatClampNeg), q4))
  else
  if a3 = (1 : Int32) then
  chk (gi a2 7) (
  some ((q4 31 a1.toNatClampNeg a2.toNatClampNeg), q4))
  else
  if a3 = (2 : Int32) then
  chk (gi a2 7) (
  if (q4 31 a1.toNatClampNeg a2.toNatClampNeg) = (-1 : Int32) then
  some ((-1 : Int32), q4)
  else
  chk (gi a2 7) (
  some ((q4 32 a1.toNatClampNeg a2.toNatClampNeg), q4)))
  else
  if a3 = (3 : Int32) then
  chk (gi a2 7) (
  if (q4 30 a1.toNatClampNeg a2.toNatClampNeg) = (-1 : Int32) then
  some ((-1 : Int32), q4)
  else
  chk (gi a1 10) (
  chk (gi a2 7) (
  Option.bind (f_X8_lateAt a1.toNatClampNeg a2 (q4 30 a1.toNatClampNeg a2.toNatClampNeg) q4) fun q17 =>
  some (q17.1, q17.2))))
  else
  some ((-1 : Int32), q4)))
set_option maxRecDepth 4000 in
theorem i_X9_truth (X : Cx) (g : GT) (hF : Fx X g RX9 cX9_truth 5 7 170) (hM : FM X g (some .int)) (hI : GI g) (a1 : Int32) (a2 : Int32) (a3 : Int32) (s0 : Sg) : Im X g 5 (Qm X g embI) s0 0 [(0, .ref (g.2.1 9 0)), (1, .int a1), (2, .int a2), (3, .int a3)] [] (f_X9_truth a1 a2 a3 s0) := by
  unfold f_X9_truth
  refine im_aload_n hF dX9_truth_0 0 rfl ?_
  refine im_get hF (v := .ref (g.2.1 0 0)) fl_9_10 (by decide) (by decide) rfl dX9_truth_1 ?_
  refine im_iload_n hF dX9_truth_4 1 rfl ?_
  refine im_callVI hF (As := [.int a1]) (rest := []) my_X0_hasVoyage mv_X0_hasVoyage wl_415 (fun l r hr => c_X0_hasVoyage l g hI a1 s0 r hr) ⟨by decide, by decide⟩ (by decide) (by decide) ⟨_, rfl, rfl⟩ rfl rfl (Nat.le_of_ble_eq_true rfl) dX9_truth_5 (fun q1 => ?_)
  refine im_if_eq hF 27 dX9_truth_8 (by decide) (fun _ => ?_) (fun _ => ?_)
  · refine im_iconst hF dX9_truth_27 (v := (-1 : Int32)) (by decide) ?_
    exact im_iret hF hM dX9_truth_28
  · refine im_aload_n hF dX9_truth_11 0 rfl ?_
    refine im_get hF (v := .ref (g.2.1 0 0)) fl_9_10 (by decide) (by decide) rfl dX9_truth_12 ?_
    refine im_get hF (v := .ref (g.2.1 11 0)) fl_9_96 (by decide) (by decide) rfl dX9_truth_15 ?_
    refine im_iload_n hF dX9_truth_18 1 rfl ?_
    refine im_aald11 hF dX9_truth_19 (fun h2 => ?_)
    refine im_iload_n hF dX9_truth_20 2 rfl ?_
    refine im_callVI hF (As := [.int a2]) (rest := []) my_X8_hasPlace mv_X8_hasPlace wl_535 (fun l r hr => c_X8_hasPlace l g hI a1.toNatClampNeg a2 (gi_lt h2) q1.2 r hr) ⟨by decide, by decide⟩ (by decide) (gi_lt h2) ⟨_, rfl, rfl⟩ rfl rfl (Nat.le_of_ble_eq_true rfl) dX9_truth_21 (fun q3 => ?_)
    refine im_if_ne hF 29 dX9_truth_24 (by decide) (fun _ => ?_) (fun _ => ?_)
    · refine im_iconst hF dX9_truth_27 (v := (-1 : Int32)) (by decide) ?_
      exact im_iret hF hM dX9_truth_28
    · refine im_aload_n hF dX9_truth_29 0 rfl ?_
      refine im_get hF (v := .ref (g.2.1 3 0)) fl_9_33 (by decide) (by decide) rfl dX9_truth_30 ?_
      refine im_aload_n hF dX9_truth_33 0 rfl ?_
      refine im_get hF (v := .ref (g.2.1 0 0)) fl_9_10 (by decide) (by decide) rfl dX9_truth_34 ?_
      refine im_callVV hF (As := [.ref (g.2.1 0 0)]) (rest := []) my_X3_bringUpToDate mv_X3_bringUpToDate wl_539 (fun l r hr => c_X3_bringUpToDate l g hI  q3.2 r hr) ⟨by decide, by decide⟩ (by decide) (by decide) ⟨_, rfl, rfl⟩ rfl rfl (Nat.le_of_ble_eq_true rfl) dX9_truth_37 (fun q4 => ?_)
      refine im_aload_n hF dX9_truth_40 0 rfl ?_
      refine im_get hF (v := .ref (g.2.1 3 0)) fl_9_33 (by decide) (by decide) rfl dX9_truth_41 ?_
      refine im_get hF (v := .ref (g.2.1 13 0)) fl_9_187 (by decide) (by decide) rfl dX9_truth_44 ?_
      refine im_iload_n hF dX9_truth_47 1 rfl ?_
      refine im_aald13 hF dX9_truth_48 (fun h5 => ?_)
      refine im_astore hF dX9_truth_49 (lv' := [(4, .ref (g.2.1 6 a1.toNatClampNeg)), (0, .ref (g.2.1 9 0)), (1, .int a1), (2, .int a2), (3, .int a3)]) (by decide) rfl ?_
      refine im_iload_n hF dX9_truth_51 4 rfl ?_
      refine im_ite (fun h6 => ?_) (fun h6 => ?_)
      · refine im_tableIn hF 84 dX9_truth_52 (by rw [h6]; decide) (by rw [h6]; decide) (by rw [h6]; rfl) (by decide) ?_
        refine im_aload hF dX9_truth_84 0 rfl ?_
        refine im_get hF (v := .ref (g.2.1 30 a1.toNatClampNeg)) fl_9_191 (by decide) (gi_lt h5) rfl dX9_truth_86 ?_
        refine im_iload_n hF dX9_truth_89 3 rfl ?_
        refine im_iald hF ar_30 (gi_lt h5) dX9_truth_90 (fun h7 => ?_)
        exact im_iret hF hM dX9_truth_91
      · refine im_ite (fun h8 => ?_) (fun h8 => ?_)
        · refine im_tableIn hF 92 dX9_truth_52 (by rw [h8]; decide) (by rw [h8]; decide) (by rw [h8]; rfl) (by decide) ?_
          refine im_aload hF dX9_truth_92 0 rfl ?_
          refine im_get hF (v := .ref (g.2.1 31 a1.toNatClampNeg)) fl_9_196 (by decide) (gi_lt h5) rfl dX9_truth_94 ?_
          refine im_iload_n hF dX9_truth_97 3 rfl ?_
          refine im_iald hF ar_31 (gi_lt h5) dX9_truth_98 (fun h9 => ?_)
          exact im_iret hF hM dX9_truth_99
        · refine im_ite (fun h10 => ?_) (fun h10 => ?_)
          · refine im_tableIn hF 100 dX9_truth_52 (by rw [h10]; decide) (by rw [h10]; decide) (by rw [h10]; rfl) (by decide) ?_
            refine im_aload hF dX9_truth_100 0 rfl ?_
            refine im_get hF (v := .ref (g.2.1 31 a1.toNatClampNeg)) fl_9_196 (by decide) (gi_lt h5) rfl dX9_truth_102 ?_
            refine im_iload_n hF dX9_truth_105 3 rfl ?_
            refine im_iald hF ar_31 (gi_lt h5) dX9_truth_106 (fun h11 => ?_)
            refine im_iconst hF dX9_truth_107 (v := (-1 : Int32)) (by decide) ?_
            refine im_icmp_ne hF 115 dX9_truth_108 (by decide) (fun _ => ?_) (fun _ => ?_)
            · refine im_iconst hF dX9_truth_111 (v := (-1 : Int32)) (by decide) ?_
              refine im_goto hF 122 dX9_truth_112 (by decide) ?_
              exact im_iret hF hM dX9_truth_122
            · refine im_aload hF dX9_truth_115 0 rfl ?_
              refine im_get hF (v := .ref (g.2.1 32 a1.toNatClampNeg)) fl_9_199 (by decide) (gi_lt h5) rfl dX9_truth_117 ?_
              refine im_iload_n hF dX9_truth_120 3 rfl ?_
              refine im_iald hF ar_32 (gi_lt h5) dX9_truth_121 (fun h12 => ?_)
              exact im_iret hF hM dX9_truth_122
          · refine im_ite (fun h13 => ?_) (fun h13 => ?_)
            · refine im_tableIn hF 123 dX9_truth_52 (by rw [h13]; decide) (by rw [h13]; decide) (by rw [h13]; rfl) (by decide) ?_
              refine im_aload hF dX9_truth_123 0 rfl ?_
              refine im_get hF (v := .ref (g.2.1 30 a1.toNatClampNeg)) fl_9_191 (by decide) (gi_lt h5) rfl dX9_truth_125 ?_
              refine im_iload_n hF dX9_truth_128 3 rfl ?_
              refine im_iald hF ar_30 (gi_lt h5) dX9_truth_129 (fun h14 => ?_)
              refine im_iconst hF dX9_truth_130 (v := (-1 : Int32)) (by decide) ?_
              refine im_icmp_ne hF 138 dX9_truth_131 (by decide) (fun _ => ?_) (fun _ => ?_)
              · refine im_iconst hF dX9_truth_134 (v := (-1 : Int32)) (by decide) ?_
                refine im_goto hF 158 dX9_truth_135 (by decide) ?_
                exact im_iret hF hM dX9_truth_158
              · refine im_aload_n hF dX9_truth_138 1 rfl ?_
                refine im_get hF (v := .ref (g.2.1 0 0)) fl_9_10 (by decide) (by decide) rfl dX9_truth_139 ?_
                refine im_get hF (v := .ref (g.2.1 11 0)) fl_9_96 (by decide) (by decide) rfl dX9_truth_142 ?_
                refine im_iload_n hF dX9_truth_145 2 rfl ?_
                refine im_aald11 hF dX9_truth_146 (fun h15 => ?_)
                refine im_iload_n hF dX9_truth_147 3 rfl ?_
                refine im_aload hF dX9_truth_148 0 rfl ?_
                refine im_get hF (v := .ref (g.2.1 30 a1.toNatClampNeg)) fl_9_191 (by decide) (gi_lt h5) rfl dX9_truth_150 ?_
                refine im_iload_n hF dX9_truth_153 3 rfl ?_
                refine im_iald hF ar_30 (gi_lt h5) dX9_truth_154 (fun h16 => ?_)
                refine im_callVI hF (As := [.int a2, .int (q4 30 a1.toNatClampNeg a2.toNatClampNeg)]) (rest := []) my_X8_lateAt mv_X8_lateAt wl_651 (fun l r hr => c_X8_lateAt l g hI a1.toNatClampNeg a2 (q4 30 a1.toNatClampNeg a2.toNatClampNeg) (gi_lt h15) q4 r hr) ⟨by decide, by decide⟩ (by decide) (gi_lt h15) ⟨_, rfl, rfl⟩ rfl rfl (Nat.le_of_ble_eq_true rfl) dX9_truth_155 (fun q17 => ?_)
                exact im_iret hF hM dX9_truth_158
            · refine im_tableOut hF 159 dX9_truth_52 (by have := lv_neT h6 (a := 0) rfl; have := lv_neT h8 (a := 1) rfl; have := lv_neT h10 (a := 2) rfl; have := lv_neT h13 (a := 3) rfl; omega) (by decide) ?_
              refine im_iconst hF dX9_truth_159 (v := (-1 : Int32)) (by decide) ?_
              exact im_iret hF hM dX9_truth_160
theorem c_X9_truth (l : Launch) (g : GT) (hI : GI g) (a1 : Int32) (a2 : Int32) (a3 : Int32) (s0 : Sg) (r : (Int32 × Sg)) (hr : f_X9_truth a1 a2 a3 s0 = some r) : Ct l yX9_truth cX9_truth 5 (some .int) 7 170 g [.ref (g.2.1 9 0), .int a1, .int a2, .int a3] s0 (embI r) := ct_of (by decide) hI (Nat.le_of_ble_eq_true rfl) (fun X hF hM => i_X9_truth X g hF hM hI a1 a2 a3 s0) r hr
def f_X6_shareAt (o0 : Nat) (a1 : Int32) (a2 : Int32) (s0 : Sg) : Option (Int32 × Sg) :=
  chk (gi ((a1 * (5 : Int32)) + a2) 35) (
  some ((s0 33 o0 ((a1 * (5 : Int32)) + a2).toNatClampNeg), s0))
set_option maxRecDepth 4000 in
theorem i_X6_shareAt (X : Cx) (g : GT) (hF : Fx X g RX6 cX6_shareAt 3 0 0) (hM : FM X g (some .int)) (hI : GI g) (o0 : Nat) (a1 : Int32) (a2 : Int32) (ho0 : o0 < cnt 6) (s0 : Sg) : Im X g 3 (Qm X g embI) s0 0 [(0, .ref (g.2.1 6 o0)), (1, .int a1), (2, .int a2)] [] (f_X6_shareAt o0 a1 a2 s0) := by
  unfold f_X6_shareAt
  refine im_aload_n hF dX6_shareAt_0 0 rfl ?_
  refine im_get hF (v := .ref (g.2.1 33 o0)) fl_6_21 (by decide) ho0 rfl dX6_shareAt_1 ?_
  refine im_iload_n hF dX6_shareAt_4 1 rfl ?_
  refine im_iconst hF dX6_shareAt_5 (v := (5 : Int32)) (by decide) ?_
  refine im_imul hF dX6_shareAt_6 ?_
  refine im_iload_n hF dX6_shareAt_7 2 rfl ?_
  refine im_iadd hF dX6_shareAt_8 ?_
  refine im_iald hF ar_33 ho0 dX6_shareAt_9 (fun h1 => ?_)
  exact im_iret hF hM dX6_shareAt_10
theorem c_X6_shareAt (l : Launch) (g : GT) (hI : GI g) (o0 : Nat) (a1 : Int32) (a2 : Int32) (ho0 : o0 < cnt 6) (s0 : Sg) (r : (Int32 × Sg)) (hr : f_X6_shareAt o0 a1 a2 s0 = some r) : Ct l yX6_shareAt cX6_shareAt 3 (some .int) 0 0 g [.ref (g.2.1 6 o0), .int a1, .int a2] s0 (embI r) := ct_of (by decide) hI (Nat.le_of_ble_eq_true rfl) (fun X hF hM => i_X6_shareAt X g hF hM hI o0 a1 a2 ho0 s0) r hr
def f_X9_share_B93 (os0 : Nat) (as1 : Int32) (as2 : Int32) (s0 : Sg) : Option (Int32 × Sg) :=
  Option.bind (f_X6_shareAt os0 as1 as2 s0) fun q1 =>
  some (q1.1, q1.2)
set_option maxRecDepth 4000 in
theorem i_X9_share_B93 (X : Cx) (g : GT) (hF : Fx X g RX9 cX9_share 5 7 170) (hM : FM X g (some .int)) (hI : GI g) (os0 : Nat) (as1 : Int32) (as2 : Int32) (hos0 : os0 < cnt 6) (s0 : Sg) : Im X g 5 (Qm X g embI) s0 93 [] [.int as2, .int as1, .ref (g.2.1 6 os0)] (f_X9_share_B93 os0 as1 as2 s0) := by
  unfold f_X9_share_B93
  refine im_callVI hF (As := [.int as1, .int as2]) (rest := []) my_X6_shareAt mv_X6_shareAt wl_656 (fun l r hr => c_X6_shareAt l g hI os0 as1 as2 hos0 s0 r hr) ⟨by decide, by decide⟩ (by decide) hos0 ⟨_, rfl, rfl⟩ rfl rfl (Nat.le_of_ble_eq_true rfl) dX9_share_93 (fun q1 => ?_)
  exact im_iret hF hM dX9_share_96
def f_X9_share_B41 (a1 : Int32) (a2 : Int32) (a3 : Int32) (s0 : Sg) : Option (Int32 × Sg) :=
  Option.bind (f_X3_bringUpToDate s0) fun q1 =>
  chk (gi a1 10) (
  chk (gi a2 7) (
  if (q1 30 a1.toNatClampNeg a2.toNatClampNeg) = (-1 : Int32) then
  some ((-1 : Int32), q1)
  else
  if a3 = (-1 : Int32) then
  (f_X9_share_B93) a1.toNatClampNeg a2 (0 : Int32) q1
  else
  (f_X9_share_B93) a1.toNatClampNeg a2 ((1 : Int32) + a3) q1))
set_option maxRecDepth 4000 in
theorem i_X9_share_B41 (X : Cx) (g : GT) (hF : Fx X g RX9 cX9_share 5 7 170) (hM : FM X g (some .int)) (hI : GI g) (a1 : Int32) (a2 : Int32) (a3 : Int32) (s0 : Sg) : Im X g 5 (Qm X g embI) s0 41 [(0, .ref (g.2.1 9 0)), (1, .int a1), (2, .int a2), (3, .int a3)] [] (f_X9_share_B41 a1 a2 a3 s0) := by
  unfold f_X9_share_B41
  refine im_aload_n hF dX9_share_41 0 rfl ?_
  refine im_get hF (v := .ref (g.2.1 3 0)) fl_9_33 (by decide) (by decide) rfl dX9_share_42 ?_
  refine im_aload_n hF dX9_share_45 0 rfl ?_
  refine im_get hF (v := .ref (g.2.1 0 0)) fl_9_10 (by decide) (by decide) rfl dX9_share_46 ?_
  refine im_callVV hF (As := [.ref (g.2.1 0 0)]) (rest := []) my_X3_bringUpToDate mv_X3_bringUpToDate wl_539 (fun l r hr => c_X3_bringUpToDate l g hI  s0 r hr) ⟨by decide, by decide⟩ (by decide) (by decide) ⟨_, rfl, rfl⟩ rfl rfl (Nat.le_of_ble_eq_true rfl) dX9_share_49 (fun q1 => ?_)
  refine im_aload_n hF dX9_share_52 0 rfl ?_
  refine im_get hF (v := .ref (g.2.1 3 0)) fl_9_33 (by decide) (by decide) rfl dX9_share_53 ?_
  refine im_get hF (v := .ref (g.2.1 13 0)) fl_9_187 (by decide) (by decide) rfl dX9_share_56 ?_
  refine im_iload_n hF dX9_share_59 1 rfl ?_
  refine im_aald13 hF dX9_share_60 (fun h2 => ?_)
  refine im_astore hF dX9_share_61 (lv' := [(4, .ref (g.2.1 6 a1.toNatClampNeg)), (0, .ref (g.2.1 9 0)), (1, .int a1), (2, .int a2), (3, .int a3)]) (by decide) rfl ?_
  refine im_aload hF dX9_share_63 0 rfl ?_
  refine im_get hF (v := .ref (g.2.1 30 a1.toNatClampNeg)) fl_9_191 (by decide) (gi_lt h2) rfl dX9_share_65 ?_
  refine im_iload_n hF dX9_share_68 3 rfl ?_
  refine im_iald hF ar_30 (gi_lt h2) dX9_share_69 (fun h3 => ?_)
  refine im_iconst hF dX9_share_70 (v := (-1 : Int32)) (by decide) ?_
  refine im_icmp_ne hF 78 dX9_share_71 (by decide) (fun _ => ?_) (fun _ => ?_)
  · refine im_iconst hF dX9_share_74 (v := (-1 : Int32)) (by decide) ?_
    refine im_goto hF 96 dX9_share_75 (by decide) ?_
    exact im_iret hF hM dX9_share_96
  · refine im_aload hF dX9_share_78 0 rfl ?_
    refine im_iload_n hF dX9_share_80 3 rfl ?_
    refine im_iload_n hF dX9_share_81 4 rfl ?_
    refine im_iconst hF dX9_share_82 (v := (-1 : Int32)) (by decide) ?_
    refine im_icmp_ne hF 90 dX9_share_83 (by decide) (fun _ => ?_) (fun _ => ?_)
    · refine im_iconst hF dX9_share_86 (v := (0 : Int32)) (by decide) ?_
      refine im_goto hF 93 dX9_share_87 (by decide) ?_
      refine im_sub (lv' := []) [] rfl ?_
      exact (i_X9_share_B93 X g hF hM hI) a1.toNatClampNeg a2 (0 : Int32) (gi_lt h2) q1
    · refine im_iconst hF dX9_share_90 (v := (1 : Int32)) (by decide) ?_
      refine im_iload_n hF dX9_share_91 4 rfl ?_
      refine im_iadd hF dX9_share_92 ?_
      refine im_sub (lv' := []) [] rfl ?_
      exact (i_X9_share_B93 X g hF hM hI) a1.toNatClampNeg a2 ((1 : Int32) + a3) (gi_lt h2) q1
def f_X9_share (a1 : Int32) (a2 : Int32) (a3 : Int32) (s0 : Sg) : Option (Int32 × Sg) :=
  Option.bind (f_X0_hasVoyage a1 s0) fun q1 =>
  if q1.1 = 0 then
  some ((-1 : Int32), q1.2)
  else
  chk (gi a1 10) (
  Option.bind (f_X8_comesTo a1.toNatClampNeg a2 q1.2) fun q3 =>
  if q3.1 = 0 then
  some ((-1 : Int32), q3.2)
  else
  if a3 = (-1 : Int32) then
  (f_X9_share_B41) a1 a2 a3 q3.2
  else
  Option.bind (f_X9_isLine a3 q3.2) fun q4 =>
  if q4.1 = 0 then
  some ((-1 : Int32), q4.2)
  else
  (f_X9_share_B41) a1 a2 a3 q4.2)
set_option maxRecDepth 4000 in
theorem i_X9_share (X : Cx) (g : GT) (hF : Fx X g RX9 cX9_share 5 7 170) (hM : FM X g (some .int)) (hI : GI g) (a1 : Int32) (a2 : Int32) (a3 : Int32) (s0 : Sg) : Im X g 5 (Qm X g embI) s0 0 [(0, .ref (g.2.1 9 0)), (1, .int a1), (2, .int a2), (3, .int a3)] [] (f_X9_share a1 a2 a3 s0) := by
  unfold f_X9_share
  refine im_aload_n hF dX9_share_0 0 rfl ?_
  refine im_get hF (v := .ref (g.2.1 0 0)) fl_9_10 (by decide) (by decide) rfl dX9_share_1 ?_
  refine im_iload_n hF dX9_share_4 1 rfl ?_
  refine im_callVI hF (As := [.int a1]) (rest := []) my_X0_hasVoyage mv_X0_hasVoyage wl_415 (fun l r hr => c_X0_hasVoyage l g hI a1 s0 r hr) ⟨by decide, by decide⟩ (by decide) (by decide) ⟨_, rfl, rfl⟩ rfl rfl (Nat.le_of_ble_eq_true rfl) dX9_share_5 (fun q1 => ?_)
  refine im_if_eq hF 39 dX9_share_8 (by decide) (fun _ => ?_) (fun _ => ?_)
  · refine im_iconst hF dX9_share_39 (v := (-1 : Int32)) (by decide) ?_
    exact im_iret hF hM dX9_share_40
  · refine im_aload_n hF dX9_share_11 0 rfl ?_
    refine im_get hF (v := .ref (g.2.1 0 0)) fl_9_10 (by decide) (by decide) rfl dX9_share_12 ?_
    refine im_get hF (v := .ref (g.2.1 11 0)) fl_9_96 (by decide) (by decide) rfl dX9_share_15 ?_
    refine im_iload_n hF dX9_share_18 1 rfl ?_
    refine im_aald11 hF dX9_share_19 (fun h2 => ?_)
    refine im_iload_n hF dX9_share_20 2 rfl ?_
    refine im_callVI hF (As := [.int a2]) (rest := []) my_X8_comesTo mv_X8_comesTo wl_447 (fun l r hr => c_X8_comesTo l g hI a1.toNatClampNeg a2 (gi_lt h2) q1.2 r hr) ⟨by decide, by decide⟩ (by decide) (gi_lt h2) ⟨_, rfl, rfl⟩ rfl rfl (Nat.le_of_ble_eq_true rfl) dX9_share_21 (fun q3 => ?_)
    refine im_if_eq hF 39 dX9_share_24 (by decide) (fun _ => ?_) (fun _ => ?_)
    · refine im_iconst hF dX9_share_39 (v := (-1 : Int32)) (by decide) ?_
      exact im_iret hF hM dX9_share_40
    · refine im_iload_n hF dX9_share_27 3 rfl ?_
      refine im_iconst hF dX9_share_28 (v := (-1 : Int32)) (by decide) ?_
      refine im_icmp_eq hF 41 dX9_share_29 (by decide) (fun _ => ?_) (fun _ => ?_)
      · exact (i_X9_share_B41 X g hF hM hI) a1 a2 a3 q3.2
      · refine im_iload_n hF dX9_share_32 3 rfl ?_
        refine im_callSI hF (As := [.int a3]) (rest := []) my_X9_isLine ms_X9_isLine wl_404 (fun l r hr => c_X9_isLine l g hI a3 q3.2 r hr) ⟨by decide, by decide⟩ rfl rfl (Nat.le_of_ble_eq_true rfl) dX9_share_33 (fun q4 => ?_)
        refine im_if_ne hF 41 dX9_share_36 (by decide) (fun _ => ?_) (fun _ => ?_)
        · refine im_iconst hF dX9_share_39 (v := (-1 : Int32)) (by decide) ?_
          exact im_iret hF hM dX9_share_40
        · exact (i_X9_share_B41 X g hF hM hI) a1 a2 a3 q4.2
theorem c_X9_share (l : Launch) (g : GT) (hI : GI g) (a1 : Int32) (a2 : Int32) (a3 : Int32) (s0 : Sg) (r : (Int32 × Sg)) (hr : f_X9_share a1 a2 a3 s0 = some r) : Ct l yX9_share cX9_share 5 (some .int) 7 170 g [.ref (g.2.1 9 0), .int a1, .int a2, .int a3] s0 (embI r) := ct_of (by decide) hI (Nat.le_of_ble_eq_true rfl) (fun X hF hM => i_X9_share X g hF hM hI a1 a2 a3 s0) r hr
def f_X6_sharesOverPlaces_B5 (k5 : Nat → Int32 → Int32 → Int64 → Int32 → Sg → Option (Int64 × Sg)) (o0 : Nat) (a1 : Int32) (a2 : Int32) (a3 : Int64) (a5 : Int32) (s0 : Sg) : Option (Int64 × Sg) :=
  if a1 < a5 then
  some (a3, s0)
  else
  chk (gi a5 7) (
  if (s0 30 o0 a5.toNatClampNeg) = (-1 : Int32) then
  k5 o0 a1 a2 a3 (a5 + (1 : Int32)) s0
  else
  Option.bind (f_X6_shareAt o0 a5 a2 s0) fun q2 =>
  bdL (a3 + q2.1.toInt64) fun x3 =>
  k5 o0 a1 a2 x3 (a5 + (1 : Int32)) q2.2)
set_option maxRecDepth 4000 in
theorem i_X6_sharesOverPlaces_B5 (X : Cx) (g : GT) (hF : Fx X g RX6 cX6_sharesOverPlaces 6 1 22) (hM : FM X g (some .long)) (hI : GI g) (k5 : Nat → Int32 → Int32 → Int64 → Int32 → Sg → Option (Int64 × Sg)) (hk5 : ∀ (o0 : Nat) (a1 : Int32) (a2 : Int32) (a3 : Int64) (a5 : Int32) (ho0 : o0 < cnt 6) (s0 : Sg), Im X g 6 (Qm X g embL) s0 5 [(0, .ref (g.2.1 6 o0)), (1, .int a1), (2, .int a2), (3, .long a3), (5, .int a5)] [] (k5 o0 a1 a2 a3 a5 s0)) (o0 : Nat) (a1 : Int32) (a2 : Int32) (a3 : Int64) (a5 : Int32) (ho0 : o0 < cnt 6) (s0 : Sg) : Im X g 6 (Qm X g embL) s0 5 [(0, .ref (g.2.1 6 o0)), (1, .int a1), (2, .int a2), (3, .long a3), (5, .int a5)] [] (f_X6_sharesOverPlaces_B5 k5 o0 a1 a2 a3 a5 s0) := by
  unfold f_X6_sharesOverPlaces_B5
  refine im_iload hF dX6_sharesOverPlaces_5 4 rfl ?_
  refine im_iload_n hF dX6_sharesOverPlaces_7 1 rfl ?_
  refine im_icmp_gt hF 39 dX6_sharesOverPlaces_8 (by decide) (fun _ => ?_) (fun _ => ?_)
  · refine im_lload_n hF dX6_sharesOverPlaces_39 3 rfl ?_
    exact im_lret hF hM dX6_sharesOverPlaces_40
  · refine im_aload_n hF dX6_sharesOverPlaces_11 0 rfl ?_
    refine im_get hF (v := .ref (g.2.1 30 o0)) fl_6_9 (by decide) ho0 rfl dX6_sharesOverPlaces_12 ?_
    refine im_iload hF dX6_sharesOverPlaces_15 4 rfl ?_
    refine im_iald hF ar_30 ho0 dX6_sharesOverPlaces_17 (fun h1 => ?_)
    refine im_iconst hF dX6_sharesOverPlaces_18 (v := (-1 : Int32)) (by decide) ?_
    refine im_icmp_eq hF 33 dX6_sharesOverPlaces_19 (by decide) (fun _ => ?_) (fun _ => ?_)
    · refine im_iinc hF dX6_sharesOverPlaces_33 (v := (a5 + (1 : Int32))) (lv' := [(5, .int (a5 + (1 : Int32))), (0, .ref (g.2.1 6 o0)), (1, .int a1), (2, .int a2), (3, .long a3)]) 4 rfl rfl (by decide) rfl ?_
      refine im_goto hF 5 dX6_sharesOverPlaces_36 (by decide) ?_
      refine im_sub (lv' := [(0, .ref (g.2.1 6 o0)), (1, .int a1), (2, .int a2), (3, .long a3), (5, .int (a5 + (1 : Int32)))]) [1, 2, 3, 4, 0] rfl ?_
      exact hk5 o0 a1 a2 a3 (a5 + (1 : Int32)) ho0 s0
    · refine im_lload_n hF dX6_sharesOverPlaces_22 3 rfl ?_
      refine im_aload_n hF dX6_sharesOverPlaces_23 0 rfl ?_
      refine im_iload hF dX6_sharesOverPlaces_24 4 rfl ?_
      refine im_iload_n hF dX6_sharesOverPlaces_26 2 rfl ?_
      refine im_callVI hF (As := [.int a5, .int a2]) (rest := [.long a3]) my_X6_shareAt mv_X6_shareAt wl_669 (fun l r hr => c_X6_shareAt l g hI o0 a5 a2 ho0 s0 r hr) ⟨by decide, by decide⟩ (by decide) ho0 ⟨_, rfl, rfl⟩ rfl rfl (Nat.le_of_ble_eq_true rfl) dX6_sharesOverPlaces_27 (fun q2 => ?_)
      refine im_i2l hF dX6_sharesOverPlaces_30 ?_
      refine im_ladd hF dX6_sharesOverPlaces_31 ?_
      refine im_bdL (fun x3 => ?_)
      refine im_lstore_n hF dX6_sharesOverPlaces_32 (lv' := [(3, .long x3), (0, .ref (g.2.1 6 o0)), (1, .int a1), (2, .int a2), (5, .int a5)]) rfl (by decide) rfl ?_
      refine im_iinc hF dX6_sharesOverPlaces_33 (v := (a5 + (1 : Int32))) (lv' := [(5, .int (a5 + (1 : Int32))), (3, .long x3), (0, .ref (g.2.1 6 o0)), (1, .int a1), (2, .int a2)]) 4 rfl rfl (by decide) rfl ?_
      refine im_goto hF 5 dX6_sharesOverPlaces_36 (by decide) ?_
      refine im_sub (lv' := [(0, .ref (g.2.1 6 o0)), (1, .int a1), (2, .int a2), (3, .long x3), (5, .int (a5 + (1 : Int32)))]) [2, 3, 4, 1, 0] rfl ?_
      exact hk5 o0 a1 a2 x3 (a5 + (1 : Int32)) ho0 q2.2
def f_X6_sharesOverPlaces_L5 : Nat → Nat → Int32 → Int32 → Int64 → Int32 → Sg → Option (Int64 × Sg)
  | 0 => fun _ _ _ _ _ _ => none
  | n + 1 => fun o0 a1 a2 a3 a5 s0 => f_X6_sharesOverPlaces_B5 (f_X6_sharesOverPlaces_L5 n) o0 a1 a2 a3 a5 s0
theorem i_X6_sharesOverPlaces_L5 (X : Cx) (g : GT) (hF : Fx X g RX6 cX6_sharesOverPlaces 6 1 22) (hM : FM X g (some .long)) (hI : GI g) : ∀ (n : Nat) (o0 : Nat) (a1 : Int32) (a2 : Int32) (a3 : Int64) (a5 : Int32) (ho0 : o0 < cnt 6) (s0 : Sg), Im X g 6 (Qm X g embL) s0 5 [(0, .ref (g.2.1 6 o0)), (1, .int a1), (2, .int a2), (3, .long a3), (5, .int a5)] [] (f_X6_sharesOverPlaces_L5 n o0 a1 a2 a3 a5 s0) := by
  intro n
  induction n with
  | zero => intros; exact im_none
  | succ n ih => intro o0 a1 a2 a3 a5 ho0 s0; exact i_X6_sharesOverPlaces_B5 X g hF hM hI (f_X6_sharesOverPlaces_L5 n) ih o0 a1 a2 a3 a5 ho0 s0
def f_X6_sharesOverPlaces (o0 : Nat) (a1 : Int32) (a2 : Int32) (s0 : Sg) : Option (Int64 × Sg) :=
  bdL (0 : Int64) fun x1 =>
  (f_X6_sharesOverPlaces_L5 FU) o0 a1 a2 x1 (1 : Int32) s0
set_option maxRecDepth 4000 in
theorem i_X6_sharesOverPlaces (X : Cx) (g : GT) (hF : Fx X g RX6 cX6_sharesOverPlaces 6 1 22) (hM : FM X g (some .long)) (hI : GI g) (o0 : Nat) (a1 : Int32) (a2 : Int32) (ho0 : o0 < cnt 6) (s0 : Sg) : Im X g 6 (Qm X g embL) s0 0 [(0, .ref (g.2.1 6 o0)), (1, .int a1), (2, .int a2)] [] (f_X6_sharesOverPlaces o0 a1 a2 s0) := by
  unfold f_X6_sharesOverPlaces
  refine im_lconst hF dX6_sharesOverPlaces_0 (v := (0 : Int64)) (by decide) ?_
  refine im_bdL (fun x1 => ?_)
  refine im_lstore_n hF dX6_sharesOverPlaces_1 (lv' := [(3, .long x1), (0, .ref (g.2.1 6 o0)), (1, .int a1), (2, .int a2)]) rfl (by decide) rfl ?_
  refine im_iconst hF dX6_sharesOverPlaces_2 (v := (1 : Int32)) (by decide) ?_
  refine im_istore hF dX6_sharesOverPlaces_3 (lv' := [(5, .int (1 : Int32)), (3, .long x1), (0, .ref (g.2.1 6 o0)), (1, .int a1), (2, .int a2)]) (by decide) rfl ?_
  refine im_sub (lv' := [(0, .ref (g.2.1 6 o0)), (1, .int a1), (2, .int a2), (3, .long x1), (5, .int (1 : Int32))]) [2, 3, 4, 1, 0] rfl ?_
  exact (i_X6_sharesOverPlaces_L5 X g hF hM hI FU) o0 a1 a2 x1 (1 : Int32) ho0 s0
theorem c_X6_sharesOverPlaces (l : Launch) (g : GT) (hI : GI g) (o0 : Nat) (a1 : Int32) (a2 : Int32) (ho0 : o0 < cnt 6) (s0 : Sg) (r : (Int64 × Sg)) (hr : f_X6_sharesOverPlaces o0 a1 a2 s0 = some r) : Ct l yX6_sharesOverPlaces cX6_sharesOverPlaces 6 (some .long) 1 22 g [.ref (g.2.1 6 o0), .int a1, .int a2] s0 (embL r) := ct_of (by decide) hI (Nat.le_of_ble_eq_true rfl) (fun X hF hM => i_X6_sharesOverPlaces X g hF hM hI o0 a1 a2 ho0 s0) r hr
def f_X9_owed_B27 (k27 : Int32 → Int64 → Int32 → Sg → Option (Int64 × Sg)) (a1 : Int32) (a2 : Int64) (a4 : Int32) (s0 : Sg) : Option (Int64 × Sg) :=
  if (s0 0 0 2) ≤ a4 then
  some (a2, s0)
  else
  chk (gi a4 10) (
  chk (gi a4 10) (
  Option.bind (f_X6_sharesOverPlaces a4.toNatClampNeg (s0 8 a4.toNatClampNeg 4) ((1 : Int32) + a1) s0) fun q3 =>
  chk (gi (q3.2 8 a4.toNatClampNeg 0) 4) (chk (decide ((q3.2 12 0 (q3.2 8 a4.toNatClampNeg 0).toNatClampNeg).toNatClampNeg < 5)) (
  bdL (a2 + (q3.1 * (q3.2 2 ((q3.2 12 0 (q3.2 8 a4.toNatClampNeg 0).toNatClampNeg).toNatClampNeg) 1).toInt64)) fun x6 =>
  k27 a1 x6 (a4 + (1 : Int32)) q3.2))))
set_option maxRecDepth 4000 in
theorem i_X9_owed_B27 (X : Cx) (g : GT) (hF : Fx X g RX9 cX9_owed 8 7 170) (hM : FM X g (some .long)) (hI : GI g) (k27 : Int32 → Int64 → Int32 → Sg → Option (Int64 × Sg)) (hk27 : ∀ (a1 : Int32) (a2 : Int64) (a4 : Int32) (s0 : Sg), Im X g 8 (Qm X g embL) s0 27 [(0, .ref (g.2.1 9 0)), (1, .int a1), (2, .long a2), (4, .int a4)] [] (k27 a1 a2 a4 s0)) (a1 : Int32) (a2 : Int64) (a4 : Int32) (s0 : Sg) : Im X g 8 (Qm X g embL) s0 27 [(0, .ref (g.2.1 9 0)), (1, .int a1), (2, .long a2), (4, .int a4)] [] (f_X9_owed_B27 k27 a1 a2 a4 s0) := by
  unfold f_X9_owed_B27
  refine im_iload hF dX9_owed_27 3 rfl ?_
  refine im_aload_n hF dX9_owed_29 0 rfl ?_
  refine im_get hF (v := .ref (g.2.1 0 0)) fl_9_10 (by decide) (by decide) rfl dX9_owed_30 ?_
  refine im_get hF (v := .int (s0 0 0 2)) fl_9_93 (by decide) (by decide) rfl dX9_owed_33 ?_
  refine im_icmp_ge hF 103 dX9_owed_36 (by decide) (fun _ => ?_) (fun _ => ?_)
  · refine im_lload_n hF dX9_owed_103 2 rfl ?_
    exact im_lret hF hM dX9_owed_104
  · refine im_aload_n hF dX9_owed_39 0 rfl ?_
    refine im_get hF (v := .ref (g.2.1 0 0)) fl_9_10 (by decide) (by decide) rfl dX9_owed_40 ?_
    refine im_get hF (v := .ref (g.2.1 11 0)) fl_9_96 (by decide) (by decide) rfl dX9_owed_43 ?_
    refine im_iload hF dX9_owed_46 3 rfl ?_
    refine im_aald11 hF dX9_owed_48 (fun h1 => ?_)
    refine im_astore hF dX9_owed_49 (lv' := [(5, .ref (g.2.1 8 a4.toNatClampNeg)), (0, .ref (g.2.1 9 0)), (1, .int a1), (2, .long a2), (4, .int a4)]) (by decide) rfl ?_
    refine im_aload_n hF dX9_owed_51 1 rfl ?_
    refine im_get hF (v := .ref (g.2.1 3 0)) fl_9_33 (by decide) (by decide) rfl dX9_owed_52 ?_
    refine im_get hF (v := .ref (g.2.1 13 0)) fl_9_187 (by decide) (by decide) rfl dX9_owed_55 ?_
    refine im_iload hF dX9_owed_58 4 rfl ?_
    refine im_aald13 hF dX9_owed_60 (fun h2 => ?_)
    refine im_aload hF dX9_owed_61 0 rfl ?_
    refine im_get hF (v := .int (s0 8 a4.toNatClampNeg 4)) fl_9_109 (by decide) (gi_lt h1) rfl dX9_owed_63 ?_
    refine im_iconst hF dX9_owed_66 (v := (1 : Int32)) (by decide) ?_
    refine im_iload_n hF dX9_owed_67 2 rfl ?_
    refine im_iadd hF dX9_owed_68 ?_
    refine im_callVL hF (As := [.int (s0 8 a4.toNatClampNeg 4), .int ((1 : Int32) + a1)]) (rest := []) my_X6_sharesOverPlaces mv_X6_sharesOverPlaces wl_665 (fun l r hr => c_X6_sharesOverPlaces l g hI a4.toNatClampNeg (s0 8 a4.toNatClampNeg 4) ((1 : Int32) + a1) (gi_lt h2) s0 r hr) ⟨by decide, by decide⟩ (by decide) (gi_lt h2) ⟨_, rfl, rfl⟩ rfl rfl (Nat.le_of_ble_eq_true rfl) dX9_owed_69 (fun q3 => ?_)
    refine im_lstore hF dX9_owed_72 (lv' := [(6, .long q3.1), (5, .ref (g.2.1 8 a4.toNatClampNeg)), (0, .ref (g.2.1 9 0)), (1, .int a1), (2, .long a2), (4, .int a4)]) (by decide) rfl ?_
    refine im_lload_n hF dX9_owed_74 4 rfl ?_
    refine im_lload hF dX9_owed_75 0 rfl ?_
    refine im_aload_n hF dX9_owed_77 2 rfl ?_
    refine im_get hF (v := .ref (g.2.1 0 0)) fl_9_10 (by decide) (by decide) rfl dX9_owed_78 ?_
    refine im_get hF (v := .ref (g.2.1 12 0)) fl_9_159 (by decide) (by decide) rfl dX9_owed_81 ?_
    refine im_aload hF dX9_owed_84 1 rfl ?_
    refine im_get hF (v := .int (q3.2 8 a4.toNatClampNeg 0)) fl_9_214 (by decide) (gi_lt h1) rfl dX9_owed_86 ?_
    refine im_aald12 hF dX9_owed_89 (fun h4 => ?_)
    refine im_chk (fun h5 => ?_)
    refine im_get hF (v := .int (q3.2 2 ((q3.2 12 0 (q3.2 8 a4.toNatClampNeg 0).toNatClampNeg).toNatClampNeg) 1)) fl_9_217 (by decide) (of_decide_eq_true h5) rfl dX9_owed_90 ?_
    refine im_i2l hF dX9_owed_93 ?_
    refine im_lmul hF dX9_owed_94 ?_
    refine im_ladd hF dX9_owed_95 ?_
    refine im_bdL (fun x6 => ?_)
    refine im_lstore_n hF dX9_owed_96 (lv' := [(2, .long x6), (6, .long q3.1), (5, .ref (g.2.1 8 a4.toNatClampNeg)), (0, .ref (g.2.1 9 0)), (1, .int a1), (4, .int a4)]) rfl (by decide) rfl ?_
    refine im_iinc hF dX9_owed_97 (v := (a4 + (1 : Int32))) (lv' := [(4, .int (a4 + (1 : Int32))), (2, .long x6), (6, .long q3.1), (5, .ref (g.2.1 8 a4.toNatClampNeg)), (0, .ref (g.2.1 9 0)), (1, .int a1)]) 5 rfl rfl (by decide) rfl ?_
    refine im_goto hF 27 dX9_owed_100 (by decide) ?_
    refine im_sub (lv' := [(0, .ref (g.2.1 9 0)), (1, .int a1), (2, .long x6), (4, .int (a4 + (1 : Int32)))]) [4, 5, 1, 0] rfl ?_
    exact hk27 a1 x6 (a4 + (1 : Int32)) q3.2
def f_X9_owed_L27 : Nat → Int32 → Int64 → Int32 → Sg → Option (Int64 × Sg)
  | 0 => fun _ _ _ _ => none
  | n + 1 => fun a1 a2 a4 s0 => f_X9_owed_B27 (f_X9_owed_L27 n) a1 a2 a4 s0
theorem i_X9_owed_L27 (X : Cx) (g : GT) (hF : Fx X g RX9 cX9_owed 8 7 170) (hM : FM X g (some .long)) (hI : GI g) : ∀ (n : Nat) (a1 : Int32) (a2 : Int64) (a4 : Int32) (s0 : Sg), Im X g 8 (Qm X g embL) s0 27 [(0, .ref (g.2.1 9 0)), (1, .int a1), (2, .long a2), (4, .int a4)] [] (f_X9_owed_L27 n a1 a2 a4 s0) := by
  intro n
  induction n with
  | zero => intros; exact im_none
  | succ n ih => intro a1 a2 a4 s0; exact i_X9_owed_B27 X g hF hM hI (f_X9_owed_L27 n) ih a1 a2 a4 s0
def f_X9_owed (a1 : Int32) (s0 : Sg) : Option (Int64 × Sg) :=
  Option.bind (f_X9_isLine a1 s0) fun q1 =>
  if q1.1 = 0 then
  some ((-1 : Int64), q1.2)
  else
  Option.bind (f_X3_bringUpToDate q1.2) fun q2 =>
  bdL (0 : Int64) fun x3 =>
  (f_X9_owed_L27 FU) a1 x3 (0 : Int32) q2
set_option maxRecDepth 4000 in
theorem i_X9_owed (X : Cx) (g : GT) (hF : Fx X g RX9 cX9_owed 8 7 170) (hM : FM X g (some .long)) (hI : GI g) (a1 : Int32) (s0 : Sg) : Im X g 8 (Qm X g embL) s0 0 [(0, .ref (g.2.1 9 0)), (1, .int a1)] [] (f_X9_owed a1 s0) := by
  unfold f_X9_owed
  refine im_iload_n hF dX9_owed_0 1 rfl ?_
  refine im_callSI hF (As := [.int a1]) (rest := []) my_X9_isLine ms_X9_isLine wl_404 (fun l r hr => c_X9_isLine l g hI a1 s0 r hr) ⟨by decide, by decide⟩ rfl rfl (Nat.le_of_ble_eq_true rfl) dX9_owed_1 (fun q1 => ?_)
  refine im_if_ne hF 11 dX9_owed_4 (by decide) (fun _ => ?_) (fun _ => ?_)
  · refine im_ldc2 hF (v := (-1 : Int64)) wl_664 dX9_owed_7 ?_
    exact im_lret hF hM dX9_owed_10
  · refine im_aload_n hF dX9_owed_11 0 rfl ?_
    refine im_get hF (v := .ref (g.2.1 3 0)) fl_9_33 (by decide) (by decide) rfl dX9_owed_12 ?_
    refine im_aload_n hF dX9_owed_15 0 rfl ?_
    refine im_get hF (v := .ref (g.2.1 0 0)) fl_9_10 (by decide) (by decide) rfl dX9_owed_16 ?_
    refine im_callVV hF (As := [.ref (g.2.1 0 0)]) (rest := []) my_X3_bringUpToDate mv_X3_bringUpToDate wl_539 (fun l r hr => c_X3_bringUpToDate l g hI  q1.2 r hr) ⟨by decide, by decide⟩ (by decide) (by decide) ⟨_, rfl, rfl⟩ rfl rfl (Nat.le_of_ble_eq_true rfl) dX9_owed_19 (fun q2 => ?_)
    refine im_lconst hF dX9_owed_22 (v := (0 : Int64)) (by decide) ?_
    refine im_bdL (fun x3 => ?_)
    refine im_lstore_n hF dX9_owed_23 (lv' := [(2, .long x3), (0, .ref (g.2.1 9 0)), (1, .int a1)]) rfl (by decide) rfl ?_
    refine im_iconst hF dX9_owed_24 (v := (0 : Int32)) (by decide) ?_
    refine im_istore hF dX9_owed_25 (lv' := [(4, .int (0 : Int32)), (2, .long x3), (0, .ref (g.2.1 9 0)), (1, .int a1)]) (by decide) rfl ?_
    refine im_sub (lv' := [(0, .ref (g.2.1 9 0)), (1, .int a1), (2, .long x3), (4, .int (0 : Int32))]) [2, 3, 1, 0] rfl ?_
    exact (i_X9_owed_L27 X g hF hM hI FU) a1 x3 (0 : Int32) q2
theorem c_X9_owed (l : Launch) (g : GT) (hI : GI g) (a1 : Int32) (s0 : Sg) (r : (Int64 × Sg)) (hr : f_X9_owed a1 s0 = some r) : Ct l yX9_owed cX9_owed 8 (some .long) 7 170 g [.ref (g.2.1 9 0), .int a1] s0 (embL r) := ct_of (by decide) hI (Nat.le_of_ble_eq_true rfl) (fun X hF hM => i_X9_owed X g hF hM hI a1 s0) r hr
def f_X9_isAskedHour (a0 : Int32) (s0 : Sg) : Option (Int32 × Sg) :=
  if a0 < 0 then
  some ((0 : Int32), s0)
  else
  if (20000 : Int32) < a0 then
  some ((0 : Int32), s0)
  else
  some ((1 : Int32), s0)
set_option maxRecDepth 4000 in
theorem i_X9_isAskedHour (X : Cx) (g : GT) (hF : Fx X g RX9 cX9_isAskedHour 1 0 0) (hM : FM X g (some .boolean)) (hI : GI g) (a0 : Int32) (s0 : Sg) : Im X g 1 (Qm X g embI) s0 0 [(0, .int a0)] [] (f_X9_isAskedHour a0 s0) := by
  unfold f_X9_isAskedHour
  refine im_iload_n hF dX9_isAskedHour_0 0 rfl ?_
  refine im_if_lt hF 15 dX9_isAskedHour_1 (by decide) (fun _ => ?_) (fun _ => ?_)
  · refine im_iconst hF dX9_isAskedHour_15 (v := (0 : Int32)) (by decide) ?_
    exact im_zret hF hM (by decide) dX9_isAskedHour_16
  · refine im_iload_n hF dX9_isAskedHour_4 0 rfl ?_
    refine im_sipush hF dX9_isAskedHour_5 (v := (20000 : Int32)) (by decide) ?_
    refine im_icmp_gt hF 15 dX9_isAskedHour_8 (by decide) (fun _ => ?_) (fun _ => ?_)
    · refine im_iconst hF dX9_isAskedHour_15 (v := (0 : Int32)) (by decide) ?_
      exact im_zret hF hM (by decide) dX9_isAskedHour_16
    · refine im_iconst hF dX9_isAskedHour_11 (v := (1 : Int32)) (by decide) ?_
      refine im_goto hF 16 dX9_isAskedHour_12 (by decide) ?_
      exact im_zret hF hM (by decide) dX9_isAskedHour_16
theorem c_X9_isAskedHour (l : Launch) (g : GT) (hI : GI g) (a0 : Int32) (s0 : Sg) (r : (Int32 × Sg)) (hr : f_X9_isAskedHour a0 s0 = some r) : Ct l yX9_isAskedHour cX9_isAskedHour 1 (some .boolean) 0 0 g [.int a0] s0 (embI r) := ct_of (by decide) hI (Nat.le_of_ble_eq_true rfl) (fun X hF hM => i_X9_isAskedHour X g hF hM hI a0 s0) r hr
