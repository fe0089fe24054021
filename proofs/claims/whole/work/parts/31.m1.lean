def f_X10_isExcused_B115 (k115 : Int32 → Int32 → Sg → Option (Int32 × Sg)) (a6 : Int32) (a7 : Int32) (s0 : Sg) : Option (Int32 × Sg) :=
  chk (gi a6 5) (
  if (((12 : Int32) * a6) + (s0 61 0 a6.toNatClampNeg)) ≤ a7 then
  some ((0 : Int32), s0)
  else
  chk (gi a7 60) (
  if (s0 64 0 a7.toNatClampNeg) = (88 : Int32) then
  chk (gi a7 60) (
  chk (gi a7 60) (
  Option.bind (f_X10_holds a6 (s0 66 0 a7.toNatClampNeg) (s0 67 0 a7.toNatClampNeg) s0) fun q5 =>
  if q5.1 = 0 then
  k115 a6 (a7 + (1 : Int32)) q5.2
  else
  some ((1 : Int32), q5.2)))
  else
  k115 a6 (a7 + (1 : Int32)) s0))
set_option maxRecDepth 4000 in
theorem i_X10_isExcused_B115 (X : Cx) (g : GT) (hF : Fx X g RX10 cX10_isExcused 8 4 89) (hM : FM X g (some .boolean)) (hI : GI g) (k115 : Int32 → Int32 → Sg → Option (Int32 × Sg)) (hk115 : ∀ (a6 : Int32) (a7 : Int32) (s0 : Sg), Im X g 8 (Qm X g embI) s0 115 [(0, .ref (g.2.1 10 0)), (6, .int a6), (7, .int a7)] [] (k115 a6 a7 s0)) (a6 : Int32) (a7 : Int32) (s0 : Sg) : Im X g 8 (Qm X g embI) s0 115 [(0, .ref (g.2.1 10 0)), (6, .int a6), (7, .int a7)] [] (f_X10_isExcused_B115 k115 a6 a7 s0) := by
  unfold f_X10_isExcused_B115
  refine im_iload hF dX10_isExcused_115 2 rfl ?_
  refine im_bipush hF dX10_isExcused_117 (v := (12 : Int32)) (by decide) ?_
  refine im_iload hF dX10_isExcused_119 1 rfl ?_
  refine im_imul hF dX10_isExcused_121 ?_
  refine im_aload_n hF dX10_isExcused_122 0 rfl ?_
  refine im_get hF (v := .ref (g.2.1 61 0)) fl_10_66 (by decide) (by decide) rfl dX10_isExcused_123 ?_
  refine im_iload hF dX10_isExcused_126 1 rfl ?_
  refine im_iald hF ar_61 (by decide) dX10_isExcused_128 (fun h1 => ?_)
  refine im_iadd hF dX10_isExcused_129 ?_
  refine im_icmp_ge hF 176 dX10_isExcused_130 (by decide) (fun _ => ?_) (fun _ => ?_)
  · refine im_iconst hF dX10_isExcused_176 (v := (0 : Int32)) (by decide) ?_
    exact im_zret hF hM (by decide) dX10_isExcused_177
  · refine im_aload_n hF dX10_isExcused_133 0 rfl ?_
    refine im_get hF (v := .ref (g.2.1 64 0)) fl_10_75 (by decide) (by decide) rfl dX10_isExcused_134 ?_
    refine im_iload hF dX10_isExcused_137 2 rfl ?_
    refine im_iald hF ar_64 (by decide) dX10_isExcused_139 (fun h2 => ?_)
    refine im_bipush hF dX10_isExcused_140 (v := (88 : Int32)) (by decide) ?_
    refine im_icmp_ne hF 170 dX10_isExcused_142 (by decide) (fun _ => ?_) (fun _ => ?_)
    · refine im_aload_n hF dX10_isExcused_145 0 rfl ?_
      refine im_iload hF dX10_isExcused_146 1 rfl ?_
      refine im_aload_n hF dX10_isExcused_148 0 rfl ?_
      refine im_get hF (v := .ref (g.2.1 66 0)) fl_10_81 (by decide) (by decide) rfl dX10_isExcused_149 ?_
      refine im_iload hF dX10_isExcused_152 2 rfl ?_
      refine im_iald hF ar_66 (by decide) dX10_isExcused_154 (fun h3 => ?_)
      refine im_aload_n hF dX10_isExcused_155 0 rfl ?_
      refine im_get hF (v := .ref (g.2.1 67 0)) fl_10_84 (by decide) (by decide) rfl dX10_isExcused_156 ?_
      refine im_iload hF dX10_isExcused_159 2 rfl ?_
      refine im_iald hF ar_67 (by decide) dX10_isExcused_161 (fun h4 => ?_)
      refine im_callVI hF (As := [.int a6, .int (s0 66 0 a7.toNatClampNeg), .int (s0 67 0 a7.toNatClampNeg)]) (rest := []) my_X10_holds mv_X10_holds wl_1085 (fun l r hr => c_X10_holds l g hI a6 (s0 66 0 a7.toNatClampNeg) (s0 67 0 a7.toNatClampNeg) s0 r hr) ⟨by decide, by decide⟩ (by decide) (by decide) ⟨_, rfl, rfl⟩ rfl rfl (Nat.le_of_ble_eq_true rfl) dX10_isExcused_162 (fun q5 => ?_)
      refine im_if_eq hF 170 dX10_isExcused_165 (by decide) (fun _ => ?_) (fun _ => ?_)
      · refine im_iinc hF dX10_isExcused_170 (v := (a7 + (1 : Int32))) (lv' := [(7, .int (a7 + (1 : Int32))), (0, .ref (g.2.1 10 0)), (6, .int a6)]) 2 rfl rfl (by decide) rfl ?_
        refine im_goto hF 115 dX10_isExcused_173 (by decide) ?_
        refine im_sub (lv' := [(0, .ref (g.2.1 10 0)), (6, .int a6), (7, .int (a7 + (1 : Int32)))]) [1, 2, 0] rfl ?_
        exact hk115 a6 (a7 + (1 : Int32)) q5.2
      · refine im_iconst hF dX10_isExcused_168 (v := (1 : Int32)) (by decide) ?_
        exact im_zret hF hM (by decide) dX10_isExcused_169
    · refine im_iinc hF dX10_isExcused_170 (v := (a7 + (1 : Int32))) (lv' := [(7, .int (a7 + (1 : Int32))), (0, .ref (g.2.1 10 0)), (6, .int a6)]) 2 rfl rfl (by decide) rfl ?_
      refine im_goto hF 115 dX10_isExcused_173 (by decide) ?_
      refine im_sub (lv' := [(0, .ref (g.2.1 10 0)), (6, .int a6), (7, .int (a7 + (1 : Int32)))]) [1, 2, 0] rfl ?_
      exact hk115 a6 (a7 + (1 : Int32)) s0
def f_X10_isExcused_L115 : Nat → Int32 → Int32 → Sg → Option (Int32 × Sg)
  | 0 => fun _ _ _ => none
  | n + 1 => fun a6 a7 s0 => f_X10_isExcused_B115 (f_X10_isExcused_L115 n) a6 a7 s0
theorem i_X10_isExcused_L115 (X : Cx) (g : GT) (hF : Fx X g RX10 cX10_isExcused 8 4 89) (hM : FM X g (some .boolean)) (hI : GI g) : ∀ (n : Nat) (a6 : Int32) (a7 : Int32) (s0 : Sg), Im X g 8 (Qm X g embI) s0 115 [(0, .ref (g.2.1 10 0)), (6, .int a6), (7, .int a7)] [] (f_X10_isExcused_L115 n a6 a7 s0) := by
  intro n
  induction n with
  | zero => intros; exact im_none
  | succ n ih => intro a6 a7 s0; exact i_X10_isExcused_B115 X g hF hM hI (f_X10_isExcused_L115 n) ih a6 a7 s0
def f_X10_isExcused_B36 (a1 : Int32) (a2 : Int32) (a3 : Int32) (a4 : Int32) (as1 : Int32) (as2 : Int32) (s0 : Sg) : Option (Int32 × Sg) :=
  chk (gi as1 5) (bdS (up3 s0 73 0 as1.toNatClampNeg as2) fun s2 =>
  chk (gi a4 70) (
  chk (gi (1 : Int32) 5) (bdS (up3 s2 73 0 (1 : Int32).toNatClampNeg (s2 77 0 a4.toNatClampNeg)) fun s5 =>
  chk (gi a4 70) (
  Option.bind (f_X10_windIn a1 (a2 - (1 : Int32)) (s5 76 0 a4.toNatClampNeg) s5) fun q7 =>
  chk (gi (2 : Int32) 5) (bdS (up3 q7.2 73 0 (2 : Int32).toNatClampNeg q7.1) fun s9 =>
  chk (gi ((((6 : Int32) * a1) + a2) - (1 : Int32)) 60) (
  chk (gi (3 : Int32) 5) (bdS (up3 s9 73 0 (3 : Int32).toNatClampNeg (s9 54 0 ((((6 : Int32) * a1) + a2) - (1 : Int32)).toNatClampNeg)) fun s12 =>
  Option.bind (f_X10_month a3 s12) fun q13 =>
  chk (gi (4 : Int32) 5) (bdS (up3 q13.2 73 0 (4 : Int32).toNatClampNeg q13.1) fun s15 =>
  chk (gi a1 10) (
  bdI (s15 48 0 a1.toNatClampNeg) fun x17 =>
  bdI ((12 : Int32) * x17) fun x18 =>
  (f_X10_isExcused_L115 FU) x17 x18 s15)))))))))
set_option maxRecDepth 4000 in
theorem i_X10_isExcused_B36 (X : Cx) (g : GT) (hF : Fx X g RX10 cX10_isExcused 8 4 89) (hM : FM X g (some .boolean)) (hI : GI g) (a1 : Int32) (a2 : Int32) (a3 : Int32) (a4 : Int32) (as1 : Int32) (as2 : Int32) (s0 : Sg) : Im X g 8 (Qm X g embI) s0 36 [(0, .ref (g.2.1 10 0)), (1, .int a1), (2, .int a2), (3, .int a3), (4, .int a4)] [.int as2, .int as1, .ref (g.2.1 73 0)] (f_X10_isExcused_B36 a1 a2 a3 a4 as1 as2 s0) := by
  unfold f_X10_isExcused_B36
  refine im_iast hF ar_73 (by decide) dX10_isExcused_36 (fun h1 => im_bdS (fun s2 => ?_))
  refine im_aload_n hF dX10_isExcused_37 0 rfl ?_
  refine im_get hF (v := .ref (g.2.1 73 0)) fl_10_102 (by decide) (by decide) rfl dX10_isExcused_38 ?_
  refine im_iconst hF dX10_isExcused_41 (v := (1 : Int32)) (by decide) ?_
  refine im_aload_n hF dX10_isExcused_42 0 rfl ?_
  refine im_get hF (v := .ref (g.2.1 77 0)) fl_10_115 (by decide) (by decide) rfl dX10_isExcused_43 ?_
  refine im_iload hF dX10_isExcused_46 4 rfl ?_
  refine im_iald hF ar_77 (by decide) dX10_isExcused_48 (fun h3 => ?_)
  refine im_iast hF ar_73 (by decide) dX10_isExcused_49 (fun h4 => im_bdS (fun s5 => ?_))
  refine im_aload_n hF dX10_isExcused_50 0 rfl ?_
  refine im_get hF (v := .ref (g.2.1 73 0)) fl_10_102 (by decide) (by decide) rfl dX10_isExcused_51 ?_
  refine im_iconst hF dX10_isExcused_54 (v := (2 : Int32)) (by decide) ?_
  refine im_aload_n hF dX10_isExcused_55 0 rfl ?_
  refine im_iload_n hF dX10_isExcused_56 1 rfl ?_
  refine im_iload_n hF dX10_isExcused_57 2 rfl ?_
  refine im_iconst hF dX10_isExcused_58 (v := (1 : Int32)) (by decide) ?_
  refine im_isub hF dX10_isExcused_59 ?_
  refine im_aload_n hF dX10_isExcused_60 0 rfl ?_
  refine im_get hF (v := .ref (g.2.1 76 0)) fl_10_112 (by decide) (by decide) rfl dX10_isExcused_61 ?_
  refine im_iload hF dX10_isExcused_64 4 rfl ?_
  refine im_iald hF ar_76 (by decide) dX10_isExcused_66 (fun h6 => ?_)
  refine im_callVI hF (As := [.int a1, .int (a2 - (1 : Int32)), .int (s5 76 0 a4.toNatClampNeg)]) (rest := [.int (2 : Int32), .ref (g.2.1 73 0)]) my_X10_windIn mv_X10_windIn wl_1078 (fun l r hr => c_X10_windIn l g hI a1 (a2 - (1 : Int32)) (s5 76 0 a4.toNatClampNeg) s5 r hr) ⟨by decide, by decide⟩ (by decide) (by decide) ⟨_, rfl, rfl⟩ rfl rfl (Nat.le_of_ble_eq_true rfl) dX10_isExcused_67 (fun q7 => ?_)
  refine im_iast hF ar_73 (by decide) dX10_isExcused_70 (fun h8 => im_bdS (fun s9 => ?_))
  refine im_aload_n hF dX10_isExcused_71 0 rfl ?_
  refine im_get hF (v := .ref (g.2.1 73 0)) fl_10_102 (by decide) (by decide) rfl dX10_isExcused_72 ?_
  refine im_iconst hF dX10_isExcused_75 (v := (3 : Int32)) (by decide) ?_
  refine im_aload_n hF dX10_isExcused_76 0 rfl ?_
  refine im_get hF (v := .ref (g.2.1 54 0)) fl_10_40 (by decide) (by decide) rfl dX10_isExcused_77 ?_
  refine im_bipush hF dX10_isExcused_80 (v := (6 : Int32)) (by decide) ?_
  refine im_iload_n hF dX10_isExcused_82 1 rfl ?_
  refine im_imul hF dX10_isExcused_83 ?_
  refine im_iload_n hF dX10_isExcused_84 2 rfl ?_
  refine im_iadd hF dX10_isExcused_85 ?_
  refine im_iconst hF dX10_isExcused_86 (v := (1 : Int32)) (by decide) ?_
  refine im_isub hF dX10_isExcused_87 ?_
  refine im_iald hF ar_54 (by decide) dX10_isExcused_88 (fun h10 => ?_)
  refine im_iast hF ar_73 (by decide) dX10_isExcused_89 (fun h11 => im_bdS (fun s12 => ?_))
  refine im_aload_n hF dX10_isExcused_90 0 rfl ?_
  refine im_get hF (v := .ref (g.2.1 73 0)) fl_10_102 (by decide) (by decide) rfl dX10_isExcused_91 ?_
  refine im_iconst hF dX10_isExcused_94 (v := (4 : Int32)) (by decide) ?_
  refine im_iload_n hF dX10_isExcused_95 3 rfl ?_
  refine im_callSI hF (As := [.int a3]) (rest := [.int (4 : Int32), .ref (g.2.1 73 0)]) my_X10_month ms_X10_month wl_1082 (fun l r hr => c_X10_month l g hI a3 s12 r hr) ⟨by decide, by decide⟩ rfl rfl (Nat.le_of_ble_eq_true rfl) dX10_isExcused_96 (fun q13 => ?_)
  refine im_iast hF ar_73 (by decide) dX10_isExcused_99 (fun h14 => im_bdS (fun s15 => ?_))
  refine im_aload_n hF dX10_isExcused_100 0 rfl ?_
  refine im_get hF (v := .ref (g.2.1 48 0)) fl_10_22 (by decide) (by decide) rfl dX10_isExcused_101 ?_
  refine im_iload_n hF dX10_isExcused_104 1 rfl ?_
  refine im_iald hF ar_48 (by decide) dX10_isExcused_105 (fun h16 => ?_)
  refine im_bdI (fun x17 => ?_)
  refine im_istore hF dX10_isExcused_106 (lv' := [(6, .int x17), (0, .ref (g.2.1 10 0)), (1, .int a1), (2, .int a2), (3, .int a3), (4, .int a4)]) (by decide) rfl ?_
  refine im_bipush hF dX10_isExcused_108 (v := (12 : Int32)) (by decide) ?_
  refine im_iload hF dX10_isExcused_110 0 rfl ?_
  refine im_imul hF dX10_isExcused_112 ?_
  refine im_bdI (fun x18 => ?_)
  refine im_istore hF dX10_isExcused_113 (lv' := [(7, .int x18), (6, .int x17), (0, .ref (g.2.1 10 0)), (1, .int a1), (2, .int a2), (3, .int a3), (4, .int a4)]) (by decide) rfl ?_
  refine im_sub (lv' := [(0, .ref (g.2.1 10 0)), (6, .int x17), (7, .int x18)]) [2, 1, 0] rfl ?_
  exact (i_X10_isExcused_L115 X g hF hM hI FU) x17 x18 s15
def f_X10_isExcused (a1 : Int32) (a2 : Int32) (a3 : Int32) (s0 : Sg) : Option (Int32 × Sg) :=
  bdI ((((7 : Int32) * a1) + a2) - (1 : Int32)) fun x1 =>
  Option.bind (f_X10_dueCome a1 a2 s0) fun q2 =>
  bdI (a3 - q2.1) fun x3 =>
  if x3 ≤ 0 then
  (f_X10_isExcused_B36) a1 a2 a3 x1 (0 : Int32) (0 : Int32) q2.2
  else
  (f_X10_isExcused_B36) a1 a2 a3 x1 (0 : Int32) x3 q2.2
set_option maxRecDepth 4000 in
theorem i_X10_isExcused (X : Cx) (g : GT) (hF : Fx X g RX10 cX10_isExcused 8 4 89) (hM : FM X g (some .boolean)) (hI : GI g) (a1 : Int32) (a2 : Int32) (a3 : Int32) (s0 : Sg) : Im X g 8 (Qm X g embI) s0 0 [(0, .ref (g.2.1 10 0)), (1, .int a1), (2, .int a2), (3, .int a3)] [] (f_X10_isExcused a1 a2 a3 s0) := by
  unfold f_X10_isExcused
  refine im_bipush hF dX10_isExcused_0 (v := (7 : Int32)) (by decide) ?_
  refine im_iload_n hF dX10_isExcused_2 1 rfl ?_
  refine im_imul hF dX10_isExcused_3 ?_
  refine im_iload_n hF dX10_isExcused_4 2 rfl ?_
  refine im_iadd hF dX10_isExcused_5 ?_
  refine im_iconst hF dX10_isExcused_6 (v := (1 : Int32)) (by decide) ?_
  refine im_isub hF dX10_isExcused_7 ?_
  refine im_bdI (fun x1 => ?_)
  refine im_istore hF dX10_isExcused_8 (lv' := [(4, .int x1), (0, .ref (g.2.1 10 0)), (1, .int a1), (2, .int a2), (3, .int a3)]) (by decide) rfl ?_
  refine im_iload_n hF dX10_isExcused_10 4 rfl ?_
  refine im_aload_n hF dX10_isExcused_11 1 rfl ?_
  refine im_iload_n hF dX10_isExcused_12 2 rfl ?_
  refine im_iload_n hF dX10_isExcused_13 3 rfl ?_
  refine im_callVI hF (As := [.int a1, .int a2]) (rest := [.int a3]) my_X10_dueCome mv_X10_dueCome wl_1047 (fun l r hr => c_X10_dueCome l g hI a1 a2 s0 r hr) ⟨by decide, by decide⟩ (by decide) (by decide) ⟨_, rfl, rfl⟩ rfl rfl (Nat.le_of_ble_eq_true rfl) dX10_isExcused_14 (fun q2 => ?_)
  refine im_isub hF dX10_isExcused_17 ?_
  refine im_bdI (fun x3 => ?_)
  refine im_istore hF dX10_isExcused_18 (lv' := [(5, .int x3), (4, .int x1), (0, .ref (g.2.1 10 0)), (1, .int a1), (2, .int a2), (3, .int a3)]) (by decide) rfl ?_
  refine im_aload_n hF dX10_isExcused_20 2 rfl ?_
  refine im_get hF (v := .ref (g.2.1 73 0)) fl_10_102 (by decide) (by decide) rfl dX10_isExcused_21 ?_
  refine im_iconst hF dX10_isExcused_24 (v := (0 : Int32)) (by decide) ?_
  refine im_iload hF dX10_isExcused_25 0 rfl ?_
  refine im_if_le hF 35 dX10_isExcused_27 (by decide) (fun _ => ?_) (fun _ => ?_)
  · refine im_iconst hF dX10_isExcused_35 (v := (0 : Int32)) (by decide) ?_
    refine im_sub (lv' := [(0, .ref (g.2.1 10 0)), (1, .int a1), (2, .int a2), (3, .int a3), (4, .int x1)]) [2, 3, 4, 5, 1] rfl ?_
    exact (i_X10_isExcused_B36 X g hF hM hI) a1 a2 a3 x1 (0 : Int32) (0 : Int32) q2.2
  · refine im_iload hF dX10_isExcused_30 0 rfl ?_
    refine im_goto hF 36 dX10_isExcused_32 (by decide) ?_
    refine im_sub (lv' := [(0, .ref (g.2.1 10 0)), (1, .int a1), (2, .int a2), (3, .int a3), (4, .int x1)]) [2, 3, 4, 5, 1] rfl ?_
    exact (i_X10_isExcused_B36 X g hF hM hI) a1 a2 a3 x1 (0 : Int32) x3 q2.2
theorem c_X10_isExcused (l : Launch) (g : GT) (hI : GI g) (a1 : Int32) (a2 : Int32) (a3 : Int32) (s0 : Sg) (r : (Int32 × Sg)) (hr : f_X10_isExcused a1 a2 a3 s0 = some r) : Ct l yX10_isExcused cX10_isExcused 8 (some .boolean) 4 89 g [.ref (g.2.1 10 0), .int a1, .int a2, .int a3] s0 (embI r) := ct_of (by decide) hI (Nat.le_of_ble_eq_true rfl) (fun X hF hM => i_X10_isExcused X g hF hM hI a1 a2 a3 s0) r hr
def f_X10_sharesAt_B33 (k33 : Int32 → Int32 → Int32 → Int32 → Int32 → Int32 → Sg → Option Sg) (k126 : Int32 → Int32 → Int32 → Int32 → Int32 → Sg → Option Sg) (a1 : Int32) (a2 : Int32) (a3 : Int32) (a4 : Int32) (a5 : Int32) (a6 : Int32) (s0 : Sg) : Option Sg :=
  if (4 : Int32) ≤ a6 then
  Option.bind (f_X10_meeting a1 (a2 - (1 : Int32)) s0) fun q1 =>
  if q1.1 = (-1 : Int32) then
  k126 a1 a2 a3 a4 a5 q1.2
  else
  chk (gi q1.1 20) (
  chk (gi (q1.2 58 0 q1.1.toNatClampNeg) 10) (
  bdI (((4 : Int32) * a5) + (q1.2 48 0 (q1.2 58 0 q1.1.toNatClampNeg).toNatClampNeg)) fun x4 =>
  chk (gi x4 280) (
  chk (gi a4 70) (
  chk (gi x4 280) (bdS (up3 q1.2 79 0 x4.toNatClampNeg ((q1.2 79 0 x4.toNatClampNeg) + (q1.2 77 0 a4.toNatClampNeg))) fun s8 =>
  k126 a1 a2 a3 a4 a5 s8)))))
  else
  chk (gi (((4 : Int32) * a4) + a6) 280) (
  chk (gi (((4 : Int32) * a5) + a6) 280) (bdS (up3 s0 79 0 (((4 : Int32) * a5) + a6).toNatClampNeg (s0 79 0 (((4 : Int32) * a4) + a6).toNatClampNeg)) fun s11 =>
  k33 a1 a2 a3 a4 a5 (a6 + (1 : Int32)) s11))
set_option maxRecDepth 4000 in
theorem i_X10_sharesAt_B33 (X : Cx) (g : GT) (hF : Fx X g RX10 cX10_sharesAt 12 5 116) (hM : FM X g none) (hI : GI g) (k33 : Int32 → Int32 → Int32 → Int32 → Int32 → Int32 → Sg → Option Sg) (hk33 : ∀ (a1 : Int32) (a2 : Int32) (a3 : Int32) (a4 : Int32) (a5 : Int32) (a6 : Int32) (s0 : Sg), Im X g 12 (Qm X g embV) s0 33 [(0, .ref (g.2.1 10 0)), (1, .int a1), (2, .int a2), (3, .int a3), (4, .int a4), (5, .int a5), (6, .int a6)] [] (k33 a1 a2 a3 a4 a5 a6 s0)) (k126 : Int32 → Int32 → Int32 → Int32 → Int32 → Sg → Option Sg) (hk126 : ∀ (a1 : Int32) (a2 : Int32) (a3 : Int32) (a4 : Int32) (a5 : Int32) (s0 : Sg), Im X g 12 (Qm X g embV) s0 126 [(0, .ref (g.2.1 10 0)), (1, .int a1), (2, .int a2), (3, .int a3), (4, .int a4), (5, .int a5)] [] (k126 a1 a2 a3 a4 a5 s0)) (a1 : Int32) (a2 : Int32) (a3 : Int32) (a4 : Int32) (a5 : Int32) (a6 : Int32) (s0 : Sg) : Im X g 12 (Qm X g embV) s0 33 [(0, .ref (g.2.1 10 0)), (1, .int a1), (2, .int a2), (3, .int a3), (4, .int a4), (5, .int a5), (6, .int a6)] [] (f_X10_sharesAt_B33 k33 k126 a1 a2 a3 a4 a5 a6 s0) := by
  unfold f_X10_sharesAt_B33
  refine im_iload hF dX10_sharesAt_33 6 rfl ?_
  refine im_iconst hF dX10_sharesAt_35 (v := (4 : Int32)) (by decide) ?_
  refine im_icmp_ge hF 69 dX10_sharesAt_36 (by decide) (fun _ => ?_) (fun _ => ?_)
  · refine im_aload_n hF dX10_sharesAt_69 0 rfl ?_
    refine im_iload_n hF dX10_sharesAt_70 1 rfl ?_
    refine im_iload_n hF dX10_sharesAt_71 2 rfl ?_
    refine im_iconst hF dX10_sharesAt_72 (v := (1 : Int32)) (by decide) ?_
    refine im_isub hF dX10_sharesAt_73 ?_
    refine im_callVI hF (As := [.int a1, .int (a2 - (1 : Int32))]) (rest := []) my_X10_meeting mv_X10_meeting wl_968 (fun l r hr => c_X10_meeting l g hI a1 (a2 - (1 : Int32)) s0 r hr) ⟨by decide, by decide⟩ (by decide) (by decide) ⟨_, rfl, rfl⟩ rfl rfl (Nat.le_of_ble_eq_true rfl) dX10_sharesAt_74 (fun q1 => ?_)
    refine im_istore hF dX10_sharesAt_77 (lv' := [(6, .int q1.1), (0, .ref (g.2.1 10 0)), (1, .int a1), (2, .int a2), (3, .int a3), (4, .int a4), (5, .int a5)]) (by decide) rfl ?_
    refine im_iload hF dX10_sharesAt_79 0 rfl ?_
    refine im_iconst hF dX10_sharesAt_81 (v := (-1 : Int32)) (by decide) ?_
    refine im_icmp_eq hF 126 dX10_sharesAt_82 (by decide) (fun _ => ?_) (fun _ => ?_)
    · refine im_sub (lv' := [(0, .ref (g.2.1 10 0)), (1, .int a1), (2, .int a2), (3, .int a3), (4, .int a4), (5, .int a5)]) [1, 2, 3, 4, 5, 6] rfl ?_
      exact hk126 a1 a2 a3 a4 a5 q1.2
    · refine im_iconst hF dX10_sharesAt_85 (v := (4 : Int32)) (by decide) ?_
      refine im_iload hF dX10_sharesAt_86 6 rfl ?_
      refine im_imul hF dX10_sharesAt_88 ?_
      refine im_aload_n hF dX10_sharesAt_89 1 rfl ?_
      refine im_get hF (v := .ref (g.2.1 48 0)) fl_10_22 (by decide) (by decide) rfl dX10_sharesAt_90 ?_
      refine im_aload_n hF dX10_sharesAt_93 1 rfl ?_
      refine im_get hF (v := .ref (g.2.1 58 0)) fl_10_52 (by decide) (by decide) rfl dX10_sharesAt_94 ?_
      refine im_iload hF dX10_sharesAt_97 0 rfl ?_
      refine im_iald hF ar_58 (by decide) dX10_sharesAt_99 (fun h2 => ?_)
      refine im_iald hF ar_48 (by decide) dX10_sharesAt_100 (fun h3 => ?_)
      refine im_iadd hF dX10_sharesAt_101 ?_
      refine im_bdI (fun x4 => ?_)
      refine im_istore hF dX10_sharesAt_102 (lv' := [(7, .int x4), (6, .int q1.1), (0, .ref (g.2.1 10 0)), (1, .int a1), (2, .int a2), (3, .int a3), (4, .int a4), (5, .int a5)]) (by decide) rfl ?_
      refine im_aload_n hF dX10_sharesAt_104 2 rfl ?_
      refine im_get hF (v := .ref (g.2.1 79 0)) fl_10_121 (by decide) (by decide) rfl dX10_sharesAt_105 ?_
      refine im_iload hF dX10_sharesAt_108 0 rfl ?_
      refine im_aload_n hF dX10_sharesAt_110 2 rfl ?_
      refine im_get hF (v := .ref (g.2.1 79 0)) fl_10_121 (by decide) (by decide) rfl dX10_sharesAt_111 ?_
      refine im_iload hF dX10_sharesAt_114 0 rfl ?_
      refine im_iald hF ar_79 (by decide) dX10_sharesAt_116 (fun h5 => ?_)
      refine im_aload_n hF dX10_sharesAt_117 2 rfl ?_
      refine im_get hF (v := .ref (g.2.1 77 0)) fl_10_115 (by decide) (by decide) rfl dX10_sharesAt_118 ?_
      refine im_iload hF dX10_sharesAt_121 6 rfl ?_
      refine im_iald hF ar_77 (by decide) dX10_sharesAt_123 (fun h6 => ?_)
      refine im_iadd hF dX10_sharesAt_124 ?_
      refine im_iast hF ar_79 (by decide) dX10_sharesAt_125 (fun h7 => im_bdS (fun s8 => ?_))
      refine im_sub (lv' := [(0, .ref (g.2.1 10 0)), (1, .int a1), (2, .int a2), (3, .int a3), (4, .int a4), (5, .int a5)]) [2, 3, 4, 5, 6, 7] rfl ?_
      exact hk126 a1 a2 a3 a4 a5 s8
  · refine im_aload_n hF dX10_sharesAt_39 0 rfl ?_
    refine im_get hF (v := .ref (g.2.1 79 0)) fl_10_121 (by decide) (by decide) rfl dX10_sharesAt_40 ?_
    refine im_iconst hF dX10_sharesAt_43 (v := (4 : Int32)) (by decide) ?_
    refine im_iload hF dX10_sharesAt_44 5 rfl ?_
    refine im_imul hF dX10_sharesAt_46 ?_
    refine im_iload hF dX10_sharesAt_47 6 rfl ?_
    refine im_iadd hF dX10_sharesAt_49 ?_
    refine im_aload_n hF dX10_sharesAt_50 0 rfl ?_
    refine im_get hF (v := .ref (g.2.1 79 0)) fl_10_121 (by decide) (by decide) rfl dX10_sharesAt_51 ?_
    refine im_iconst hF dX10_sharesAt_54 (v := (4 : Int32)) (by decide) ?_
    refine im_iload hF dX10_sharesAt_55 4 rfl ?_
    refine im_imul hF dX10_sharesAt_57 ?_
    refine im_iload hF dX10_sharesAt_58 6 rfl ?_
    refine im_iadd hF dX10_sharesAt_60 ?_
    refine im_iald hF ar_79 (by decide) dX10_sharesAt_61 (fun h9 => ?_)
    refine im_iast hF ar_79 (by decide) dX10_sharesAt_62 (fun h10 => im_bdS (fun s11 => ?_))
    refine im_iinc hF dX10_sharesAt_63 (v := (a6 + (1 : Int32))) (lv' := [(6, .int (a6 + (1 : Int32))), (0, .ref (g.2.1 10 0)), (1, .int a1), (2, .int a2), (3, .int a3), (4, .int a4), (5, .int a5)]) 6 rfl rfl (by decide) rfl ?_
    refine im_goto hF 33 dX10_sharesAt_66 (by decide) ?_
    refine im_sub (lv' := [(0, .ref (g.2.1 10 0)), (1, .int a1), (2, .int a2), (3, .int a3), (4, .int a4), (5, .int a5), (6, .int (a6 + (1 : Int32)))]) [1, 2, 3, 4, 5, 6, 0] rfl ?_
    exact hk33 a1 a2 a3 a4 a5 (a6 + (1 : Int32)) s11
def f_X10_sharesAt_L33 (k126 : Int32 → Int32 → Int32 → Int32 → Int32 → Sg → Option Sg) : Nat → Int32 → Int32 → Int32 → Int32 → Int32 → Int32 → Sg → Option Sg
  | 0 => fun _ _ _ _ _ _ _ => none
  | n + 1 => fun a1 a2 a3 a4 a5 a6 s0 => f_X10_sharesAt_B33 (f_X10_sharesAt_L33 k126 n) k126 a1 a2 a3 a4 a5 a6 s0
theorem i_X10_sharesAt_L33 (X : Cx) (g : GT) (hF : Fx X g RX10 cX10_sharesAt 12 5 116) (hM : FM X g none) (hI : GI g) (k126 : Int32 → Int32 → Int32 → Int32 → Int32 → Sg → Option Sg) (hk126 : ∀ (a1 : Int32) (a2 : Int32) (a3 : Int32) (a4 : Int32) (a5 : Int32) (s0 : Sg), Im X g 12 (Qm X g embV) s0 126 [(0, .ref (g.2.1 10 0)), (1, .int a1), (2, .int a2), (3, .int a3), (4, .int a4), (5, .int a5)] [] (k126 a1 a2 a3 a4 a5 s0)) : ∀ (n : Nat) (a1 : Int32) (a2 : Int32) (a3 : Int32) (a4 : Int32) (a5 : Int32) (a6 : Int32) (s0 : Sg), Im X g 12 (Qm X g embV) s0 33 [(0, .ref (g.2.1 10 0)), (1, .int a1), (2, .int a2), (3, .int a3), (4, .int a4), (5, .int a5), (6, .int a6)] [] (f_X10_sharesAt_L33 k126 n a1 a2 a3 a4 a5 a6 s0) := by
  intro n
  induction n with
  | zero => intros; exact im_none
  | succ n ih => intro a1 a2 a3 a4 a5 a6 s0; exact i_X10_sharesAt_B33 X g hF hM hI (f_X10_sharesAt_L33 k126 n) ih k126 hk126 a1 a2 a3 a4 a5 a6 s0
def f_X10_sharesAt_B337 (k283 : Int32 → Int32 → Int32 → Int32 → Sg → Option Sg) (a1 : Int32) (a5 : Int32) (a8 : Int32) (a10 : Int32) (a11 : Int32) (as0 : Int32) (s0 : Sg) : Option Sg :=
  chk (gi a11 280) (
  chk (gi a11 280) (bdS (up3 s0 79 0 a11.toNatClampNeg ((s0 79 0 a11.toNatClampNeg) - as0)) fun s3 =>
  bdI (a8 - as0) fun x4 =>
  k283 a1 a5 x4 (a10 + (1 : Int32)) s3))
set_option maxRecDepth 4000 in
theorem i_X10_sharesAt_B337 (X : Cx) (g : GT) (hF : Fx X g RX10 cX10_sharesAt 12 5 116) (hM : FM X g none) (hI : GI g) (k283 : Int32 → Int32 → Int32 → Int32 → Sg → Option Sg) (hk283 : ∀ (a1 : Int32) (a5 : Int32) (a8 : Int32) (a10 : Int32) (s0 : Sg), Im X g 12 (Qm X g embV) s0 283 [(0, .ref (g.2.1 10 0)), (1, .int a1), (5, .int a5), (8, .int a8), (10, .int a10)] [] (k283 a1 a5 a8 a10 s0)) (a1 : Int32) (a5 : Int32) (a8 : Int32) (a10 : Int32) (a11 : Int32) (as0 : Int32) (s0 : Sg) : Im X g 12 (Qm X g embV) s0 337 [(0, .ref (g.2.1 10 0)), (1, .int a1), (5, .int a5), (8, .int a8), (10, .int a10), (11, .int a11)] [.int as0] (f_X10_sharesAt_B337 k283 a1 a5 a8 a10 a11 as0 s0) := by
  unfold f_X10_sharesAt_B337
  refine im_istore hF dX10_sharesAt_337 (lv' := [(9, .int as0), (0, .ref (g.2.1 10 0)), (1, .int a1), (5, .int a5), (8, .int a8), (10, .int a10), (11, .int a11)]) (by decide) rfl ?_
  refine im_aload_n hF dX10_sharesAt_339 1 rfl ?_
  refine im_get hF (v := .ref (g.2.1 79 0)) fl_10_121 (by decide) (by decide) rfl dX10_sharesAt_340 ?_
  refine im_iload hF dX10_sharesAt_343 6 rfl ?_
  refine im_aload_n hF dX10_sharesAt_345 1 rfl ?_
  refine im_get hF (v := .ref (g.2.1 79 0)) fl_10_121 (by decide) (by decide) rfl dX10_sharesAt_346 ?_
  refine im_iload hF dX10_sharesAt_349 6 rfl ?_
  refine im_iald hF ar_79 (by decide) dX10_sharesAt_351 (fun h1 => ?_)
  refine im_iload hF dX10_sharesAt_352 0 rfl ?_
  refine im_isub hF dX10_sharesAt_354 ?_
  refine im_iast hF ar_79 (by decide) dX10_sharesAt_355 (fun h2 => im_bdS (fun s3 => ?_))
  refine im_iload hF dX10_sharesAt_356 4 rfl ?_
  refine im_iload hF dX10_sharesAt_358 0 rfl ?_
  refine im_isub hF dX10_sharesAt_360 ?_
  refine im_bdI (fun x4 => ?_)
  refine im_istore hF dX10_sharesAt_361 (lv' := [(8, .int x4), (9, .int as0), (0, .ref (g.2.1 10 0)), (1, .int a1), (5, .int a5), (10, .int a10), (11, .int a11)]) (by decide) rfl ?_
  refine im_iinc hF dX10_sharesAt_363 (v := (a10 + (1 : Int32))) (lv' := [(10, .int (a10 + (1 : Int32))), (8, .int x4), (9, .int as0), (0, .ref (g.2.1 10 0)), (1, .int a1), (5, .int a5), (11, .int a11)]) 5 rfl rfl (by decide) rfl ?_
  refine im_goto hF 283 dX10_sharesAt_366 (by decide) ?_
  refine im_sub (lv' := [(0, .ref (g.2.1 10 0)), (1, .int a1), (5, .int a5), (8, .int x4), (10, .int (a10 + (1 : Int32)))]) [3, 4, 5, 1, 0] rfl ?_
  exact hk283 a1 a5 x4 (a10 + (1 : Int32)) s3
def f_X10_sharesAt_B310 (k283 : Int32 → Int32 → Int32 → Int32 → Sg → Option Sg) (a1 : Int32) (a5 : Int32) (a8 : Int32) (a10 : Int32) (as0 : Int32) (as1 : Int32) (s0 : Sg) : Option Sg :=
  bdI (as0 + as1) fun x1 =>
  chk (gi x1 280) (
  if (s0 79 0 x1.toNatClampNeg) ≤ a8 then
  chk (gi x1 280) (
  (f_X10_sharesAt_B337 k283) a1 a5 a8 a10 x1 (s0 79 0 x1.toNatClampNeg) s0)
  else
  (f_X10_sharesAt_B337 k283) a1 a5 a8 a10 x1 a8 s0)
set_option maxRecDepth 4000 in
theorem i_X10_sharesAt_B310 (X : Cx) (g : GT) (hF : Fx X g RX10 cX10_sharesAt 12 5 116) (hM : FM X g none) (hI : GI g) (k283 : Int32 → Int32 → Int32 → Int32 → Sg → Option Sg) (hk283 : ∀ (a1 : Int32) (a5 : Int32) (a8 : Int32) (a10 : Int32) (s0 : Sg), Im X g 12 (Qm X g embV) s0 283 [(0, .ref (g.2.1 10 0)), (1, .int a1), (5, .int a5), (8, .int a8), (10, .int a10)] [] (k283 a1 a5 a8 a10 s0)) (a1 : Int32) (a5 : Int32) (a8 : Int32) (a10 : Int32) (as0 : Int32) (as1 : Int32) (s0 : Sg) : Im X g 12 (Qm X g embV) s0 310 [(0, .ref (g.2.1 10 0)), (1, .int a1), (5, .int a5), (8, .int a8), (10, .int a10)] [.int as1, .int as0] (f_X10_sharesAt_B310 k283 a1 a5 a8 a10 as0 as1 s0) := by
  unfold f_X10_sharesAt_B310
  refine im_iadd hF dX10_sharesAt_310 ?_
  refine im_bdI (fun x1 => ?_)
  refine im_istore hF dX10_sharesAt_311 (lv' := [(11, .int x1), (0, .ref (g.2.1 10 0)), (1, .int a1), (5, .int a5), (8, .int a8), (10, .int a10)]) (by decide) rfl ?_
  refine im_iload hF dX10_sharesAt_313 4 rfl ?_
  refine im_aload_n hF dX10_sharesAt_315 1 rfl ?_
  refine im_get hF (v := .ref (g.2.1 79 0)) fl_10_121 (by decide) (by decide) rfl dX10_sharesAt_316 ?_
  refine im_iload hF dX10_sharesAt_319 0 rfl ?_
  refine im_iald hF ar_79 (by decide) dX10_sharesAt_321 (fun h2 => ?_)
  refine im_icmp_ge hF 330 dX10_sharesAt_322 (by decide) (fun _ => ?_) (fun _ => ?_)
  · refine im_aload_n hF dX10_sharesAt_330 1 rfl ?_
    refine im_get hF (v := .ref (g.2.1 79 0)) fl_10_121 (by decide) (by decide) rfl dX10_sharesAt_331 ?_
    refine im_iload hF dX10_sharesAt_334 0 rfl ?_
    refine im_iald hF ar_79 (by decide) dX10_sharesAt_336 (fun h3 => ?_)
    refine im_sub (lv' := [(0, .ref (g.2.1 10 0)), (1, .int a1), (5, .int a5), (8, .int a8), (10, .int a10), (11, .int x1)]) [1, 2, 3, 4, 5, 0] rfl ?_
    exact (i_X10_sharesAt_B337 X g hF hM hI k283 hk283) a1 a5 a8 a10 x1 (s0 79 0 x1.toNatClampNeg) s0
  · refine im_iload hF dX10_sharesAt_325 4 rfl ?_
    refine im_goto hF 337 dX10_sharesAt_327 (by decide) ?_
    refine im_sub (lv' := [(0, .ref (g.2.1 10 0)), (1, .int a1), (5, .int a5), (8, .int a8), (10, .int a10), (11, .int x1)]) [1, 2, 3, 4, 5, 0] rfl ?_
    exact (i_X10_sharesAt_B337 X g hF hM hI k283 hk283) a1 a5 a8 a10 x1 a8 s0
def f_X10_sharesAt_B283 (k283 : Int32 → Int32 → Int32 → Int32 → Sg → Option Sg) (a1 : Int32) (a5 : Int32) (a8 : Int32) (a10 : Int32) (s0 : Sg) : Option Sg :=
  if (4 : Int32) ≤ a10 then
  some s0
  else
  if a10 = (-1 : Int32) then
  chk (gi a1 10) (
  (f_X10_sharesAt_B310 k283) a1 a5 a8 a10 ((4 : Int32) * a5) (s0 48 0 a1.toNatClampNeg) s0)
  else
  (f_X10_sharesAt_B310 k283) a1 a5 a8 a10 ((4 : Int32) * a5) a10 s0
set_option maxRecDepth 4000 in
theorem i_X10_sharesAt_B283 (X : Cx) (g : GT) (hF : Fx X g RX10 cX10_sharesAt 12 5 116) (hM : FM X g none) (hI : GI g) (k283 : Int32 → Int32 → Int32 → Int32 → Sg → Option Sg) (hk283 : ∀ (a1 : Int32) (a5 : Int32) (a8 : Int32) (a10 : Int32) (s0 : Sg), Im X g 12 (Qm X g embV) s0 283 [(0, .ref (g.2.1 10 0)), (1, .int a1), (5, .int a5), (8, .int a8), (10, .int a10)] [] (k283 a1 a5 a8 a10 s0)) (a1 : Int32) (a5 : Int32) (a8 : Int32) (a10 : Int32) (s0 : Sg) : Im X g 12 (Qm X g embV) s0 283 [(0, .ref (g.2.1 10 0)), (1, .int a1), (5, .int a5), (8, .int a8), (10, .int a10)] [] (f_X10_sharesAt_B283 k283 a1 a5 a8 a10 s0) := by
  unfold f_X10_sharesAt_B283
  refine im_iload hF dX10_sharesAt_283 4 rfl ?_
  refine im_iconst hF dX10_sharesAt_285 (v := (4 : Int32)) (by decide) ?_
  refine im_icmp_ge hF 369 dX10_sharesAt_286 (by decide) (fun _ => ?_) (fun _ => ?_)
  · exact im_vret hF hM dX10_sharesAt_369
  · refine im_iconst hF dX10_sharesAt_289 (v := (4 : Int32)) (by decide) ?_
    refine im_iload hF dX10_sharesAt_290 2 rfl ?_
    refine im_imul hF dX10_sharesAt_292 ?_
    refine im_iload hF dX10_sharesAt_293 4 rfl ?_
    refine im_iconst hF dX10_sharesAt_295 (v := (-1 : Int32)) (by decide) ?_
    refine im_icmp_ne hF 308 dX10_sharesAt_296 (by decide) (fun _ => ?_) (fun _ => ?_)
    · refine im_aload_n hF dX10_sharesAt_299 0 rfl ?_
      refine im_get hF (v := .ref (g.2.1 48 0)) fl_10_22 (by decide) (by decide) rfl dX10_sharesAt_300 ?_
      refine im_iload_n hF dX10_sharesAt_303 1 rfl ?_
      refine im_iald hF ar_48 (by decide) dX10_sharesAt_304 (fun h1 => ?_)
      refine im_goto hF 310 dX10_sharesAt_305 (by decide) ?_
      exact (i_X10_sharesAt_B310 X g hF hM hI k283 hk283) a1 a5 a8 a10 ((4 : Int32) * a5) (s0 48 0 a1.toNatClampNeg) s0
    · refine im_iload hF dX10_sharesAt_308 4 rfl ?_
      exact (i_X10_sharesAt_B310 X g hF hM hI k283 hk283) a1 a5 a8 a10 ((4 : Int32) * a5) a10 s0
def f_X10_sharesAt_L283 : Nat → Int32 → Int32 → Int32 → Int32 → Sg → Option Sg
  | 0 => fun _ _ _ _ _ => none
  | n + 1 => fun a1 a5 a8 a10 s0 => f_X10_sharesAt_B283 (f_X10_sharesAt_L283 n) a1 a5 a8 a10 s0
theorem i_X10_sharesAt_L283 (X : Cx) (g : GT) (hF : Fx X g RX10 cX10_sharesAt 12 5 116) (hM : FM X g none) (hI : GI g) : ∀ (n : Nat) (a1 : Int32) (a5 : Int32) (a8 : Int32) (a10 : Int32) (s0 : Sg), Im X g 12 (Qm X g embV) s0 283 [(0, .ref (g.2.1 10 0)), (1, .int a1), (5, .int a5), (8, .int a8), (10, .int a10)] [] (f_X10_sharesAt_L283 n a1 a5 a8 a10 s0) := by
  intro n
  induction n with
  | zero => intros; exact im_none
  | succ n ih => intro a1 a5 a8 a10 s0; exact i_X10_sharesAt_B283 X g hF hM hI (f_X10_sharesAt_L283 n) ih a1 a5 a8 a10 s0
def f_X10_sharesAt_B254 (a1 : Int32) (a5 : Int32) (a8 : Int32) (as0 : Int32) (s0 : Sg) : Option Sg :=
  chk (gi a5 70) (
  chk (gi a5 70) (bdS (up3 s0 78 0 a5.toNatClampNeg ((s0 78 0 a5.toNatClampNeg) - as0)) fun s3 =>
  bdI (a8 - as0) fun x4 =>
  (f_X10_sharesAt_L283 FU) a1 a5 x4 (-1 : Int32) s3))
set_option maxRecDepth 4000 in
theorem i_X10_sharesAt_B254 (X : Cx) (g : GT) (hF : Fx X g RX10 cX10_sharesAt 12 5 116) (hM : FM X g none) (hI : GI g) (a1 : Int32) (a5 : Int32) (a8 : Int32) (as0 : Int32) (s0 : Sg) : Im X g 12 (Qm X g embV) s0 254 [(0, .ref (g.2.1 10 0)), (1, .int a1), (5, .int a5), (8, .int a8)] [.int as0] (f_X10_sharesAt_B254 a1 a5 a8 as0 s0) := by
  unfold f_X10_sharesAt_B254
  refine im_istore hF dX10_sharesAt_254 (lv' := [(9, .int as0), (0, .ref (g.2.1 10 0)), (1, .int a1), (5, .int a5), (8, .int a8)]) (by decide) rfl ?_
  refine im_aload_n hF dX10_sharesAt_256 1 rfl ?_
  refine im_get hF (v := .ref (g.2.1 78 0)) fl_10_118 (by decide) (by decide) rfl dX10_sharesAt_257 ?_
  refine im_iload hF dX10_sharesAt_260 3 rfl ?_
  refine im_aload_n hF dX10_sharesAt_262 1 rfl ?_
  refine im_get hF (v := .ref (g.2.1 78 0)) fl_10_118 (by decide) (by decide) rfl dX10_sharesAt_263 ?_
  refine im_iload hF dX10_sharesAt_266 3 rfl ?_
  refine im_iald hF ar_78 (by decide) dX10_sharesAt_268 (fun h1 => ?_)
  refine im_iload hF dX10_sharesAt_269 0 rfl ?_
  refine im_isub hF dX10_sharesAt_271 ?_
  refine im_iast hF ar_78 (by decide) dX10_sharesAt_272 (fun h2 => im_bdS (fun s3 => ?_))
  refine im_iload hF dX10_sharesAt_273 4 rfl ?_
  refine im_iload hF dX10_sharesAt_275 0 rfl ?_
  refine im_isub hF dX10_sharesAt_277 ?_
  refine im_bdI (fun x4 => ?_)
  refine im_istore hF dX10_sharesAt_278 (lv' := [(8, .int x4), (9, .int as0), (0, .ref (g.2.1 10 0)), (1, .int a1), (5, .int a5)]) (by decide) rfl ?_
  refine im_iconst hF dX10_sharesAt_280 (v := (-1 : Int32)) (by decide) ?_
  refine im_istore hF dX10_sharesAt_281 (lv' := [(10, .int (-1 : Int32)), (8, .int x4), (9, .int as0), (0, .ref (g.2.1 10 0)), (1, .int a1), (5, .int a5)]) (by decide) rfl ?_
  refine im_sub (lv' := [(0, .ref (g.2.1 10 0)), (1, .int a1), (5, .int a5), (8, .int x4), (10, .int (-1 : Int32))]) [3, 4, 5, 1, 0] rfl ?_
  exact (i_X10_sharesAt_L283 X g hF hM hI FU) a1 a5 x4 (-1 : Int32) s3
def f_X10_sharesAt_B228 (a1 : Int32) (a5 : Int32) (as0 : Int32) (s0 : Sg) : Option Sg :=
  chk (gi a5 70) (
  if (s0 78 0 a5.toNatClampNeg) ≤ as0 then
  chk (gi a5 70) (
  (f_X10_sharesAt_B254) a1 a5 as0 (s0 78 0 a5.toNatClampNeg) s0)
  else
  (f_X10_sharesAt_B254) a1 a5 as0 as0 s0)
set_option maxRecDepth 4000 in
theorem i_X10_sharesAt_B228 (X : Cx) (g : GT) (hF : Fx X g RX10 cX10_sharesAt 12 5 116) (hM : FM X g none) (hI : GI g) (a1 : Int32) (a5 : Int32) (as0 : Int32) (s0 : Sg) : Im X g 12 (Qm X g embV) s0 228 [(0, .ref (g.2.1 10 0)), (1, .int a1), (5, .int a5)] [.int as0] (f_X10_sharesAt_B228 a1 a5 as0 s0) := by
  unfold f_X10_sharesAt_B228
  refine im_istore hF dX10_sharesAt_228 (lv' := [(8, .int as0), (0, .ref (g.2.1 10 0)), (1, .int a1), (5, .int a5)]) (by decide) rfl ?_
  refine im_iload hF dX10_sharesAt_230 0 rfl ?_
  refine im_aload_n hF dX10_sharesAt_232 1 rfl ?_
  refine im_get hF (v := .ref (g.2.1 78 0)) fl_10_118 (by decide) (by decide) rfl dX10_sharesAt_233 ?_
  refine im_iload hF dX10_sharesAt_236 3 rfl ?_
  refine im_iald hF ar_78 (by decide) dX10_sharesAt_238 (fun h1 => ?_)
  refine im_icmp_ge hF 247 dX10_sharesAt_239 (by decide) (fun _ => ?_) (fun _ => ?_)
  · refine im_aload_n hF dX10_sharesAt_247 1 rfl ?_
    refine im_get hF (v := .ref (g.2.1 78 0)) fl_10_118 (by decide) (by decide) rfl dX10_sharesAt_248 ?_
    refine im_iload hF dX10_sharesAt_251 3 rfl ?_
    refine im_iald hF ar_78 (by decide) dX10_sharesAt_253 (fun h2 => ?_)
    refine im_sub (lv' := [(0, .ref (g.2.1 10 0)), (1, .int a1), (5, .int a5), (8, .int as0)]) [1, 2, 3, 0] rfl ?_
    exact (i_X10_sharesAt_B254 X g hF hM hI) a1 a5 as0 (s0 78 0 a5.toNatClampNeg) s0
  · refine im_iload hF dX10_sharesAt_242 0 rfl ?_
    refine im_goto hF 254 dX10_sharesAt_244 (by decide) ?_
    refine im_sub (lv' := [(0, .ref (g.2.1 10 0)), (1, .int a1), (5, .int a5), (8, .int as0)]) [1, 2, 3, 0] rfl ?_
    exact (i_X10_sharesAt_B254 X g hF hM hI) a1 a5 as0 as0 s0
def f_X10_sharesAt_B216 (a1 : Int32) (a5 : Int32) (a7 : Int32) (s0 : Sg) : Option Sg :=
  if 0 ≤ a7 then
  (f_X10_sharesAt_B228) a1 a5 (0 : Int32) s0
  else
  (f_X10_sharesAt_B228) a1 a5 (-a7) s0
set_option maxRecDepth 4000 in
theorem i_X10_sharesAt_B216 (X : Cx) (g : GT) (hF : Fx X g RX10 cX10_sharesAt 12 5 116) (hM : FM X g none) (hI : GI g) (a1 : Int32) (a5 : Int32) (a7 : Int32) (s0 : Sg) : Im X g 12 (Qm X g embV) s0 216 [(0, .ref (g.2.1 10 0)), (1, .int a1), (5, .int a5), (7, .int a7)] [] (f_X10_sharesAt_B216 a1 a5 a7 s0) := by
  unfold f_X10_sharesAt_B216
  refine im_iload hF dX10_sharesAt_216 3 rfl ?_
  refine im_if_ge hF 227 dX10_sharesAt_218 (by decide) (fun _ => ?_) (fun _ => ?_)
  · refine im_iconst hF dX10_sharesAt_227 (v := (0 : Int32)) (by decide) ?_
    refine im_sub (lv' := [(0, .ref (g.2.1 10 0)), (1, .int a1), (5, .int a5)]) [0, 1, 2] rfl ?_
    exact (i_X10_sharesAt_B228 X g hF hM hI) a1 a5 (0 : Int32) s0
  · refine im_iload hF dX10_sharesAt_221 3 rfl ?_
    refine im_ineg hF dX10_sharesAt_223 ?_
    refine im_goto hF 228 dX10_sharesAt_224 (by decide) ?_
    refine im_sub (lv' := [(0, .ref (g.2.1 10 0)), (1, .int a1), (5, .int a5)]) [0, 1, 2] rfl ?_
    exact (i_X10_sharesAt_B228 X g hF hM hI) a1 a5 (-a7) s0
def f_X10_sharesAt_B126 (a1 : Int32) (a2 : Int32) (a3 : Int32) (a4 : Int32) (a5 : Int32) (s0 : Sg) : Option Sg :=
  chk (gi a4 70) (
  Option.bind (f_X10_tableHours a1 (a2 - (1 : Int32)) s0) fun q2 =>
  bdI ((a3 - (s0 76 0 a4.toNatClampNeg)) - q2.1) fun x3 =>
  if x3 ≤ 0 then
  (f_X10_sharesAt_B216) a1 a5 x3 q2.2
  else
  Option.bind (f_X10_isExcused a1 a2 a3 q2.2) fun q4 =>
  if q4.1 = 0 then
  chk (gi a1 10) (
  chk (gi a1 10) (
  chk (gi (((4 : Int32) * a5) + (q4.2 48 0 a1.toNatClampNeg)) 280) (
  chk (gi (((4 : Int32) * a5) + (q4.2 48 0 a1.toNatClampNeg)) 280) (bdS (up3 q4.2 79 0 (((4 : Int32) * a5) + (q4.2 48 0 a1.toNatClampNeg)).toNatClampNeg ((q4.2 79 0 (((4 : Int32) * a5) + (q4.2 48 0 a1.toNatClampNeg)).toNatClampNeg) + x3)) fun s9 =>
  (f_X10_sharesAt_B216) a1 a5 x3 s9))))
  else
  chk (gi a5 70) (
  chk (gi a5 70) (bdS (up3 q4.2 78 0 a5.toNatClampNeg ((q4.2 78 0 a5.toNatClampNeg) + x3)) fun s12 =>
  (f_X10_sharesAt_B216) a1 a5 x3 s12)))
set_option maxRecDepth 4000 in
theorem i_X10_sharesAt_B126 (X : Cx) (g : GT) (hF : Fx X g RX10 cX10_sharesAt 12 5 116) (hM : FM X g none) (hI : GI g) (a1 : Int32) (a2 : Int32) (a3 : Int32) (a4 : Int32) (a5 : Int32) (s0 : Sg) : Im X g 12 (Qm X g embV) s0 126 [(0, .ref (g.2.1 10 0)), (1, .int a1), (2, .int a2), (3, .int a3), (4, .int a4), (5, .int a5)] [] (f_X10_sharesAt_B126 a1 a2 a3 a4 a5 s0) := by
  unfold f_X10_sharesAt_B126
  refine im_iload_n hF dX10_sharesAt_126 3 rfl ?_
  refine im_aload_n hF dX10_sharesAt_127 0 rfl ?_
  refine im_get hF (v := .ref (g.2.1 76 0)) fl_10_112 (by decide) (by decide) rfl dX10_sharesAt_128 ?_
  refine im_iload hF dX10_sharesAt_131 4 rfl ?_
  refine im_iald hF ar_76 (by decide) dX10_sharesAt_133 (fun h1 => ?_)
  refine im_isub hF dX10_sharesAt_134 ?_
  refine im_aload_n hF dX10_sharesAt_135 0 rfl ?_
  refine im_iload_n hF dX10_sharesAt_136 1 rfl ?_
  refine im_iload_n hF dX10_sharesAt_137 2 rfl ?_
  refine im_iconst hF dX10_sharesAt_138 (v := (1 : Int32)) (by decide) ?_
  refine im_isub hF dX10_sharesAt_139 ?_
  refine im_callVI hF (As := [.int a1, .int (a2 - (1 : Int32))]) (rest := [.int (a3 - (s0 76 0 a4.toNatClampNeg))]) my_X10_tableHours mv_X10_tableHours wl_1055 (fun l r hr => c_X10_tableHours l g hI a1 (a2 - (1 : Int32)) s0 r hr) ⟨by decide, by decide⟩ (by decide) (by decide) ⟨_, rfl, rfl⟩ rfl rfl (Nat.le_of_ble_eq_true rfl) dX10_sharesAt_140 (fun q2 => ?_)
  refine im_isub hF dX10_sharesAt_143 ?_
  refine im_bdI (fun x3 => ?_)
  refine im_istore hF dX10_sharesAt_144 (lv' := [(7, .int x3), (0, .ref (g.2.1 10 0)), (1, .int a1), (2, .int a2), (3, .int a3), (4, .int a4), (5, .int a5)]) (by decide) rfl ?_
  refine im_iload hF dX10_sharesAt_146 0 rfl ?_
  refine im_if_le hF 216 dX10_sharesAt_148 (by decide) (fun _ => ?_) (fun _ => ?_)
  · refine im_sub (lv' := [(0, .ref (g.2.1 10 0)), (1, .int a1), (5, .int a5), (7, .int x3)]) [1, 2, 6, 0] rfl ?_
    exact (i_X10_sharesAt_B216 X g hF hM hI) a1 a5 x3 q2.2
  · refine im_aload_n hF dX10_sharesAt_151 1 rfl ?_
    refine im_iload_n hF dX10_sharesAt_152 2 rfl ?_
    refine im_iload_n hF dX10_sharesAt_153 3 rfl ?_
    refine im_iload_n hF dX10_sharesAt_154 4 rfl ?_
    refine im_callVI hF (As := [.int a1, .int a2, .int a3]) (rest := []) my_X10_isExcused mv_X10_isExcused wl_1074 (fun l r hr => c_X10_isExcused l g hI a1 a2 a3 q2.2 r hr) ⟨by decide, by decide⟩ (by decide) (by decide) ⟨_, rfl, rfl⟩ rfl rfl (Nat.le_of_ble_eq_true rfl) dX10_sharesAt_155 (fun q4 => ?_)
    refine im_if_eq hF 181 dX10_sharesAt_158 (by decide) (fun _ => ?_) (fun _ => ?_)
    · refine im_aload_n hF dX10_sharesAt_181 1 rfl ?_
      refine im_get hF (v := .ref (g.2.1 79 0)) fl_10_121 (by decide) (by decide) rfl dX10_sharesAt_182 ?_
      refine im_iconst hF dX10_sharesAt_185 (v := (4 : Int32)) (by decide) ?_
      refine im_iload hF dX10_sharesAt_186 6 rfl ?_
      refine im_imul hF dX10_sharesAt_188 ?_
      refine im_aload_n hF dX10_sharesAt_189 1 rfl ?_
      refine im_get hF (v := .ref (g.2.1 48 0)) fl_10_22 (by decide) (by decide) rfl dX10_sharesAt_190 ?_
      refine im_iload_n hF dX10_sharesAt_193 2 rfl ?_
      refine im_iald hF ar_48 (by decide) dX10_sharesAt_194 (fun h5 => ?_)
      refine im_iadd hF dX10_sharesAt_195 ?_
      refine im_aload_n hF dX10_sharesAt_196 1 rfl ?_
      refine im_get hF (v := .ref (g.2.1 79 0)) fl_10_121 (by decide) (by decide) rfl dX10_sharesAt_197 ?_
      refine im_iconst hF dX10_sharesAt_200 (v := (4 : Int32)) (by decide) ?_
      refine im_iload hF dX10_sharesAt_201 6 rfl ?_
      refine im_imul hF dX10_sharesAt_203 ?_
      refine im_aload_n hF dX10_sharesAt_204 1 rfl ?_
      refine im_get hF (v := .ref (g.2.1 48 0)) fl_10_22 (by decide) (by decide) rfl dX10_sharesAt_205 ?_
      refine im_iload_n hF dX10_sharesAt_208 2 rfl ?_
      refine im_iald hF ar_48 (by decide) dX10_sharesAt_209 (fun h6 => ?_)
      refine im_iadd hF dX10_sharesAt_210 ?_
      refine im_iald hF ar_79 (by decide) dX10_sharesAt_211 (fun h7 => ?_)
      refine im_iload hF dX10_sharesAt_212 0 rfl ?_
      refine im_iadd hF dX10_sharesAt_214 ?_
      refine im_iast hF ar_79 (by decide) dX10_sharesAt_215 (fun h8 => im_bdS (fun s9 => ?_))
      refine im_sub (lv' := [(0, .ref (g.2.1 10 0)), (1, .int a1), (5, .int a5), (7, .int x3)]) [1, 2, 6, 0] rfl ?_
      exact (i_X10_sharesAt_B216 X g hF hM hI) a1 a5 x3 s9
    · refine im_aload_n hF dX10_sharesAt_161 1 rfl ?_
      refine im_get hF (v := .ref (g.2.1 78 0)) fl_10_118 (by decide) (by decide) rfl dX10_sharesAt_162 ?_
      refine im_iload hF dX10_sharesAt_165 6 rfl ?_
      refine im_aload_n hF dX10_sharesAt_167 1 rfl ?_
      refine im_get hF (v := .ref (g.2.1 78 0)) fl_10_118 (by decide) (by decide) rfl dX10_sharesAt_168 ?_
      refine im_iload hF dX10_sharesAt_171 6 rfl ?_
      refine im_iald hF ar_78 (by decide) dX10_sharesAt_173 (fun h10 => ?_)
      refine im_iload hF dX10_sharesAt_174 0 rfl ?_
      refine im_iadd hF dX10_sharesAt_176 ?_
      refine im_iast hF ar_78 (by decide) dX10_sharesAt_177 (fun h11 => im_bdS (fun s12 => ?_))
      refine im_goto hF 216 dX10_sharesAt_178 (by decide) ?_
      refine im_sub (lv' := [(0, .ref (g.2.1 10 0)), (1, .int a1), (5, .int a5), (7, .int x3)]) [1, 2, 6, 0] rfl ?_
      exact (i_X10_sharesAt_B216 X g hF hM hI) a1 a5 x3 s12
def f_X10_sharesAt (a1 : Int32) (a2 : Int32) (a3 : Int32) (s0 : Sg) : Option Sg :=
  bdI ((((7 : Int32) * a1) + a2) - (1 : Int32)) fun x1 =>
  bdI (x1 + (1 : Int32)) fun x2 =>
  chk (gi x1 70) (
  chk (gi x2 70) (bdS (up3 s0 78 0 x2.toNatClampNeg (s0 78 0 x1.toNatClampNeg)) fun s5 =>
  (f_X10_sharesAt_L33 (f_X10_sharesAt_B126) FU) a1 a2 a3 x1 x2 (0 : Int32) s5))
set_option maxRecDepth 4000 in
theorem i_X10_sharesAt (X : Cx) (g : GT) (hF : Fx X g RX10 cX10_sharesAt 12 5 116) (hM : FM X g none) (hI : GI g) (a1 : Int32) (a2 : Int32) (a3 : Int32) (s0 : Sg) : Im X g 12 (Qm X g embV) s0 0 [(0, .ref (g.2.1 10 0)), (1, .int a1), (2, .int a2), (3, .int a3)] [] (f_X10_sharesAt a1 a2 a3 s0) := by
  unfold f_X10_sharesAt
  refine im_bipush hF dX10_sharesAt_0 (v := (7 : Int32)) (by decide) ?_
  refine im_iload_n hF dX10_sharesAt_2 1 rfl ?_
  refine im_imul hF dX10_sharesAt_3 ?_
  refine im_iload_n hF dX10_sharesAt_4 2 rfl ?_
  refine im_iadd hF dX10_sharesAt_5 ?_
  refine im_iconst hF dX10_sharesAt_6 (v := (1 : Int32)) (by decide) ?_
  refine im_isub hF dX10_sharesAt_7 ?_
  refine im_bdI (fun x1 => ?_)
  refine im_istore hF dX10_sharesAt_8 (lv' := [(4, .int x1), (0, .ref (g.2.1 10 0)), (1, .int a1), (2, .int a2), (3, .int a3)]) (by decide) rfl ?_
  refine im_iload hF dX10_sharesAt_10 0 rfl ?_
  refine im_iconst hF dX10_sharesAt_12 (v := (1 : Int32)) (by decide) ?_
  refine im_iadd hF dX10_sharesAt_13 ?_
  refine im_bdI (fun x2 => ?_)
  refine im_istore hF dX10_sharesAt_14 (lv' := [(5, .int x2), (4, .int x1), (0, .ref (g.2.1 10 0)), (1, .int a1), (2, .int a2), (3, .int a3)]) (by decide) rfl ?_
  refine im_aload_n hF dX10_sharesAt_16 2 rfl ?_
  refine im_get hF (v := .ref (g.2.1 78 0)) fl_10_118 (by decide) (by decide) rfl dX10_sharesAt_17 ?_
  refine im_iload hF dX10_sharesAt_20 0 rfl ?_
  refine im_aload_n hF dX10_sharesAt_22 2 rfl ?_
  refine im_get hF (v := .ref (g.2.1 78 0)) fl_10_118 (by decide) (by decide) rfl dX10_sharesAt_23 ?_
  refine im_iload hF dX10_sharesAt_26 1 rfl ?_
  refine im_iald hF ar_78 (by decide) dX10_sharesAt_28 (fun h3 => ?_)
  refine im_iast hF ar_78 (by decide) dX10_sharesAt_29 (fun h4 => im_bdS (fun s5 => ?_))
  refine im_iconst hF dX10_sharesAt_30 (v := (0 : Int32)) (by decide) ?_
  refine im_istore hF dX10_sharesAt_31 (lv' := [(6, .int (0 : Int32)), (5, .int x2), (4, .int x1), (0, .ref (g.2.1 10 0)), (1, .int a1), (2, .int a2), (3, .int a3)]) (by decide) rfl ?_
  refine im_sub (lv' := [(0, .ref (g.2.1 10 0)), (1, .int a1), (2, .int a2), (3, .int a3), (4, .int x1), (5, .int x2), (6, .int (0 : Int32))]) [3, 4, 5, 6, 2, 1, 0] rfl ?_
  exact (i_X10_sharesAt_L33 X g hF hM hI (f_X10_sharesAt_B126) (i_X10_sharesAt_B126 X g hF hM hI) FU) a1 a2 a3 x1 x2 (0 : Int32) s5
theorem c_X10_sharesAt (l : Launch) (g : GT) (hI : GI g) (a1 : Int32) (a2 : Int32) (a3 : Int32) (s0 : Sg) (r : Sg) (hr : f_X10_sharesAt a1 a2 a3 s0 = some r) : Ct l yX10_sharesAt cX10_sharesAt 12 none 5 116 g [.ref (g.2.1 10 0), .int a1, .int a2, .int a3] s0 (embV r) := ct_of (by decide) hI (Nat.le_of_ble_eq_true rfl) (fun X hF hM => i_X10_sharesAt X g hF hM hI a1 a2 a3 s0) r hr
def f_X10_waits_B159 (k159 : Int32 → Int32 → Sg → Option (Int32 × Sg)) (a6 : Int32) (a7 : Int32) (s0 : Sg) : Option (Int32 × Sg) :=
  chk (gi a6 5) (
  if (((12 : Int32) * a6) + (s0 61 0 a6.toNatClampNeg)) ≤ a7 then
  some ((0 : Int32), s0)
  else
  chk (gi a7 60) (
  if (s0 64 0 a7.toNatClampNeg) = (87 : Int32) then
  chk (gi a7 60) (
  chk (gi (1 : Int32) 5) (
  if (s0 65 0 a7.toNatClampNeg) ≤ (s0 73 0 (1 : Int32).toNatClampNeg) then
  k159 a6 (a7 + (1 : Int32)) s0
  else
  chk (gi a7 60) (
  chk (gi a7 60) (
  Option.bind (f_X10_holds a6 (s0 66 0 a7.toNatClampNeg) (s0 67 0 a7.toNatClampNeg) s0) fun q7 =>
  if q7.1 = 0 then
  k159 a6 (a7 + (1 : Int32)) q7.2
  else
  some ((1 : Int32), q7.2)))))
  else
  k159 a6 (a7 + (1 : Int32)) s0))
set_option maxRecDepth 4000 in
theorem i_X10_waits_B159 (X : Cx) (g : GT) (hF : Fx X g RX10 cX10_waits 8 4 89) (hM : FM X g (some .boolean)) (hI : GI g) (k159 : Int32 → Int32 → Sg → Option (Int32 × Sg)) (hk159 : ∀ (a6 : Int32) (a7 : Int32) (s0 : Sg), Im X g 8 (Qm X g embI) s0 159 [(0, .ref (g.2.1 10 0)), (6, .int a6), (7, .int a7)] [] (k159 a6 a7 s0)) (a6 : Int32) (a7 : Int32) (s0 : Sg) : Im X g 8 (Qm X g embI) s0 159 [(0, .ref (g.2.1 10 0)), (6, .int a6), (7, .int a7)] [] (f_X10_waits_B159 k159 a6 a7 s0) := by
  unfold f_X10_waits_B159
  refine im_iload hF dX10_waits_159 2 rfl ?_
  refine im_bipush hF dX10_waits_161 (v := (12 : Int32)) (by decide) ?_
  refine im_iload hF dX10_waits_163 1 rfl ?_
  refine im_imul hF dX10_waits_165 ?_
  refine im_aload_n hF dX10_waits_166 0 rfl ?_
  refine im_get hF (v := .ref (g.2.1 61 0)) fl_10_66 (by decide) (by decide) rfl dX10_waits_167 ?_
  refine im_iload hF dX10_waits_170 1 rfl ?_
  refine im_iald hF ar_61 (by decide) dX10_waits_172 (fun h1 => ?_)
  refine im_iadd hF dX10_waits_173 ?_
  refine im_icmp_ge hF 236 dX10_waits_174 (by decide) (fun _ => ?_) (fun _ => ?_)
  · refine im_iconst hF dX10_waits_236 (v := (0 : Int32)) (by decide) ?_
    exact im_zret hF hM (by decide) dX10_waits_237
  · refine im_aload_n hF dX10_waits_177 0 rfl ?_
    refine im_get hF (v := .ref (g.2.1 64 0)) fl_10_75 (by decide) (by decide) rfl dX10_waits_178 ?_
    refine im_iload hF dX10_waits_181 2 rfl ?_
    refine im_iald hF ar_64 (by decide) dX10_waits_183 (fun h2 => ?_)
    refine im_bipush hF dX10_waits_184 (v := (87 : Int32)) (by decide) ?_
    refine im_icmp_ne hF 230 dX10_waits_186 (by decide) (fun _ => ?_) (fun _ => ?_)
    · refine im_aload_n hF dX10_waits_189 0 rfl ?_
      refine im_get hF (v := .ref (g.2.1 65 0)) fl_10_78 (by decide) (by decide) rfl dX10_waits_190 ?_
      refine im_iload hF dX10_waits_193 2 rfl ?_
      refine im_iald hF ar_65 (by decide) dX10_waits_195 (fun h3 => ?_)
      refine im_aload_n hF dX10_waits_196 0 rfl ?_
      refine im_get hF (v := .ref (g.2.1 73 0)) fl_10_102 (by decide) (by decide) rfl dX10_waits_197 ?_
      refine im_iconst hF dX10_waits_200 (v := (1 : Int32)) (by decide) ?_
      refine im_iald hF ar_73 (by decide) dX10_waits_201 (fun h4 => ?_)
      refine im_icmp_le hF 230 dX10_waits_202 (by decide) (fun _ => ?_) (fun _ => ?_)
      · refine im_iinc hF dX10_waits_230 (v := (a7 + (1 : Int32))) (lv' := [(7, .int (a7 + (1 : Int32))), (0, .ref (g.2.1 10 0)), (6, .int a6)]) 2 rfl rfl (by decide) rfl ?_
        refine im_goto hF 159 dX10_waits_233 (by decide) ?_
        refine im_sub (lv' := [(0, .ref (g.2.1 10 0)), (6, .int a6), (7, .int (a7 + (1 : Int32)))]) [1, 2, 0] rfl ?_
        exact hk159 a6 (a7 + (1 : Int32)) s0
      · refine im_aload_n hF dX10_waits_205 0 rfl ?_
        refine im_iload hF dX10_waits_206 1 rfl ?_
        refine im_aload_n hF dX10_waits_208 0 rfl ?_
        refine im_get hF (v := .ref (g.2.1 66 0)) fl_10_81 (by decide) (by decide) rfl dX10_waits_209 ?_
        refine im_iload hF dX10_waits_212 2 rfl ?_
        refine im_iald hF ar_66 (by decide) dX10_waits_214 (fun h5 => ?_)
        refine im_aload_n hF dX10_waits_215 0 rfl ?_
        refine im_get hF (v := .ref (g.2.1 67 0)) fl_10_84 (by decide) (by decide) rfl dX10_waits_216 ?_
        refine im_iload hF dX10_waits_219 2 rfl ?_
        refine im_iald hF ar_67 (by decide) dX10_waits_221 (fun h6 => ?_)
        refine im_callVI hF (As := [.int a6, .int (s0 66 0 a7.toNatClampNeg), .int (s0 67 0 a7.toNatClampNeg)]) (rest := []) my_X10_holds mv_X10_holds wl_1085 (fun l r hr => c_X10_holds l g hI a6 (s0 66 0 a7.toNatClampNeg) (s0 67 0 a7.toNatClampNeg) s0 r hr) ⟨by decide, by decide⟩ (by decide) (by decide) ⟨_, rfl, rfl⟩ rfl rfl (Nat.le_of_ble_eq_true rfl) dX10_waits_222 (fun q7 => ?_)
        refine im_if_eq hF 230 dX10_waits_225 (by decide) (fun _ => ?_) (fun _ => ?_)
        · refine im_iinc hF dX10_waits_230 (v := (a7 + (1 : Int32))) (lv' := [(7, .int (a7 + (1 : Int32))), (0, .ref (g.2.1 10 0)), (6, .int a6)]) 2 rfl rfl (by decide) rfl ?_
          refine im_goto hF 159 dX10_waits_233 (by decide) ?_
          refine im_sub (lv' := [(0, .ref (g.2.1 10 0)), (6, .int a6), (7, .int (a7 + (1 : Int32)))]) [1, 2, 0] rfl ?_
          exact hk159 a6 (a7 + (1 : Int32)) q7.2
        · refine im_iconst hF dX10_waits_228 (v := (1 : Int32)) (by decide) ?_
          exact im_zret hF hM (by decide) dX10_waits_229
    · refine im_iinc hF dX10_waits_230 (v := (a7 + (1 : Int32))) (lv' := [(7, .int (a7 + (1 : Int32))), (0, .ref (g.2.1 10 0)), (6, .int a6)]) 2 rfl rfl (by decide) rfl ?_
      refine im_goto hF 159 dX10_waits_233 (by decide) ?_
      refine im_sub (lv' := [(0, .ref (g.2.1 10 0)), (6, .int a6), (7, .int (a7 + (1 : Int32)))]) [1, 2, 0] rfl ?_
      exact hk159 a6 (a7 + (1 : Int32)) s0
def f_X10_waits_L159 : Nat → Int32 → Int32 → Sg → Option (Int32 × Sg)
  | 0 => fun _ _ _ => none
  | n + 1 => fun a6 a7 s0 => f_X10_waits_B159 (f_X10_waits_L159 n) a6 a7 s0
theorem i_X10_waits_L159 (X : Cx) (g : GT) (hF : Fx X g RX10 cX10_waits 8 4 89) (hM : FM X g (some .boolean)) (hI : GI g) : ∀ (n : Nat) (a6 : Int32) (a7 : Int32) (s0 : Sg), Im X g 8 (Qm X g embI) s0 159 [(0, .ref (g.2.1 10 0)), (6, .int a6), (7, .int a7)] [] (f_X10_waits_L159 n a6 a7 s0) := by
  intro n
  induction n with
  | zero => intros; exact im_none
  | succ n ih => intro a6 a7 s0; exact i_X10_waits_B159 X g hF hM hI (f_X10_waits_L159 n) ih a6 a7 s0
def f_X10_waits_B60 (a1 : Int32) (a2 : Int32) (a3 : Int32) (a4 : Int32) (s0 : Sg) : Option (Int32 × Sg) :=
  chk (gi a3 20) (
  Option.bind (f_X10_dueCome a4 (s0 59 0 a3.toNatClampNeg) s0) fun q2 =>
  chk (gi (0 : Int32) 5) (bdS (up3 q2.2 73 0 (0 : Int32).toNatClampNeg (a2 - q2.1)) fun s4 =>
  chk (gi a1 10) (
  chk (gi (1 : Int32) 5) (bdS (up3 s4 73 0 (1 : Int32).toNatClampNeg (a2 - (s4 81 0 a1.toNatClampNeg))) fun s7 =>
  chk (gi a1 10) (
  Option.bind (f_X10_windIn a1 (s7 80 0 a1.toNatClampNeg) a2 s7) fun q9 =>
  chk (gi (2 : Int32) 5) (bdS (up3 q9.2 73 0 (2 : Int32).toNatClampNeg q9.1) fun s11 =>
  chk (gi a1 10) (
  chk (gi (((6 : Int32) * a1) + (s11 80 0 a1.toNatClampNeg)) 60) (
  chk (gi (3 : Int32) 5) (bdS (up3 s11 73 0 (3 : Int32).toNatClampNeg (s11 54 0 (((6 : Int32) * a1) + (s11 80 0 a1.toNatClampNeg)).toNatClampNeg)) fun s15 =>
  Option.bind (f_X10_month a2 s15) fun q16 =>
  chk (gi (4 : Int32) 5) (bdS (up3 q16.2 73 0 (4 : Int32).toNatClampNeg q16.1) fun s18 =>
  chk (gi a1 10) (
  bdI (s18 48 0 a1.toNatClampNeg) fun x20 =>
  bdI ((12 : Int32) * x20) fun x21 =>
  (f_X10_waits_L159 FU) x20 x21 s18)))))))))))
set_option maxRecDepth 4000 in
theorem i_X10_waits_B60 (X : Cx) (g : GT) (hF : Fx X g RX10 cX10_waits 8 4 89) (hM : FM X g (some .boolean)) (hI : GI g) (a1 : Int32) (a2 : Int32) (a3 : Int32) (a4 : Int32) (s0 : Sg) : Im X g 8 (Qm X g embI) s0 60 [(0, .ref (g.2.1 10 0)), (1, .int a1), (2, .int a2), (3, .int a3), (4, .int a4)] [] (f_X10_waits_B60 a1 a2 a3 a4 s0) := by
  unfold f_X10_waits_B60
  refine im_aload_n hF dX10_waits_60 0 rfl ?_
  refine im_get hF (v := .ref (g.2.1 73 0)) fl_10_102 (by decide) (by decide) rfl dX10_waits_61 ?_
  refine im_iconst hF dX10_waits_64 (v := (0 : Int32)) (by decide) ?_
  refine im_iload_n hF dX10_waits_65 2 rfl ?_
  refine im_aload_n hF dX10_waits_66 0 rfl ?_
  refine im_iload hF dX10_waits_67 4 rfl ?_
  refine im_aload_n hF dX10_waits_69 0 rfl ?_
  refine im_get hF (v := .ref (g.2.1 59 0)) fl_10_55 (by decide) (by decide) rfl dX10_waits_70 ?_
  refine im_iload_n hF dX10_waits_73 3 rfl ?_
  refine im_iald hF ar_59 (by decide) dX10_waits_74 (fun h1 => ?_)
  refine im_callVI hF (As := [.int a4, .int (s0 59 0 a3.toNatClampNeg)]) (rest := [.int a2, .int (0 : Int32), .ref (g.2.1 73 0)]) my_X10_dueCome mv_X10_dueCome wl_1047 (fun l r hr => c_X10_dueCome l g hI a4 (s0 59 0 a3.toNatClampNeg) s0 r hr) ⟨by decide, by decide⟩ (by decide) (by decide) ⟨_, rfl, rfl⟩ rfl rfl (Nat.le_of_ble_eq_true rfl) dX10_waits_75 (fun q2 => ?_)
  refine im_isub hF dX10_waits_78 ?_
  refine im_iast hF ar_73 (by decide) dX10_waits_79 (fun h3 => im_bdS (fun s4 => ?_))
  refine im_aload_n hF dX10_waits_80 0 rfl ?_
  refine im_get hF (v := .ref (g.2.1 73 0)) fl_10_102 (by decide) (by decide) rfl dX10_waits_81 ?_
  refine im_iconst hF dX10_waits_84 (v := (1 : Int32)) (by decide) ?_
  refine im_iload_n hF dX10_waits_85 2 rfl ?_
  refine im_aload_n hF dX10_waits_86 0 rfl ?_
  refine im_get hF (v := .ref (g.2.1 81 0)) fl_10_127 (by decide) (by decide) rfl dX10_waits_87 ?_
  refine im_iload_n hF dX10_waits_90 1 rfl ?_
  refine im_iald hF ar_81 (by decide) dX10_waits_91 (fun h5 => ?_)
  refine im_isub hF dX10_waits_92 ?_
  refine im_iast hF ar_73 (by decide) dX10_waits_93 (fun h6 => im_bdS (fun s7 => ?_))
  refine im_aload_n hF dX10_waits_94 0 rfl ?_
  refine im_get hF (v := .ref (g.2.1 73 0)) fl_10_102 (by decide) (by decide) rfl dX10_waits_95 ?_
  refine im_iconst hF dX10_waits_98 (v := (2 : Int32)) (by decide) ?_
  refine im_aload_n hF dX10_waits_99 0 rfl ?_
  refine im_iload_n hF dX10_waits_100 1 rfl ?_
  refine im_aload_n hF dX10_waits_101 0 rfl ?_
  refine im_get hF (v := .ref (g.2.1 80 0)) fl_10_124 (by decide) (by decide) rfl dX10_waits_102 ?_
  refine im_iload_n hF dX10_waits_105 1 rfl ?_
  refine im_iald hF ar_80 (by decide) dX10_waits_106 (fun h8 => ?_)
  refine im_iload_n hF dX10_waits_107 2 rfl ?_
  refine im_callVI hF (As := [.int a1, .int (s7 80 0 a1.toNatClampNeg), .int a2]) (rest := [.int (2 : Int32), .ref (g.2.1 73 0)]) my_X10_windIn mv_X10_windIn wl_1078 (fun l r hr => c_X10_windIn l g hI a1 (s7 80 0 a1.toNatClampNeg) a2 s7 r hr) ⟨by decide, by decide⟩ (by decide) (by decide) ⟨_, rfl, rfl⟩ rfl rfl (Nat.le_of_ble_eq_true rfl) dX10_waits_108 (fun q9 => ?_)
  refine im_iast hF ar_73 (by decide) dX10_waits_111 (fun h10 => im_bdS (fun s11 => ?_))
  refine im_aload_n hF dX10_waits_112 0 rfl ?_
  refine im_get hF (v := .ref (g.2.1 73 0)) fl_10_102 (by decide) (by decide) rfl dX10_waits_113 ?_
  refine im_iconst hF dX10_waits_116 (v := (3 : Int32)) (by decide) ?_
  refine im_aload_n hF dX10_waits_117 0 rfl ?_
  refine im_get hF (v := .ref (g.2.1 54 0)) fl_10_40 (by decide) (by decide) rfl dX10_waits_118 ?_
  refine im_bipush hF dX10_waits_121 (v := (6 : Int32)) (by decide) ?_
  refine im_iload_n hF dX10_waits_123 1 rfl ?_
  refine im_imul hF dX10_waits_124 ?_
  refine im_aload_n hF dX10_waits_125 0 rfl ?_
  refine im_get hF (v := .ref (g.2.1 80 0)) fl_10_124 (by decide) (by decide) rfl dX10_waits_126 ?_
  refine im_iload_n hF dX10_waits_129 1 rfl ?_
  refine im_iald hF ar_80 (by decide) dX10_waits_130 (fun h12 => ?_)
  refine im_iadd hF dX10_waits_131 ?_
  refine im_iald hF ar_54 (by decide) dX10_waits_132 (fun h13 => ?_)
  refine im_iast hF ar_73 (by decide) dX10_waits_133 (fun h14 => im_bdS (fun s15 => ?_))
  refine im_aload_n hF dX10_waits_134 0 rfl ?_
  refine im_get hF (v := .ref (g.2.1 73 0)) fl_10_102 (by decide) (by decide) rfl dX10_waits_135 ?_
  refine im_iconst hF dX10_waits_138 (v := (4 : Int32)) (by decide) ?_
  refine im_iload_n hF dX10_waits_139 2 rfl ?_
  refine im_callSI hF (As := [.int a2]) (rest := [.int (4 : Int32), .ref (g.2.1 73 0)]) my_X10_month ms_X10_month wl_1082 (fun l r hr => c_X10_month l g hI a2 s15 r hr) ⟨by decide, by decide⟩ rfl rfl (Nat.le_of_ble_eq_true rfl) dX10_waits_140 (fun q16 => ?_)
  refine im_iast hF ar_73 (by decide) dX10_waits_143 (fun h17 => im_bdS (fun s18 => ?_))
  refine im_aload_n hF dX10_waits_144 0 rfl ?_
  refine im_get hF (v := .ref (g.2.1 48 0)) fl_10_22 (by decide) (by decide) rfl dX10_waits_145 ?_
  refine im_iload_n hF dX10_waits_148 1 rfl ?_
  refine im_iald hF ar_48 (by decide) dX10_waits_149 (fun h19 => ?_)
  refine im_bdI (fun x20 => ?_)
  refine im_istore hF dX10_waits_150 (lv' := [(6, .int x20), (0, .ref (g.2.1 10 0)), (1, .int a1), (2, .int a2), (3, .int a3), (4, .int a4)]) (by decide) rfl ?_
  refine im_bipush hF dX10_waits_152 (v := (12 : Int32)) (by decide) ?_
  refine im_iload hF dX10_waits_154 0 rfl ?_
  refine im_imul hF dX10_waits_156 ?_
  refine im_bdI (fun x21 => ?_)
  refine im_istore hF dX10_waits_157 (lv' := [(7, .int x21), (6, .int x20), (0, .ref (g.2.1 10 0)), (1, .int a1), (2, .int a2), (3, .int a3), (4, .int a4)]) (by decide) rfl ?_
  refine im_sub (lv' := [(0, .ref (g.2.1 10 0)), (6, .int x20), (7, .int x21)]) [2, 1, 0] rfl ?_
  exact (i_X10_waits_L159 X g hF hM hI FU) x20 x21 s18
def f_X10_waits (a1 : Int32) (a2 : Int32) (s0 : Sg) : Option (Int32 × Sg) :=
  chk (gi a1 10) (
  Option.bind (f_X10_meeting a1 (s0 80 0 a1.toNatClampNeg) s0) fun q2 =>
  if q2.1 = (-1 : Int32) then
  some ((0 : Int32), q2.2)
  else
  chk (gi q2.1 20) (
  bdI (q2.2 58 0 q2.1.toNatClampNeg) fun x4 =>
  chk (gi q2.1 20) (
  chk (gi (((7 : Int32) * x4) + (q2.2 59 0 q2.1.toNatClampNeg)) 70) (
  bdI (q2.2 75 0 (((7 : Int32) * x4) + (q2.2 59 0 q2.1.toNatClampNeg)).toNatClampNeg) fun x7 =>
  if x7 = (-1 : Int32) then
  (f_X10_waits_B60) a1 a2 q2.1 x4 q2.2
  else
  if a2 < x7 then
  (f_X10_waits_B60) a1 a2 q2.1 x4 q2.2
  else
  some ((0 : Int32), q2.2)))))
set_option maxRecDepth 4000 in
theorem i_X10_waits (X : Cx) (g : GT) (hF : Fx X g RX10 cX10_waits 8 4 89) (hM : FM X g (some .boolean)) (hI : GI g) (a1 : Int32) (a2 : Int32) (s0 : Sg) : Im X g 8 (Qm X g embI) s0 0 [(0, .ref (g.2.1 10 0)), (1, .int a1), (2, .int a2)] [] (f_X10_waits a1 a2 s0) := by
  unfold f_X10_waits
  refine im_aload_n hF dX10_waits_0 0 rfl ?_
  refine im_iload_n hF dX10_waits_1 1 rfl ?_
  refine im_aload_n hF dX10_waits_2 0 rfl ?_
  refine im_get hF (v := .ref (g.2.1 80 0)) fl_10_124 (by decide) (by decide) rfl dX10_waits_3 ?_
  refine im_iload_n hF dX10_waits_6 1 rfl ?_
  refine im_iald hF ar_80 (by decide) dX10_waits_7 (fun h1 => ?_)
  refine im_callVI hF (As := [.int a1, .int (s0 80 0 a1.toNatClampNeg)]) (rest := []) my_X10_meeting mv_X10_meeting wl_968 (fun l r hr => c_X10_meeting l g hI a1 (s0 80 0 a1.toNatClampNeg) s0 r hr) ⟨by decide, by decide⟩ (by decide) (by decide) ⟨_, rfl, rfl⟩ rfl rfl (Nat.le_of_ble_eq_true rfl) dX10_waits_8 (fun q2 => ?_)
  refine im_istore_n hF dX10_waits_11 (lv' := [(3, .int q2.1), (0, .ref (g.2.1 10 0)), (1, .int a1), (2, .int a2)]) rfl (by decide) rfl ?_
  refine im_iload_n hF dX10_waits_12 0 rfl ?_
  refine im_iconst hF dX10_waits_13 (v := (-1 : Int32)) (by decide) ?_
  refine im_icmp_ne hF 19 dX10_waits_14 (by decide) (fun _ => ?_) (fun _ => ?_)
  · refine im_iconst hF dX10_waits_17 (v := (0 : Int32)) (by decide) ?_
    exact im_zret hF hM (by decide) dX10_waits_18
  · refine im_aload_n hF dX10_waits_19 1 rfl ?_
    refine im_get hF (v := .ref (g.2.1 58 0)) fl_10_52 (by decide) (by decide) rfl dX10_waits_20 ?_
    refine im_iload_n hF dX10_waits_23 0 rfl ?_
    refine im_iald hF ar_58 (by decide) dX10_waits_24 (fun h3 => ?_)
    refine im_bdI (fun x4 => ?_)
    refine im_istore hF dX10_waits_25 (lv' := [(4, .int x4), (3, .int q2.1), (0, .ref (g.2.1 10 0)), (1, .int a1), (2, .int a2)]) (by decide) rfl ?_
    refine im_aload_n hF dX10_waits_27 2 rfl ?_
    refine im_get hF (v := .ref (g.2.1 75 0)) fl_10_109 (by decide) (by decide) rfl dX10_waits_28 ?_
    refine im_bipush hF dX10_waits_31 (v := (7 : Int32)) (by decide) ?_
    refine im_iload hF dX10_waits_33 0 rfl ?_
    refine im_imul hF dX10_waits_35 ?_
    refine im_aload_n hF dX10_waits_36 2 rfl ?_
    refine im_get hF (v := .ref (g.2.1 59 0)) fl_10_55 (by decide) (by decide) rfl dX10_waits_37 ?_
    refine im_iload_n hF dX10_waits_40 1 rfl ?_
    refine im_iald hF ar_59 (by decide) dX10_waits_41 (fun h5 => ?_)
    refine im_iadd hF dX10_waits_42 ?_
    refine im_iald hF ar_75 (by decide) dX10_waits_43 (fun h6 => ?_)
    refine im_bdI (fun x7 => ?_)
    refine im_istore hF dX10_waits_44 (lv' := [(5, .int x7), (4, .int x4), (3, .int q2.1), (0, .ref (g.2.1 10 0)), (1, .int a1), (2, .int a2)]) (by decide) rfl ?_
    refine im_iload hF dX10_waits_46 0 rfl ?_
    refine im_iconst hF dX10_waits_48 (v := (-1 : Int32)) (by decide) ?_
    refine im_icmp_eq hF 60 dX10_waits_49 (by decide) (fun _ => ?_) (fun _ => ?_)
    · refine im_sub (lv' := [(0, .ref (g.2.1 10 0)), (1, .int a1), (2, .int a2), (3, .int q2.1), (4, .int x4)]) [3, 4, 5, 2, 1] rfl ?_
      exact (i_X10_waits_B60 X g hF hM hI) a1 a2 q2.1 x4 q2.2
    · refine im_iload hF dX10_waits_52 0 rfl ?_
      refine im_iload_n hF dX10_waits_54 5 rfl ?_
      refine im_icmp_gt hF 60 dX10_waits_55 (by decide) (fun _ => ?_) (fun _ => ?_)
      · refine im_sub (lv' := [(0, .ref (g.2.1 10 0)), (1, .int a1), (2, .int a2), (3, .int q2.1), (4, .int x4)]) [3, 4, 5, 2, 1] rfl ?_
        exact (i_X10_waits_B60 X g hF hM hI) a1 a2 q2.1 x4 q2.2
      · refine im_iconst hF dX10_waits_58 (v := (0 : Int32)) (by decide) ?_
        exact im_zret hF hM (by decide) dX10_waits_59
theorem c_X10_waits (l : Launch) (g : GT) (hI : GI g) (a1 : Int32) (a2 : Int32) (s0 : Sg) (r : (Int32 × Sg)) (hr : f_X10_waits a1 a2 s0 = some r) : Ct l yX10_waits cX10_waits 8 (some .boolean) 4 89 g [.ref (g.2.1 10 0), .int a1, .int a2] s0 (embI r) := ct_of (by decide) hI (Nat.le_of_ble_eq_true rfl) (fun X hF hM => i_X10_waits X g hF hM hI a1 a2 s0) r hr
def f_X10_sails (a1 : Int32) (a2 : Int32) (s0 : Sg) : Option Sg :=
  chk (gi a1 10) (
  bdI (((7 : Int32) * a1) + (s0 80 0 a1.toNatClampNeg)) fun x2 =>
  chk (gi x2 70) (bdS (up3 s0 76 0 x2.toNatClampNeg a2) fun s4 =>
  chk (gi a1 10) (
  chk (gi x2 70) (bdS (up3 s4 77 0 x2.toNatClampNeg (a2 - (s4 81 0 a1.toNatClampNeg))) fun s7 =>
  chk (gi a1 10) (bdS (up3 s7 83 0 a1.toNatClampNeg (vp_nar .boolean (1 : Int32))) fun s9 =>
  chk (gi a1 10) (
  chk (gi a1 10) (
  Option.bind (f_X10_windIn a1 (s9 80 0 a1.toNatClampNeg) a2 s9) fun q12 =>
  bdI ((s9 49 0 a1.toNatClampNeg) * ((100 : Int32) + q12.1)) fun x13 =>
  chk (gi a1 10) (
  chk (gi (((6 : Int32) * a1) + (q12.2 80 0 a1.toNatClampNeg)) 60) (
  chk (gi (q12.2 53 0 (((6 : Int32) * a1) + (q12.2 80 0 a1.toNatClampNeg)).toNatClampNeg) 12) (
  Option.bind (f_X10_up ((100 : Int32) * (q12.2 46 0 (q12.2 53 0 (((6 : Int32) * a1) + (q12.2 80 0 a1.toNatClampNeg)).toNatClampNeg).toNatClampNeg)) x13 q12.2) fun q17 =>
  chk (gi a1 10) (
  chk (gi (((6 : Int32) * a1) + (q17.2 80 0 a1.toNatClampNeg)) 60) (
  chk (gi a1 10) (bdS (up3 q17.2 82 0 a1.toNatClampNeg ((a2 + q17.1) + (q17.2 54 0 (((6 : Int32) * a1) + (q17.2 80 0 a1.toNatClampNeg)).toNatClampNeg))) fun s21 =>
  some s21)))))))))))))
set_option maxRecDepth 4000 in
theorem i_X10_sails (X : Cx) (g : GT) (hF : Fx X g RX10 cX10_sails 5 2 43) (hM : FM X g none) (hI : GI g) (a1 : Int32) (a2 : Int32) (s0 : Sg) : Im X g 5 (Qm X g embV) s0 0 [(0, .ref (g.2.1 10 0)), (1, .int a1), (2, .int a2)] [] (f_X10_sails a1 a2 s0) := by
  unfold f_X10_sails
  refine im_bipush hF dX10_sails_0 (v := (7 : Int32)) (by decide) ?_
  refine im_iload_n hF dX10_sails_2 1 rfl ?_
  refine im_imul hF dX10_sails_3 ?_
  refine im_aload_n hF dX10_sails_4 0 rfl ?_
  refine im_get hF (v := .ref (g.2.1 80 0)) fl_10_124 (by decide) (by decide) rfl dX10_sails_5 ?_
  refine im_iload_n hF dX10_sails_8 1 rfl ?_
  refine im_iald hF ar_80 (by decide) dX10_sails_9 (fun h1 => ?_)
  refine im_iadd hF dX10_sails_10 ?_
  refine im_bdI (fun x2 => ?_)
  refine im_istore_n hF dX10_sails_11 (lv' := [(3, .int x2), (0, .ref (g.2.1 10 0)), (1, .int a1), (2, .int a2)]) rfl (by decide) rfl ?_
  refine im_aload_n hF dX10_sails_12 1 rfl ?_
  refine im_get hF (v := .ref (g.2.1 76 0)) fl_10_112 (by decide) (by decide) rfl dX10_sails_13 ?_
  refine im_iload_n hF dX10_sails_16 0 rfl ?_
  refine im_iload_n hF dX10_sails_17 3 rfl ?_
  refine im_iast hF ar_76 (by decide) dX10_sails_18 (fun h3 => im_bdS (fun s4 => ?_))
  refine im_aload_n hF dX10_sails_19 1 rfl ?_
  refine im_get hF (v := .ref (g.2.1 77 0)) fl_10_115 (by decide) (by decide) rfl dX10_sails_20 ?_
  refine im_iload_n hF dX10_sails_23 0 rfl ?_
  refine im_iload_n hF dX10_sails_24 3 rfl ?_
  refine im_aload_n hF dX10_sails_25 1 rfl ?_
  refine im_get hF (v := .ref (g.2.1 81 0)) fl_10_127 (by decide) (by decide) rfl dX10_sails_26 ?_
  refine im_iload_n hF dX10_sails_29 2 rfl ?_
  refine im_iald hF ar_81 (by decide) dX10_sails_30 (fun h5 => ?_)
  refine im_isub hF dX10_sails_31 ?_
  refine im_iast hF ar_77 (by decide) dX10_sails_32 (fun h6 => im_bdS (fun s7 => ?_))
  refine im_aload_n hF dX10_sails_33 1 rfl ?_
  refine im_get hF (v := .ref (g.2.1 83 0)) fl_10_133 (by decide) (by decide) rfl dX10_sails_34 ?_
  refine im_iload_n hF dX10_sails_37 2 rfl ?_
  refine im_iconst hF dX10_sails_38 (v := (1 : Int32)) (by decide) ?_
  refine im_zast hF ar_83 (by decide) dX10_sails_39 (fun h8 => im_bdS (fun s9 => ?_))
  refine im_aload_n hF dX10_sails_40 1 rfl ?_
  refine im_get hF (v := .ref (g.2.1 49 0)) fl_10_25 (by decide) (by decide) rfl dX10_sails_41 ?_
  refine im_iload_n hF dX10_sails_44 2 rfl ?_
  refine im_iald hF ar_49 (by decide) dX10_sails_45 (fun h10 => ?_)
  refine im_bipush hF dX10_sails_46 (v := (100 : Int32)) (by decide) ?_
  refine im_aload_n hF dX10_sails_48 1 rfl ?_
  refine im_iload_n hF dX10_sails_49 2 rfl ?_
  refine im_aload_n hF dX10_sails_50 1 rfl ?_
  refine im_get hF (v := .ref (g.2.1 80 0)) fl_10_124 (by decide) (by decide) rfl dX10_sails_51 ?_
  refine im_iload_n hF dX10_sails_54 2 rfl ?_
  refine im_iald hF ar_80 (by decide) dX10_sails_55 (fun h11 => ?_)
  refine im_iload_n hF dX10_sails_56 3 rfl ?_
  refine im_callVI hF (As := [.int a1, .int (s9 80 0 a1.toNatClampNeg), .int a2]) (rest := [.int (100 : Int32), .int (s9 49 0 a1.toNatClampNeg)]) my_X10_windIn mv_X10_windIn wl_1078 (fun l r hr => c_X10_windIn l g hI a1 (s9 80 0 a1.toNatClampNeg) a2 s9 r hr) ⟨by decide, by decide⟩ (by decide) (by decide) ⟨_, rfl, rfl⟩ rfl rfl (Nat.le_of_ble_eq_true rfl) dX10_sails_57 (fun q12 => ?_)
  refine im_iadd hF dX10_sails_60 ?_
  refine im_imul hF dX10_sails_61 ?_
  refine im_bdI (fun x13 => ?_)
  refine im_istore hF dX10_sails_62 (lv' := [(4, .int x13), (3, .int x2), (0, .ref (g.2.1 10 0)), (1, .int a1), (2, .int a2)]) (by decide) rfl ?_
  refine im_aload_n hF dX10_sails_64 2 rfl ?_
  refine im_get hF (v := .ref (g.2.1 82 0)) fl_10_130 (by decide) (by decide) rfl dX10_sails_65 ?_
  refine im_iload_n hF dX10_sails_68 3 rfl ?_
  refine im_iload_n hF dX10_sails_69 4 rfl ?_
  refine im_bipush hF dX10_sails_70 (v := (100 : Int32)) (by decide) ?_
  refine im_aload_n hF dX10_sails_72 2 rfl ?_
  refine im_get hF (v := .ref (g.2.1 46 0)) fl_10_16 (by decide) (by decide) rfl dX10_sails_73 ?_
  refine im_aload_n hF dX10_sails_76 2 rfl ?_
  refine im_get hF (v := .ref (g.2.1 53 0)) fl_10_37 (by decide) (by decide) rfl dX10_sails_77 ?_
  refine im_bipush hF dX10_sails_80 (v := (6 : Int32)) (by decide) ?_
  refine im_iload_n hF dX10_sails_82 3 rfl ?_
  refine im_imul hF dX10_sails_83 ?_
  refine im_aload_n hF dX10_sails_84 2 rfl ?_
  refine im_get hF (v := .ref (g.2.1 80 0)) fl_10_124 (by decide) (by decide) rfl dX10_sails_85 ?_
  refine im_iload_n hF dX10_sails_88 3 rfl ?_
  refine im_iald hF ar_80 (by decide) dX10_sails_89 (fun h14 => ?_)
  refine im_iadd hF dX10_sails_90 ?_
  refine im_iald hF ar_53 (by decide) dX10_sails_91 (fun h15 => ?_)
  refine im_iald hF ar_46 (by decide) dX10_sails_92 (fun h16 => ?_)
  refine im_imul hF dX10_sails_93 ?_
  refine im_iload hF dX10_sails_94 0 rfl ?_
  refine im_callSI hF (As := [.int ((100 : Int32) * (q12.2 46 0 (q12.2 53 0 (((6 : Int32) * a1) + (q12.2 80 0 a1.toNatClampNeg)).toNatClampNeg).toNatClampNeg)), .int x13]) (rest := [.int a2, .int a1, .ref (g.2.1 82 0)]) my_X10_up ms_X10_up wl_1059 (fun l r hr => c_X10_up l g hI ((100 : Int32) * (q12.2 46 0 (q12.2 53 0 (((6 : Int32) * a1) + (q12.2 80 0 a1.toNatClampNeg)).toNatClampNeg).toNatClampNeg)) x13 q12.2 r hr) ⟨by decide, by decide⟩ rfl rfl (Nat.le_of_ble_eq_true rfl) dX10_sails_96 (fun q17 => ?_)
  refine im_iadd hF dX10_sails_99 ?_
  refine im_aload_n hF dX10_sails_100 2 rfl ?_
  refine im_get hF (v := .ref (g.2.1 54 0)) fl_10_40 (by decide) (by decide) rfl dX10_sails_101 ?_
  refine im_bipush hF dX10_sails_104 (v := (6 : Int32)) (by decide) ?_
  refine im_iload_n hF dX10_sails_106 3 rfl ?_
  refine im_imul hF dX10_sails_107 ?_
  refine im_aload_n hF dX10_sails_108 2 rfl ?_
  refine im_get hF (v := .ref (g.2.1 80 0)) fl_10_124 (by decide) (by decide) rfl dX10_sails_109 ?_
  refine im_iload_n hF dX10_sails_112 3 rfl ?_
  refine im_iald hF ar_80 (by decide) dX10_sails_113 (fun h18 => ?_)
  refine im_iadd hF dX10_sails_114 ?_
  refine im_iald hF ar_54 (by decide) dX10_sails_115 (fun h19 => ?_)
  refine im_iadd hF dX10_sails_116 ?_
  refine im_iast hF ar_82 (by decide) dX10_sails_117 (fun h20 => im_bdS (fun s21 => ?_))
  exact im_vret hF hM dX10_sails_118
theorem c_X10_sails (l : Launch) (g : GT) (hI : GI g) (a1 : Int32) (a2 : Int32) (s0 : Sg) (r : Sg) (hr : f_X10_sails a1 a2 s0 = some r) : Ct l yX10_sails cX10_sails 5 none 2 43 g [.ref (g.2.1 10 0), .int a1, .int a2] s0 (embV r) := ct_of (by decide) hI (Nat.le_of_ble_eq_true rfl) (fun X hF hM => i_X10_sails X g hF hM hI a1 a2 s0) r hr
def f_X10_runs_B95 (k95 : Int32 → Int32 → Int32 → Int32 → Sg → Option Sg) (k51 : Int32 → Int32 → Sg → Option Sg) (a1 : Int32) (a2 : Int32) (a3 : Int32) (a4 : Int32) (s0 : Sg) : Option Sg :=
  if (4 : Int32) ≤ a4 then
  k51 a1 (a2 + (1 : Int32)) s0
  else
  chk (gi (((4 : Int32) * a3) + a4) 280) (bdS (up3 s0 79 0 (((4 : Int32) * a3) + a4).toNatClampNeg (0 : Int32)) fun s2 =>
  k95 a1 a2 a3 (a4 + (1 : Int32)) s2)
set_option maxRecDepth 4000 in
theorem i_X10_runs_B95 (X : Cx) (g : GT) (hF : Fx X g RX10 cX10_runs 5 6 147) (hM : FM X g none) (hI : GI g) (k95 : Int32 → Int32 → Int32 → Int32 → Sg → Option Sg) (hk95 : ∀ (a1 : Int32) (a2 : Int32) (a3 : Int32) (a4 : Int32) (s0 : Sg), Im X g 5 (Qm X g embV) s0 95 [(0, .ref (g.2.1 10 0)), (1, .int a1), (2, .int a2), (3, .int a3), (4, .int a4)] [] (k95 a1 a2 a3 a4 s0)) (k51 : Int32 → Int32 → Sg → Option Sg) (hk51 : ∀ (a1 : Int32) (a2 : Int32) (s0 : Sg), Im X g 5 (Qm X g embV) s0 51 [(0, .ref (g.2.1 10 0)), (1, .int a1), (2, .int a2)] [] (k51 a1 a2 s0)) (a1 : Int32) (a2 : Int32) (a3 : Int32) (a4 : Int32) (s0 : Sg) : Im X g 5 (Qm X g embV) s0 95 [(0, .ref (g.2.1 10 0)), (1, .int a1), (2, .int a2), (3, .int a3), (4, .int a4)] [] (f_X10_runs_B95 k95 k51 a1 a2 a3 a4 s0) := by
  unfold f_X10_runs_B95
  refine im_iload hF dX10_runs_95 4 rfl ?_
  refine im_iconst hF dX10_runs_97 (v := (4 : Int32)) (by decide) ?_
  refine im_icmp_ge hF 119 dX10_runs_98 (by decide) (fun _ => ?_) (fun _ => ?_)
  · refine im_iinc hF dX10_runs_119 (v := (a2 + (1 : Int32))) (lv' := [(2, .int (a2 + (1 : Int32))), (0, .ref (g.2.1 10 0)), (1, .int a1), (3, .int a3), (4, .int a4)]) 2 rfl rfl (by decide) rfl ?_
    refine im_goto hF 51 dX10_runs_122 (by decide) ?_
    refine im_sub (lv' := [(0, .ref (g.2.1 10 0)), (1, .int a1), (2, .int (a2 + (1 : Int32)))]) [1, 2, 0] rfl ?_
    exact hk51 a1 (a2 + (1 : Int32)) s0
  · refine im_aload_n hF dX10_runs_101 0 rfl ?_
    refine im_get hF (v := .ref (g.2.1 79 0)) fl_10_121 (by decide) (by decide) rfl dX10_runs_102 ?_
    refine im_iconst hF dX10_runs_105 (v := (4 : Int32)) (by decide) ?_
    refine im_iload_n hF dX10_runs_106 3 rfl ?_
    refine im_imul hF dX10_runs_107 ?_
    refine im_iload hF dX10_runs_108 4 rfl ?_
    refine im_iadd hF dX10_runs_110 ?_
    refine im_iconst hF dX10_runs_111 (v := (0 : Int32)) (by decide) ?_
    refine im_iast hF ar_79 (by decide) dX10_runs_112 (fun h1 => im_bdS (fun s2 => ?_))
    refine im_iinc hF dX10_runs_113 (v := (a4 + (1 : Int32))) (lv' := [(4, .int (a4 + (1 : Int32))), (0, .ref (g.2.1 10 0)), (1, .int a1), (2, .int a2), (3, .int a3)]) 4 rfl rfl (by decide) rfl ?_
    refine im_goto hF 95 dX10_runs_116 (by decide) ?_
    refine im_sub (lv' := [(0, .ref (g.2.1 10 0)), (1, .int a1), (2, .int a2), (3, .int a3), (4, .int (a4 + (1 : Int32)))]) [1, 2, 3, 4, 0] rfl ?_
    exact hk95 a1 a2 a3 (a4 + (1 : Int32)) s2
def f_X10_runs_L95 (k51 : Int32 → Int32 → Sg → Option Sg) : Nat → Int32 → Int32 → Int32 → Int32 → Sg → Option Sg
  | 0 => fun _ _ _ _ _ => none
  | n + 1 => fun a1 a2 a3 a4 s0 => f_X10_runs_B95 (f_X10_runs_L95 k51 n) k51 a1 a2 a3 a4 s0
theorem i_X10_runs_L95 (X : Cx) (g : GT) (hF : Fx X g RX10 cX10_runs 5 6 147) (hM : FM X g none) (hI : GI g) (k51 : Int32 → Int32 → Sg → Option Sg) (hk51 : ∀ (a1 : Int32) (a2 : Int32) (s0 : Sg), Im X g 5 (Qm X g embV) s0 51 [(0, .ref (g.2.1 10 0)), (1, .int a1), (2, .int a2)] [] (k51 a1 a2 s0)) : ∀ (n : Nat) (a1 : Int32) (a2 : Int32) (a3 : Int32) (a4 : Int32) (s0 : Sg), Im X g 5 (Qm X g embV) s0 95 [(0, .ref (g.2.1 10 0)), (1, .int a1), (2, .int a2), (3, .int a3), (4, .int a4)] [] (f_X10_runs_L95 k51 n a1 a2 a3 a4 s0) := by
  intro n
  induction n with
  | zero => intros; exact im_none
  | succ n ih => intro a1 a2 a3 a4 s0; exact i_X10_runs_B95 X g hF hM hI (f_X10_runs_L95 k51 n) ih k51 hk51 a1 a2 a3 a4 s0
def f_X10_runs_B51 (k51 : Int32 → Int32 → Sg → Option Sg) (k15 : Int32 → Sg → Option Sg) (a1 : Int32) (a2 : Int32) (s0 : Sg) : Option Sg :=
  if (7 : Int32) ≤ a2 then
  k15 (a1 + (1 : Int32)) s0
  else
  bdI (((7 : Int32) * a1) + a2) fun x1 =>
  chk (gi x1 70) (bdS (up3 s0 75 0 x1.toNatClampNeg (-1 : Int32)) fun s3 =>
  chk (gi x1 70) (bdS (up3 s3 76 0 x1.toNatClampNeg (-1 : Int32)) fun s5 =>
  chk (gi x1 70) (bdS (up3 s5 77 0 x1.toNatClampNeg (0 : Int32)) fun s7 =>
  chk (gi x1 70) (bdS (up3 s7 78 0 x1.toNatClampNeg (0 : Int32)) fun s9 =>
  (f_X10_runs_L95 k51 FU) a1 a2 x1 (0 : Int32) s9))))
set_option maxRecDepth 4000 in
theorem i_X10_runs_B51 (X : Cx) (g : GT) (hF : Fx X g RX10 cX10_runs 5 6 147) (hM : FM X g none) (hI : GI g) (k51 : Int32 → Int32 → Sg → Option Sg) (hk51 : ∀ (a1 : Int32) (a2 : Int32) (s0 : Sg), Im X g 5 (Qm X g embV) s0 51 [(0, .ref (g.2.1 10 0)), (1, .int a1), (2, .int a2)] [] (k51 a1 a2 s0)) (k15 : Int32 → Sg → Option Sg) (hk15 : ∀ (a1 : Int32) (s0 : Sg), Im X g 5 (Qm X g embV) s0 15 [(0, .ref (g.2.1 10 0)), (1, .int a1)] [] (k15 a1 s0)) (a1 : Int32) (a2 : Int32) (s0 : Sg) : Im X g 5 (Qm X g embV) s0 51 [(0, .ref (g.2.1 10 0)), (1, .int a1), (2, .int a2)] [] (f_X10_runs_B51 k51 k15 a1 a2 s0) := by
  unfold f_X10_runs_B51
  refine im_iload_n hF dX10_runs_51 2 rfl ?_
  refine im_bipush hF dX10_runs_52 (v := (7 : Int32)) (by decide) ?_
  refine im_icmp_ge hF 125 dX10_runs_54 (by decide) (fun _ => ?_) (fun _ => ?_)
  · refine im_iinc hF dX10_runs_125 (v := (a1 + (1 : Int32))) (lv' := [(1, .int (a1 + (1 : Int32))), (0, .ref (g.2.1 10 0)), (2, .int a2)]) 1 rfl rfl (by decide) rfl ?_
    refine im_goto hF 15 dX10_runs_128 (by decide) ?_
    refine im_sub (lv' := [(0, .ref (g.2.1 10 0)), (1, .int (a1 + (1 : Int32)))]) [1, 0] rfl ?_
    exact hk15 (a1 + (1 : Int32)) s0
  · refine im_bipush hF dX10_runs_57 (v := (7 : Int32)) (by decide) ?_
    refine im_iload_n hF dX10_runs_59 1 rfl ?_
    refine im_imul hF dX10_runs_60 ?_
    refine im_iload_n hF dX10_runs_61 2 rfl ?_
    refine im_iadd hF dX10_runs_62 ?_
    refine im_bdI (fun x1 => ?_)
    refine im_istore_n hF dX10_runs_63 (lv' := [(3, .int x1), (0, .ref (g.2.1 10 0)), (1, .int a1), (2, .int a2)]) rfl (by decide) rfl ?_
    refine im_aload_n hF dX10_runs_64 1 rfl ?_
    refine im_get hF (v := .ref (g.2.1 75 0)) fl_10_109 (by decide) (by decide) rfl dX10_runs_65 ?_
    refine im_iload_n hF dX10_runs_68 0 rfl ?_
    refine im_iconst hF dX10_runs_69 (v := (-1 : Int32)) (by decide) ?_
    refine im_iast hF ar_75 (by decide) dX10_runs_70 (fun h2 => im_bdS (fun s3 => ?_))
    refine im_aload_n hF dX10_runs_71 1 rfl ?_
    refine im_get hF (v := .ref (g.2.1 76 0)) fl_10_112 (by decide) (by decide) rfl dX10_runs_72 ?_
    refine im_iload_n hF dX10_runs_75 0 rfl ?_
    refine im_iconst hF dX10_runs_76 (v := (-1 : Int32)) (by decide) ?_
    refine im_iast hF ar_76 (by decide) dX10_runs_77 (fun h4 => im_bdS (fun s5 => ?_))
    refine im_aload_n hF dX10_runs_78 1 rfl ?_
    refine im_get hF (v := .ref (g.2.1 77 0)) fl_10_115 (by decide) (by decide) rfl dX10_runs_79 ?_
    refine im_iload_n hF dX10_runs_82 0 rfl ?_
    refine im_iconst hF dX10_runs_83 (v := (0 : Int32)) (by decide) ?_
    refine im_iast hF ar_77 (by decide) dX10_runs_84 (fun h6 => im_bdS (fun s7 => ?_))
    refine im_aload_n hF dX10_runs_85 1 rfl ?_
    refine im_get hF (v := .ref (g.2.1 78 0)) fl_10_118 (by decide) (by decide) rfl dX10_runs_86 ?_
    refine im_iload_n hF dX10_runs_89 0 rfl ?_
    refine im_iconst hF dX10_runs_90 (v := (0 : Int32)) (by decide) ?_
    refine im_iast hF ar_78 (by decide) dX10_runs_91 (fun h8 => im_bdS (fun s9 => ?_))
    refine im_iconst hF dX10_runs_92 (v := (0 : Int32)) (by decide) ?_
    refine im_istore hF dX10_runs_93 (lv' := [(4, .int (0 : Int32)), (3, .int x1), (0, .ref (g.2.1 10 0)), (1, .int a1), (2, .int a2)]) (by decide) rfl ?_
    refine im_sub (lv' := [(0, .ref (g.2.1 10 0)), (1, .int a1), (2, .int a2), (3, .int x1), (4, .int (0 : Int32))]) [2, 3, 4, 1, 0] rfl ?_
    exact (i_X10_runs_L95 X g hF hM hI k51 hk51 FU) a1 a2 x1 (0 : Int32) s9
def f_X10_runs_L51 (k15 : Int32 → Sg → Option Sg) : Nat → Int32 → Int32 → Sg → Option Sg
  | 0 => fun _ _ _ => none
  | n + 1 => fun a1 a2 s0 => f_X10_runs_B51 (f_X10_runs_L51 k15 n) k15 a1 a2 s0
theorem i_X10_runs_L51 (X : Cx) (g : GT) (hF : Fx X g RX10 cX10_runs 5 6 147) (hM : FM X g none) (hI : GI g) (k15 : Int32 → Sg → Option Sg) (hk15 : ∀ (a1 : Int32) (s0 : Sg), Im X g 5 (Qm X g embV) s0 15 [(0, .ref (g.2.1 10 0)), (1, .int a1)] [] (k15 a1 s0)) : ∀ (n : Nat) (a1 : Int32) (a2 : Int32) (s0 : Sg), Im X g 5 (Qm X g embV) s0 51 [(0, .ref (g.2.1 10 0)), (1, .int a1), (2, .int a2)] [] (f_X10_runs_L51 k15 n a1 a2 s0) := by
  intro n
  induction n with
  | zero => intros; exact im_none
  | succ n ih => intro a1 a2 s0; exact i_X10_runs_B51 X g hF hM hI (f_X10_runs_L51 k15 n) ih k15 hk15 a1 a2 s0
def f_X10_runs_B15 (k15 : Int32 → Sg → Option Sg) (k133 : Int32 → Sg → Option Sg) (a1 : Int32) (s0 : Sg) : Option Sg :=
  if (s0 10 0 1) ≤ a1 then
  k133 (0 : Int32) s0
  else
  chk (gi a1 10) (bdS (up3 s0 80 0 a1.toNatClampNeg (0 : Int32)) fun s2 =>
  chk (gi a1 10) (
  chk (gi a1 10) (bdS (up3 s2 81 0 a1.toNatClampNeg (s2 51 0 a1.toNatClampNeg)) fun s5 =>
  chk (gi a1 10) (bdS (up3 s5 83 0 a1.toNatClampNeg (vp_nar .boolean (0 : Int32))) fun s7 =>
  (f_X10_runs_L51 k15 FU) a1 (0 : Int32) s7))))
set_option maxRecDepth 4000 in
theorem i_X10_runs_B15 (X : Cx) (g : GT) (hF : Fx X g RX10 cX10_runs 5 6 147) (hM : FM X g none) (hI : GI g) (k15 : Int32 → Sg → Option Sg) (hk15 : ∀ (a1 : Int32) (s0 : Sg), Im X g 5 (Qm X g embV) s0 15 [(0, .ref (g.2.1 10 0)), (1, .int a1)] [] (k15 a1 s0)) (k133 : Int32 → Sg → Option Sg) (hk133 : ∀ (a1 : Int32) (s0 : Sg), Im X g 5 (Qm X g embV) s0 133 [(0, .ref (g.2.1 10 0)), (1, .int a1)] [] (k133 a1 s0)) (a1 : Int32) (s0 : Sg) : Im X g 5 (Qm X g embV) s0 15 [(0, .ref (g.2.1 10 0)), (1, .int a1)] [] (f_X10_runs_B15 k15 k133 a1 s0) := by
  unfold f_X10_runs_B15
  refine im_iload_n hF dX10_runs_15 1 rfl ?_
  refine im_aload_n hF dX10_runs_16 0 rfl ?_
  refine im_get hF (v := .int (s0 10 0 1)) fl_10_151 (by decide) (by decide) rfl dX10_runs_17 ?_
  refine im_icmp_ge hF 131 dX10_runs_20 (by decide) (fun _ => ?_) (fun _ => ?_)
  · refine im_iconst hF dX10_runs_131 (v := (0 : Int32)) (by decide) ?_
    refine im_istore_n hF dX10_runs_132 (lv' := [(1, .int (0 : Int32)), (0, .ref (g.2.1 10 0))]) rfl (by decide) rfl ?_
    refine im_sub (lv' := [(0, .ref (g.2.1 10 0)), (1, .int (0 : Int32))]) [1, 0] rfl ?_
    exact hk133 (0 : Int32) s0
  · refine im_aload_n hF dX10_runs_23 0 rfl ?_
    refine im_get hF (v := .ref (g.2.1 80 0)) fl_10_124 (by decide) (by decide) rfl dX10_runs_24 ?_
    refine im_iload_n hF dX10_runs_27 1 rfl ?_
    refine im_iconst hF dX10_runs_28 (v := (0 : Int32)) (by decide) ?_
    refine im_iast hF ar_80 (by decide) dX10_runs_29 (fun h1 => im_bdS (fun s2 => ?_))
    refine im_aload_n hF dX10_runs_30 0 rfl ?_
    refine im_get hF (v := .ref (g.2.1 81 0)) fl_10_127 (by decide) (by decide) rfl dX10_runs_31 ?_
    refine im_iload_n hF dX10_runs_34 1 rfl ?_
    refine im_aload_n hF dX10_runs_35 0 rfl ?_
    refine im_get hF (v := .ref (g.2.1 51 0)) fl_10_31 (by decide) (by decide) rfl dX10_runs_36 ?_
    refine im_iload_n hF dX10_runs_39 1 rfl ?_
    refine im_iald hF ar_51 (by decide) dX10_runs_40 (fun h3 => ?_)
    refine im_iast hF ar_81 (by decide) dX10_runs_41 (fun h4 => im_bdS (fun s5 => ?_))
    refine im_aload_n hF dX10_runs_42 0 rfl ?_
    refine im_get hF (v := .ref (g.2.1 83 0)) fl_10_133 (by decide) (by decide) rfl dX10_runs_43 ?_
    refine im_iload_n hF dX10_runs_46 1 rfl ?_
    refine im_iconst hF dX10_runs_47 (v := (0 : Int32)) (by decide) ?_
    refine im_zast hF ar_83 (by decide) dX10_runs_48 (fun h6 => im_bdS (fun s7 => ?_))
    refine im_iconst hF dX10_runs_49 (v := (0 : Int32)) (by decide) ?_
    refine im_istore_n hF dX10_runs_50 (lv' := [(2, .int (0 : Int32)), (0, .ref (g.2.1 10 0)), (1, .int a1)]) rfl (by decide) rfl ?_
    refine im_sub (lv' := [(0, .ref (g.2.1 10 0)), (1, .int a1), (2, .int (0 : Int32))]) [1, 2, 0] rfl ?_
    exact (i_X10_runs_L51 X g hF hM hI k15 hk15 FU) a1 (0 : Int32) s7
def f_X10_runs_L15 (k133 : Int32 → Sg → Option Sg) : Nat → Int32 → Sg → Option Sg
  | 0 => fun _ _ => none
  | n + 1 => fun a1 s0 => f_X10_runs_B15 (f_X10_runs_L15 k133 n) k133 a1 s0
theorem i_X10_runs_L15 (X : Cx) (g : GT) (hF : Fx X g RX10 cX10_runs 5 6 147) (hM : FM X g none) (hI : GI g) (k133 : Int32 → Sg → Option Sg) (hk133 : ∀ (a1 : Int32) (s0 : Sg), Im X g 5 (Qm X g embV) s0 133 [(0, .ref (g.2.1 10 0)), (1, .int a1)] [] (k133 a1 s0)) : ∀ (n : Nat) (a1 : Int32) (s0 : Sg), Im X g 5 (Qm X g embV) s0 15 [(0, .ref (g.2.1 10 0)), (1, .int a1)] [] (f_X10_runs_L15 k133 n a1 s0) := by
  intro n
  induction n with
  | zero => intros; exact im_none
  | succ n ih => intro a1 s0; exact i_X10_runs_B15 X g hF hM hI (f_X10_runs_L15 k133 n) ih k133 hk133 a1 s0
def f_X10_runs_B276 (k142 : Int32 → Int32 → Sg → Option Sg) (k293 : Int32 → Int32 → Sg → Option Sg) (a1 : Int32) (a2 : Int32) (as1 : Int32) (s0 : Sg) : Option Sg :=
  chk (gi a2 10) (
  chk (gi as1 10) (bdS (up3 s0 81 0 as1.toNatClampNeg (a1 + (s0 50 0 a2.toNatClampNeg))) fun s3 =>
  k142 a1 (a2 + (1 : Int32)) s3))
set_option maxRecDepth 4000 in
theorem i_X10_runs_B276 (X : Cx) (g : GT) (hF : Fx X g RX10 cX10_runs 5 6 147) (hM : FM X g none) (hI : GI g) (k142 : Int32 → Int32 → Sg → Option Sg) (hk142 : ∀ (a1 : Int32) (a2 : Int32) (s0 : Sg), Im X g 5 (Qm X g embV) s0 142 [(0, .ref (g.2.1 10 0)), (1, .int a1), (2, .int a2)] [] (k142 a1 a2 s0)) (k293 : Int32 → Int32 → Sg → Option Sg) (hk293 : ∀ (a1 : Int32) (a2 : Int32) (s0 : Sg), Im X g 5 (Qm X g embV) s0 293 [(0, .ref (g.2.1 10 0)), (1, .int a1), (2, .int a2)] [] (k293 a1 a2 s0)) (a1 : Int32) (a2 : Int32) (as1 : Int32) (s0 : Sg) : Im X g 5 (Qm X g embV) s0 276 [(0, .ref (g.2.1 10 0)), (1, .int a1), (2, .int a2)] [.int as1, .ref (g.2.1 81 0)] (f_X10_runs_B276 k142 k293 a1 a2 as1 s0) := by
  unfold f_X10_runs_B276
  refine im_iload_n hF dX10_runs_276 1 rfl ?_
  refine im_aload_n hF dX10_runs_277 0 rfl ?_
  refine im_get hF (v := .ref (g.2.1 50 0)) fl_10_28 (by decide) (by decide) rfl dX10_runs_278 ?_
  refine im_iload_n hF dX10_runs_281 2 rfl ?_
  refine im_iald hF ar_50 (by decide) dX10_runs_282 (fun h1 => ?_)
  refine im_iadd hF dX10_runs_283 ?_
  refine im_iast hF ar_81 (by decide) dX10_runs_284 (fun h2 => im_bdS (fun s3 => ?_))
  refine im_iinc hF dX10_runs_285 (v := (a2 + (1 : Int32))) (lv' := [(2, .int (a2 + (1 : Int32))), (0, .ref (g.2.1 10 0)), (1, .int a1)]) 2 rfl rfl (by decide) rfl ?_
  refine im_goto hF 142 dX10_runs_288 (by decide) ?_
  refine im_sub (lv' := [(0, .ref (g.2.1 10 0)), (1, .int a1), (2, .int (a2 + (1 : Int32)))]) [1, 2, 0] rfl ?_
  exact hk142 a1 (a2 + (1 : Int32)) s3
def f_X10_runs_B238 (k142 : Int32 → Int32 → Sg → Option Sg) (k293 : Int32 → Int32 → Sg → Option Sg) (a1 : Int32) (a2 : Int32) (a3 : Int32) (as1 : Int32) (as2 : Int32) (s0 : Sg) : Option Sg :=
  Option.bind (f_X10_dueLeave as1 as2 s0) fun q1 =>
  chk (gi a2 10) (
  if (q1.2 52 0 a2.toNatClampNeg) ≤ a3 then
  (f_X10_runs_B276 k142 k293) a1 a2 a2 q1.2
  else
  chk (gi a2 10) (
  if q1.1 ≤ (a1 + (q1.2 50 0 a2.toNatClampNeg)) then
  (f_X10_runs_B276 k142 k293) a1 a2 a2 q1.2
  else
  chk (gi a2 10) (bdS (up3 q1.2 81 0 a2.toNatClampNeg q1.1) fun s5 =>
  k142 a1 (a2 + (1 : Int32)) s5)))
set_option maxRecDepth 4000 in
theorem i_X10_runs_B238 (X : Cx) (g : GT) (hF : Fx X g RX10 cX10_runs 5 6 147) (hM : FM X g none) (hI : GI g) (k142 : Int32 → Int32 → Sg → Option Sg) (hk142 : ∀ (a1 : Int32) (a2 : Int32) (s0 : Sg), Im X g 5 (Qm X g embV) s0 142 [(0, .ref (g.2.1 10 0)), (1, .int a1), (2, .int a2)] [] (k142 a1 a2 s0)) (k293 : Int32 → Int32 → Sg → Option Sg) (hk293 : ∀ (a1 : Int32) (a2 : Int32) (s0 : Sg), Im X g 5 (Qm X g embV) s0 293 [(0, .ref (g.2.1 10 0)), (1, .int a1), (2, .int a2)] [] (k293 a1 a2 s0)) (a1 : Int32) (a2 : Int32) (a3 : Int32) (as1 : Int32) (as2 : Int32) (s0 : Sg) : Im X g 5 (Qm X g embV) s0 238 [(0, .ref (g.2.1 10 0)), (1, .int a1), (2, .int a2), (3, .int a3)] [.int as2, .int as1, .ref (g.2.1 10 0)] (f_X10_runs_B238 k142 k293 a1 a2 a3 as1 as2 s0) := by
  unfold f_X10_runs_B238
  refine im_callVI hF (As := [.int as1, .int as2]) (rest := []) my_X10_dueLeave mv_X10_dueLeave wl_1051 (fun l r hr => c_X10_dueLeave l g hI as1 as2 s0 r hr) ⟨by decide, by decide⟩ (by decide) (by decide) ⟨_, rfl, rfl⟩ rfl rfl (Nat.le_of_ble_eq_true rfl) dX10_runs_238 (fun q1 => ?_)
  refine im_istore hF dX10_runs_241 (lv' := [(4, .int q1.1), (0, .ref (g.2.1 10 0)), (1, .int a1), (2, .int a2), (3, .int a3)]) (by decide) rfl ?_
  refine im_aload_n hF dX10_runs_243 1 rfl ?_
  refine im_get hF (v := .ref (g.2.1 81 0)) fl_10_127 (by decide) (by decide) rfl dX10_runs_244 ?_
  refine im_iload_n hF dX10_runs_247 3 rfl ?_
  refine im_iload_n hF dX10_runs_248 4 rfl ?_
  refine im_aload_n hF dX10_runs_249 1 rfl ?_
  refine im_get hF (v := .ref (g.2.1 52 0)) fl_10_34 (by decide) (by decide) rfl dX10_runs_250 ?_
  refine im_iload_n hF dX10_runs_253 3 rfl ?_
  refine im_iald hF ar_52 (by decide) dX10_runs_254 (fun h2 => ?_)
  refine im_icmp_ge hF 276 dX10_runs_255 (by decide) (fun _ => ?_) (fun _ => ?_)
  · refine im_sub (lv' := [(0, .ref (g.2.1 10 0)), (1, .int a1), (2, .int a2)]) [1, 2, 3] rfl ?_
    exact (i_X10_runs_B276 X g hF hM hI k142 hk142 k293 hk293) a1 a2 a2 q1.2
  · refine im_iload hF dX10_runs_258 0 rfl ?_
    refine im_iload_n hF dX10_runs_260 2 rfl ?_
    refine im_aload_n hF dX10_runs_261 1 rfl ?_
    refine im_get hF (v := .ref (g.2.1 50 0)) fl_10_28 (by decide) (by decide) rfl dX10_runs_262 ?_
    refine im_iload_n hF dX10_runs_265 3 rfl ?_
    refine im_iald hF ar_50 (by decide) dX10_runs_266 (fun h3 => ?_)
    refine im_iadd hF dX10_runs_267 ?_
    refine im_icmp_le hF 276 dX10_runs_268 (by decide) (fun _ => ?_) (fun _ => ?_)
    · refine im_sub (lv' := [(0, .ref (g.2.1 10 0)), (1, .int a1), (2, .int a2)]) [1, 2, 3] rfl ?_
      exact (i_X10_runs_B276 X g hF hM hI k142 hk142 k293 hk293) a1 a2 a2 q1.2
    · refine im_iload hF dX10_runs_271 0 rfl ?_
      refine im_goto hF 284 dX10_runs_273 (by decide) ?_
      refine im_iast hF ar_81 (by decide) dX10_runs_284 (fun h4 => im_bdS (fun s5 => ?_))
      refine im_iinc hF dX10_runs_285 (v := (a2 + (1 : Int32))) (lv' := [(2, .int (a2 + (1 : Int32))), (4, .int q1.1), (0, .ref (g.2.1 10 0)), (1, .int a1), (3, .int a3)]) 3 rfl rfl (by decide) rfl ?_
      refine im_goto hF 142 dX10_runs_288 (by decide) ?_
      refine im_sub (lv' := [(0, .ref (g.2.1 10 0)), (1, .int a1), (2, .int (a2 + (1 : Int32)))]) [2, 3, 0] rfl ?_
      exact hk142 a1 (a2 + (1 : Int32)) s5
def f_X10_runs_B142 (k142 : Int32 → Int32 → Sg → Option Sg) (k293 : Int32 → Int32 → Sg → Option Sg) (a1 : Int32) (a2 : Int32) (s0 : Sg) : Option Sg :=
  if (s0 10 0 1) ≤ a2 then
  k293 a1 (0 : Int32) s0
  else
  chk (gi a2 10) (
  if (s0 83 0 a2.toNatClampNeg) = 0 then
  k142 a1 (a2 + (1 : Int32)) s0
  else
  chk (gi a2 10) (
  if (s0 82 0 a2.toNatClampNeg) = a1 then
  chk (gi a2 10) (bdS (up3 s0 83 0 a2.toNatClampNeg (vp_nar .boolean (0 : Int32))) fun s4 =>
  chk (gi a2 10) (
  chk (gi a2 10) (bdS (up3 s4 80 0 a2.toNatClampNeg ((s4 80 0 a2.toNatClampNeg) + (1 : Int32))) fun s7 =>
  chk (gi a2 10) (
  bdI (s7 80 0 a2.toNatClampNeg) fun x9 =>
  chk (gi (((7 : Int32) * a2) + x9) 70) (bdS (up3 s7 75 0 (((7 : Int32) * a2) + x9).toNatClampNeg a1) fun s11 =>
  Option.bind (f_X10_sharesAt a2 x9 a1 s11) fun q12 =>
  chk (gi a2 10) (
  if (q12 52 0 a2.toNatClampNeg) ≤ x9 then
  (f_X10_runs_B238 k142 k293) a1 a2 x9 a2 (x9 - (1 : Int32)) q12
  else
  (f_X10_runs_B238 k142 k293) a1 a2 x9 a2 x9 q12))))))
  else
  k142 a1 (a2 + (1 : Int32)) s0))
set_option maxRecDepth 4000 in
theorem i_X10_runs_B142 (X : Cx) (g : GT) (hF : Fx X g RX10 cX10_runs 5 6 147) (hM : FM X g none) (hI : GI g) (k142 : Int32 → Int32 → Sg → Option Sg) (hk142 : ∀ (a1 : Int32) (a2 : Int32) (s0 : Sg), Im X g 5 (Qm X g embV) s0 142 [(0, .ref (g.2.1 10 0)), (1, .int a1), (2, .int a2)] [] (k142 a1 a2 s0)) (k293 : Int32 → Int32 → Sg → Option Sg) (hk293 : ∀ (a1 : Int32) (a2 : Int32) (s0 : Sg), Im X g 5 (Qm X g embV) s0 293 [(0, .ref (g.2.1 10 0)), (1, .int a1), (2, .int a2)] [] (k293 a1 a2 s0)) (a1 : Int32) (a2 : Int32) (s0 : Sg) : Im X g 5 (Qm X g embV) s0 142 [(0, .ref (g.2.1 10 0)), (1, .int a1), (2, .int a2)] [] (f_X10_runs_B142 k142 k293 a1 a2 s0) := by
  unfold f_X10_runs_B142
  refine im_iload_n hF dX10_runs_142 2 rfl ?_
  refine im_aload_n hF dX10_runs_143 0 rfl ?_
  refine im_get hF (v := .int (s0 10 0 1)) fl_10_151 (by decide) (by decide) rfl dX10_runs_144 ?_
  refine im_icmp_ge hF 291 dX10_runs_147 (by decide) (fun _ => ?_) (fun _ => ?_)
  · refine im_iconst hF dX10_runs_291 (v := (0 : Int32)) (by decide) ?_
    refine im_istore_n hF dX10_runs_292 (lv' := [(2, .int (0 : Int32)), (0, .ref (g.2.1 10 0)), (1, .int a1)]) rfl (by decide) rfl ?_
    refine im_sub (lv' := [(0, .ref (g.2.1 10 0)), (1, .int a1), (2, .int (0 : Int32))]) [1, 2, 0] rfl ?_
    exact hk293 a1 (0 : Int32) s0
  · refine im_aload_n hF dX10_runs_150 0 rfl ?_
    refine im_get hF (v := .ref (g.2.1 83 0)) fl_10_133 (by decide) (by decide) rfl dX10_runs_151 ?_
    refine im_iload_n hF dX10_runs_154 2 rfl ?_
    refine im_zald hF ar_83 (by decide) dX10_runs_155 (fun h1 => ?_)
    refine im_if_eq hF 285 dX10_runs_156 (by decide) (fun _ => ?_) (fun _ => ?_)
    · refine im_iinc hF dX10_runs_285 (v := (a2 + (1 : Int32))) (lv' := [(2, .int (a2 + (1 : Int32))), (0, .ref (g.2.1 10 0)), (1, .int a1)]) 2 rfl rfl (by decide) rfl ?_
      refine im_goto hF 142 dX10_runs_288 (by decide) ?_
      refine im_sub (lv' := [(0, .ref (g.2.1 10 0)), (1, .int a1), (2, .int (a2 + (1 : Int32)))]) [1, 2, 0] rfl ?_
      exact hk142 a1 (a2 + (1 : Int32)) s0
    · refine im_aload_n hF dX10_runs_159 0 rfl ?_
      refine im_get hF (v := .ref (g.2.1 82 0)) fl_10_130 (by decide) (by decide) rfl dX10_runs_160 ?_
      refine im_iload_n hF dX10_runs_163 2 rfl ?_
      refine im_iald hF ar_82 (by decide) dX10_runs_164 (fun h2 => ?_)
      refine im_iload_n hF dX10_runs_165 1 rfl ?_
      refine im_icmp_eq hF 172 dX10_runs_166 (by decide) (fun _ => ?_) (fun _ => ?_)
      · refine im_aload_n hF dX10_runs_172 0 rfl ?_
        refine im_get hF (v := .ref (g.2.1 83 0)) fl_10_133 (by decide) (by decide) rfl dX10_runs_173 ?_
        refine im_iload_n hF dX10_runs_176 2 rfl ?_
        refine im_iconst hF dX10_runs_177 (v := (0 : Int32)) (by decide) ?_
        refine im_zast hF ar_83 (by decide) dX10_runs_178 (fun h3 => im_bdS (fun s4 => ?_))
        refine im_aload_n hF dX10_runs_179 0 rfl ?_
        refine im_get hF (v := .ref (g.2.1 80 0)) fl_10_124 (by decide) (by decide) rfl dX10_runs_180 ?_
        refine im_iload_n hF dX10_runs_183 2 rfl ?_
        refine im_aload_n hF dX10_runs_184 0 rfl ?_
        refine im_get hF (v := .ref (g.2.1 80 0)) fl_10_124 (by decide) (by decide) rfl dX10_runs_185 ?_
        refine im_iload_n hF dX10_runs_188 2 rfl ?_
        refine im_iald hF ar_80 (by decide) dX10_runs_189 (fun h5 => ?_)
        refine im_iconst hF dX10_runs_190 (v := (1 : Int32)) (by decide) ?_
        refine im_iadd hF dX10_runs_191 ?_
        refine im_iast hF ar_80 (by decide) dX10_runs_192 (fun h6 => im_bdS (fun s7 => ?_))
        refine im_aload_n hF dX10_runs_193 0 rfl ?_
        refine im_get hF (v := .ref (g.2.1 80 0)) fl_10_124 (by decide) (by decide) rfl dX10_runs_194 ?_
        refine im_iload_n hF dX10_runs_197 2 rfl ?_
        refine im_iald hF ar_80 (by decide) dX10_runs_198 (fun h8 => ?_)
        refine im_bdI (fun x9 => ?_)
        refine im_istore_n hF dX10_runs_199 (lv' := [(3, .int x9), (0, .ref (g.2.1 10 0)), (1, .int a1), (2, .int a2)]) rfl (by decide) rfl ?_
        refine im_aload_n hF dX10_runs_200 1 rfl ?_
        refine im_get hF (v := .ref (g.2.1 75 0)) fl_10_109 (by decide) (by decide) rfl dX10_runs_201 ?_
        refine im_bipush hF dX10_runs_204 (v := (7 : Int32)) (by decide) ?_
        refine im_iload_n hF dX10_runs_206 3 rfl ?_
        refine im_imul hF dX10_runs_207 ?_
        refine im_iload_n hF dX10_runs_208 0 rfl ?_
        refine im_iadd hF dX10_runs_209 ?_
        refine im_iload_n hF dX10_runs_210 2 rfl ?_
        refine im_iast hF ar_75 (by decide) dX10_runs_211 (fun h10 => im_bdS (fun s11 => ?_))
        refine im_aload_n hF dX10_runs_212 1 rfl ?_
        refine im_iload_n hF dX10_runs_213 3 rfl ?_
        refine im_iload_n hF dX10_runs_214 0 rfl ?_
        refine im_iload_n hF dX10_runs_215 2 rfl ?_
        refine im_callVV hF (As := [.int a2, .int x9, .int a1]) (rest := []) my_X10_sharesAt mv_X10_sharesAt wl_1070 (fun l r hr => c_X10_sharesAt l g hI a2 x9 a1 s11 r hr) ⟨by decide, by decide⟩ (by decide) (by decide) ⟨_, rfl, rfl⟩ rfl rfl (Nat.le_of_ble_eq_true rfl) dX10_runs_216 (fun q12 => ?_)
        refine im_aload_n hF dX10_runs_219 1 rfl ?_
        refine im_iload_n hF dX10_runs_220 3 rfl ?_
        refine im_iload_n hF dX10_runs_221 0 rfl ?_
        refine im_aload_n hF dX10_runs_222 1 rfl ?_
        refine im_get hF (v := .ref (g.2.1 52 0)) fl_10_34 (by decide) (by decide) rfl dX10_runs_223 ?_
        refine im_iload_n hF dX10_runs_226 3 rfl ?_
        refine im_iald hF ar_52 (by decide) dX10_runs_227 (fun h13 => ?_)
        refine im_icmp_ge hF 235 dX10_runs_228 (by decide) (fun _ => ?_) (fun _ => ?_)
        · refine im_iload_n hF dX10_runs_235 0 rfl ?_
          refine im_iconst hF dX10_runs_236 (v := (1 : Int32)) (by decide) ?_
          refine im_isub hF dX10_runs_237 ?_
          refine im_sub (lv' := [(0, .ref (g.2.1 10 0)), (1, .int a1), (2, .int a2), (3, .int x9)]) [1, 2, 3, 0] rfl ?_
          exact (i_X10_runs_B238 X g hF hM hI k142 hk142 k293 hk293) a1 a2 x9 a2 (x9 - (1 : Int32)) q12
        · refine im_iload_n hF dX10_runs_231 0 rfl ?_
          refine im_goto hF 238 dX10_runs_232 (by decide) ?_
          refine im_sub (lv' := [(0, .ref (g.2.1 10 0)), (1, .int a1), (2, .int a2), (3, .int x9)]) [1, 2, 3, 0] rfl ?_
          exact (i_X10_runs_B238 X g hF hM hI k142 hk142 k293 hk293) a1 a2 x9 a2 x9 q12
      · refine im_goto hF 285 dX10_runs_169 (by decide) ?_
        refine im_iinc hF dX10_runs_285 (v := (a2 + (1 : Int32))) (lv' := [(2, .int (a2 + (1 : Int32))), (0, .ref (g.2.1 10 0)), (1, .int a1)]) 2 rfl rfl (by decide) rfl ?_
        refine im_goto hF 142 dX10_runs_288 (by decide) ?_
        refine im_sub (lv' := [(0, .ref (g.2.1 10 0)), (1, .int a1), (2, .int (a2 + (1 : Int32)))]) [1, 2, 0] rfl ?_
        exact hk142 a1 (a2 + (1 : Int32)) s0
def f_X10_runs_L142 (k293 : Int32 → Int32 → Sg → Option Sg) : Nat → Int32 → Int32 → Sg → Option Sg
  | 0 => fun _ _ _ => none
  | n + 1 => fun a1 a2 s0 => f_X10_runs_B142 (f_X10_runs_L142 k293 n) k293 a1 a2 s0
theorem i_X10_runs_L142 (X : Cx) (g : GT) (hF : Fx X g RX10 cX10_runs 5 6 147) (hM : FM X g none) (hI : GI g) (k293 : Int32 → Int32 → Sg → Option Sg) (hk293 : ∀ (a1 : Int32) (a2 : Int32) (s0 : Sg), Im X g 5 (Qm X g embV) s0 293 [(0, .ref (g.2.1 10 0)), (1, .int a1), (2, .int a2)] [] (k293 a1 a2 s0)) : ∀ (n : Nat) (a1 : Int32) (a2 : Int32) (s0 : Sg), Im X g 5 (Qm X g embV) s0 142 [(0, .ref (g.2.1 10 0)), (1, .int a1), (2, .int a2)] [] (f_X10_runs_L142 k293 n a1 a2 s0) := by
  intro n
  induction n with
  | zero => intros; exact im_none
  | succ n ih => intro a1 a2 s0; exact i_X10_runs_B142 X g hF hM hI (f_X10_runs_L142 k293 n) ih k293 hk293 a1 a2 s0
def f_X10_runs_B293 (k293 : Int32 → Int32 → Sg → Option Sg) (k133 : Int32 → Sg → Option Sg) (a1 : Int32) (a2 : Int32) (s0 : Sg) : Option Sg :=
  if (s0 10 0 1) ≤ a2 then
  k133 (a1 + (1 : Int32)) s0
  else
  chk (gi a2 10) (
  if (s0 83 0 a2.toNatClampNeg) = 0 then
  chk (gi a2 10) (
  chk (gi a2 10) (
  if (s0 52 0 a2.toNatClampNeg) ≤ (s0 80 0 a2.toNatClampNeg) then
  k293 a1 (a2 + (1 : Int32)) s0
  else
  chk (gi a2 10) (
  if a1 < (s0 81 0 a2.toNatClampNeg) then
  k293 a1 (a2 + (1 : Int32)) s0
  else
  Option.bind (f_X10_waits a2 a1 s0) fun q5 =>
  if q5.1 = 0 then
  Option.bind (f_X10_sails a2 a1 q5.2) fun q6 =>
  k293 a1 (a2 + (1 : Int32)) q6
  else
  k293 a1 (a2 + (1 : Int32)) q5.2)))
  else
  k293 a1 (a2 + (1 : Int32)) s0)
set_option maxRecDepth 4000 in
theorem i_X10_runs_B293 (X : Cx) (g : GT) (hF : Fx X g RX10 cX10_runs 5 6 147) (hM : FM X g none) (hI : GI g) (k293 : Int32 → Int32 → Sg → Option Sg) (hk293 : ∀ (a1 : Int32) (a2 : Int32) (s0 : Sg), Im X g 5 (Qm X g embV) s0 293 [(0, .ref (g.2.1 10 0)), (1, .int a1), (2, .int a2)] [] (k293 a1 a2 s0)) (k133 : Int32 → Sg → Option Sg) (hk133 : ∀ (a1 : Int32) (s0 : Sg), Im X g 5 (Qm X g embV) s0 133 [(0, .ref (g.2.1 10 0)), (1, .int a1)] [] (k133 a1 s0)) (a1 : Int32) (a2 : Int32) (s0 : Sg) : Im X g 5 (Qm X g embV) s0 293 [(0, .ref (g.2.1 10 0)), (1, .int a1), (2, .int a2)] [] (f_X10_runs_B293 k293 k133 a1 a2 s0) := by
  unfold f_X10_runs_B293
  refine im_iload_n hF dX10_runs_293 2 rfl ?_
  refine im_aload_n hF dX10_runs_294 0 rfl ?_
  refine im_get hF (v := .int (s0 10 0 1)) fl_10_151 (by decide) (by decide) rfl dX10_runs_295 ?_
  refine im_icmp_ge hF 356 dX10_runs_298 (by decide) (fun _ => ?_) (fun _ => ?_)
  · refine im_iinc hF dX10_runs_356 (v := (a1 + (1 : Int32))) (lv' := [(1, .int (a1 + (1 : Int32))), (0, .ref (g.2.1 10 0)), (2, .int a2)]) 1 rfl rfl (by decide) rfl ?_
    refine im_goto hF 133 dX10_runs_359 (by decide) ?_
    refine im_sub (lv' := [(0, .ref (g.2.1 10 0)), (1, .int (a1 + (1 : Int32)))]) [1, 0] rfl ?_
    exact hk133 (a1 + (1 : Int32)) s0
  · refine im_aload_n hF dX10_runs_301 0 rfl ?_
    refine im_get hF (v := .ref (g.2.1 83 0)) fl_10_133 (by decide) (by decide) rfl dX10_runs_302 ?_
    refine im_iload_n hF dX10_runs_305 2 rfl ?_
    refine im_zald hF ar_83 (by decide) dX10_runs_306 (fun h1 => ?_)
    refine im_if_ne hF 350 dX10_runs_307 (by decide) (fun _ => ?_) (fun _ => ?_)
    · refine im_aload_n hF dX10_runs_310 0 rfl ?_
      refine im_get hF (v := .ref (g.2.1 80 0)) fl_10_124 (by decide) (by decide) rfl dX10_runs_311 ?_
      refine im_iload_n hF dX10_runs_314 2 rfl ?_
      refine im_iald hF ar_80 (by decide) dX10_runs_315 (fun h2 => ?_)
      refine im_aload_n hF dX10_runs_316 0 rfl ?_
      refine im_get hF (v := .ref (g.2.1 52 0)) fl_10_34 (by decide) (by decide) rfl dX10_runs_317 ?_
      refine im_iload_n hF dX10_runs_320 2 rfl ?_
      refine im_iald hF ar_52 (by decide) dX10_runs_321 (fun h3 => ?_)
      refine im_icmp_ge hF 350 dX10_runs_322 (by decide) (fun _ => ?_) (fun _ => ?_)
      · refine im_iinc hF dX10_runs_350 (v := (a2 + (1 : Int32))) (lv' := [(2, .int (a2 + (1 : Int32))), (0, .ref (g.2.1 10 0)), (1, .int a1)]) 2 rfl rfl (by decide) rfl ?_
        refine im_goto hF 293 dX10_runs_353 (by decide) ?_
        refine im_sub (lv' := [(0, .ref (g.2.1 10 0)), (1, .int a1), (2, .int (a2 + (1 : Int32)))]) [1, 2, 0] rfl ?_
        exact hk293 a1 (a2 + (1 : Int32)) s0
      · refine im_iload_n hF dX10_runs_325 1 rfl ?_
        refine im_aload_n hF dX10_runs_326 0 rfl ?_
        refine im_get hF (v := .ref (g.2.1 81 0)) fl_10_127 (by decide) (by decide) rfl dX10_runs_327 ?_
        refine im_iload_n hF dX10_runs_330 2 rfl ?_
        refine im_iald hF ar_81 (by decide) dX10_runs_331 (fun h4 => ?_)
        refine im_icmp_lt hF 350 dX10_runs_332 (by decide) (fun _ => ?_) (fun _ => ?_)
        · refine im_iinc hF dX10_runs_350 (v := (a2 + (1 : Int32))) (lv' := [(2, .int (a2 + (1 : Int32))), (0, .ref (g.2.1 10 0)), (1, .int a1)]) 2 rfl rfl (by decide) rfl ?_
          refine im_goto hF 293 dX10_runs_353 (by decide) ?_
          refine im_sub (lv' := [(0, .ref (g.2.1 10 0)), (1, .int a1), (2, .int (a2 + (1 : Int32)))]) [1, 2, 0] rfl ?_
          exact hk293 a1 (a2 + (1 : Int32)) s0
        · refine im_aload_n hF dX10_runs_335 0 rfl ?_
          refine im_iload_n hF dX10_runs_336 2 rfl ?_
          refine im_iload_n hF dX10_runs_337 1 rfl ?_
          refine im_callVI hF (As := [.int a2, .int a1]) (rest := []) my_X10_waits mv_X10_waits wl_1089 (fun l r hr => c_X10_waits l g hI a2 a1 s0 r hr) ⟨by decide, by decide⟩ (by decide) (by decide) ⟨_, rfl, rfl⟩ rfl rfl (Nat.le_of_ble_eq_true rfl) dX10_runs_338 (fun q5 => ?_)
          refine im_if_ne hF 350 dX10_runs_341 (by decide) (fun _ => ?_) (fun _ => ?_)
          · refine im_aload_n hF dX10_runs_344 0 rfl ?_
            refine im_iload_n hF dX10_runs_345 2 rfl ?_
            refine im_iload_n hF dX10_runs_346 1 rfl ?_
            refine im_callVV hF (As := [.int a2, .int a1]) (rest := []) my_X10_sails mv_X10_sails wl_1093 (fun l r hr => c_X10_sails l g hI a2 a1 q5.2 r hr) ⟨by decide, by decide⟩ (by decide) (by decide) ⟨_, rfl, rfl⟩ rfl rfl (Nat.le_of_ble_eq_true rfl) dX10_runs_347 (fun q6 => ?_)
            refine im_iinc hF dX10_runs_350 (v := (a2 + (1 : Int32))) (lv' := [(2, .int (a2 + (1 : Int32))), (0, .ref (g.2.1 10 0)), (1, .int a1)]) 2 rfl rfl (by decide) rfl ?_
            refine im_goto hF 293 dX10_runs_353 (by decide) ?_
            refine im_sub (lv' := [(0, .ref (g.2.1 10 0)), (1, .int a1), (2, .int (a2 + (1 : Int32)))]) [1, 2, 0] rfl ?_
            exact hk293 a1 (a2 + (1 : Int32)) q6
          · refine im_iinc hF dX10_runs_350 (v := (a2 + (1 : Int32))) (lv' := [(2, .int (a2 + (1 : Int32))), (0, .ref (g.2.1 10 0)), (1, .int a1)]) 2 rfl rfl (by decide) rfl ?_
            refine im_goto hF 293 dX10_runs_353 (by decide) ?_
            refine im_sub (lv' := [(0, .ref (g.2.1 10 0)), (1, .int a1), (2, .int (a2 + (1 : Int32)))]) [1, 2, 0] rfl ?_
            exact hk293 a1 (a2 + (1 : Int32)) q5.2
    · refine im_iinc hF dX10_runs_350 (v := (a2 + (1 : Int32))) (lv' := [(2, .int (a2 + (1 : Int32))), (0, .ref (g.2.1 10 0)), (1, .int a1)]) 2 rfl rfl (by decide) rfl ?_
      refine im_goto hF 293 dX10_runs_353 (by decide) ?_
      refine im_sub (lv' := [(0, .ref (g.2.1 10 0)), (1, .int a1), (2, .int (a2 + (1 : Int32)))]) [1, 2, 0] rfl ?_
      exact hk293 a1 (a2 + (1 : Int32)) s0
def f_X10_runs_L293 (k133 : Int32 → Sg → Option Sg) : Nat → Int32 → Int32 → Sg → Option Sg
  | 0 => fun _ _ _ => none
  | n + 1 => fun a1 a2 s0 => f_X10_runs_B293 (f_X10_runs_L293 k133 n) k133 a1 a2 s0
theorem i_X10_runs_L293 (X : Cx) (g : GT) (hF : Fx X g RX10 cX10_runs 5 6 147) (hM : FM X g none) (hI : GI g) (k133 : Int32 → Sg → Option Sg) (hk133 : ∀ (a1 : Int32) (s0 : Sg), Im X g 5 (Qm X g embV) s0 133 [(0, .ref (g.2.1 10 0)), (1, .int a1)] [] (k133 a1 s0)) : ∀ (n : Nat) (a1 : Int32) (a2 : Int32) (s0 : Sg), Im X g 5 (Qm X g embV) s0 293 [(0, .ref (g.2.1 10 0)), (1, .int a1), (2, .int a2)] [] (f_X10_runs_L293 k133 n a1 a2 s0) := by
  intro n
  induction n with
  | zero => intros; exact im_none
  | succ n ih => intro a1 a2 s0; exact i_X10_runs_B293 X g hF hM hI (f_X10_runs_L293 k133 n) ih k133 hk133 a1 a2 s0
def f_X10_runs_B133 (k133 : Int32 → Sg → Option Sg) (a1 : Int32) (s0 : Sg) : Option Sg :=
  if (20000 : Int32) < a1 then
  some s0
  else
  (f_X10_runs_L142 (f_X10_runs_L293 k133 FU) FU) a1 (0 : Int32) s0
set_option maxRecDepth 4000 in
theorem i_X10_runs_B133 (X : Cx) (g : GT) (hF : Fx X g RX10 cX10_runs 5 6 147) (hM : FM X g none) (hI : GI g) (k133 : Int32 → Sg → Option Sg) (hk133 : ∀ (a1 : Int32) (s0 : Sg), Im X g 5 (Qm X g embV) s0 133 [(0, .ref (g.2.1 10 0)), (1, .int a1)] [] (k133 a1 s0)) (a1 : Int32) (s0 : Sg) : Im X g 5 (Qm X g embV) s0 133 [(0, .ref (g.2.1 10 0)), (1, .int a1)] [] (f_X10_runs_B133 k133 a1 s0) := by
  unfold f_X10_runs_B133
  refine im_iload_n hF dX10_runs_133 1 rfl ?_
  refine im_sipush hF dX10_runs_134 (v := (20000 : Int32)) (by decide) ?_
  refine im_icmp_gt hF 362 dX10_runs_137 (by decide) (fun _ => ?_) (fun _ => ?_)
  · exact im_vret hF hM dX10_runs_362
  · refine im_iconst hF dX10_runs_140 (v := (0 : Int32)) (by decide) ?_
    refine im_istore_n hF dX10_runs_141 (lv' := [(2, .int (0 : Int32)), (0, .ref (g.2.1 10 0)), (1, .int a1)]) rfl (by decide) rfl ?_
    refine im_sub (lv' := [(0, .ref (g.2.1 10 0)), (1, .int a1), (2, .int (0 : Int32))]) [1, 2, 0] rfl ?_
    exact (i_X10_runs_L142 X g hF hM hI (f_X10_runs_L293 k133 FU) (i_X10_runs_L293 X g hF hM hI k133 hk133 FU) FU) a1 (0 : Int32) s0
def f_X10_runs_L133 : Nat → Int32 → Sg → Option Sg
  | 0 => fun _ _ => none
  | n + 1 => fun a1 s0 => f_X10_runs_B133 (f_X10_runs_L133 n) a1 s0
theorem i_X10_runs_L133 (X : Cx) (g : GT) (hF : Fx X g RX10 cX10_runs 5 6 147) (hM : FM X g none) (hI : GI g) : ∀ (n : Nat) (a1 : Int32) (s0 : Sg), Im X g 5 (Qm X g embV) s0 133 [(0, .ref (g.2.1 10 0)), (1, .int a1)] [] (f_X10_runs_L133 n a1 s0) := by
  intro n
  induction n with
  | zero => intros; exact im_none
  | succ n ih => intro a1 s0; exact i_X10_runs_B133 X g hF hM hI (f_X10_runs_L133 n) ih a1 s0
def f_X10_runs (s0 : Sg) : Option Sg :=
  if (s0 10 0 19) = 0 then
  bdS (up3 s0 10 0 19 (1 : Int32)) fun s1 =>
  (f_X10_runs_L15 (f_X10_runs_L133 FU) FU) (0 : Int32) s1
  else
  some s0
set_option maxRecDepth 4000 in
theorem i_X10_runs (X : Cx) (g : GT) (hF : Fx X g RX10 cX10_runs 5 6 147) (hM : FM X g none) (hI : GI g) (s0 : Sg) : Im X g 5 (Qm X g embV) s0 0 [(0, .ref (g.2.1 10 0))] [] (f_X10_runs s0) := by
  unfold f_X10_runs
  refine im_aload_n hF dX10_runs_0 0 rfl ?_
  refine im_get hF (v := .int (s0 10 0 19)) fl_10_165 (by decide) (by decide) rfl dX10_runs_1 ?_
  refine im_if_eq hF 8 dX10_runs_4 (by decide) (fun _ => ?_) (fun _ => ?_)
  · refine im_aload_n hF dX10_runs_8 0 rfl ?_
    refine im_iconst hF dX10_runs_9 (v := (1 : Int32)) (by decide) ?_
    refine im_put hF (1 : Int32) fp_10_165 (by decide) (by decide) rfl rfl rfl dX10_runs_10 ?_
    refine im_bdS (fun s1 => ?_)
    refine im_iconst hF dX10_runs_13 (v := (0 : Int32)) (by decide) ?_
    refine im_istore_n hF dX10_runs_14 (lv' := [(1, .int (0 : Int32)), (0, .ref (g.2.1 10 0))]) rfl (by decide) rfl ?_
    refine im_sub (lv' := [(0, .ref (g.2.1 10 0)), (1, .int (0 : Int32))]) [1, 0] rfl ?_
    exact (i_X10_runs_L15 X g hF hM hI (f_X10_runs_L133 FU) (i_X10_runs_L133 X g hF hM hI FU) FU) (0 : Int32) s1
  · exact im_vret hF hM dX10_runs_7
theorem c_X10_runs (l : Launch) (g : GT) (hI : GI g) (s0 : Sg) (r : Sg) (hr : f_X10_runs s0 = some r) : Ct l yX10_runs cX10_runs 5 none 6 147 g [.ref (g.2.1 10 0)] s0 (embV r) := ct_of (by decide) hI (Nat.le_of_ble_eq_true rfl) (fun X hF hM => i_X10_runs X g hF hM hI s0) r hr
def f_X10_truth (a1 : Int32) (a2 : Int32) (a3 : Int32) (s0 : Sg) : Option (Int32 × Sg) :=
  Option.bind (f_X10_isVoyage a1 s0) fun q1 =>
  if q1.1 = 0 then
  some ((-1 : Int32), q1.2)
  else
  if a2 < 0 then
  some ((-1 : Int32), q1.2)
  else
  chk (gi a1 10) (
  if a2 ≤ (q1.2 52 0 a1.toNatClampNeg) then
  Option.bind (f_X10_runs q1.2) fun q3 =>
  bdI (((7 : Int32) * a1) + a2) fun x4 =>
  if a3 = (0 : Int32) then
  chk (gi x4 70) (
  some ((q3 75 0 x4.toNatClampNeg), q3))
  else
  if a3 = (1 : Int32) then
  chk (gi x4 70) (
  some ((q3 76 0 x4.toNatClampNeg), q3))
  else
  if a3 = (2 : Int32) then
  chk (gi x4 70) (
  if (q3 76 0 x4.toNatClampNeg) = (-1 : Int32) then
  some ((-1 : Int32), q3)
  else
  chk (gi x4 70) (
  some ((q3 77 0 x4.toNatClampNeg), q3)))
  else
  if a3 = (3 : Int32) then
  chk (gi x4 70) (
  if (q3 75 0 x4.toNatClampNeg) = (-1 : Int32) then
  some ((-1 : Int32), q3)
  else
  chk (gi x4 70) (
  Option.bind (f_X10_dueCome a1 a2 q3) fun q15 =>
  if (q3 75 0 x4.toNatClampNeg) ≤ q15.1 then
  some ((0 : Int32), q15.2)
  else
  chk (gi x4 70) (
  Option.bind (f_X10_dueCome a1 a2 q15.2) fun q17 =>
  some (((q15.2 75 0 x4.toNatClampNeg) - q17.1), q17.2))))
  else
  some ((-1 : Int32), q3)
  else
  some ((-1 : Int32), q1.2))
set_option maxRecDepth 4000 in
theorem i_X10_truth (X : Cx) (g : GT) (hF : Fx X g RX10 cX10_truth 5 7 171) (hM : FM X g (some .int)) (hI : GI g) (a1 : Int32) (a2 : Int32) (a3 : Int32) (s0 : Sg) : Im X g 5 (Qm X g embI) s0 0 [(0, .ref (g.2.1 10 0)), (1, .int a1), (2, .int a2), (3, .int a3)] [] (f_X10_truth a1 a2 a3 s0) := by
  unfold f_X10_truth
  refine im_aload_n hF dX10_truth_0 0 rfl ?_
  refine im_iload_n hF dX10_truth_1 1 rfl ?_
  refine im_callVI hF (As := [.int a1]) (rest := []) my_X10_isVoyage mv_X10_isVoyage wl_956 (fun l r hr => c_X10_isVoyage l g hI a1 s0 r hr) ⟨by decide, by decide⟩ (by decide) (by decide) ⟨_, rfl, rfl⟩ rfl rfl (Nat.le_of_ble_eq_true rfl) dX10_truth_2 (fun q1 => ?_)
  refine im_if_eq hF 22 dX10_truth_5 (by decide) (fun _ => ?_) (fun _ => ?_)
  · refine im_iconst hF dX10_truth_22 (v := (-1 : Int32)) (by decide) ?_
    exact im_iret hF hM dX10_truth_23
  · refine im_iload_n hF dX10_truth_8 2 rfl ?_
    refine im_if_lt hF 22 dX10_truth_9 (by decide) (fun _ => ?_) (fun _ => ?_)
    · refine im_iconst hF dX10_truth_22 (v := (-1 : Int32)) (by decide) ?_
      exact im_iret hF hM dX10_truth_23
    · refine im_iload_n hF dX10_truth_12 2 rfl ?_
      refine im_aload_n hF dX10_truth_13 0 rfl ?_
      refine im_get hF (v := .ref (g.2.1 52 0)) fl_10_34 (by decide) (by decide) rfl dX10_truth_14 ?_
      refine im_iload_n hF dX10_truth_17 1 rfl ?_
      refine im_iald hF ar_52 (by decide) dX10_truth_18 (fun h2 => ?_)
      refine im_icmp_le hF 24 dX10_truth_19 (by decide) (fun _ => ?_) (fun _ => ?_)
      · refine im_aload_n hF dX10_truth_24 0 rfl ?_
        refine im_callVV hF (As := []) (rest := []) my_X10_runs mv_X10_runs wl_1066 (fun l r hr => c_X10_runs l g hI  q1.2 r hr) ⟨by decide, by decide⟩ (by decide) (by decide) ⟨_, rfl, rfl⟩ rfl rfl (Nat.le_of_ble_eq_true rfl) dX10_truth_25 (fun q3 => ?_)
        refine im_bipush hF dX10_truth_28 (v := (7 : Int32)) (by decide) ?_
        refine im_iload_n hF dX10_truth_30 1 rfl ?_
        refine im_imul hF dX10_truth_31 ?_
        refine im_iload_n hF dX10_truth_32 2 rfl ?_
        refine im_iadd hF dX10_truth_33 ?_
        refine im_bdI (fun x4 => ?_)
        refine im_istore hF dX10_truth_34 (lv' := [(4, .int x4), (0, .ref (g.2.1 10 0)), (1, .int a1), (2, .int a2), (3, .int a3)]) (by decide) rfl ?_
        refine im_iload_n hF dX10_truth_36 4 rfl ?_
        refine im_ite (fun h5 => ?_) (fun h5 => ?_)
        · refine im_tableIn hF 68 dX10_truth_37 (by rw [h5]; decide) (by rw [h5]; decide) (by rw [h5]; rfl) (by decide) ?_
          refine im_aload_n hF dX10_truth_68 1 rfl ?_
          refine im_get hF (v := .ref (g.2.1 75 0)) fl_10_109 (by decide) (by decide) rfl dX10_truth_69 ?_
          refine im_iload hF dX10_truth_72 0 rfl ?_
          refine im_iald hF ar_75 (by decide) dX10_truth_74 (fun h6 => ?_)
          exact im_iret hF hM dX10_truth_75
        · refine im_ite (fun h7 => ?_) (fun h7 => ?_)
          · refine im_tableIn hF 76 dX10_truth_37 (by rw [h7]; decide) (by rw [h7]; decide) (by rw [h7]; rfl) (by decide) ?_
            refine im_aload_n hF dX10_truth_76 1 rfl ?_
            refine im_get hF (v := .ref (g.2.1 76 0)) fl_10_112 (by decide) (by decide) rfl dX10_truth_77 ?_
            refine im_iload hF dX10_truth_80 0 rfl ?_
            refine im_iald hF ar_76 (by decide) dX10_truth_82 (fun h8 => ?_)
            exact im_iret hF hM dX10_truth_83
          · refine im_ite (fun h9 => ?_) (fun h9 => ?_)
            · refine im_tableIn hF 84 dX10_truth_37 (by rw [h9]; decide) (by rw [h9]; decide) (by rw [h9]; rfl) (by decide) ?_
              refine im_aload_n hF dX10_truth_84 1 rfl ?_
              refine im_get hF (v := .ref (g.2.1 76 0)) fl_10_112 (by decide) (by decide) rfl dX10_truth_85 ?_
              refine im_iload hF dX10_truth_88 0 rfl ?_
              refine im_iald hF ar_76 (by decide) dX10_truth_90 (fun h10 => ?_)
              refine im_iconst hF dX10_truth_91 (v := (-1 : Int32)) (by decide) ?_
              refine im_icmp_ne hF 99 dX10_truth_92 (by decide) (fun _ => ?_) (fun _ => ?_)
              · refine im_iconst hF dX10_truth_95 (v := (-1 : Int32)) (by decide) ?_
                refine im_goto hF 106 dX10_truth_96 (by decide) ?_
                exact im_iret hF hM dX10_truth_106
              · refine im_aload_n hF dX10_truth_99 1 rfl ?_
                refine im_get hF (v := .ref (g.2.1 77 0)) fl_10_115 (by decide) (by decide) rfl dX10_truth_100 ?_
                refine im_iload hF dX10_truth_103 0 rfl ?_
                refine im_iald hF ar_77 (by decide) dX10_truth_105 (fun h11 => ?_)
                exact im_iret hF hM dX10_truth_106
            · refine im_ite (fun h12 => ?_) (fun h12 => ?_)
              · refine im_tableIn hF 107 dX10_truth_37 (by rw [h12]; decide) (by rw [h12]; decide) (by rw [h12]; rfl) (by decide) ?_
                refine im_aload_n hF dX10_truth_107 1 rfl ?_
                refine im_get hF (v := .ref (g.2.1 75 0)) fl_10_109 (by decide) (by decide) rfl dX10_truth_108 ?_
                refine im_iload hF dX10_truth_111 0 rfl ?_
                refine im_iald hF ar_75 (by decide) dX10_truth_113 (fun h13 => ?_)
                refine im_iconst hF dX10_truth_114 (v := (-1 : Int32)) (by decide) ?_
                refine im_icmp_ne hF 122 dX10_truth_115 (by decide) (fun _ => ?_) (fun _ => ?_)
                · refine im_iconst hF dX10_truth_118 (v := (-1 : Int32)) (by decide) ?_
                  refine im_goto hF 156 dX10_truth_119 (by decide) ?_
                  exact im_iret hF hM dX10_truth_156
                · refine im_aload_n hF dX10_truth_122 1 rfl ?_
                  refine im_get hF (v := .ref (g.2.1 75 0)) fl_10_109 (by decide) (by decide) rfl dX10_truth_123 ?_
                  refine im_iload hF dX10_truth_126 0 rfl ?_
                  refine im_iald hF ar_75 (by decide) dX10_truth_128 (fun h14 => ?_)
                  refine im_aload_n hF dX10_truth_129 1 rfl ?_
                  refine im_iload_n hF dX10_truth_130 2 rfl ?_
                  refine im_iload_n hF dX10_truth_131 3 rfl ?_
                  refine im_callVI hF (As := [.int a1, .int a2]) (rest := [.int (q3 75 0 x4.toNatClampNeg)]) my_X10_dueCome mv_X10_dueCome wl_1047 (fun l r hr => c_X10_dueCome l g hI a1 a2 q3 r hr) ⟨by decide, by decide⟩ (by decide) (by decide) ⟨_, rfl, rfl⟩ rfl rfl (Nat.le_of_ble_eq_true rfl) dX10_truth_132 (fun q15 => ?_)
                  refine im_icmp_le hF 155 dX10_truth_135 (by decide) (fun _ => ?_) (fun _ => ?_)
                  · refine im_iconst hF dX10_truth_155 (v := (0 : Int32)) (by decide) ?_
                    exact im_iret hF hM dX10_truth_156
                  · refine im_aload_n hF dX10_truth_138 1 rfl ?_
                    refine im_get hF (v := .ref (g.2.1 75 0)) fl_10_109 (by decide) (by decide) rfl dX10_truth_139 ?_
                    refine im_iload hF dX10_truth_142 0 rfl ?_
                    refine im_iald hF ar_75 (by decide) dX10_truth_144 (fun h16 => ?_)
                    refine im_aload_n hF dX10_truth_145 1 rfl ?_
                    refine im_iload_n hF dX10_truth_146 2 rfl ?_
                    refine im_iload_n hF dX10_truth_147 3 rfl ?_
                    refine im_callVI hF (As := [.int a1, .int a2]) (rest := [.int (q15.2 75 0 x4.toNatClampNeg)]) my_X10_dueCome mv_X10_dueCome wl_1047 (fun l r hr => c_X10_dueCome l g hI a1 a2 q15.2 r hr) ⟨by decide, by decide⟩ (by decide) (by decide) ⟨_, rfl, rfl⟩ rfl rfl (Nat.le_of_ble_eq_true rfl) dX10_truth_148 (fun q17 => ?_)
                    refine im_isub hF dX10_truth_151 ?_
                    refine im_goto hF 156 dX10_truth_152 (by decide) ?_
                    exact im_iret hF hM dX10_truth_156
              · refine im_tableOut hF 157 dX10_truth_37 (by have := lv_neT h5 (a := 0) rfl; have := lv_neT h7 (a := 1) rfl; have := lv_neT h9 (a := 2) rfl; have := lv_neT h12 (a := 3) rfl; omega) (by decide) ?_
                refine im_iconst hF dX10_truth_157 (v := (-1 : Int32)) (by decide) ?_
                exact im_iret hF hM dX10_truth_158
      · refine im_iconst hF dX10_truth_22 (v := (-1 : Int32)) (by decide) ?_
        exact im_iret hF hM dX10_truth_23
theorem c_X10_truth (l : Launch) (g : GT) (hI : GI g) (a1 : Int32) (a2 : Int32) (a3 : Int32) (s0 : Sg) (r : (Int32 × Sg)) (hr : f_X10_truth a1 a2 a3 s0 = some r) : Ct l yX10_truth cX10_truth 5 (some .int) 7 171 g [.ref (g.2.1 10 0), .int a1, .int a2, .int a3] s0 (embI r) := ct_of (by decide) hI (Nat.le_of_ble_eq_true rfl) (fun X hF hM => i_X10_truth X g hF hM hI a1 a2 a3 s0) r hr
def f_X10_share (a1 : Int32) (a2 : Int32) (a3 : Int32) (s0 : Sg) : Option (Int32 × Sg) :=
  Option.bind (f_X10_isVoyage a1 s0) fun q1 =>
  if q1.1 = 0 then
  some ((-1 : Int32), q1.2)
  else
  if a2 < (1 : Int32) then
  some ((-1 : Int32), q1.2)
  else
  chk (gi a1 10) (
  if (q1.2 52 0 a1.toNatClampNeg) < a2 then
  some ((-1 : Int32), q1.2)
  else
  if a3 < (-1 : Int32) then
  some ((-1 : Int32), q1.2)
  else
  if a3 < (4 : Int32) then
  Option.bind (f_X10_runs q1.2) fun q3 =>
  bdI (((7 : Int32) * a1) + a2) fun x4 =>
  chk (gi x4 70) (
  if (q3 75 0 x4.toNatClampNeg) = (-1 : Int32) then
  some ((-1 : Int32), q3)
  else
  if a3 = (-1 : Int32) then
  chk (gi x4 70) (
  some ((q3 78 0 x4.toNatClampNeg), q3))
  else
  chk (gi (((4 : Int32) * x4) + a3) 280) (
  some ((q3 79 0 (((4 : Int32) * x4) + a3).toNatClampNeg), q3)))
  else
  some ((-1 : Int32), q1.2))
set_option maxRecDepth 4000 in
theorem i_X10_share (X : Cx) (g : GT) (hF : Fx X g RX10 cX10_share 5 7 171) (hM : FM X g (some .int)) (hI : GI g) (a1 : Int32) (a2 : Int32) (a3 : Int32) (s0 : Sg) : Im X g 5 (Qm X g embI) s0 0 [(0, .ref (g.2.1 10 0)), (1, .int a1), (2, .int a2), (3, .int a3)] [] (f_X10_share a1 a2 a3 s0) := by
  unfold f_X10_share
  refine im_aload_n hF dX10_share_0 0 rfl ?_
  refine im_iload_n hF dX10_share_1 1 rfl ?_
  refine im_callVI hF (As := [.int a1]) (rest := []) my_X10_isVoyage mv_X10_isVoyage wl_956 (fun l r hr => c_X10_isVoyage l g hI a1 s0 r hr) ⟨by decide, by decide⟩ (by decide) (by decide) ⟨_, rfl, rfl⟩ rfl rfl (Nat.le_of_ble_eq_true rfl) dX10_share_2 (fun q1 => ?_)
  refine im_if_eq hF 33 dX10_share_5 (by decide) (fun _ => ?_) (fun _ => ?_)
  · refine im_iconst hF dX10_share_33 (v := (-1 : Int32)) (by decide) ?_
    exact im_iret hF hM dX10_share_34
  · refine im_iload_n hF dX10_share_8 2 rfl ?_
    refine im_iconst hF dX10_share_9 (v := (1 : Int32)) (by decide) ?_
    refine im_icmp_lt hF 33 dX10_share_10 (by decide) (fun _ => ?_) (fun _ => ?_)
    · refine im_iconst hF dX10_share_33 (v := (-1 : Int32)) (by decide) ?_
      exact im_iret hF hM dX10_share_34
    · refine im_iload_n hF dX10_share_13 2 rfl ?_
      refine im_aload_n hF dX10_share_14 0 rfl ?_
      refine im_get hF (v := .ref (g.2.1 52 0)) fl_10_34 (by decide) (by decide) rfl dX10_share_15 ?_
      refine im_iload_n hF dX10_share_18 1 rfl ?_
      refine im_iald hF ar_52 (by decide) dX10_share_19 (fun h2 => ?_)
      refine im_icmp_gt hF 33 dX10_share_20 (by decide) (fun _ => ?_) (fun _ => ?_)
      · refine im_iconst hF dX10_share_33 (v := (-1 : Int32)) (by decide) ?_
        exact im_iret hF hM dX10_share_34
      · refine im_iload_n hF dX10_share_23 3 rfl ?_
        refine im_iconst hF dX10_share_24 (v := (-1 : Int32)) (by decide) ?_
        refine im_icmp_lt hF 33 dX10_share_25 (by decide) (fun _ => ?_) (fun _ => ?_)
        · refine im_iconst hF dX10_share_33 (v := (-1 : Int32)) (by decide) ?_
          exact im_iret hF hM dX10_share_34
        · refine im_iload_n hF dX10_share_28 3 rfl ?_
          refine im_iconst hF dX10_share_29 (v := (4 : Int32)) (by decide) ?_
          refine im_icmp_lt hF 35 dX10_share_30 (by decide) (fun _ => ?_) (fun _ => ?_)
          · refine im_aload_n hF dX10_share_35 0 rfl ?_
            refine im_callVV hF (As := []) (rest := []) my_X10_runs mv_X10_runs wl_1066 (fun l r hr => c_X10_runs l g hI  q1.2 r hr) ⟨by decide, by decide⟩ (by decide) (by decide) ⟨_, rfl, rfl⟩ rfl rfl (Nat.le_of_ble_eq_true rfl) dX10_share_36 (fun q3 => ?_)
            refine im_bipush hF dX10_share_39 (v := (7 : Int32)) (by decide) ?_
            refine im_iload_n hF dX10_share_41 1 rfl ?_
            refine im_imul hF dX10_share_42 ?_
            refine im_iload_n hF dX10_share_43 2 rfl ?_
            refine im_iadd hF dX10_share_44 ?_
            refine im_bdI (fun x4 => ?_)
            refine im_istore hF dX10_share_45 (lv' := [(4, .int x4), (0, .ref (g.2.1 10 0)), (1, .int a1), (2, .int a2), (3, .int a3)]) (by decide) rfl ?_
            refine im_aload_n hF dX10_share_47 1 rfl ?_
            refine im_get hF (v := .ref (g.2.1 75 0)) fl_10_109 (by decide) (by decide) rfl dX10_share_48 ?_
            refine im_iload hF dX10_share_51 0 rfl ?_
            refine im_iald hF ar_75 (by decide) dX10_share_53 (fun h5 => ?_)
            refine im_iconst hF dX10_share_54 (v := (-1 : Int32)) (by decide) ?_
            refine im_icmp_ne hF 60 dX10_share_55 (by decide) (fun _ => ?_) (fun _ => ?_)
            · refine im_iconst hF dX10_share_58 (v := (-1 : Int32)) (by decide) ?_
              exact im_iret hF hM dX10_share_59
            · refine im_iload_n hF dX10_share_60 4 rfl ?_
              refine im_iconst hF dX10_share_61 (v := (-1 : Int32)) (by decide) ?_
              refine im_icmp_ne hF 75 dX10_share_62 (by decide) (fun _ => ?_) (fun _ => ?_)
              · refine im_aload_n hF dX10_share_65 1 rfl ?_
                refine im_get hF (v := .ref (g.2.1 78 0)) fl_10_118 (by decide) (by decide) rfl dX10_share_66 ?_
                refine im_iload hF dX10_share_69 0 rfl ?_
                refine im_iald hF ar_78 (by decide) dX10_share_71 (fun h6 => ?_)
                refine im_goto hF 86 dX10_share_72 (by decide) ?_
                exact im_iret hF hM dX10_share_86
              · refine im_aload_n hF dX10_share_75 1 rfl ?_
                refine im_get hF (v := .ref (g.2.1 79 0)) fl_10_121 (by decide) (by decide) rfl dX10_share_76 ?_
                refine im_iconst hF dX10_share_79 (v := (4 : Int32)) (by decide) ?_
                refine im_iload hF dX10_share_80 0 rfl ?_
                refine im_imul hF dX10_share_82 ?_
                refine im_iload_n hF dX10_share_83 4 rfl ?_
                refine im_iadd hF dX10_share_84 ?_
                refine im_iald hF ar_79 (by decide) dX10_share_85 (fun h7 => ?_)
                exact im_iret hF hM dX10_share_86
          · refine im_iconst hF dX10_share_33 (v := (-1 : Int32)) (by decide) ?_
            exact im_iret hF hM dX10_share_34
theorem c_X10_share (l : Launch) (g : GT) (hI : GI g) (a1 : Int32) (a2 : Int32) (a3 : Int32) (s0 : Sg) (r : (Int32 × Sg)) (hr : f_X10_share a1 a2 a3 s0 = some r) : Ct l yX10_share cX10_share 5 (some .int) 7 171 g [.ref (g.2.1 10 0), .int a1, .int a2, .int a3] s0 (embI r) := ct_of (by decide) hI (Nat.le_of_ble_eq_true rfl) (fun X hF hM => i_X10_share X g hF hM hI a1 a2 a3 s0) r hr
def f_X10_owed_B34 (k34 : Int32 → Int64 → Int32 → Int32 → Sg → Option (Int64 × Sg)) (k22 : Int32 → Int64 → Int32 → Sg → Option (Int64 × Sg)) (a1 : Int32) (a2 : Int64) (a4 : Int32) (a5 : Int32) (s0 : Sg) : Option (Int64 × Sg) :=
  chk (gi a4 10) (
  if (s0 52 0 a4.toNatClampNeg) < a5 then
  k22 a1 a2 (a4 + (1 : Int32)) s0
  else
  bdI (((7 : Int32) * a4) + a5) fun x2 =>
  chk (gi x2 70) (
  if (s0 75 0 x2.toNatClampNeg) = (-1 : Int32) then
  k34 a1 a2 a4 (a5 + (1 : Int32)) s0
  else
  chk (gi (((4 : Int32) * x2) + a1) 280) (
  chk (gi a4 10) (
  chk (gi (s0 48 0 a4.toNatClampNeg) 5) (
  bdL (a2 + ((s0 79 0 (((4 : Int32) * x2) + a1).toNatClampNeg).toInt64 * (s0 63 0 (s0 48 0 a4.toNatClampNeg).toNatClampNeg).toInt64)) fun x7 =>
  k34 a1 x7 a4 (a5 + (1 : Int32)) s0)))))
set_option maxRecDepth 4000 in
theorem i_X10_owed_B34 (X : Cx) (g : GT) (hF : Fx X g RX10 cX10_owed 7 7 171) (hM : FM X g (some .long)) (hI : GI g) (k34 : Int32 → Int64 → Int32 → Int32 → Sg → Option (Int64 × Sg)) (hk34 : ∀ (a1 : Int32) (a2 : Int64) (a4 : Int32) (a5 : Int32) (s0 : Sg), Im X g 7 (Qm X g embL) s0 34 [(0, .ref (g.2.1 10 0)), (1, .int a1), (2, .long a2), (4, .int a4), (5, .int a5)] [] (k34 a1 a2 a4 a5 s0)) (k22 : Int32 → Int64 → Int32 → Sg → Option (Int64 × Sg)) (hk22 : ∀ (a1 : Int32) (a2 : Int64) (a4 : Int32) (s0 : Sg), Im X g 7 (Qm X g embL) s0 22 [(0, .ref (g.2.1 10 0)), (1, .int a1), (2, .long a2), (4, .int a4)] [] (k22 a1 a2 a4 s0)) (a1 : Int32) (a2 : Int64) (a4 : Int32) (a5 : Int32) (s0 : Sg) : Im X g 7 (Qm X g embL) s0 34 [(0, .ref (g.2.1 10 0)), (1, .int a1), (2, .long a2), (4, .int a4), (5, .int a5)] [] (f_X10_owed_B34 k34 k22 a1 a2 a4 a5 s0) := by
  unfold f_X10_owed_B34
  refine im_iload hF dX10_owed_34 4 rfl ?_
  refine im_aload_n hF dX10_owed_36 0 rfl ?_
  refine im_get hF (v := .ref (g.2.1 52 0)) fl_10_34 (by decide) (by decide) rfl dX10_owed_37 ?_
  refine im_iload hF dX10_owed_40 3 rfl ?_
  refine im_iald hF ar_52 (by decide) dX10_owed_42 (fun h1 => ?_)
  refine im_icmp_gt hF 102 dX10_owed_43 (by decide) (fun _ => ?_) (fun _ => ?_)
  · refine im_iinc hF dX10_owed_102 (v := (a4 + (1 : Int32))) (lv' := [(4, .int (a4 + (1 : Int32))), (0, .ref (g.2.1 10 0)), (1, .int a1), (2, .long a2), (5, .int a5)]) 3 rfl rfl (by decide) rfl ?_
    refine im_goto hF 22 dX10_owed_105 (by decide) ?_
    refine im_sub (lv' := [(0, .ref (g.2.1 10 0)), (1, .int a1), (2, .long a2), (4, .int (a4 + (1 : Int32)))]) [1, 2, 3, 0] rfl ?_
    exact hk22 a1 a2 (a4 + (1 : Int32)) s0
  · refine im_bipush hF dX10_owed_46 (v := (7 : Int32)) (by decide) ?_
    refine im_iload hF dX10_owed_48 3 rfl ?_
    refine im_imul hF dX10_owed_50 ?_
    refine im_iload hF dX10_owed_51 4 rfl ?_
    refine im_iadd hF dX10_owed_53 ?_
    refine im_bdI (fun x2 => ?_)
    refine im_istore hF dX10_owed_54 (lv' := [(6, .int x2), (0, .ref (g.2.1 10 0)), (1, .int a1), (2, .long a2), (4, .int a4), (5, .int a5)]) (by decide) rfl ?_
    refine im_aload_n hF dX10_owed_56 1 rfl ?_
    refine im_get hF (v := .ref (g.2.1 75 0)) fl_10_109 (by decide) (by decide) rfl dX10_owed_57 ?_
    refine im_iload hF dX10_owed_60 0 rfl ?_
    refine im_iald hF ar_75 (by decide) dX10_owed_62 (fun h3 => ?_)
    refine im_iconst hF dX10_owed_63 (v := (-1 : Int32)) (by decide) ?_
    refine im_icmp_eq hF 96 dX10_owed_64 (by decide) (fun _ => ?_) (fun _ => ?_)
    · refine im_iinc hF dX10_owed_96 (v := (a5 + (1 : Int32))) (lv' := [(5, .int (a5 + (1 : Int32))), (6, .int x2), (0, .ref (g.2.1 10 0)), (1, .int a1), (2, .long a2), (4, .int a4)]) 5 rfl rfl (by decide) rfl ?_
      refine im_goto hF 34 dX10_owed_99 (by decide) ?_
      refine im_sub (lv' := [(0, .ref (g.2.1 10 0)), (1, .int a1), (2, .long a2), (4, .int a4), (5, .int (a5 + (1 : Int32)))]) [2, 3, 4, 5, 0] rfl ?_
      exact hk34 a1 a2 a4 (a5 + (1 : Int32)) s0
    · refine im_lload_n hF dX10_owed_67 3 rfl ?_
      refine im_aload_n hF dX10_owed_68 1 rfl ?_
      refine im_get hF (v := .ref (g.2.1 79 0)) fl_10_121 (by decide) (by decide) rfl dX10_owed_69 ?_
      refine im_iconst hF dX10_owed_72 (v := (4 : Int32)) (by decide) ?_
      refine im_iload hF dX10_owed_73 0 rfl ?_
      refine im_imul hF dX10_owed_75 ?_
      refine im_iload_n hF dX10_owed_76 2 rfl ?_
      refine im_iadd hF dX10_owed_77 ?_
      refine im_iald hF ar_79 (by decide) dX10_owed_78 (fun h4 => ?_)
      refine im_i2l hF dX10_owed_79 ?_
      refine im_aload_n hF dX10_owed_80 1 rfl ?_
      refine im_get hF (v := .ref (g.2.1 63 0)) fl_10_72 (by decide) (by decide) rfl dX10_owed_81 ?_
      refine im_aload_n hF dX10_owed_84 1 rfl ?_
      refine im_get hF (v := .ref (g.2.1 48 0)) fl_10_22 (by decide) (by decide) rfl dX10_owed_85 ?_
      refine im_iload hF dX10_owed_88 4 rfl ?_
      refine im_iald hF ar_48 (by decide) dX10_owed_90 (fun h5 => ?_)
      refine im_iald hF ar_63 (by decide) dX10_owed_91 (fun h6 => ?_)
      refine im_i2l hF dX10_owed_92 ?_
      refine im_lmul hF dX10_owed_93 ?_
      refine im_ladd hF dX10_owed_94 ?_
      refine im_bdL (fun x7 => ?_)
      refine im_lstore_n hF dX10_owed_95 (lv' := [(2, .long x7), (6, .int x2), (0, .ref (g.2.1 10 0)), (1, .int a1), (4, .int a4), (5, .int a5)]) rfl (by decide) rfl ?_
      refine im_iinc hF dX10_owed_96 (v := (a5 + (1 : Int32))) (lv' := [(5, .int (a5 + (1 : Int32))), (2, .long x7), (6, .int x2), (0, .ref (g.2.1 10 0)), (1, .int a1), (4, .int a4)]) 5 rfl rfl (by decide) rfl ?_
      refine im_goto hF 34 dX10_owed_99 (by decide) ?_
      refine im_sub (lv' := [(0, .ref (g.2.1 10 0)), (1, .int a1), (2, .long x7), (4, .int a4), (5, .int (a5 + (1 : Int32)))]) [3, 4, 1, 5, 0] rfl ?_
      exact hk34 a1 x7 a4 (a5 + (1 : Int32)) s0
def f_X10_owed_L34 (k22 : Int32 → Int64 → Int32 → Sg → Option (Int64 × Sg)) : Nat → Int32 → Int64 → Int32 → Int32 → Sg → Option (Int64 × Sg)
  | 0 => fun _ _ _ _ _ => none
  | n + 1 => fun a1 a2 a4 a5 s0 => f_X10_owed_B34 (f_X10_owed_L34 k22 n) k22 a1 a2 a4 a5 s0
theorem i_X10_owed_L34 (X : Cx) (g : GT) (hF : Fx X g RX10 cX10_owed 7 7 171) (hM : FM X g (some .long)) (hI : GI g) (k22 : Int32 → Int64 → Int32 → Sg → Option (Int64 × Sg)) (hk22 : ∀ (a1 : Int32) (a2 : Int64) (a4 : Int32) (s0 : Sg), Im X g 7 (Qm X g embL) s0 22 [(0, .ref (g.2.1 10 0)), (1, .int a1), (2, .long a2), (4, .int a4)] [] (k22 a1 a2 a4 s0)) : ∀ (n : Nat) (a1 : Int32) (a2 : Int64) (a4 : Int32) (a5 : Int32) (s0 : Sg), Im X g 7 (Qm X g embL) s0 34 [(0, .ref (g.2.1 10 0)), (1, .int a1), (2, .long a2), (4, .int a4), (5, .int a5)] [] (f_X10_owed_L34 k22 n a1 a2 a4 a5 s0) := by
  intro n
  induction n with
  | zero => intros; exact im_none
  | succ n ih => intro a1 a2 a4 a5 s0; exact i_X10_owed_B34 X g hF hM hI (f_X10_owed_L34 k22 n) ih k22 hk22 a1 a2 a4 a5 s0
def f_X10_owed_B22 (k22 : Int32 → Int64 → Int32 → Sg → Option (Int64 × Sg)) (a1 : Int32) (a2 : Int64) (a4 : Int32) (s0 : Sg) : Option (Int64 × Sg) :=
  if (s0 10 0 1) ≤ a4 then
  some (a2, s0)
  else
  (f_X10_owed_L34 k22 FU) a1 a2 a4 (1 : Int32) s0
set_option maxRecDepth 4000 in
theorem i_X10_owed_B22 (X : Cx) (g : GT) (hF : Fx X g RX10 cX10_owed 7 7 171) (hM : FM X g (some .long)) (hI : GI g) (k22 : Int32 → Int64 → Int32 → Sg → Option (Int64 × Sg)) (hk22 : ∀ (a1 : Int32) (a2 : Int64) (a4 : Int32) (s0 : Sg), Im X g 7 (Qm X g embL) s0 22 [(0, .ref (g.2.1 10 0)), (1, .int a1), (2, .long a2), (4, .int a4)] [] (k22 a1 a2 a4 s0)) (a1 : Int32) (a2 : Int64) (a4 : Int32) (s0 : Sg) : Im X g 7 (Qm X g embL) s0 22 [(0, .ref (g.2.1 10 0)), (1, .int a1), (2, .long a2), (4, .int a4)] [] (f_X10_owed_B22 k22 a1 a2 a4 s0) := by
  unfold f_X10_owed_B22
  refine im_iload hF dX10_owed_22 3 rfl ?_
  refine im_aload_n hF dX10_owed_24 0 rfl ?_
  refine im_get hF (v := .int (s0 10 0 1)) fl_10_151 (by decide) (by decide) rfl dX10_owed_25 ?_
  refine im_icmp_ge hF 108 dX10_owed_28 (by decide) (fun _ => ?_) (fun _ => ?_)
  · refine im_lload_n hF dX10_owed_108 2 rfl ?_
    exact im_lret hF hM dX10_owed_109
  · refine im_iconst hF dX10_owed_31 (v := (1 : Int32)) (by decide) ?_
    refine im_istore hF dX10_owed_32 (lv' := [(5, .int (1 : Int32)), (0, .ref (g.2.1 10 0)), (1, .int a1), (2, .long a2), (4, .int a4)]) (by decide) rfl ?_
    refine im_sub (lv' := [(0, .ref (g.2.1 10 0)), (1, .int a1), (2, .long a2), (4, .int a4), (5, .int (1 : Int32))]) [1, 2, 3, 4, 0] rfl ?_
    exact (i_X10_owed_L34 X g hF hM hI k22 hk22 FU) a1 a2 a4 (1 : Int32) s0
def f_X10_owed_L22 : Nat → Int32 → Int64 → Int32 → Sg → Option (Int64 × Sg)
  | 0 => fun _ _ _ _ => none
  | n + 1 => fun a1 a2 a4 s0 => f_X10_owed_B22 (f_X10_owed_L22 n) a1 a2 a4 s0
theorem i_X10_owed_L22 (X : Cx) (g : GT) (hF : Fx X g RX10 cX10_owed 7 7 171) (hM : FM X g (some .long)) (hI : GI g) : ∀ (n : Nat) (a1 : Int32) (a2 : Int64) (a4 : Int32) (s0 : Sg), Im X g 7 (Qm X g embL) s0 22 [(0, .ref (g.2.1 10 0)), (1, .int a1), (2, .long a2), (4, .int a4)] [] (f_X10_owed_L22 n a1 a2 a4 s0) := by
  intro n
  induction n with
  | zero => intros; exact im_none
  | succ n ih => intro a1 a2 a4 s0; exact i_X10_owed_B22 X g hF hM hI (f_X10_owed_L22 n) ih a1 a2 a4 s0
def f_X10_owed (a1 : Int32) (s0 : Sg) : Option (Int64 × Sg) :=
  if a1 < 0 then
  some ((-1 : Int64), s0)
  else
  if a1 < (4 : Int32) then
  Option.bind (f_X10_runs s0) fun q1 =>
  bdL (0 : Int64) fun x2 =>
  (f_X10_owed_L22 FU) a1 x2 (0 : Int32) q1
  else
  some ((-1 : Int64), s0)
set_option maxRecDepth 4000 in
theorem i_X10_owed (X : Cx) (g : GT) (hF : Fx X g RX10 cX10_owed 7 7 171) (hM : FM X g (some .long)) (hI : GI g) (a1 : Int32) (s0 : Sg) : Im X g 7 (Qm X g embL) s0 0 [(0, .ref (g.2.1 10 0)), (1, .int a1)] [] (f_X10_owed a1 s0) := by
  unfold f_X10_owed
  refine im_iload_n hF dX10_owed_0 1 rfl ?_
  refine im_if_lt hF 9 dX10_owed_1 (by decide) (fun _ => ?_) (fun _ => ?_)
  · refine im_ldc2 hF (v := (-1 : Int64)) wl_1105 dX10_owed_9 ?_
    exact im_lret hF hM dX10_owed_12
  · refine im_iload_n hF dX10_owed_4 1 rfl ?_
    refine im_iconst hF dX10_owed_5 (v := (4 : Int32)) (by decide) ?_
    refine im_icmp_lt hF 13 dX10_owed_6 (by decide) (fun _ => ?_) (fun _ => ?_)
    · refine im_aload_n hF dX10_owed_13 0 rfl ?_
      refine im_callVV hF (As := []) (rest := []) my_X10_runs mv_X10_runs wl_1066 (fun l r hr => c_X10_runs l g hI  s0 r hr) ⟨by decide, by decide⟩ (by decide) (by decide) ⟨_, rfl, rfl⟩ rfl rfl (Nat.le_of_ble_eq_true rfl) dX10_owed_14 (fun q1 => ?_)
      refine im_lconst hF dX10_owed_17 (v := (0 : Int64)) (by decide) ?_
      refine im_bdL (fun x2 => ?_)
      refine im_lstore_n hF dX10_owed_18 (lv' := [(2, .long x2), (0, .ref (g.2.1 10 0)), (1, .int a1)]) rfl (by decide) rfl ?_
      refine im_iconst hF dX10_owed_19 (v := (0 : Int32)) (by decide) ?_
      refine im_istore hF dX10_owed_20 (lv' := [(4, .int (0 : Int32)), (2, .long x2), (0, .ref (g.2.1 10 0)), (1, .int a1)]) (by decide) rfl ?_
      refine im_sub (lv' := [(0, .ref (g.2.1 10 0)), (1, .int a1), (2, .long x2), (4, .int (0 : Int32))]) [2, 3, 1, 0] rfl ?_
      exact (i_X10_owed_L22 X g hF hM hI FU) a1 x2 (0 : Int32) q1
    · refine im_ldc2 hF (v := (-1 : Int64)) wl_1105 dX10_owed_9 ?_
      exact im_lret hF hM dX10_owed_12
theorem c_X10_owed (l : Launch) (g : GT) (hI : GI g) (a1 : Int32) (s0 : Sg) (r : (Int64 × Sg)) (hr : f_X10_owed a1 s0 = some r) : Ct l yX10_owed cX10_owed 7 (some .long) 7 171 g [.ref (g.2.1 10 0), .int a1] s0 (embL r) := ct_of (by decide) hI (Nat.le_of_ble_eq_true rfl) (fun X hF hM => i_X10_owed X g hF hM hI a1 s0) r hr
def f_X10_areAsked (a0 : Int32) (a1 : Int32) (a2 : Int32) (s0 : Sg) : Option (Int32 × Sg) :=
  Option.bind (f_X10_isPort a0 s0) fun q1 =>
  if q1.1 = 0 then
  some ((0 : Int32), q1.2)
  else
  Option.bind (f_X10_isPort a1 q1.2) fun q2 =>
  if q2.1 = 0 then
  some ((0 : Int32), q2.2)
  else
  if a0 = a1 then
  some ((0 : Int32), q2.2)
  else
  if a2 < 0 then
  some ((0 : Int32), q2.2)
  else
  if (20000 : Int32) < a2 then
  some ((0 : Int32), q2.2)
  else
  some ((1 : Int32), q2.2)
set_option maxRecDepth 4000 in
theorem i_X10_areAsked (X : Cx) (g : GT) (hF : Fx X g RX10 cX10_areAsked 3 1 20) (hM : FM X g (some .boolean)) (hI : GI g) (a0 : Int32) (a1 : Int32) (a2 : Int32) (s0 : Sg) : Im X g 3 (Qm X g embI) s0 0 [(0, .int a0), (1, .int a1), (2, .int a2)] [] (f_X10_areAsked a0 a1 a2 s0) := by
  unfold f_X10_areAsked
  refine im_iload_n hF dX10_areAsked_0 0 rfl ?_
  refine im_callSI hF (As := [.int a0]) (rest := []) my_X10_isPort ms_X10_isPort wl_939 (fun l r hr => c_X10_isPort l g hI a0 s0 r hr) ⟨by decide, by decide⟩ rfl rfl (Nat.le_of_ble_eq_true rfl) dX10_areAsked_1 (fun q1 => ?_)
  refine im_if_eq hF 34 dX10_areAsked_4 (by decide) (fun _ => ?_) (fun _ => ?_)
  · refine im_iconst hF dX10_areAsked_34 (v := (0 : Int32)) (by decide) ?_
    exact im_zret hF hM (by decide) dX10_areAsked_35
  · refine im_iload_n hF dX10_areAsked_7 1 rfl ?_
    refine im_callSI hF (As := [.int a1]) (rest := []) my_X10_isPort ms_X10_isPort wl_939 (fun l r hr => c_X10_isPort l g hI a1 q1.2 r hr) ⟨by decide, by decide⟩ rfl rfl (Nat.le_of_ble_eq_true rfl) dX10_areAsked_8 (fun q2 => ?_)
    refine im_if_eq hF 34 dX10_areAsked_11 (by decide) (fun _ => ?_) (fun _ => ?_)
    · refine im_iconst hF dX10_areAsked_34 (v := (0 : Int32)) (by decide) ?_
      exact im_zret hF hM (by decide) dX10_areAsked_35
    · refine im_iload_n hF dX10_areAsked_14 0 rfl ?_
      refine im_iload_n hF dX10_areAsked_15 1 rfl ?_
      refine im_icmp_eq hF 34 dX10_areAsked_16 (by decide) (fun _ => ?_) (fun _ => ?_)
      · refine im_iconst hF dX10_areAsked_34 (v := (0 : Int32)) (by decide) ?_
        exact im_zret hF hM (by decide) dX10_areAsked_35
      · refine im_iload_n hF dX10_areAsked_19 2 rfl ?_
        refine im_if_lt hF 34 dX10_areAsked_20 (by decide) (fun _ => ?_) (fun _ => ?_)
        · refine im_iconst hF dX10_areAsked_34 (v := (0 : Int32)) (by decide) ?_
          exact im_zret hF hM (by decide) dX10_areAsked_35
        · refine im_iload_n hF dX10_areAsked_23 2 rfl ?_
          refine im_sipush hF dX10_areAsked_24 (v := (20000 : Int32)) (by decide) ?_
          refine im_icmp_gt hF 34 dX10_areAsked_27 (by decide) (fun _ => ?_) (fun _ => ?_)
          · refine im_iconst hF dX10_areAsked_34 (v := (0 : Int32)) (by decide) ?_
            exact im_zret hF hM (by decide) dX10_areAsked_35
          · refine im_iconst hF dX10_areAsked_30 (v := (1 : Int32)) (by decide) ?_
            refine im_goto hF 35 dX10_areAsked_31 (by decide) ?_
            exact im_zret hF hM (by decide) dX10_areAsked_35
theorem c_X10_areAsked (l : Launch) (g : GT) (hI : GI g) (a0 : Int32) (a1 : Int32) (a2 : Int32) (s0 : Sg) (r : (Int32 × Sg)) (hr : f_X10_areAsked a0 a1 a2 s0 = some r) : Ct l yX10_areAsked cX10_areAsked 3 (some .boolean) 1 20 g [.int a0, .int a1, .int a2] s0 (embI r) := ct_of (by decide) hI (Nat.le_of_ble_eq_true rfl) (fun X hF hM => i_X10_areAsked X g hF hM hI a0 a1 a2 s0) r hr
def f_X10_leaving (a1 : Int32) (a2 : Int32) (s0 : Sg) : Option (Int32 × Sg) :=
  if (s0 10 0 52) = 0 then
  chk (gi a1 10) (
  if (s0 52 0 a1.toNatClampNeg) ≤ a2 then
  some ((-1 : Int32), s0)
  else
  Option.bind (f_X10_dueLeave a1 a2 s0) fun q2 =>
  some (q2.1, q2.2))
  else
  chk (gi (((7 : Int32) * a1) + a2) 70) (
  some ((s0 76 0 (((7 : Int32) * a1) + a2).toNatClampNeg), s0))
set_option maxRecDepth 4000 in
theorem i_X10_leaving (X : Cx) (g : GT) (hF : Fx X g RX10 cX10_leaving 3 3 67) (hM : FM X g (some .int)) (hI : GI g) (a1 : Int32) (a2 : Int32) (s0 : Sg) : Im X g 3 (Qm X g embI) s0 0 [(0, .ref (g.2.1 10 0)), (1, .int a1), (2, .int a2)] [] (f_X10_leaving a1 a2 s0) := by
  unfold f_X10_leaving
  refine im_aload_n hF dX10_leaving_0 0 rfl ?_
  refine im_get hF (v := .int (s0 10 0 52)) fl_10_293 (by decide) (by decide) rfl dX10_leaving_1 ?_
  refine im_if_eq hF 21 dX10_leaving_4 (by decide) (fun _ => ?_) (fun _ => ?_)
  · refine im_iload_n hF dX10_leaving_21 2 rfl ?_
    refine im_aload_n hF dX10_leaving_22 0 rfl ?_
    refine im_get hF (v := .ref (g.2.1 52 0)) fl_10_34 (by decide) (by decide) rfl dX10_leaving_23 ?_
    refine im_iload_n hF dX10_leaving_26 1 rfl ?_
    refine im_iald hF ar_52 (by decide) dX10_leaving_27 (fun h1 => ?_)
    refine im_icmp_ge hF 40 dX10_leaving_28 (by decide) (fun _ => ?_) (fun _ => ?_)
    · refine im_iconst hF dX10_leaving_40 (v := (-1 : Int32)) (by decide) ?_
      exact im_iret hF hM dX10_leaving_41
    · refine im_aload_n hF dX10_leaving_31 0 rfl ?_
      refine im_iload_n hF dX10_leaving_32 1 rfl ?_
      refine im_iload_n hF dX10_leaving_33 2 rfl ?_
      refine im_callVI hF (As := [.int a1, .int a2]) (rest := []) my_X10_dueLeave mv_X10_dueLeave wl_1051 (fun l r hr => c_X10_dueLeave l g hI a1 a2 s0 r hr) ⟨by decide, by decide⟩ (by decide) (by decide) ⟨_, rfl, rfl⟩ rfl rfl (Nat.le_of_ble_eq_true rfl) dX10_leaving_34 (fun q2 => ?_)
      refine im_goto hF 41 dX10_leaving_37 (by decide) ?_
      exact im_iret hF hM dX10_leaving_41
  · refine im_aload_n hF dX10_leaving_7 0 rfl ?_
    refine im_get hF (v := .ref (g.2.1 76 0)) fl_10_112 (by decide) (by decide) rfl dX10_leaving_8 ?_
    refine im_bipush hF dX10_leaving_11 (v := (7 : Int32)) (by decide) ?_
    refine im_iload_n hF dX10_leaving_13 1 rfl ?_
    refine im_imul hF dX10_leaving_14 ?_
    refine im_iload_n hF dX10_leaving_15 2 rfl ?_
    refine im_iadd hF dX10_leaving_16 ?_
    refine im_iald hF ar_76 (by decide) dX10_leaving_17 (fun h3 => ?_)
    refine im_goto hF 41 dX10_leaving_18 (by decide) ?_
    exact im_iret hF hM dX10_leaving_41
theorem c_X10_leaving (l : Launch) (g : GT) (hI : GI g) (a1 : Int32) (a2 : Int32) (s0 : Sg) (r : (Int32 × Sg)) (hr : f_X10_leaving a1 a2 s0 = some r) : Ct l yX10_leaving cX10_leaving 3 (some .int) 3 67 g [.ref (g.2.1 10 0), .int a1, .int a2] s0 (embI r) := ct_of (by decide) hI (Nat.le_of_ble_eq_true rfl) (fun X hF hM => i_X10_leaving X g hF hM hI a1 a2 s0) r hr
def f_X10_coming (a1 : Int32) (a2 : Int32) (s0 : Sg) : Option (Int32 × Sg) :=
  if (s0 10 0 52) = 0 then
  Option.bind (f_X10_dueCome a1 a2 s0) fun q1 =>
  some (q1.1, q1.2)
  else
  chk (gi (((7 : Int32) * a1) + a2) 70) (
  some ((s0 75 0 (((7 : Int32) * a1) + a2).toNatClampNeg), s0))
set_option maxRecDepth 4000 in
theorem i_X10_coming (X : Cx) (g : GT) (hF : Fx X g RX10 cX10_coming 3 4 89) (hM : FM X g (some .int)) (hI : GI g) (a1 : Int32) (a2 : Int32) (s0 : Sg) : Im X g 3 (Qm X g embI) s0 0 [(0, .ref (g.2.1 10 0)), (1, .int a1), (2, .int a2)] [] (f_X10_coming a1 a2 s0) := by
  unfold f_X10_coming
  refine im_aload_n hF dX10_coming_0 0 rfl ?_
  refine im_get hF (v := .int (s0 10 0 52)) fl_10_293 (by decide) (by decide) rfl dX10_coming_1 ?_
  refine im_if_eq hF 21 dX10_coming_4 (by decide) (fun _ => ?_) (fun _ => ?_)
  · refine im_aload_n hF dX10_coming_21 0 rfl ?_
    refine im_iload_n hF dX10_coming_22 1 rfl ?_
    refine im_iload_n hF dX10_coming_23 2 rfl ?_
    refine im_callVI hF (As := [.int a1, .int a2]) (rest := []) my_X10_dueCome mv_X10_dueCome wl_1047 (fun l r hr => c_X10_dueCome l g hI a1 a2 s0 r hr) ⟨by decide, by decide⟩ (by decide) (by decide) ⟨_, rfl, rfl⟩ rfl rfl (Nat.le_of_ble_eq_true rfl) dX10_coming_24 (fun q1 => ?_)
    exact im_iret hF hM dX10_coming_27
  · refine im_aload_n hF dX10_coming_7 0 rfl ?_
    refine im_get hF (v := .ref (g.2.1 75 0)) fl_10_109 (by decide) (by decide) rfl dX10_coming_8 ?_
    refine im_bipush hF dX10_coming_11 (v := (7 : Int32)) (by decide) ?_
    refine im_iload_n hF dX10_coming_13 1 rfl ?_
    refine im_imul hF dX10_coming_14 ?_
    refine im_iload_n hF dX10_coming_15 2 rfl ?_
    refine im_iadd hF dX10_coming_16 ?_
    refine im_iald hF ar_75 (by decide) dX10_coming_17 (fun h2 => ?_)
    refine im_goto hF 27 dX10_coming_18 (by decide) ?_
    exact im_iret hF hM dX10_coming_27
theorem c_X10_coming (l : Launch) (g : GT) (hI : GI g) (a1 : Int32) (a2 : Int32) (s0 : Sg) (r : (Int32 × Sg)) (hr : f_X10_coming a1 a2 s0 = some r) : Ct l yX10_coming cX10_coming 3 (some .int) 4 89 g [.ref (g.2.1 10 0), .int a1, .int a2] s0 (embI r) := ct_of (by decide) hI (Nat.le_of_ble_eq_true rfl) (fun X hF hM => i_X10_coming X g hF hM hI a1 a2 s0) r hr
def f_X10_earliest_B8 (k8 : Int32 → Int32 → Int32 → Int32 → Int32 → Int32 → Sg → Option (Int32 × Sg)) (k44 : Int32 → Int32 → Int32 → Int32 → Sg → Option (Int32 × Sg)) (a1 : Int32) (a2 : Int32) (a3 : Int32) (a4 : Int32) (a5 : Int32) (a6 : Int32) (s0 : Sg) : Option (Int32 × Sg) :=
  if (8 : Int32) ≤ a6 then
  k44 a3 a4 a5 (0 : Int32) s0
  else
  if a6 = a1 then
  chk (gi a6 8) (bdS (up3 s0 84 0 a6.toNatClampNeg a2) fun s2 =>
  k8 a1 a2 a3 a4 a5 (a6 + (1 : Int32)) s2)
  else
  chk (gi a6 8) (bdS (up3 s0 84 0 a6.toNatClampNeg (1000000 : Int32)) fun s4 =>
  k8 a1 a2 a3 a4 a5 (a6 + (1 : Int32)) s4)
set_option maxRecDepth 4000 in
theorem i_X10_earliest_B8 (X : Cx) (g : GT) (hF : Fx X g RX10 cX10_earliest 13 5 111) (hM : FM X g (some .int)) (hI : GI g) (k8 : Int32 → Int32 → Int32 → Int32 → Int32 → Int32 → Sg → Option (Int32 × Sg)) (hk8 : ∀ (a1 : Int32) (a2 : Int32) (a3 : Int32) (a4 : Int32) (a5 : Int32) (a6 : Int32) (s0 : Sg), Im X g 13 (Qm X g embI) s0 8 [(0, .ref (g.2.1 10 0)), (1, .int a1), (2, .int a2), (3, .int a3), (4, .int a4), (5, .int a5), (6, .int a6)] [] (k8 a1 a2 a3 a4 a5 a6 s0)) (k44 : Int32 → Int32 → Int32 → Int32 → Sg → Option (Int32 × Sg)) (hk44 : ∀ (a3 : Int32) (a4 : Int32) (a5 : Int32) (a6 : Int32) (s0 : Sg), Im X g 13 (Qm X g embI) s0 44 [(0, .ref (g.2.1 10 0)), (3, .int a3), (4, .int a4), (5, .int a5), (6, .int a6)] [] (k44 a3 a4 a5 a6 s0)) (a1 : Int32) (a2 : Int32) (a3 : Int32) (a4 : Int32) (a5 : Int32) (a6 : Int32) (s0 : Sg) : Im X g 13 (Qm X g embI) s0 8 [(0, .ref (g.2.1 10 0)), (1, .int a1), (2, .int a2), (3, .int a3), (4, .int a4), (5, .int a5), (6, .int a6)] [] (f_X10_earliest_B8 k8 k44 a1 a2 a3 a4 a5 a6 s0) := by
  unfold f_X10_earliest_B8
  refine im_iload hF dX10_earliest_8 6 rfl ?_
  refine im_bipush hF dX10_earliest_10 (v := (8 : Int32)) (by decide) ?_
  refine im_icmp_ge hF 41 dX10_earliest_12 (by decide) (fun _ => ?_) (fun _ => ?_)
  · refine im_iconst hF dX10_earliest_41 (v := (0 : Int32)) (by decide) ?_
    refine im_istore hF dX10_earliest_42 (lv' := [(6, .int (0 : Int32)), (0, .ref (g.2.1 10 0)), (1, .int a1), (2, .int a2), (3, .int a3), (4, .int a4), (5, .int a5)]) (by decide) rfl ?_
    refine im_sub (lv' := [(0, .ref (g.2.1 10 0)), (3, .int a3), (4, .int a4), (5, .int a5), (6, .int (0 : Int32))]) [1, 4, 5, 6, 0] rfl ?_
    exact hk44 a3 a4 a5 (0 : Int32) s0
  · refine im_aload_n hF dX10_earliest_15 0 rfl ?_
    refine im_get hF (v := .ref (g.2.1 84 0)) fl_10_136 (by decide) (by decide) rfl dX10_earliest_16 ?_
    refine im_iload hF dX10_earliest_19 6 rfl ?_
    refine im_iload hF dX10_earliest_21 6 rfl ?_
    refine im_iload_n hF dX10_earliest_23 1 rfl ?_
    refine im_icmp_ne hF 31 dX10_earliest_24 (by decide) (fun _ => ?_) (fun _ => ?_)
    · refine im_iload_n hF dX10_earliest_27 2 rfl ?_
      refine im_goto hF 34 dX10_earliest_28 (by decide) ?_
      refine im_iast hF ar_84 (by decide) dX10_earliest_34 (fun h1 => im_bdS (fun s2 => ?_))
      refine im_iinc hF dX10_earliest_35 (v := (a6 + (1 : Int32))) (lv' := [(6, .int (a6 + (1 : Int32))), (0, .ref (g.2.1 10 0)), (1, .int a1), (2, .int a2), (3, .int a3), (4, .int a4), (5, .int a5)]) 6 rfl rfl (by decide) rfl ?_
      refine im_goto hF 8 dX10_earliest_38 (by decide) ?_
      refine im_sub (lv' := [(0, .ref (g.2.1 10 0)), (1, .int a1), (2, .int a2), (3, .int a3), (4, .int a4), (5, .int a5), (6, .int (a6 + (1 : Int32)))]) [1, 2, 3, 4, 5, 6, 0] rfl ?_
      exact hk8 a1 a2 a3 a4 a5 (a6 + (1 : Int32)) s2
    · refine im_ldcw hF (v := (1000000 : Int32)) wl_1117 dX10_earliest_31 ?_
      refine im_iast hF ar_84 (by decide) dX10_earliest_34 (fun h3 => im_bdS (fun s4 => ?_))
      refine im_iinc hF dX10_earliest_35 (v := (a6 + (1 : Int32))) (lv' := [(6, .int (a6 + (1 : Int32))), (0, .ref (g.2.1 10 0)), (1, .int a1), (2, .int a2), (3, .int a3), (4, .int a4), (5, .int a5)]) 6 rfl rfl (by decide) rfl ?_
      refine im_goto hF 8 dX10_earliest_38 (by decide) ?_
      refine im_sub (lv' := [(0, .ref (g.2.1 10 0)), (1, .int a1), (2, .int a2), (3, .int a3), (4, .int a4), (5, .int a5), (6, .int (a6 + (1 : Int32)))]) [1, 2, 3, 4, 5, 6, 0] rfl ?_
      exact hk8 a1 a2 a3 a4 a5 (a6 + (1 : Int32)) s4
def f_X10_earliest_L8 (k44 : Int32 → Int32 → Int32 → Int32 → Sg → Option (Int32 × Sg)) : Nat → Int32 → Int32 → Int32 → Int32 → Int32 → Int32 → Sg → Option (Int32 × Sg)
  | 0 => fun _ _ _ _ _ _ _ => none
  | n + 1 => fun a1 a2 a3 a4 a5 a6 s0 => f_X10_earliest_B8 (f_X10_earliest_L8 k44 n) k44 a1 a2 a3 a4 a5 a6 s0
theorem i_X10_earliest_L8 (X : Cx) (g : GT) (hF : Fx X g RX10 cX10_earliest 13 5 111) (hM : FM X g (some .int)) (hI : GI g) (k44 : Int32 → Int32 → Int32 → Int32 → Sg → Option (Int32 × Sg)) (hk44 : ∀ (a3 : Int32) (a4 : Int32) (a5 : Int32) (a6 : Int32) (s0 : Sg), Im X g 13 (Qm X g embI) s0 44 [(0, .ref (g.2.1 10 0)), (3, .int a3), (4, .int a4), (5, .int a5), (6, .int a6)] [] (k44 a3 a4 a5 a6 s0)) : ∀ (n : Nat) (a1 : Int32) (a2 : Int32) (a3 : Int32) (a4 : Int32) (a5 : Int32) (a6 : Int32) (s0 : Sg), Im X g 13 (Qm X g embI) s0 8 [(0, .ref (g.2.1 10 0)), (1, .int a1), (2, .int a2), (3, .int a3), (4, .int a4), (5, .int a5), (6, .int a6)] [] (f_X10_earliest_L8 k44 n a1 a2 a3 a4 a5 a6 s0) := by
  intro n
  induction n with
  | zero => intros; exact im_none
  | succ n ih => intro a1 a2 a3 a4 a5 a6 s0; exact i_X10_earliest_B8 X g hF hM hI (f_X10_earliest_L8 k44 n) ih k44 hk44 a1 a2 a3 a4 a5 a6 s0
def f_X10_earliest_B54 (k54 : Int32 → Int32 → Int32 → Int32 → Int32 → Sg → Option (Int32 × Sg)) (k84 : Int32 → Int32 → Int32 → Int32 → Int32 → Sg → Option (Int32 × Sg)) (a3 : Int32) (a4 : Int32) (a5 : Int32) (a6 : Int32) (a7 : Int32) (s0 : Sg) : Option (Int32 × Sg) :=
  if (8 : Int32) ≤ a7 then
  k84 a3 a4 a5 a6 (0 : Int32) s0
  else
  chk (gi a7 8) (
  chk (gi a7 8) (bdS (up3 s0 85 0 a7.toNatClampNeg (s0 84 0 a7.toNatClampNeg)) fun s3 =>
  k54 a3 a4 a5 a6 (a7 + (1 : Int32)) s3))
set_option maxRecDepth 4000 in
theorem i_X10_earliest_B54 (X : Cx) (g : GT) (hF : Fx X g RX10 cX10_earliest 13 5 111) (hM : FM X g (some .int)) (hI : GI g) (k54 : Int32 → Int32 → Int32 → Int32 → Int32 → Sg → Option (Int32 × Sg)) (hk54 : ∀ (a3 : Int32) (a4 : Int32) (a5 : Int32) (a6 : Int32) (a7 : Int32) (s0 : Sg), Im X g 13 (Qm X g embI) s0 54 [(0, .ref (g.2.1 10 0)), (3, .int a3), (4, .int a4), (5, .int a5), (6, .int a6), (7, .int a7)] [] (k54 a3 a4 a5 a6 a7 s0)) (k84 : Int32 → Int32 → Int32 → Int32 → Int32 → Sg → Option (Int32 × Sg)) (hk84 : ∀ (a3 : Int32) (a4 : Int32) (a5 : Int32) (a6 : Int32) (a7 : Int32) (s0 : Sg), Im X g 13 (Qm X g embI) s0 84 [(0, .ref (g.2.1 10 0)), (3, .int a3), (4, .int a4), (5, .int a5), (6, .int a6), (7, .int a7)] [] (k84 a3 a4 a5 a6 a7 s0)) (a3 : Int32) (a4 : Int32) (a5 : Int32) (a6 : Int32) (a7 : Int32) (s0 : Sg) : Im X g 13 (Qm X g embI) s0 54 [(0, .ref (g.2.1 10 0)), (3, .int a3), (4, .int a4), (5, .int a5), (6, .int a6), (7, .int a7)] [] (f_X10_earliest_B54 k54 k84 a3 a4 a5 a6 a7 s0) := by
  unfold f_X10_earliest_B54
  refine im_iload hF dX10_earliest_54 5 rfl ?_
  refine im_bipush hF dX10_earliest_56 (v := (8 : Int32)) (by decide) ?_
  refine im_icmp_ge hF 81 dX10_earliest_58 (by decide) (fun _ => ?_) (fun _ => ?_)
  · refine im_iconst hF dX10_earliest_81 (v := (0 : Int32)) (by decide) ?_
    refine im_istore hF dX10_earliest_82 (lv' := [(7, .int (0 : Int32)), (0, .ref (g.2.1 10 0)), (3, .int a3), (4, .int a4), (5, .int a5), (6, .int a6)]) (by decide) rfl ?_
    refine im_sub (lv' := [(0, .ref (g.2.1 10 0)), (3, .int a3), (4, .int a4), (5, .int a5), (6, .int a6), (7, .int (0 : Int32))]) [1, 2, 3, 4, 5, 0] rfl ?_
    exact hk84 a3 a4 a5 a6 (0 : Int32) s0
  · refine im_aload_n hF dX10_earliest_61 0 rfl ?_
    refine im_get hF (v := .ref (g.2.1 85 0)) fl_10_139 (by decide) (by decide) rfl dX10_earliest_62 ?_
    refine im_iload hF dX10_earliest_65 5 rfl ?_
    refine im_aload_n hF dX10_earliest_67 0 rfl ?_
    refine im_get hF (v := .ref (g.2.1 84 0)) fl_10_136 (by decide) (by decide) rfl dX10_earliest_68 ?_
    refine im_iload hF dX10_earliest_71 5 rfl ?_
    refine im_iald hF ar_84 (by decide) dX10_earliest_73 (fun h1 => ?_)
    refine im_iast hF ar_85 (by decide) dX10_earliest_74 (fun h2 => im_bdS (fun s3 => ?_))
    refine im_iinc hF dX10_earliest_75 (v := (a7 + (1 : Int32))) (lv' := [(7, .int (a7 + (1 : Int32))), (0, .ref (g.2.1 10 0)), (3, .int a3), (4, .int a4), (5, .int a5), (6, .int a6)]) 5 rfl rfl (by decide) rfl ?_
    refine im_goto hF 54 dX10_earliest_78 (by decide) ?_
    refine im_sub (lv' := [(0, .ref (g.2.1 10 0)), (3, .int a3), (4, .int a4), (5, .int a5), (6, .int a6), (7, .int (a7 + (1 : Int32)))]) [1, 2, 3, 4, 5, 0] rfl ?_
    exact hk54 a3 a4 a5 a6 (a7 + (1 : Int32)) s3
def f_X10_earliest_L54 (k84 : Int32 → Int32 → Int32 → Int32 → Int32 → Sg → Option (Int32 × Sg)) : Nat → Int32 → Int32 → Int32 → Int32 → Int32 → Sg → Option (Int32 × Sg)
  | 0 => fun _ _ _ _ _ _ => none
  | n + 1 => fun a3 a4 a5 a6 a7 s0 => f_X10_earliest_B54 (f_X10_earliest_L54 k84 n) k84 a3 a4 a5 a6 a7 s0
theorem i_X10_earliest_L54 (X : Cx) (g : GT) (hF : Fx X g RX10 cX10_earliest 13 5 111) (hM : FM X g (some .int)) (hI : GI g) (k84 : Int32 → Int32 → Int32 → Int32 → Int32 → Sg → Option (Int32 × Sg)) (hk84 : ∀ (a3 : Int32) (a4 : Int32) (a5 : Int32) (a6 : Int32) (a7 : Int32) (s0 : Sg), Im X g 13 (Qm X g embI) s0 84 [(0, .ref (g.2.1 10 0)), (3, .int a3), (4, .int a4), (5, .int a5), (6, .int a6), (7, .int a7)] [] (k84 a3 a4 a5 a6 a7 s0)) : ∀ (n : Nat) (a3 : Int32) (a4 : Int32) (a5 : Int32) (a6 : Int32) (a7 : Int32) (s0 : Sg), Im X g 13 (Qm X g embI) s0 54 [(0, .ref (g.2.1 10 0)), (3, .int a3), (4, .int a4), (5, .int a5), (6, .int a6), (7, .int a7)] [] (f_X10_earliest_L54 k84 n a3 a4 a5 a6 a7 s0) := by
  intro n
  induction n with
  | zero => intros; exact im_none
  | succ n ih => intro a3 a4 a5 a6 a7 s0; exact i_X10_earliest_B54 X g hF hM hI (f_X10_earliest_L54 k84 n) ih k84 hk84 a3 a4 a5 a6 a7 s0
def f_X10_earliest_B219 (k156 : Int32 → Int32 → Int32 → Int32 → Int32 → Int32 → Int32 → Sg → Option (Int32 × Sg)) (k96 : Int32 → Int32 → Int32 → Int32 → Int32 → Int32 → Sg → Option (Int32 × Sg)) (a3 : Int32) (a4 : Int32) (a5 : Int32) (a6 : Int32) (a7 : Int32) (a8 : Int32) (a10 : Int32) (a11 : Int32) (a12 : Int32) (s0 : Sg) : Option (Int32 × Sg) :=
  chk (gi a12 8) (
  if (s0 85 0 a12.toNatClampNeg) ≤ (a11 + (1 : Int32)) then
  k156 a3 a4 a5 a6 a7 a8 (a10 + (1 : Int32)) s0
  else
  chk (gi a12 8) (bdS (up3 s0 85 0 a12.toNatClampNeg (a11 + (1 : Int32))) fun s3 =>
  k156 a3 a4 a5 a6 a7 a8 (a10 + (1 : Int32)) s3))
set_option maxRecDepth 4000 in
theorem i_X10_earliest_B219 (X : Cx) (g : GT) (hF : Fx X g RX10 cX10_earliest 13 5 111) (hM : FM X g (some .int)) (hI : GI g) (k156 : Int32 → Int32 → Int32 → Int32 → Int32 → Int32 → Int32 → Sg → Option (Int32 × Sg)) (hk156 : ∀ (a3 : Int32) (a4 : Int32) (a5 : Int32) (a6 : Int32) (a7 : Int32) (a8 : Int32) (a10 : Int32) (s0 : Sg), Im X g 13 (Qm X g embI) s0 156 [(0, .ref (g.2.1 10 0)), (3, .int a3), (4, .int a4), (5, .int a5), (6, .int a6), (7, .int a7), (8, .int a8), (10, .int a10)] [] (k156 a3 a4 a5 a6 a7 a8 a10 s0)) (k96 : Int32 → Int32 → Int32 → Int32 → Int32 → Int32 → Sg → Option (Int32 × Sg)) (hk96 : ∀ (a3 : Int32) (a4 : Int32) (a5 : Int32) (a6 : Int32) (a7 : Int32) (a8 : Int32) (s0 : Sg), Im X g 13 (Qm X g embI) s0 96 [(0, .ref (g.2.1 10 0)), (3, .int a3), (4, .int a4), (5, .int a5), (6, .int a6), (7, .int a7), (8, .int a8)] [] (k96 a3 a4 a5 a6 a7 a8 s0)) (a3 : Int32) (a4 : Int32) (a5 : Int32) (a6 : Int32) (a7 : Int32) (a8 : Int32) (a10 : Int32) (a11 : Int32) (a12 : Int32) (s0 : Sg) : Im X g 13 (Qm X g embI) s0 219 [(0, .ref (g.2.1 10 0)), (3, .int a3), (4, .int a4), (5, .int a5), (6, .int a6), (7, .int a7), (8, .int a8), (10, .int a10), (11, .int a11), (12, .int a12)] [] (f_X10_earliest_B219 k156 k96 a3 a4 a5 a6 a7 a8 a10 a11 a12 s0) := by
  unfold f_X10_earliest_B219
  refine im_iload hF dX10_earliest_219 8 rfl ?_
  refine im_iconst hF dX10_earliest_221 (v := (1 : Int32)) (by decide) ?_
  refine im_iadd hF dX10_earliest_222 ?_
  refine im_aload_n hF dX10_earliest_223 0 rfl ?_
  refine im_get hF (v := .ref (g.2.1 85 0)) fl_10_139 (by decide) (by decide) rfl dX10_earliest_224 ?_
  refine im_iload hF dX10_earliest_227 9 rfl ?_
  refine im_iald hF ar_85 (by decide) dX10_earliest_229 (fun h1 => ?_)
  refine im_icmp_ge hF 244 dX10_earliest_230 (by decide) (fun _ => ?_) (fun _ => ?_)
  · refine im_iinc hF dX10_earliest_244 (v := (a10 + (1 : Int32))) (lv' := [(10, .int (a10 + (1 : Int32))), (0, .ref (g.2.1 10 0)), (3, .int a3), (4, .int a4), (5, .int a5), (6, .int a6), (7, .int a7), (8, .int a8), (11, .int a11), (12, .int a12)]) 7 rfl rfl (by decide) rfl ?_
    refine im_goto hF 156 dX10_earliest_247 (by decide) ?_
    refine im_sub (lv' := [(0, .ref (g.2.1 10 0)), (3, .int a3), (4, .int a4), (5, .int a5), (6, .int a6), (7, .int a7), (8, .int a8), (10, .int (a10 + (1 : Int32)))]) [1, 2, 3, 4, 5, 6, 7, 0] rfl ?_
    exact hk156 a3 a4 a5 a6 a7 a8 (a10 + (1 : Int32)) s0
  · refine im_aload_n hF dX10_earliest_233 0 rfl ?_
    refine im_get hF (v := .ref (g.2.1 85 0)) fl_10_139 (by decide) (by decide) rfl dX10_earliest_234 ?_
    refine im_iload hF dX10_earliest_237 9 rfl ?_
    refine im_iload hF dX10_earliest_239 8 rfl ?_
    refine im_iconst hF dX10_earliest_241 (v := (1 : Int32)) (by decide) ?_
    refine im_iadd hF dX10_earliest_242 ?_
    refine im_iast hF ar_85 (by decide) dX10_earliest_243 (fun h2 => im_bdS (fun s3 => ?_))
    refine im_iinc hF dX10_earliest_244 (v := (a10 + (1 : Int32))) (lv' := [(10, .int (a10 + (1 : Int32))), (0, .ref (g.2.1 10 0)), (3, .int a3), (4, .int a4), (5, .int a5), (6, .int a6), (7, .int a7), (8, .int a8), (11, .int a11), (12, .int a12)]) 7 rfl rfl (by decide) rfl ?_
    refine im_goto hF 156 dX10_earliest_247 (by decide) ?_
    refine im_sub (lv' := [(0, .ref (g.2.1 10 0)), (3, .int a3), (4, .int a4), (5, .int a5), (6, .int a6), (7, .int a7), (8, .int a8), (10, .int (a10 + (1 : Int32)))]) [1, 2, 3, 4, 5, 6, 7, 0] rfl ?_
    exact hk156 a3 a4 a5 a6 a7 a8 (a10 + (1 : Int32)) s3
def f_X10_earliest_B156 (k156 : Int32 → Int32 → Int32 → Int32 → Int32 → Int32 → Int32 → Sg → Option (Int32 × Sg)) (k96 : Int32 → Int32 → Int32 → Int32 → Int32 → Int32 → Sg → Option (Int32 × Sg)) (a3 : Int32) (a4 : Int32) (a5 : Int32) (a6 : Int32) (a7 : Int32) (a8 : Int32) (a10 : Int32) (s0 : Sg) : Option (Int32 × Sg) :=
  chk (gi a7 10) (
  if (s0 52 0 a7.toNatClampNeg) < a10 then
  k96 a3 a4 a5 a6 a7 (a8 + (1 : Int32)) s0
  else
  Option.bind (f_X10_coming a7 a10 s0) fun q2 =>
  chk (gi (((7 : Int32) * a7) + a10) 70) (
  bdI (q2.2 55 0 (((7 : Int32) * a7) + a10).toNatClampNeg) fun x4 =>
  if q2.1 = (-1 : Int32) then
  k156 a3 a4 a5 a6 a7 a8 (a10 + (1 : Int32)) q2.2
  else
  if x4 = a3 then
  if a5 ≤ q2.1 then
  (f_X10_earliest_B219 k156 k96) a3 a4 a5 a6 a7 a8 a10 q2.1 x4 q2.2
  else
  (f_X10_earliest_B219 k156 k96) a3 a4 q2.1 a6 a7 a8 a10 q2.1 x4 q2.2
  else
  (f_X10_earliest_B219 k156 k96) a3 a4 a5 a6 a7 a8 a10 q2.1 x4 q2.2))
set_option maxRecDepth 4000 in
theorem i_X10_earliest_B156 (X : Cx) (g : GT) (hF : Fx X g RX10 cX10_earliest 13 5 111) (hM : FM X g (some .int)) (hI : GI g) (k156 : Int32 → Int32 → Int32 → Int32 → Int32 → Int32 → Int32 → Sg → Option (Int32 × Sg)) (hk156 : ∀ (a3 : Int32) (a4 : Int32) (a5 : Int32) (a6 : Int32) (a7 : Int32) (a8 : Int32) (a10 : Int32) (s0 : Sg), Im X g 13 (Qm X g embI) s0 156 [(0, .ref (g.2.1 10 0)), (3, .int a3), (4, .int a4), (5, .int a5), (6, .int a6), (7, .int a7), (8, .int a8), (10, .int a10)] [] (k156 a3 a4 a5 a6 a7 a8 a10 s0)) (k96 : Int32 → Int32 → Int32 → Int32 → Int32 → Int32 → Sg → Option (Int32 × Sg)) (hk96 : ∀ (a3 : Int32) (a4 : Int32) (a5 : Int32) (a6 : Int32) (a7 : Int32) (a8 : Int32) (s0 : Sg), Im X g 13 (Qm X g embI) s0 96 [(0, .ref (g.2.1 10 0)), (3, .int a3), (4, .int a4), (5, .int a5), (6, .int a6), (7, .int a7), (8, .int a8)] [] (k96 a3 a4 a5 a6 a7 a8 s0)) (a3 : Int32) (a4 : Int32) (a5 : Int32) (a6 : Int32) (a7 : Int32) (a8 : Int32) (a10 : Int32) (s0 : Sg) : Im X g 13 (Qm X g embI) s0 156 [(0, .ref (g.2.1 10 0)), (3, .int a3), (4, .int a4), (5, .int a5), (6, .int a6), (7, .int a7), (8, .int a8), (10, .int a10)] [] (f_X10_earliest_B156 k156 k96 a3 a4 a5 a6 a7 a8 a10 s0) := by
  unfold f_X10_earliest_B156
  refine im_iload hF dX10_earliest_156 7 rfl ?_
  refine im_aload_n hF dX10_earliest_158 0 rfl ?_
  refine im_get hF (v := .ref (g.2.1 52 0)) fl_10_34 (by decide) (by decide) rfl dX10_earliest_159 ?_
  refine im_iload hF dX10_earliest_162 5 rfl ?_
  refine im_iald hF ar_52 (by decide) dX10_earliest_164 (fun h1 => ?_)
  refine im_icmp_gt hF 250 dX10_earliest_165 (by decide) (fun _ => ?_) (fun _ => ?_)
  · refine im_iinc hF dX10_earliest_250 (v := (a8 + (1 : Int32))) (lv' := [(8, .int (a8 + (1 : Int32))), (0, .ref (g.2.1 10 0)), (3, .int a3), (4, .int a4), (5, .int a5), (6, .int a6), (7, .int a7), (10, .int a10)]) 6 rfl rfl (by decide) rfl ?_
    refine im_goto hF 96 dX10_earliest_253 (by decide) ?_
    refine im_sub (lv' := [(0, .ref (g.2.1 10 0)), (3, .int a3), (4, .int a4), (5, .int a5), (6, .int a6), (7, .int a7), (8, .int (a8 + (1 : Int32)))]) [1, 2, 3, 4, 5, 6, 0] rfl ?_
    exact hk96 a3 a4 a5 a6 a7 (a8 + (1 : Int32)) s0
  · refine im_aload_n hF dX10_earliest_168 0 rfl ?_
    refine im_iload hF dX10_earliest_169 5 rfl ?_
    refine im_iload hF dX10_earliest_171 7 rfl ?_
    refine im_callVI hF (As := [.int a7, .int a10]) (rest := []) my_X10_coming mv_X10_coming wl_1122 (fun l r hr => c_X10_coming l g hI a7 a10 s0 r hr) ⟨by decide, by decide⟩ (by decide) (by decide) ⟨_, rfl, rfl⟩ rfl rfl (Nat.le_of_ble_eq_true rfl) dX10_earliest_173 (fun q2 => ?_)
    refine im_istore hF dX10_earliest_176 (lv' := [(11, .int q2.1), (0, .ref (g.2.1 10 0)), (3, .int a3), (4, .int a4), (5, .int a5), (6, .int a6), (7, .int a7), (8, .int a8), (10, .int a10)]) (by decide) rfl ?_
    refine im_aload_n hF dX10_earliest_178 1 rfl ?_
    refine im_get hF (v := .ref (g.2.1 55 0)) fl_10_43 (by decide) (by decide) rfl dX10_earliest_179 ?_
    refine im_bipush hF dX10_earliest_182 (v := (7 : Int32)) (by decide) ?_
    refine im_iload hF dX10_earliest_184 6 rfl ?_
    refine im_imul hF dX10_earliest_186 ?_
    refine im_iload hF dX10_earliest_187 8 rfl ?_
    refine im_iadd hF dX10_earliest_189 ?_
    refine im_iald hF ar_55 (by decide) dX10_earliest_190 (fun h3 => ?_)
    refine im_bdI (fun x4 => ?_)
    refine im_istore hF dX10_earliest_191 (lv' := [(12, .int x4), (11, .int q2.1), (0, .ref (g.2.1 10 0)), (3, .int a3), (4, .int a4), (5, .int a5), (6, .int a6), (7, .int a7), (8, .int a8), (10, .int a10)]) (by decide) rfl ?_
    refine im_iload hF dX10_earliest_193 1 rfl ?_
    refine im_iconst hF dX10_earliest_195 (v := (-1 : Int32)) (by decide) ?_
    refine im_icmp_ne hF 202 dX10_earliest_196 (by decide) (fun _ => ?_) (fun _ => ?_)
    · refine im_goto hF 244 dX10_earliest_199 (by decide) ?_
      refine im_iinc hF dX10_earliest_244 (v := (a10 + (1 : Int32))) (lv' := [(10, .int (a10 + (1 : Int32))), (12, .int x4), (11, .int q2.1), (0, .ref (g.2.1 10 0)), (3, .int a3), (4, .int a4), (5, .int a5), (6, .int a6), (7, .int a7), (8, .int a8)]) 9 rfl rfl (by decide) rfl ?_
      refine im_goto hF 156 dX10_earliest_247 (by decide) ?_
      refine im_sub (lv' := [(0, .ref (g.2.1 10 0)), (3, .int a3), (4, .int a4), (5, .int a5), (6, .int a6), (7, .int a7), (8, .int a8), (10, .int (a10 + (1 : Int32)))]) [3, 4, 5, 6, 7, 8, 9, 0] rfl ?_
      exact hk156 a3 a4 a5 a6 a7 a8 (a10 + (1 : Int32)) q2.2
    · refine im_iload hF dX10_earliest_202 0 rfl ?_
      refine im_iload_n hF dX10_earliest_204 3 rfl ?_
      refine im_icmp_ne hF 219 dX10_earliest_205 (by decide) (fun _ => ?_) (fun _ => ?_)
      · refine im_iload hF dX10_earliest_208 1 rfl ?_
        refine im_iload hF dX10_earliest_210 5 rfl ?_
        refine im_icmp_ge hF 219 dX10_earliest_212 (by decide) (fun _ => ?_) (fun _ => ?_)
        · refine im_sub (lv' := [(0, .ref (g.2.1 10 0)), (3, .int a3), (4, .int a4), (5, .int a5), (6, .int a6), (7, .int a7), (8, .int a8), (10, .int a10), (11, .int q2.1), (12, .int x4)]) [2, 3, 4, 5, 6, 7, 8, 9, 1, 0] rfl ?_
          exact (i_X10_earliest_B219 X g hF hM hI k156 hk156 k96 hk96) a3 a4 a5 a6 a7 a8 a10 q2.1 x4 q2.2
        · refine im_iload hF dX10_earliest_215 1 rfl ?_
          refine im_istore hF dX10_earliest_217 (lv' := [(5, .int q2.1), (12, .int x4), (11, .int q2.1), (0, .ref (g.2.1 10 0)), (3, .int a3), (4, .int a4), (6, .int a6), (7, .int a7), (8, .int a8), (10, .int a10)]) (by decide) rfl ?_
          refine im_sub (lv' := [(0, .ref (g.2.1 10 0)), (3, .int a3), (4, .int a4), (5, .int q2.1), (6, .int a6), (7, .int a7), (8, .int a8), (10, .int a10), (11, .int q2.1), (12, .int x4)]) [3, 4, 5, 0, 6, 7, 8, 9, 2, 1] rfl ?_
          exact (i_X10_earliest_B219 X g hF hM hI k156 hk156 k96 hk96) a3 a4 q2.1 a6 a7 a8 a10 q2.1 x4 q2.2
      · refine im_sub (lv' := [(0, .ref (g.2.1 10 0)), (3, .int a3), (4, .int a4), (5, .int a5), (6, .int a6), (7, .int a7), (8, .int a8), (10, .int a10), (11, .int q2.1), (12, .int x4)]) [2, 3, 4, 5, 6, 7, 8, 9, 1, 0] rfl ?_
        exact (i_X10_earliest_B219 X g hF hM hI k156 hk156 k96 hk96) a3 a4 a5 a6 a7 a8 a10 q2.1 x4 q2.2
def f_X10_earliest_L156 (k96 : Int32 → Int32 → Int32 → Int32 → Int32 → Int32 → Sg → Option (Int32 × Sg)) : Nat → Int32 → Int32 → Int32 → Int32 → Int32 → Int32 → Int32 → Sg → Option (Int32 × Sg)
  | 0 => fun _ _ _ _ _ _ _ _ => none
  | n + 1 => fun a3 a4 a5 a6 a7 a8 a10 s0 => f_X10_earliest_B156 (f_X10_earliest_L156 k96 n) k96 a3 a4 a5 a6 a7 a8 a10 s0
theorem i_X10_earliest_L156 (X : Cx) (g : GT) (hF : Fx X g RX10 cX10_earliest 13 5 111) (hM : FM X g (some .int)) (hI : GI g) (k96 : Int32 → Int32 → Int32 → Int32 → Int32 → Int32 → Sg → Option (Int32 × Sg)) (hk96 : ∀ (a3 : Int32) (a4 : Int32) (a5 : Int32) (a6 : Int32) (a7 : Int32) (a8 : Int32) (s0 : Sg), Im X g 13 (Qm X g embI) s0 96 [(0, .ref (g.2.1 10 0)), (3, .int a3), (4, .int a4), (5, .int a5), (6, .int a6), (7, .int a7), (8, .int a8)] [] (k96 a3 a4 a5 a6 a7 a8 s0)) : ∀ (n : Nat) (a3 : Int32) (a4 : Int32) (a5 : Int32) (a6 : Int32) (a7 : Int32) (a8 : Int32) (a10 : Int32) (s0 : Sg), Im X g 13 (Qm X g embI) s0 156 [(0, .ref (g.2.1 10 0)), (3, .int a3), (4, .int a4), (5, .int a5), (6, .int a6), (7, .int a7), (8, .int a8), (10, .int a10)] [] (f_X10_earliest_L156 k96 n a3 a4 a5 a6 a7 a8 a10 s0) := by
  intro n
  induction n with
  | zero => intros; exact im_none
  | succ n ih => intro a3 a4 a5 a6 a7 a8 a10 s0; exact i_X10_earliest_B156 X g hF hM hI (f_X10_earliest_L156 k96 n) ih k96 hk96 a3 a4 a5 a6 a7 a8 a10 s0
def f_X10_earliest_B96 (k96 : Int32 → Int32 → Int32 → Int32 → Int32 → Int32 → Sg → Option (Int32 × Sg)) (k84 : Int32 → Int32 → Int32 → Int32 → Int32 → Sg → Option (Int32 × Sg)) (a3 : Int32) (a4 : Int32) (a5 : Int32) (a6 : Int32) (a7 : Int32) (a8 : Int32) (s0 : Sg) : Option (Int32 × Sg) :=
  chk (gi a7 10) (
  if (s0 52 0 a7.toNatClampNeg) ≤ a8 then
  k84 a3 a4 a5 a6 (a7 + (1 : Int32)) s0
  else
  Option.bind (f_X10_leaving a7 a8 s0) fun q2 =>
  if q2.1 = (-1 : Int32) then
  k96 a3 a4 a5 a6 a7 (a8 + (1 : Int32)) q2.2
  else
  chk (gi (((7 : Int32) * a7) + a8) 70) (
  chk (gi (q2.2 55 0 (((7 : Int32) * a7) + a8).toNatClampNeg) 8) (
  if (q2.2 84 0 (q2.2 55 0 (((7 : Int32) * a7) + a8).toNatClampNeg).toNatClampNeg) ≤ q2.1 then
  bdI (a8 + (1 : Int32)) fun x5 =>
  (f_X10_earliest_L156 k96 FU) a3 a4 a5 a6 a7 a8 x5 q2.2
  else
  k96 a3 a4 a5 a6 a7 (a8 + (1 : Int32)) q2.2)))
set_option maxRecDepth 4000 in
theorem i_X10_earliest_B96 (X : Cx) (g : GT) (hF : Fx X g RX10 cX10_earliest 13 5 111) (hM : FM X g (some .int)) (hI : GI g) (k96 : Int32 → Int32 → Int32 → Int32 → Int32 → Int32 → Sg → Option (Int32 × Sg)) (hk96 : ∀ (a3 : Int32) (a4 : Int32) (a5 : Int32) (a6 : Int32) (a7 : Int32) (a8 : Int32) (s0 : Sg), Im X g 13 (Qm X g embI) s0 96 [(0, .ref (g.2.1 10 0)), (3, .int a3), (4, .int a4), (5, .int a5), (6, .int a6), (7, .int a7), (8, .int a8)] [] (k96 a3 a4 a5 a6 a7 a8 s0)) (k84 : Int32 → Int32 → Int32 → Int32 → Int32 → Sg → Option (Int32 × Sg)) (hk84 : ∀ (a3 : Int32) (a4 : Int32) (a5 : Int32) (a6 : Int32) (a7 : Int32) (s0 : Sg), Im X g 13 (Qm X g embI) s0 84 [(0, .ref (g.2.1 10 0)), (3, .int a3), (4, .int a4), (5, .int a5), (6, .int a6), (7, .int a7)] [] (k84 a3 a4 a5 a6 a7 s0)) (a3 : Int32) (a4 : Int32) (a5 : Int32) (a6 : Int32) (a7 : Int32) (a8 : Int32) (s0 : Sg) : Im X g 13 (Qm X g embI) s0 96 [(0, .ref (g.2.1 10 0)), (3, .int a3), (4, .int a4), (5, .int a5), (6, .int a6), (7, .int a7), (8, .int a8)] [] (f_X10_earliest_B96 k96 k84 a3 a4 a5 a6 a7 a8 s0) := by
  unfold f_X10_earliest_B96
  refine im_iload hF dX10_earliest_96 6 rfl ?_
  refine im_aload_n hF dX10_earliest_98 0 rfl ?_
  refine im_get hF (v := .ref (g.2.1 52 0)) fl_10_34 (by decide) (by decide) rfl dX10_earliest_99 ?_
  refine im_iload hF dX10_earliest_102 5 rfl ?_
  refine im_iald hF ar_52 (by decide) dX10_earliest_104 (fun h1 => ?_)
  refine im_icmp_ge hF 256 dX10_earliest_105 (by decide) (fun _ => ?_) (fun _ => ?_)
  · refine im_iinc hF dX10_earliest_256 (v := (a7 + (1 : Int32))) (lv' := [(7, .int (a7 + (1 : Int32))), (0, .ref (g.2.1 10 0)), (3, .int a3), (4, .int a4), (5, .int a5), (6, .int a6), (8, .int a8)]) 5 rfl rfl (by decide) rfl ?_
    refine im_goto hF 84 dX10_earliest_259 (by decide) ?_
    refine im_sub (lv' := [(0, .ref (g.2.1 10 0)), (3, .int a3), (4, .int a4), (5, .int a5), (6, .int a6), (7, .int (a7 + (1 : Int32)))]) [1, 2, 3, 4, 5, 0] rfl ?_
    exact hk84 a3 a4 a5 a6 (a7 + (1 : Int32)) s0
  · refine im_aload_n hF dX10_earliest_108 0 rfl ?_
    refine im_iload hF dX10_earliest_109 5 rfl ?_
    refine im_iload hF dX10_earliest_111 6 rfl ?_
    refine im_callVI hF (As := [.int a7, .int a8]) (rest := []) my_X10_leaving mv_X10_leaving wl_1118 (fun l r hr => c_X10_leaving l g hI a7 a8 s0 r hr) ⟨by decide, by decide⟩ (by decide) (by decide) ⟨_, rfl, rfl⟩ rfl rfl (Nat.le_of_ble_eq_true rfl) dX10_earliest_113 (fun q2 => ?_)
    refine im_istore hF dX10_earliest_116 (lv' := [(9, .int q2.1), (0, .ref (g.2.1 10 0)), (3, .int a3), (4, .int a4), (5, .int a5), (6, .int a6), (7, .int a7), (8, .int a8)]) (by decide) rfl ?_
    refine im_iload hF dX10_earliest_118 0 rfl ?_
    refine im_iconst hF dX10_earliest_120 (v := (-1 : Int32)) (by decide) ?_
    refine im_icmp_eq hF 250 dX10_earliest_121 (by decide) (fun _ => ?_) (fun _ => ?_)
    · refine im_iinc hF dX10_earliest_250 (v := (a8 + (1 : Int32))) (lv' := [(8, .int (a8 + (1 : Int32))), (9, .int q2.1), (0, .ref (g.2.1 10 0)), (3, .int a3), (4, .int a4), (5, .int a5), (6, .int a6), (7, .int a7)]) 7 rfl rfl (by decide) rfl ?_
      refine im_goto hF 96 dX10_earliest_253 (by decide) ?_
      refine im_sub (lv' := [(0, .ref (g.2.1 10 0)), (3, .int a3), (4, .int a4), (5, .int a5), (6, .int a6), (7, .int a7), (8, .int (a8 + (1 : Int32)))]) [2, 3, 4, 5, 6, 7, 0] rfl ?_
      exact hk96 a3 a4 a5 a6 a7 (a8 + (1 : Int32)) q2.2
    · refine im_iload hF dX10_earliest_124 0 rfl ?_
      refine im_aload_n hF dX10_earliest_126 1 rfl ?_
      refine im_get hF (v := .ref (g.2.1 84 0)) fl_10_136 (by decide) (by decide) rfl dX10_earliest_127 ?_
      refine im_aload_n hF dX10_earliest_130 1 rfl ?_
      refine im_get hF (v := .ref (g.2.1 55 0)) fl_10_43 (by decide) (by decide) rfl dX10_earliest_131 ?_
      refine im_bipush hF dX10_earliest_134 (v := (7 : Int32)) (by decide) ?_
      refine im_iload hF dX10_earliest_136 6 rfl ?_
      refine im_imul hF dX10_earliest_138 ?_
      refine im_iload hF dX10_earliest_139 7 rfl ?_
      refine im_iadd hF dX10_earliest_141 ?_
      refine im_iald hF ar_55 (by decide) dX10_earliest_142 (fun h3 => ?_)
      refine im_iald hF ar_84 (by decide) dX10_earliest_143 (fun h4 => ?_)
      refine im_icmp_ge hF 150 dX10_earliest_144 (by decide) (fun _ => ?_) (fun _ => ?_)
      · refine im_iload hF dX10_earliest_150 7 rfl ?_
        refine im_iconst hF dX10_earliest_152 (v := (1 : Int32)) (by decide) ?_
        refine im_iadd hF dX10_earliest_153 ?_
        refine im_bdI (fun x5 => ?_)
        refine im_istore hF dX10_earliest_154 (lv' := [(10, .int x5), (9, .int q2.1), (0, .ref (g.2.1 10 0)), (3, .int a3), (4, .int a4), (5, .int a5), (6, .int a6), (7, .int a7), (8, .int a8)]) (by decide) rfl ?_
        refine im_sub (lv' := [(0, .ref (g.2.1 10 0)), (3, .int a3), (4, .int a4), (5, .int a5), (6, .int a6), (7, .int a7), (8, .int a8), (10, .int x5)]) [2, 3, 4, 5, 6, 7, 8, 0] rfl ?_
        exact (i_X10_earliest_L156 X g hF hM hI k96 hk96 FU) a3 a4 a5 a6 a7 a8 x5 q2.2
      · refine im_goto hF 250 dX10_earliest_147 (by decide) ?_
        refine im_iinc hF dX10_earliest_250 (v := (a8 + (1 : Int32))) (lv' := [(8, .int (a8 + (1 : Int32))), (9, .int q2.1), (0, .ref (g.2.1 10 0)), (3, .int a3), (4, .int a4), (5, .int a5), (6, .int a6), (7, .int a7)]) 7 rfl rfl (by decide) rfl ?_
        refine im_goto hF 96 dX10_earliest_253 (by decide) ?_
        refine im_sub (lv' := [(0, .ref (g.2.1 10 0)), (3, .int a3), (4, .int a4), (5, .int a5), (6, .int a6), (7, .int a7), (8, .int (a8 + (1 : Int32)))]) [2, 3, 4, 5, 6, 7, 0] rfl ?_
        exact hk96 a3 a4 a5 a6 a7 (a8 + (1 : Int32)) q2.2
def f_X10_earliest_L96 (k84 : Int32 → Int32 → Int32 → Int32 → Int32 → Sg → Option (Int32 × Sg)) : Nat → Int32 → Int32 → Int32 → Int32 → Int32 → Int32 → Sg → Option (Int32 × Sg)
  | 0 => fun _ _ _ _ _ _ _ => none
  | n + 1 => fun a3 a4 a5 a6 a7 a8 s0 => f_X10_earliest_B96 (f_X10_earliest_L96 k84 n) k84 a3 a4 a5 a6 a7 a8 s0
theorem i_X10_earliest_L96 (X : Cx) (g : GT) (hF : Fx X g RX10 cX10_earliest 13 5 111) (hM : FM X g (some .int)) (hI : GI g) (k84 : Int32 → Int32 → Int32 → Int32 → Int32 → Sg → Option (Int32 × Sg)) (hk84 : ∀ (a3 : Int32) (a4 : Int32) (a5 : Int32) (a6 : Int32) (a7 : Int32) (s0 : Sg), Im X g 13 (Qm X g embI) s0 84 [(0, .ref (g.2.1 10 0)), (3, .int a3), (4, .int a4), (5, .int a5), (6, .int a6), (7, .int a7)] [] (k84 a3 a4 a5 a6 a7 s0)) : ∀ (n : Nat) (a3 : Int32) (a4 : Int32) (a5 : Int32) (a6 : Int32) (a7 : Int32) (a8 : Int32) (s0 : Sg), Im X g 13 (Qm X g embI) s0 96 [(0, .ref (g.2.1 10 0)), (3, .int a3), (4, .int a4), (5, .int a5), (6, .int a6), (7, .int a7), (8, .int a8)] [] (f_X10_earliest_L96 k84 n a3 a4 a5 a6 a7 a8 s0) := by
  intro n
  induction n with
  | zero => intros; exact im_none
  | succ n ih => intro a3 a4 a5 a6 a7 a8 s0; exact i_X10_earliest_B96 X g hF hM hI (f_X10_earliest_L96 k84 n) ih k84 hk84 a3 a4 a5 a6 a7 a8 s0
def f_X10_earliest_B84 (k84 : Int32 → Int32 → Int32 → Int32 → Int32 → Sg → Option (Int32 × Sg)) (k265 : Int32 → Int32 → Int32 → Int32 → Int32 → Sg → Option (Int32 × Sg)) (a3 : Int32) (a4 : Int32) (a5 : Int32) (a6 : Int32) (a7 : Int32) (s0 : Sg) : Option (Int32 × Sg) :=
  if (s0 10 0 1) ≤ a7 then
  k265 a3 a4 a5 a6 (0 : Int32) s0
  else
  (f_X10_earliest_L96 k84 FU) a3 a4 a5 a6 a7 (0 : Int32) s0
set_option maxRecDepth 4000 in
theorem i_X10_earliest_B84 (X : Cx) (g : GT) (hF : Fx X g RX10 cX10_earliest 13 5 111) (hM : FM X g (some .int)) (hI : GI g) (k84 : Int32 → Int32 → Int32 → Int32 → Int32 → Sg → Option (Int32 × Sg)) (hk84 : ∀ (a3 : Int32) (a4 : Int32) (a5 : Int32) (a6 : Int32) (a7 : Int32) (s0 : Sg), Im X g 13 (Qm X g embI) s0 84 [(0, .ref (g.2.1 10 0)), (3, .int a3), (4, .int a4), (5, .int a5), (6, .int a6), (7, .int a7)] [] (k84 a3 a4 a5 a6 a7 s0)) (k265 : Int32 → Int32 → Int32 → Int32 → Int32 → Sg → Option (Int32 × Sg)) (hk265 : ∀ (a3 : Int32) (a4 : Int32) (a5 : Int32) (a6 : Int32) (a7 : Int32) (s0 : Sg), Im X g 13 (Qm X g embI) s0 265 [(0, .ref (g.2.1 10 0)), (3, .int a3), (4, .int a4), (5, .int a5), (6, .int a6), (7, .int a7)] [] (k265 a3 a4 a5 a6 a7 s0)) (a3 : Int32) (a4 : Int32) (a5 : Int32) (a6 : Int32) (a7 : Int32) (s0 : Sg) : Im X g 13 (Qm X g embI) s0 84 [(0, .ref (g.2.1 10 0)), (3, .int a3), (4, .int a4), (5, .int a5), (6, .int a6), (7, .int a7)] [] (f_X10_earliest_B84 k84 k265 a3 a4 a5 a6 a7 s0) := by
  unfold f_X10_earliest_B84
  refine im_iload hF dX10_earliest_84 5 rfl ?_
  refine im_aload_n hF dX10_earliest_86 0 rfl ?_
  refine im_get hF (v := .int (s0 10 0 1)) fl_10_151 (by decide) (by decide) rfl dX10_earliest_87 ?_
  refine im_icmp_ge hF 262 dX10_earliest_90 (by decide) (fun _ => ?_) (fun _ => ?_)
  · refine im_iconst hF dX10_earliest_262 (v := (0 : Int32)) (by decide) ?_
    refine im_istore hF dX10_earliest_263 (lv' := [(7, .int (0 : Int32)), (0, .ref (g.2.1 10 0)), (3, .int a3), (4, .int a4), (5, .int a5), (6, .int a6)]) (by decide) rfl ?_
    refine im_sub (lv' := [(0, .ref (g.2.1 10 0)), (3, .int a3), (4, .int a4), (5, .int a5), (6, .int a6), (7, .int (0 : Int32))]) [1, 2, 3, 4, 5, 0] rfl ?_
    exact hk265 a3 a4 a5 a6 (0 : Int32) s0
  · refine im_iconst hF dX10_earliest_93 (v := (0 : Int32)) (by decide) ?_
    refine im_istore hF dX10_earliest_94 (lv' := [(8, .int (0 : Int32)), (0, .ref (g.2.1 10 0)), (3, .int a3), (4, .int a4), (5, .int a5), (6, .int a6), (7, .int a7)]) (by decide) rfl ?_
    refine im_sub (lv' := [(0, .ref (g.2.1 10 0)), (3, .int a3), (4, .int a4), (5, .int a5), (6, .int a6), (7, .int a7), (8, .int (0 : Int32))]) [1, 2, 3, 4, 5, 6, 0] rfl ?_
    exact (i_X10_earliest_L96 X g hF hM hI k84 hk84 FU) a3 a4 a5 a6 a7 (0 : Int32) s0
def f_X10_earliest_L84 (k265 : Int32 → Int32 → Int32 → Int32 → Int32 → Sg → Option (Int32 × Sg)) : Nat → Int32 → Int32 → Int32 → Int32 → Int32 → Sg → Option (Int32 × Sg)
  | 0 => fun _ _ _ _ _ _ => none
  | n + 1 => fun a3 a4 a5 a6 a7 s0 => f_X10_earliest_B84 (f_X10_earliest_L84 k265 n) k265 a3 a4 a5 a6 a7 s0
theorem i_X10_earliest_L84 (X : Cx) (g : GT) (hF : Fx X g RX10 cX10_earliest 13 5 111) (hM : FM X g (some .int)) (hI : GI g) (k265 : Int32 → Int32 → Int32 → Int32 → Int32 → Sg → Option (Int32 × Sg)) (hk265 : ∀ (a3 : Int32) (a4 : Int32) (a5 : Int32) (a6 : Int32) (a7 : Int32) (s0 : Sg), Im X g 13 (Qm X g embI) s0 265 [(0, .ref (g.2.1 10 0)), (3, .int a3), (4, .int a4), (5, .int a5), (6, .int a6), (7, .int a7)] [] (k265 a3 a4 a5 a6 a7 s0)) : ∀ (n : Nat) (a3 : Int32) (a4 : Int32) (a5 : Int32) (a6 : Int32) (a7 : Int32) (s0 : Sg), Im X g 13 (Qm X g embI) s0 84 [(0, .ref (g.2.1 10 0)), (3, .int a3), (4, .int a4), (5, .int a5), (6, .int a6), (7, .int a7)] [] (f_X10_earliest_L84 k265 n a3 a4 a5 a6 a7 s0) := by
  intro n
  induction n with
  | zero => intros; exact im_none
  | succ n ih => intro a3 a4 a5 a6 a7 s0; exact i_X10_earliest_B84 X g hF hM hI (f_X10_earliest_L84 k265 n) ih k265 hk265 a3 a4 a5 a6 a7 s0
def f_X10_earliest_B265 (k265 : Int32 → Int32 → Int32 → Int32 → Int32 → Sg → Option (Int32 × Sg)) (k44 : Int32 → Int32 → Int32 → Int32 → Sg → Option (Int32 × Sg)) (a3 : Int32) (a4 : Int32) (a5 : Int32) (a6 : Int32) (a7 : Int32) (s0 : Sg) : Option (Int32 × Sg) :=
  if (8 : Int32) ≤ a7 then
  k44 a3 a4 a5 (a6 + (1 : Int32)) s0
  else
  chk (gi a7 8) (
  chk (gi a7 8) (bdS (up3 s0 84 0 a7.toNatClampNeg (s0 85 0 a7.toNatClampNeg)) fun s3 =>
  k265 a3 a4 a5 a6 (a7 + (1 : Int32)) s3))
set_option maxRecDepth 4000 in
theorem i_X10_earliest_B265 (X : Cx) (g : GT) (hF : Fx X g RX10 cX10_earliest 13 5 111) (hM : FM X g (some .int)) (hI : GI g) (k265 : Int32 → Int32 → Int32 → Int32 → Int32 → Sg → Option (Int32 × Sg)) (hk265 : ∀ (a3 : Int32) (a4 : Int32) (a5 : Int32) (a6 : Int32) (a7 : Int32) (s0 : Sg), Im X g 13 (Qm X g embI) s0 265 [(0, .ref (g.2.1 10 0)), (3, .int a3), (4, .int a4), (5, .int a5), (6, .int a6), (7, .int a7)] [] (k265 a3 a4 a5 a6 a7 s0)) (k44 : Int32 → Int32 → Int32 → Int32 → Sg → Option (Int32 × Sg)) (hk44 : ∀ (a3 : Int32) (a4 : Int32) (a5 : Int32) (a6 : Int32) (s0 : Sg), Im X g 13 (Qm X g embI) s0 44 [(0, .ref (g.2.1 10 0)), (3, .int a3), (4, .int a4), (5, .int a5), (6, .int a6)] [] (k44 a3 a4 a5 a6 s0)) (a3 : Int32) (a4 : Int32) (a5 : Int32) (a6 : Int32) (a7 : Int32) (s0 : Sg) : Im X g 13 (Qm X g embI) s0 265 [(0, .ref (g.2.1 10 0)), (3, .int a3), (4, .int a4), (5, .int a5), (6, .int a6), (7, .int a7)] [] (f_X10_earliest_B265 k265 k44 a3 a4 a5 a6 a7 s0) := by
  unfold f_X10_earliest_B265
  refine im_iload hF dX10_earliest_265 5 rfl ?_
  refine im_bipush hF dX10_earliest_267 (v := (8 : Int32)) (by decide) ?_
  refine im_icmp_ge hF 292 dX10_earliest_269 (by decide) (fun _ => ?_) (fun _ => ?_)
  · refine im_iinc hF dX10_earliest_292 (v := (a6 + (1 : Int32))) (lv' := [(6, .int (a6 + (1 : Int32))), (0, .ref (g.2.1 10 0)), (3, .int a3), (4, .int a4), (5, .int a5), (7, .int a7)]) 4 rfl rfl (by decide) rfl ?_
    refine im_goto hF 44 dX10_earliest_295 (by decide) ?_
    refine im_sub (lv' := [(0, .ref (g.2.1 10 0)), (3, .int a3), (4, .int a4), (5, .int a5), (6, .int (a6 + (1 : Int32)))]) [1, 2, 3, 4, 0] rfl ?_
    exact hk44 a3 a4 a5 (a6 + (1 : Int32)) s0
  · refine im_aload_n hF dX10_earliest_272 0 rfl ?_
    refine im_get hF (v := .ref (g.2.1 84 0)) fl_10_136 (by decide) (by decide) rfl dX10_earliest_273 ?_
    refine im_iload hF dX10_earliest_276 5 rfl ?_
    refine im_aload_n hF dX10_earliest_278 0 rfl ?_
    refine im_get hF (v := .ref (g.2.1 85 0)) fl_10_139 (by decide) (by decide) rfl dX10_earliest_279 ?_
    refine im_iload hF dX10_earliest_282 5 rfl ?_
    refine im_iald hF ar_85 (by decide) dX10_earliest_284 (fun h1 => ?_)
    refine im_iast hF ar_84 (by decide) dX10_earliest_285 (fun h2 => im_bdS (fun s3 => ?_))
    refine im_iinc hF dX10_earliest_286 (v := (a7 + (1 : Int32))) (lv' := [(7, .int (a7 + (1 : Int32))), (0, .ref (g.2.1 10 0)), (3, .int a3), (4, .int a4), (5, .int a5), (6, .int a6)]) 5 rfl rfl (by decide) rfl ?_
    refine im_goto hF 265 dX10_earliest_289 (by decide) ?_
    refine im_sub (lv' := [(0, .ref (g.2.1 10 0)), (3, .int a3), (4, .int a4), (5, .int a5), (6, .int a6), (7, .int (a7 + (1 : Int32)))]) [1, 2, 3, 4, 5, 0] rfl ?_
    exact hk265 a3 a4 a5 a6 (a7 + (1 : Int32)) s3
def f_X10_earliest_L265 (k44 : Int32 → Int32 → Int32 → Int32 → Sg → Option (Int32 × Sg)) : Nat → Int32 → Int32 → Int32 → Int32 → Int32 → Sg → Option (Int32 × Sg)
  | 0 => fun _ _ _ _ _ _ => none
  | n + 1 => fun a3 a4 a5 a6 a7 s0 => f_X10_earliest_B265 (f_X10_earliest_L265 k44 n) k44 a3 a4 a5 a6 a7 s0
theorem i_X10_earliest_L265 (X : Cx) (g : GT) (hF : Fx X g RX10 cX10_earliest 13 5 111) (hM : FM X g (some .int)) (hI : GI g) (k44 : Int32 → Int32 → Int32 → Int32 → Sg → Option (Int32 × Sg)) (hk44 : ∀ (a3 : Int32) (a4 : Int32) (a5 : Int32) (a6 : Int32) (s0 : Sg), Im X g 13 (Qm X g embI) s0 44 [(0, .ref (g.2.1 10 0)), (3, .int a3), (4, .int a4), (5, .int a5), (6, .int a6)] [] (k44 a3 a4 a5 a6 s0)) : ∀ (n : Nat) (a3 : Int32) (a4 : Int32) (a5 : Int32) (a6 : Int32) (a7 : Int32) (s0 : Sg), Im X g 13 (Qm X g embI) s0 265 [(0, .ref (g.2.1 10 0)), (3, .int a3), (4, .int a4), (5, .int a5), (6, .int a6), (7, .int a7)] [] (f_X10_earliest_L265 k44 n a3 a4 a5 a6 a7 s0) := by
  intro n
  induction n with
  | zero => intros; exact im_none
  | succ n ih => intro a3 a4 a5 a6 a7 s0; exact i_X10_earliest_B265 X g hF hM hI (f_X10_earliest_L265 k44 n) ih k44 hk44 a3 a4 a5 a6 a7 s0
def f_X10_earliest_B44 (k44 : Int32 → Int32 → Int32 → Int32 → Sg → Option (Int32 × Sg)) (a3 : Int32) (a4 : Int32) (a5 : Int32) (a6 : Int32) (s0 : Sg) : Option (Int32 × Sg) :=
  if a4 ≤ a6 then
  some (a5, s0)
  else
  (f_X10_earliest_L54 (f_X10_earliest_L84 (f_X10_earliest_L265 k44 FU) FU) FU) a3 a4 a5 a6 (0 : Int32) s0
set_option maxRecDepth 4000 in
theorem i_X10_earliest_B44 (X : Cx) (g : GT) (hF : Fx X g RX10 cX10_earliest 13 5 111) (hM : FM X g (some .int)) (hI : GI g) (k44 : Int32 → Int32 → Int32 → Int32 → Sg → Option (Int32 × Sg)) (hk44 : ∀ (a3 : Int32) (a4 : Int32) (a5 : Int32) (a6 : Int32) (s0 : Sg), Im X g 13 (Qm X g embI) s0 44 [(0, .ref (g.2.1 10 0)), (3, .int a3), (4, .int a4), (5, .int a5), (6, .int a6)] [] (k44 a3 a4 a5 a6 s0)) (a3 : Int32) (a4 : Int32) (a5 : Int32) (a6 : Int32) (s0 : Sg) : Im X g 13 (Qm X g embI) s0 44 [(0, .ref (g.2.1 10 0)), (3, .int a3), (4, .int a4), (5, .int a5), (6, .int a6)] [] (f_X10_earliest_B44 k44 a3 a4 a5 a6 s0) := by
  unfold f_X10_earliest_B44
  refine im_iload hF dX10_earliest_44 4 rfl ?_
  refine im_iload hF dX10_earliest_46 2 rfl ?_
  refine im_icmp_ge hF 298 dX10_earliest_48 (by decide) (fun _ => ?_) (fun _ => ?_)
  · refine im_iload hF dX10_earliest_298 3 rfl ?_
    exact im_iret hF hM dX10_earliest_300
  · refine im_iconst hF dX10_earliest_51 (v := (0 : Int32)) (by decide) ?_
    refine im_istore hF dX10_earliest_52 (lv' := [(7, .int (0 : Int32)), (0, .ref (g.2.1 10 0)), (3, .int a3), (4, .int a4), (5, .int a5), (6, .int a6)]) (by decide) rfl ?_
    refine im_sub (lv' := [(0, .ref (g.2.1 10 0)), (3, .int a3), (4, .int a4), (5, .int a5), (6, .int a6), (7, .int (0 : Int32))]) [1, 2, 3, 4, 5, 0] rfl ?_
    exact (i_X10_earliest_L54 X g hF hM hI (f_X10_earliest_L84 (f_X10_earliest_L265 k44 FU) FU) (i_X10_earliest_L84 X g hF hM hI (f_X10_earliest_L265 k44 FU) (i_X10_earliest_L265 X g hF hM hI k44 hk44 FU) FU) FU) a3 a4 a5 a6 (0 : Int32) s0
def f_X10_earliest_L44 : Nat → Int32 → Int32 → Int32 → Int32 → Sg → Option (Int32 × Sg)
  | 0 => fun _ _ _ _ _ => none
  | n + 1 => fun a3 a4 a5 a6 s0 => f_X10_earliest_B44 (f_X10_earliest_L44 n) a3 a4 a5 a6 s0
theorem i_X10_earliest_L44 (X : Cx) (g : GT) (hF : Fx X g RX10 cX10_earliest 13 5 111) (hM : FM X g (some .int)) (hI : GI g) : ∀ (n : Nat) (a3 : Int32) (a4 : Int32) (a5 : Int32) (a6 : Int32) (s0 : Sg), Im X g 13 (Qm X g embI) s0 44 [(0, .ref (g.2.1 10 0)), (3, .int a3), (4, .int a4), (5, .int a5), (6, .int a6)] [] (f_X10_earliest_L44 n a3 a4 a5 a6 s0) := by
  intro n
  induction n with
  | zero => intros; exact im_none
  | succ n ih => intro a3 a4 a5 a6 s0; exact i_X10_earliest_B44 X g hF hM hI (f_X10_earliest_L44 n) ih a3 a4 a5 a6 s0
def f_X10_earliest (a1 : Int32) (a2 : Int32) (a3 : Int32) (a4 : Int32) (s0 : Sg) : Option (Int32 × Sg) :=
  (f_X10_earliest_L8 (f_X10_earliest_L44 FU) FU) a1 a2 a3 a4 (1000000 : Int32) (0 : Int32) s0
set_option maxRecDepth 4000 in
theorem i_X10_earliest (X : Cx) (g : GT) (hF : Fx X g RX10 cX10_earliest 13 5 111) (hM : FM X g (some .int)) (hI : GI g) (a1 : Int32) (a2 : Int32) (a3 : Int32) (a4 : Int32) (s0 : Sg) : Im X g 13 (Qm X g embI) s0 0 [(0, .ref (g.2.1 10 0)), (1, .int a1), (2, .int a2), (3, .int a3), (4, .int a4)] [] (f_X10_earliest a1 a2 a3 a4 s0) := by
  unfold f_X10_earliest
  refine im_ldcw hF (v := (1000000 : Int32)) wl_1117 dX10_earliest_0 ?_
  refine im_istore hF dX10_earliest_3 (lv' := [(5, .int (1000000 : Int32)), (0, .ref (g.2.1 10 0)), (1, .int a1), (2, .int a2), (3, .int a3), (4, .int a4)]) (by decide) rfl ?_
  refine im_iconst hF dX10_earliest_5 (v := (0 : Int32)) (by decide) ?_
  refine im_istore hF dX10_earliest_6 (lv' := [(6, .int (0 : Int32)), (5, .int (1000000 : Int32)), (0, .ref (g.2.1 10 0)), (1, .int a1), (2, .int a2), (3, .int a3), (4, .int a4)]) (by decide) rfl ?_
  refine im_sub (lv' := [(0, .ref (g.2.1 10 0)), (1, .int a1), (2, .int a2), (3, .int a3), (4, .int a4), (5, .int (1000000 : Int32)), (6, .int (0 : Int32))]) [2, 3, 4, 5, 6, 1, 0] rfl ?_
  exact (i_X10_earliest_L8 X g hF hM hI (f_X10_earliest_L44 FU) (i_X10_earliest_L44 X g hF hM hI FU) FU) a1 a2 a3 a4 (1000000 : Int32) (0 : Int32) s0
theorem c_X10_earliest (l : Launch) (g : GT) (hI : GI g) (a1 : Int32) (a2 : Int32) (a3 : Int32) (a4 : Int32) (s0 : Sg) (r : (Int32 × Sg)) (hr : f_X10_earliest a1 a2 a3 a4 s0 = some r) : Ct l yX10_earliest cX10_earliest 13 (some .int) 5 111 g [.ref (g.2.1 10 0), .int a1, .int a2, .int a3, .int a4] s0 (embI r) := ct_of (by decide) hI (Nat.le_of_ble_eq_true rfl) (fun X hF hM => i_X10_earliest X g hF hM hI a1 a2 a3 a4 s0) r hr
def f_X10_isRide (a1 : Int32) (a2 : Int32) (a3 : Int32) (a4 : Int32) (a5 : Int32) (a6 : Int32) (a7 : Int32) (a8 : Int32) (s0 : Sg) : Option (Int32 × Sg) :=
  Option.bind (f_X10_leaving a1 a2 s0) fun q1 =>
  chk (gi (((7 : Int32) * a1) + a2) 70) (
  if (q1.2 55 0 (((7 : Int32) * a1) + a2).toNatClampNeg) = a4 then
  if q1.1 = (-1 : Int32) then
  some ((0 : Int32), q1.2)
  else
  if q1.1 < a5 then
  some ((0 : Int32), q1.2)
  else
  Option.bind (f_X10_coming a1 a3 q1.2) fun q3 =>
  if q3.1 = (-1 : Int32) then
  some ((0 : Int32), q3.2)
  else
  chk (gi (((7 : Int32) * a1) + a3) 70) (
  bdI (q3.2 55 0 (((7 : Int32) * a1) + a3).toNatClampNeg) fun x5 =>
  if a8 = 0 then
  if x5 = a6 then
  Option.bind (f_X10_coming a1 a3 q3.2) fun q6 =>
  if q6.1 = a7 then
  some ((1 : Int32), q6.2)
  else
  some ((0 : Int32), q6.2)
  else
  some ((0 : Int32), q3.2)
  else
  Option.bind (f_X10_coming a1 a3 q3.2) fun q7 =>
  Option.bind (f_X10_earliest x5 (q7.1 + (1 : Int32)) a6 a8 q7.2) fun q8 =>
  if q8.1 = a7 then
  some ((1 : Int32), q8.2)
  else
  some ((0 : Int32), q8.2))
  else
  some ((0 : Int32), q1.2))
set_option maxRecDepth 4000 in
theorem i_X10_isRide (X : Cx) (g : GT) (hF : Fx X g RX10 cX10_isRide 11 6 143) (hM : FM X g (some .boolean)) (hI : GI g) (a1 : Int32) (a2 : Int32) (a3 : Int32) (a4 : Int32) (a5 : Int32) (a6 : Int32) (a7 : Int32) (a8 : Int32) (s0 : Sg) : Im X g 11 (Qm X g embI) s0 0 [(0, .ref (g.2.1 10 0)), (1, .int a1), (2, .int a2), (3, .int a3), (4, .int a4), (5, .int a5), (6, .int a6), (7, .int a7), (8, .int a8)] [] (f_X10_isRide a1 a2 a3 a4 a5 a6 a7 a8 s0) := by
  unfold f_X10_isRide
  refine im_aload_n hF dX10_isRide_0 0 rfl ?_
  refine im_iload_n hF dX10_isRide_1 1 rfl ?_
  refine im_iload_n hF dX10_isRide_2 2 rfl ?_
  refine im_callVI hF (As := [.int a1, .int a2]) (rest := []) my_X10_leaving mv_X10_leaving wl_1118 (fun l r hr => c_X10_leaving l g hI a1 a2 s0 r hr) ⟨by decide, by decide⟩ (by decide) (by decide) ⟨_, rfl, rfl⟩ rfl rfl (Nat.le_of_ble_eq_true rfl) dX10_isRide_3 (fun q1 => ?_)
  refine im_istore hF dX10_isRide_6 (lv' := [(9, .int q1.1), (0, .ref (g.2.1 10 0)), (1, .int a1), (2, .int a2), (3, .int a3), (4, .int a4), (5, .int a5), (6, .int a6), (7, .int a7), (8, .int a8)]) (by decide) rfl ?_
  refine im_aload_n hF dX10_isRide_8 1 rfl ?_
  refine im_get hF (v := .ref (g.2.1 55 0)) fl_10_43 (by decide) (by decide) rfl dX10_isRide_9 ?_
  refine im_bipush hF dX10_isRide_12 (v := (7 : Int32)) (by decide) ?_
  refine im_iload_n hF dX10_isRide_14 2 rfl ?_
  refine im_imul hF dX10_isRide_15 ?_
  refine im_iload_n hF dX10_isRide_16 3 rfl ?_
  refine im_iadd hF dX10_isRide_17 ?_
  refine im_iald hF ar_55 (by decide) dX10_isRide_18 (fun h2 => ?_)
  refine im_iload hF dX10_isRide_19 5 rfl ?_
  refine im_icmp_ne hF 47 dX10_isRide_21 (by decide) (fun _ => ?_) (fun _ => ?_)
  · refine im_iload hF dX10_isRide_24 0 rfl ?_
    refine im_iconst hF dX10_isRide_26 (v := (-1 : Int32)) (by decide) ?_
    refine im_icmp_eq hF 47 dX10_isRide_27 (by decide) (fun _ => ?_) (fun _ => ?_)
    · refine im_iconst hF dX10_isRide_47 (v := (0 : Int32)) (by decide) ?_
      exact im_zret hF hM (by decide) dX10_isRide_48
    · refine im_iload hF dX10_isRide_30 0 rfl ?_
      refine im_iload hF dX10_isRide_32 6 rfl ?_
      refine im_icmp_lt hF 47 dX10_isRide_34 (by decide) (fun _ => ?_) (fun _ => ?_)
      · refine im_iconst hF dX10_isRide_47 (v := (0 : Int32)) (by decide) ?_
        exact im_zret hF hM (by decide) dX10_isRide_48
      · refine im_aload_n hF dX10_isRide_37 1 rfl ?_
        refine im_iload_n hF dX10_isRide_38 2 rfl ?_
        refine im_iload_n hF dX10_isRide_39 4 rfl ?_
        refine im_callVI hF (As := [.int a1, .int a3]) (rest := []) my_X10_coming mv_X10_coming wl_1122 (fun l r hr => c_X10_coming l g hI a1 a3 q1.2 r hr) ⟨by decide, by decide⟩ (by decide) (by decide) ⟨_, rfl, rfl⟩ rfl rfl (Nat.le_of_ble_eq_true rfl) dX10_isRide_40 (fun q3 => ?_)
        refine im_iconst hF dX10_isRide_43 (v := (-1 : Int32)) (by decide) ?_
        refine im_icmp_ne hF 49 dX10_isRide_44 (by decide) (fun _ => ?_) (fun _ => ?_)
        · refine im_iconst hF dX10_isRide_47 (v := (0 : Int32)) (by decide) ?_
          exact im_zret hF hM (by decide) dX10_isRide_48
        · refine im_aload_n hF dX10_isRide_49 1 rfl ?_
          refine im_get hF (v := .ref (g.2.1 55 0)) fl_10_43 (by decide) (by decide) rfl dX10_isRide_50 ?_
          refine im_bipush hF dX10_isRide_53 (v := (7 : Int32)) (by decide) ?_
          refine im_iload_n hF dX10_isRide_55 2 rfl ?_
          refine im_imul hF dX10_isRide_56 ?_
          refine im_iload_n hF dX10_isRide_57 4 rfl ?_
          refine im_iadd hF dX10_isRide_58 ?_
          refine im_iald hF ar_55 (by decide) dX10_isRide_59 (fun h4 => ?_)
          refine im_bdI (fun x5 => ?_)
          refine im_istore hF dX10_isRide_60 (lv' := [(10, .int x5), (9, .int q1.1), (0, .ref (g.2.1 10 0)), (1, .int a1), (2, .int a2), (3, .int a3), (4, .int a4), (5, .int a5), (6, .int a6), (7, .int a7), (8, .int a8)]) (by decide) rfl ?_
          refine im_iload hF dX10_isRide_62 10 rfl ?_
          refine im_if_ne hF 91 dX10_isRide_64 (by decide) (fun _ => ?_) (fun _ => ?_)
          · refine im_iload hF dX10_isRide_67 0 rfl ?_
            refine im_iload hF dX10_isRide_69 8 rfl ?_
            refine im_icmp_ne hF 89 dX10_isRide_71 (by decide) (fun _ => ?_) (fun _ => ?_)
            · refine im_aload_n hF dX10_isRide_74 2 rfl ?_
              refine im_iload_n hF dX10_isRide_75 3 rfl ?_
              refine im_iload_n hF dX10_isRide_76 5 rfl ?_
              refine im_callVI hF (As := [.int a1, .int a3]) (rest := []) my_X10_coming mv_X10_coming wl_1122 (fun l r hr => c_X10_coming l g hI a1 a3 q3.2 r hr) ⟨by decide, by decide⟩ (by decide) (by decide) ⟨_, rfl, rfl⟩ rfl rfl (Nat.le_of_ble_eq_true rfl) dX10_isRide_77 (fun q6 => ?_)
              refine im_iload hF dX10_isRide_80 9 rfl ?_
              refine im_icmp_ne hF 89 dX10_isRide_82 (by decide) (fun _ => ?_) (fun _ => ?_)
              · refine im_iconst hF dX10_isRide_85 (v := (1 : Int32)) (by decide) ?_
                refine im_goto hF 90 dX10_isRide_86 (by decide) ?_
                exact im_zret hF hM (by decide) dX10_isRide_90
              · refine im_iconst hF dX10_isRide_89 (v := (0 : Int32)) (by decide) ?_
                exact im_zret hF hM (by decide) dX10_isRide_90
            · refine im_iconst hF dX10_isRide_89 (v := (0 : Int32)) (by decide) ?_
              exact im_zret hF hM (by decide) dX10_isRide_90
          · refine im_aload_n hF dX10_isRide_91 2 rfl ?_
            refine im_iload hF dX10_isRide_92 0 rfl ?_
            refine im_aload_n hF dX10_isRide_94 2 rfl ?_
            refine im_iload_n hF dX10_isRide_95 3 rfl ?_
            refine im_iload_n hF dX10_isRide_96 5 rfl ?_
            refine im_callVI hF (As := [.int a1, .int a3]) (rest := [.int x5, .ref (g.2.1 10 0)]) my_X10_coming mv_X10_coming wl_1122 (fun l r hr => c_X10_coming l g hI a1 a3 q3.2 r hr) ⟨by decide, by decide⟩ (by decide) (by decide) ⟨_, rfl, rfl⟩ rfl rfl (Nat.le_of_ble_eq_true rfl) dX10_isRide_97 (fun q7 => ?_)
            refine im_iconst hF dX10_isRide_100 (v := (1 : Int32)) (by decide) ?_
            refine im_iadd hF dX10_isRide_101 ?_
            refine im_iload hF dX10_isRide_102 8 rfl ?_
            refine im_iload hF dX10_isRide_104 10 rfl ?_
            refine im_callVI hF (As := [.int x5, .int (q7.1 + (1 : Int32)), .int a6, .int a8]) (rest := []) my_X10_earliest mv_X10_earliest wl_1113 (fun l r hr => c_X10_earliest l g hI x5 (q7.1 + (1 : Int32)) a6 a8 q7.2 r hr) ⟨by decide, by decide⟩ (by decide) (by decide) ⟨_, rfl, rfl⟩ rfl rfl (Nat.le_of_ble_eq_true rfl) dX10_isRide_106 (fun q8 => ?_)
            refine im_iload hF dX10_isRide_109 9 rfl ?_
            refine im_icmp_ne hF 118 dX10_isRide_111 (by decide) (fun _ => ?_) (fun _ => ?_)
            · refine im_iconst hF dX10_isRide_114 (v := (1 : Int32)) (by decide) ?_
              refine im_goto hF 119 dX10_isRide_115 (by decide) ?_
              exact im_zret hF hM (by decide) dX10_isRide_119
            · refine im_iconst hF dX10_isRide_118 (v := (0 : Int32)) (by decide) ?_
              exact im_zret hF hM (by decide) dX10_isRide_119
  · refine im_iconst hF dX10_isRide_47 (v := (0 : Int32)) (by decide) ?_
    exact im_zret hF hM (by decide) dX10_isRide_48
theorem c_X10_isRide (l : Launch) (g : GT) (hI : GI g) (a1 : Int32) (a2 : Int32) (a3 : Int32) (a4 : Int32) (a5 : Int32) (a6 : Int32) (a7 : Int32) (a8 : Int32) (s0 : Sg) (r : (Int32 × Sg)) (hr : f_X10_isRide a1 a2 a3 a4 a5 a6 a7 a8 s0 = some r) : Ct l yX10_isRide cX10_isRide 11 (some .boolean) 6 143 g [.ref (g.2.1 10 0), .int a1, .int a2, .int a3, .int a4, .int a5, .int a6, .int a7, .int a8] s0 (embI r) := ct_of (by decide) hI (Nat.le_of_ble_eq_true rfl) (fun X hF hM => i_X10_isRide X g hF hM hI a1 a2 a3 a4 a5 a6 a7 a8 s0) r hr
def f_X10_findsRide_B33 (k33 : Int32 → Int32 → Int32 → Int32 → Int32 → Int32 → Int32 → Int32 → Int32 → Sg → Option (Int32 × Sg)) (k15 : Int32 → Int32 → Int32 → Int32 → Int32 → Int32 → Int32 → Int32 → Sg → Option (Int32 × Sg)) (a1 : Int32) (a2 : Int32) (a3 : Int32) (a4 : Int32) (a5 : Int32) (a6 : Int32) (a7 : Int32) (a8 : Int32) (a9 : Int32) (s0 : Sg) : Option (Int32 × Sg) :=
  chk (gi a7 10) (
  if (s0 52 0 a7.toNatClampNeg) < a9 then
  k15 a1 a2 a3 a4 a5 a6 a7 (a8 + (1 : Int32)) s0
  else
  Option.bind (f_X10_isRide a7 a8 a9 a2 a3 a4 a5 a6 s0) fun q2 =>
  if q2.1 = 0 then
  k33 a1 a2 a3 a4 a5 a6 a7 a8 (a9 + (1 : Int32)) q2.2
  else
  chk (gi a1 8) (bdS (up3 q2.2 86 0 a1.toNatClampNeg a7) fun s4 =>
  chk (gi a1 8) (bdS (up3 s4 87 0 a1.toNatClampNeg a8) fun s6 =>
  chk (gi a1 8) (bdS (up3 s6 88 0 a1.toNatClampNeg a9) fun s8 =>
  some ((1 : Int32), s8)))))
set_option maxRecDepth 4000 in
theorem i_X10_findsRide_B33 (X : Cx) (g : GT) (hF : Fx X g RX10 cX10_findsRide 10 7 173) (hM : FM X g (some .boolean)) (hI : GI g) (k33 : Int32 → Int32 → Int32 → Int32 → Int32 → Int32 → Int32 → Int32 → Int32 → Sg → Option (Int32 × Sg)) (hk33 : ∀ (a1 : Int32) (a2 : Int32) (a3 : Int32) (a4 : Int32) (a5 : Int32) (a6 : Int32) (a7 : Int32) (a8 : Int32) (a9 : Int32) (s0 : Sg), Im X g 10 (Qm X g embI) s0 33 [(0, .ref (g.2.1 10 0)), (1, .int a1), (2, .int a2), (3, .int a3), (4, .int a4), (5, .int a5), (6, .int a6), (7, .int a7), (8, .int a8), (9, .int a9)] [] (k33 a1 a2 a3 a4 a5 a6 a7 a8 a9 s0)) (k15 : Int32 → Int32 → Int32 → Int32 → Int32 → Int32 → Int32 → Int32 → Sg → Option (Int32 × Sg)) (hk15 : ∀ (a1 : Int32) (a2 : Int32) (a3 : Int32) (a4 : Int32) (a5 : Int32) (a6 : Int32) (a7 : Int32) (a8 : Int32) (s0 : Sg), Im X g 10 (Qm X g embI) s0 15 [(0, .ref (g.2.1 10 0)), (1, .int a1), (2, .int a2), (3, .int a3), (4, .int a4), (5, .int a5), (6, .int a6), (7, .int a7), (8, .int a8)] [] (k15 a1 a2 a3 a4 a5 a6 a7 a8 s0)) (a1 : Int32) (a2 : Int32) (a3 : Int32) (a4 : Int32) (a5 : Int32) (a6 : Int32) (a7 : Int32) (a8 : Int32) (a9 : Int32) (s0 : Sg) : Im X g 10 (Qm X g embI) s0 33 [(0, .ref (g.2.1 10 0)), (1, .int a1), (2, .int a2), (3, .int a3), (4, .int a4), (5, .int a5), (6, .int a6), (7, .int a7), (8, .int a8), (9, .int a9)] [] (f_X10_findsRide_B33 k33 k15 a1 a2 a3 a4 a5 a6 a7 a8 a9 s0) := by
  unfold f_X10_findsRide_B33
  refine im_iload hF dX10_findsRide_33 9 rfl ?_
  refine im_aload_n hF dX10_findsRide_35 0 rfl ?_
  refine im_get hF (v := .ref (g.2.1 52 0)) fl_10_34 (by decide) (by decide) rfl dX10_findsRide_36 ?_
  refine im_iload hF dX10_findsRide_39 7 rfl ?_
  refine im_iald hF ar_52 (by decide) dX10_findsRide_41 (fun h1 => ?_)
  refine im_icmp_gt hF 101 dX10_findsRide_42 (by decide) (fun _ => ?_) (fun _ => ?_)
  · refine im_iinc hF dX10_findsRide_101 (v := (a8 + (1 : Int32))) (lv' := [(8, .int (a8 + (1 : Int32))), (0, .ref (g.2.1 10 0)), (1, .int a1), (2, .int a2), (3, .int a3), (4, .int a4), (5, .int a5), (6, .int a6), (7, .int a7), (9, .int a9)]) 8 rfl rfl (by decide) rfl ?_
    refine im_goto hF 15 dX10_findsRide_104 (by decide) ?_
    refine im_sub (lv' := [(0, .ref (g.2.1 10 0)), (1, .int a1), (2, .int a2), (3, .int a3), (4, .int a4), (5, .int a5), (6, .int a6), (7, .int a7), (8, .int (a8 + (1 : Int32)))]) [1, 2, 3, 4, 5, 6, 7, 8, 0] rfl ?_
    exact hk15 a1 a2 a3 a4 a5 a6 a7 (a8 + (1 : Int32)) s0
  · refine im_aload_n hF dX10_findsRide_45 0 rfl ?_
    refine im_iload hF dX10_findsRide_46 7 rfl ?_
    refine im_iload hF dX10_findsRide_48 8 rfl ?_
    refine im_iload hF dX10_findsRide_50 9 rfl ?_
    refine im_iload_n hF dX10_findsRide_52 2 rfl ?_
    refine im_iload_n hF dX10_findsRide_53 3 rfl ?_
    refine im_iload hF dX10_findsRide_54 4 rfl ?_
    refine im_iload hF dX10_findsRide_56 5 rfl ?_
    refine im_iload hF dX10_findsRide_58 6 rfl ?_
    refine im_callVI hF (As := [.int a7, .int a8, .int a9, .int a2, .int a3, .int a4, .int a5, .int a6]) (rest := []) my_X10_isRide mv_X10_isRide wl_1130 (fun l r hr => c_X10_isRide l g hI a7 a8 a9 a2 a3 a4 a5 a6 s0 r hr) ⟨by decide, by decide⟩ (by decide) (by decide) ⟨_, rfl, rfl⟩ rfl rfl (Nat.le_of_ble_eq_true rfl) dX10_findsRide_60 (fun q2 => ?_)
    refine im_if_ne hF 69 dX10_findsRide_63 (by decide) (fun _ => ?_) (fun _ => ?_)
    · refine im_goto hF 95 dX10_findsRide_66 (by decide) ?_
      refine im_iinc hF dX10_findsRide_95 (v := (a9 + (1 : Int32))) (lv' := [(9, .int (a9 + (1 : Int32))), (0, .ref (g.2.1 10 0)), (1, .int a1), (2, .int a2), (3, .int a3), (4, .int a4), (5, .int a5), (6, .int a6), (7, .int a7), (8, .int a8)]) 9 rfl rfl (by decide) rfl ?_
      refine im_goto hF 33 dX10_findsRide_98 (by decide) ?_
      refine im_sub (lv' := [(0, .ref (g.2.1 10 0)), (1, .int a1), (2, .int a2), (3, .int a3), (4, .int a4), (5, .int a5), (6, .int a6), (7, .int a7), (8, .int a8), (9, .int (a9 + (1 : Int32)))]) [1, 2, 3, 4, 5, 6, 7, 8, 9, 0] rfl ?_
      exact hk33 a1 a2 a3 a4 a5 a6 a7 a8 (a9 + (1 : Int32)) q2.2
    · refine im_aload_n hF dX10_findsRide_69 0 rfl ?_
      refine im_get hF (v := .ref (g.2.1 86 0)) fl_10_142 (by decide) (by decide) rfl dX10_findsRide_70 ?_
      refine im_iload_n hF dX10_findsRide_73 1 rfl ?_
      refine im_iload hF dX10_findsRide_74 7 rfl ?_
      refine im_iast hF ar_86 (by decide) dX10_findsRide_76 (fun h3 => im_bdS (fun s4 => ?_))
      refine im_aload_n hF dX10_findsRide_77 0 rfl ?_
      refine im_get hF (v := .ref (g.2.1 87 0)) fl_10_145 (by decide) (by decide) rfl dX10_findsRide_78 ?_
      refine im_iload_n hF dX10_findsRide_81 1 rfl ?_
      refine im_iload hF dX10_findsRide_82 8 rfl ?_
      refine im_iast hF ar_87 (by decide) dX10_findsRide_84 (fun h5 => im_bdS (fun s6 => ?_))
      refine im_aload_n hF dX10_findsRide_85 0 rfl ?_
      refine im_get hF (v := .ref (g.2.1 88 0)) fl_10_148 (by decide) (by decide) rfl dX10_findsRide_86 ?_
      refine im_iload_n hF dX10_findsRide_89 1 rfl ?_
      refine im_iload hF dX10_findsRide_90 9 rfl ?_
      refine im_iast hF ar_88 (by decide) dX10_findsRide_92 (fun h7 => im_bdS (fun s8 => ?_))
      refine im_iconst hF dX10_findsRide_93 (v := (1 : Int32)) (by decide) ?_
      exact im_zret hF hM (by decide) dX10_findsRide_94
def f_X10_findsRide_L33 (k15 : Int32 → Int32 → Int32 → Int32 → Int32 → Int32 → Int32 → Int32 → Sg → Option (Int32 × Sg)) : Nat → Int32 → Int32 → Int32 → Int32 → Int32 → Int32 → Int32 → Int32 → Int32 → Sg → Option (Int32 × Sg)
  | 0 => fun _ _ _ _ _ _ _ _ _ _ => none
  | n + 1 => fun a1 a2 a3 a4 a5 a6 a7 a8 a9 s0 => f_X10_findsRide_B33 (f_X10_findsRide_L33 k15 n) k15 a1 a2 a3 a4 a5 a6 a7 a8 a9 s0
theorem i_X10_findsRide_L33 (X : Cx) (g : GT) (hF : Fx X g RX10 cX10_findsRide 10 7 173) (hM : FM X g (some .boolean)) (hI : GI g) (k15 : Int32 → Int32 → Int32 → Int32 → Int32 → Int32 → Int32 → Int32 → Sg → Option (Int32 × Sg)) (hk15 : ∀ (a1 : Int32) (a2 : Int32) (a3 : Int32) (a4 : Int32) (a5 : Int32) (a6 : Int32) (a7 : Int32) (a8 : Int32) (s0 : Sg), Im X g 10 (Qm X g embI) s0 15 [(0, .ref (g.2.1 10 0)), (1, .int a1), (2, .int a2), (3, .int a3), (4, .int a4), (5, .int a5), (6, .int a6), (7, .int a7), (8, .int a8)] [] (k15 a1 a2 a3 a4 a5 a6 a7 a8 s0)) : ∀ (n : Nat) (a1 : Int32) (a2 : Int32) (a3 : Int32) (a4 : Int32) (a5 : Int32) (a6 : Int32) (a7 : Int32) (a8 : Int32) (a9 : Int32) (s0 : Sg), Im X g 10 (Qm X g embI) s0 33 [(0, .ref (g.2.1 10 0)), (1, .int a1), (2, .int a2), (3, .int a3), (4, .int a4), (5, .int a5), (6, .int a6), (7, .int a7), (8, .int a8), (9, .int a9)] [] (f_X10_findsRide_L33 k15 n a1 a2 a3 a4 a5 a6 a7 a8 a9 s0) := by
  intro n
  induction n with
  | zero => intros; exact im_none
  | succ n ih => intro a1 a2 a3 a4 a5 a6 a7 a8 a9 s0; exact i_X10_findsRide_B33 X g hF hM hI (f_X10_findsRide_L33 k15 n) ih k15 hk15 a1 a2 a3 a4 a5 a6 a7 a8 a9 s0
def f_X10_findsRide_B15 (k15 : Int32 → Int32 → Int32 → Int32 → Int32 → Int32 → Int32 → Int32 → Sg → Option (Int32 × Sg)) (k3 : Int32 → Int32 → Int32 → Int32 → Int32 → Int32 → Int32 → Sg → Option (Int32 × Sg)) (a1 : Int32) (a2 : Int32) (a3 : Int32) (a4 : Int32) (a5 : Int32) (a6 : Int32) (a7 : Int32) (a8 : Int32) (s0 : Sg) : Option (Int32 × Sg) :=
  chk (gi a7 10) (
  if (s0 52 0 a7.toNatClampNeg) ≤ a8 then
  k3 a1 a2 a3 a4 a5 a6 (a7 + (1 : Int32)) s0
  else
  bdI (a8 + (1 : Int32)) fun x2 =>
  (f_X10_findsRide_L33 k15 FU) a1 a2 a3 a4 a5 a6 a7 a8 x2 s0)
set_option maxRecDepth 4000 in
theorem i_X10_findsRide_B15 (X : Cx) (g : GT) (hF : Fx X g RX10 cX10_findsRide 10 7 173) (hM : FM X g (some .boolean)) (hI : GI g) (k15 : Int32 → Int32 → Int32 → Int32 → Int32 → Int32 → Int32 → Int32 → Sg → Option (Int32 × Sg)) (hk15 : ∀ (a1 : Int32) (a2 : Int32) (a3 : Int32) (a4 : Int32) (a5 : Int32) (a6 : Int32) (a7 : Int32) (a8 : Int32) (s0 : Sg), Im X g 10 (Qm X g embI) s0 15 [(0, .ref (g.2.1 10 0)), (1, .int a1), (2, .int a2), (3, .int a3), (4, .int a4), (5, .int a5), (6, .int a6), (7, .int a7), (8, .int a8)] [] (k15 a1 a2 a3 a4 a5 a6 a7 a8 s0)) (k3 : Int32 → Int32 → Int32 → Int32 → Int32 → Int32 → Int32 → Sg → Option (Int32 × Sg)) (hk3 : ∀ (a1 : Int32) (a2 : Int32) (a3 : Int32) (a4 : Int32) (a5 : Int32) (a6 : Int32) (a7 : Int32) (s0 : Sg), Im X g 10 (Qm X g embI) s0 3 [(0, .ref (g.2.1 10 0)), (1, .int a1), (2, .int a2), (3, .int a3), (4, .int a4), (5, .int a5), (6, .int a6), (7, .int a7)] [] (k3 a1 a2 a3 a4 a5 a6 a7 s0)) (a1 : Int32) (a2 : Int32) (a3 : Int32) (a4 : Int32) (a5 : Int32) (a6 : Int32) (a7 : Int32) (a8 : Int32) (s0 : Sg) : Im X g 10 (Qm X g embI) s0 15 [(0, .ref (g.2.1 10 0)), (1, .int a1), (2, .int a2), (3, .int a3), (4, .int a4), (5, .int a5), (6, .int a6), (7, .int a7), (8, .int a8)] [] (f_X10_findsRide_B15 k15 k3 a1 a2 a3 a4 a5 a6 a7 a8 s0) := by
  unfold f_X10_findsRide_B15
  refine im_iload hF dX10_findsRide_15 8 rfl ?_
  refine im_aload_n hF dX10_findsRide_17 0 rfl ?_
  refine im_get hF (v := .ref (g.2.1 52 0)) fl_10_34 (by decide) (by decide) rfl dX10_findsRide_18 ?_
  refine im_iload hF dX10_findsRide_21 7 rfl ?_
  refine im_iald hF ar_52 (by decide) dX10_findsRide_23 (fun h1 => ?_)
  refine im_icmp_ge hF 107 dX10_findsRide_24 (by decide) (fun _ => ?_) (fun _ => ?_)
  · refine im_iinc hF dX10_findsRide_107 (v := (a7 + (1 : Int32))) (lv' := [(7, .int (a7 + (1 : Int32))), (0, .ref (g.2.1 10 0)), (1, .int a1), (2, .int a2), (3, .int a3), (4, .int a4), (5, .int a5), (6, .int a6), (8, .int a8)]) 7 rfl rfl (by decide) rfl ?_
    refine im_goto hF 3 dX10_findsRide_110 (by decide) ?_
    refine im_sub (lv' := [(0, .ref (g.2.1 10 0)), (1, .int a1), (2, .int a2), (3, .int a3), (4, .int a4), (5, .int a5), (6, .int a6), (7, .int (a7 + (1 : Int32)))]) [1, 2, 3, 4, 5, 6, 7, 0] rfl ?_
    exact hk3 a1 a2 a3 a4 a5 a6 (a7 + (1 : Int32)) s0
  · refine im_iload hF dX10_findsRide_27 8 rfl ?_
    refine im_iconst hF dX10_findsRide_29 (v := (1 : Int32)) (by decide) ?_
    refine im_iadd hF dX10_findsRide_30 ?_
    refine im_bdI (fun x2 => ?_)
    refine im_istore hF dX10_findsRide_31 (lv' := [(9, .int x2), (0, .ref (g.2.1 10 0)), (1, .int a1), (2, .int a2), (3, .int a3), (4, .int a4), (5, .int a5), (6, .int a6), (7, .int a7), (8, .int a8)]) (by decide) rfl ?_
    refine im_sub (lv' := [(0, .ref (g.2.1 10 0)), (1, .int a1), (2, .int a2), (3, .int a3), (4, .int a4), (5, .int a5), (6, .int a6), (7, .int a7), (8, .int a8), (9, .int x2)]) [1, 2, 3, 4, 5, 6, 7, 8, 9, 0] rfl ?_
    exact (i_X10_findsRide_L33 X g hF hM hI k15 hk15 FU) a1 a2 a3 a4 a5 a6 a7 a8 x2 s0
def f_X10_findsRide_L15 (k3 : Int32 → Int32 → Int32 → Int32 → Int32 → Int32 → Int32 → Sg → Option (Int32 × Sg)) : Nat → Int32 → Int32 → Int32 → Int32 → Int32 → Int32 → Int32 → Int32 → Sg → Option (Int32 × Sg)
  | 0 => fun _ _ _ _ _ _ _ _ _ => none
  | n + 1 => fun a1 a2 a3 a4 a5 a6 a7 a8 s0 => f_X10_findsRide_B15 (f_X10_findsRide_L15 k3 n) k3 a1 a2 a3 a4 a5 a6 a7 a8 s0
theorem i_X10_findsRide_L15 (X : Cx) (g : GT) (hF : Fx X g RX10 cX10_findsRide 10 7 173) (hM : FM X g (some .boolean)) (hI : GI g) (k3 : Int32 → Int32 → Int32 → Int32 → Int32 → Int32 → Int32 → Sg → Option (Int32 × Sg)) (hk3 : ∀ (a1 : Int32) (a2 : Int32) (a3 : Int32) (a4 : Int32) (a5 : Int32) (a6 : Int32) (a7 : Int32) (s0 : Sg), Im X g 10 (Qm X g embI) s0 3 [(0, .ref (g.2.1 10 0)), (1, .int a1), (2, .int a2), (3, .int a3), (4, .int a4), (5, .int a5), (6, .int a6), (7, .int a7)] [] (k3 a1 a2 a3 a4 a5 a6 a7 s0)) : ∀ (n : Nat) (a1 : Int32) (a2 : Int32) (a3 : Int32) (a4 : Int32) (a5 : Int32) (a6 : Int32) (a7 : Int32) (a8 : Int32) (s0 : Sg), Im X g 10 (Qm X g embI) s0 15 [(0, .ref (g.2.1 10 0)), (1, .int a1), (2, .int a2), (3, .int a3), (4, .int a4), (5, .int a5), (6, .int a6), (7, .int a7), (8, .int a8)] [] (f_X10_findsRide_L15 k3 n a1 a2 a3 a4 a5 a6 a7 a8 s0) := by
  intro n
  induction n with
  | zero => intros; exact im_none
  | succ n ih => intro a1 a2 a3 a4 a5 a6 a7 a8 s0; exact i_X10_findsRide_B15 X g hF hM hI (f_X10_findsRide_L15 k3 n) ih k3 hk3 a1 a2 a3 a4 a5 a6 a7 a8 s0
def f_X10_findsRide_B3 (k3 : Int32 → Int32 → Int32 → Int32 → Int32 → Int32 → Int32 → Sg → Option (Int32 × Sg)) (a1 : Int32) (a2 : Int32) (a3 : Int32) (a4 : Int32) (a5 : Int32) (a6 : Int32) (a7 : Int32) (s0 : Sg) : Option (Int32 × Sg) :=
  if (s0 10 0 1) ≤ a7 then
  some ((0 : Int32), s0)
  else
  (f_X10_findsRide_L15 k3 FU) a1 a2 a3 a4 a5 a6 a7 (0 : Int32) s0
set_option maxRecDepth 4000 in
theorem i_X10_findsRide_B3 (X : Cx) (g : GT) (hF : Fx X g RX10 cX10_findsRide 10 7 173) (hM : FM X g (some .boolean)) (hI : GI g) (k3 : Int32 → Int32 → Int32 → Int32 → Int32 → Int32 → Int32 → Sg → Option (Int32 × Sg)) (hk3 : ∀ (a1 : Int32) (a2 : Int32) (a3 : Int32) (a4 : Int32) (a5 : Int32) (a6 : Int32) (a7 : Int32) (s0 : Sg), Im X g 10 (Qm X g embI) s0 3 [(0, .ref (g.2.1 10 0)), (1, .int a1), (2, .int a2), (3, .int a3), (4, .int a4), (5, .int a5), (6, .int a6), (7, .int a7)] [] (k3 a1 a2 a3 a4 a5 a6 a7 s0)) (a1 : Int32) (a2 : Int32) (a3 : Int32) (a4 : Int32) (a5 : Int32) (a6 : Int32) (a7 : Int32) (s0 : Sg) : Im X g 10 (Qm X g embI) s0 3 [(0, .ref (g.2.1 10 0)), (1, .int a1), (2, .int a2), (3, .int a3), (4, .int a4), (5, .int a5), (6, .int a6), (7, .int a7)] [] (f_X10_findsRide_B3 k3 a1 a2 a3 a4 a5 a6 a7 s0) := by
  unfold f_X10_findsRide_B3
  refine im_iload hF dX10_findsRide_3 7 rfl ?_
  refine im_aload_n hF dX10_findsRide_5 0 rfl ?_
  refine im_get hF (v := .int (s0 10 0 1)) fl_10_151 (by decide) (by decide) rfl dX10_findsRide_6 ?_
  refine im_icmp_ge hF 113 dX10_findsRide_9 (by decide) (fun _ => ?_) (fun _ => ?_)
  · refine im_iconst hF dX10_findsRide_113 (v := (0 : Int32)) (by decide) ?_
    exact im_zret hF hM (by decide) dX10_findsRide_114
  · refine im_iconst hF dX10_findsRide_12 (v := (0 : Int32)) (by decide) ?_
    refine im_istore hF dX10_findsRide_13 (lv' := [(8, .int (0 : Int32)), (0, .ref (g.2.1 10 0)), (1, .int a1), (2, .int a2), (3, .int a3), (4, .int a4), (5, .int a5), (6, .int a6), (7, .int a7)]) (by decide) rfl ?_
    refine im_sub (lv' := [(0, .ref (g.2.1 10 0)), (1, .int a1), (2, .int a2), (3, .int a3), (4, .int a4), (5, .int a5), (6, .int a6), (7, .int a7), (8, .int (0 : Int32))]) [1, 2, 3, 4, 5, 6, 7, 8, 0] rfl ?_
    exact (i_X10_findsRide_L15 X g hF hM hI k3 hk3 FU) a1 a2 a3 a4 a5 a6 a7 (0 : Int32) s0
def f_X10_findsRide_L3 : Nat → Int32 → Int32 → Int32 → Int32 → Int32 → Int32 → Int32 → Sg → Option (Int32 × Sg)
  | 0 => fun _ _ _ _ _ _ _ _ => none
  | n + 1 => fun a1 a2 a3 a4 a5 a6 a7 s0 => f_X10_findsRide_B3 (f_X10_findsRide_L3 n) a1 a2 a3 a4 a5 a6 a7 s0
theorem i_X10_findsRide_L3 (X : Cx) (g : GT) (hF : Fx X g RX10 cX10_findsRide 10 7 173) (hM : FM X g (some .boolean)) (hI : GI g) : ∀ (n : Nat) (a1 : Int32) (a2 : Int32) (a3 : Int32) (a4 : Int32) (a5 : Int32) (a6 : Int32) (a7 : Int32) (s0 : Sg), Im X g 10 (Qm X g embI) s0 3 [(0, .ref (g.2.1 10 0)), (1, .int a1), (2, .int a2), (3, .int a3), (4, .int a4), (5, .int a5), (6, .int a6), (7, .int a7)] [] (f_X10_findsRide_L3 n a1 a2 a3 a4 a5 a6 a7 s0) := by
  intro n
  induction n with
  | zero => intros; exact im_none
  | succ n ih => intro a1 a2 a3 a4 a5 a6 a7 s0; exact i_X10_findsRide_B3 X g hF hM hI (f_X10_findsRide_L3 n) ih a1 a2 a3 a4 a5 a6 a7 s0
def f_X10_findsRide (a1 : Int32) (a2 : Int32) (a3 : Int32) (a4 : Int32) (a5 : Int32) (a6 : Int32) (s0 : Sg) : Option (Int32 × Sg) :=
  (f_X10_findsRide_L3 FU) a1 a2 a3 a4 a5 a6 (0 : Int32) s0
set_option maxRecDepth 4000 in
theorem i_X10_findsRide (X : Cx) (g : GT) (hF : Fx X g RX10 cX10_findsRide 10 7 173) (hM : FM X g (some .boolean)) (hI : GI g) (a1 : Int32) (a2 : Int32) (a3 : Int32) (a4 : Int32) (a5 : Int32) (a6 : Int32) (s0 : Sg) : Im X g 10 (Qm X g embI) s0 0 [(0, .ref (g.2.1 10 0)), (1, .int a1), (2, .int a2), (3, .int a3), (4, .int a4), (5, .int a5), (6, .int a6)] [] (f_X10_findsRide a1 a2 a3 a4 a5 a6 s0) := by
  unfold f_X10_findsRide
  refine im_iconst hF dX10_findsRide_0 (v := (0 : Int32)) (by decide) ?_
  refine im_istore hF dX10_findsRide_1 (lv' := [(7, .int (0 : Int32)), (0, .ref (g.2.1 10 0)), (1, .int a1), (2, .int a2), (3, .int a3), (4, .int a4), (5, .int a5), (6, .int a6)]) (by decide) rfl ?_
  refine im_sub (lv' := [(0, .ref (g.2.1 10 0)), (1, .int a1), (2, .int a2), (3, .int a3), (4, .int a4), (5, .int a5), (6, .int a6), (7, .int (0 : Int32))]) [1, 2, 3, 4, 5, 6, 7, 0] rfl ?_
  exact (i_X10_findsRide_L3 X g hF hM hI FU) a1 a2 a3 a4 a5 a6 (0 : Int32) s0
theorem c_X10_findsRide (l : Launch) (g : GT) (hI : GI g) (a1 : Int32) (a2 : Int32) (a3 : Int32) (a4 : Int32) (a5 : Int32) (a6 : Int32) (s0 : Sg) (r : (Int32 × Sg)) (hr : f_X10_findsRide a1 a2 a3 a4 a5 a6 s0 = some r) : Ct l yX10_findsRide cX10_findsRide 10 (some .boolean) 7 173 g [.ref (g.2.1 10 0), .int a1, .int a2, .int a3, .int a4, .int a5, .int a6] s0 (embI r) := ct_of (by decide) hI (Nat.le_of_ble_eq_true rfl) (fun X hF hM => i_X10_findsRide X g hF hM hI a1 a2 a3 a4 a5 a6 s0) r hr
def f_X10_first_B45 (k45 : Int32 → Int32 → Int32 → Int32 → Int32 → Sg → Option (Int32 × Sg)) (k83 : Int32 → Int32 → Int32 → Int32 → Int32 → Int32 → Sg → Option (Int32 × Sg)) (a1 : Int32) (a2 : Int32) (a3 : Int32) (a5 : Int32) (a6 : Int32) (s0 : Sg) : Option (Int32 × Sg) :=
  Option.bind (f_X10_earliest a1 a3 a2 a6 s0) fun q1 =>
  if q1.1 = a5 then
  bdS (up3 q1.2 10 0 55 a6) fun s2 =>
  k83 a2 a5 a6 a1 a3 (0 : Int32) s2
  else
  bdI (a6 + (1 : Int32)) fun x3 =>
  k45 a1 a2 a3 a5 x3 q1.2
set_option maxRecDepth 4000 in
theorem i_X10_first_B45 (X : Cx) (g : GT) (hF : Fx X g RX10 cX10_first 10 8 202) (hM : FM X g (some .int)) (hI : GI g) (k45 : Int32 → Int32 → Int32 → Int32 → Int32 → Sg → Option (Int32 × Sg)) (hk45 : ∀ (a1 : Int32) (a2 : Int32) (a3 : Int32) (a5 : Int32) (a6 : Int32) (s0 : Sg), Im X g 10 (Qm X g embI) s0 45 [(0, .ref (g.2.1 10 0)), (1, .int a1), (2, .int a2), (3, .int a3), (5, .int a5), (6, .int a6)] [] (k45 a1 a2 a3 a5 a6 s0)) (k83 : Int32 → Int32 → Int32 → Int32 → Int32 → Int32 → Sg → Option (Int32 × Sg)) (hk83 : ∀ (a2 : Int32) (a5 : Int32) (a6 : Int32) (a7 : Int32) (a8 : Int32) (a9 : Int32) (s0 : Sg), Im X g 10 (Qm X g embI) s0 83 [(0, .ref (g.2.1 10 0)), (2, .int a2), (5, .int a5), (6, .int a6), (7, .int a7), (8, .int a8), (9, .int a9)] [] (k83 a2 a5 a6 a7 a8 a9 s0)) (a1 : Int32) (a2 : Int32) (a3 : Int32) (a5 : Int32) (a6 : Int32) (s0 : Sg) : Im X g 10 (Qm X g embI) s0 45 [(0, .ref (g.2.1 10 0)), (1, .int a1), (2, .int a2), (3, .int a3), (5, .int a5), (6, .int a6)] [] (f_X10_first_B45 k45 k83 a1 a2 a3 a5 a6 s0) := by
  unfold f_X10_first_B45
  refine im_aload_n hF dX10_first_45 0 rfl ?_
  refine im_iload_n hF dX10_first_46 1 rfl ?_
  refine im_iload_n hF dX10_first_47 3 rfl ?_
  refine im_iload_n hF dX10_first_48 2 rfl ?_
  refine im_iload hF dX10_first_49 5 rfl ?_
  refine im_callVI hF (As := [.int a1, .int a3, .int a2, .int a6]) (rest := []) my_X10_earliest mv_X10_earliest wl_1113 (fun l r hr => c_X10_earliest l g hI a1 a3 a2 a6 s0 r hr) ⟨by decide, by decide⟩ (by decide) (by decide) ⟨_, rfl, rfl⟩ rfl rfl (Nat.le_of_ble_eq_true rfl) dX10_first_51 (fun q1 => ?_)
  refine im_iload hF dX10_first_54 4 rfl ?_
  refine im_icmp_eq hF 68 dX10_first_56 (by decide) (fun _ => ?_) (fun _ => ?_)
  · refine im_aload_n hF dX10_first_68 0 rfl ?_
    refine im_iload hF dX10_first_69 5 rfl ?_
    refine im_put hF a6 fp_10_314 (by decide) (by decide) rfl rfl rfl dX10_first_71 ?_
    refine im_bdS (fun s2 => ?_)
    refine im_iload_n hF dX10_first_74 1 rfl ?_
    refine im_istore hF dX10_first_75 (lv' := [(7, .int a1), (0, .ref (g.2.1 10 0)), (1, .int a1), (2, .int a2), (3, .int a3), (5, .int a5), (6, .int a6)]) (by decide) rfl ?_
    refine im_iload_n hF dX10_first_77 4 rfl ?_
    refine im_istore hF dX10_first_78 (lv' := [(8, .int a3), (7, .int a1), (0, .ref (g.2.1 10 0)), (1, .int a1), (2, .int a2), (3, .int a3), (5, .int a5), (6, .int a6)]) (by decide) rfl ?_
    refine im_iconst hF dX10_first_80 (v := (0 : Int32)) (by decide) ?_
    refine im_istore hF dX10_first_81 (lv' := [(9, .int (0 : Int32)), (8, .int a3), (7, .int a1), (0, .ref (g.2.1 10 0)), (1, .int a1), (2, .int a2), (3, .int a3), (5, .int a5), (6, .int a6)]) (by decide) rfl ?_
    refine im_sub (lv' := [(0, .ref (g.2.1 10 0)), (2, .int a2), (5, .int a5), (6, .int a6), (7, .int a1), (8, .int a3), (9, .int (0 : Int32))]) [3, 5, 7, 8, 2, 1, 0] rfl ?_
    exact hk83 a2 a5 a6 a1 a3 (0 : Int32) s2
  · refine im_iload hF dX10_first_59 5 rfl ?_
    refine im_iconst hF dX10_first_61 (v := (1 : Int32)) (by decide) ?_
    refine im_iadd hF dX10_first_62 ?_
    refine im_bdI (fun x3 => ?_)
    refine im_istore hF dX10_first_63 (lv' := [(6, .int x3), (0, .ref (g.2.1 10 0)), (1, .int a1), (2, .int a2), (3, .int a3), (5, .int a5)]) (by decide) rfl ?_
    refine im_goto hF 45 dX10_first_65 (by decide) ?_
    refine im_sub (lv' := [(0, .ref (g.2.1 10 0)), (1, .int a1), (2, .int a2), (3, .int a3), (5, .int a5), (6, .int x3)]) [1, 2, 3, 4, 5, 0] rfl ?_
    exact hk45 a1 a2 a3 a5 x3 q1.2
def f_X10_first_L45 (k83 : Int32 → Int32 → Int32 → Int32 → Int32 → Int32 → Sg → Option (Int32 × Sg)) : Nat → Int32 → Int32 → Int32 → Int32 → Int32 → Sg → Option (Int32 × Sg)
  | 0 => fun _ _ _ _ _ _ => none
  | n + 1 => fun a1 a2 a3 a5 a6 s0 => f_X10_first_B45 (f_X10_first_L45 k83 n) k83 a1 a2 a3 a5 a6 s0
theorem i_X10_first_L45 (X : Cx) (g : GT) (hF : Fx X g RX10 cX10_first 10 8 202) (hM : FM X g (some .int)) (hI : GI g) (k83 : Int32 → Int32 → Int32 → Int32 → Int32 → Int32 → Sg → Option (Int32 × Sg)) (hk83 : ∀ (a2 : Int32) (a5 : Int32) (a6 : Int32) (a7 : Int32) (a8 : Int32) (a9 : Int32) (s0 : Sg), Im X g 10 (Qm X g embI) s0 83 [(0, .ref (g.2.1 10 0)), (2, .int a2), (5, .int a5), (6, .int a6), (7, .int a7), (8, .int a8), (9, .int a9)] [] (k83 a2 a5 a6 a7 a8 a9 s0)) : ∀ (n : Nat) (a1 : Int32) (a2 : Int32) (a3 : Int32) (a5 : Int32) (a6 : Int32) (s0 : Sg), Im X g 10 (Qm X g embI) s0 45 [(0, .ref (g.2.1 10 0)), (1, .int a1), (2, .int a2), (3, .int a3), (5, .int a5), (6, .int a6)] [] (f_X10_first_L45 k83 n a1 a2 a3 a5 a6 s0) := by
  intro n
  induction n with
  | zero => intros; exact im_none
  | succ n ih => intro a1 a2 a3 a5 a6 s0; exact i_X10_first_B45 X g hF hM hI (f_X10_first_L45 k83 n) ih k83 hk83 a1 a2 a3 a5 a6 s0
def f_X10_first_B83 (k83 : Int32 → Int32 → Int32 → Int32 → Int32 → Int32 → Sg → Option (Int32 × Sg)) (a2 : Int32) (a5 : Int32) (a6 : Int32) (a7 : Int32) (a8 : Int32) (a9 : Int32) (s0 : Sg) : Option (Int32 × Sg) :=
  if a6 ≤ a9 then
  some (a5, s0)
  else
  Option.bind (f_X10_findsRide a9 a7 a8 a2 a5 ((a6 - (1 : Int32)) - a9) s0) fun q1 =>
  chk (gi a9 8) (
  chk (gi a9 8) (
  chk (gi (((7 : Int32) * (q1.2 86 0 a9.toNatClampNeg)) + (q1.2 88 0 a9.toNatClampNeg)) 70) (
  bdI (q1.2 55 0 (((7 : Int32) * (q1.2 86 0 a9.toNatClampNeg)) + (q1.2 88 0 a9.toNatClampNeg)).toNatClampNeg) fun x5 =>
  chk (gi a9 8) (
  chk (gi a9 8) (
  Option.bind (f_X10_coming (q1.2 86 0 a9.toNatClampNeg) (q1.2 88 0 a9.toNatClampNeg) q1.2) fun q8 =>
  bdI (q8.1 + (1 : Int32)) fun x9 =>
  k83 a2 a5 a6 x5 x9 (a9 + (1 : Int32)) q8.2)))))
set_option maxRecDepth 4000 in
theorem i_X10_first_B83 (X : Cx) (g : GT) (hF : Fx X g RX10 cX10_first 10 8 202) (hM : FM X g (some .int)) (hI : GI g) (k83 : Int32 → Int32 → Int32 → Int32 → Int32 → Int32 → Sg → Option (Int32 × Sg)) (hk83 : ∀ (a2 : Int32) (a5 : Int32) (a6 : Int32) (a7 : Int32) (a8 : Int32) (a9 : Int32) (s0 : Sg), Im X g 10 (Qm X g embI) s0 83 [(0, .ref (g.2.1 10 0)), (2, .int a2), (5, .int a5), (6, .int a6), (7, .int a7), (8, .int a8), (9, .int a9)] [] (k83 a2 a5 a6 a7 a8 a9 s0)) (a2 : Int32) (a5 : Int32) (a6 : Int32) (a7 : Int32) (a8 : Int32) (a9 : Int32) (s0 : Sg) : Im X g 10 (Qm X g embI) s0 83 [(0, .ref (g.2.1 10 0)), (2, .int a2), (5, .int a5), (6, .int a6), (7, .int a7), (8, .int a8), (9, .int a9)] [] (f_X10_first_B83 k83 a2 a5 a6 a7 a8 a9 s0) := by
  unfold f_X10_first_B83
  refine im_iload hF dX10_first_83 6 rfl ?_
  refine im_iload hF dX10_first_85 3 rfl ?_
  refine im_icmp_ge hF 164 dX10_first_87 (by decide) (fun _ => ?_) (fun _ => ?_)
  · refine im_iload hF dX10_first_164 2 rfl ?_
    exact im_iret hF hM dX10_first_166
  · refine im_aload_n hF dX10_first_90 0 rfl ?_
    refine im_iload hF dX10_first_91 6 rfl ?_
    refine im_iload hF dX10_first_93 4 rfl ?_
    refine im_iload hF dX10_first_95 5 rfl ?_
    refine im_iload_n hF dX10_first_97 1 rfl ?_
    refine im_iload hF dX10_first_98 2 rfl ?_
    refine im_iload hF dX10_first_100 3 rfl ?_
    refine im_iconst hF dX10_first_102 (v := (1 : Int32)) (by decide) ?_
    refine im_isub hF dX10_first_103 ?_
    refine im_iload hF dX10_first_104 6 rfl ?_
    refine im_isub hF dX10_first_106 ?_
    refine im_callVI hF (As := [.int a9, .int a7, .int a8, .int a2, .int a5, .int ((a6 - (1 : Int32)) - a9)]) (rest := []) my_X10_findsRide mv_X10_findsRide wl_1126 (fun l r hr => c_X10_findsRide l g hI a9 a7 a8 a2 a5 ((a6 - (1 : Int32)) - a9) s0 r hr) ⟨by decide, by decide⟩ (by decide) (by decide) ⟨_, rfl, rfl⟩ rfl rfl (Nat.le_of_ble_eq_true rfl) dX10_first_107 (fun q1 => ?_)
    refine im_pop hF dX10_first_110 rfl ?_
    refine im_aload_n hF dX10_first_111 0 rfl ?_
    refine im_get hF (v := .ref (g.2.1 55 0)) fl_10_43 (by decide) (by decide) rfl dX10_first_112 ?_
    refine im_bipush hF dX10_first_115 (v := (7 : Int32)) (by decide) ?_
    refine im_aload_n hF dX10_first_117 0 rfl ?_
    refine im_get hF (v := .ref (g.2.1 86 0)) fl_10_142 (by decide) (by decide) rfl dX10_first_118 ?_
    refine im_iload hF dX10_first_121 6 rfl ?_
    refine im_iald hF ar_86 (by decide) dX10_first_123 (fun h2 => ?_)
    refine im_imul hF dX10_first_124 ?_
    refine im_aload_n hF dX10_first_125 0 rfl ?_
    refine im_get hF (v := .ref (g.2.1 88 0)) fl_10_148 (by decide) (by decide) rfl dX10_first_126 ?_
    refine im_iload hF dX10_first_129 6 rfl ?_
    refine im_iald hF ar_88 (by decide) dX10_first_131 (fun h3 => ?_)
    refine im_iadd hF dX10_first_132 ?_
    refine im_iald hF ar_55 (by decide) dX10_first_133 (fun h4 => ?_)
    refine im_bdI (fun x5 => ?_)
    refine im_istore hF dX10_first_134 (lv' := [(7, .int x5), (0, .ref (g.2.1 10 0)), (2, .int a2), (5, .int a5), (6, .int a6), (8, .int a8), (9, .int a9)]) (by decide) rfl ?_
    refine im_aload_n hF dX10_first_136 1 rfl ?_
    refine im_aload_n hF dX10_first_137 1 rfl ?_
    refine im_get hF (v := .ref (g.2.1 86 0)) fl_10_142 (by decide) (by decide) rfl dX10_first_138 ?_
    refine im_iload hF dX10_first_141 6 rfl ?_
    refine im_iald hF ar_86 (by decide) dX10_first_143 (fun h6 => ?_)
    refine im_aload_n hF dX10_first_144 1 rfl ?_
    refine im_get hF (v := .ref (g.2.1 88 0)) fl_10_148 (by decide) (by decide) rfl dX10_first_145 ?_
    refine im_iload hF dX10_first_148 6 rfl ?_
    refine im_iald hF ar_88 (by decide) dX10_first_150 (fun h7 => ?_)
    refine im_callVI hF (As := [.int (q1.2 86 0 a9.toNatClampNeg), .int (q1.2 88 0 a9.toNatClampNeg)]) (rest := []) my_X10_coming mv_X10_coming wl_1122 (fun l r hr => c_X10_coming l g hI (q1.2 86 0 a9.toNatClampNeg) (q1.2 88 0 a9.toNatClampNeg) q1.2 r hr) ⟨by decide, by decide⟩ (by decide) (by decide) ⟨_, rfl, rfl⟩ rfl rfl (Nat.le_of_ble_eq_true rfl) dX10_first_151 (fun q8 => ?_)
    refine im_iconst hF dX10_first_154 (v := (1 : Int32)) (by decide) ?_
    refine im_iadd hF dX10_first_155 ?_
    refine im_bdI (fun x9 => ?_)
    refine im_istore hF dX10_first_156 (lv' := [(8, .int x9), (7, .int x5), (0, .ref (g.2.1 10 0)), (2, .int a2), (5, .int a5), (6, .int a6), (9, .int a9)]) (by decide) rfl ?_
    refine im_iinc hF dX10_first_158 (v := (a9 + (1 : Int32))) (lv' := [(9, .int (a9 + (1 : Int32))), (8, .int x9), (7, .int x5), (0, .ref (g.2.1 10 0)), (2, .int a2), (5, .int a5), (6, .int a6)]) 6 rfl rfl (by decide) rfl ?_
    refine im_goto hF 83 dX10_first_161 (by decide) ?_
    refine im_sub (lv' := [(0, .ref (g.2.1 10 0)), (2, .int a2), (5, .int a5), (6, .int a6), (7, .int x5), (8, .int x9), (9, .int (a9 + (1 : Int32)))]) [3, 4, 5, 6, 2, 1, 0] rfl ?_
    exact hk83 a2 a5 a6 x5 x9 (a9 + (1 : Int32)) q8.2
def f_X10_first_L83 : Nat → Int32 → Int32 → Int32 → Int32 → Int32 → Int32 → Sg → Option (Int32 × Sg)
  | 0 => fun _ _ _ _ _ _ _ => none
  | n + 1 => fun a2 a5 a6 a7 a8 a9 s0 => f_X10_first_B83 (f_X10_first_L83 n) a2 a5 a6 a7 a8 a9 s0
theorem i_X10_first_L83 (X : Cx) (g : GT) (hF : Fx X g RX10 cX10_first 10 8 202) (hM : FM X g (some .int)) (hI : GI g) : ∀ (n : Nat) (a2 : Int32) (a5 : Int32) (a6 : Int32) (a7 : Int32) (a8 : Int32) (a9 : Int32) (s0 : Sg), Im X g 10 (Qm X g embI) s0 83 [(0, .ref (g.2.1 10 0)), (2, .int a2), (5, .int a5), (6, .int a6), (7, .int a7), (8, .int a8), (9, .int a9)] [] (f_X10_first_L83 n a2 a5 a6 a7 a8 a9 s0) := by
  intro n
  induction n with
  | zero => intros; exact im_none
  | succ n ih => intro a2 a5 a6 a7 a8 a9 s0; exact i_X10_first_B83 X g hF hM hI (f_X10_first_L83 n) ih a2 a5 a6 a7 a8 a9 s0
def f_X10_first (a1 : Int32) (a2 : Int32) (a3 : Int32) (a4 : Int32) (s0 : Sg) : Option (Int32 × Sg) :=
  Option.bind (f_X10_areAsked a1 a2 a3 s0) fun q1 =>
  if q1.1 = 0 then
  some ((-1 : Int32), q1.2)
  else
  Option.bind (f_X10_runs q1.2) fun q2 =>
  chk (b01 a4) (
  bdS (up3 q2 10 0 52 a4) fun s3 =>
  Option.bind (f_X10_earliest a1 a3 a2 (8 : Int32) s3) fun q5 =>
  if q5.1 = (1000000 : Int32) then
  some ((-1 : Int32), q5.2)
  else
  (f_X10_first_L45 (f_X10_first_L83 FU) FU) a1 a2 a3 q5.1 (1 : Int32) q5.2)
set_option maxRecDepth 4000 in
theorem i_X10_first (X : Cx) (g : GT) (hF : Fx X g RX10 cX10_first 10 8 202) (hM : FM X g (some .int)) (hI : GI g) (a1 : Int32) (a2 : Int32) (a3 : Int32) (a4 : Int32) (s0 : Sg) : Im X g 10 (Qm X g embI) s0 0 [(0, .ref (g.2.1 10 0)), (1, .int a1), (2, .int a2), (3, .int a3), (4, .int a4)] [] (f_X10_first a1 a2 a3 a4 s0) := by
  unfold f_X10_first
  refine im_iload_n hF dX10_first_0 1 rfl ?_
  refine im_iload_n hF dX10_first_1 2 rfl ?_
  refine im_iload_n hF dX10_first_2 3 rfl ?_
  refine im_callSI hF (As := [.int a1, .int a2, .int a3]) (rest := []) my_X10_areAsked ms_X10_areAsked wl_1110 (fun l r hr => c_X10_areAsked l g hI a1 a2 a3 s0 r hr) ⟨by decide, by decide⟩ rfl rfl (Nat.le_of_ble_eq_true rfl) dX10_first_3 (fun q1 => ?_)
  refine im_if_ne hF 11 dX10_first_6 (by decide) (fun _ => ?_) (fun _ => ?_)
  · refine im_iconst hF dX10_first_9 (v := (-1 : Int32)) (by decide) ?_
    exact im_iret hF hM dX10_first_10
  · refine im_aload_n hF dX10_first_11 0 rfl ?_
    refine im_callVV hF (As := []) (rest := []) my_X10_runs mv_X10_runs wl_1066 (fun l r hr => c_X10_runs l g hI  q1.2 r hr) ⟨by decide, by decide⟩ (by decide) (by decide) ⟨_, rfl, rfl⟩ rfl rfl (Nat.le_of_ble_eq_true rfl) dX10_first_12 (fun q2 => ?_)
    refine im_aload_n hF dX10_first_15 0 rfl ?_
    refine im_iload hF dX10_first_16 4 rfl ?_
    refine im_chk (fun h4 => ?_)
    refine im_put hF a4 fp_10_293 (by decide) (by decide) rfl (b01_n h4) (b01_f h4) dX10_first_18 ?_
    refine im_bdS (fun s3 => ?_)
    refine im_aload_n hF dX10_first_21 0 rfl ?_
    refine im_iload_n hF dX10_first_22 1 rfl ?_
    refine im_iload_n hF dX10_first_23 3 rfl ?_
    refine im_iload_n hF dX10_first_24 2 rfl ?_
    refine im_bipush hF dX10_first_25 (v := (8 : Int32)) (by decide) ?_
    refine im_callVI hF (As := [.int a1, .int a3, .int a2, .int (8 : Int32)]) (rest := []) my_X10_earliest mv_X10_earliest wl_1113 (fun l r hr => c_X10_earliest l g hI a1 a3 a2 (8 : Int32) s3 r hr) ⟨by decide, by decide⟩ (by decide) (by decide) ⟨_, rfl, rfl⟩ rfl rfl (Nat.le_of_ble_eq_true rfl) dX10_first_27 (fun q5 => ?_)
    refine im_istore hF dX10_first_30 (lv' := [(5, .int q5.1), (0, .ref (g.2.1 10 0)), (1, .int a1), (2, .int a2), (3, .int a3), (4, .int a4)]) (by decide) rfl ?_
    refine im_iload hF dX10_first_32 0 rfl ?_
    refine im_ldcw hF (v := (1000000 : Int32)) wl_1117 dX10_first_34 ?_
    refine im_icmp_ne hF 42 dX10_first_37 (by decide) (fun _ => ?_) (fun _ => ?_)
    · refine im_iconst hF dX10_first_40 (v := (-1 : Int32)) (by decide) ?_
      exact im_iret hF hM dX10_first_41
    · refine im_iconst hF dX10_first_42 (v := (1 : Int32)) (by decide) ?_
      refine im_istore hF dX10_first_43 (lv' := [(6, .int (1 : Int32)), (5, .int q5.1), (0, .ref (g.2.1 10 0)), (1, .int a1), (2, .int a2), (3, .int a3), (4, .int a4)]) (by decide) rfl ?_
      refine im_sub (lv' := [(0, .ref (g.2.1 10 0)), (1, .int a1), (2, .int a2), (3, .int a3), (5, .int q5.1), (6, .int (1 : Int32))]) [2, 3, 4, 5, 1, 0] rfl ?_
      exact (i_X10_first_L45 X g hF hM hI (f_X10_first_L83 FU) (i_X10_first_L83 X g hF hM hI FU) FU) a1 a2 a3 q5.1 (1 : Int32) q5.2
theorem c_X10_first (l : Launch) (g : GT) (hI : GI g) (a1 : Int32) (a2 : Int32) (a3 : Int32) (a4 : Int32) (s0 : Sg) (r : (Int32 × Sg)) (hr : f_X10_first a1 a2 a3 a4 s0 = some r) : Ct l yX10_first cX10_first 10 (some .int) 8 202 g [.ref (g.2.1 10 0), .int a1, .int a2, .int a3, .int a4] s0 (embI r) := ct_of (by decide) hI (Nat.le_of_ble_eq_true rfl) (fun X hF hM => i_X10_first X g hF hM hI a1 a2 a3 a4 s0) r hr
