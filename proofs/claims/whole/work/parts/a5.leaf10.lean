/-! the constructor of the reference; written by mkctor.py -/
def bk10 (g : GT) (a : Nat) : va_W := [(a, .inr (10, [.int 0, .int 0, .int 0, .ref (a + 1), .ref (a + 2), .ref (a + 3), .ref (a + 4), .ref (a + 5), .ref (a + 6), .ref (a + 7), .ref (a + 8), .ref (a + 9), .ref (a + 10), .ref (a + 11), .ref (a + 12), .ref (a + 13), .ref (a + 14), .ref (a + 15), .ref (a + 16), .int 0, .ref (a + 17), .int 0, .int 0, .int (-1), .ref (a + 18), .ref (a + 19), .ref (a + 20), .ref (a + 21), .ref (a + 22), .ref (a + 23), .ref (a + 24), .ref (a + 25), .ref (a + 26), .ref (a + 27), .ref (a + 28), .ref (a + 29), .int 0, .int 0, .int 0, .int 0, .int 0, .ref (a + 30), .ref (a + 31), .ref (a + 32), .ref (a + 33), .ref (a + 34), .ref (a + 35), .ref (a + 36), .ref (a + 37), .ref (a + 38), .ref (a + 39), .ref (a + 40), .int 0, .ref (a + 41), .ref (a + 42), .int 0, .ref (a + 43), .ref (a + 44), .ref (a + 45)])), (a + 1, .inl (g.2.2 0, 12, .inl (fun _ => 0))), (a + 2, .inl (g.2.2 0, 12, .inl (fun _ => 0))), (a + 3, .inl (g.2.2 0, 12, .inl (fun _ => 0))), (a + 4, .inl (g.2.2 0, 144, .inl (fun _ => 0))), (a + 5, .inl (g.2.2 0, 10, .inl (fun _ => 0))), (a + 6, .inl (g.2.2 0, 10, .inl (fun _ => 0))), (a + 7, .inl (g.2.2 0, 10, .inl (fun _ => 0))), (a + 8, .inl (g.2.2 0, 10, .inl (fun _ => 0))), (a + 9, .inl (g.2.2 0, 10, .inl (fun _ => 0))), (a + 10, .inl (g.2.2 0, 60, .inl (fun _ => 0))), (a + 11, .inl (g.2.2 0, 60, .inl (fun _ => 0))), (a + 12, .inl (g.2.2 0, 70, .inl (fun _ => 0))), (a + 13, .inl (g.2.2 0, 20, .inl (fun _ => 0))), (a + 14, .inl (g.2.2 0, 20, .inl (fun _ => 0))), (a + 15, .inl (g.2.2 0, 20, .inl (fun _ => 0))), (a + 16, .inl (g.2.2 0, 20, .inl (fun _ => 0))), (a + 17, .inl (g.2.2 1, 200, .inl (fun _ => 0))), (a + 18, .inl (g.2.2 0, 5, .inl (fun _ => 0))), (a + 19, .inl (g.2.2 0, 5, .inl (fun _ => 0))), (a + 20, .inl (g.2.2 0, 5, .inl (fun _ => 0))), (a + 21, .inl (g.2.2 0, 60, .inl (fun _ => 0))), (a + 22, .inl (g.2.2 0, 60, .inl (fun _ => 0))), (a + 23, .inl (g.2.2 0, 60, .inl (fun _ => 0))), (a + 24, .inl (g.2.2 0, 60, .inl (fun _ => 0))), (a + 25, .inl (g.2.2 0, 1000, .inl (fun _ => 0))), (a + 26, .inl (g.2.2 0, 1000, .inl (fun _ => 0))), (a + 27, .inl (g.2.2 0, 1000, .inl (fun _ => 0))), (a + 28, .inl (g.2.2 0, 1000, .inl (fun _ => 0))), (a + 29, .inl (g.2.2 0, 200, .inl (fun _ => 0))), (a + 30, .inl (g.2.2 0, 5, .inl (fun _ => 0))), (a + 31, .inl (g.2.2 2, 200, .inl (fun _ => 0))), (a + 32, .inl (g.2.2 0, 70, .inl (fun _ => 0))), (a + 33, .inl (g.2.2 0, 70, .inl (fun _ => 0))), (a + 34, .inl (g.2.2 0, 70, .inl (fun _ => 0))), (a + 35, .inl (g.2.2 0, 70, .inl (fun _ => 0))), (a + 36, .inl (g.2.2 0, 280, .inl (fun _ => 0))), (a + 37, .inl (g.2.2 0, 10, .inl (fun _ => 0))), (a + 38, .inl (g.2.2 0, 10, .inl (fun _ => 0))), (a + 39, .inl (g.2.2 0, 10, .inl (fun _ => 0))), (a + 40, .inl (g.2.2 2, 10, .inl (fun _ => 0))), (a + 41, .inl (g.2.2 0, 8, .inl (fun _ => 0))), (a + 42, .inl (g.2.2 0, 8, .inl (fun _ => 0))), (a + 43, .inl (g.2.2 0, 8, .inl (fun _ => 0))), (a + 44, .inl (g.2.2 0, 8, .inl (fun _ => 0))), (a + 45, .inl (g.2.2 0, 8, .inl (fun _ => 0)))]
def vk10_0 (g : GT) (a : Nat) : va_W := [(a, .inr (10, [.int 0, .int 0, .int 0, .ref (a + 1), .ref (a + 2), .ref (a + 3), .ref (a + 4), .ref (a + 5), .ref (a + 6), .null, .null, .null, .null, .null, .null, .null, .null, .null, .null, .int 0, .null, .int 0, .int 0, .int 0, .null, .null, .null, .null, .null, .null, .null, .null, .null, .null, .null, .null, .int 0, .int 0, .int 0, .int 0, .int 0, .null, .null, .null, .null, .null, .null, .null, .null, .null, .null, .null, .int 0, .null, .null, .int 0, .null, .null, .null])), (a + 1, .inl (g.2.2 0, 12, .inl (fun _ => 0))), (a + 2, .inl (g.2.2 0, 12, .inl (fun _ => 0))), (a + 3, .inl (g.2.2 0, 12, .inl (fun _ => 0))), (a + 4, .inl (g.2.2 0, 144, .inl (fun _ => 0))), (a + 5, .inl (g.2.2 0, 10, .inl (fun _ => 0))), (a + 6, .inl (g.2.2 0, 10, .inl (fun _ => 0)))]
theorem ck10_0 {X : Cx} {g : GT} {B a : Nat} {w : va_W} {Q : State → Prop} (hF : Fy X g B yX10_init.cls cX10_init 1 1 12 45 6000) (hN : NI X) (hk : Jm X g 1 Q (a + 7) 6 200 w (vk10_0 g a) 53 [(0, .ref a)] []) : Jm X g 1 Q (a + 1) 0 0 w ([(a, .inr (10, bl10))]) 0 [(0, .ref a)] [] := by
  unfold bl10
  refine jm_aload_n hF dX10_init_0 0 rfl ?_
  refine jm_obj hF wc_754 ob_w (by decide) (by decide) dX10_init_1 ?_
  refine jm_aload_n hF dX10_init_4 0 rfl ?_
  refine jm_bipush hF (v := (12 : Int32)) dX10_init_5 (by decide) ?_
  refine jm_fld hF hN (atype := .int) (t := 0) (N := 12) (z' := a + 2) (κ' := 1) (ς' := 12) fc_10_7 wc_55 rfl rfl (by decide) (by decide) (by decide) rfl rfl rfl (by decide) (by decide) rfl rfl rfl dX10_init_7 dX10_init_9 ?_
  refine jm_aload_n hF dX10_init_12 0 rfl ?_
  refine jm_bipush hF (v := (12 : Int32)) dX10_init_13 (by decide) ?_
  refine jm_fld hF hN (atype := .int) (t := 0) (N := 12) (z' := a + 3) (κ' := 2) (ς' := 24) fc_10_13 wc_55 rfl rfl (by decide) (by decide) (by decide) rfl rfl rfl (by decide) (by decide) rfl rfl rfl dX10_init_15 dX10_init_17 ?_
  refine jm_aload_n hF dX10_init_20 0 rfl ?_
  refine jm_bipush hF (v := (12 : Int32)) dX10_init_21 (by decide) ?_
  refine jm_fld hF hN (atype := .int) (t := 0) (N := 12) (z' := a + 4) (κ' := 3) (ς' := 36) fc_10_16 wc_55 rfl rfl (by decide) (by decide) (by decide) rfl rfl rfl (by decide) (by decide) rfl rfl rfl dX10_init_23 dX10_init_25 ?_
  refine jm_aload_n hF dX10_init_28 0 rfl ?_
  refine jm_sipush hF (v := (144 : Int32)) dX10_init_29 (by decide) ?_
  refine jm_fld hF hN (atype := .int) (t := 0) (N := 144) (z' := a + 5) (κ' := 4) (ς' := 180) fc_10_19 wc_55 rfl rfl (by decide) (by decide) (by decide) rfl rfl rfl (by decide) (by decide) rfl rfl rfl dX10_init_32 dX10_init_34 ?_
  refine jm_aload_n hF dX10_init_37 0 rfl ?_
  refine jm_bipush hF (v := (10 : Int32)) dX10_init_38 (by decide) ?_
  refine jm_fld hF hN (atype := .int) (t := 0) (N := 10) (z' := a + 6) (κ' := 5) (ς' := 190) fc_10_22 wc_55 rfl rfl (by decide) (by decide) (by decide) rfl rfl rfl (by decide) (by decide) rfl rfl rfl dX10_init_40 dX10_init_42 ?_
  refine jm_aload_n hF dX10_init_45 0 rfl ?_
  refine jm_bipush hF (v := (10 : Int32)) dX10_init_46 (by decide) ?_
  refine jm_fld hF hN (atype := .int) (t := 0) (N := 10) (z' := a + 7) (κ' := 6) (ς' := 200) fc_10_25 wc_55 rfl rfl (by decide) (by decide) (by decide) rfl rfl rfl (by decide) (by decide) rfl rfl rfl dX10_init_48 dX10_init_50 ?_
  exact hk
def vk10_1 (g : GT) (a : Nat) : va_W := [(a, .inr (10, [.int 0, .int 0, .int 0, .ref (a + 1), .ref (a + 2), .ref (a + 3), .ref (a + 4), .ref (a + 5), .ref (a + 6), .ref (a + 7), .ref (a + 8), .ref (a + 9), .ref (a + 10), .ref (a + 11), .ref (a + 12), .null, .null, .null, .null, .int 0, .null, .int 0, .int 0, .int 0, .null, .null, .null, .null, .null, .null, .null, .null, .null, .null, .null, .null, .int 0, .int 0, .int 0, .int 0, .int 0, .null, .null, .null, .null, .null, .null, .null, .null, .null, .null, .null, .int 0, .null, .null, .int 0, .null, .null, .null])), (a + 1, .inl (g.2.2 0, 12, .inl (fun _ => 0))), (a + 2, .inl (g.2.2 0, 12, .inl (fun _ => 0))), (a + 3, .inl (g.2.2 0, 12, .inl (fun _ => 0))), (a + 4, .inl (g.2.2 0, 144, .inl (fun _ => 0))), (a + 5, .inl (g.2.2 0, 10, .inl (fun _ => 0))), (a + 6, .inl (g.2.2 0, 10, .inl (fun _ => 0))), (a + 7, .inl (g.2.2 0, 10, .inl (fun _ => 0))), (a + 8, .inl (g.2.2 0, 10, .inl (fun _ => 0))), (a + 9, .inl (g.2.2 0, 10, .inl (fun _ => 0))), (a + 10, .inl (g.2.2 0, 60, .inl (fun _ => 0))), (a + 11, .inl (g.2.2 0, 60, .inl (fun _ => 0))), (a + 12, .inl (g.2.2 0, 70, .inl (fun _ => 0)))]
theorem ck10_1 {X : Cx} {g : GT} {B a : Nat} {w : va_W} {Q : State → Prop} (hF : Fy X g B yX10_init.cls cX10_init 1 1 12 45 6000) (hN : NI X) (hk : Jm X g 1 Q (a + 13) 12 420 w (vk10_1 g a) 101 [(0, .ref a)] []) : Jm X g 1 Q (a + 7) 6 200 w (vk10_0 g a) 53 [(0, .ref a)] [] := by
  unfold vk10_0
  refine jm_aload_n hF dX10_init_53 0 rfl ?_
  refine jm_bipush hF (v := (10 : Int32)) dX10_init_54 (by decide) ?_
  refine jm_fld hF hN (atype := .int) (t := 0) (N := 10) (z' := a + 8) (κ' := 7) (ς' := 210) fc_10_28 wc_55 rfl rfl (by decide) (by decide) (by decide) rfl rfl rfl (by decide) (by decide) rfl rfl rfl dX10_init_56 dX10_init_58 ?_
  refine jm_aload_n hF dX10_init_61 0 rfl ?_
  refine jm_bipush hF (v := (10 : Int32)) dX10_init_62 (by decide) ?_
  refine jm_fld hF hN (atype := .int) (t := 0) (N := 10) (z' := a + 9) (κ' := 8) (ς' := 220) fc_10_31 wc_55 rfl rfl (by decide) (by decide) (by decide) rfl rfl rfl (by decide) (by decide) rfl rfl rfl dX10_init_64 dX10_init_66 ?_
  refine jm_aload_n hF dX10_init_69 0 rfl ?_
  refine jm_bipush hF (v := (10 : Int32)) dX10_init_70 (by decide) ?_
  refine jm_fld hF hN (atype := .int) (t := 0) (N := 10) (z' := a + 10) (κ' := 9) (ς' := 230) fc_10_34 wc_55 rfl rfl (by decide) (by decide) (by decide) rfl rfl rfl (by decide) (by decide) rfl rfl rfl dX10_init_72 dX10_init_74 ?_
  refine jm_aload_n hF dX10_init_77 0 rfl ?_
  refine jm_bipush hF (v := (60 : Int32)) dX10_init_78 (by decide) ?_
  refine jm_fld hF hN (atype := .int) (t := 0) (N := 60) (z' := a + 11) (κ' := 10) (ς' := 290) fc_10_37 wc_55 rfl rfl (by decide) (by decide) (by decide) rfl rfl rfl (by decide) (by decide) rfl rfl rfl dX10_init_80 dX10_init_82 ?_
  refine jm_aload_n hF dX10_init_85 0 rfl ?_
  refine jm_bipush hF (v := (60 : Int32)) dX10_init_86 (by decide) ?_
  refine jm_fld hF hN (atype := .int) (t := 0) (N := 60) (z' := a + 12) (κ' := 11) (ς' := 350) fc_10_40 wc_55 rfl rfl (by decide) (by decide) (by decide) rfl rfl rfl (by decide) (by decide) rfl rfl rfl dX10_init_88 dX10_init_90 ?_
  refine jm_aload_n hF dX10_init_93 0 rfl ?_
  refine jm_bipush hF (v := (70 : Int32)) dX10_init_94 (by decide) ?_
  refine jm_fld hF hN (atype := .int) (t := 0) (N := 70) (z' := a + 13) (κ' := 12) (ς' := 420) fc_10_43 wc_55 rfl rfl (by decide) (by decide) (by decide) rfl rfl rfl (by decide) (by decide) rfl rfl rfl dX10_init_96 dX10_init_98 ?_
  exact hk
def vk10_2 (g : GT) (a : Nat) : va_W := [(a, .inr (10, [.int 0, .int 0, .int 0, .ref (a + 1), .ref (a + 2), .ref (a + 3), .ref (a + 4), .ref (a + 5), .ref (a + 6), .ref (a + 7), .ref (a + 8), .ref (a + 9), .ref (a + 10), .ref (a + 11), .ref (a + 12), .ref (a + 13), .ref (a + 14), .ref (a + 15), .ref (a + 16), .int 0, .ref (a + 17), .int 0, .int 0, .int (-1), .null, .null, .null, .null, .null, .null, .null, .null, .null, .null, .null, .null, .int 0, .int 0, .int 0, .int 0, .int 0, .null, .null, .null, .null, .null, .null, .null, .null, .null, .null, .null, .int 0, .null, .null, .int 0, .null, .null, .null])), (a + 1, .inl (g.2.2 0, 12, .inl (fun _ => 0))), (a + 2, .inl (g.2.2 0, 12, .inl (fun _ => 0))), (a + 3, .inl (g.2.2 0, 12, .inl (fun _ => 0))), (a + 4, .inl (g.2.2 0, 144, .inl (fun _ => 0))), (a + 5, .inl (g.2.2 0, 10, .inl (fun _ => 0))), (a + 6, .inl (g.2.2 0, 10, .inl (fun _ => 0))), (a + 7, .inl (g.2.2 0, 10, .inl (fun _ => 0))), (a + 8, .inl (g.2.2 0, 10, .inl (fun _ => 0))), (a + 9, .inl (g.2.2 0, 10, .inl (fun _ => 0))), (a + 10, .inl (g.2.2 0, 60, .inl (fun _ => 0))), (a + 11, .inl (g.2.2 0, 60, .inl (fun _ => 0))), (a + 12, .inl (g.2.2 0, 70, .inl (fun _ => 0))), (a + 13, .inl (g.2.2 0, 20, .inl (fun _ => 0))), (a + 14, .inl (g.2.2 0, 20, .inl (fun _ => 0))), (a + 15, .inl (g.2.2 0, 20, .inl (fun _ => 0))), (a + 16, .inl (g.2.2 0, 20, .inl (fun _ => 0))), (a + 17, .inl (g.2.2 1, 200, .inl (fun _ => 0)))]
theorem ck10_2 {X : Cx} {g : GT} {B a : Nat} {w : va_W} {Q : State → Prop} (hF : Fy X g B yX10_init.cls cX10_init 1 1 12 45 6000) (hN : NI X) (hk : Jm X g 1 Q (a + 18) 17 700 w (vk10_2 g a) 147 [(0, .ref a)] []) : Jm X g 1 Q (a + 13) 12 420 w (vk10_1 g a) 101 [(0, .ref a)] [] := by
  unfold vk10_1
  refine jm_aload_n hF dX10_init_101 0 rfl ?_
  refine jm_bipush hF (v := (20 : Int32)) dX10_init_102 (by decide) ?_
  refine jm_fld hF hN (atype := .int) (t := 0) (N := 20) (z' := a + 14) (κ' := 13) (ς' := 440) fc_10_46 wc_55 rfl rfl (by decide) (by decide) (by decide) rfl rfl rfl (by decide) (by decide) rfl rfl rfl dX10_init_104 dX10_init_106 ?_
  refine jm_aload_n hF dX10_init_109 0 rfl ?_
  refine jm_bipush hF (v := (20 : Int32)) dX10_init_110 (by decide) ?_
  refine jm_fld hF hN (atype := .int) (t := 0) (N := 20) (z' := a + 15) (κ' := 14) (ς' := 460) fc_10_49 wc_55 rfl rfl (by decide) (by decide) (by decide) rfl rfl rfl (by decide) (by decide) rfl rfl rfl dX10_init_112 dX10_init_114 ?_
  refine jm_aload_n hF dX10_init_117 0 rfl ?_
  refine jm_bipush hF (v := (20 : Int32)) dX10_init_118 (by decide) ?_
  refine jm_fld hF hN (atype := .int) (t := 0) (N := 20) (z' := a + 16) (κ' := 15) (ς' := 480) fc_10_52 wc_55 rfl rfl (by decide) (by decide) (by decide) rfl rfl rfl (by decide) (by decide) rfl rfl rfl dX10_init_120 dX10_init_122 ?_
  refine jm_aload_n hF dX10_init_125 0 rfl ?_
  refine jm_bipush hF (v := (20 : Int32)) dX10_init_126 (by decide) ?_
  refine jm_fld hF hN (atype := .int) (t := 0) (N := 20) (z' := a + 17) (κ' := 16) (ς' := 500) fc_10_55 wc_55 rfl rfl (by decide) (by decide) (by decide) rfl rfl rfl (by decide) (by decide) rfl rfl rfl dX10_init_128 dX10_init_130 ?_
  refine jm_aload_n hF dX10_init_133 0 rfl ?_
  refine jm_sipush hF (v := (200 : Int32)) dX10_init_134 (by decide) ?_
  refine jm_fld hF hN (atype := .byte) (t := 1) (N := 200) (z' := a + 18) (κ' := 17) (ς' := 700) fc_10_58 wc_933 rfl rfl (by decide) (by decide) (by decide) rfl rfl rfl (by decide) (by decide) rfl rfl rfl dX10_init_137 dX10_init_139 ?_
  refine jm_aload_n hF dX10_init_142 0 rfl ?_
  refine jm_iconst hF (v := (-1 : Int32)) dX10_init_143 (by decide) ?_
  refine jm_put hF hN (V' := [(a, .inr (10, [.int 0, .int 0, .int 0, .ref (a + 1), .ref (a + 2), .ref (a + 3), .ref (a + 4), .ref (a + 5), .ref (a + 6), .ref (a + 7), .ref (a + 8), .ref (a + 9), .ref (a + 10), .ref (a + 11), .ref (a + 12), .ref (a + 13), .ref (a + 14), .ref (a + 15), .ref (a + 16), .int 0, .ref (a + 17), .int 0, .int 0, .int (-1), .null, .null, .null, .null, .null, .null, .null, .null, .null, .null, .null, .null, .int 0, .int 0, .int 0, .int 0, .int 0, .null, .null, .null, .null, .null, .null, .null, .null, .null, .null, .null, .int 0, .null, .null, .int 0, .null, .null, .null])), (a + 1, .inl (g.2.2 0, 12, .inl (fun _ => 0))), (a + 2, .inl (g.2.2 0, 12, .inl (fun _ => 0))), (a + 3, .inl (g.2.2 0, 12, .inl (fun _ => 0))), (a + 4, .inl (g.2.2 0, 144, .inl (fun _ => 0))), (a + 5, .inl (g.2.2 0, 10, .inl (fun _ => 0))), (a + 6, .inl (g.2.2 0, 10, .inl (fun _ => 0))), (a + 7, .inl (g.2.2 0, 10, .inl (fun _ => 0))), (a + 8, .inl (g.2.2 0, 10, .inl (fun _ => 0))), (a + 9, .inl (g.2.2 0, 10, .inl (fun _ => 0))), (a + 10, .inl (g.2.2 0, 60, .inl (fun _ => 0))), (a + 11, .inl (g.2.2 0, 60, .inl (fun _ => 0))), (a + 12, .inl (g.2.2 0, 70, .inl (fun _ => 0))), (a + 13, .inl (g.2.2 0, 20, .inl (fun _ => 0))), (a + 14, .inl (g.2.2 0, 20, .inl (fun _ => 0))), (a + 15, .inl (g.2.2 0, 20, .inl (fun _ => 0))), (a + 16, .inl (g.2.2 0, 20, .inl (fun _ => 0))), (a + 17, .inl (g.2.2 1, 200, .inl (fun _ => 0)))]) 0 fc_10_62 rfl rfl rfl rfl rfl dX10_init_144 ?_
  exact hk
def vk10_3 (g : GT) (a : Nat) : va_W := [(a, .inr (10, [.int 0, .int 0, .int 0, .ref (a + 1), .ref (a + 2), .ref (a + 3), .ref (a + 4), .ref (a + 5), .ref (a + 6), .ref (a + 7), .ref (a + 8), .ref (a + 9), .ref (a + 10), .ref (a + 11), .ref (a + 12), .ref (a + 13), .ref (a + 14), .ref (a + 15), .ref (a + 16), .int 0, .ref (a + 17), .int 0, .int 0, .int (-1), .ref (a + 18), .ref (a + 19), .ref (a + 20), .ref (a + 21), .ref (a + 22), .ref (a + 23), .null, .null, .null, .null, .null, .null, .int 0, .int 0, .int 0, .int 0, .int 0, .null, .null, .null, .null, .null, .null, .null, .null, .null, .null, .null, .int 0, .null, .null, .int 0, .null, .null, .null])), (a + 1, .inl (g.2.2 0, 12, .inl (fun _ => 0))), (a + 2, .inl (g.2.2 0, 12, .inl (fun _ => 0))), (a + 3, .inl (g.2.2 0, 12, .inl (fun _ => 0))), (a + 4, .inl (g.2.2 0, 144, .inl (fun _ => 0))), (a + 5, .inl (g.2.2 0, 10, .inl (fun _ => 0))), (a + 6, .inl (g.2.2 0, 10, .inl (fun _ => 0))), (a + 7, .inl (g.2.2 0, 10, .inl (fun _ => 0))), (a + 8, .inl (g.2.2 0, 10, .inl (fun _ => 0))), (a + 9, .inl (g.2.2 0, 10, .inl (fun _ => 0))), (a + 10, .inl (g.2.2 0, 60, .inl (fun _ => 0))), (a + 11, .inl (g.2.2 0, 60, .inl (fun _ => 0))), (a + 12, .inl (g.2.2 0, 70, .inl (fun _ => 0))), (a + 13, .inl (g.2.2 0, 20, .inl (fun _ => 0))), (a + 14, .inl (g.2.2 0, 20, .inl (fun _ => 0))), (a + 15, .inl (g.2.2 0, 20, .inl (fun _ => 0))), (a + 16, .inl (g.2.2 0, 20, .inl (fun _ => 0))), (a + 17, .inl (g.2.2 1, 200, .inl (fun _ => 0))), (a + 18, .inl (g.2.2 0, 5, .inl (fun _ => 0))), (a + 19, .inl (g.2.2 0, 5, .inl (fun _ => 0))), (a + 20, .inl (g.2.2 0, 5, .inl (fun _ => 0))), (a + 21, .inl (g.2.2 0, 60, .inl (fun _ => 0))), (a + 22, .inl (g.2.2 0, 60, .inl (fun _ => 0))), (a + 23, .inl (g.2.2 0, 60, .inl (fun _ => 0)))]
theorem ck10_3 {X : Cx} {g : GT} {B a : Nat} {w : va_W} {Q : State → Prop} (hF : Fy X g B yX10_init.cls cX10_init 1 1 12 45 6000) (hN : NI X) (hk : Jm X g 1 Q (a + 24) 23 895 w (vk10_3 g a) 192 [(0, .ref a)] []) : Jm X g 1 Q (a + 18) 17 700 w (vk10_2 g a) 147 [(0, .ref a)] [] := by
  unfold vk10_2
  refine jm_aload_n hF dX10_init_147 0 rfl ?_
  refine jm_iconst hF (v := (5 : Int32)) dX10_init_148 (by decide) ?_
  refine jm_fld hF hN (atype := .int) (t := 0) (N := 5) (z' := a + 19) (κ' := 18) (ς' := 705) fc_10_66 wc_55 rfl rfl (by decide) (by decide) (by decide) rfl rfl rfl (by decide) (by decide) rfl rfl rfl dX10_init_149 dX10_init_151 ?_
  refine jm_aload_n hF dX10_init_154 0 rfl ?_
  refine jm_iconst hF (v := (5 : Int32)) dX10_init_155 (by decide) ?_
  refine jm_fld hF hN (atype := .int) (t := 0) (N := 5) (z' := a + 20) (κ' := 19) (ς' := 710) fc_10_69 wc_55 rfl rfl (by decide) (by decide) (by decide) rfl rfl rfl (by decide) (by decide) rfl rfl rfl dX10_init_156 dX10_init_158 ?_
  refine jm_aload_n hF dX10_init_161 0 rfl ?_
  refine jm_iconst hF (v := (5 : Int32)) dX10_init_162 (by decide) ?_
  refine jm_fld hF hN (atype := .int) (t := 0) (N := 5) (z' := a + 21) (κ' := 20) (ς' := 715) fc_10_72 wc_55 rfl rfl (by decide) (by decide) (by decide) rfl rfl rfl (by decide) (by decide) rfl rfl rfl dX10_init_163 dX10_init_165 ?_
  refine jm_aload_n hF dX10_init_168 0 rfl ?_
  refine jm_bipush hF (v := (60 : Int32)) dX10_init_169 (by decide) ?_
  refine jm_fld hF hN (atype := .int) (t := 0) (N := 60) (z' := a + 22) (κ' := 21) (ς' := 775) fc_10_75 wc_55 rfl rfl (by decide) (by decide) (by decide) rfl rfl rfl (by decide) (by decide) rfl rfl rfl dX10_init_171 dX10_init_173 ?_
  refine jm_aload_n hF dX10_init_176 0 rfl ?_
  refine jm_bipush hF (v := (60 : Int32)) dX10_init_177 (by decide) ?_
  refine jm_fld hF hN (atype := .int) (t := 0) (N := 60) (z' := a + 23) (κ' := 22) (ς' := 835) fc_10_78 wc_55 rfl rfl (by decide) (by decide) (by decide) rfl rfl rfl (by decide) (by decide) rfl rfl rfl dX10_init_179 dX10_init_181 ?_
  refine jm_aload_n hF dX10_init_184 0 rfl ?_
  refine jm_bipush hF (v := (60 : Int32)) dX10_init_185 (by decide) ?_
  refine jm_fld hF hN (atype := .int) (t := 0) (N := 60) (z' := a + 24) (κ' := 23) (ς' := 895) fc_10_81 wc_55 rfl rfl (by decide) (by decide) (by decide) rfl rfl rfl (by decide) (by decide) rfl rfl rfl dX10_init_187 dX10_init_189 ?_
  exact hk
def vk10_4 (g : GT) (a : Nat) : va_W := [(a, .inr (10, [.int 0, .int 0, .int 0, .ref (a + 1), .ref (a + 2), .ref (a + 3), .ref (a + 4), .ref (a + 5), .ref (a + 6), .ref (a + 7), .ref (a + 8), .ref (a + 9), .ref (a + 10), .ref (a + 11), .ref (a + 12), .ref (a + 13), .ref (a + 14), .ref (a + 15), .ref (a + 16), .int 0, .ref (a + 17), .int 0, .int 0, .int (-1), .ref (a + 18), .ref (a + 19), .ref (a + 20), .ref (a + 21), .ref (a + 22), .ref (a + 23), .ref (a + 24), .ref (a + 25), .ref (a + 26), .ref (a + 27), .ref (a + 28), .ref (a + 29), .int 0, .int 0, .int 0, .int 0, .int 0, .null, .null, .null, .null, .null, .null, .null, .null, .null, .null, .null, .int 0, .null, .null, .int 0, .null, .null, .null])), (a + 1, .inl (g.2.2 0, 12, .inl (fun _ => 0))), (a + 2, .inl (g.2.2 0, 12, .inl (fun _ => 0))), (a + 3, .inl (g.2.2 0, 12, .inl (fun _ => 0))), (a + 4, .inl (g.2.2 0, 144, .inl (fun _ => 0))), (a + 5, .inl (g.2.2 0, 10, .inl (fun _ => 0))), (a + 6, .inl (g.2.2 0, 10, .inl (fun _ => 0))), (a + 7, .inl (g.2.2 0, 10, .inl (fun _ => 0))), (a + 8, .inl (g.2.2 0, 10, .inl (fun _ => 0))), (a + 9, .inl (g.2.2 0, 10, .inl (fun _ => 0))), (a + 10, .inl (g.2.2 0, 60, .inl (fun _ => 0))), (a + 11, .inl (g.2.2 0, 60, .inl (fun _ => 0))), (a + 12, .inl (g.2.2 0, 70, .inl (fun _ => 0))), (a + 13, .inl (g.2.2 0, 20, .inl (fun _ => 0))), (a + 14, .inl (g.2.2 0, 20, .inl (fun _ => 0))), (a + 15, .inl (g.2.2 0, 20, .inl (fun _ => 0))), (a + 16, .inl (g.2.2 0, 20, .inl (fun _ => 0))), (a + 17, .inl (g.2.2 1, 200, .inl (fun _ => 0))), (a + 18, .inl (g.2.2 0, 5, .inl (fun _ => 0))), (a + 19, .inl (g.2.2 0, 5, .inl (fun _ => 0))), (a + 20, .inl (g.2.2 0, 5, .inl (fun _ => 0))), (a + 21, .inl (g.2.2 0, 60, .inl (fun _ => 0))), (a + 22, .inl (g.2.2 0, 60, .inl (fun _ => 0))), (a + 23, .inl (g.2.2 0, 60, .inl (fun _ => 0))), (a + 24, .inl (g.2.2 0, 60, .inl (fun _ => 0))), (a + 25, .inl (g.2.2 0, 1000, .inl (fun _ => 0))), (a + 26, .inl (g.2.2 0, 1000, .inl (fun _ => 0))), (a + 27, .inl (g.2.2 0, 1000, .inl (fun _ => 0))), (a + 28, .inl (g.2.2 0, 1000, .inl (fun _ => 0))), (a + 29, .inl (g.2.2 0, 200, .inl (fun _ => 0)))]
theorem ck10_4 {X : Cx} {g : GT} {B a : Nat} {w : va_W} {Q : State → Prop} (hF : Fy X g B yX10_init.cls cX10_init 1 1 12 45 6000) (hN : NI X) (hk : Jm X g 1 Q (a + 30) 29 5155 w (vk10_4 g a) 245 [(0, .ref a)] []) : Jm X g 1 Q (a + 24) 23 895 w (vk10_3 g a) 192 [(0, .ref a)] [] := by
  unfold vk10_3
  refine jm_aload_n hF dX10_init_192 0 rfl ?_
  refine jm_bipush hF (v := (60 : Int32)) dX10_init_193 (by decide) ?_
  refine jm_fld hF hN (atype := .int) (t := 0) (N := 60) (z' := a + 25) (κ' := 24) (ς' := 955) fc_10_84 wc_55 rfl rfl (by decide) (by decide) (by decide) rfl rfl rfl (by decide) (by decide) rfl rfl rfl dX10_init_195 dX10_init_197 ?_
  refine jm_aload_n hF dX10_init_200 0 rfl ?_
  refine jm_sipush hF (v := (1000 : Int32)) dX10_init_201 (by decide) ?_
  refine jm_fld hF hN (atype := .int) (t := 0) (N := 1000) (z' := a + 26) (κ' := 25) (ς' := 1955) fc_10_87 wc_55 rfl rfl (by decide) (by decide) (by decide) rfl rfl rfl (by decide) (by decide) rfl rfl rfl dX10_init_204 dX10_init_206 ?_
  refine jm_aload_n hF dX10_init_209 0 rfl ?_
  refine jm_sipush hF (v := (1000 : Int32)) dX10_init_210 (by decide) ?_
  refine jm_fld hF hN (atype := .int) (t := 0) (N := 1000) (z' := a + 27) (κ' := 26) (ς' := 2955) fc_10_90 wc_55 rfl rfl (by decide) (by decide) (by decide) rfl rfl rfl (by decide) (by decide) rfl rfl rfl dX10_init_213 dX10_init_215 ?_
  refine jm_aload_n hF dX10_init_218 0 rfl ?_
  refine jm_sipush hF (v := (1000 : Int32)) dX10_init_219 (by decide) ?_
  refine jm_fld hF hN (atype := .int) (t := 0) (N := 1000) (z' := a + 28) (κ' := 27) (ς' := 3955) fc_10_93 wc_55 rfl rfl (by decide) (by decide) (by decide) rfl rfl rfl (by decide) (by decide) rfl rfl rfl dX10_init_222 dX10_init_224 ?_
  refine jm_aload_n hF dX10_init_227 0 rfl ?_
  refine jm_sipush hF (v := (1000 : Int32)) dX10_init_228 (by decide) ?_
  refine jm_fld hF hN (atype := .int) (t := 0) (N := 1000) (z' := a + 29) (κ' := 28) (ς' := 4955) fc_10_96 wc_55 rfl rfl (by decide) (by decide) (by decide) rfl rfl rfl (by decide) (by decide) rfl rfl rfl dX10_init_231 dX10_init_233 ?_
  refine jm_aload_n hF dX10_init_236 0 rfl ?_
  refine jm_sipush hF (v := (200 : Int32)) dX10_init_237 (by decide) ?_
  refine jm_fld hF hN (atype := .int) (t := 0) (N := 200) (z' := a + 30) (κ' := 29) (ς' := 5155) fc_10_99 wc_55 rfl rfl (by decide) (by decide) (by decide) rfl rfl rfl (by decide) (by decide) rfl rfl rfl dX10_init_240 dX10_init_242 ?_
  exact hk
def vk10_5 (g : GT) (a : Nat) : va_W := [(a, .inr (10, [.int 0, .int 0, .int 0, .ref (a + 1), .ref (a + 2), .ref (a + 3), .ref (a + 4), .ref (a + 5), .ref (a + 6), .ref (a + 7), .ref (a + 8), .ref (a + 9), .ref (a + 10), .ref (a + 11), .ref (a + 12), .ref (a + 13), .ref (a + 14), .ref (a + 15), .ref (a + 16), .int 0, .ref (a + 17), .int 0, .int 0, .int (-1), .ref (a + 18), .ref (a + 19), .ref (a + 20), .ref (a + 21), .ref (a + 22), .ref (a + 23), .ref (a + 24), .ref (a + 25), .ref (a + 26), .ref (a + 27), .ref (a + 28), .ref (a + 29), .int 0, .int 0, .int 0, .int 0, .int 0, .ref (a + 30), .ref (a + 31), .ref (a + 32), .ref (a + 33), .ref (a + 34), .ref (a + 35), .null, .null, .null, .null, .null, .int 0, .null, .null, .int 0, .null, .null, .null])), (a + 1, .inl (g.2.2 0, 12, .inl (fun _ => 0))), (a + 2, .inl (g.2.2 0, 12, .inl (fun _ => 0))), (a + 3, .inl (g.2.2 0, 12, .inl (fun _ => 0))), (a + 4, .inl (g.2.2 0, 144, .inl (fun _ => 0))), (a + 5, .inl (g.2.2 0, 10, .inl (fun _ => 0))), (a + 6, .inl (g.2.2 0, 10, .inl (fun _ => 0))), (a + 7, .inl (g.2.2 0, 10, .inl (fun _ => 0))), (a + 8, .inl (g.2.2 0, 10, .inl (fun _ => 0))), (a + 9, .inl (g.2.2 0, 10, .inl (fun _ => 0))), (a + 10, .inl (g.2.2 0, 60, .inl (fun _ => 0))), (a + 11, .inl (g.2.2 0, 60, .inl (fun _ => 0))), (a + 12, .inl (g.2.2 0, 70, .inl (fun _ => 0))), (a + 13, .inl (g.2.2 0, 20, .inl (fun _ => 0))), (a + 14, .inl (g.2.2 0, 20, .inl (fun _ => 0))), (a + 15, .inl (g.2.2 0, 20, .inl (fun _ => 0))), (a + 16, .inl (g.2.2 0, 20, .inl (fun _ => 0))), (a + 17, .inl (g.2.2 1, 200, .inl (fun _ => 0))), (a + 18, .inl (g.2.2 0, 5, .inl (fun _ => 0))), (a + 19, .inl (g.2.2 0, 5, .inl (fun _ => 0))), (a + 20, .inl (g.2.2 0, 5, .inl (fun _ => 0))), (a + 21, .inl (g.2.2 0, 60, .inl (fun _ => 0))), (a + 22, .inl (g.2.2 0, 60, .inl (fun _ => 0))), (a + 23, .inl (g.2.2 0, 60, .inl (fun _ => 0))), (a + 24, .inl (g.2.2 0, 60, .inl (fun _ => 0))), (a + 25, .inl (g.2.2 0, 1000, .inl (fun _ => 0))), (a + 26, .inl (g.2.2 0, 1000, .inl (fun _ => 0))), (a + 27, .inl (g.2.2 0, 1000, .inl (fun _ => 0))), (a + 28, .inl (g.2.2 0, 1000, .inl (fun _ => 0))), (a + 29, .inl (g.2.2 0, 200, .inl (fun _ => 0))), (a + 30, .inl (g.2.2 0, 5, .inl (fun _ => 0))), (a + 31, .inl (g.2.2 2, 200, .inl (fun _ => 0))), (a + 32, .inl (g.2.2 0, 70, .inl (fun _ => 0))), (a + 33, .inl (g.2.2 0, 70, .inl (fun _ => 0))), (a + 34, .inl (g.2.2 0, 70, .inl (fun _ => 0))), (a + 35, .inl (g.2.2 0, 70, .inl (fun _ => 0)))]
theorem ck10_5 {X : Cx} {g : GT} {B a : Nat} {w : va_W} {Q : State → Prop} (hF : Fy X g B yX10_init.cls cX10_init 1 1 12 45 6000) (hN : NI X) (hk : Jm X g 1 Q (a + 36) 35 5640 w (vk10_5 g a) 293 [(0, .ref a)] []) : Jm X g 1 Q (a + 30) 29 5155 w (vk10_4 g a) 245 [(0, .ref a)] [] := by
  unfold vk10_4
  refine jm_aload_n hF dX10_init_245 0 rfl ?_
  refine jm_iconst hF (v := (5 : Int32)) dX10_init_246 (by decide) ?_
  refine jm_fld hF hN (atype := .int) (t := 0) (N := 5) (z' := a + 31) (κ' := 30) (ς' := 5160) fc_10_102 wc_55 rfl rfl (by decide) (by decide) (by decide) rfl rfl rfl (by decide) (by decide) rfl rfl rfl dX10_init_247 dX10_init_249 ?_
  refine jm_aload_n hF dX10_init_252 0 rfl ?_
  refine jm_sipush hF (v := (200 : Int32)) dX10_init_253 (by decide) ?_
  refine jm_fld hF hN (atype := .boolean) (t := 2) (N := 200) (z' := a + 32) (κ' := 31) (ς' := 5360) fc_10_105 wc_934 rfl rfl (by decide) (by decide) (by decide) rfl rfl rfl (by decide) (by decide) rfl rfl rfl dX10_init_256 dX10_init_258 ?_
  refine jm_aload_n hF dX10_init_261 0 rfl ?_
  refine jm_bipush hF (v := (70 : Int32)) dX10_init_262 (by decide) ?_
  refine jm_fld hF hN (atype := .int) (t := 0) (N := 70) (z' := a + 33) (κ' := 32) (ς' := 5430) fc_10_109 wc_55 rfl rfl (by decide) (by decide) (by decide) rfl rfl rfl (by decide) (by decide) rfl rfl rfl dX10_init_264 dX10_init_266 ?_
  refine jm_aload_n hF dX10_init_269 0 rfl ?_
  refine jm_bipush hF (v := (70 : Int32)) dX10_init_270 (by decide) ?_
  refine jm_fld hF hN (atype := .int) (t := 0) (N := 70) (z' := a + 34) (κ' := 33) (ς' := 5500) fc_10_112 wc_55 rfl rfl (by decide) (by decide) (by decide) rfl rfl rfl (by decide) (by decide) rfl rfl rfl dX10_init_272 dX10_init_274 ?_
  refine jm_aload_n hF dX10_init_277 0 rfl ?_
  refine jm_bipush hF (v := (70 : Int32)) dX10_init_278 (by decide) ?_
  refine jm_fld hF hN (atype := .int) (t := 0) (N := 70) (z' := a + 35) (κ' := 34) (ς' := 5570) fc_10_115 wc_55 rfl rfl (by decide) (by decide) (by decide) rfl rfl rfl (by decide) (by decide) rfl rfl rfl dX10_init_280 dX10_init_282 ?_
  refine jm_aload_n hF dX10_init_285 0 rfl ?_
  refine jm_bipush hF (v := (70 : Int32)) dX10_init_286 (by decide) ?_
  refine jm_fld hF hN (atype := .int) (t := 0) (N := 70) (z' := a + 36) (κ' := 35) (ς' := 5640) fc_10_118 wc_55 rfl rfl (by decide) (by decide) (by decide) rfl rfl rfl (by decide) (by decide) rfl rfl rfl dX10_init_288 dX10_init_290 ?_
  exact hk
def vk10_6 (g : GT) (a : Nat) : va_W := [(a, .inr (10, [.int 0, .int 0, .int 0, .ref (a + 1), .ref (a + 2), .ref (a + 3), .ref (a + 4), .ref (a + 5), .ref (a + 6), .ref (a + 7), .ref (a + 8), .ref (a + 9), .ref (a + 10), .ref (a + 11), .ref (a + 12), .ref (a + 13), .ref (a + 14), .ref (a + 15), .ref (a + 16), .int 0, .ref (a + 17), .int 0, .int 0, .int (-1), .ref (a + 18), .ref (a + 19), .ref (a + 20), .ref (a + 21), .ref (a + 22), .ref (a + 23), .ref (a + 24), .ref (a + 25), .ref (a + 26), .ref (a + 27), .ref (a + 28), .ref (a + 29), .int 0, .int 0, .int 0, .int 0, .int 0, .ref (a + 30), .ref (a + 31), .ref (a + 32), .ref (a + 33), .ref (a + 34), .ref (a + 35), .ref (a + 36), .ref (a + 37), .ref (a + 38), .ref (a + 39), .ref (a + 40), .int 0, .ref (a + 41), .null, .int 0, .null, .null, .null])), (a + 1, .inl (g.2.2 0, 12, .inl (fun _ => 0))), (a + 2, .inl (g.2.2 0, 12, .inl (fun _ => 0))), (a + 3, .inl (g.2.2 0, 12, .inl (fun _ => 0))), (a + 4, .inl (g.2.2 0, 144, .inl (fun _ => 0))), (a + 5, .inl (g.2.2 0, 10, .inl (fun _ => 0))), (a + 6, .inl (g.2.2 0, 10, .inl (fun _ => 0))), (a + 7, .inl (g.2.2 0, 10, .inl (fun _ => 0))), (a + 8, .inl (g.2.2 0, 10, .inl (fun _ => 0))), (a + 9, .inl (g.2.2 0, 10, .inl (fun _ => 0))), (a + 10, .inl (g.2.2 0, 60, .inl (fun _ => 0))), (a + 11, .inl (g.2.2 0, 60, .inl (fun _ => 0))), (a + 12, .inl (g.2.2 0, 70, .inl (fun _ => 0))), (a + 13, .inl (g.2.2 0, 20, .inl (fun _ => 0))), (a + 14, .inl (g.2.2 0, 20, .inl (fun _ => 0))), (a + 15, .inl (g.2.2 0, 20, .inl (fun _ => 0))), (a + 16, .inl (g.2.2 0, 20, .inl (fun _ => 0))), (a + 17, .inl (g.2.2 1, 200, .inl (fun _ => 0))), (a + 18, .inl (g.2.2 0, 5, .inl (fun _ => 0))), (a + 19, .inl (g.2.2 0, 5, .inl (fun _ => 0))), (a + 20, .inl (g.2.2 0, 5, .inl (fun _ => 0))), (a + 21, .inl (g.2.2 0, 60, .inl (fun _ => 0))), (a + 22, .inl (g.2.2 0, 60, .inl (fun _ => 0))), (a + 23, .inl (g.2.2 0, 60, .inl (fun _ => 0))), (a + 24, .inl (g.2.2 0, 60, .inl (fun _ => 0))), (a + 25, .inl (g.2.2 0, 1000, .inl (fun _ => 0))), (a + 26, .inl (g.2.2 0, 1000, .inl (fun _ => 0))), (a + 27, .inl (g.2.2 0, 1000, .inl (fun _ => 0))), (a + 28, .inl (g.2.2 0, 1000, .inl (fun _ => 0))), (a + 29, .inl (g.2.2 0, 200, .inl (fun _ => 0))), (a + 30, .inl (g.2.2 0, 5, .inl (fun _ => 0))), (a + 31, .inl (g.2.2 2, 200, .inl (fun _ => 0))), (a + 32, .inl (g.2.2 0, 70, .inl (fun _ => 0))), (a + 33, .inl (g.2.2 0, 70, .inl (fun _ => 0))), (a + 34, .inl (g.2.2 0, 70, .inl (fun _ => 0))), (a + 35, .inl (g.2.2 0, 70, .inl (fun _ => 0))), (a + 36, .inl (g.2.2 0, 280, .inl (fun _ => 0))), (a + 37, .inl (g.2.2 0, 10, .inl (fun _ => 0))), (a + 38, .inl (g.2.2 0, 10, .inl (fun _ => 0))), (a + 39, .inl (g.2.2 0, 10, .inl (fun _ => 0))), (a + 40, .inl (g.2.2 2, 10, .inl (fun _ => 0))), (a + 41, .inl (g.2.2 0, 8, .inl (fun _ => 0)))]
theorem ck10_6 {X : Cx} {g : GT} {B a : Nat} {w : va_W} {Q : State → Prop} (hF : Fy X g B yX10_init.cls cX10_init 1 1 12 45 6000) (hN : NI X) (hk : Jm X g 1 Q (a + 42) 41 5968 w (vk10_6 g a) 342 [(0, .ref a)] []) : Jm X g 1 Q (a + 36) 35 5640 w (vk10_5 g a) 293 [(0, .ref a)] [] := by
  unfold vk10_5
  refine jm_aload_n hF dX10_init_293 0 rfl ?_
  refine jm_sipush hF (v := (280 : Int32)) dX10_init_294 (by decide) ?_
  refine jm_fld hF hN (atype := .int) (t := 0) (N := 280) (z' := a + 37) (κ' := 36) (ς' := 5920) fc_10_121 wc_55 rfl rfl (by decide) (by decide) (by decide) rfl rfl rfl (by decide) (by decide) rfl rfl rfl dX10_init_297 dX10_init_299 ?_
  refine jm_aload_n hF dX10_init_302 0 rfl ?_
  refine jm_bipush hF (v := (10 : Int32)) dX10_init_303 (by decide) ?_
  refine jm_fld hF hN (atype := .int) (t := 0) (N := 10) (z' := a + 38) (κ' := 37) (ς' := 5930) fc_10_124 wc_55 rfl rfl (by decide) (by decide) (by decide) rfl rfl rfl (by decide) (by decide) rfl rfl rfl dX10_init_305 dX10_init_307 ?_
  refine jm_aload_n hF dX10_init_310 0 rfl ?_
  refine jm_bipush hF (v := (10 : Int32)) dX10_init_311 (by decide) ?_
  refine jm_fld hF hN (atype := .int) (t := 0) (N := 10) (z' := a + 39) (κ' := 38) (ς' := 5940) fc_10_127 wc_55 rfl rfl (by decide) (by decide) (by decide) rfl rfl rfl (by decide) (by decide) rfl rfl rfl dX10_init_313 dX10_init_315 ?_
  refine jm_aload_n hF dX10_init_318 0 rfl ?_
  refine jm_bipush hF (v := (10 : Int32)) dX10_init_319 (by decide) ?_
  refine jm_fld hF hN (atype := .int) (t := 0) (N := 10) (z' := a + 40) (κ' := 39) (ς' := 5950) fc_10_130 wc_55 rfl rfl (by decide) (by decide) (by decide) rfl rfl rfl (by decide) (by decide) rfl rfl rfl dX10_init_321 dX10_init_323 ?_
  refine jm_aload_n hF dX10_init_326 0 rfl ?_
  refine jm_bipush hF (v := (10 : Int32)) dX10_init_327 (by decide) ?_
  refine jm_fld hF hN (atype := .boolean) (t := 2) (N := 10) (z' := a + 41) (κ' := 40) (ς' := 5960) fc_10_133 wc_934 rfl rfl (by decide) (by decide) (by decide) rfl rfl rfl (by decide) (by decide) rfl rfl rfl dX10_init_329 dX10_init_331 ?_
  refine jm_aload_n hF dX10_init_334 0 rfl ?_
  refine jm_bipush hF (v := (8 : Int32)) dX10_init_335 (by decide) ?_
  refine jm_fld hF hN (atype := .int) (t := 0) (N := 8) (z' := a + 42) (κ' := 41) (ς' := 5968) fc_10_136 wc_55 rfl rfl (by decide) (by decide) (by decide) rfl rfl rfl (by decide) (by decide) rfl rfl rfl dX10_init_337 dX10_init_339 ?_
  exact hk
theorem ck10_7 {X : Cx} {g : GT} {B a : Nat} {w : va_W} {Q : State → Prop} (hF : Fy X g B yX10_init.cls cX10_init 1 1 12 45 6000) (hN : NI X) (hk : Jm X g 1 Q (a + 46) 45 6000 w (bk10 g a) 374 [(0, .ref a)] []) : Jm X g 1 Q (a + 42) 41 5968 w (vk10_6 g a) 342 [(0, .ref a)] [] := by
  unfold vk10_6
  refine jm_aload_n hF dX10_init_342 0 rfl ?_
  refine jm_bipush hF (v := (8 : Int32)) dX10_init_343 (by decide) ?_
  refine jm_fld hF hN (atype := .int) (t := 0) (N := 8) (z' := a + 43) (κ' := 42) (ς' := 5976) fc_10_139 wc_55 rfl rfl (by decide) (by decide) (by decide) rfl rfl rfl (by decide) (by decide) rfl rfl rfl dX10_init_345 dX10_init_347 ?_
  refine jm_aload_n hF dX10_init_350 0 rfl ?_
  refine jm_bipush hF (v := (8 : Int32)) dX10_init_351 (by decide) ?_
  refine jm_fld hF hN (atype := .int) (t := 0) (N := 8) (z' := a + 44) (κ' := 43) (ς' := 5984) fc_10_142 wc_55 rfl rfl (by decide) (by decide) (by decide) rfl rfl rfl (by decide) (by decide) rfl rfl rfl dX10_init_353 dX10_init_355 ?_
  refine jm_aload_n hF dX10_init_358 0 rfl ?_
  refine jm_bipush hF (v := (8 : Int32)) dX10_init_359 (by decide) ?_
  refine jm_fld hF hN (atype := .int) (t := 0) (N := 8) (z' := a + 45) (κ' := 44) (ς' := 5992) fc_10_145 wc_55 rfl rfl (by decide) (by decide) (by decide) rfl rfl rfl (by decide) (by decide) rfl rfl rfl dX10_init_361 dX10_init_363 ?_
  refine jm_aload_n hF dX10_init_366 0 rfl ?_
  refine jm_bipush hF (v := (8 : Int32)) dX10_init_367 (by decide) ?_
  refine jm_fld hF hN (atype := .int) (t := 0) (N := 8) (z' := a + 46) (κ' := 45) (ς' := 6000) fc_10_148 wc_55 rfl rfl (by decide) (by decide) (by decide) rfl rfl rfl (by decide) (by decide) rfl rfl rfl dX10_init_369 dX10_init_371 ?_
  exact hk
theorem n_X10 (l : Launch) (g : GT) (B a : Nat) (w : va_W) : Cn l yX10_init cX10_init 1 1 12 45 6000 g [.ref a] B w [(a, .inr (10, bl10))] (bk10 g a) (a + 1) (a + 46) := by
  refine cn_of (by decide) (Nat.le_of_ble_eq_true rfl) (fun X hF hM => ?_)
  have hN := hM.ni rfl
  refine ck10_0 hF hN ?_
  refine ck10_1 hF hN ?_
  refine ck10_2 hF hN ?_
  refine ck10_3 hF hN ?_
  refine ck10_4 hF hN ?_
  refine ck10_5 hF hN ?_
  refine ck10_6 hF hN ?_
  refine ck10_7 hF hN ?_
  exact jm_vret hF hM dX10_init_374
