/-! constructors that make arrays only; written by mkctor.py -/
def bk1 (g : GT) (a : Nat) : va_W := [(a, .inr (1, [.ref (a + 1), .ref (a + 2), .ref (a + 3), .ref (a + 4), .int 0])), (a + 1, .inl (g.2.2 0, 12, .inl (fun _ => 0))), (a + 2, .inl (g.2.2 0, 12, .inl (fun _ => 0))), (a + 3, .inl (g.2.2 0, 12, .inl (fun _ => 0))), (a + 4, .inl (g.2.2 0, 144, .inl (fun _ => 0)))]
theorem n_X1 (l : Launch) (g : GT) (B a : Nat) (w : va_W) : Cn l yX1_init cX1_init 1 1 12 4 180 g [.ref a] B w [(a, .inr (1, bl1))] (bk1 g a) (a + 1) (a + 5) := by
  refine cn_of (by decide) (Nat.le_of_ble_eq_true rfl) (fun X hF hM => ?_)
  have hN := hM.ni rfl
  unfold bl1
  refine jm_aload_n hF dX1_init_0 0 rfl ?_
  refine jm_obj hF wc_34 ob_w (by decide) (by decide) dX1_init_1 ?_
  refine jm_aload_n hF dX1_init_4 0 rfl ?_
  refine jm_bipush hF (v := (12 : Int32)) dX1_init_5 (by decide) ?_
  refine jm_fld hF hN (atype := .int) (t := 0) (N := 12) (z' := a + 2) (κ' := 1) (ς' := 12) fc_1_9 wc_55 rfl rfl (by decide) (by decide) (by decide) rfl rfl rfl (by decide) (by decide) rfl rfl rfl dX1_init_7 dX1_init_9 ?_
  refine jm_aload_n hF dX1_init_12 0 rfl ?_
  refine jm_bipush hF (v := (12 : Int32)) dX1_init_13 (by decide) ?_
  refine jm_fld hF hN (atype := .int) (t := 0) (N := 12) (z' := a + 3) (κ' := 2) (ς' := 24) fc_1_15 wc_55 rfl rfl (by decide) (by decide) (by decide) rfl rfl rfl (by decide) (by decide) rfl rfl rfl dX1_init_15 dX1_init_17 ?_
  refine jm_aload_n hF dX1_init_20 0 rfl ?_
  refine jm_bipush hF (v := (12 : Int32)) dX1_init_21 (by decide) ?_
  refine jm_fld hF hN (atype := .int) (t := 0) (N := 12) (z' := a + 4) (κ' := 3) (ς' := 36) fc_1_18 wc_55 rfl rfl (by decide) (by decide) (by decide) rfl rfl rfl (by decide) (by decide) rfl rfl rfl dX1_init_23 dX1_init_25 ?_
  refine jm_aload_n hF dX1_init_28 0 rfl ?_
  refine jm_sipush hF (v := (144 : Int32)) dX1_init_29 (by decide) ?_
  refine jm_fld hF hN (atype := .int) (t := 0) (N := 144) (z' := a + 5) (κ' := 4) (ς' := 180) fc_1_21 wc_55 rfl rfl (by decide) (by decide) (by decide) rfl rfl rfl (by decide) (by decide) rfl rfl rfl dX1_init_32 dX1_init_34 ?_
  refine jm_aload_n hF dX1_init_37 0 rfl ?_
  refine jm_iconst hF (v := (0 : Int32)) dX1_init_38 (by decide) ?_
  refine jm_put hF hN (V' := [(a, .inr (1, [.ref (a + 1), .ref (a + 2), .ref (a + 3), .ref (a + 4), .int 0])), (a + 1, .inl (g.2.2 0, 12, .inl (fun _ => 0))), (a + 2, .inl (g.2.2 0, 12, .inl (fun _ => 0))), (a + 3, .inl (g.2.2 0, 12, .inl (fun _ => 0))), (a + 4, .inl (g.2.2 0, 144, .inl (fun _ => 0)))]) 0 fc_1_24 rfl rfl rfl rfl rfl dX1_init_39 ?_
  exact jm_vret hF hM dX1_init_42
def bk2 (g : GT) (a : Nat) : va_W := [(a, .inr (2, [.int 0, .int 0, .ref (a + 1), .ref (a + 2), .ref (a + 3), .int 0, .ref (a + 4), .ref (a + 5), .ref (a + 6)])), (a + 1, .inl (g.2.2 0, 12, .inl (fun _ => 0))), (a + 2, .inl (g.2.2 0, 12, .inl (fun _ => 0))), (a + 3, .inl (g.2.2 0, 12, .inl (fun _ => 0))), (a + 4, .inl (g.2.2 0, 200, .inl (fun _ => 0))), (a + 5, .inl (g.2.2 0, 200, .inl (fun _ => 0))), (a + 6, .inl (g.2.2 0, 200, .inl (fun _ => 0)))]
theorem n_X2 (l : Launch) (g : GT) (B a : Nat) (w : va_W) : Cn l yX2_init cX2_init 1 1 12 6 636 g [.ref a] B w [(a, .inr (2, bl2))] (bk2 g a) (a + 1) (a + 7) := by
  refine cn_of (by decide) (Nat.le_of_ble_eq_true rfl) (fun X hF hM => ?_)
  have hN := hM.ni rfl
  unfold bl2
  refine jm_aload_n hF dX2_init_0 0 rfl ?_
  refine jm_obj hF wc_138 ob_w (by decide) (by decide) dX2_init_1 ?_
  refine jm_aload_n hF dX2_init_4 0 rfl ?_
  refine jm_bipush hF (v := (12 : Int32)) dX2_init_5 (by decide) ?_
  refine jm_fld hF hN (atype := .int) (t := 0) (N := 12) (z' := a + 2) (κ' := 1) (ς' := 12) fc_2_9 wc_55 rfl rfl (by decide) (by decide) (by decide) rfl rfl rfl (by decide) (by decide) rfl rfl rfl dX2_init_7 dX2_init_9 ?_
  refine jm_aload_n hF dX2_init_12 0 rfl ?_
  refine jm_bipush hF (v := (12 : Int32)) dX2_init_13 (by decide) ?_
  refine jm_fld hF hN (atype := .int) (t := 0) (N := 12) (z' := a + 3) (κ' := 2) (ς' := 24) fc_2_15 wc_55 rfl rfl (by decide) (by decide) (by decide) rfl rfl rfl (by decide) (by decide) rfl rfl rfl dX2_init_15 dX2_init_17 ?_
  refine jm_aload_n hF dX2_init_20 0 rfl ?_
  refine jm_bipush hF (v := (12 : Int32)) dX2_init_21 (by decide) ?_
  refine jm_fld hF hN (atype := .int) (t := 0) (N := 12) (z' := a + 4) (κ' := 3) (ς' := 36) fc_2_18 wc_55 rfl rfl (by decide) (by decide) (by decide) rfl rfl rfl (by decide) (by decide) rfl rfl rfl dX2_init_23 dX2_init_25 ?_
  refine jm_aload_n hF dX2_init_28 0 rfl ?_
  refine jm_sipush hF (v := (200 : Int32)) dX2_init_29 (by decide) ?_
  refine jm_fld hF hN (atype := .int) (t := 0) (N := 200) (z' := a + 5) (κ' := 4) (ς' := 236) fc_2_21 wc_55 rfl rfl (by decide) (by decide) (by decide) rfl rfl rfl (by decide) (by decide) rfl rfl rfl dX2_init_32 dX2_init_34 ?_
  refine jm_aload_n hF dX2_init_37 0 rfl ?_
  refine jm_sipush hF (v := (200 : Int32)) dX2_init_38 (by decide) ?_
  refine jm_fld hF hN (atype := .int) (t := 0) (N := 200) (z' := a + 6) (κ' := 5) (ς' := 436) fc_2_24 wc_55 rfl rfl (by decide) (by decide) (by decide) rfl rfl rfl (by decide) (by decide) rfl rfl rfl dX2_init_41 dX2_init_43 ?_
  refine jm_aload_n hF dX2_init_46 0 rfl ?_
  refine jm_sipush hF (v := (200 : Int32)) dX2_init_47 (by decide) ?_
  refine jm_fld hF hN (atype := .int) (t := 0) (N := 200) (z' := a + 7) (κ' := 6) (ς' := 636) fc_2_27 wc_55 rfl rfl (by decide) (by decide) (by decide) rfl rfl rfl (by decide) (by decide) rfl rfl rfl dX2_init_50 dX2_init_52 ?_
  refine jm_aload_n hF dX2_init_55 0 rfl ?_
  refine jm_iconst hF (v := (0 : Int32)) dX2_init_56 (by decide) ?_
  refine jm_put hF hN (V' := [(a, .inr (2, [.int 0, .int 0, .ref (a + 1), .ref (a + 2), .ref (a + 3), .int 0, .ref (a + 4), .ref (a + 5), .ref (a + 6)])), (a + 1, .inl (g.2.2 0, 12, .inl (fun _ => 0))), (a + 2, .inl (g.2.2 0, 12, .inl (fun _ => 0))), (a + 3, .inl (g.2.2 0, 12, .inl (fun _ => 0))), (a + 4, .inl (g.2.2 0, 200, .inl (fun _ => 0))), (a + 5, .inl (g.2.2 0, 200, .inl (fun _ => 0))), (a + 6, .inl (g.2.2 0, 200, .inl (fun _ => 0)))]) 0 fc_2_30 rfl rfl rfl rfl rfl dX2_init_57 ?_
  refine jm_aload_n hF dX2_init_60 0 rfl ?_
  refine jm_iconst hF (v := (0 : Int32)) dX2_init_61 (by decide) ?_
  refine jm_put hF hN (V' := [(a, .inr (2, [.int 0, .int 0, .ref (a + 1), .ref (a + 2), .ref (a + 3), .int 0, .ref (a + 4), .ref (a + 5), .ref (a + 6)])), (a + 1, .inl (g.2.2 0, 12, .inl (fun _ => 0))), (a + 2, .inl (g.2.2 0, 12, .inl (fun _ => 0))), (a + 3, .inl (g.2.2 0, 12, .inl (fun _ => 0))), (a + 4, .inl (g.2.2 0, 200, .inl (fun _ => 0))), (a + 5, .inl (g.2.2 0, 200, .inl (fun _ => 0))), (a + 6, .inl (g.2.2 0, 200, .inl (fun _ => 0)))]) 0 fc_2_34 rfl rfl rfl rfl rfl dX2_init_62 ?_
  refine jm_aload_n hF dX2_init_65 0 rfl ?_
  refine jm_iconst hF (v := (0 : Int32)) dX2_init_66 (by decide) ?_
  refine jm_put hF hN (V' := [(a, .inr (2, [.int 0, .int 0, .ref (a + 1), .ref (a + 2), .ref (a + 3), .int 0, .ref (a + 4), .ref (a + 5), .ref (a + 6)])), (a + 1, .inl (g.2.2 0, 12, .inl (fun _ => 0))), (a + 2, .inl (g.2.2 0, 12, .inl (fun _ => 0))), (a + 3, .inl (g.2.2 0, 12, .inl (fun _ => 0))), (a + 4, .inl (g.2.2 0, 200, .inl (fun _ => 0))), (a + 5, .inl (g.2.2 0, 200, .inl (fun _ => 0))), (a + 6, .inl (g.2.2 0, 200, .inl (fun _ => 0)))]) 0 fc_2_37 rfl rfl rfl rfl rfl dX2_init_67 ?_
  exact jm_vret hF hM dX2_init_70
def bk4 (g : GT) (a : Nat) : va_W := [(a, .inr (4, [.ref (a + 1), .ref (a + 2), .ref (a + 3), .ref (a + 4), .int 0, .ref (a + 5), .int 0])), (a + 1, .inl (g.2.2 0, 70, .inl (fun _ => 0))), (a + 2, .inl (g.2.2 0, 70, .inl (fun _ => 0))), (a + 3, .inl (g.2.2 0, 8, .inl (fun _ => 0))), (a + 4, .inl (g.2.2 0, 88, .inl (fun _ => 0))), (a + 5, .inl (g.2.2 0, 30, .inl (fun _ => 0)))]
theorem n_X4 (l : Launch) (g : GT) (B a : Nat) (w : va_W) : Cn l yX4_init cX4_init 1 1 12 5 266 g [.ref a] B w [(a, .inr (4, bl4))] (bk4 g a) (a + 1) (a + 6) := by
  refine cn_of (by decide) (Nat.le_of_ble_eq_true rfl) (fun X hF hM => ?_)
  have hN := hM.ni rfl
  unfold bl4
  refine jm_aload_n hF dX4_init_0 0 rfl ?_
  refine jm_obj hF wc_323 ob_w (by decide) (by decide) dX4_init_1 ?_
  refine jm_aload_n hF dX4_init_4 0 rfl ?_
  refine jm_bipush hF (v := (70 : Int32)) dX4_init_5 (by decide) ?_
  refine jm_fld hF hN (atype := .int) (t := 0) (N := 70) (z' := a + 2) (κ' := 1) (ς' := 70) fc_4_9 wc_55 rfl rfl (by decide) (by decide) (by decide) rfl rfl rfl (by decide) (by decide) rfl rfl rfl dX4_init_7 dX4_init_9 ?_
  refine jm_aload_n hF dX4_init_12 0 rfl ?_
  refine jm_bipush hF (v := (70 : Int32)) dX4_init_13 (by decide) ?_
  refine jm_fld hF hN (atype := .int) (t := 0) (N := 70) (z' := a + 3) (κ' := 2) (ς' := 140) fc_4_15 wc_55 rfl rfl (by decide) (by decide) (by decide) rfl rfl rfl (by decide) (by decide) rfl rfl rfl dX4_init_15 dX4_init_17 ?_
  refine jm_aload_n hF dX4_init_20 0 rfl ?_
  refine jm_bipush hF (v := (8 : Int32)) dX4_init_21 (by decide) ?_
  refine jm_fld hF hN (atype := .int) (t := 0) (N := 8) (z' := a + 4) (κ' := 3) (ς' := 148) fc_4_18 wc_55 rfl rfl (by decide) (by decide) (by decide) rfl rfl rfl (by decide) (by decide) rfl rfl rfl dX4_init_23 dX4_init_25 ?_
  refine jm_aload_n hF dX4_init_28 0 rfl ?_
  refine jm_bipush hF (v := (88 : Int32)) dX4_init_29 (by decide) ?_
  refine jm_fld hF hN (atype := .int) (t := 0) (N := 88) (z' := a + 5) (κ' := 4) (ς' := 236) fc_4_21 wc_55 rfl rfl (by decide) (by decide) (by decide) rfl rfl rfl (by decide) (by decide) rfl rfl rfl dX4_init_31 dX4_init_33 ?_
  refine jm_aload_n hF dX4_init_36 0 rfl ?_
  refine jm_bipush hF (v := (30 : Int32)) dX4_init_37 (by decide) ?_
  refine jm_fld hF hN (atype := .int) (t := 0) (N := 30) (z' := a + 6) (κ' := 5) (ς' := 266) fc_4_24 wc_55 rfl rfl (by decide) (by decide) (by decide) rfl rfl rfl (by decide) (by decide) rfl rfl rfl dX4_init_39 dX4_init_41 ?_
  refine jm_aload_n hF dX4_init_44 0 rfl ?_
  refine jm_iconst hF (v := (0 : Int32)) dX4_init_45 (by decide) ?_
  refine jm_put hF hN (V' := [(a, .inr (4, [.ref (a + 1), .ref (a + 2), .ref (a + 3), .ref (a + 4), .int 0, .ref (a + 5), .int 0])), (a + 1, .inl (g.2.2 0, 70, .inl (fun _ => 0))), (a + 2, .inl (g.2.2 0, 70, .inl (fun _ => 0))), (a + 3, .inl (g.2.2 0, 8, .inl (fun _ => 0))), (a + 4, .inl (g.2.2 0, 88, .inl (fun _ => 0))), (a + 5, .inl (g.2.2 0, 30, .inl (fun _ => 0)))]) 0 fc_4_27 rfl rfl rfl rfl rfl dX4_init_46 ?_
  refine jm_aload_n hF dX4_init_49 0 rfl ?_
  refine jm_iconst hF (v := (0 : Int32)) dX4_init_50 (by decide) ?_
  refine jm_put hF hN (V' := [(a, .inr (4, [.ref (a + 1), .ref (a + 2), .ref (a + 3), .ref (a + 4), .int 0, .ref (a + 5), .int 0])), (a + 1, .inl (g.2.2 0, 70, .inl (fun _ => 0))), (a + 2, .inl (g.2.2 0, 70, .inl (fun _ => 0))), (a + 3, .inl (g.2.2 0, 8, .inl (fun _ => 0))), (a + 4, .inl (g.2.2 0, 88, .inl (fun _ => 0))), (a + 5, .inl (g.2.2 0, 30, .inl (fun _ => 0)))]) 0 fc_4_31 rfl rfl rfl rfl rfl dX4_init_51 ?_
  exact jm_vret hF hM dX4_init_54
def bk5 (g : GT) (a : Nat) : va_W := [(a, .inr (5, [.null, .int 0, .int 0, .null, .int 0, .int 0, .int 0, .int 0, .int (-1)]))]
theorem n_X5 (l : Launch) (g : GT) (B a : Nat) (w : va_W) : Cn l yX5_init cX5_init 1 1 12 0 0 g [.ref a] B w [(a, .inr (5, bl5))] (bk5 g a) (a + 1) (a + 1) := by
  refine cn_of (by decide) (Nat.le_of_ble_eq_true rfl) (fun X hF hM => ?_)
  have hN := hM.ni rfl
  unfold bl5
  refine jm_aload_n hF dX5_init_0 0 rfl ?_
  refine jm_obj hF wc_220 ob_w (by decide) (by decide) dX5_init_1 ?_
  refine jm_aload_n hF dX5_init_4 0 rfl ?_
  refine jm_iconst hF (v := (0 : Int32)) dX5_init_5 (by decide) ?_
  refine jm_put hF hN (V' := [(a, .inr (5, [.null, .int 0, .int 0, .null, .int 0, .int 0, .int 0, .int 0, .int 0]))]) 0 fc_5_9 rfl rfl rfl rfl rfl dX5_init_6 ?_
  refine jm_aload_n hF dX5_init_9 0 rfl ?_
  refine jm_iconst hF (v := (-1 : Int32)) dX5_init_10 (by decide) ?_
  refine jm_put hF hN (V' := [(a, .inr (5, [.null, .int 0, .int 0, .null, .int 0, .int 0, .int 0, .int 0, .int (-1)]))]) 0 fc_5_15 rfl rfl rfl rfl rfl dX5_init_11 ?_
  exact jm_vret hF hM dX5_init_14
def bk6 (g : GT) (a : Nat) : va_W := [(a, .inr (6, [.ref (a + 1), .ref (a + 2), .ref (a + 3), .ref (a + 4), .ref (a + 5), .int 0, .int 0, .int 0, .int 0])), (a + 1, .inl (g.2.2 0, 7, .inl (fun _ => 0))), (a + 2, .inl (g.2.2 0, 7, .inl (fun _ => 0))), (a + 3, .inl (g.2.2 0, 7, .inl (fun _ => 0))), (a + 4, .inl (g.2.2 0, 35, .inl (fun _ => 0))), (a + 5, .inl (g.2.2 0, 5, .inl (fun _ => 0)))]
theorem n_X6 (l : Launch) (g : GT) (B a : Nat) (w : va_W) : Cn l yX6_init cX6_init 1 1 12 5 61 g [.ref a] B w [(a, .inr (6, bl6))] (bk6 g a) (a + 1) (a + 6) := by
  refine cn_of (by decide) (Nat.le_of_ble_eq_true rfl) (fun X hF hM => ?_)
  have hN := hM.ni rfl
  unfold bl6
  refine jm_aload_n hF dX6_init_0 0 rfl ?_
  refine jm_obj hF wc_263 ob_w (by decide) (by decide) dX6_init_1 ?_
  refine jm_aload_n hF dX6_init_4 0 rfl ?_
  refine jm_bipush hF (v := (7 : Int32)) dX6_init_5 (by decide) ?_
  refine jm_fld hF hN (atype := .int) (t := 0) (N := 7) (z' := a + 2) (κ' := 1) (ς' := 7) fc_6_9 wc_55 rfl rfl (by decide) (by decide) (by decide) rfl rfl rfl (by decide) (by decide) rfl rfl rfl dX6_init_7 dX6_init_9 ?_
  refine jm_aload_n hF dX6_init_12 0 rfl ?_
  refine jm_bipush hF (v := (7 : Int32)) dX6_init_13 (by decide) ?_
  refine jm_fld hF hN (atype := .int) (t := 0) (N := 7) (z' := a + 3) (κ' := 2) (ς' := 14) fc_6_15 wc_55 rfl rfl (by decide) (by decide) (by decide) rfl rfl rfl (by decide) (by decide) rfl rfl rfl dX6_init_15 dX6_init_17 ?_
  refine jm_aload_n hF dX6_init_20 0 rfl ?_
  refine jm_bipush hF (v := (7 : Int32)) dX6_init_21 (by decide) ?_
  refine jm_fld hF hN (atype := .int) (t := 0) (N := 7) (z' := a + 4) (κ' := 3) (ς' := 21) fc_6_18 wc_55 rfl rfl (by decide) (by decide) (by decide) rfl rfl rfl (by decide) (by decide) rfl rfl rfl dX6_init_23 dX6_init_25 ?_
  refine jm_aload_n hF dX6_init_28 0 rfl ?_
  refine jm_bipush hF (v := (35 : Int32)) dX6_init_29 (by decide) ?_
  refine jm_fld hF hN (atype := .int) (t := 0) (N := 35) (z' := a + 5) (κ' := 4) (ς' := 56) fc_6_21 wc_55 rfl rfl (by decide) (by decide) (by decide) rfl rfl rfl (by decide) (by decide) rfl rfl rfl dX6_init_31 dX6_init_33 ?_
  refine jm_aload_n hF dX6_init_36 0 rfl ?_
  refine jm_iconst hF (v := (5 : Int32)) dX6_init_37 (by decide) ?_
  refine jm_fld hF hN (atype := .int) (t := 0) (N := 5) (z' := a + 6) (κ' := 5) (ς' := 61) fc_6_24 wc_55 rfl rfl (by decide) (by decide) (by decide) rfl rfl rfl (by decide) (by decide) rfl rfl rfl dX6_init_38 dX6_init_40 ?_
  exact jm_vret hF hM dX6_init_43
def bk7 (g : GT) (a : Nat) : va_W := [(a, .inr (7, [.ref (a + 1), .int 0])), (a + 1, .inl (g.2.2 0, 200, .inl (fun _ => 0)))]
theorem n_X7 (l : Launch) (g : GT) (B a : Nat) (w : va_W) : Cn l yX7_init cX7_init 1 1 12 1 200 g [.ref a] B w [(a, .inr (7, bl7))] (bk7 g a) (a + 1) (a + 2) := by
  refine cn_of (by decide) (Nat.le_of_ble_eq_true rfl) (fun X hF hM => ?_)
  have hN := hM.ni rfl
  unfold bl7
  refine jm_aload_n hF dX7_init_0 0 rfl ?_
  refine jm_obj hF wc_205 ob_w (by decide) (by decide) dX7_init_1 ?_
  refine jm_aload_n hF dX7_init_4 0 rfl ?_
  refine jm_sipush hF (v := (200 : Int32)) dX7_init_5 (by decide) ?_
  refine jm_fld hF hN (atype := .int) (t := 0) (N := 200) (z' := a + 2) (κ' := 1) (ς' := 200) fc_7_9 wc_55 rfl rfl (by decide) (by decide) (by decide) rfl rfl rfl (by decide) (by decide) rfl rfl rfl dX7_init_8 dX7_init_10 ?_
  refine jm_aload_n hF dX7_init_13 0 rfl ?_
  refine jm_iconst hF (v := (0 : Int32)) dX7_init_14 (by decide) ?_
  refine jm_put hF hN (V' := [(a, .inr (7, [.ref (a + 1), .int 0])), (a + 1, .inl (g.2.2 0, 200, .inl (fun _ => 0)))]) 0 fc_7_15 rfl rfl rfl rfl rfl dX7_init_15 ?_
  exact jm_vret hF hM dX7_init_18
def bk8 (g : GT) (a : Nat) : va_W := [(a, .inr (8, [.int 0, .int 0, .int 0, .int 0, .int 0, .ref (a + 1), .ref (a + 2), .ref (a + 3), .ref (a + 4), .ref (a + 5), .ref (a + 6), .ref (a + 7), .ref (a + 8)])), (a + 1, .inl (g.2.2 0, 7, .inl (fun _ => 0))), (a + 2, .inl (g.2.2 0, 6, .inl (fun _ => 0))), (a + 3, .inl (g.2.2 0, 6, .inl (fun _ => 0))), (a + 4, .inl (g.2.2 0, 6, .inl (fun _ => 0))), (a + 5, .inl (g.2.2 0, 6, .inl (fvI (-1) (fun _ => 0) 6))), (a + 6, .inl (g.2.2 0, 6, .inl (fun _ => 0))), (a + 7, .inl (g.2.2 0, 7, .inl (fun _ => 0))), (a + 8, .inl (g.2.2 0, 7, .inl (fun _ => 0)))]
theorem n_X8 (l : Launch) (g : GT) (B a : Nat) (w : va_W) : Cn l yX8_init cX8_init 1 1 23 8 51 g [.ref a] B w [(a, .inr (8, bl8))] (bk8 g a) (a + 1) (a + 9) := by
  refine cn_of (by decide) (Nat.le_of_ble_eq_true rfl) (fun X hF hM => ?_)
  have hN := hM.ni rfl
  unfold bl8
  refine jm_aload_n hF dX8_init_0 0 rfl ?_
  refine jm_obj hF wc_62 ob_w (by decide) (by decide) dX8_init_1 ?_
  refine jm_aload_n hF dX8_init_4 0 rfl ?_
  refine jm_bipush hF (v := (7 : Int32)) dX8_init_5 (by decide) ?_
  refine jm_fld hF hN (atype := .int) (t := 0) (N := 7) (z' := a + 2) (κ' := 1) (ς' := 7) fc_8_9 wc_55 rfl rfl (by decide) (by decide) (by decide) rfl rfl rfl (by decide) (by decide) rfl rfl rfl dX8_init_7 dX8_init_9 ?_
  refine jm_aload_n hF dX8_init_12 0 rfl ?_
  refine jm_bipush hF (v := (6 : Int32)) dX8_init_13 (by decide) ?_
  refine jm_fld hF hN (atype := .int) (t := 0) (N := 6) (z' := a + 3) (κ' := 2) (ς' := 13) fc_8_15 wc_55 rfl rfl (by decide) (by decide) (by decide) rfl rfl rfl (by decide) (by decide) rfl rfl rfl dX8_init_15 dX8_init_17 ?_
  refine jm_aload_n hF dX8_init_20 0 rfl ?_
  refine jm_bipush hF (v := (6 : Int32)) dX8_init_21 (by decide) ?_
  refine jm_fld hF hN (atype := .int) (t := 0) (N := 6) (z' := a + 4) (κ' := 3) (ς' := 19) fc_8_18 wc_55 rfl rfl (by decide) (by decide) (by decide) rfl rfl rfl (by decide) (by decide) rfl rfl rfl dX8_init_23 dX8_init_25 ?_
  refine jm_aload_n hF dX8_init_28 0 rfl ?_
  refine jm_bipush hF (v := (6 : Int32)) dX8_init_29 (by decide) ?_
  refine jm_fld hF hN (atype := .int) (t := 0) (N := 6) (z' := a + 5) (κ' := 4) (ς' := 25) fc_8_21 wc_55 rfl rfl (by decide) (by decide) (by decide) rfl rfl rfl (by decide) (by decide) rfl rfl rfl dX8_init_31 dX8_init_33 ?_
  refine jm_aload_n hF dX8_init_36 0 rfl ?_
  refine jm_bipush hF (v := (6 : Int32)) dX8_init_37 (by decide) ?_
  refine jm_fld hF hN (atype := .int) (t := 0) (N := 6) (z' := a + 6) (κ' := 5) (ς' := 31) fc_8_24 wc_55 rfl rfl (by decide) (by decide) (by decide) rfl rfl rfl (by decide) (by decide) rfl rfl rfl dX8_init_39 dX8_init_41 ?_
  refine jm_aload_n hF dX8_init_44 0 rfl ?_
  refine jm_bipush hF (v := (6 : Int32)) dX8_init_45 (by decide) ?_
  refine jm_fld hF hN (atype := .int) (t := 0) (N := 6) (z' := a + 7) (κ' := 6) (ς' := 37) fc_8_27 wc_55 rfl rfl (by decide) (by decide) (by decide) rfl rfl rfl (by decide) (by decide) rfl rfl rfl dX8_init_47 dX8_init_49 ?_
  refine jm_aload_n hF dX8_init_52 0 rfl ?_
  refine jm_get hF 0 fg_8_24 rfl rfl dX8_init_53 ?_
  refine jm_iconst hF (v := (-1 : Int32)) dX8_init_56 (by decide) ?_
  refine jm_callS hF (As := [.ref (a + 5), .int (-1 : Int32)]) (wl := [(a, .inr (8, [.int 0, .int 0, .int 0, .int 0, .int 0, .ref (a + 1), .ref (a + 2), .ref (a + 3), .ref (a + 4), .ref (a + 5), .ref (a + 6), .null, .null])), (a + 1, .inl (g.2.2 0, 7, .inl (fun _ => 0))), (a + 2, .inl (g.2.2 0, 6, .inl (fun _ => 0))), (a + 3, .inl (g.2.2 0, 6, .inl (fun _ => 0))), (a + 4, .inl (g.2.2 0, 6, .inl (fun _ => 0)))]) (V0 := [(a + 5, .inl (g.2.2 0, 6, .inl (fun _ => 0))), (a + 6, .inl (g.2.2 0, 6, .inl (fun _ => 0)))]) (V1 := [(a + 5, .inl (g.2.2 0, 6, .inl (fvI (-1) (fun _ => 0) 6))), (a + 6, .inl (g.2.2 0, 6, .inl (fun _ => 0)))]) (V' := [(a, .inr (8, [.int 0, .int 0, .int 0, .int 0, .int 0, .ref (a + 1), .ref (a + 2), .ref (a + 3), .ref (a + 4), .ref (a + 5), .ref (a + 6), .null, .null])), (a + 1, .inl (g.2.2 0, 7, .inl (fun _ => 0))), (a + 2, .inl (g.2.2 0, 6, .inl (fun _ => 0))), (a + 3, .inl (g.2.2 0, 6, .inl (fun _ => 0))), (a + 4, .inl (g.2.2 0, 6, .inl (fun _ => 0))), (a + 5, .inl (g.2.2 0, 6, .inl (fvI (-1) (fun _ => 0) 6))), (a + 6, .inl (g.2.2 0, 6, .inl (fun _ => 0)))]) my_J7_fill_53178 ms_J7_fill_53178 wc_63 (fun l w0 => n_fill l g B (a + 5) 6 (fun _ => 0) (-1) (by decide) w0 _ _) ⟨by decide, by decide⟩ (by decide) (by decide) rfl rfl rfl rfl (Nat.le_of_ble_eq_true rfl) dX8_init_57 ?_
  refine jm_aload_n hF dX8_init_60 0 rfl ?_
  refine jm_bipush hF (v := (7 : Int32)) dX8_init_61 (by decide) ?_
  refine jm_fld hF hN (atype := .int) (t := 0) (N := 7) (z' := a + 8) (κ' := 7) (ς' := 44) fc_8_36 wc_55 rfl rfl (by decide) (by decide) (by decide) rfl rfl rfl (by decide) (by decide) rfl rfl rfl dX8_init_63 dX8_init_65 ?_
  refine jm_aload_n hF dX8_init_68 0 rfl ?_
  refine jm_bipush hF (v := (7 : Int32)) dX8_init_69 (by decide) ?_
  refine jm_fld hF hN (atype := .int) (t := 0) (N := 7) (z' := a + 9) (κ' := 8) (ς' := 51) fc_8_39 wc_55 rfl rfl (by decide) (by decide) (by decide) rfl rfl rfl (by decide) (by decide) rfl rfl rfl dX8_init_71 dX8_init_73 ?_
  exact jm_vret hF hM dX8_init_76
