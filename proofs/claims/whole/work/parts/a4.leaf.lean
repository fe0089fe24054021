/-! constructors that make arrays only; written by mkctor.py -/
def bk1 (g : GT) (a : Nat) : va_W := [(a, .inr (1, [.ref (a + 1), .ref (a + 2), .ref (a + 3), .ref (a + 4), .int 0])), (a + 1, .inl (g.2.2 0, 12, .inl (fun _ => 0))), (a + 2, .inl (g.2.2 0, 12, .inl (fun _ => 0))), (a + 3, .inl (g.2.2 0, 12, .inl (fun _ => 0))), (a + 4, .inl (g.2.2 0, 144, .inl (fun _ => 0)))]
theorem n_X1 (l : Launch) (g : GT) (B a : Nat) (w : va_W) : Cn l yX1_init cX1_init 1 1 12 4 180 g [.ref a] B w [(a, .inr (1, bl1))] (bk1 g a) (a + 1) (a + 5) := by
  refine cn_of (by decide) (Nat.le_of_ble_eq_true rfl) (fun X hF hM => ?_)
  have hN := hM.ni rfl
  unfold bl1
  refine jm_aload_n hF dX1_init_0 0 rfl ?_
  refine jm_obj hF wc_34 ob_w (by decide) (by decide) dX1_init_1 ?_
  refine jm_aload_n hF dX1_init_4 0 rfl ?_
  refine jm_bipush hF (v := (12 : Int32)) dX1_init_5 (by decide) ?_
  refine jm_fld hF hN (t := 0) (N := 12) (z' := a + 2) (κ' := 1) (ς' := 12) fc_1_9 wc_55 rfl rfl (by decide) (by decide) (by decide) rfl rfl rfl (by decide) (by decide) rfl rfl rfl dX1_init_7 dX1_init_9 ?_
  refine jm_aload_n hF dX1_init_12 0 rfl ?_
  refine jm_bipush hF (v := (12 : Int32)) dX1_init_13 (by decide) ?_
  refine jm_fld hF hN (t := 0) (N := 12) (z' := a + 3) (κ' := 2) (ς' := 24) fc_1_15 wc_55 rfl rfl (by decide) (by decide) (by decide) rfl rfl rfl (by decide) (by decide) rfl rfl rfl dX1_init_15 dX1_init_17 ?_
  refine jm_aload_n hF dX1_init_20 0 rfl ?_
  refine jm_bipush hF (v := (12 : Int32)) dX1_init_21 (by decide) ?_
  refine jm_fld hF hN (t := 0) (N := 12) (z' := a + 4) (κ' := 3) (ς' := 36) fc_1_18 wc_55 rfl rfl (by decide) (by decide) (by decide) rfl rfl rfl (by decide) (by decide) rfl rfl rfl dX1_init_23 dX1_init_25 ?_
  refine jm_aload_n hF dX1_init_28 0 rfl ?_
  refine jm_sipush hF (v := (144 : Int32)) dX1_init_29 (by decide) ?_
  refine jm_fld hF hN (t := 0) (N := 144) (z' := a + 5) (κ' := 4) (ς' := 180) fc_1_21 wc_55 rfl rfl (by decide) (by decide) (by decide) rfl rfl rfl (by decide) (by decide) rfl rfl rfl dX1_init_32 dX1_init_34 ?_
  refine jm_aload_n hF dX1_init_37 0 rfl ?_
  refine jm_iconst hF (v := (0 : Int32)) dX1_init_38 (by decide) ?_
  refine jm_put hF hN (V' := [(a, .inr (1, [.ref (a + 1), .ref (a + 2), .ref (a + 3), .ref (a + 4), .int 0])), (a + 1, .inl (g.2.2 0, 12, .inl (fun _ => 0))), (a + 2, .inl (g.2.2 0, 12, .inl (fun _ => 0))), (a + 3, .inl (g.2.2 0, 12, .inl (fun _ => 0))), (a + 4, .inl (g.2.2 0, 144, .inl (fun _ => 0)))]) 0 fc_1_24 rfl rfl rfl rfl rfl dX1_init_39 ?_
  exact jm_vret hF hM dX1_init_42
def bk2 (g : GT) (a : Nat) : va_W := [(a, .inr (2, [.int 0, .int 0, .ref (a + 1), .ref (a + 2), .ref (a + 3), .int 0, .ref (a + 4), .ref (a + 5), .ref (a + 6)])), (a + 1, .inl (g.2.2 0, 12, .inl (fun _ => 0))), (a + 2, .inl (g.2.2 0, 12, .inl (fun _ => 0))), (a + 3, .inl (g.2.2 0, 12, .inl (fun _ => 0))), (a + 4, .inl (g.2.2 0, 200, .inl (fun _ => 0))), (a + 5, .inl (g.2.2 0, 200, .inl (fun _ => 0))), (a + 6, .inl (g.2.2 0, 200, .inl (fun _ => 0)))]
theorem n_X2 (l : Launch) (g : GT) (B a : Nat) (w : va_W) : Cn l yX2_init cX2_init 1 1 12 6 636 g [.ref a] B w [(a, .inr (2, bl2))] (bk2 g a) (a + 1) (a + 7) := by
  refine cn_of (by decide) (Nat.le_of_ble_eq_true rfl) (fun X hF hM => ?_)
  have hN := hM.ni rfl
  unfold bl2
  refine jm_aload_n hF dX2_init_0 0 rfl ?_
  refine jm_obj hF wc_138 ob_w (by decide) (by decide) dX2_init_1 ?_
  refine jm_aload_n hF dX2_init_4 0 rfl ?_
  refine jm_bipush hF (v := (12 : Int32)) dX2_init_5 (by decide) ?_
  refine jm_fld hF hN (t := 0) (N := 12) (z' := a + 2) (κ' := 1) (ς' := 12) fc_2_9 wc_55 rfl rfl (by decide) (by decide) (by decide) rfl rfl rfl (by decide) (by decide) rfl rfl rfl dX2_init_7 dX2_init_9 ?_
  refine jm_aload_n hF dX2_init_12 0 rfl ?_
  refine jm_bipush hF (v := (12 : Int32)) dX2_init_13 (by decide) ?_
  refine jm_fld hF hN (t := 0) (N := 12) (z' := a + 3) (κ' := 2) (ς' := 24) fc_2_15 wc_55 rfl rfl (by decide) (by decide) (by decide) rfl rfl rfl (by decide) (by decide) rfl rfl rfl dX2_init_15 dX2_init_17 ?_
  refine jm_aload_n hF dX2_init_20 0 rfl ?_
  refine jm_bipush hF (v := (12 : Int32)) dX2_init_21 (by decide) ?_
  refine jm_fld hF hN (t := 0) (N := 12) (z' := a + 4) (κ' := 3) (ς' := 36) fc_2_18 wc_55 rfl rfl (by decide) (by decide) (by decide) rfl rfl rfl (by decide) (by decide) rfl rfl rfl dX2_init_23 dX2_init_25 ?_
  refine jm_aload_n hF dX2_init_28 0 rfl ?_
  refine jm_sipush hF (v := (200 : Int32)) dX2_init_29 (by decide) ?_
  refine jm_fld hF hN (t := 0) (N := 200) (z' := a + 5) (κ' := 4) (ς' := 236) fc_2_21 wc_55 rfl rfl (by decide) (by decide) (by decide) rfl rfl rfl (by decide) (by decide) rfl rfl rfl dX2_init_32 dX2_init_34 ?_
  refine jm_aload_n hF dX2_init_37 0 rfl ?_
  refine jm_sipush hF (v := (200 : Int32)) dX2_init_38 (by decide) ?_
  refine jm_fld hF hN (t := 0) (N := 200) (z' := a + 6) (κ' := 5) (ς' := 436) fc_2_24 wc_55 rfl rfl (by decide) (by decide) (by decide) rfl rfl rfl (by decide) (by decide) rfl rfl rfl dX2_init_41 dX2_init_43 ?_
  refine jm_aload_n hF dX2_init_46 0 rfl ?_
  refine jm_sipush hF (v := (200 : Int32)) dX2_init_47 (by decide) ?_
  refine jm_fld hF hN (t := 0) (N := 200) (z' := a + 7) (κ' := 6) (ς' := 636) fc_2_27 wc_55 rfl rfl (by decide) (by decide) (by decide) rfl rfl rfl (by decide) (by decide) rfl rfl rfl dX2_init_50 dX2_init_52 ?_
  refine jm_aload_n hF dX2_init_55 0 rfl ?_
  refine jm_iconst hF (v := (0 : Int32)) dX2_init_56 (by decide) ?_
  refine jm_put hF hN (V' := [(a, .inr (2, [.int 0, .int 0, .ref (a + 1), .ref (a + 2), .ref (a + 3), .int 0, .ref (a + 4), .ref (a + 5), .ref (a + 6)])), (a + 1, .inl (g.2.2 0, 12, .inl (fun _ => 0))), (a + 2, .inl (g.2.2 0, 12, .inl (fun _ => 0))), (a + 3, .inl (g.2.2 0, 12, .inl (fun _ => 0))), (a + 4, .inl (g.2.2 0, 200, .inl (fun _ => 0))), (a + 5, .inl (g.2.2 0, 200, .inl (fun _ => 0))), (a + 6, .inl (g.2.2 0, 200, .inl (fun _ => 0)))]) 0 fc_2_30 rfl rfl rfl rfl rfl dX2_init_57 ?_
  refine jm_aload_n hF dX2_init_60 0 rfl ?_
  refine jm_iconst hF (v := (0 : Int32)) dX2_init_61 (by decide) ?_
  refine jm_put hF hN (V' := [(a, .inr (2, [.int 0, .int 0, .ref (a + 1), .ref (a + 2), .ref (a + 3), .int 0, .ref (a + 4), .ref (a + 5), .ref (a + 6)])), (a + 1, .inl (g.2.2 0, 12, .inl (fun _ => 0))), (a + 2, .inl (g.2.2 0, 12, .inl (fun _ => 0))), (a + 3, .inl (g.2.2 0, 12, .inl (fun _ => 0))), (a + 4, .inl (g.2.2 0, 200, .inl (fun _ => 0))), (a + 5, .inl (g.2.2 0, 200, .inl (fun _ => 0))), (a + 6, .inl (g.2.2 0, 200, .inl (fun _ => 0)))]) 0 fc_2_34 rfl rfl rfl rfl rfl dX2_init_62 ?_
  refine jm_aload_n hF dX2_init_65 0 rfl ?_
  refine jm_iconst hF (v := (0 : Int32)) dX2_init_66 (by decide) ?_
  refine jm_put hF hN (V' := [(a, .inr (2, [.int 0, .int 0, .ref (a + 1), .ref (a + 2), .ref (a + 3), .int 0, .ref (a + 4), .ref (a + 5), .ref (a + 6)])), (a + 1, .inl (g.2.2 0, 12, .inl (fun _ => 0))), (a + 2, .inl (g.2.2 0, 12, .inl (fun _ => 0))), (a + 3, .inl (g.2.2 0, 12, .inl (fun _ => 0))), (a + 4, .inl (g.2.2 0, 200, .inl (fun _ => 0))), (a + 5, .inl (g.2.2 0, 200, .inl (fun _ => 0))), (a + 6, .inl (g.2.2 0, 200, .inl (fun _ => 0)))]) 0 fc_2_37 rfl rfl rfl rfl rfl dX2_init_67 ?_
  exact jm_vret hF hM dX2_init_70
def bk4 (g : GT) (a : Nat) : va_W := [(a, .inr (4, [.ref (a + 1), .ref (a + 2), .ref (a + 3), .ref (a + 4), .int 0, .ref (a + 5), .int 0])), (a + 1, .inl (g.2.2 0, 70, .inl (fun _ => 0))), (a + 2, .inl (g.2.2 0, 70, .inl (fun _ => 0))), (a + 3, .inl (g.2.2 0, 8, .inl (fun _ => 0))), (a + 4, .inl (g.2.2 0, 88, .inl (fun _ => 0))), (a + 5, .inl (g.2.2 0, 30, .inl (fun _ => 0)))]
theorem n_X4 (l : Launch) (g : GT) (B a : Nat) (w : va_W) : Cn l yX4_init cX4_init 1 1 12 5 266 g [.ref a] B w [(a, .inr (4, bl4))] (bk4 g a) (a + 1) (a + 6) := by
  refine cn_of (by decide) (Nat.le_of_ble_eq_true rfl) (fun X hF hM => ?_)
  have hN := hM.ni rfl
  unfold bl4
  refine jm_aload_n hF dX4_init_0 0 rfl ?_
  refine jm_obj hF wc_323 ob_w (by decide) (by decide) dX4_init_1 ?_
  refine jm_aload_n hF dX4_init_4 0 rfl ?_
  refine jm_bipush hF (v := (70 : Int32)) dX4_init_5 (by decide) ?_
  refine jm_fld hF hN (t := 0) (N := 70) (z' := a + 2) (κ' := 1) (ς' := 70) fc_4_9 wc_55 rfl rfl (by decide) (by decide) (by decide) rfl rfl rfl (by decide) (by decide) rfl rfl rfl dX4_init_7 dX4_init_9 ?_
  refine jm_aload_n hF dX4_init_12 0 rfl ?_
  refine jm_bipush hF (v := (70 : Int32)) dX4_init_13 (by decide) ?_
  refine jm_fld hF hN (t := 0) (N := 70) (z' := a + 3) (κ' := 2) (ς' := 140) fc_4_15 wc_55 rfl rfl (by decide) (by decide) (by decide) rfl rfl rfl (by decide) (by decide) rfl rfl rfl dX4_init_15 dX4_init_17 ?_
  refine jm_aload_n hF dX4_init_20 0 rfl ?_
  refine jm_bipush hF (v := (8 : Int32)) dX4_init_21 (by decide) ?_
  refine jm_fld hF hN (t := 0) (N := 8) (z' := a + 4) (κ' := 3) (ς' := 148) fc_4_18 wc_55 rfl rfl (by decide) (by decide) (by decide) rfl rfl rfl (by decide) (by decide) rfl rfl rfl dX4_init_23 dX4_init_25 ?_
  refine jm_aload_n hF dX4_init_28 0 rfl ?_
  refine jm_bipush hF (v := (88 : Int32)) dX4_init_29 (by decide) ?_
  refine jm_fld hF hN (t := 0) (N := 88) (z' := a + 5) (κ' := 4) (ς' := 236) fc_4_21 wc_55 rfl rfl (by decide) (by decide) (by decide) rfl rfl rfl (by decide) (by decide) rfl rfl rfl dX4_init_31 dX4_init_33 ?_
  refine jm_aload_n hF dX4_init_36 0 rfl ?_
  refine jm_bipush hF (v := (30 : Int32)) dX4_init_37 (by decide) ?_
  refine jm_fld hF hN (t := 0) (N := 30) (z' := a + 6) (κ' := 5) (ς' := 266) fc_4_24 wc_55 rfl rfl (by decide) (by decide) (by decide) rfl rfl rfl (by decide) (by decide) rfl rfl rfl dX4_init_39 dX4_init_41 ?_
  refine jm_aload_n hF dX4_init_44 0 rfl ?_
  refine jm_iconst hF (v := (0 : Int32)) dX4_init_45 (by decide) ?_
  refine jm_put hF hN (V' := [(a, .inr (4, [.ref (a + 1), .ref (a + 2), .ref (a + 3), .ref (a + 4), .int 0, .ref (a + 5), .int 0])), (a + 1, .inl (g.2.2 0, 70, .inl (fun _ => 0))), (a + 2, .inl (g.2.2 0, 70, .inl (fun _ => 0))), (a + 3, .inl (g.2.2 0, 8, .inl (fun _ => 0))), (a + 4, .inl (g.2.2 0, 88, .inl (fun _ => 0))), (a + 5, .inl (g.2.2 0, 30, .inl (fun _ => 0)))]) 0 fc_4_27 rfl rfl rfl rfl rfl dX4_init_46 ?_
  refine jm_aload_n hF dX4_init_49 0 rfl ?_
  refine jm_iconst hF (v := (0 : Int32)) dX4_init_50 (by decide) ?_
  refine jm_put hF hN (V' := [(a, .inr (4, [.ref (a + 1), .ref (a + 2), .ref (a + 3), .ref (a + 4), .int 0, .ref (a + 5), .int 0])), (a + 1, .inl (g.2.2 0, 70, .inl (fun _ => 0))), (a + 2, .inl (g.2.2 0, 70, .inl (fun _ => 0))), (a + 3, .inl (g.2.2 0, 8, .inl (fun _ => 0))), (a + 4, .inl (g.2.2 0, 88, .inl (fun _ => 0))), (a + 5, .inl (g.2.2 0, 30, .inl (fun _ => 0)))]) 0 fc_4_31 rfl rfl rfl rfl rfl dX4_init_51 ?_
  exact jm_vret hF hM dX4_init_54
def bk5 (g : GT) (a : Nat) : va_W := [(a, .inr (5, [.null, .int 0, .int 0, .null, .int 0, .int 0, .int 0, .int 0, .int (-1)]))]
theorem n_X5 (l : Launch) (g : GT) (B a : Nat) (w : va_W) : Cn l yX5_init cX5_init 1 1 12 0 0 g [.ref a] B w [(a, .inr (5, bl5))] (bk5 g a) (a + 1) (a + 1) := by
  refine cn_of (by decide) (Nat.le_of_ble_eq_true rfl) (fun X hF hM => ?_)
  have hN := hM.ni rfl
  unfold bl5
  refine jm_aload_n hF dX5_init_0 0 rfl ?_
  refine jm_obj hF wc_220 ob_w (by decide) (by decide) dX5_init_1 ?_
  refine jm_aload_n hF dX5_init_4 0 rfl ?_
  refine jm_iconst hF (v := (0 : Int32)) dX5_init_5 (by decide) ?_
  refine jm_put hF hN (V' := [(a, .inr (5, [.null, .int 0, .int 0, .null, .int 0, .int 0, .int 0, .int 0, .int 0]))]) 0 fc_5_9 rfl rfl rfl rfl rfl dX5_init_6 ?_
  refine jm_aload_n hF dX5_init_9 0 rfl ?_
  refine jm_iconst hF (v := (-1 : Int32)) dX5_init_10 (by decide) ?_
  refine jm_put hF hN (V' := [(a, .inr (5, [.null, .int 0, .int 0, .null, .int 0, .int 0, .int 0, .int 0, .int (-1)]))]) 0 fc_5_15 rfl rfl rfl rfl rfl dX5_init_11 ?_
  exact jm_vret hF hM dX5_init_14
def bk6 (g : GT) (a : Nat) : va_W := [(a, .inr (6, [.ref (a + 1), .ref (a + 2), .ref (a + 3), .ref (a + 4), .ref (a + 5), .int 0, .int 0, .int 0, .int 0])), (a + 1, .inl (g.2.2 0, 7, .inl (fun _ => 0))), (a + 2, .inl (g.2.2 0, 7, .inl (fun _ => 0))), (a + 3, .inl (g.2.2 0, 7, .inl (fun _ => 0))), (a + 4, .inl (g.2.2 0, 35, .inl (fun _ => 0))), (a + 5, .inl (g.2.2 0, 5, .inl (fun _ => 0)))]
theorem n_X6 (l : Launch) (g : GT) (B a : Nat) (w : va_W) : Cn l yX6_init cX6_init 1 1 12 5 61 g [.ref a] B w [(a, .inr (6, bl6))] (bk6 g a) (a + 1) (a + 6) := by
  refine cn_of (by decide) (Nat.le_of_ble_eq_true rfl) (fun X hF hM => ?_)
  have hN := hM.ni rfl
  unfold bl6
  refine jm_aload_n hF dX6_init_0 0 rfl ?_
  refine jm_obj hF wc_263 ob_w (by decide) (by decide) dX6_init_1 ?_
  refine jm_aload_n hF dX6_init_4 0 rfl ?_
  refine jm_bipush hF (v := (7 : Int32)) dX6_init_5 (by decide) ?_
  refine jm_fld hF hN (t := 0) (N := 7) (z' := a + 2) (κ' := 1) (ς' := 7) fc_6_9 wc_55 rfl rfl (by decide) (by decide) (by decide) rfl rfl rfl (by decide) (by decide) rfl rfl rfl dX6_init_7 dX6_init_9 ?_
  refine jm_aload_n hF dX6_init_12 0 rfl ?_
  refine jm_bipush hF (v := (7 : Int32)) dX6_init_13 (by decide) ?_
  refine jm_fld hF hN (t := 0) (N := 7) (z' := a + 3) (κ' := 2) (ς' := 14) fc_6_15 wc_55 rfl rfl (by decide) (by decide) (by decide) rfl rfl rfl (by decide) (by decide) rfl rfl rfl dX6_init_15 dX6_init_17 ?_
  refine jm_aload_n hF dX6_init_20 0 rfl ?_
  refine jm_bipush hF (v := (7 : Int32)) dX6_init_21 (by decide) ?_
  refine jm_fld hF hN (t := 0) (N := 7) (z' := a + 4) (κ' := 3) (ς' := 21) fc_6_18 wc_55 rfl rfl (by decide) (by decide) (by decide) rfl rfl rfl (by decide) (by decide) rfl rfl rfl dX6_init_23 dX6_init_25 ?_
  refine jm_aload_n hF dX6_init_28 0 rfl ?_
  refine jm_bipush hF (v := (35 : Int32)) dX6_init_29 (by decide) ?_
  refine jm_fld hF hN (t := 0) (N := 35) (z' := a + 5) (κ' := 4) (ς' := 56) fc_6_21 wc_55 rfl rfl (by decide) (by decide) (by decide) rfl rfl rfl (by decide) (by decide) rfl rfl rfl dX6_init_31 dX6_init_33 ?_
  refine jm_aload_n hF dX6_init_36 0 rfl ?_
  refine jm_iconst hF (v := (5 : Int32)) dX6_init_37 (by decide) ?_
  refine jm_fld hF hN (t := 0) (N := 5) (z' := a + 6) (κ' := 5) (ς' := 61) fc_6_24 wc_55 rfl rfl (by decide) (by decide) (by decide) rfl rfl rfl (by decide) (by decide) rfl rfl rfl dX6_init_38 dX6_init_40 ?_
  exact jm_vret hF hM dX6_init_43
def bk7 (g : GT) (a : Nat) : va_W := [(a, .inr (7, [.ref (a + 1), .int 0])), (a + 1, .inl (g.2.2 0, 200, .inl (fun _ => 0)))]
theorem n_X7 (l : Launch) (g : GT) (B a : Nat) (w : va_W) : Cn l yX7_init cX7_init 1 1 12 1 200 g [.ref a] B w [(a, .inr (7, bl7))] (bk7 g a) (a + 1) (a + 2) := by
  refine cn_of (by decide) (Nat.le_of_ble_eq_true rfl) (fun X hF hM => ?_)
  have hN := hM.ni rfl
  unfold bl7
  refine jm_aload_n hF dX7_init_0 0 rfl ?_
  refine jm_obj hF wc_205 ob_w (by decide) (by decide) dX7_init_1 ?_
  refine jm_aload_n hF dX7_init_4 0 rfl ?_
  refine jm_sipush hF (v := (200 : Int32)) dX7_init_5 (by decide) ?_
  refine jm_fld hF hN (t := 0) (N := 200) (z' := a + 2) (κ' := 1) (ς' := 200) fc_7_9 wc_55 rfl rfl (by decide) (by decide) (by decide) rfl rfl rfl (by decide) (by decide) rfl rfl rfl dX7_init_8 dX7_init_10 ?_
  refine jm_aload_n hF dX7_init_13 0 rfl ?_
  refine jm_iconst hF (v := (0 : Int32)) dX7_init_14 (by decide) ?_
  refine jm_put hF hN (V' := [(a, .inr (7, [.ref (a + 1), .int 0])), (a + 1, .inl (g.2.2 0, 200, .inl (fun _ => 0)))]) 0 fc_7_15 rfl rfl rfl rfl rfl dX7_init_15 ?_
  exact jm_vret hF hM dX7_init_18
def bk8 (g : GT) (a : Nat) : va_W := [(a, .inr (8, [.int 0, .int 0, .int 0, .int 0, .int 0, .ref (a + 1), .ref (a + 2), .ref (a + 3), .ref (a + 4), .ref (a + 5), .ref (a + 6), .ref (a + 7), .ref (a + 8)])), (a + 1, .inl (g.2.2 0, 7, .inl (fun _ => 0))), (a + 2, .inl (g.2.2 0, 6, .inl (fun _ => 0))), (a + 3, .inl (g.2.2 0, 6, .inl (fun _ => 0))), (a + 4, .inl (g.2.2 0, 6, .inl (fun _ => 0))), (a + 5, .inl (g.2.2 0, 6, .inl (fvI (-1) (fun _ => 0) 6))), (a + 6, .inl (g.2.2 0, 6, .inl (fun _ => 0))), (a + 7, .inl (g.2.2 0, 7, .inl (fun _ => 0))), (a + 8, .inl (g.2.2 0, 7, .inl (fun _ => 0)))]
theorem n_X8 (l : Launch) (g : GT) (B a : Nat) (w : va_W) : Cn l yX8_init cX8_init 1 1 23 8 51 g [.ref a] B w [(a, .inr (8, bl8))] (bk8 g a) (a + 1) (a + 9) := by
  refine cn_of (by decide) (Nat.le_of_ble_eq_true rfl) (fun X hF hM => ?_)
  have hN := hM.ni rfl
  unfold bl8
  refine jm_aload_n hF dX8_init_0 0 rfl ?_
  refine jm_obj hF wc_62 ob_w (by decide) (by decide) dX8_init_1 ?_
  refine jm_aload_n hF dX8_init_4 0 rfl ?_
  refine jm_bipush hF (v := (7 : Int32)) dX8_init_5 (by decide) ?_
  refine jm_fld hF hN (t := 0) (N := 7) (z' := a + 2) (κ' := 1) (ς' := 7) fc_8_9 wc_55 rfl rfl (by decide) (by decide) (by decide) rfl rfl rfl (by decide) (by decide) rfl rfl rfl dX8_init_7 dX8_init_9 ?_
  refine jm_aload_n hF dX8_init_12 0 rfl ?_
  refine jm_bipush hF (v := (6 : Int32)) dX8_init_13 (by decide) ?_
  refine jm_fld hF hN (t := 0) (N := 6) (z' := a + 3) (κ' := 2) (ς' := 13) fc_8_15 wc_55 rfl rfl (by decide) (by decide) (by decide) rfl rfl rfl (by decide) (by decide) rfl rfl rfl dX8_init_15 dX8_init_17 ?_
  refine jm_aload_n hF dX8_init_20 0 rfl ?_
  refine jm_bipush hF (v := (6 : Int32)) dX8_init_21 (by decide) ?_
  refine jm_fld hF hN (t := 0) (N := 6) (z' := a + 4) (κ' := 3) (ς' := 19) fc_8_18 wc_55 rfl rfl (by decide) (by decide) (by decide) rfl rfl rfl (by decide) (by decide) rfl rfl rfl dX8_init_23 dX8_init_25 ?_
  refine jm_aload_n hF dX8_init_28 0 rfl ?_
  refine jm_bipush hF (v := (6 : Int32)) dX8_init_29 (by decide) ?_
  refine jm_fld hF hN (t := 0) (N := 6) (z' := a + 5) (κ' := 4) (ς' := 25) fc_8_21 wc_55 rfl rfl (by decide) (by decide) (by decide) rfl rfl rfl (by decide) (by decide) rfl rfl rfl dX8_init_31 dX8_init_33 ?_
  refine jm_aload_n hF dX8_init_36 0 rfl ?_
  refine jm_bipush hF (v := (6 : Int32)) dX8_init_37 (by decide) ?_
  refine jm_fld hF hN (t := 0) (N := 6) (z' := a + 6) (κ' := 5) (ς' := 31) fc_8_24 wc_55 rfl rfl (by decide) (by decide) (by decide) rfl rfl rfl (by decide) (by decide) rfl rfl rfl dX8_init_39 dX8_init_41 ?_
  refine jm_aload_n hF dX8_init_44 0 rfl ?_
  refine jm_bipush hF (v := (6 : Int32)) dX8_init_45 (by decide) ?_
  refine jm_fld hF hN (t := 0) (N := 6) (z' := a + 7) (κ' := 6) (ς' := 37) fc_8_27 wc_55 rfl rfl (by decide) (by decide) (by decide) rfl rfl rfl (by decide) (by decide) rfl rfl rfl dX8_init_47 dX8_init_49 ?_
  refine jm_aload_n hF dX8_init_52 0 rfl ?_
  refine jm_get hF 0 fg_8_24 rfl rfl dX8_init_53 ?_
  refine jm_iconst hF (v := (-1 : Int32)) dX8_init_56 (by decide) ?_
  refine jm_callS hF (As := [.ref (a + 5), .int (-1 : Int32)]) (wl := [(a, .inr (8, [.int 0, .int 0, .int 0, .int 0, .int 0, .ref (a + 1), .ref (a + 2), .ref (a + 3), .ref (a + 4), .ref (a + 5), .ref (a + 6), .null, .null])), (a + 1, .inl (g.2.2 0, 7, .inl (fun _ => 0))), (a + 2, .inl (g.2.2 0, 6, .inl (fun _ => 0))), (a + 3, .inl (g.2.2 0, 6, .inl (fun _ => 0))), (a + 4, .inl (g.2.2 0, 6, .inl (fun _ => 0)))]) (V0 := [(a + 5, .inl (g.2.2 0, 6, .inl (fun _ => 0))), (a + 6, .inl (g.2.2 0, 6, .inl (fun _ => 0)))]) (V1 := [(a + 5, .inl (g.2.2 0, 6, .inl (fvI (-1) (fun _ => 0) 6))), (a + 6, .inl (g.2.2 0, 6, .inl (fun _ => 0)))]) (V' := [(a, .inr (8, [.int 0, .int 0, .int 0, .int 0, .int 0, .ref (a + 1), .ref (a + 2), .ref (a + 3), .ref (a + 4), .ref (a + 5), .ref (a + 6), .null, .null])), (a + 1, .inl (g.2.2 0, 7, .inl (fun _ => 0))), (a + 2, .inl (g.2.2 0, 6, .inl (fun _ => 0))), (a + 3, .inl (g.2.2 0, 6, .inl (fun _ => 0))), (a + 4, .inl (g.2.2 0, 6, .inl (fun _ => 0))), (a + 5, .inl (g.2.2 0, 6, .inl (fvI (-1) (fun _ => 0) 6))), (a + 6, .inl (g.2.2 0, 6, .inl (fun _ => 0)))]) my_J7_fill_53178 ms_J7_fill_53178 wc_63 (fun l w0 => n_fill l g B (a + 5) 6 (fun _ => 0) (-1) (by decide) w0 _ _) ⟨by decide, by decide⟩ (by decide) (by decide) rfl rfl rfl rfl (Nat.le_of_ble_eq_true rfl) dX8_init_57 ?_
  refine jm_aload_n hF dX8_init_60 0 rfl ?_
  refine jm_bipush hF (v := (7 : Int32)) dX8_init_61 (by decide) ?_
  refine jm_fld hF hN (t := 0) (N := 7) (z' := a + 8) (κ' := 7) (ς' := 44) fc_8_36 wc_55 rfl rfl (by decide) (by decide) (by decide) rfl rfl rfl (by decide) (by decide) rfl rfl rfl dX8_init_63 dX8_init_65 ?_
  refine jm_aload_n hF dX8_init_68 0 rfl ?_
  refine jm_bipush hF (v := (7 : Int32)) dX8_init_69 (by decide) ?_
  refine jm_fld hF hN (t := 0) (N := 7) (z' := a + 9) (κ' := 8) (ς' := 51) fc_8_39 wc_55 rfl rfl (by decide) (by decide) (by decide) rfl rfl rfl (by decide) (by decide) rfl rfl rfl dX8_init_71 dX8_init_73 ?_
  exact jm_vret hF hM dX8_init_76
def bk10 (g : GT) (a : Nat) : va_W := [(a, .inr (10, [.int 0, .int 0, .int 0, .ref (a + 1), .ref (a + 2), .ref (a + 3), .ref (a + 4), .ref (a + 5), .ref (a + 6), .ref (a + 7), .ref (a + 8), .ref (a + 9), .ref (a + 10), .ref (a + 11), .ref (a + 12), .ref (a + 13), .ref (a + 14), .ref (a + 15), .ref (a + 16), .int 0, .ref (a + 17), .int 0, .int 0, .int (-1), .ref (a + 18), .ref (a + 19), .ref (a + 20), .ref (a + 21), .ref (a + 22), .ref (a + 23), .ref (a + 24), .ref (a + 25), .ref (a + 26), .ref (a + 27), .ref (a + 28), .ref (a + 29), .int 0, .int 0, .int 0, .int 0, .int 0, .ref (a + 30), .ref (a + 31), .ref (a + 32), .ref (a + 33), .ref (a + 34), .ref (a + 35), .ref (a + 36), .ref (a + 37), .ref (a + 38), .ref (a + 39), .ref (a + 40), .int 0, .ref (a + 41), .ref (a + 42), .int 0, .ref (a + 43), .ref (a + 44), .ref (a + 45)])), (a + 1, .inl (g.2.2 0, 12, .inl (fun _ => 0))), (a + 2, .inl (g.2.2 0, 12, .inl (fun _ => 0))), (a + 3, .inl (g.2.2 0, 12, .inl (fun _ => 0))), (a + 4, .inl (g.2.2 0, 144, .inl (fun _ => 0))), (a + 5, .inl (g.2.2 0, 10, .inl (fun _ => 0))), (a + 6, .inl (g.2.2 0, 10, .inl (fun _ => 0))), (a + 7, .inl (g.2.2 0, 10, .inl (fun _ => 0))), (a + 8, .inl (g.2.2 0, 10, .inl (fun _ => 0))), (a + 9, .inl (g.2.2 0, 10, .inl (fun _ => 0))), (a + 10, .inl (g.2.2 0, 60, .inl (fun _ => 0))), (a + 11, .inl (g.2.2 0, 60, .inl (fun _ => 0))), (a + 12, .inl (g.2.2 0, 70, .inl (fun _ => 0))), (a + 13, .inl (g.2.2 0, 20, .inl (fun _ => 0))), (a + 14, .inl (g.2.2 0, 20, .inl (fun _ => 0))), (a + 15, .inl (g.2.2 0, 20, .inl (fun _ => 0))), (a + 16, .inl (g.2.2 0, 20, .inl (fun _ => 0))), (a + 17, .inl (g.2.2 1, 200, .inl (fun _ => 0))), (a + 18, .inl (g.2.2 0, 5, .inl (fun _ => 0))), (a + 19, .inl (g.2.2 0, 5, .inl (fun _ => 0))), (a + 20, .inl (g.2.2 0, 5, .inl (fun _ => 0))), (a + 21, .inl (g.2.2 0, 60, .inl (fun _ => 0))), (a + 22, .inl (g.2.2 0, 60, .inl (fun _ => 0))), (a + 23, .inl (g.2.2 0, 60, .inl (fun _ => 0))), (a + 24, .inl (g.2.2 0, 60, .inl (fun _ => 0))), (a + 25, .inl (g.2.2 0, 1000, .inl (fun _ => 0))), (a + 26, .inl (g.2.2 0, 1000, .inl (fun _ => 0))), (a + 27, .inl (g.2.2 0, 1000, .inl (fun _ => 0))), (a + 28, .inl (g.2.2 0, 1000, .inl (fun _ => 0))), (a + 29, .inl (g.2.2 0, 200, .inl (fun _ => 0))), (a + 30, .inl (g.2.2 0, 5, .inl (fun _ => 0))), (a + 31, .inl (g.2.2 2, 200, .inl (fun _ => 0))), (a + 32, .inl (g.2.2 0, 70, .inl (fun _ => 0))), (a + 33, .inl (g.2.2 0, 70, .inl (fun _ => 0))), (a + 34, .inl (g.2.2 0, 70, .inl (fun _ => 0))), (a + 35, .inl (g.2.2 0, 70, .inl (fun _ => 0))), (a + 36, .inl (g.2.2 0, 280, .inl (fun _ => 0))), (a + 37, .inl (g.2.2 0, 10, .inl (fun _ => 0))), (a + 38, .inl (g.2.2 0, 10, .inl (fun _ => 0))), (a + 39, .inl (g.2.2 0, 10, .inl (fun _ => 0))), (a + 40, .inl (g.2.2 2, 10, .inl (fun _ => 0))), (a + 41, .inl (g.2.2 0, 8, .inl (fun _ => 0))), (a + 42, .inl (g.2.2 0, 8, .inl (fun _ => 0))), (a + 43, .inl (g.2.2 0, 8, .inl (fun _ => 0))), (a + 44, .inl (g.2.2 0, 8, .inl (fun _ => 0))), (a + 45, .inl (g.2.2 0, 8, .inl (fun _ => 0)))]
theorem n_X10 (l : Launch) (g : GT) (B a : Nat) (w : va_W) : Cn l yX10_init cX10_init 1 1 12 45 6000 g [.ref a] B w [(a, .inr (10, bl10))] (bk10 g a) (a + 1) (a + 46) := by
  refine cn_of (by decide) (Nat.le_of_ble_eq_true rfl) (fun X hF hM => ?_)
  have hN := hM.ni rfl
  unfold bl10
  refine jm_aload_n hF dX10_init_0 0 rfl ?_
  refine jm_obj hF wc_754 ob_w (by decide) (by decide) dX10_init_1 ?_
  refine jm_aload_n hF dX10_init_4 0 rfl ?_
  refine jm_bipush hF (v := (12 : Int32)) dX10_init_5 (by decide) ?_
  refine jm_fld hF hN (t := 0) (N := 12) (z' := a + 2) (κ' := 1) (ς' := 12) fc_10_7 wc_55 rfl rfl (by decide) (by decide) (by decide) rfl rfl rfl (by decide) (by decide) rfl rfl rfl dX10_init_7 dX10_init_9 ?_
  refine jm_aload_n hF dX10_init_12 0 rfl ?_
  refine jm_bipush hF (v := (12 : Int32)) dX10_init_13 (by decide) ?_
  refine jm_fld hF hN (t := 0) (N := 12) (z' := a + 3) (κ' := 2) (ς' := 24) fc_10_13 wc_55 rfl rfl (by decide) (by decide) (by decide) rfl rfl rfl (by decide) (by decide) rfl rfl rfl dX10_init_15 dX10_init_17 ?_
  refine jm_aload_n hF dX10_init_20 0 rfl ?_
  refine jm_bipush hF (v := (12 : Int32)) dX10_init_21 (by decide) ?_
  refine jm_fld hF hN (t := 0) (N := 12) (z' := a + 4) (κ' := 3) (ς' := 36) fc_10_16 wc_55 rfl rfl (by decide) (by decide) (by decide) rfl rfl rfl (by decide) (by decide) rfl rfl rfl dX10_init_23 dX10_init_25 ?_
  refine jm_aload_n hF dX10_init_28 0 rfl ?_
  refine jm_sipush hF (v := (144 : Int32)) dX10_init_29 (by decide) ?_
  refine jm_fld hF hN (t := 0) (N := 144) (z' := a + 5) (κ' := 4) (ς' := 180) fc_10_19 wc_55 rfl rfl (by decide) (by decide) (by decide) rfl rfl rfl (by decide) (by decide) rfl rfl rfl dX10_init_32 dX10_init_34 ?_
  refine jm_aload_n hF dX10_init_37 0 rfl ?_
  refine jm_bipush hF (v := (10 : Int32)) dX10_init_38 (by decide) ?_
  refine jm_fld hF hN (t := 0) (N := 10) (z' := a + 6) (κ' := 5) (ς' := 190) fc_10_22 wc_55 rfl rfl (by decide) (by decide) (by decide) rfl rfl rfl (by decide) (by decide) rfl rfl rfl dX10_init_40 dX10_init_42 ?_
  refine jm_aload_n hF dX10_init_45 0 rfl ?_
  refine jm_bipush hF (v := (10 : Int32)) dX10_init_46 (by decide) ?_
  refine jm_fld hF hN (t := 0) (N := 10) (z' := a + 7) (κ' := 6) (ς' := 200) fc_10_25 wc_55 rfl rfl (by decide) (by decide) (by decide) rfl rfl rfl (by decide) (by decide) rfl rfl rfl dX10_init_48 dX10_init_50 ?_
  refine jm_aload_n hF dX10_init_53 0 rfl ?_
  refine jm_bipush hF (v := (10 : Int32)) dX10_init_54 (by decide) ?_
  refine jm_fld hF hN (t := 0) (N := 10) (z' := a + 8) (κ' := 7) (ς' := 210) fc_10_28 wc_55 rfl rfl (by decide) (by decide) (by decide) rfl rfl rfl (by decide) (by decide) rfl rfl rfl dX10_init_56 dX10_init_58 ?_
  refine jm_aload_n hF dX10_init_61 0 rfl ?_
  refine jm_bipush hF (v := (10 : Int32)) dX10_init_62 (by decide) ?_
  refine jm_fld hF hN (t := 0) (N := 10) (z' := a + 9) (κ' := 8) (ς' := 220) fc_10_31 wc_55 rfl rfl (by decide) (by decide) (by decide) rfl rfl rfl (by decide) (by decide) rfl rfl rfl dX10_init_64 dX10_init_66 ?_
  refine jm_aload_n hF dX10_init_69 0 rfl ?_
  refine jm_bipush hF (v := (10 : Int32)) dX10_init_70 (by decide) ?_
  refine jm_fld hF hN (t := 0) (N := 10) (z' := a + 10) (κ' := 9) (ς' := 230) fc_10_34 wc_55 rfl rfl (by decide) (by decide) (by decide) rfl rfl rfl (by decide) (by decide) rfl rfl rfl dX10_init_72 dX10_init_74 ?_
  refine jm_aload_n hF dX10_init_77 0 rfl ?_
  refine jm_bipush hF (v := (60 : Int32)) dX10_init_78 (by decide) ?_
  refine jm_fld hF hN (t := 0) (N := 60) (z' := a + 11) (κ' := 10) (ς' := 290) fc_10_37 wc_55 rfl rfl (by decide) (by decide) (by decide) rfl rfl rfl (by decide) (by decide) rfl rfl rfl dX10_init_80 dX10_init_82 ?_
  refine jm_aload_n hF dX10_init_85 0 rfl ?_
  refine jm_bipush hF (v := (60 : Int32)) dX10_init_86 (by decide) ?_
  refine jm_fld hF hN (t := 0) (N := 60) (z' := a + 12) (κ' := 11) (ς' := 350) fc_10_40 wc_55 rfl rfl (by decide) (by decide) (by decide) rfl rfl rfl (by decide) (by decide) rfl rfl rfl dX10_init_88 dX10_init_90 ?_
  refine jm_aload_n hF dX10_init_93 0 rfl ?_
  refine jm_bipush hF (v := (70 : Int32)) dX10_init_94 (by decide) ?_
  refine jm_fld hF hN (t := 0) (N := 70) (z' := a + 13) (κ' := 12) (ς' := 420) fc_10_43 wc_55 rfl rfl (by decide) (by decide) (by decide) rfl rfl rfl (by decide) (by decide) rfl rfl rfl dX10_init_96 dX10_init_98 ?_
  refine jm_aload_n hF dX10_init_101 0 rfl ?_
  refine jm_bipush hF (v := (20 : Int32)) dX10_init_102 (by decide) ?_
  refine jm_fld hF hN (t := 0) (N := 20) (z' := a + 14) (κ' := 13) (ς' := 440) fc_10_46 wc_55 rfl rfl (by decide) (by decide) (by decide) rfl rfl rfl (by decide) (by decide) rfl rfl rfl dX10_init_104 dX10_init_106 ?_
  refine jm_aload_n hF dX10_init_109 0 rfl ?_
  refine jm_bipush hF (v := (20 : Int32)) dX10_init_110 (by decide) ?_
  refine jm_fld hF hN (t := 0) (N := 20) (z' := a + 15) (κ' := 14) (ς' := 460) fc_10_49 wc_55 rfl rfl (by decide) (by decide) (by decide) rfl rfl rfl (by decide) (by decide) rfl rfl rfl dX10_init_112 dX10_init_114 ?_
  refine jm_aload_n hF dX10_init_117 0 rfl ?_
  refine jm_bipush hF (v := (20 : Int32)) dX10_init_118 (by decide) ?_
  refine jm_fld hF hN (t := 0) (N := 20) (z' := a + 16) (κ' := 15) (ς' := 480) fc_10_52 wc_55 rfl rfl (by decide) (by decide) (by decide) rfl rfl rfl (by decide) (by decide) rfl rfl rfl dX10_init_120 dX10_init_122 ?_
  refine jm_aload_n hF dX10_init_125 0 rfl ?_
  refine jm_bipush hF (v := (20 : Int32)) dX10_init_126 (by decide) ?_
  refine jm_fld hF hN (t := 0) (N := 20) (z' := a + 17) (κ' := 16) (ς' := 500) fc_10_55 wc_55 rfl rfl (by decide) (by decide) (by decide) rfl rfl rfl (by decide) (by decide) rfl rfl rfl dX10_init_128 dX10_init_130 ?_
  refine jm_aload_n hF dX10_init_133 0 rfl ?_
  refine jm_sipush hF (v := (200 : Int32)) dX10_init_134 (by decide) ?_
  refine jm_fld hF hN (t := 1) (N := 200) (z' := a + 18) (κ' := 17) (ς' := 700) fc_10_58 wc_933 rfl rfl (by decide) (by decide) (by decide) rfl rfl rfl (by decide) (by decide) rfl rfl rfl dX10_init_137 dX10_init_139 ?_
  refine jm_aload_n hF dX10_init_142 0 rfl ?_
  refine jm_iconst hF (v := (-1 : Int32)) dX10_init_143 (by decide) ?_
  refine jm_put hF hN (V' := [(a, .inr (10, [.int 0, .int 0, .int 0, .ref (a + 1), .ref (a + 2), .ref (a + 3), .ref (a + 4), .ref (a + 5), .ref (a + 6), .ref (a + 7), .ref (a + 8), .ref (a + 9), .ref (a + 10), .ref (a + 11), .ref (a + 12), .ref (a + 13), .ref (a + 14), .ref (a + 15), .ref (a + 16), .int 0, .ref (a + 17), .int 0, .int 0, .int (-1), .null, .null, .null, .null, .null, .null, .null, .null, .null, .null, .null, .null, .int 0, .int 0, .int 0, .int 0, .int 0, .null, .null, .null, .null, .null, .null, .null, .null, .null, .null, .null, .int 0, .null, .null, .int 0, .null, .null, .null])), (a + 1, .inl (g.2.2 0, 12, .inl (fun _ => 0))), (a + 2, .inl (g.2.2 0, 12, .inl (fun _ => 0))), (a + 3, .inl (g.2.2 0, 12, .inl (fun _ => 0))), (a + 4, .inl (g.2.2 0, 144, .inl (fun _ => 0))), (a + 5, .inl (g.2.2 0, 10, .inl (fun _ => 0))), (a + 6, .inl (g.2.2 0, 10, .inl (fun _ => 0))), (a + 7, .inl (g.2.2 0, 10, .inl (fun _ => 0))), (a + 8, .inl (g.2.2 0, 10, .inl (fun _ => 0))), (a + 9, .inl (g.2.2 0, 10, .inl (fun _ => 0))), (a + 10, .inl (g.2.2 0, 60, .inl (fun _ => 0))), (a + 11, .inl (g.2.2 0, 60, .inl (fun _ => 0))), (a + 12, .inl (g.2.2 0, 70, .inl (fun _ => 0))), (a + 13, .inl (g.2.2 0, 20, .inl (fun _ => 0))), (a + 14, .inl (g.2.2 0, 20, .inl (fun _ => 0))), (a + 15, .inl (g.2.2 0, 20, .inl (fun _ => 0))), (a + 16, .inl (g.2.2 0, 20, .inl (fun _ => 0))), (a + 17, .inl (g.2.2 1, 200, .inl (fun _ => 0)))]) 0 fc_10_62 rfl rfl rfl rfl rfl dX10_init_144 ?_
  refine jm_aload_n hF dX10_init_147 0 rfl ?_
  refine jm_iconst hF (v := (5 : Int32)) dX10_init_148 (by decide) ?_
  refine jm_fld hF hN (t := 0) (N := 5) (z' := a + 19) (κ' := 18) (ς' := 705) fc_10_66 wc_55 rfl rfl (by decide) (by decide) (by decide) rfl rfl rfl (by decide) (by decide) rfl rfl rfl dX10_init_149 dX10_init_151 ?_
  refine jm_aload_n hF dX10_init_154 0 rfl ?_
  refine jm_iconst hF (v := (5 : Int32)) dX10_init_155 (by decide) ?_
  refine jm_fld hF hN (t := 0) (N := 5) (z' := a + 20) (κ' := 19) (ς' := 710) fc_10_69 wc_55 rfl rfl (by decide) (by decide) (by decide) rfl rfl rfl (by decide) (by decide) rfl rfl rfl dX10_init_156 dX10_init_158 ?_
  refine jm_aload_n hF dX10_init_161 0 rfl ?_
  refine jm_iconst hF (v := (5 : Int32)) dX10_init_162 (by decide) ?_
  refine jm_fld hF hN (t := 0) (N := 5) (z' := a + 21) (κ' := 20) (ς' := 715) fc_10_72 wc_55 rfl rfl (by decide) (by decide) (by decide) rfl rfl rfl (by decide) (by decide) rfl rfl rfl dX10_init_163 dX10_init_165 ?_
  refine jm_aload_n hF dX10_init_168 0 rfl ?_
  refine jm_bipush hF (v := (60 : Int32)) dX10_init_169 (by decide) ?_
  refine jm_fld hF hN (t := 0) (N := 60) (z' := a + 22) (κ' := 21) (ς' := 775) fc_10_75 wc_55 rfl rfl (by decide) (by decide) (by decide) rfl rfl rfl (by decide) (by decide) rfl rfl rfl dX10_init_171 dX10_init_173 ?_
  refine jm_aload_n hF dX10_init_176 0 rfl ?_
  refine jm_bipush hF (v := (60 : Int32)) dX10_init_177 (by decide) ?_
  refine jm_fld hF hN (t := 0) (N := 60) (z' := a + 23) (κ' := 22) (ς' := 835) fc_10_78 wc_55 rfl rfl (by decide) (by decide) (by decide) rfl rfl rfl (by decide) (by decide) rfl rfl rfl dX10_init_179 dX10_init_181 ?_
  refine jm_aload_n hF dX10_init_184 0 rfl ?_
  refine jm_bipush hF (v := (60 : Int32)) dX10_init_185 (by decide) ?_
  refine jm_fld hF hN (t := 0) (N := 60) (z' := a + 24) (κ' := 23) (ς' := 895) fc_10_81 wc_55 rfl rfl (by decide) (by decide) (by decide) rfl rfl rfl (by decide) (by decide) rfl rfl rfl dX10_init_187 dX10_init_189 ?_
  refine jm_aload_n hF dX10_init_192 0 rfl ?_
  refine jm_bipush hF (v := (60 : Int32)) dX10_init_193 (by decide) ?_
  refine jm_fld hF hN (t := 0) (N := 60) (z' := a + 25) (κ' := 24) (ς' := 955) fc_10_84 wc_55 rfl rfl (by decide) (by decide) (by decide) rfl rfl rfl (by decide) (by decide) rfl rfl rfl dX10_init_195 dX10_init_197 ?_
  refine jm_aload_n hF dX10_init_200 0 rfl ?_
  refine jm_sipush hF (v := (1000 : Int32)) dX10_init_201 (by decide) ?_
  refine jm_fld hF hN (t := 0) (N := 1000) (z' := a + 26) (κ' := 25) (ς' := 1955) fc_10_87 wc_55 rfl rfl (by decide) (by decide) (by decide) rfl rfl rfl (by decide) (by decide) rfl rfl rfl dX10_init_204 dX10_init_206 ?_
  refine jm_aload_n hF dX10_init_209 0 rfl ?_
  refine jm_sipush hF (v := (1000 : Int32)) dX10_init_210 (by decide) ?_
  refine jm_fld hF hN (t := 0) (N := 1000) (z' := a + 27) (κ' := 26) (ς' := 2955) fc_10_90 wc_55 rfl rfl (by decide) (by decide) (by decide) rfl rfl rfl (by decide) (by decide) rfl rfl rfl dX10_init_213 dX10_init_215 ?_
  refine jm_aload_n hF dX10_init_218 0 rfl ?_
  refine jm_sipush hF (v := (1000 : Int32)) dX10_init_219 (by decide) ?_
  refine jm_fld hF hN (t := 0) (N := 1000) (z' := a + 28) (κ' := 27) (ς' := 3955) fc_10_93 wc_55 rfl rfl (by decide) (by decide) (by decide) rfl rfl rfl (by decide) (by decide) rfl rfl rfl dX10_init_222 dX10_init_224 ?_
  refine jm_aload_n hF dX10_init_227 0 rfl ?_
  refine jm_sipush hF (v := (1000 : Int32)) dX10_init_228 (by decide) ?_
  refine jm_fld hF hN (t := 0) (N := 1000) (z' := a + 29) (κ' := 28) (ς' := 4955) fc_10_96 wc_55 rfl rfl (by decide) (by decide) (by decide) rfl rfl rfl (by decide) (by decide) rfl rfl rfl dX10_init_231 dX10_init_233 ?_
  refine jm_aload_n hF dX10_init_236 0 rfl ?_
  refine jm_sipush hF (v := (200 : Int32)) dX10_init_237 (by decide) ?_
  refine jm_fld hF hN (t := 0) (N := 200) (z' := a + 30) (κ' := 29) (ς' := 5155) fc_10_99 wc_55 rfl rfl (by decide) (by decide) (by decide) rfl rfl rfl (by decide) (by decide) rfl rfl rfl dX10_init_240 dX10_init_242 ?_
  refine jm_aload_n hF dX10_init_245 0 rfl ?_
  refine jm_iconst hF (v := (5 : Int32)) dX10_init_246 (by decide) ?_
  refine jm_fld hF hN (t := 0) (N := 5) (z' := a + 31) (κ' := 30) (ς' := 5160) fc_10_102 wc_55 rfl rfl (by decide) (by decide) (by decide) rfl rfl rfl (by decide) (by decide) rfl rfl rfl dX10_init_247 dX10_init_249 ?_
  refine jm_aload_n hF dX10_init_252 0 rfl ?_
  refine jm_sipush hF (v := (200 : Int32)) dX10_init_253 (by decide) ?_
  refine jm_fld hF hN (t := 2) (N := 200) (z' := a + 32) (κ' := 31) (ς' := 5360) fc_10_105 wc_934 rfl rfl (by decide) (by decide) (by decide) rfl rfl rfl (by decide) (by decide) rfl rfl rfl dX10_init_256 dX10_init_258 ?_
  refine jm_aload_n hF dX10_init_261 0 rfl ?_
  refine jm_bipush hF (v := (70 : Int32)) dX10_init_262 (by decide) ?_
  refine jm_fld hF hN (t := 0) (N := 70) (z' := a + 33) (κ' := 32) (ς' := 5430) fc_10_109 wc_55 rfl rfl (by decide) (by decide) (by decide) rfl rfl rfl (by decide) (by decide) rfl rfl rfl dX10_init_264 dX10_init_266 ?_
  refine jm_aload_n hF dX10_init_269 0 rfl ?_
  refine jm_bipush hF (v := (70 : Int32)) dX10_init_270 (by decide) ?_
  refine jm_fld hF hN (t := 0) (N := 70) (z' := a + 34) (κ' := 33) (ς' := 5500) fc_10_112 wc_55 rfl rfl (by decide) (by decide) (by decide) rfl rfl rfl (by decide) (by decide) rfl rfl rfl dX10_init_272 dX10_init_274 ?_
  refine jm_aload_n hF dX10_init_277 0 rfl ?_
  refine jm_bipush hF (v := (70 : Int32)) dX10_init_278 (by decide) ?_
  refine jm_fld hF hN (t := 0) (N := 70) (z' := a + 35) (κ' := 34) (ς' := 5570) fc_10_115 wc_55 rfl rfl (by decide) (by decide) (by decide) rfl rfl rfl (by decide) (by decide) rfl rfl rfl dX10_init_280 dX10_init_282 ?_
  refine jm_aload_n hF dX10_init_285 0 rfl ?_
  refine jm_bipush hF (v := (70 : Int32)) dX10_init_286 (by decide) ?_
  refine jm_fld hF hN (t := 0) (N := 70) (z' := a + 36) (κ' := 35) (ς' := 5640) fc_10_118 wc_55 rfl rfl (by decide) (by decide) (by decide) rfl rfl rfl (by decide) (by decide) rfl rfl rfl dX10_init_288 dX10_init_290 ?_
  refine jm_aload_n hF dX10_init_293 0 rfl ?_
  refine jm_sipush hF (v := (280 : Int32)) dX10_init_294 (by decide) ?_
  refine jm_fld hF hN (t := 0) (N := 280) (z' := a + 37) (κ' := 36) (ς' := 5920) fc_10_121 wc_55 rfl rfl (by decide) (by decide) (by decide) rfl rfl rfl (by decide) (by decide) rfl rfl rfl dX10_init_297 dX10_init_299 ?_
  refine jm_aload_n hF dX10_init_302 0 rfl ?_
  refine jm_bipush hF (v := (10 : Int32)) dX10_init_303 (by decide) ?_
  refine jm_fld hF hN (t := 0) (N := 10) (z' := a + 38) (κ' := 37) (ς' := 5930) fc_10_124 wc_55 rfl rfl (by decide) (by decide) (by decide) rfl rfl rfl (by decide) (by decide) rfl rfl rfl dX10_init_305 dX10_init_307 ?_
  refine jm_aload_n hF dX10_init_310 0 rfl ?_
  refine jm_bipush hF (v := (10 : Int32)) dX10_init_311 (by decide) ?_
  refine jm_fld hF hN (t := 0) (N := 10) (z' := a + 39) (κ' := 38) (ς' := 5940) fc_10_127 wc_55 rfl rfl (by decide) (by decide) (by decide) rfl rfl rfl (by decide) (by decide) rfl rfl rfl dX10_init_313 dX10_init_315 ?_
  refine jm_aload_n hF dX10_init_318 0 rfl ?_
  refine jm_bipush hF (v := (10 : Int32)) dX10_init_319 (by decide) ?_
  refine jm_fld hF hN (t := 0) (N := 10) (z' := a + 40) (κ' := 39) (ς' := 5950) fc_10_130 wc_55 rfl rfl (by decide) (by decide) (by decide) rfl rfl rfl (by decide) (by decide) rfl rfl rfl dX10_init_321 dX10_init_323 ?_
  refine jm_aload_n hF dX10_init_326 0 rfl ?_
  refine jm_bipush hF (v := (10 : Int32)) dX10_init_327 (by decide) ?_
  refine jm_fld hF hN (t := 2) (N := 10) (z' := a + 41) (κ' := 40) (ς' := 5960) fc_10_133 wc_934 rfl rfl (by decide) (by decide) (by decide) rfl rfl rfl (by decide) (by decide) rfl rfl rfl dX10_init_329 dX10_init_331 ?_
  refine jm_aload_n hF dX10_init_334 0 rfl ?_
  refine jm_bipush hF (v := (8 : Int32)) dX10_init_335 (by decide) ?_
  refine jm_fld hF hN (t := 0) (N := 8) (z' := a + 42) (κ' := 41) (ς' := 5968) fc_10_136 wc_55 rfl rfl (by decide) (by decide) (by decide) rfl rfl rfl (by decide) (by decide) rfl rfl rfl dX10_init_337 dX10_init_339 ?_
  refine jm_aload_n hF dX10_init_342 0 rfl ?_
  refine jm_bipush hF (v := (8 : Int32)) dX10_init_343 (by decide) ?_
  refine jm_fld hF hN (t := 0) (N := 8) (z' := a + 43) (κ' := 42) (ς' := 5976) fc_10_139 wc_55 rfl rfl (by decide) (by decide) (by decide) rfl rfl rfl (by decide) (by decide) rfl rfl rfl dX10_init_345 dX10_init_347 ?_
  refine jm_aload_n hF dX10_init_350 0 rfl ?_
  refine jm_bipush hF (v := (8 : Int32)) dX10_init_351 (by decide) ?_
  refine jm_fld hF hN (t := 0) (N := 8) (z' := a + 44) (κ' := 43) (ς' := 5984) fc_10_142 wc_55 rfl rfl (by decide) (by decide) (by decide) rfl rfl rfl (by decide) (by decide) rfl rfl rfl dX10_init_353 dX10_init_355 ?_
  refine jm_aload_n hF dX10_init_358 0 rfl ?_
  refine jm_bipush hF (v := (8 : Int32)) dX10_init_359 (by decide) ?_
  refine jm_fld hF hN (t := 0) (N := 8) (z' := a + 45) (κ' := 44) (ς' := 5992) fc_10_145 wc_55 rfl rfl (by decide) (by decide) (by decide) rfl rfl rfl (by decide) (by decide) rfl rfl rfl dX10_init_361 dX10_init_363 ?_
  refine jm_aload_n hF dX10_init_366 0 rfl ?_
  refine jm_bipush hF (v := (8 : Int32)) dX10_init_367 (by decide) ?_
  refine jm_fld hF hN (t := 0) (N := 8) (z' := a + 46) (κ' := 45) (ς' := 6000) fc_10_148 wc_55 rfl rfl (by decide) (by decide) (by decide) rfl rfl rfl (by decide) (by decide) rfl rfl rfl dX10_init_369 dX10_init_371 ?_
  exact jm_vret hF hM dX10_init_374
