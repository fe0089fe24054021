def f_X4_layOutRow_30_B40 (k3 : Int32 → Nat → Nat → Nat → Int32 → Sg → Option Sg) (a1 : Int32) (o2 : Nat) (o3 : Nat) (o4 : Nat) (a5 : Int32) (as1 : Int32) (as2 : Int32) (s0 : Sg) : Option Sg :=
  chk (gi as1 70) (bdS (up3 s0 25 0 as1.toNatClampNeg as2) fun s2 =>
  Option.bind (f_X8_leavesFrom o2 a5 s2) fun q3 =>
  if q3.1 = 0 then
  chk (gi ((a1 * (7 : Int32)) + a5) 70) (bdS (up3 q3.2 26 0 ((a1 * (7 : Int32)) + a5).toNatClampNeg (-1 : Int32)) fun s5 =>
  k3 a1 o2 o3 o4 (a5 + (1 : Int32)) s5)
  else
  chk (gi a5 7) (
  chk (gi ((a1 * (7 : Int32)) + a5) 70) (bdS (up3 q3.2 26 0 ((a1 * (7 : Int32)) + a5).toNatClampNeg (q3.2 31 o4 a5.toNatClampNeg)) fun s8 =>
  k3 a1 o2 o3 o4 (a5 + (1 : Int32)) s8)))
set_option maxRecDepth 4000 in
theorem i_X4_layOutRow_30_B40 (X : Cx) (g : GT) (hF : Fx X g RX4 cX4_layOutRow 6 1 21) (hM : FM X g none) (hI : GI g) (k3 : Int32 → Nat → Nat → Nat → Int32 → Sg → Option Sg) (hk3 : ∀ (a1 : Int32) (o2 : Nat) (o3 : Nat) (o4 : Nat) (a5 : Int32) (ho2 : o2 < cnt 8) (ho3 : o3 < cnt 30) (ho4 : o4 < cnt 31) (s0 : Sg), Im X g 6 (Qm X g embV) s0 3 [(0, .ref (g.2.1 4 0)), (1, .int a1), (2, .ref (g.2.1 8 o2)), (3, .ref (g.2.1 30 o3)), (4, .ref (g.2.1 31 o4)), (5, .int a5)] [] (k3 a1 o2 o3 o4 a5 s0)) (a1 : Int32) (o2 : Nat) (o3 : Nat) (o4 : Nat) (a5 : Int32) (as1 : Int32) (as2 : Int32) (ho2 : o2 < cnt 8) (ho3 : o3 < cnt 30) (ho4 : o4 < cnt 31) (s0 : Sg) : Im X g 6 (Qm X g embV) s0 40 [(0, .ref (g.2.1 4 0)), (1, .int a1), (2, .ref (g.2.1 8 o2)), (3, .ref (g.2.1 30 o3)), (4, .ref (g.2.1 31 o4)), (5, .int a5)] [.int as2, .int as1, .ref (g.2.1 25 0)] (f_X4_layOutRow_30_B40 k3 a1 o2 o3 o4 a5 as1 as2 s0) := by
  unfold f_X4_layOutRow_30_B40
  refine im_iast hF ar_25 (by decide) dX4_layOutRow_40 (fun h1 => im_bdS (fun s2 => ?_))
  refine im_aload_n hF dX4_layOutRow_41 0 rfl ?_
  refine im_get hF (v := .ref (g.2.1 26 0)) fl_4_15 (by decide) (by decide) rfl dX4_layOutRow_42 ?_
  refine im_iload_n hF dX4_layOutRow_45 1 rfl ?_
  refine im_bipush hF dX4_layOutRow_46 (v := (7 : Int32)) (by decide) ?_
  refine im_imul hF dX4_layOutRow_48 ?_
  refine im_iload hF dX4_layOutRow_49 5 rfl ?_
  refine im_iadd hF dX4_layOutRow_51 ?_
  refine im_aload_n hF dX4_layOutRow_52 2 rfl ?_
  refine im_iload hF dX4_layOutRow_53 5 rfl ?_
  refine im_callVI hF (As := [.int a5]) (rest := [.int ((a1 * (7 : Int32)) + a5), .ref (g.2.1 26 0)]) my_X8_leavesFrom mv_X8_leavesFrom wl_686 (fun l r hr => c_X8_leavesFrom l g hI o2 a5 ho2 s2 r hr) ⟨by decide, by decide⟩ (by decide) ho2 ⟨_, rfl, rfl⟩ rfl rfl (Nat.le_of_ble_eq_true rfl) dX4_layOutRow_55 (fun q3 => ?_)
  refine im_if_eq hF 69 dX4_layOutRow_58 (by decide) (fun _ => ?_) (fun _ => ?_)
  · refine im_iconst hF dX4_layOutRow_69 (v := (-1 : Int32)) (by decide) ?_
    refine im_iast hF ar_26 (by decide) dX4_layOutRow_70 (fun h4 => im_bdS (fun s5 => ?_))
    refine im_iinc hF dX4_layOutRow_71 (v := (a5 + (1 : Int32))) (lv' := [(5, .int (a5 + (1 : Int32))), (0, .ref (g.2.1 4 0)), (1, .int a1), (2, .ref (g.2.1 8 o2)), (3, .ref (g.2.1 30 o3)), (4, .ref (g.2.1 31 o4))]) 5 rfl rfl (by decide) rfl ?_
    refine im_goto hF 3 dX4_layOutRow_74 (by decide) ?_
    refine im_sub (lv' := [(0, .ref (g.2.1 4 0)), (1, .int a1), (2, .ref (g.2.1 8 o2)), (3, .ref (g.2.1 30 o3)), (4, .ref (g.2.1 31 o4)), (5, .int (a5 + (1 : Int32)))]) [1, 2, 3, 4, 5, 0] rfl ?_
    exact hk3 a1 o2 o3 o4 (a5 + (1 : Int32)) ho2 ho3 ho4 s5
  · refine im_aload hF dX4_layOutRow_61 4 rfl ?_
    refine im_iload hF dX4_layOutRow_63 5 rfl ?_
    refine im_iald hF ar_31 ho4 dX4_layOutRow_65 (fun h6 => ?_)
    refine im_goto hF 70 dX4_layOutRow_66 (by decide) ?_
    refine im_iast hF ar_26 (by decide) dX4_layOutRow_70 (fun h7 => im_bdS (fun s8 => ?_))
    refine im_iinc hF dX4_layOutRow_71 (v := (a5 + (1 : Int32))) (lv' := [(5, .int (a5 + (1 : Int32))), (0, .ref (g.2.1 4 0)), (1, .int a1), (2, .ref (g.2.1 8 o2)), (3, .ref (g.2.1 30 o3)), (4, .ref (g.2.1 31 o4))]) 5 rfl rfl (by decide) rfl ?_
    refine im_goto hF 3 dX4_layOutRow_74 (by decide) ?_
    refine im_sub (lv' := [(0, .ref (g.2.1 4 0)), (1, .int a1), (2, .ref (g.2.1 8 o2)), (3, .ref (g.2.1 30 o3)), (4, .ref (g.2.1 31 o4)), (5, .int (a5 + (1 : Int32)))]) [1, 2, 3, 4, 5, 0] rfl ?_
    exact hk3 a1 o2 o3 o4 (a5 + (1 : Int32)) ho2 ho3 ho4 s8
def f_X4_layOutRow_30_B3 (k3 : Int32 → Nat → Nat → Nat → Int32 → Sg → Option Sg) (a1 : Int32) (o2 : Nat) (o3 : Nat) (o4 : Nat) (a5 : Int32) (s0 : Sg) : Option Sg :=
  if (s0 8 o2 4) < a5 then
  some s0
  else
  Option.bind (f_X8_comesTo o2 a5 s0) fun q1 =>
  if q1.1 = 0 then
  (f_X4_layOutRow_30_B40 k3) a1 o2 o3 o4 a5 ((a1 * (7 : Int32)) + a5) (-1 : Int32) q1.2
  else
  chk (gi a5 7) (
  (f_X4_layOutRow_30_B40 k3) a1 o2 o3 o4 a5 ((a1 * (7 : Int32)) + a5) (q1.2 30 o3 a5.toNatClampNeg) q1.2)
set_option maxRecDepth 4000 in
theorem i_X4_layOutRow_30_B3 (X : Cx) (g : GT) (hF : Fx X g RX4 cX4_layOutRow 6 1 21) (hM : FM X g none) (hI : GI g) (k3 : Int32 → Nat → Nat → Nat → Int32 → Sg → Option Sg) (hk3 : ∀ (a1 : Int32) (o2 : Nat) (o3 : Nat) (o4 : Nat) (a5 : Int32) (ho2 : o2 < cnt 8) (ho3 : o3 < cnt 30) (ho4 : o4 < cnt 31) (s0 : Sg), Im X g 6 (Qm X g embV) s0 3 [(0, .ref (g.2.1 4 0)), (1, .int a1), (2, .ref (g.2.1 8 o2)), (3, .ref (g.2.1 30 o3)), (4, .ref (g.2.1 31 o4)), (5, .int a5)] [] (k3 a1 o2 o3 o4 a5 s0)) (a1 : Int32) (o2 : Nat) (o3 : Nat) (o4 : Nat) (a5 : Int32) (ho2 : o2 < cnt 8) (ho3 : o3 < cnt 30) (ho4 : o4 < cnt 31) (s0 : Sg) : Im X g 6 (Qm X g embV) s0 3 [(0, .ref (g.2.1 4 0)), (1, .int a1), (2, .ref (g.2.1 8 o2)), (3, .ref (g.2.1 30 o3)), (4, .ref (g.2.1 31 o4)), (5, .int a5)] [] (f_X4_layOutRow_30_B3 k3 a1 o2 o3 o4 a5 s0) := by
  unfold f_X4_layOutRow_30_B3
  refine im_iload hF dX4_layOutRow_3 5 rfl ?_
  refine im_aload_n hF dX4_layOutRow_5 2 rfl ?_
  refine im_get hF (v := .int (s0 8 o2 4)) fl_4_69 (by decide) ho2 rfl dX4_layOutRow_6 ?_
  refine im_icmp_gt hF 77 dX4_layOutRow_9 (by decide) (fun _ => ?_) (fun _ => ?_)
  · exact im_vret hF hM dX4_layOutRow_77
  · refine im_aload_n hF dX4_layOutRow_12 0 rfl ?_
    refine im_get hF (v := .ref (g.2.1 25 0)) fl_4_9 (by decide) (by decide) rfl dX4_layOutRow_13 ?_
    refine im_iload_n hF dX4_layOutRow_16 1 rfl ?_
    refine im_bipush hF dX4_layOutRow_17 (v := (7 : Int32)) (by decide) ?_
    refine im_imul hF dX4_layOutRow_19 ?_
    refine im_iload hF dX4_layOutRow_20 5 rfl ?_
    refine im_iadd hF dX4_layOutRow_22 ?_
    refine im_aload_n hF dX4_layOutRow_23 2 rfl ?_
    refine im_iload hF dX4_layOutRow_24 5 rfl ?_
    refine im_callVI hF (As := [.int a5]) (rest := [.int ((a1 * (7 : Int32)) + a5), .ref (g.2.1 25 0)]) my_X8_comesTo mv_X8_comesTo wl_685 (fun l r hr => c_X8_comesTo l g hI o2 a5 ho2 s0 r hr) ⟨by decide, by decide⟩ (by decide) ho2 ⟨_, rfl, rfl⟩ rfl rfl (Nat.le_of_ble_eq_true rfl) dX4_layOutRow_26 (fun q1 => ?_)
    refine im_if_eq hF 39 dX4_layOutRow_29 (by decide) (fun _ => ?_) (fun _ => ?_)
    · refine im_iconst hF dX4_layOutRow_39 (v := (-1 : Int32)) (by decide) ?_
      exact (i_X4_layOutRow_30_B40 X g hF hM hI k3 hk3) a1 o2 o3 o4 a5 ((a1 * (7 : Int32)) + a5) (-1 : Int32) ho2 ho3 ho4 q1.2
    · refine im_aload_n hF dX4_layOutRow_32 3 rfl ?_
      refine im_iload hF dX4_layOutRow_33 5 rfl ?_
      refine im_iald hF ar_30 ho3 dX4_layOutRow_35 (fun h2 => ?_)
      refine im_goto hF 40 dX4_layOutRow_36 (by decide) ?_
      exact (i_X4_layOutRow_30_B40 X g hF hM hI k3 hk3) a1 o2 o3 o4 a5 ((a1 * (7 : Int32)) + a5) (q1.2 30 o3 a5.toNatClampNeg) ho2 ho3 ho4 q1.2
def f_X4_layOutRow_30_L3 : Nat → Int32 → Nat → Nat → Nat → Int32 → Sg → Option Sg
  | 0 => fun _ _ _ _ _ _ => none
  | n + 1 => fun a1 o2 o3 o4 a5 s0 => f_X4_layOutRow_30_B3 (f_X4_layOutRow_30_L3 n) a1 o2 o3 o4 a5 s0
theorem i_X4_layOutRow_30_L3 (X : Cx) (g : GT) (hF : Fx X g RX4 cX4_layOutRow 6 1 21) (hM : FM X g none) (hI : GI g) : ∀ (n : Nat) (a1 : Int32) (o2 : Nat) (o3 : Nat) (o4 : Nat) (a5 : Int32) (ho2 : o2 < cnt 8) (ho3 : o3 < cnt 30) (ho4 : o4 < cnt 31) (s0 : Sg), Im X g 6 (Qm X g embV) s0 3 [(0, .ref (g.2.1 4 0)), (1, .int a1), (2, .ref (g.2.1 8 o2)), (3, .ref (g.2.1 30 o3)), (4, .ref (g.2.1 31 o4)), (5, .int a5)] [] (f_X4_layOutRow_30_L3 n a1 o2 o3 o4 a5 s0) := by
  intro n
  induction n with
  | zero => intros; exact im_none
  | succ n ih => intro a1 o2 o3 o4 a5 ho2 ho3 ho4 s0; exact i_X4_layOutRow_30_B3 X g hF hM hI (f_X4_layOutRow_30_L3 n) ih a1 o2 o3 o4 a5 ho2 ho3 ho4 s0
def f_X4_layOutRow_30 (a1 : Int32) (o2 : Nat) (o3 : Nat) (o4 : Nat) (s0 : Sg) : Option Sg :=
  (f_X4_layOutRow_30_L3 FU) a1 o2 o3 o4 (0 : Int32) s0
set_option maxRecDepth 4000 in
theorem i_X4_layOutRow_30 (X : Cx) (g : GT) (hF : Fx X g RX4 cX4_layOutRow 6 1 21) (hM : FM X g none) (hI : GI g) (a1 : Int32) (o2 : Nat) (o3 : Nat) (o4 : Nat) (ho2 : o2 < cnt 8) (ho3 : o3 < cnt 30) (ho4 : o4 < cnt 31) (s0 : Sg) : Im X g 6 (Qm X g embV) s0 0 [(0, .ref (g.2.1 4 0)), (1, .int a1), (2, .ref (g.2.1 8 o2)), (3, .ref (g.2.1 30 o3)), (4, .ref (g.2.1 31 o4))] [] (f_X4_layOutRow_30 a1 o2 o3 o4 s0) := by
  unfold f_X4_layOutRow_30
  refine im_iconst hF dX4_layOutRow_0 (v := (0 : Int32)) (by decide) ?_
  refine im_istore hF dX4_layOutRow_1 (lv' := [(5, .int (0 : Int32)), (0, .ref (g.2.1 4 0)), (1, .int a1), (2, .ref (g.2.1 8 o2)), (3, .ref (g.2.1 30 o3)), (4, .ref (g.2.1 31 o4))]) (by decide) rfl ?_
  refine im_sub (lv' := [(0, .ref (g.2.1 4 0)), (1, .int a1), (2, .ref (g.2.1 8 o2)), (3, .ref (g.2.1 30 o3)), (4, .ref (g.2.1 31 o4)), (5, .int (0 : Int32))]) [1, 2, 3, 4, 5, 0] rfl ?_
  exact (i_X4_layOutRow_30_L3 X g hF hM hI FU) a1 o2 o3 o4 (0 : Int32) ho2 ho3 ho4 s0
theorem c_X4_layOutRow_30 (l : Launch) (g : GT) (hI : GI g) (a1 : Int32) (o2 : Nat) (o3 : Nat) (o4 : Nat) (ho2 : o2 < cnt 8) (ho3 : o3 < cnt 30) (ho4 : o4 < cnt 31) (s0 : Sg) (r : Sg) (hr : f_X4_layOutRow_30 a1 o2 o3 o4 s0 = some r) : Ct l yX4_layOutRow cX4_layOutRow 6 none 1 21 g [.ref (g.2.1 4 0), .int a1, .ref (g.2.1 8 o2), .ref (g.2.1 30 o3), .ref (g.2.1 31 o4)] s0 (embV r) := ct_of (by decide) hI (Nat.le_of_ble_eq_true rfl) (fun X hF hM => i_X4_layOutRow_30 X g hF hM hI a1 o2 o3 o4 ho2 ho3 ho4 s0) r hr
def f_X4_layOutRow_42_B40 (k3 : Int32 → Nat → Nat → Nat → Int32 → Sg → Option Sg) (a1 : Int32) (o2 : Nat) (o3 : Nat) (o4 : Nat) (a5 : Int32) (as1 : Int32) (as2 : Int32) (s0 : Sg) : Option Sg :=
  chk (gi as1 70) (bdS (up3 s0 25 0 as1.toNatClampNeg as2) fun s2 =>
  Option.bind (f_X8_leavesFrom o2 a5 s2) fun q3 =>
  if q3.1 = 0 then
  chk (gi ((a1 * (7 : Int32)) + a5) 70) (bdS (up3 q3.2 26 0 ((a1 * (7 : Int32)) + a5).toNatClampNeg (-1 : Int32)) fun s5 =>
  k3 a1 o2 o3 o4 (a5 + (1 : Int32)) s5)
  else
  chk (gi a5 7) (
  chk (gi ((a1 * (7 : Int32)) + a5) 70) (bdS (up3 q3.2 26 0 ((a1 * (7 : Int32)) + a5).toNatClampNeg (q3.2 43 o4 a5.toNatClampNeg)) fun s8 =>
  k3 a1 o2 o3 o4 (a5 + (1 : Int32)) s8)))
set_option maxRecDepth 4000 in
theorem i_X4_layOutRow_42_B40 (X : Cx) (g : GT) (hF : Fx X g RX4 cX4_layOutRow 6 1 21) (hM : FM X g none) (hI : GI g) (k3 : Int32 → Nat → Nat → Nat → Int32 → Sg → Option Sg) (hk3 : ∀ (a1 : Int32) (o2 : Nat) (o3 : Nat) (o4 : Nat) (a5 : Int32) (ho2 : o2 < cnt 8) (ho3 : o3 < cnt 42) (ho4 : o4 < cnt 43) (s0 : Sg), Im X g 6 (Qm X g embV) s0 3 [(0, .ref (g.2.1 4 0)), (1, .int a1), (2, .ref (g.2.1 8 o2)), (3, .ref (g.2.1 42 o3)), (4, .ref (g.2.1 43 o4)), (5, .int a5)] [] (k3 a1 o2 o3 o4 a5 s0)) (a1 : Int32) (o2 : Nat) (o3 : Nat) (o4 : Nat) (a5 : Int32) (as1 : Int32) (as2 : Int32) (ho2 : o2 < cnt 8) (ho3 : o3 < cnt 42) (ho4 : o4 < cnt 43) (s0 : Sg) : Im X g 6 (Qm X g embV) s0 40 [(0, .ref (g.2.1 4 0)), (1, .int a1), (2, .ref (g.2.1 8 o2)), (3, .ref (g.2.1 42 o3)), (4, .ref (g.2.1 43 o4)), (5, .int a5)] [.int as2, .int as1, .ref (g.2.1 25 0)] (f_X4_layOutRow_42_B40 k3 a1 o2 o3 o4 a5 as1 as2 s0) := by
  unfold f_X4_layOutRow_42_B40
  refine im_iast hF ar_25 (by decide) dX4_layOutRow_40 (fun h1 => im_bdS (fun s2 => ?_))
  refine im_aload_n hF dX4_layOutRow_41 0 rfl ?_
  refine im_get hF (v := .ref (g.2.1 26 0)) fl_4_15 (by decide) (by decide) rfl dX4_layOutRow_42 ?_
  refine im_iload_n hF dX4_layOutRow_45 1 rfl ?_
  refine im_bipush hF dX4_layOutRow_46 (v := (7 : Int32)) (by decide) ?_
  refine im_imul hF dX4_layOutRow_48 ?_
  refine im_iload hF dX4_layOutRow_49 5 rfl ?_
  refine im_iadd hF dX4_layOutRow_51 ?_
  refine im_aload_n hF dX4_layOutRow_52 2 rfl ?_
  refine im_iload hF dX4_layOutRow_53 5 rfl ?_
  refine im_callVI hF (As := [.int a5]) (rest := [.int ((a1 * (7 : Int32)) + a5), .ref (g.2.1 26 0)]) my_X8_leavesFrom mv_X8_leavesFrom wl_686 (fun l r hr => c_X8_leavesFrom l g hI o2 a5 ho2 s2 r hr) ⟨by decide, by decide⟩ (by decide) ho2 ⟨_, rfl, rfl⟩ rfl rfl (Nat.le_of_ble_eq_true rfl) dX4_layOutRow_55 (fun q3 => ?_)
  refine im_if_eq hF 69 dX4_layOutRow_58 (by decide) (fun _ => ?_) (fun _ => ?_)
  · refine im_iconst hF dX4_layOutRow_69 (v := (-1 : Int32)) (by decide) ?_
    refine im_iast hF ar_26 (by decide) dX4_layOutRow_70 (fun h4 => im_bdS (fun s5 => ?_))
    refine im_iinc hF dX4_layOutRow_71 (v := (a5 + (1 : Int32))) (lv' := [(5, .int (a5 + (1 : Int32))), (0, .ref (g.2.1 4 0)), (1, .int a1), (2, .ref (g.2.1 8 o2)), (3, .ref (g.2.1 42 o3)), (4, .ref (g.2.1 43 o4))]) 5 rfl rfl (by decide) rfl ?_
    refine im_goto hF 3 dX4_layOutRow_74 (by decide) ?_
    refine im_sub (lv' := [(0, .ref (g.2.1 4 0)), (1, .int a1), (2, .ref (g.2.1 8 o2)), (3, .ref (g.2.1 42 o3)), (4, .ref (g.2.1 43 o4)), (5, .int (a5 + (1 : Int32)))]) [1, 2, 3, 4, 5, 0] rfl ?_
    exact hk3 a1 o2 o3 o4 (a5 + (1 : Int32)) ho2 ho3 ho4 s5
  · refine im_aload hF dX4_layOutRow_61 4 rfl ?_
    refine im_iload hF dX4_layOutRow_63 5 rfl ?_
    refine im_iald hF ar_43 ho4 dX4_layOutRow_65 (fun h6 => ?_)
    refine im_goto hF 70 dX4_layOutRow_66 (by decide) ?_
    refine im_iast hF ar_26 (by decide) dX4_layOutRow_70 (fun h7 => im_bdS (fun s8 => ?_))
    refine im_iinc hF dX4_layOutRow_71 (v := (a5 + (1 : Int32))) (lv' := [(5, .int (a5 + (1 : Int32))), (0, .ref (g.2.1 4 0)), (1, .int a1), (2, .ref (g.2.1 8 o2)), (3, .ref (g.2.1 42 o3)), (4, .ref (g.2.1 43 o4))]) 5 rfl rfl (by decide) rfl ?_
    refine im_goto hF 3 dX4_layOutRow_74 (by decide) ?_
    refine im_sub (lv' := [(0, .ref (g.2.1 4 0)), (1, .int a1), (2, .ref (g.2.1 8 o2)), (3, .ref (g.2.1 42 o3)), (4, .ref (g.2.1 43 o4)), (5, .int (a5 + (1 : Int32)))]) [1, 2, 3, 4, 5, 0] rfl ?_
    exact hk3 a1 o2 o3 o4 (a5 + (1 : Int32)) ho2 ho3 ho4 s8
def f_X4_layOutRow_42_B3 (k3 : Int32 → Nat → Nat → Nat → Int32 → Sg → Option Sg) (a1 : Int32) (o2 : Nat) (o3 : Nat) (o4 : Nat) (a5 : Int32) (s0 : Sg) : Option Sg :=
  if (s0 8 o2 4) < a5 then
  some s0
  else
  Option.bind (f_X8_comesTo o2 a5 s0) fun q1 =>
  if q1.1 = 0 then
  (f_X4_layOutRow_42_B40 k3) a1 o2 o3 o4 a5 ((a1 * (7 : Int32)) + a5) (-1 : Int32) q1.2
  else
  chk (gi a5 7) (
  (f_X4_layOutRow_42_B40 k3) a1 o2 o3 o4 a5 ((a1 * (7 : Int32)) + a5) (q1.2 42 o3 a5.toNatClampNeg) q1.2)
set_option maxRecDepth 4000 in
theorem i_X4_layOutRow_42_B3 (X : Cx) (g : GT) (hF : Fx X g RX4 cX4_layOutRow 6 1 21) (hM : FM X g none) (hI : GI g) (k3 : Int32 → Nat → Nat → Nat → Int32 → Sg → Option Sg) (hk3 : ∀ (a1 : Int32) (o2 : Nat) (o3 : Nat) (o4 : Nat) (a5 : Int32) (ho2 : o2 < cnt 8) (ho3 : o3 < cnt 42) (ho4 : o4 < cnt 43) (s0 : Sg), Im X g 6 (Qm X g embV) s0 3 [(0, .ref (g.2.1 4 0)), (1, .int a1), (2, .ref (g.2.1 8 o2)), (3, .ref (g.2.1 42 o3)), (4, .ref (g.2.1 43 o4)), (5, .int a5)] [] (k3 a1 o2 o3 o4 a5 s0)) (a1 : Int32) (o2 : Nat) (o3 : Nat) (o4 : Nat) (a5 : Int32) (ho2 : o2 < cnt 8) (ho3 : o3 < cnt 42) (ho4 : o4 < cnt 43) (s0 : Sg) : Im X g 6 (Qm X g embV) s0 3 [(0, .ref (g.2.1 4 0)), (1, .int a1), (2, .ref (g.2.1 8 o2)), (3, .ref (g.2.1 42 o3)), (4, .ref (g.2.1 43 o4)), (5, .int a5)] [] (f_X4_layOutRow_42_B3 k3 a1 o2 o3 o4 a5 s0) := by
  unfold f_X4_layOutRow_42_B3
  refine im_iload hF dX4_layOutRow_3 5 rfl ?_
  refine im_aload_n hF dX4_layOutRow_5 2 rfl ?_
  refine im_get hF (v := .int (s0 8 o2 4)) fl_4_69 (by decide) ho2 rfl dX4_layOutRow_6 ?_
  refine im_icmp_gt hF 77 dX4_layOutRow_9 (by decide) (fun _ => ?_) (fun _ => ?_)
  · exact im_vret hF hM dX4_layOutRow_77
  · refine im_aload_n hF dX4_layOutRow_12 0 rfl ?_
    refine im_get hF (v := .ref (g.2.1 25 0)) fl_4_9 (by decide) (by decide) rfl dX4_layOutRow_13 ?_
    refine im_iload_n hF dX4_layOutRow_16 1 rfl ?_
    refine im_bipush hF dX4_layOutRow_17 (v := (7 : Int32)) (by decide) ?_
    refine im_imul hF dX4_layOutRow_19 ?_
    refine im_iload hF dX4_layOutRow_20 5 rfl ?_
    refine im_iadd hF dX4_layOutRow_22 ?_
    refine im_aload_n hF dX4_layOutRow_23 2 rfl ?_
    refine im_iload hF dX4_layOutRow_24 5 rfl ?_
    refine im_callVI hF (As := [.int a5]) (rest := [.int ((a1 * (7 : Int32)) + a5), .ref (g.2.1 25 0)]) my_X8_comesTo mv_X8_comesTo wl_685 (fun l r hr => c_X8_comesTo l g hI o2 a5 ho2 s0 r hr) ⟨by decide, by decide⟩ (by decide) ho2 ⟨_, rfl, rfl⟩ rfl rfl (Nat.le_of_ble_eq_true rfl) dX4_layOutRow_26 (fun q1 => ?_)
    refine im_if_eq hF 39 dX4_layOutRow_29 (by decide) (fun _ => ?_) (fun _ => ?_)
    · refine im_iconst hF dX4_layOutRow_39 (v := (-1 : Int32)) (by decide) ?_
      exact (i_X4_layOutRow_42_B40 X g hF hM hI k3 hk3) a1 o2 o3 o4 a5 ((a1 * (7 : Int32)) + a5) (-1 : Int32) ho2 ho3 ho4 q1.2
    · refine im_aload_n hF dX4_layOutRow_32 3 rfl ?_
      refine im_iload hF dX4_layOutRow_33 5 rfl ?_
      refine im_iald hF ar_42 ho3 dX4_layOutRow_35 (fun h2 => ?_)
      refine im_goto hF 40 dX4_layOutRow_36 (by decide) ?_
      exact (i_X4_layOutRow_42_B40 X g hF hM hI k3 hk3) a1 o2 o3 o4 a5 ((a1 * (7 : Int32)) + a5) (q1.2 42 o3 a5.toNatClampNeg) ho2 ho3 ho4 q1.2
def f_X4_layOutRow_42_L3 : Nat → Int32 → Nat → Nat → Nat → Int32 → Sg → Option Sg
  | 0 => fun _ _ _ _ _ _ => none
  | n + 1 => fun a1 o2 o3 o4 a5 s0 => f_X4_layOutRow_42_B3 (f_X4_layOutRow_42_L3 n) a1 o2 o3 o4 a5 s0
theorem i_X4_layOutRow_42_L3 (X : Cx) (g : GT) (hF : Fx X g RX4 cX4_layOutRow 6 1 21) (hM : FM X g none) (hI : GI g) : ∀ (n : Nat) (a1 : Int32) (o2 : Nat) (o3 : Nat) (o4 : Nat) (a5 : Int32) (ho2 : o2 < cnt 8) (ho3 : o3 < cnt 42) (ho4 : o4 < cnt 43) (s0 : Sg), Im X g 6 (Qm X g embV) s0 3 [(0, .ref (g.2.1 4 0)), (1, .int a1), (2, .ref (g.2.1 8 o2)), (3, .ref (g.2.1 42 o3)), (4, .ref (g.2.1 43 o4)), (5, .int a5)] [] (f_X4_layOutRow_42_L3 n a1 o2 o3 o4 a5 s0) := by
  intro n
  induction n with
  | zero => intros; exact im_none
  | succ n ih => intro a1 o2 o3 o4 a5 ho2 ho3 ho4 s0; exact i_X4_layOutRow_42_B3 X g hF hM hI (f_X4_layOutRow_42_L3 n) ih a1 o2 o3 o4 a5 ho2 ho3 ho4 s0
def f_X4_layOutRow_42 (a1 : Int32) (o2 : Nat) (o3 : Nat) (o4 : Nat) (s0 : Sg) : Option Sg :=
  (f_X4_layOutRow_42_L3 FU) a1 o2 o3 o4 (0 : Int32) s0
set_option maxRecDepth 4000 in
theorem i_X4_layOutRow_42 (X : Cx) (g : GT) (hF : Fx X g RX4 cX4_layOutRow 6 1 21) (hM : FM X g none) (hI : GI g) (a1 : Int32) (o2 : Nat) (o3 : Nat) (o4 : Nat) (ho2 : o2 < cnt 8) (ho3 : o3 < cnt 42) (ho4 : o4 < cnt 43) (s0 : Sg) : Im X g 6 (Qm X g embV) s0 0 [(0, .ref (g.2.1 4 0)), (1, .int a1), (2, .ref (g.2.1 8 o2)), (3, .ref (g.2.1 42 o3)), (4, .ref (g.2.1 43 o4))] [] (f_X4_layOutRow_42 a1 o2 o3 o4 s0) := by
  unfold f_X4_layOutRow_42
  refine im_iconst hF dX4_layOutRow_0 (v := (0 : Int32)) (by decide) ?_
  refine im_istore hF dX4_layOutRow_1 (lv' := [(5, .int (0 : Int32)), (0, .ref (g.2.1 4 0)), (1, .int a1), (2, .ref (g.2.1 8 o2)), (3, .ref (g.2.1 42 o3)), (4, .ref (g.2.1 43 o4))]) (by decide) rfl ?_
  refine im_sub (lv' := [(0, .ref (g.2.1 4 0)), (1, .int a1), (2, .ref (g.2.1 8 o2)), (3, .ref (g.2.1 42 o3)), (4, .ref (g.2.1 43 o4)), (5, .int (0 : Int32))]) [1, 2, 3, 4, 5, 0] rfl ?_
  exact (i_X4_layOutRow_42_L3 X g hF hM hI FU) a1 o2 o3 o4 (0 : Int32) ho2 ho3 ho4 s0
theorem c_X4_layOutRow_42 (l : Launch) (g : GT) (hI : GI g) (a1 : Int32) (o2 : Nat) (o3 : Nat) (o4 : Nat) (ho2 : o2 < cnt 8) (ho3 : o3 < cnt 42) (ho4 : o4 < cnt 43) (s0 : Sg) (r : Sg) (hr : f_X4_layOutRow_42 a1 o2 o3 o4 s0 = some r) : Ct l yX4_layOutRow cX4_layOutRow 6 none 1 21 g [.ref (g.2.1 4 0), .int a1, .ref (g.2.1 8 o2), .ref (g.2.1 42 o3), .ref (g.2.1 43 o4)] s0 (embV r) := ct_of (by decide) hI (Nat.le_of_ble_eq_true rfl) (fun X hF hM => i_X4_layOutRow_42 X g hF hM hI a1 o2 o3 o4 ho2 ho3 ho4 s0) r hr
def f_X4_layOut_B3 (k3 : Int32 → Int32 → Sg → Option Sg) (a3 : Int32) (a4 : Int32) (s0 : Sg) : Option Sg :=
  if (s0 0 0 2) ≤ a4 then
  some s0
  else
  chk (gi a4 10) (
  if a3 = 0 then
  chk (gi a4 10) (
  chk (gi a4 10) (
  chk (gi a4 10) (
  Option.bind (f_X4_layOutRow_42 a4 a4.toNatClampNeg a4.toNatClampNeg a4.toNatClampNeg s0) fun q5 =>
  k3 a3 (a4 + (1 : Int32)) q5)))
  else
  chk (gi a4 10) (
  Option.bind (f_X4_layOutRow_30 a4 a4.toNatClampNeg a4.toNatClampNeg a4.toNatClampNeg s0) fun q7 =>
  k3 a3 (a4 + (1 : Int32)) q7))
set_option maxRecDepth 4000 in
theorem i_X4_layOut_B3 (X : Cx) (g : GT) (hF : Fx X g RX4 cX4_layOut 6 2 46) (hM : FM X g none) (hI : GI g) (k3 : Int32 → Int32 → Sg → Option Sg) (hk3 : ∀ (a3 : Int32) (a4 : Int32) (s0 : Sg), Im X g 6 (Qm X g embV) s0 3 [(0, .ref (g.2.1 4 0)), (1, .ref (g.2.1 0 0)), (2, .ref (g.2.1 3 0)), (3, .int a3), (4, .int a4)] [] (k3 a3 a4 s0)) (a3 : Int32) (a4 : Int32) (s0 : Sg) : Im X g 6 (Qm X g embV) s0 3 [(0, .ref (g.2.1 4 0)), (1, .ref (g.2.1 0 0)), (2, .ref (g.2.1 3 0)), (3, .int a3), (4, .int a4)] [] (f_X4_layOut_B3 k3 a3 a4 s0) := by
  unfold f_X4_layOut_B3
  refine im_iload hF dX4_layOut_3 4 rfl ?_
  refine im_aload_n hF dX4_layOut_5 1 rfl ?_
  refine im_get hF (v := .int (s0 0 0 2)) fl_4_34 (by decide) (by decide) rfl dX4_layOut_6 ?_
  refine im_icmp_ge hF 90 dX4_layOut_9 (by decide) (fun _ => ?_) (fun _ => ?_)
  · exact im_vret hF hM dX4_layOut_90
  · refine im_aload_n hF dX4_layOut_12 2 rfl ?_
    refine im_get hF (v := .ref (g.2.1 13 0)) fl_4_39 (by decide) (by decide) rfl dX4_layOut_13 ?_
    refine im_iload hF dX4_layOut_16 4 rfl ?_
    refine im_aald13 hF dX4_layOut_18 (fun h1 => ?_)
    refine im_astore hF dX4_layOut_19 (lv' := [(5, .ref (g.2.1 6 a4.toNatClampNeg)), (0, .ref (g.2.1 4 0)), (1, .ref (g.2.1 0 0)), (2, .ref (g.2.1 3 0)), (3, .int a3), (4, .int a4)]) (by decide) rfl ?_
    refine im_iload_n hF dX4_layOut_21 4 rfl ?_
    refine im_if_eq hF 51 dX4_layOut_22 (by decide) (fun _ => ?_) (fun _ => ?_)
    · refine im_aload_n hF dX4_layOut_51 1 rfl ?_
      refine im_iload hF dX4_layOut_52 5 rfl ?_
      refine im_aload_n hF dX4_layOut_54 2 rfl ?_
      refine im_get hF (v := .ref (g.2.1 11 0)) fl_4_45 (by decide) (by decide) rfl dX4_layOut_55 ?_
      refine im_iload hF dX4_layOut_58 5 rfl ?_
      refine im_aald11 hF dX4_layOut_60 (fun h2 => ?_)
      refine im_aload_n hF dX4_layOut_61 2 rfl ?_
      refine im_get hF (v := .ref (g.2.1 11 0)) fl_4_45 (by decide) (by decide) rfl dX4_layOut_62 ?_
      refine im_iload hF dX4_layOut_65 5 rfl ?_
      refine im_aald11 hF dX4_layOut_67 (fun h3 => ?_)
      refine im_get hF (v := .ref (g.2.1 42 a4.toNatClampNeg)) fl_4_61 (by decide) (gi_lt h3) rfl dX4_layOut_68 ?_
      refine im_aload_n hF dX4_layOut_71 2 rfl ?_
      refine im_get hF (v := .ref (g.2.1 11 0)) fl_4_45 (by decide) (by decide) rfl dX4_layOut_72 ?_
      refine im_iload hF dX4_layOut_75 5 rfl ?_
      refine im_aald11 hF dX4_layOut_77 (fun h4 => ?_)
      refine im_get hF (v := .ref (g.2.1 43 a4.toNatClampNeg)) fl_4_66 (by decide) (gi_lt h4) rfl dX4_layOut_78 ?_
      refine im_callVV hF (As := [.int a4, .ref (g.2.1 8 a4.toNatClampNeg), .ref (g.2.1 42 a4.toNatClampNeg), .ref (g.2.1 43 a4.toNatClampNeg)]) (rest := []) my_X4_layOutRow mv_X4_layOutRow wl_681 (fun l r hr => c_X4_layOutRow_42 l g hI a4 a4.toNatClampNeg a4.toNatClampNeg a4.toNatClampNeg (gi_lt h2) (gi_lt h3) (gi_lt h4) s0 r hr) ⟨by decide, by decide⟩ (by decide) (by decide) ⟨_, rfl, rfl⟩ rfl rfl (Nat.le_of_ble_eq_true rfl) dX4_layOut_81 (fun q5 => ?_)
      refine im_iinc hF dX4_layOut_84 (v := (a4 + (1 : Int32))) (lv' := [(4, .int (a4 + (1 : Int32))), (5, .ref (g.2.1 6 a4.toNatClampNeg)), (0, .ref (g.2.1 4 0)), (1, .ref (g.2.1 0 0)), (2, .ref (g.2.1 3 0)), (3, .int a3)]) 5 rfl rfl (by decide) rfl ?_
      refine im_goto hF 3 dX4_layOut_87 (by decide) ?_
      refine im_sub (lv' := [(0, .ref (g.2.1 4 0)), (1, .ref (g.2.1 0 0)), (2, .ref (g.2.1 3 0)), (3, .int a3), (4, .int (a4 + (1 : Int32)))]) [2, 3, 4, 5, 0] rfl ?_
      exact hk3 a3 (a4 + (1 : Int32)) q5
    · refine im_aload_n hF dX4_layOut_25 1 rfl ?_
      refine im_iload hF dX4_layOut_26 5 rfl ?_
      refine im_aload_n hF dX4_layOut_28 2 rfl ?_
      refine im_get hF (v := .ref (g.2.1 11 0)) fl_4_45 (by decide) (by decide) rfl dX4_layOut_29 ?_
      refine im_iload hF dX4_layOut_32 5 rfl ?_
      refine im_aald11 hF dX4_layOut_34 (fun h6 => ?_)
      refine im_aload hF dX4_layOut_35 0 rfl ?_
      refine im_get hF (v := .ref (g.2.1 30 a4.toNatClampNeg)) fl_4_49 (by decide) (gi_lt h1) rfl dX4_layOut_37 ?_
      refine im_aload hF dX4_layOut_40 0 rfl ?_
      refine im_get hF (v := .ref (g.2.1 31 a4.toNatClampNeg)) fl_4_54 (by decide) (gi_lt h1) rfl dX4_layOut_42 ?_
      refine im_callVV hF (As := [.int a4, .ref (g.2.1 8 a4.toNatClampNeg), .ref (g.2.1 30 a4.toNatClampNeg), .ref (g.2.1 31 a4.toNatClampNeg)]) (rest := []) my_X4_layOutRow mv_X4_layOutRow wl_681 (fun l r hr => c_X4_layOutRow_30 l g hI a4 a4.toNatClampNeg a4.toNatClampNeg a4.toNatClampNeg (gi_lt h6) (gi_lt h1) (gi_lt h1) s0 r hr) ⟨by decide, by decide⟩ (by decide) (by decide) ⟨_, rfl, rfl⟩ rfl rfl (Nat.le_of_ble_eq_true rfl) dX4_layOut_45 (fun q7 => ?_)
      refine im_goto hF 84 dX4_layOut_48 (by decide) ?_
      refine im_iinc hF dX4_layOut_84 (v := (a4 + (1 : Int32))) (lv' := [(4, .int (a4 + (1 : Int32))), (5, .ref (g.2.1 6 a4.toNatClampNeg)), (0, .ref (g.2.1 4 0)), (1, .ref (g.2.1 0 0)), (2, .ref (g.2.1 3 0)), (3, .int a3)]) 5 rfl rfl (by decide) rfl ?_
      refine im_goto hF 3 dX4_layOut_87 (by decide) ?_
      refine im_sub (lv' := [(0, .ref (g.2.1 4 0)), (1, .ref (g.2.1 0 0)), (2, .ref (g.2.1 3 0)), (3, .int a3), (4, .int (a4 + (1 : Int32)))]) [2, 3, 4, 5, 0] rfl ?_
      exact hk3 a3 (a4 + (1 : Int32)) q7
def f_X4_layOut_L3 : Nat → Int32 → Int32 → Sg → Option Sg
  | 0 => fun _ _ _ => none
  | n + 1 => fun a3 a4 s0 => f_X4_layOut_B3 (f_X4_layOut_L3 n) a3 a4 s0
theorem i_X4_layOut_L3 (X : Cx) (g : GT) (hF : Fx X g RX4 cX4_layOut 6 2 46) (hM : FM X g none) (hI : GI g) : ∀ (n : Nat) (a3 : Int32) (a4 : Int32) (s0 : Sg), Im X g 6 (Qm X g embV) s0 3 [(0, .ref (g.2.1 4 0)), (1, .ref (g.2.1 0 0)), (2, .ref (g.2.1 3 0)), (3, .int a3), (4, .int a4)] [] (f_X4_layOut_L3 n a3 a4 s0) := by
  intro n
  induction n with
  | zero => intros; exact im_none
  | succ n ih => intro a3 a4 s0; exact i_X4_layOut_B3 X g hF hM hI (f_X4_layOut_L3 n) ih a3 a4 s0
def f_X4_layOut (a3 : Int32) (s0 : Sg) : Option Sg :=
  (f_X4_layOut_L3 FU) a3 (0 : Int32) s0
set_option maxRecDepth 4000 in
theorem i_X4_layOut (X : Cx) (g : GT) (hF : Fx X g RX4 cX4_layOut 6 2 46) (hM : FM X g none) (hI : GI g) (a3 : Int32) (s0 : Sg) : Im X g 6 (Qm X g embV) s0 0 [(0, .ref (g.2.1 4 0)), (1, .ref (g.2.1 0 0)), (2, .ref (g.2.1 3 0)), (3, .int a3)] [] (f_X4_layOut a3 s0) := by
  unfold f_X4_layOut
  refine im_iconst hF dX4_layOut_0 (v := (0 : Int32)) (by decide) ?_
  refine im_istore hF dX4_layOut_1 (lv' := [(4, .int (0 : Int32)), (0, .ref (g.2.1 4 0)), (1, .ref (g.2.1 0 0)), (2, .ref (g.2.1 3 0)), (3, .int a3)]) (by decide) rfl ?_
  refine im_sub (lv' := [(0, .ref (g.2.1 4 0)), (1, .ref (g.2.1 0 0)), (2, .ref (g.2.1 3 0)), (3, .int a3), (4, .int (0 : Int32))]) [1, 2, 3, 4, 0] rfl ?_
  exact (i_X4_layOut_L3 X g hF hM hI FU) a3 (0 : Int32) s0
theorem c_X4_layOut (l : Launch) (g : GT) (hI : GI g) (a3 : Int32) (s0 : Sg) (r : Sg) (hr : f_X4_layOut a3 s0 = some r) : Ct l yX4_layOut cX4_layOut 6 none 2 46 g [.ref (g.2.1 4 0), .ref (g.2.1 0 0), .ref (g.2.1 3 0), .int a3] s0 (embV r) := ct_of (by decide) hI (Nat.le_of_ble_eq_true rfl) (fun X hF hM => i_X4_layOut X g hF hM hI a3 s0) r hr
def f_J7_fill_27_B5 (k5 : Int32 → Int32 → Int32 → Sg → Option Sg) (a1 : Int32) (a2 : Int32) (a3 : Int32) (s0 : Sg) : Option Sg :=
  if a3 ≤ a2 then
  some s0
  else
  chk (gi a2 8) (bdS (up3 s0 27 0 a2.toNatClampNeg a1) fun s2 =>
  k5 a1 (a2 + (1 : Int32)) a3 s2)
set_option maxRecDepth 4000 in
theorem i_J7_fill_27_B5 (X : Cx) (g : GT) (hF : Fx X g RJ7 cJ7_fill_53178 4 0 0) (hM : FM X g none) (hI : GI g) (k5 : Int32 → Int32 → Int32 → Sg → Option Sg) (hk5 : ∀ (a1 : Int32) (a2 : Int32) (a3 : Int32) (s0 : Sg), Im X g 4 (Qm X g embV) s0 5 [(0, .ref (g.2.1 27 0)), (1, .int a1), (2, .int a2), (3, .int a3)] [] (k5 a1 a2 a3 s0)) (a1 : Int32) (a2 : Int32) (a3 : Int32) (s0 : Sg) : Im X g 4 (Qm X g embV) s0 5 [(0, .ref (g.2.1 27 0)), (1, .int a1), (2, .int a2), (3, .int a3)] [] (f_J7_fill_27_B5 k5 a1 a2 a3 s0) := by
  unfold f_J7_fill_27_B5
  refine im_iload_n hF dJ7_fill_53178_5 2 rfl ?_
  refine im_iload_n hF dJ7_fill_53178_6 3 rfl ?_
  refine im_icmp_ge hF 20 dJ7_fill_53178_7 (by decide) (fun _ => ?_) (fun _ => ?_)
  · exact im_vret hF hM dJ7_fill_53178_20
  · refine im_aload_n hF dJ7_fill_53178_10 0 rfl ?_
    refine im_iload_n hF dJ7_fill_53178_11 2 rfl ?_
    refine im_iload_n hF dJ7_fill_53178_12 1 rfl ?_
    refine im_iast hF ar_27 (by decide) dJ7_fill_53178_13 (fun h1 => im_bdS (fun s2 => ?_))
    refine im_iinc hF dJ7_fill_53178_14 (v := (a2 + (1 : Int32))) (lv' := [(2, .int (a2 + (1 : Int32))), (0, .ref (g.2.1 27 0)), (1, .int a1), (3, .int a3)]) 2 rfl rfl (by decide) rfl ?_
    refine im_goto hF 5 dJ7_fill_53178_17 (by decide) ?_
    refine im_sub (lv' := [(0, .ref (g.2.1 27 0)), (1, .int a1), (2, .int (a2 + (1 : Int32))), (3, .int a3)]) [1, 2, 0, 3] rfl ?_
    exact hk5 a1 (a2 + (1 : Int32)) a3 s2
def f_J7_fill_27_L5 : Nat → Int32 → Int32 → Int32 → Sg → Option Sg
  | 0 => fun _ _ _ _ => none
  | n + 1 => fun a1 a2 a3 s0 => f_J7_fill_27_B5 (f_J7_fill_27_L5 n) a1 a2 a3 s0
theorem i_J7_fill_27_L5 (X : Cx) (g : GT) (hF : Fx X g RJ7 cJ7_fill_53178 4 0 0) (hM : FM X g none) (hI : GI g) : ∀ (n : Nat) (a1 : Int32) (a2 : Int32) (a3 : Int32) (s0 : Sg), Im X g 4 (Qm X g embV) s0 5 [(0, .ref (g.2.1 27 0)), (1, .int a1), (2, .int a2), (3, .int a3)] [] (f_J7_fill_27_L5 n a1 a2 a3 s0) := by
  intro n
  induction n with
  | zero => intros; exact im_none
  | succ n ih => intro a1 a2 a3 s0; exact i_J7_fill_27_B5 X g hF hM hI (f_J7_fill_27_L5 n) ih a1 a2 a3 s0
def f_J7_fill_27 (a1 : Int32) (s0 : Sg) : Option Sg :=
  (f_J7_fill_27_L5 FU) a1 (0 : Int32) (8 : Int32) s0
set_option maxRecDepth 4000 in
theorem i_J7_fill_27 (X : Cx) (g : GT) (hF : Fx X g RJ7 cJ7_fill_53178 4 0 0) (hM : FM X g none) (hI : GI g) (a1 : Int32) (s0 : Sg) : Im X g 4 (Qm X g embV) s0 0 [(0, .ref (g.2.1 27 0)), (1, .int a1)] [] (f_J7_fill_27 a1 s0) := by
  unfold f_J7_fill_27
  refine im_iconst hF dJ7_fill_53178_0 (v := (0 : Int32)) (by decide) ?_
  refine im_istore_n hF dJ7_fill_53178_1 (lv' := [(2, .int (0 : Int32)), (0, .ref (g.2.1 27 0)), (1, .int a1)]) rfl (by decide) rfl ?_
  refine im_aload_n hF dJ7_fill_53178_2 1 rfl ?_
  refine im_alen hF (v := (8 : Int32)) ar_27 (by decide) (by decide) (by decide) dJ7_fill_53178_3 ?_
  refine im_istore_n hF dJ7_fill_53178_4 (lv' := [(3, .int (8 : Int32)), (2, .int (0 : Int32)), (0, .ref (g.2.1 27 0)), (1, .int a1)]) rfl (by decide) rfl ?_
  refine im_sub (lv' := [(0, .ref (g.2.1 27 0)), (1, .int a1), (2, .int (0 : Int32)), (3, .int (8 : Int32))]) [2, 3, 1, 0] rfl ?_
  exact (i_J7_fill_27_L5 X g hF hM hI FU) a1 (0 : Int32) (8 : Int32) s0
theorem c_J7_fill_27 (l : Launch) (g : GT) (hI : GI g) (a1 : Int32) (s0 : Sg) (r : Sg) (hr : f_J7_fill_27 a1 s0 = some r) : Ct l yJ7_fill_53178 cJ7_fill_53178 4 none 0 0 g [.ref (g.2.1 27 0), .int a1] s0 (embV r) := ct_of (by decide) hI (Nat.le_of_ble_eq_true rfl) (fun X hF hM => i_J7_fill_27 X g hF hM hI a1 s0) r hr
def f_X4_carry_B78 (k8 : Nat → Int32 → Int32 → Int32 → Int32 → Sg → Option (Int32 × Sg)) (o1 : Nat) (a2 : Int32) (a3 : Int32) (a4 : Int32) (a5 : Int32) (a6 : Int32) (s0 : Sg) : Option (Int32 × Sg) :=
  chk (gi ((a2 * (7 : Int32)) + a5) 70) (
  chk (gi a6 8) (
  if (s0 26 0 ((a2 * (7 : Int32)) + a5).toNatClampNeg) < (s0 27 0 a6.toNatClampNeg) then
  k8 o1 a2 a3 a4 (a5 + (1 : Int32)) s0
  else
  k8 o1 a2 (1 : Int32) a4 (a5 + (1 : Int32)) s0))
set_option maxRecDepth 4000 in
theorem i_X4_carry_B78 (X : Cx) (g : GT) (hF : Fx X g RX4 cX4_carry 8 0 0) (hM : FM X g (some .boolean)) (hI : GI g) (k8 : Nat → Int32 → Int32 → Int32 → Int32 → Sg → Option (Int32 × Sg)) (hk8 : ∀ (o1 : Nat) (a2 : Int32) (a3 : Int32) (a4 : Int32) (a5 : Int32) (ho1 : o1 < cnt 8) (s0 : Sg), Im X g 8 (Qm X g embI) s0 8 [(0, .ref (g.2.1 4 0)), (1, .ref (g.2.1 8 o1)), (2, .int a2), (3, .int a3), (4, .int a4), (5, .int a5)] [] (k8 o1 a2 a3 a4 a5 s0)) (o1 : Nat) (a2 : Int32) (a3 : Int32) (a4 : Int32) (a5 : Int32) (a6 : Int32) (ho1 : o1 < cnt 8) (s0 : Sg) : Im X g 8 (Qm X g embI) s0 78 [(0, .ref (g.2.1 4 0)), (1, .ref (g.2.1 8 o1)), (2, .int a2), (3, .int a3), (4, .int a4), (5, .int a5), (6, .int a6)] [] (f_X4_carry_B78 k8 o1 a2 a3 a4 a5 a6 s0) := by
  unfold f_X4_carry_B78
  refine im_aload_n hF dX4_carry_78 0 rfl ?_
  refine im_get hF (v := .ref (g.2.1 26 0)) fl_4_15 (by decide) (by decide) rfl dX4_carry_79 ?_
  refine im_iload_n hF dX4_carry_82 2 rfl ?_
  refine im_bipush hF dX4_carry_83 (v := (7 : Int32)) (by decide) ?_
  refine im_imul hF dX4_carry_85 ?_
  refine im_iload hF dX4_carry_86 5 rfl ?_
  refine im_iadd hF dX4_carry_88 ?_
  refine im_iald hF ar_26 (by decide) dX4_carry_89 (fun h1 => ?_)
  refine im_aload_n hF dX4_carry_90 0 rfl ?_
  refine im_get hF (v := .ref (g.2.1 27 0)) fl_4_18 (by decide) (by decide) rfl dX4_carry_91 ?_
  refine im_iload hF dX4_carry_94 6 rfl ?_
  refine im_iald hF ar_27 (by decide) dX4_carry_96 (fun h2 => ?_)
  refine im_icmp_lt hF 102 dX4_carry_97 (by decide) (fun _ => ?_) (fun _ => ?_)
  · refine im_iinc hF dX4_carry_102 (v := (a5 + (1 : Int32))) (lv' := [(5, .int (a5 + (1 : Int32))), (0, .ref (g.2.1 4 0)), (1, .ref (g.2.1 8 o1)), (2, .int a2), (3, .int a3), (4, .int a4), (6, .int a6)]) 5 rfl rfl (by decide) rfl ?_
    refine im_goto hF 8 dX4_carry_105 (by decide) ?_
    refine im_sub (lv' := [(0, .ref (g.2.1 4 0)), (1, .ref (g.2.1 8 o1)), (2, .int a2), (3, .int a3), (4, .int a4), (5, .int (a5 + (1 : Int32)))]) [1, 2, 3, 4, 5, 0] rfl ?_
    exact hk8 o1 a2 a3 a4 (a5 + (1 : Int32)) ho1 s0
  · refine im_iconst hF dX4_carry_100 (v := (1 : Int32)) (by decide) ?_
    refine im_istore_n hF dX4_carry_101 (lv' := [(3, .int (1 : Int32)), (0, .ref (g.2.1 4 0)), (1, .ref (g.2.1 8 o1)), (2, .int a2), (4, .int a4), (5, .int a5), (6, .int a6)]) rfl (by decide) rfl ?_
    refine im_iinc hF dX4_carry_102 (v := (a5 + (1 : Int32))) (lv' := [(5, .int (a5 + (1 : Int32))), (3, .int (1 : Int32)), (0, .ref (g.2.1 4 0)), (1, .ref (g.2.1 8 o1)), (2, .int a2), (4, .int a4), (6, .int a6)]) 5 rfl rfl (by decide) rfl ?_
    refine im_goto hF 8 dX4_carry_105 (by decide) ?_
    refine im_sub (lv' := [(0, .ref (g.2.1 4 0)), (1, .ref (g.2.1 8 o1)), (2, .int a2), (3, .int (1 : Int32)), (4, .int a4), (5, .int (a5 + (1 : Int32)))]) [2, 3, 4, 1, 5, 0] rfl ?_
    exact hk8 o1 a2 (1 : Int32) a4 (a5 + (1 : Int32)) ho1 s0
def f_X4_carry_B8 (k8 : Nat → Int32 → Int32 → Int32 → Int32 → Sg → Option (Int32 × Sg)) (o1 : Nat) (a2 : Int32) (a3 : Int32) (a4 : Int32) (a5 : Int32) (s0 : Sg) : Option (Int32 × Sg) :=
  if (s0 8 o1 4) < a5 then
  chk (b01 a4) (some (a4, s0))
  else
  chk (gi a5 7) (
  bdI (s0 36 o1 a5.toNatClampNeg) fun x3 =>
  chk (gi ((a2 * (7 : Int32)) + a5) 70) (
  bdI (s0 25 0 ((a2 * (7 : Int32)) + a5).toNatClampNeg) fun x5 =>
  if a3 = 0 then
  (f_X4_carry_B78 k8) o1 a2 a3 a4 a5 x3 s0
  else
  if x5 = (-1 : Int32) then
  (f_X4_carry_B78 k8) o1 a2 a3 a4 a5 x3 s0
  else
  chk (gi x3 8) (
  if (s0 27 0 x3.toNatClampNeg) ≤ (x5 + (1 : Int32)) then
  (f_X4_carry_B78 k8) o1 a2 a3 a4 a5 x3 s0
  else
  chk (gi x3 8) (bdS (up3 s0 27 0 x3.toNatClampNeg (x5 + (1 : Int32))) fun s8 =>
  (f_X4_carry_B78 k8) o1 a2 a3 (1 : Int32) a5 x3 s8))))
set_option maxRecDepth 4000 in
theorem i_X4_carry_B8 (X : Cx) (g : GT) (hF : Fx X g RX4 cX4_carry 8 0 0) (hM : FM X g (some .boolean)) (hI : GI g) (k8 : Nat → Int32 → Int32 → Int32 → Int32 → Sg → Option (Int32 × Sg)) (hk8 : ∀ (o1 : Nat) (a2 : Int32) (a3 : Int32) (a4 : Int32) (a5 : Int32) (ho1 : o1 < cnt 8) (s0 : Sg), Im X g 8 (Qm X g embI) s0 8 [(0, .ref (g.2.1 4 0)), (1, .ref (g.2.1 8 o1)), (2, .int a2), (3, .int a3), (4, .int a4), (5, .int a5)] [] (k8 o1 a2 a3 a4 a5 s0)) (o1 : Nat) (a2 : Int32) (a3 : Int32) (a4 : Int32) (a5 : Int32) (ho1 : o1 < cnt 8) (s0 : Sg) : Im X g 8 (Qm X g embI) s0 8 [(0, .ref (g.2.1 4 0)), (1, .ref (g.2.1 8 o1)), (2, .int a2), (3, .int a3), (4, .int a4), (5, .int a5)] [] (f_X4_carry_B8 k8 o1 a2 a3 a4 a5 s0) := by
  unfold f_X4_carry_B8
  refine im_iload hF dX4_carry_8 5 rfl ?_
  refine im_aload_n hF dX4_carry_10 1 rfl ?_
  refine im_get hF (v := .int (s0 8 o1 4)) fl_4_69 (by decide) ho1 rfl dX4_carry_11 ?_
  refine im_icmp_gt hF 108 dX4_carry_14 (by decide) (fun _ => ?_) (fun _ => ?_)
  · refine im_iload hF dX4_carry_108 4 rfl ?_
    exact im_chk (fun h1 => im_zret hF hM (b01_or h1) dX4_carry_110)
  · refine im_aload_n hF dX4_carry_17 1 rfl ?_
    refine im_get hF (v := .ref (g.2.1 36 o1)) fl_4_90 (by decide) ho1 rfl dX4_carry_18 ?_
    refine im_iload hF dX4_carry_21 5 rfl ?_
    refine im_iald hF ar_36 ho1 dX4_carry_23 (fun h2 => ?_)
    refine im_bdI (fun x3 => ?_)
    refine im_istore hF dX4_carry_24 (lv' := [(6, .int x3), (0, .ref (g.2.1 4 0)), (1, .ref (g.2.1 8 o1)), (2, .int a2), (3, .int a3), (4, .int a4), (5, .int a5)]) (by decide) rfl ?_
    refine im_aload_n hF dX4_carry_26 1 rfl ?_
    refine im_get hF (v := .ref (g.2.1 25 0)) fl_4_9 (by decide) (by decide) rfl dX4_carry_27 ?_
    refine im_iload_n hF dX4_carry_30 3 rfl ?_
    refine im_bipush hF dX4_carry_31 (v := (7 : Int32)) (by decide) ?_
    refine im_imul hF dX4_carry_33 ?_
    refine im_iload hF dX4_carry_34 6 rfl ?_
    refine im_iadd hF dX4_carry_36 ?_
    refine im_iald hF ar_25 (by decide) dX4_carry_37 (fun h4 => ?_)
    refine im_bdI (fun x5 => ?_)
    refine im_istore hF dX4_carry_38 (lv' := [(7, .int x5), (6, .int x3), (0, .ref (g.2.1 4 0)), (1, .ref (g.2.1 8 o1)), (2, .int a2), (3, .int a3), (4, .int a4), (5, .int a5)]) (by decide) rfl ?_
    refine im_iload_n hF dX4_carry_40 5 rfl ?_
    refine im_if_eq hF 78 dX4_carry_41 (by decide) (fun _ => ?_) (fun _ => ?_)
    · refine im_sub (lv' := [(0, .ref (g.2.1 4 0)), (1, .ref (g.2.1 8 o1)), (2, .int a2), (3, .int a3), (4, .int a4), (5, .int a5), (6, .int x3)]) [2, 3, 4, 5, 6, 7, 1] rfl ?_
      exact (i_X4_carry_B78 X g hF hM hI k8 hk8) o1 a2 a3 a4 a5 x3 ho1 s0
    · refine im_iload hF dX4_carry_44 0 rfl ?_
      refine im_iconst hF dX4_carry_46 (v := (-1 : Int32)) (by decide) ?_
      refine im_icmp_eq hF 78 dX4_carry_47 (by decide) (fun _ => ?_) (fun _ => ?_)
      · refine im_sub (lv' := [(0, .ref (g.2.1 4 0)), (1, .ref (g.2.1 8 o1)), (2, .int a2), (3, .int a3), (4, .int a4), (5, .int a5), (6, .int x3)]) [2, 3, 4, 5, 6, 7, 1] rfl ?_
        exact (i_X4_carry_B78 X g hF hM hI k8 hk8) o1 a2 a3 a4 a5 x3 ho1 s0
      · refine im_iload hF dX4_carry_50 0 rfl ?_
        refine im_iconst hF dX4_carry_52 (v := (1 : Int32)) (by decide) ?_
        refine im_iadd hF dX4_carry_53 ?_
        refine im_aload_n hF dX4_carry_54 2 rfl ?_
        refine im_get hF (v := .ref (g.2.1 27 0)) fl_4_18 (by decide) (by decide) rfl dX4_carry_55 ?_
        refine im_iload hF dX4_carry_58 1 rfl ?_
        refine im_iald hF ar_27 (by decide) dX4_carry_60 (fun h6 => ?_)
        refine im_icmp_ge hF 78 dX4_carry_61 (by decide) (fun _ => ?_) (fun _ => ?_)
        · refine im_sub (lv' := [(0, .ref (g.2.1 4 0)), (1, .ref (g.2.1 8 o1)), (2, .int a2), (3, .int a3), (4, .int a4), (5, .int a5), (6, .int x3)]) [2, 3, 4, 5, 6, 7, 1] rfl ?_
          exact (i_X4_carry_B78 X g hF hM hI k8 hk8) o1 a2 a3 a4 a5 x3 ho1 s0
        · refine im_aload_n hF dX4_carry_64 2 rfl ?_
          refine im_get hF (v := .ref (g.2.1 27 0)) fl_4_18 (by decide) (by decide) rfl dX4_carry_65 ?_
          refine im_iload hF dX4_carry_68 1 rfl ?_
          refine im_iload hF dX4_carry_70 0 rfl ?_
          refine im_iconst hF dX4_carry_72 (v := (1 : Int32)) (by decide) ?_
          refine im_iadd hF dX4_carry_73 ?_
          refine im_iast hF ar_27 (by decide) dX4_carry_74 (fun h7 => im_bdS (fun s8 => ?_))
          refine im_iconst hF dX4_carry_75 (v := (1 : Int32)) (by decide) ?_
          refine im_istore hF dX4_carry_76 (lv' := [(4, .int (1 : Int32)), (7, .int x5), (6, .int x3), (0, .ref (g.2.1 4 0)), (1, .ref (g.2.1 8 o1)), (2, .int a2), (3, .int a3), (5, .int a5)]) (by decide) rfl ?_
          refine im_sub (lv' := [(0, .ref (g.2.1 4 0)), (1, .ref (g.2.1 8 o1)), (2, .int a2), (3, .int a3), (4, .int (1 : Int32)), (5, .int a5), (6, .int x3)]) [3, 4, 5, 6, 0, 7, 2] rfl ?_
          exact (i_X4_carry_B78 X g hF hM hI k8 hk8) o1 a2 a3 (1 : Int32) a5 x3 ho1 s8
def f_X4_carry_L8 : Nat → Nat → Int32 → Int32 → Int32 → Int32 → Sg → Option (Int32 × Sg)
  | 0 => fun _ _ _ _ _ _ => none
  | n + 1 => fun o1 a2 a3 a4 a5 s0 => f_X4_carry_B8 (f_X4_carry_L8 n) o1 a2 a3 a4 a5 s0
theorem i_X4_carry_L8 (X : Cx) (g : GT) (hF : Fx X g RX4 cX4_carry 8 0 0) (hM : FM X g (some .boolean)) (hI : GI g) : ∀ (n : Nat) (o1 : Nat) (a2 : Int32) (a3 : Int32) (a4 : Int32) (a5 : Int32) (ho1 : o1 < cnt 8) (s0 : Sg), Im X g 8 (Qm X g embI) s0 8 [(0, .ref (g.2.1 4 0)), (1, .ref (g.2.1 8 o1)), (2, .int a2), (3, .int a3), (4, .int a4), (5, .int a5)] [] (f_X4_carry_L8 n o1 a2 a3 a4 a5 s0) := by
  intro n
  induction n with
  | zero => intros; exact im_none
  | succ n ih => intro o1 a2 a3 a4 a5 ho1 s0; exact i_X4_carry_B8 X g hF hM hI (f_X4_carry_L8 n) ih o1 a2 a3 a4 a5 ho1 s0
def f_X4_carry (o1 : Nat) (a2 : Int32) (s0 : Sg) : Option (Int32 × Sg) :=
  (f_X4_carry_L8 FU) o1 a2 (0 : Int32) (0 : Int32) (0 : Int32) s0
set_option maxRecDepth 4000 in
theorem i_X4_carry (X : Cx) (g : GT) (hF : Fx X g RX4 cX4_carry 8 0 0) (hM : FM X g (some .boolean)) (hI : GI g) (o1 : Nat) (a2 : Int32) (ho1 : o1 < cnt 8) (s0 : Sg) : Im X g 8 (Qm X g embI) s0 0 [(0, .ref (g.2.1 4 0)), (1, .ref (g.2.1 8 o1)), (2, .int a2)] [] (f_X4_carry o1 a2 s0) := by
  unfold f_X4_carry
  refine im_iconst hF dX4_carry_0 (v := (0 : Int32)) (by decide) ?_
  refine im_istore_n hF dX4_carry_1 (lv' := [(3, .int (0 : Int32)), (0, .ref (g.2.1 4 0)), (1, .ref (g.2.1 8 o1)), (2, .int a2)]) rfl (by decide) rfl ?_
  refine im_iconst hF dX4_carry_2 (v := (0 : Int32)) (by decide) ?_
  refine im_istore hF dX4_carry_3 (lv' := [(4, .int (0 : Int32)), (3, .int (0 : Int32)), (0, .ref (g.2.1 4 0)), (1, .ref (g.2.1 8 o1)), (2, .int a2)]) (by decide) rfl ?_
  refine im_iconst hF dX4_carry_5 (v := (0 : Int32)) (by decide) ?_
  refine im_istore hF dX4_carry_6 (lv' := [(5, .int (0 : Int32)), (4, .int (0 : Int32)), (3, .int (0 : Int32)), (0, .ref (g.2.1 4 0)), (1, .ref (g.2.1 8 o1)), (2, .int a2)]) (by decide) rfl ?_
  refine im_sub (lv' := [(0, .ref (g.2.1 4 0)), (1, .ref (g.2.1 8 o1)), (2, .int a2), (3, .int (0 : Int32)), (4, .int (0 : Int32)), (5, .int (0 : Int32))]) [3, 4, 5, 2, 1, 0] rfl ?_
  exact (i_X4_carry_L8 X g hF hM hI FU) o1 a2 (0 : Int32) (0 : Int32) (0 : Int32) ho1 s0
theorem c_X4_carry (l : Launch) (g : GT) (hI : GI g) (o1 : Nat) (a2 : Int32) (ho1 : o1 < cnt 8) (s0 : Sg) (r : (Int32 × Sg)) (hr : f_X4_carry o1 a2 s0 = some r) : Ct l yX4_carry cX4_carry 8 (some .boolean) 0 0 g [.ref (g.2.1 4 0), .ref (g.2.1 8 o1), .int a2] s0 (embI r) := ct_of (by decide) hI (Nat.le_of_ble_eq_true rfl) (fun X hF hM => i_X4_carry X g hF hM hI o1 a2 ho1 s0) r hr
def f_X4_firstComing_B41 (k41 : Int32 → Int32 → Int32 → Int32 → Sg → Option (Int32 × Sg)) (k23 : Int32 → Int32 → Int32 → Sg → Option (Int32 × Sg)) (a3 : Int32) (a5 : Int32) (a6 : Int32) (a7 : Int32) (s0 : Sg) : Option (Int32 × Sg) :=
  if (s0 0 0 2) ≤ a7 then
  k23 a3 a5 (a6 + (1 : Int32)) s0
  else
  chk (gi a7 10) (
  Option.bind (f_X4_carry a7.toNatClampNeg a7 s0) fun q2 =>
  if q2.1 = 0 then
  k41 a3 a5 a6 (a7 + (1 : Int32)) q2.2
  else
  k41 a3 (1 : Int32) a6 (a7 + (1 : Int32)) q2.2)
set_option maxRecDepth 4000 in
theorem i_X4_firstComing_B41 (X : Cx) (g : GT) (hF : Fx X g RX4 cX4_firstComing 8 1 27) (hM : FM X g (some .int)) (hI : GI g) (k41 : Int32 → Int32 → Int32 → Int32 → Sg → Option (Int32 × Sg)) (hk41 : ∀ (a3 : Int32) (a5 : Int32) (a6 : Int32) (a7 : Int32) (s0 : Sg), Im X g 8 (Qm X g embI) s0 41 [(0, .ref (g.2.1 4 0)), (1, .ref (g.2.1 0 0)), (3, .int a3), (5, .int a5), (6, .int a6), (7, .int a7)] [] (k41 a3 a5 a6 a7 s0)) (k23 : Int32 → Int32 → Int32 → Sg → Option (Int32 × Sg)) (hk23 : ∀ (a3 : Int32) (a5 : Int32) (a6 : Int32) (s0 : Sg), Im X g 8 (Qm X g embI) s0 23 [(0, .ref (g.2.1 4 0)), (1, .ref (g.2.1 0 0)), (3, .int a3), (5, .int a5), (6, .int a6)] [] (k23 a3 a5 a6 s0)) (a3 : Int32) (a5 : Int32) (a6 : Int32) (a7 : Int32) (s0 : Sg) : Im X g 8 (Qm X g embI) s0 41 [(0, .ref (g.2.1 4 0)), (1, .ref (g.2.1 0 0)), (3, .int a3), (5, .int a5), (6, .int a6), (7, .int a7)] [] (f_X4_firstComing_B41 k41 k23 a3 a5 a6 a7 s0) := by
  unfold f_X4_firstComing_B41
  refine im_iload hF dX4_firstComing_41 5 rfl ?_
  refine im_aload_n hF dX4_firstComing_43 1 rfl ?_
  refine im_get hF (v := .int (s0 0 0 2)) fl_4_34 (by decide) (by decide) rfl dX4_firstComing_44 ?_
  refine im_icmp_ge hF 75 dX4_firstComing_47 (by decide) (fun _ => ?_) (fun _ => ?_)
  · refine im_iinc hF dX4_firstComing_75 (v := (a6 + (1 : Int32))) (lv' := [(6, .int (a6 + (1 : Int32))), (0, .ref (g.2.1 4 0)), (1, .ref (g.2.1 0 0)), (3, .int a3), (5, .int a5), (7, .int a7)]) 4 rfl rfl (by decide) rfl ?_
    refine im_goto hF 23 dX4_firstComing_78 (by decide) ?_
    refine im_sub (lv' := [(0, .ref (g.2.1 4 0)), (1, .ref (g.2.1 0 0)), (3, .int a3), (5, .int a5), (6, .int (a6 + (1 : Int32)))]) [1, 2, 3, 4, 0] rfl ?_
    exact hk23 a3 a5 (a6 + (1 : Int32)) s0
  · refine im_aload_n hF dX4_firstComing_50 0 rfl ?_
    refine im_aload_n hF dX4_firstComing_51 1 rfl ?_
    refine im_get hF (v := .ref (g.2.1 11 0)) fl_4_45 (by decide) (by decide) rfl dX4_firstComing_52 ?_
    refine im_iload hF dX4_firstComing_55 5 rfl ?_
    refine im_aald11 hF dX4_firstComing_57 (fun h1 => ?_)
    refine im_iload hF dX4_firstComing_58 5 rfl ?_
    refine im_callVI hF (As := [.ref (g.2.1 8 a7.toNatClampNeg), .int a7]) (rest := []) my_X4_carry mv_X4_carry wl_693 (fun l r hr => c_X4_carry l g hI a7.toNatClampNeg a7 (gi_lt h1) s0 r hr) ⟨by decide, by decide⟩ (by decide) (by decide) ⟨_, rfl, rfl⟩ rfl rfl (Nat.le_of_ble_eq_true rfl) dX4_firstComing_60 (fun q2 => ?_)
    refine im_if_eq hF 69 dX4_firstComing_63 (by decide) (fun _ => ?_) (fun _ => ?_)
    · refine im_iinc hF dX4_firstComing_69 (v := (a7 + (1 : Int32))) (lv' := [(7, .int (a7 + (1 : Int32))), (0, .ref (g.2.1 4 0)), (1, .ref (g.2.1 0 0)), (3, .int a3), (5, .int a5), (6, .int a6)]) 5 rfl rfl (by decide) rfl ?_
      refine im_goto hF 41 dX4_firstComing_72 (by decide) ?_
      refine im_sub (lv' := [(0, .ref (g.2.1 4 0)), (1, .ref (g.2.1 0 0)), (3, .int a3), (5, .int a5), (6, .int a6), (7, .int (a7 + (1 : Int32)))]) [1, 2, 3, 4, 5, 0] rfl ?_
      exact hk41 a3 a5 a6 (a7 + (1 : Int32)) q2.2
    · refine im_iconst hF dX4_firstComing_66 (v := (1 : Int32)) (by decide) ?_
      refine im_istore hF dX4_firstComing_67 (lv' := [(5, .int (1 : Int32)), (0, .ref (g.2.1 4 0)), (1, .ref (g.2.1 0 0)), (3, .int a3), (6, .int a6), (7, .int a7)]) (by decide) rfl ?_
      refine im_iinc hF dX4_firstComing_69 (v := (a7 + (1 : Int32))) (lv' := [(7, .int (a7 + (1 : Int32))), (5, .int (1 : Int32)), (0, .ref (g.2.1 4 0)), (1, .ref (g.2.1 0 0)), (3, .int a3), (6, .int a6)]) 5 rfl rfl (by decide) rfl ?_
      refine im_goto hF 41 dX4_firstComing_72 (by decide) ?_
      refine im_sub (lv' := [(0, .ref (g.2.1 4 0)), (1, .ref (g.2.1 0 0)), (3, .int a3), (5, .int (1 : Int32)), (6, .int a6), (7, .int (a7 + (1 : Int32)))]) [2, 3, 4, 1, 5, 0] rfl ?_
      exact hk41 a3 (1 : Int32) a6 (a7 + (1 : Int32)) q2.2
def f_X4_firstComing_L41 (k23 : Int32 → Int32 → Int32 → Sg → Option (Int32 × Sg)) : Nat → Int32 → Int32 → Int32 → Int32 → Sg → Option (Int32 × Sg)
  | 0 => fun _ _ _ _ _ => none
  | n + 1 => fun a3 a5 a6 a7 s0 => f_X4_firstComing_B41 (f_X4_firstComing_L41 k23 n) k23 a3 a5 a6 a7 s0
theorem i_X4_firstComing_L41 (X : Cx) (g : GT) (hF : Fx X g RX4 cX4_firstComing 8 1 27) (hM : FM X g (some .int)) (hI : GI g) (k23 : Int32 → Int32 → Int32 → Sg → Option (Int32 × Sg)) (hk23 : ∀ (a3 : Int32) (a5 : Int32) (a6 : Int32) (s0 : Sg), Im X g 8 (Qm X g embI) s0 23 [(0, .ref (g.2.1 4 0)), (1, .ref (g.2.1 0 0)), (3, .int a3), (5, .int a5), (6, .int a6)] [] (k23 a3 a5 a6 s0)) : ∀ (n : Nat) (a3 : Int32) (a5 : Int32) (a6 : Int32) (a7 : Int32) (s0 : Sg), Im X g 8 (Qm X g embI) s0 41 [(0, .ref (g.2.1 4 0)), (1, .ref (g.2.1 0 0)), (3, .int a3), (5, .int a5), (6, .int a6), (7, .int a7)] [] (f_X4_firstComing_L41 k23 n a3 a5 a6 a7 s0) := by
  intro n
  induction n with
  | zero => intros; exact im_none
  | succ n ih => intro a3 a5 a6 a7 s0; exact i_X4_firstComing_B41 X g hF hM hI (f_X4_firstComing_L41 k23 n) ih k23 hk23 a3 a5 a6 a7 s0
def f_X4_firstComing_B23 (k23 : Int32 → Int32 → Int32 → Sg → Option (Int32 × Sg)) (k81 : Int32 → Sg → Option (Int32 × Sg)) (a3 : Int32) (a5 : Int32) (a6 : Int32) (s0 : Sg) : Option (Int32 × Sg) :=
  if (10 : Int32) ≤ a6 then
  k81 a3 s0
  else
  if a5 = 0 then
  k81 a3 s0
  else
  (f_X4_firstComing_L41 k23 FU) a3 (0 : Int32) a6 (0 : Int32) s0
set_option maxRecDepth 4000 in
theorem i_X4_firstComing_B23 (X : Cx) (g : GT) (hF : Fx X g RX4 cX4_firstComing 8 1 27) (hM : FM X g (some .int)) (hI : GI g) (k23 : Int32 → Int32 → Int32 → Sg → Option (Int32 × Sg)) (hk23 : ∀ (a3 : Int32) (a5 : Int32) (a6 : Int32) (s0 : Sg), Im X g 8 (Qm X g embI) s0 23 [(0, .ref (g.2.1 4 0)), (1, .ref (g.2.1 0 0)), (3, .int a3), (5, .int a5), (6, .int a6)] [] (k23 a3 a5 a6 s0)) (k81 : Int32 → Sg → Option (Int32 × Sg)) (hk81 : ∀ (a3 : Int32) (s0 : Sg), Im X g 8 (Qm X g embI) s0 81 [(0, .ref (g.2.1 4 0)), (3, .int a3)] [] (k81 a3 s0)) (a3 : Int32) (a5 : Int32) (a6 : Int32) (s0 : Sg) : Im X g 8 (Qm X g embI) s0 23 [(0, .ref (g.2.1 4 0)), (1, .ref (g.2.1 0 0)), (3, .int a3), (5, .int a5), (6, .int a6)] [] (f_X4_firstComing_B23 k23 k81 a3 a5 a6 s0) := by
  unfold f_X4_firstComing_B23
  refine im_iload hF dX4_firstComing_23 4 rfl ?_
  refine im_bipush hF dX4_firstComing_25 (v := (10 : Int32)) (by decide) ?_
  refine im_icmp_ge hF 81 dX4_firstComing_27 (by decide) (fun _ => ?_) (fun _ => ?_)
  · refine im_sub (lv' := [(0, .ref (g.2.1 4 0)), (3, .int a3)]) [0, 2] rfl ?_
    exact hk81 a3 s0
  · refine im_iload hF dX4_firstComing_30 3 rfl ?_
    refine im_if_eq hF 81 dX4_firstComing_32 (by decide) (fun _ => ?_) (fun _ => ?_)
    · refine im_sub (lv' := [(0, .ref (g.2.1 4 0)), (3, .int a3)]) [0, 2] rfl ?_
      exact hk81 a3 s0
    · refine im_iconst hF dX4_firstComing_35 (v := (0 : Int32)) (by decide) ?_
      refine im_istore hF dX4_firstComing_36 (lv' := [(5, .int (0 : Int32)), (0, .ref (g.2.1 4 0)), (1, .ref (g.2.1 0 0)), (3, .int a3), (6, .int a6)]) (by decide) rfl ?_
      refine im_iconst hF dX4_firstComing_38 (v := (0 : Int32)) (by decide) ?_
      refine im_istore hF dX4_firstComing_39 (lv' := [(7, .int (0 : Int32)), (5, .int (0 : Int32)), (0, .ref (g.2.1 4 0)), (1, .ref (g.2.1 0 0)), (3, .int a3), (6, .int a6)]) (by decide) rfl ?_
      refine im_sub (lv' := [(0, .ref (g.2.1 4 0)), (1, .ref (g.2.1 0 0)), (3, .int a3), (5, .int (0 : Int32)), (6, .int a6), (7, .int (0 : Int32))]) [2, 3, 4, 1, 5, 0] rfl ?_
      exact (i_X4_firstComing_L41 X g hF hM hI k23 hk23 FU) a3 (0 : Int32) a6 (0 : Int32) s0
def f_X4_firstComing_L23 (k81 : Int32 → Sg → Option (Int32 × Sg)) : Nat → Int32 → Int32 → Int32 → Sg → Option (Int32 × Sg)
  | 0 => fun _ _ _ _ => none
  | n + 1 => fun a3 a5 a6 s0 => f_X4_firstComing_B23 (f_X4_firstComing_L23 k81 n) k81 a3 a5 a6 s0
theorem i_X4_firstComing_L23 (X : Cx) (g : GT) (hF : Fx X g RX4 cX4_firstComing 8 1 27) (hM : FM X g (some .int)) (hI : GI g) (k81 : Int32 → Sg → Option (Int32 × Sg)) (hk81 : ∀ (a3 : Int32) (s0 : Sg), Im X g 8 (Qm X g embI) s0 81 [(0, .ref (g.2.1 4 0)), (3, .int a3)] [] (k81 a3 s0)) : ∀ (n : Nat) (a3 : Int32) (a5 : Int32) (a6 : Int32) (s0 : Sg), Im X g 8 (Qm X g embI) s0 23 [(0, .ref (g.2.1 4 0)), (1, .ref (g.2.1 0 0)), (3, .int a3), (5, .int a5), (6, .int a6)] [] (f_X4_firstComing_L23 k81 n a3 a5 a6 s0) := by
  intro n
  induction n with
  | zero => intros; exact im_none
  | succ n ih => intro a3 a5 a6 s0; exact i_X4_firstComing_B23 X g hF hM hI (f_X4_firstComing_L23 k81 n) ih k81 hk81 a3 a5 a6 s0
def f_X4_firstComing_B81 (a3 : Int32) (s0 : Sg) : Option (Int32 × Sg) :=
  chk (gi a3 8) (
  if (s0 27 0 a3.toNatClampNeg) = (1000000 : Int32) then
  some ((-1 : Int32), s0)
  else
  chk (gi a3 8) (
  some (((s0 27 0 a3.toNatClampNeg) - (1 : Int32)), s0)))
set_option maxRecDepth 4000 in
theorem i_X4_firstComing_B81 (X : Cx) (g : GT) (hF : Fx X g RX4 cX4_firstComing 8 1 27) (hM : FM X g (some .int)) (hI : GI g) (a3 : Int32) (s0 : Sg) : Im X g 8 (Qm X g embI) s0 81 [(0, .ref (g.2.1 4 0)), (3, .int a3)] [] (f_X4_firstComing_B81 a3 s0) := by
  unfold f_X4_firstComing_B81
  refine im_aload_n hF dX4_firstComing_81 0 rfl ?_
  refine im_get hF (v := .ref (g.2.1 27 0)) fl_4_18 (by decide) (by decide) rfl dX4_firstComing_82 ?_
  refine im_iload_n hF dX4_firstComing_85 1 rfl ?_
  refine im_iald hF ar_27 (by decide) dX4_firstComing_86 (fun h1 => ?_)
  refine im_ldc hF (v := (1000000 : Int32)) wl_691 dX4_firstComing_87 ?_
  refine im_icmp_ne hF 96 dX4_firstComing_89 (by decide) (fun _ => ?_) (fun _ => ?_)
  · refine im_iconst hF dX4_firstComing_92 (v := (-1 : Int32)) (by decide) ?_
    refine im_goto hF 104 dX4_firstComing_93 (by decide) ?_
    exact im_iret hF hM dX4_firstComing_104
  · refine im_aload_n hF dX4_firstComing_96 0 rfl ?_
    refine im_get hF (v := .ref (g.2.1 27 0)) fl_4_18 (by decide) (by decide) rfl dX4_firstComing_97 ?_
    refine im_iload_n hF dX4_firstComing_100 1 rfl ?_
    refine im_iald hF ar_27 (by decide) dX4_firstComing_101 (fun h2 => ?_)
    refine im_iconst hF dX4_firstComing_102 (v := (1 : Int32)) (by decide) ?_
    refine im_isub hF dX4_firstComing_103 ?_
    exact im_iret hF hM dX4_firstComing_104
def f_X4_firstComing (a2 : Int32) (a3 : Int32) (a4 : Int32) (s0 : Sg) : Option (Int32 × Sg) :=
  Option.bind (f_J7_fill_27 (1000000 : Int32) s0) fun q1 =>
  chk (gi a2 8) (bdS (up3 q1 27 0 a2.toNatClampNeg a4) fun s3 =>
  (f_X4_firstComing_L23 (f_X4_firstComing_B81) FU) a3 (1 : Int32) (0 : Int32) s3)
set_option maxRecDepth 4000 in
theorem i_X4_firstComing (X : Cx) (g : GT) (hF : Fx X g RX4 cX4_firstComing 8 1 27) (hM : FM X g (some .int)) (hI : GI g) (a2 : Int32) (a3 : Int32) (a4 : Int32) (s0 : Sg) : Im X g 8 (Qm X g embI) s0 0 [(0, .ref (g.2.1 4 0)), (1, .ref (g.2.1 0 0)), (2, .int a2), (3, .int a3), (4, .int a4)] [] (f_X4_firstComing a2 a3 a4 s0) := by
  unfold f_X4_firstComing
  refine im_aload_n hF dX4_firstComing_0 0 rfl ?_
  refine im_get hF (v := .ref (g.2.1 27 0)) fl_4_18 (by decide) (by decide) rfl dX4_firstComing_1 ?_
  refine im_ldc hF (v := (1000000 : Int32)) wl_691 dX4_firstComing_4 ?_
  refine im_callSV hF (As := [.ref (g.2.1 27 0), .int (1000000 : Int32)]) (rest := []) my_J7_fill_53178 ms_J7_fill_53178 wl_692 (fun l r hr => c_J7_fill_27 l g hI (1000000 : Int32) s0 r hr) ⟨by decide, by decide⟩ rfl rfl (Nat.le_of_ble_eq_true rfl) dX4_firstComing_6 (fun q1 => ?_)
  refine im_aload_n hF dX4_firstComing_9 0 rfl ?_
  refine im_get hF (v := .ref (g.2.1 27 0)) fl_4_18 (by decide) (by decide) rfl dX4_firstComing_10 ?_
  refine im_iload_n hF dX4_firstComing_13 2 rfl ?_
  refine im_iload hF dX4_firstComing_14 4 rfl ?_
  refine im_iast hF ar_27 (by decide) dX4_firstComing_16 (fun h2 => im_bdS (fun s3 => ?_))
  refine im_iconst hF dX4_firstComing_17 (v := (1 : Int32)) (by decide) ?_
  refine im_istore hF dX4_firstComing_18 (lv' := [(5, .int (1 : Int32)), (0, .ref (g.2.1 4 0)), (1, .ref (g.2.1 0 0)), (2, .int a2), (3, .int a3), (4, .int a4)]) (by decide) rfl ?_
  refine im_iconst hF dX4_firstComing_20 (v := (0 : Int32)) (by decide) ?_
  refine im_istore hF dX4_firstComing_21 (lv' := [(6, .int (0 : Int32)), (5, .int (1 : Int32)), (0, .ref (g.2.1 4 0)), (1, .ref (g.2.1 0 0)), (2, .int a2), (3, .int a3), (4, .int a4)]) (by decide) rfl ?_
  refine im_sub (lv' := [(0, .ref (g.2.1 4 0)), (1, .ref (g.2.1 0 0)), (3, .int a3), (5, .int (1 : Int32)), (6, .int (0 : Int32))]) [2, 3, 5, 1, 0] rfl ?_
  exact (i_X4_firstComing_L23 X g hF hM hI (f_X4_firstComing_B81) (i_X4_firstComing_B81 X g hF hM hI) FU) a3 (1 : Int32) (0 : Int32) s3
theorem c_X4_firstComing (l : Launch) (g : GT) (hI : GI g) (a2 : Int32) (a3 : Int32) (a4 : Int32) (s0 : Sg) (r : (Int32 × Sg)) (hr : f_X4_firstComing a2 a3 a4 s0 = some r) : Ct l yX4_firstComing cX4_firstComing 8 (some .int) 1 27 g [.ref (g.2.1 4 0), .ref (g.2.1 0 0), .int a2, .int a3, .int a4] s0 (embI r) := ct_of (by decide) hI (Nat.le_of_ble_eq_true rfl) (fun X hF hM => i_X4_firstComing X g hF hM hI a2 a3 a4 s0) r hr
def f_J7_fill_28_B5 (k5 : Int32 → Int32 → Int32 → Sg → Option Sg) (a1 : Int32) (a2 : Int32) (a3 : Int32) (s0 : Sg) : Option Sg :=
  if a3 ≤ a2 then
  some s0
  else
  chk (gi a2 88) (bdS (up3 s0 28 0 a2.toNatClampNeg a1) fun s2 =>
  k5 a1 (a2 + (1 : Int32)) a3 s2)
set_option maxRecDepth 4000 in
theorem i_J7_fill_28_B5 (X : Cx) (g : GT) (hF : Fx X g RJ7 cJ7_fill_53178 4 0 0) (hM : FM X g none) (hI : GI g) (k5 : Int32 → Int32 → Int32 → Sg → Option Sg) (hk5 : ∀ (a1 : Int32) (a2 : Int32) (a3 : Int32) (s0 : Sg), Im X g 4 (Qm X g embV) s0 5 [(0, .ref (g.2.1 28 0)), (1, .int a1), (2, .int a2), (3, .int a3)] [] (k5 a1 a2 a3 s0)) (a1 : Int32) (a2 : Int32) (a3 : Int32) (s0 : Sg) : Im X g 4 (Qm X g embV) s0 5 [(0, .ref (g.2.1 28 0)), (1, .int a1), (2, .int a2), (3, .int a3)] [] (f_J7_fill_28_B5 k5 a1 a2 a3 s0) := by
  unfold f_J7_fill_28_B5
  refine im_iload_n hF dJ7_fill_53178_5 2 rfl ?_
  refine im_iload_n hF dJ7_fill_53178_6 3 rfl ?_
  refine im_icmp_ge hF 20 dJ7_fill_53178_7 (by decide) (fun _ => ?_) (fun _ => ?_)
  · exact im_vret hF hM dJ7_fill_53178_20
  · refine im_aload_n hF dJ7_fill_53178_10 0 rfl ?_
    refine im_iload_n hF dJ7_fill_53178_11 2 rfl ?_
    refine im_iload_n hF dJ7_fill_53178_12 1 rfl ?_
    refine im_iast hF ar_28 (by decide) dJ7_fill_53178_13 (fun h1 => im_bdS (fun s2 => ?_))
    refine im_iinc hF dJ7_fill_53178_14 (v := (a2 + (1 : Int32))) (lv' := [(2, .int (a2 + (1 : Int32))), (0, .ref (g.2.1 28 0)), (1, .int a1), (3, .int a3)]) 2 rfl rfl (by decide) rfl ?_
    refine im_goto hF 5 dJ7_fill_53178_17 (by decide) ?_
    refine im_sub (lv' := [(0, .ref (g.2.1 28 0)), (1, .int a1), (2, .int (a2 + (1 : Int32))), (3, .int a3)]) [1, 2, 0, 3] rfl ?_
    exact hk5 a1 (a2 + (1 : Int32)) a3 s2
def f_J7_fill_28_L5 : Nat → Int32 → Int32 → Int32 → Sg → Option Sg
  | 0 => fun _ _ _ _ => none
  | n + 1 => fun a1 a2 a3 s0 => f_J7_fill_28_B5 (f_J7_fill_28_L5 n) a1 a2 a3 s0
theorem i_J7_fill_28_L5 (X : Cx) (g : GT) (hF : Fx X g RJ7 cJ7_fill_53178 4 0 0) (hM : FM X g none) (hI : GI g) : ∀ (n : Nat) (a1 : Int32) (a2 : Int32) (a3 : Int32) (s0 : Sg), Im X g 4 (Qm X g embV) s0 5 [(0, .ref (g.2.1 28 0)), (1, .int a1), (2, .int a2), (3, .int a3)] [] (f_J7_fill_28_L5 n a1 a2 a3 s0) := by
  intro n
  induction n with
  | zero => intros; exact im_none
  | succ n ih => intro a1 a2 a3 s0; exact i_J7_fill_28_B5 X g hF hM hI (f_J7_fill_28_L5 n) ih a1 a2 a3 s0
def f_J7_fill_28 (a1 : Int32) (s0 : Sg) : Option Sg :=
  (f_J7_fill_28_L5 FU) a1 (0 : Int32) (88 : Int32) s0
set_option maxRecDepth 4000 in
theorem i_J7_fill_28 (X : Cx) (g : GT) (hF : Fx X g RJ7 cJ7_fill_53178 4 0 0) (hM : FM X g none) (hI : GI g) (a1 : Int32) (s0 : Sg) : Im X g 4 (Qm X g embV) s0 0 [(0, .ref (g.2.1 28 0)), (1, .int a1)] [] (f_J7_fill_28 a1 s0) := by
  unfold f_J7_fill_28
  refine im_iconst hF dJ7_fill_53178_0 (v := (0 : Int32)) (by decide) ?_
  refine im_istore_n hF dJ7_fill_53178_1 (lv' := [(2, .int (0 : Int32)), (0, .ref (g.2.1 28 0)), (1, .int a1)]) rfl (by decide) rfl ?_
  refine im_aload_n hF dJ7_fill_53178_2 1 rfl ?_
  refine im_alen hF (v := (88 : Int32)) ar_28 (by decide) (by decide) (by decide) dJ7_fill_53178_3 ?_
  refine im_istore_n hF dJ7_fill_53178_4 (lv' := [(3, .int (88 : Int32)), (2, .int (0 : Int32)), (0, .ref (g.2.1 28 0)), (1, .int a1)]) rfl (by decide) rfl ?_
  refine im_sub (lv' := [(0, .ref (g.2.1 28 0)), (1, .int a1), (2, .int (0 : Int32)), (3, .int (88 : Int32))]) [2, 3, 1, 0] rfl ?_
  exact (i_J7_fill_28_L5 X g hF hM hI FU) a1 (0 : Int32) (88 : Int32) s0
theorem c_J7_fill_28 (l : Launch) (g : GT) (hI : GI g) (a1 : Int32) (s0 : Sg) (r : Sg) (hr : f_J7_fill_28 a1 s0 = some r) : Ct l yJ7_fill_53178 cJ7_fill_53178 4 none 0 0 g [.ref (g.2.1 28 0), .int a1] s0 (embV r) := ct_of (by decide) hI (Nat.le_of_ble_eq_true rfl) (fun X hF hM => i_J7_fill_28 X g hF hM hI a1 s0) r hr
def f_X4_latestFrom (a1 : Int32) (a2 : Int32) (s0 : Sg) : Option (Int32 × Sg) :=
  chk (gi ((a2 * (8 : Int32)) + a1) 88) (
  some ((s0 28 0 ((a2 * (8 : Int32)) + a1).toNatClampNeg), s0))
set_option maxRecDepth 4000 in
theorem i_X4_latestFrom (X : Cx) (g : GT) (hF : Fx X g RX4 cX4_latestFrom 3 0 0) (hM : FM X g (some .int)) (hI : GI g) (a1 : Int32) (a2 : Int32) (s0 : Sg) : Im X g 3 (Qm X g embI) s0 0 [(0, .ref (g.2.1 4 0)), (1, .int a1), (2, .int a2)] [] (f_X4_latestFrom a1 a2 s0) := by
  unfold f_X4_latestFrom
  refine im_aload_n hF dX4_latestFrom_0 0 rfl ?_
  refine im_get hF (v := .ref (g.2.1 28 0)) fl_4_21 (by decide) (by decide) rfl dX4_latestFrom_1 ?_
  refine im_iload_n hF dX4_latestFrom_4 2 rfl ?_
  refine im_bipush hF dX4_latestFrom_5 (v := (8 : Int32)) (by decide) ?_
  refine im_imul hF dX4_latestFrom_7 ?_
  refine im_iload_n hF dX4_latestFrom_8 1 rfl ?_
  refine im_iadd hF dX4_latestFrom_9 ?_
  refine im_iald hF ar_28 (by decide) dX4_latestFrom_10 (fun h1 => ?_)
  exact im_iret hF hM dX4_latestFrom_11
theorem c_X4_latestFrom (l : Launch) (g : GT) (hI : GI g) (a1 : Int32) (a2 : Int32) (s0 : Sg) (r : (Int32 × Sg)) (hr : f_X4_latestFrom a1 a2 s0 = some r) : Ct l yX4_latestFrom cX4_latestFrom 3 (some .int) 0 0 g [.ref (g.2.1 4 0), .int a1, .int a2] s0 (embI r) := ct_of (by decide) hI (Nat.le_of_ble_eq_true rfl) (fun X hF hM => i_X4_latestFrom X g hF hM hI a1 a2 s0) r hr
def f_X4_goesOnInTime_B19 (a1 : Int32) (a2 : Int32) (a3 : Int32) (s0 : Sg) : Option (Int32 × Sg) :=
  Option.bind (f_X4_latestFrom a2 a1 s0) fun q1 =>
  if q1.1 ≤ a3 then
  some ((0 : Int32), q1.2)
  else
  some ((1 : Int32), q1.2)
set_option maxRecDepth 4000 in
theorem i_X4_goesOnInTime_B19 (X : Cx) (g : GT) (hF : Fx X g RX4 cX4_goesOnInTime 6 1 22) (hM : FM X g (some .boolean)) (hI : GI g) (a1 : Int32) (a2 : Int32) (a3 : Int32) (s0 : Sg) : Im X g 6 (Qm X g embI) s0 19 [(0, .ref (g.2.1 4 0)), (1, .int a1), (2, .int a2), (3, .int a3)] [] (f_X4_goesOnInTime_B19 a1 a2 a3 s0) := by
  unfold f_X4_goesOnInTime_B19
  refine im_iload_n hF dX4_goesOnInTime_19 3 rfl ?_
  refine im_aload_n hF dX4_goesOnInTime_20 0 rfl ?_
  refine im_iload_n hF dX4_goesOnInTime_21 2 rfl ?_
  refine im_iload_n hF dX4_goesOnInTime_22 1 rfl ?_
  refine im_callVI hF (As := [.int a2, .int a1]) (rest := [.int a3]) my_X4_latestFrom mv_X4_latestFrom wl_712 (fun l r hr => c_X4_latestFrom l g hI a2 a1 s0 r hr) ⟨by decide, by decide⟩ (by decide) (by decide) ⟨_, rfl, rfl⟩ rfl rfl (Nat.le_of_ble_eq_true rfl) dX4_goesOnInTime_23 (fun q1 => ?_)
  refine im_icmp_ge hF 33 dX4_goesOnInTime_26 (by decide) (fun _ => ?_) (fun _ => ?_)
  · refine im_iconst hF dX4_goesOnInTime_33 (v := (0 : Int32)) (by decide) ?_
    exact im_zret hF hM (by decide) dX4_goesOnInTime_34
  · refine im_iconst hF dX4_goesOnInTime_29 (v := (1 : Int32)) (by decide) ?_
    refine im_goto hF 34 dX4_goesOnInTime_30 (by decide) ?_
    exact im_zret hF hM (by decide) dX4_goesOnInTime_34
def f_X4_goesOnInTime (a1 : Int32) (a2 : Int32) (a3 : Int32) (a4 : Int32) (a5 : Int32) (s0 : Sg) : Option (Int32 × Sg) :=
  if a3 = (-1 : Int32) then
  some ((0 : Int32), s0)
  else
  if a2 = a4 then
  if a3 ≤ a5 then
  some ((1 : Int32), s0)
  else
  (f_X4_goesOnInTime_B19) a1 a2 a3 s0
  else
  (f_X4_goesOnInTime_B19) a1 a2 a3 s0
set_option maxRecDepth 4000 in
theorem i_X4_goesOnInTime (X : Cx) (g : GT) (hF : Fx X g RX4 cX4_goesOnInTime 6 1 22) (hM : FM X g (some .boolean)) (hI : GI g) (a1 : Int32) (a2 : Int32) (a3 : Int32) (a4 : Int32) (a5 : Int32) (s0 : Sg) : Im X g 6 (Qm X g embI) s0 0 [(0, .ref (g.2.1 4 0)), (1, .int a1), (2, .int a2), (3, .int a3), (4, .int a4), (5, .int a5)] [] (f_X4_goesOnInTime a1 a2 a3 a4 a5 s0) := by
  unfold f_X4_goesOnInTime
  refine im_iload_n hF dX4_goesOnInTime_0 3 rfl ?_
  refine im_iconst hF dX4_goesOnInTime_1 (v := (-1 : Int32)) (by decide) ?_
  refine im_icmp_ne hF 7 dX4_goesOnInTime_2 (by decide) (fun _ => ?_) (fun _ => ?_)
  · refine im_iconst hF dX4_goesOnInTime_5 (v := (0 : Int32)) (by decide) ?_
    exact im_zret hF hM (by decide) dX4_goesOnInTime_6
  · refine im_iload_n hF dX4_goesOnInTime_7 2 rfl ?_
    refine im_iload hF dX4_goesOnInTime_8 4 rfl ?_
    refine im_icmp_ne hF 19 dX4_goesOnInTime_10 (by decide) (fun _ => ?_) (fun _ => ?_)
    · refine im_iload_n hF dX4_goesOnInTime_13 3 rfl ?_
      refine im_iload hF dX4_goesOnInTime_14 5 rfl ?_
      refine im_icmp_le hF 29 dX4_goesOnInTime_16 (by decide) (fun _ => ?_) (fun _ => ?_)
      · refine im_iconst hF dX4_goesOnInTime_29 (v := (1 : Int32)) (by decide) ?_
        refine im_goto hF 34 dX4_goesOnInTime_30 (by decide) ?_
        exact im_zret hF hM (by decide) dX4_goesOnInTime_34
      · refine im_sub (lv' := [(0, .ref (g.2.1 4 0)), (1, .int a1), (2, .int a2), (3, .int a3)]) [0, 1, 2, 3] rfl ?_
        exact (i_X4_goesOnInTime_B19 X g hF hM hI) a1 a2 a3 s0
    · refine im_sub (lv' := [(0, .ref (g.2.1 4 0)), (1, .int a1), (2, .int a2), (3, .int a3)]) [0, 1, 2, 3] rfl ?_
      exact (i_X4_goesOnInTime_B19 X g hF hM hI) a1 a2 a3 s0
theorem c_X4_goesOnInTime (l : Launch) (g : GT) (hI : GI g) (a1 : Int32) (a2 : Int32) (a3 : Int32) (a4 : Int32) (a5 : Int32) (s0 : Sg) (r : (Int32 × Sg)) (hr : f_X4_goesOnInTime a1 a2 a3 a4 a5 s0 = some r) : Ct l yX4_goesOnInTime cX4_goesOnInTime 6 (some .boolean) 1 22 g [.ref (g.2.1 4 0), .int a1, .int a2, .int a3, .int a4, .int a5] s0 (embI r) := ct_of (by decide) hI (Nat.le_of_ble_eq_true rfl) (fun X hF hM => i_X4_goesOnInTime X g hF hM hI a1 a2 a3 a4 a5 s0) r hr
def f_X4_goBack_B79 (k12 : Nat → Int32 → Int32 → Int32 → Int32 → Int32 → Int32 → Int32 → Sg → Option (Int32 × Sg)) (o1 : Nat) (a2 : Int32) (a3 : Int32) (a4 : Int32) (a5 : Int32) (a6 : Int32) (a7 : Int32) (a8 : Int32) (a9 : Int32) (s0 : Sg) : Option (Int32 × Sg) :=
  chk (gi a8 7) (
  chk (gi a9 70) (
  Option.bind (f_X4_goesOnInTime (a3 - (1 : Int32)) (s0 36 o1 a8.toNatClampNeg) (s0 25 0 a9.toNatClampNeg) a4 a5 s0) fun q3 =>
  if q3.1 = 0 then
  k12 o1 a2 a3 a4 a5 a6 a7 (a8 + (-1 : Int32)) q3.2
  else
  k12 o1 a2 a3 a4 a5 (1 : Int32) a7 (a8 + (-1 : Int32)) q3.2))
set_option maxRecDepth 4000 in
theorem i_X4_goBack_B79 (X : Cx) (g : GT) (hF : Fx X g RX4 cX4_goBack 11 2 47) (hM : FM X g (some .boolean)) (hI : GI g) (k12 : Nat → Int32 → Int32 → Int32 → Int32 → Int32 → Int32 → Int32 → Sg → Option (Int32 × Sg)) (hk12 : ∀ (o1 : Nat) (a2 : Int32) (a3 : Int32) (a4 : Int32) (a5 : Int32) (a6 : Int32) (a7 : Int32) (a8 : Int32) (ho1 : o1 < cnt 8) (s0 : Sg), Im X g 11 (Qm X g embI) s0 12 [(0, .ref (g.2.1 4 0)), (1, .ref (g.2.1 8 o1)), (2, .int a2), (3, .int a3), (4, .int a4), (5, .int a5), (6, .int a6), (7, .int a7), (8, .int a8)] [] (k12 o1 a2 a3 a4 a5 a6 a7 a8 s0)) (o1 : Nat) (a2 : Int32) (a3 : Int32) (a4 : Int32) (a5 : Int32) (a6 : Int32) (a7 : Int32) (a8 : Int32) (a9 : Int32) (ho1 : o1 < cnt 8) (s0 : Sg) : Im X g 11 (Qm X g embI) s0 79 [(0, .ref (g.2.1 4 0)), (1, .ref (g.2.1 8 o1)), (2, .int a2), (3, .int a3), (4, .int a4), (5, .int a5), (6, .int a6), (7, .int a7), (8, .int a8), (9, .int a9)] [] (f_X4_goBack_B79 k12 o1 a2 a3 a4 a5 a6 a7 a8 a9 s0) := by
  unfold f_X4_goBack_B79
  refine im_aload_n hF dX4_goBack_79 0 rfl ?_
  refine im_iload_n hF dX4_goBack_80 3 rfl ?_
  refine im_iconst hF dX4_goBack_81 (v := (1 : Int32)) (by decide) ?_
  refine im_isub hF dX4_goBack_82 ?_
  refine im_aload_n hF dX4_goBack_83 1 rfl ?_
  refine im_get hF (v := .ref (g.2.1 36 o1)) fl_4_90 (by decide) ho1 rfl dX4_goBack_84 ?_
  refine im_iload hF dX4_goBack_87 8 rfl ?_
  refine im_iald hF ar_36 ho1 dX4_goBack_89 (fun h1 => ?_)
  refine im_aload_n hF dX4_goBack_90 0 rfl ?_
  refine im_get hF (v := .ref (g.2.1 25 0)) fl_4_9 (by decide) (by decide) rfl dX4_goBack_91 ?_
  refine im_iload hF dX4_goBack_94 9 rfl ?_
  refine im_iald hF ar_25 (by decide) dX4_goBack_96 (fun h2 => ?_)
  refine im_iload hF dX4_goBack_97 4 rfl ?_
  refine im_iload hF dX4_goBack_99 5 rfl ?_
  refine im_callVI hF (As := [.int (a3 - (1 : Int32)), .int (s0 36 o1 a8.toNatClampNeg), .int (s0 25 0 a9.toNatClampNeg), .int a4, .int a5]) (rest := []) my_X4_goesOnInTime mv_X4_goesOnInTime wl_708 (fun l r hr => c_X4_goesOnInTime l g hI (a3 - (1 : Int32)) (s0 36 o1 a8.toNatClampNeg) (s0 25 0 a9.toNatClampNeg) a4 a5 s0 r hr) ⟨by decide, by decide⟩ (by decide) (by decide) ⟨_, rfl, rfl⟩ rfl rfl (Nat.le_of_ble_eq_true rfl) dX4_goBack_101 (fun q3 => ?_)
  refine im_if_eq hF 110 dX4_goBack_104 (by decide) (fun _ => ?_) (fun _ => ?_)
  · refine im_iinc hF dX4_goBack_110 (v := (a8 + (-1 : Int32))) (lv' := [(8, .int (a8 + (-1 : Int32))), (0, .ref (g.2.1 4 0)), (1, .ref (g.2.1 8 o1)), (2, .int a2), (3, .int a3), (4, .int a4), (5, .int a5), (6, .int a6), (7, .int a7), (9, .int a9)]) 8 rfl rfl (by decide) rfl ?_
    refine im_goto hF 12 dX4_goBack_113 (by decide) ?_
    refine im_sub (lv' := [(0, .ref (g.2.1 4 0)), (1, .ref (g.2.1 8 o1)), (2, .int a2), (3, .int a3), (4, .int a4), (5, .int a5), (6, .int a6), (7, .int a7), (8, .int (a8 + (-1 : Int32)))]) [1, 2, 3, 4, 5, 6, 7, 8, 0] rfl ?_
    exact hk12 o1 a2 a3 a4 a5 a6 a7 (a8 + (-1 : Int32)) ho1 q3.2
  · refine im_iconst hF dX4_goBack_107 (v := (1 : Int32)) (by decide) ?_
    refine im_istore hF dX4_goBack_108 (lv' := [(6, .int (1 : Int32)), (0, .ref (g.2.1 4 0)), (1, .ref (g.2.1 8 o1)), (2, .int a2), (3, .int a3), (4, .int a4), (5, .int a5), (7, .int a7), (8, .int a8), (9, .int a9)]) (by decide) rfl ?_
    refine im_iinc hF dX4_goBack_110 (v := (a8 + (-1 : Int32))) (lv' := [(8, .int (a8 + (-1 : Int32))), (6, .int (1 : Int32)), (0, .ref (g.2.1 4 0)), (1, .ref (g.2.1 8 o1)), (2, .int a2), (3, .int a3), (4, .int a4), (5, .int a5), (7, .int a7), (9, .int a9)]) 8 rfl rfl (by decide) rfl ?_
    refine im_goto hF 12 dX4_goBack_113 (by decide) ?_
    refine im_sub (lv' := [(0, .ref (g.2.1 4 0)), (1, .ref (g.2.1 8 o1)), (2, .int a2), (3, .int a3), (4, .int a4), (5, .int a5), (6, .int (1 : Int32)), (7, .int a7), (8, .int (a8 + (-1 : Int32)))]) [2, 3, 4, 5, 6, 7, 1, 8, 0] rfl ?_
    exact hk12 o1 a2 a3 a4 a5 (1 : Int32) a7 (a8 + (-1 : Int32)) ho1 q3.2
def f_X4_goBack_B12 (k12 : Nat → Int32 → Int32 → Int32 → Int32 → Int32 → Int32 → Int32 → Sg → Option (Int32 × Sg)) (o1 : Nat) (a2 : Int32) (a3 : Int32) (a4 : Int32) (a5 : Int32) (a6 : Int32) (a7 : Int32) (a8 : Int32) (s0 : Sg) : Option (Int32 × Sg) :=
  if a8 < 0 then
  chk (b01 a7) (some (a7, s0))
  else
  bdI ((a2 * (7 : Int32)) + a8) fun x2 =>
  chk (gi a8 7) (
  bdI ((a3 * (8 : Int32)) + (s0 36 o1 a8.toNatClampNeg)) fun x4 =>
  if a6 = 0 then
  (f_X4_goBack_B79 k12) o1 a2 a3 a4 a5 a6 a7 a8 x2 s0
  else
  chk (gi x2 70) (
  chk (gi x4 88) (
  if (s0 26 0 x2.toNatClampNeg) ≤ (s0 28 0 x4.toNatClampNeg) then
  (f_X4_goBack_B79 k12) o1 a2 a3 a4 a5 a6 a7 a8 x2 s0
  else
  chk (gi x2 70) (
  chk (gi x4 88) (bdS (up3 s0 28 0 x4.toNatClampNeg (s0 26 0 x2.toNatClampNeg)) fun s9 =>
  (f_X4_goBack_B79 k12) o1 a2 a3 a4 a5 a6 (1 : Int32) a8 x2 s9)))))
set_option maxRecDepth 4000 in
theorem i_X4_goBack_B12 (X : Cx) (g : GT) (hF : Fx X g RX4 cX4_goBack 11 2 47) (hM : FM X g (some .boolean)) (hI : GI g) (k12 : Nat → Int32 → Int32 → Int32 → Int32 → Int32 → Int32 → Int32 → Sg → Option (Int32 × Sg)) (hk12 : ∀ (o1 : Nat) (a2 : Int32) (a3 : Int32) (a4 : Int32) (a5 : Int32) (a6 : Int32) (a7 : Int32) (a8 : Int32) (ho1 : o1 < cnt 8) (s0 : Sg), Im X g 11 (Qm X g embI) s0 12 [(0, .ref (g.2.1 4 0)), (1, .ref (g.2.1 8 o1)), (2, .int a2), (3, .int a3), (4, .int a4), (5, .int a5), (6, .int a6), (7, .int a7), (8, .int a8)] [] (k12 o1 a2 a3 a4 a5 a6 a7 a8 s0)) (o1 : Nat) (a2 : Int32) (a3 : Int32) (a4 : Int32) (a5 : Int32) (a6 : Int32) (a7 : Int32) (a8 : Int32) (ho1 : o1 < cnt 8) (s0 : Sg) : Im X g 11 (Qm X g embI) s0 12 [(0, .ref (g.2.1 4 0)), (1, .ref (g.2.1 8 o1)), (2, .int a2), (3, .int a3), (4, .int a4), (5, .int a5), (6, .int a6), (7, .int a7), (8, .int a8)] [] (f_X4_goBack_B12 k12 o1 a2 a3 a4 a5 a6 a7 a8 s0) := by
  unfold f_X4_goBack_B12
  refine im_iload hF dX4_goBack_12 8 rfl ?_
  refine im_if_lt hF 116 dX4_goBack_14 (by decide) (fun _ => ?_) (fun _ => ?_)
  · refine im_iload hF dX4_goBack_116 7 rfl ?_
    exact im_chk (fun h1 => im_zret hF hM (b01_or h1) dX4_goBack_118)
  · refine im_iload_n hF dX4_goBack_17 2 rfl ?_
    refine im_bipush hF dX4_goBack_18 (v := (7 : Int32)) (by decide) ?_
    refine im_imul hF dX4_goBack_20 ?_
    refine im_iload hF dX4_goBack_21 8 rfl ?_
    refine im_iadd hF dX4_goBack_23 ?_
    refine im_bdI (fun x2 => ?_)
    refine im_istore hF dX4_goBack_24 (lv' := [(9, .int x2), (0, .ref (g.2.1 4 0)), (1, .ref (g.2.1 8 o1)), (2, .int a2), (3, .int a3), (4, .int a4), (5, .int a5), (6, .int a6), (7, .int a7), (8, .int a8)]) (by decide) rfl ?_
    refine im_iload_n hF dX4_goBack_26 4 rfl ?_
    refine im_bipush hF dX4_goBack_27 (v := (8 : Int32)) (by decide) ?_
    refine im_imul hF dX4_goBack_29 ?_
    refine im_aload_n hF dX4_goBack_30 2 rfl ?_
    refine im_get hF (v := .ref (g.2.1 36 o1)) fl_4_90 (by decide) ho1 rfl dX4_goBack_31 ?_
    refine im_iload hF dX4_goBack_34 9 rfl ?_
    refine im_iald hF ar_36 ho1 dX4_goBack_36 (fun h3 => ?_)
    refine im_iadd hF dX4_goBack_37 ?_
    refine im_bdI (fun x4 => ?_)
    refine im_istore hF dX4_goBack_38 (lv' := [(10, .int x4), (9, .int x2), (0, .ref (g.2.1 4 0)), (1, .ref (g.2.1 8 o1)), (2, .int a2), (3, .int a3), (4, .int a4), (5, .int a5), (6, .int a6), (7, .int a7), (8, .int a8)]) (by decide) rfl ?_
    refine im_iload hF dX4_goBack_40 8 rfl ?_
    refine im_if_eq hF 79 dX4_goBack_42 (by decide) (fun _ => ?_) (fun _ => ?_)
    · refine im_sub (lv' := [(0, .ref (g.2.1 4 0)), (1, .ref (g.2.1 8 o1)), (2, .int a2), (3, .int a3), (4, .int a4), (5, .int a5), (6, .int a6), (7, .int a7), (8, .int a8), (9, .int x2)]) [2, 3, 4, 5, 6, 7, 8, 9, 10, 1] rfl ?_
      exact (i_X4_goBack_B79 X g hF hM hI k12 hk12) o1 a2 a3 a4 a5 a6 a7 a8 x2 ho1 s0
    · refine im_aload_n hF dX4_goBack_45 2 rfl ?_
      refine im_get hF (v := .ref (g.2.1 26 0)) fl_4_15 (by decide) (by decide) rfl dX4_goBack_46 ?_
      refine im_iload hF dX4_goBack_49 1 rfl ?_
      refine im_iald hF ar_26 (by decide) dX4_goBack_51 (fun h5 => ?_)
      refine im_aload_n hF dX4_goBack_52 2 rfl ?_
      refine im_get hF (v := .ref (g.2.1 28 0)) fl_4_21 (by decide) (by decide) rfl dX4_goBack_53 ?_
      refine im_iload hF dX4_goBack_56 0 rfl ?_
      refine im_iald hF ar_28 (by decide) dX4_goBack_58 (fun h6 => ?_)
      refine im_icmp_le hF 79 dX4_goBack_59 (by decide) (fun _ => ?_) (fun _ => ?_)
      · refine im_sub (lv' := [(0, .ref (g.2.1 4 0)), (1, .ref (g.2.1 8 o1)), (2, .int a2), (3, .int a3), (4, .int a4), (5, .int a5), (6, .int a6), (7, .int a7), (8, .int a8), (9, .int x2)]) [2, 3, 4, 5, 6, 7, 8, 9, 10, 1] rfl ?_
        exact (i_X4_goBack_B79 X g hF hM hI k12 hk12) o1 a2 a3 a4 a5 a6 a7 a8 x2 ho1 s0
      · refine im_aload_n hF dX4_goBack_62 2 rfl ?_
        refine im_get hF (v := .ref (g.2.1 28 0)) fl_4_21 (by decide) (by decide) rfl dX4_goBack_63 ?_
        refine im_iload hF dX4_goBack_66 0 rfl ?_
        refine im_aload_n hF dX4_goBack_68 2 rfl ?_
        refine im_get hF (v := .ref (g.2.1 26 0)) fl_4_15 (by decide) (by decide) rfl dX4_goBack_69 ?_
        refine im_iload hF dX4_goBack_72 1 rfl ?_
        refine im_iald hF ar_26 (by decide) dX4_goBack_74 (fun h7 => ?_)
        refine im_iast hF ar_28 (by decide) dX4_goBack_75 (fun h8 => im_bdS (fun s9 => ?_))
        refine im_iconst hF dX4_goBack_76 (v := (1 : Int32)) (by decide) ?_
        refine im_istore hF dX4_goBack_77 (lv' := [(7, .int (1 : Int32)), (10, .int x4), (9, .int x2), (0, .ref (g.2.1 4 0)), (1, .ref (g.2.1 8 o1)), (2, .int a2), (3, .int a3), (4, .int a4), (5, .int a5), (6, .int a6), (8, .int a8)]) (by decide) rfl ?_
        refine im_sub (lv' := [(0, .ref (g.2.1 4 0)), (1, .ref (g.2.1 8 o1)), (2, .int a2), (3, .int a3), (4, .int a4), (5, .int a5), (6, .int a6), (7, .int (1 : Int32)), (8, .int a8), (9, .int x2)]) [3, 4, 5, 6, 7, 8, 9, 0, 10, 2] rfl ?_
        exact (i_X4_goBack_B79 X g hF hM hI k12 hk12) o1 a2 a3 a4 a5 a6 (1 : Int32) a8 x2 ho1 s9
def f_X4_goBack_L12 : Nat → Nat → Int32 → Int32 → Int32 → Int32 → Int32 → Int32 → Int32 → Sg → Option (Int32 × Sg)
  | 0 => fun _ _ _ _ _ _ _ _ _ => none
  | n + 1 => fun o1 a2 a3 a4 a5 a6 a7 a8 s0 => f_X4_goBack_B12 (f_X4_goBack_L12 n) o1 a2 a3 a4 a5 a6 a7 a8 s0
theorem i_X4_goBack_L12 (X : Cx) (g : GT) (hF : Fx X g RX4 cX4_goBack 11 2 47) (hM : FM X g (some .boolean)) (hI : GI g) : ∀ (n : Nat) (o1 : Nat) (a2 : Int32) (a3 : Int32) (a4 : Int32) (a5 : Int32) (a6 : Int32) (a7 : Int32) (a8 : Int32) (ho1 : o1 < cnt 8) (s0 : Sg), Im X g 11 (Qm X g embI) s0 12 [(0, .ref (g.2.1 4 0)), (1, .ref (g.2.1 8 o1)), (2, .int a2), (3, .int a3), (4, .int a4), (5, .int a5), (6, .int a6), (7, .int a7), (8, .int a8)] [] (f_X4_goBack_L12 n o1 a2 a3 a4 a5 a6 a7 a8 s0) := by
  intro n
  induction n with
  | zero => intros; exact im_none
  | succ n ih => intro o1 a2 a3 a4 a5 a6 a7 a8 ho1 s0; exact i_X4_goBack_B12 X g hF hM hI (f_X4_goBack_L12 n) ih o1 a2 a3 a4 a5 a6 a7 a8 ho1 s0
def f_X4_goBack (o1 : Nat) (a2 : Int32) (a3 : Int32) (a4 : Int32) (a5 : Int32) (s0 : Sg) : Option (Int32 × Sg) :=
  bdI (s0 8 o1 4) fun x1 =>
  (f_X4_goBack_L12 FU) o1 a2 a3 a4 a5 (0 : Int32) (0 : Int32) x1 s0
set_option maxRecDepth 4000 in
theorem i_X4_goBack (X : Cx) (g : GT) (hF : Fx X g RX4 cX4_goBack 11 2 47) (hM : FM X g (some .boolean)) (hI : GI g) (o1 : Nat) (a2 : Int32) (a3 : Int32) (a4 : Int32) (a5 : Int32) (ho1 : o1 < cnt 8) (s0 : Sg) : Im X g 11 (Qm X g embI) s0 0 [(0, .ref (g.2.1 4 0)), (1, .ref (g.2.1 8 o1)), (2, .int a2), (3, .int a3), (4, .int a4), (5, .int a5)] [] (f_X4_goBack o1 a2 a3 a4 a5 s0) := by
  unfold f_X4_goBack
  refine im_iconst hF dX4_goBack_0 (v := (0 : Int32)) (by decide) ?_
  refine im_istore hF dX4_goBack_1 (lv' := [(6, .int (0 : Int32)), (0, .ref (g.2.1 4 0)), (1, .ref (g.2.1 8 o1)), (2, .int a2), (3, .int a3), (4, .int a4), (5, .int a5)]) (by decide) rfl ?_
  refine im_iconst hF dX4_goBack_3 (v := (0 : Int32)) (by decide) ?_
  refine im_istore hF dX4_goBack_4 (lv' := [(7, .int (0 : Int32)), (6, .int (0 : Int32)), (0, .ref (g.2.1 4 0)), (1, .ref (g.2.1 8 o1)), (2, .int a2), (3, .int a3), (4, .int a4), (5, .int a5)]) (by decide) rfl ?_
  refine im_aload_n hF dX4_goBack_6 3 rfl ?_
  refine im_get hF (v := .int (s0 8 o1 4)) fl_4_69 (by decide) ho1 rfl dX4_goBack_7 ?_
  refine im_bdI (fun x1 => ?_)
  refine im_istore hF dX4_goBack_10 (lv' := [(8, .int x1), (7, .int (0 : Int32)), (6, .int (0 : Int32)), (0, .ref (g.2.1 4 0)), (1, .ref (g.2.1 8 o1)), (2, .int a2), (3, .int a3), (4, .int a4), (5, .int a5)]) (by decide) rfl ?_
  refine im_sub (lv' := [(0, .ref (g.2.1 4 0)), (1, .ref (g.2.1 8 o1)), (2, .int a2), (3, .int a3), (4, .int a4), (5, .int a5), (6, .int (0 : Int32)), (7, .int (0 : Int32)), (8, .int x1)]) [3, 4, 5, 6, 7, 8, 2, 1, 0] rfl ?_
  exact (i_X4_goBack_L12 X g hF hM hI FU) o1 a2 a3 a4 a5 (0 : Int32) (0 : Int32) x1 ho1 s0
theorem c_X4_goBack (l : Launch) (g : GT) (hI : GI g) (o1 : Nat) (a2 : Int32) (a3 : Int32) (a4 : Int32) (a5 : Int32) (ho1 : o1 < cnt 8) (s0 : Sg) (r : (Int32 × Sg)) (hr : f_X4_goBack o1 a2 a3 a4 a5 s0 = some r) : Ct l yX4_goBack cX4_goBack 11 (some .boolean) 2 47 g [.ref (g.2.1 4 0), .ref (g.2.1 8 o1), .int a2, .int a3, .int a4, .int a5] s0 (embI r) := ct_of (by decide) hI (Nat.le_of_ble_eq_true rfl) (fun X hF hM => i_X4_goBack X g hF hM hI o1 a2 a3 a4 a5 ho1 s0) r hr
def f_X4_reckonLatest_B62 (k62 : Int32 → Int32 → Int32 → Int32 → Int32 → Sg → Option Sg) (k19 : Int32 → Int32 → Int32 → Int32 → Sg → Option Sg) (a2 : Int32) (a3 : Int32) (a4 : Int32) (a5 : Int32) (a6 : Int32) (s0 : Sg) : Option Sg :=
  if (s0 0 0 2) ≤ a6 then
  bdS (up3 s0 4 0 4 a5) fun s1 =>
  k19 a2 a3 a4 (a5 + (1 : Int32)) s1
  else
  chk (gi a6 10) (
  Option.bind (f_X4_goBack a6.toNatClampNeg a6 a5 a2 a3 s0) fun q3 =>
  if q3.1 = 0 then
  k62 a2 a3 a4 a5 (a6 + (1 : Int32)) q3.2
  else
  k62 a2 a3 (1 : Int32) a5 (a6 + (1 : Int32)) q3.2)
set_option maxRecDepth 4000 in
theorem i_X4_reckonLatest_B62 (X : Cx) (g : GT) (hF : Fx X g RX4 cX4_reckonLatest 7 3 119) (hM : FM X g none) (hI : GI g) (k62 : Int32 → Int32 → Int32 → Int32 → Int32 → Sg → Option Sg) (hk62 : ∀ (a2 : Int32) (a3 : Int32) (a4 : Int32) (a5 : Int32) (a6 : Int32) (s0 : Sg), Im X g 7 (Qm X g embV) s0 62 [(0, .ref (g.2.1 4 0)), (1, .ref (g.2.1 0 0)), (2, .int a2), (3, .int a3), (4, .int a4), (5, .int a5), (6, .int a6)] [] (k62 a2 a3 a4 a5 a6 s0)) (k19 : Int32 → Int32 → Int32 → Int32 → Sg → Option Sg) (hk19 : ∀ (a2 : Int32) (a3 : Int32) (a4 : Int32) (a5 : Int32) (s0 : Sg), Im X g 7 (Qm X g embV) s0 19 [(0, .ref (g.2.1 4 0)), (1, .ref (g.2.1 0 0)), (2, .int a2), (3, .int a3), (4, .int a4), (5, .int a5)] [] (k19 a2 a3 a4 a5 s0)) (a2 : Int32) (a3 : Int32) (a4 : Int32) (a5 : Int32) (a6 : Int32) (s0 : Sg) : Im X g 7 (Qm X g embV) s0 62 [(0, .ref (g.2.1 4 0)), (1, .ref (g.2.1 0 0)), (2, .int a2), (3, .int a3), (4, .int a4), (5, .int a5), (6, .int a6)] [] (f_X4_reckonLatest_B62 k62 k19 a2 a3 a4 a5 a6 s0) := by
  unfold f_X4_reckonLatest_B62
  refine im_iload hF dX4_reckonLatest_62 6 rfl ?_
  refine im_aload_n hF dX4_reckonLatest_64 1 rfl ?_
  refine im_get hF (v := .int (s0 0 0 2)) fl_4_34 (by decide) (by decide) rfl dX4_reckonLatest_65 ?_
  refine im_icmp_ge hF 100 dX4_reckonLatest_68 (by decide) (fun _ => ?_) (fun _ => ?_)
  · refine im_aload_n hF dX4_reckonLatest_100 0 rfl ?_
    refine im_iload hF dX4_reckonLatest_101 5 rfl ?_
    refine im_put hF a5 fp_4_27 (by decide) (by decide) rfl rfl rfl dX4_reckonLatest_103 ?_
    refine im_bdS (fun s1 => ?_)
    refine im_iinc hF dX4_reckonLatest_106 (v := (a5 + (1 : Int32))) (lv' := [(5, .int (a5 + (1 : Int32))), (0, .ref (g.2.1 4 0)), (1, .ref (g.2.1 0 0)), (2, .int a2), (3, .int a3), (4, .int a4), (6, .int a6)]) 5 rfl rfl (by decide) rfl ?_
    refine im_goto hF 19 dX4_reckonLatest_109 (by decide) ?_
    refine im_sub (lv' := [(0, .ref (g.2.1 4 0)), (1, .ref (g.2.1 0 0)), (2, .int a2), (3, .int a3), (4, .int a4), (5, .int (a5 + (1 : Int32)))]) [1, 2, 3, 4, 5, 0] rfl ?_
    exact hk19 a2 a3 a4 (a5 + (1 : Int32)) s1
  · refine im_aload_n hF dX4_reckonLatest_71 0 rfl ?_
    refine im_aload_n hF dX4_reckonLatest_72 1 rfl ?_
    refine im_get hF (v := .ref (g.2.1 11 0)) fl_4_45 (by decide) (by decide) rfl dX4_reckonLatest_73 ?_
    refine im_iload hF dX4_reckonLatest_76 6 rfl ?_
    refine im_aald11 hF dX4_reckonLatest_78 (fun h2 => ?_)
    refine im_iload hF dX4_reckonLatest_79 6 rfl ?_
    refine im_iload hF dX4_reckonLatest_81 5 rfl ?_
    refine im_iload_n hF dX4_reckonLatest_83 2 rfl ?_
    refine im_iload_n hF dX4_reckonLatest_84 3 rfl ?_
    refine im_callVI hF (As := [.ref (g.2.1 8 a6.toNatClampNeg), .int a6, .int a5, .int a2, .int a3]) (rest := []) my_X4_goBack mv_X4_goBack wl_704 (fun l r hr => c_X4_goBack l g hI a6.toNatClampNeg a6 a5 a2 a3 (gi_lt h2) s0 r hr) ⟨by decide, by decide⟩ (by decide) (by decide) ⟨_, rfl, rfl⟩ rfl rfl (Nat.le_of_ble_eq_true rfl) dX4_reckonLatest_85 (fun q3 => ?_)
    refine im_if_eq hF 94 dX4_reckonLatest_88 (by decide) (fun _ => ?_) (fun _ => ?_)
    · refine im_iinc hF dX4_reckonLatest_94 (v := (a6 + (1 : Int32))) (lv' := [(6, .int (a6 + (1 : Int32))), (0, .ref (g.2.1 4 0)), (1, .ref (g.2.1 0 0)), (2, .int a2), (3, .int a3), (4, .int a4), (5, .int a5)]) 6 rfl rfl (by decide) rfl ?_
      refine im_goto hF 62 dX4_reckonLatest_97 (by decide) ?_
      refine im_sub (lv' := [(0, .ref (g.2.1 4 0)), (1, .ref (g.2.1 0 0)), (2, .int a2), (3, .int a3), (4, .int a4), (5, .int a5), (6, .int (a6 + (1 : Int32)))]) [1, 2, 3, 4, 5, 6, 0] rfl ?_
      exact hk62 a2 a3 a4 a5 (a6 + (1 : Int32)) q3.2
    · refine im_iconst hF dX4_reckonLatest_91 (v := (1 : Int32)) (by decide) ?_
      refine im_istore hF dX4_reckonLatest_92 (lv' := [(4, .int (1 : Int32)), (0, .ref (g.2.1 4 0)), (1, .ref (g.2.1 0 0)), (2, .int a2), (3, .int a3), (5, .int a5), (6, .int a6)]) (by decide) rfl ?_
      refine im_iinc hF dX4_reckonLatest_94 (v := (a6 + (1 : Int32))) (lv' := [(6, .int (a6 + (1 : Int32))), (4, .int (1 : Int32)), (0, .ref (g.2.1 4 0)), (1, .ref (g.2.1 0 0)), (2, .int a2), (3, .int a3), (5, .int a5)]) 6 rfl rfl (by decide) rfl ?_
      refine im_goto hF 62 dX4_reckonLatest_97 (by decide) ?_
      refine im_sub (lv' := [(0, .ref (g.2.1 4 0)), (1, .ref (g.2.1 0 0)), (2, .int a2), (3, .int a3), (4, .int (1 : Int32)), (5, .int a5), (6, .int (a6 + (1 : Int32)))]) [2, 3, 4, 5, 1, 6, 0] rfl ?_
      exact hk62 a2 a3 (1 : Int32) a5 (a6 + (1 : Int32)) q3.2
def f_X4_reckonLatest_L62 (k19 : Int32 → Int32 → Int32 → Int32 → Sg → Option Sg) : Nat → Int32 → Int32 → Int32 → Int32 → Int32 → Sg → Option Sg
  | 0 => fun _ _ _ _ _ _ => none
  | n + 1 => fun a2 a3 a4 a5 a6 s0 => f_X4_reckonLatest_B62 (f_X4_reckonLatest_L62 k19 n) k19 a2 a3 a4 a5 a6 s0
theorem i_X4_reckonLatest_L62 (X : Cx) (g : GT) (hF : Fx X g RX4 cX4_reckonLatest 7 3 119) (hM : FM X g none) (hI : GI g) (k19 : Int32 → Int32 → Int32 → Int32 → Sg → Option Sg) (hk19 : ∀ (a2 : Int32) (a3 : Int32) (a4 : Int32) (a5 : Int32) (s0 : Sg), Im X g 7 (Qm X g embV) s0 19 [(0, .ref (g.2.1 4 0)), (1, .ref (g.2.1 0 0)), (2, .int a2), (3, .int a3), (4, .int a4), (5, .int a5)] [] (k19 a2 a3 a4 a5 s0)) : ∀ (n : Nat) (a2 : Int32) (a3 : Int32) (a4 : Int32) (a5 : Int32) (a6 : Int32) (s0 : Sg), Im X g 7 (Qm X g embV) s0 62 [(0, .ref (g.2.1 4 0)), (1, .ref (g.2.1 0 0)), (2, .int a2), (3, .int a3), (4, .int a4), (5, .int a5), (6, .int a6)] [] (f_X4_reckonLatest_L62 k19 n a2 a3 a4 a5 a6 s0) := by
  intro n
  induction n with
  | zero => intros; exact im_none
  | succ n ih => intro a2 a3 a4 a5 a6 s0; exact i_X4_reckonLatest_B62 X g hF hM hI (f_X4_reckonLatest_L62 k19 n) ih k19 hk19 a2 a3 a4 a5 a6 s0
def f_X4_reckonLatest_B19 (k19 : Int32 → Int32 → Int32 → Int32 → Sg → Option Sg) (a2 : Int32) (a3 : Int32) (a4 : Int32) (a5 : Int32) (s0 : Sg) : Option Sg :=
  if (10 : Int32) < a5 then
  some s0
  else
  if a4 = 0 then
  some s0
  else
  chk (cpok ((a5 - (1 : Int32)) * (8 : Int32)) (a5 * (8 : Int32)) (8 : Int32) 88) (bdS (row3 s0 28 0 (va_cpy (s0 28 0) (s0 28 0) ((a5 - (1 : Int32)) * (8 : Int32)).toNatClampNeg (a5 * (8 : Int32)).toNatClampNeg (8 : Int32).toNatClampNeg)) fun s2 =>
  (f_X4_reckonLatest_L62 k19 FU) a2 a3 (0 : Int32) a5 (0 : Int32) s2)
set_option maxRecDepth 4000 in
theorem i_X4_reckonLatest_B19 (X : Cx) (g : GT) (hF : Fx X g RX4 cX4_reckonLatest 7 3 119) (hM : FM X g none) (hI : GI g) (k19 : Int32 → Int32 → Int32 → Int32 → Sg → Option Sg) (hk19 : ∀ (a2 : Int32) (a3 : Int32) (a4 : Int32) (a5 : Int32) (s0 : Sg), Im X g 7 (Qm X g embV) s0 19 [(0, .ref (g.2.1 4 0)), (1, .ref (g.2.1 0 0)), (2, .int a2), (3, .int a3), (4, .int a4), (5, .int a5)] [] (k19 a2 a3 a4 a5 s0)) (a2 : Int32) (a3 : Int32) (a4 : Int32) (a5 : Int32) (s0 : Sg) : Im X g 7 (Qm X g embV) s0 19 [(0, .ref (g.2.1 4 0)), (1, .ref (g.2.1 0 0)), (2, .int a2), (3, .int a3), (4, .int a4), (5, .int a5)] [] (f_X4_reckonLatest_B19 k19 a2 a3 a4 a5 s0) := by
  unfold f_X4_reckonLatest_B19
  refine im_iload hF dX4_reckonLatest_19 5 rfl ?_
  refine im_bipush hF dX4_reckonLatest_21 (v := (10 : Int32)) (by decide) ?_
  refine im_icmp_gt hF 112 dX4_reckonLatest_23 (by decide) (fun _ => ?_) (fun _ => ?_)
  · exact im_vret hF hM dX4_reckonLatest_112
  · refine im_iload hF dX4_reckonLatest_26 4 rfl ?_
    refine im_if_eq hF 112 dX4_reckonLatest_28 (by decide) (fun _ => ?_) (fun _ => ?_)
    · exact im_vret hF hM dX4_reckonLatest_112
    · refine im_aload_n hF dX4_reckonLatest_31 0 rfl ?_
      refine im_get hF (v := .ref (g.2.1 28 0)) fl_4_21 (by decide) (by decide) rfl dX4_reckonLatest_32 ?_
      refine im_iload hF dX4_reckonLatest_35 5 rfl ?_
      refine im_iconst hF dX4_reckonLatest_37 (v := (1 : Int32)) (by decide) ?_
      refine im_isub hF dX4_reckonLatest_38 ?_
      refine im_bipush hF dX4_reckonLatest_39 (v := (8 : Int32)) (by decide) ?_
      refine im_imul hF dX4_reckonLatest_41 ?_
      refine im_aload_n hF dX4_reckonLatest_42 0 rfl ?_
      refine im_get hF (v := .ref (g.2.1 28 0)) fl_4_21 (by decide) (by decide) rfl dX4_reckonLatest_43 ?_
      refine im_iload hF dX4_reckonLatest_46 5 rfl ?_
      refine im_bipush hF dX4_reckonLatest_48 (v := (8 : Int32)) (by decide) ?_
      refine im_imul hF dX4_reckonLatest_50 ?_
      refine im_bipush hF dX4_reckonLatest_51 (v := (8 : Int32)) (by decide) ?_
      refine im_acopy hF wl_701 (by decide) (by decide) (Nat.le_of_ble_eq_true rfl) ac_w ar_28 (by decide) dX4_reckonLatest_53 (fun h1 => im_bdS (fun s2 => ?_))
      refine im_iconst hF dX4_reckonLatest_56 (v := (0 : Int32)) (by decide) ?_
      refine im_istore hF dX4_reckonLatest_57 (lv' := [(4, .int (0 : Int32)), (0, .ref (g.2.1 4 0)), (1, .ref (g.2.1 0 0)), (2, .int a2), (3, .int a3), (5, .int a5)]) (by decide) rfl ?_
      refine im_iconst hF dX4_reckonLatest_59 (v := (0 : Int32)) (by decide) ?_
      refine im_istore hF dX4_reckonLatest_60 (lv' := [(6, .int (0 : Int32)), (4, .int (0 : Int32)), (0, .ref (g.2.1 4 0)), (1, .ref (g.2.1 0 0)), (2, .int a2), (3, .int a3), (5, .int a5)]) (by decide) rfl ?_
      refine im_sub (lv' := [(0, .ref (g.2.1 4 0)), (1, .ref (g.2.1 0 0)), (2, .int a2), (3, .int a3), (4, .int (0 : Int32)), (5, .int a5), (6, .int (0 : Int32))]) [2, 3, 4, 5, 1, 6, 0] rfl ?_
      exact (i_X4_reckonLatest_L62 X g hF hM hI k19 hk19 FU) a2 a3 (0 : Int32) a5 (0 : Int32) s2
def f_X4_reckonLatest_L19 : Nat → Int32 → Int32 → Int32 → Int32 → Sg → Option Sg
  | 0 => fun _ _ _ _ _ => none
  | n + 1 => fun a2 a3 a4 a5 s0 => f_X4_reckonLatest_B19 (f_X4_reckonLatest_L19 n) a2 a3 a4 a5 s0
theorem i_X4_reckonLatest_L19 (X : Cx) (g : GT) (hF : Fx X g RX4 cX4_reckonLatest 7 3 119) (hM : FM X g none) (hI : GI g) : ∀ (n : Nat) (a2 : Int32) (a3 : Int32) (a4 : Int32) (a5 : Int32) (s0 : Sg), Im X g 7 (Qm X g embV) s0 19 [(0, .ref (g.2.1 4 0)), (1, .ref (g.2.1 0 0)), (2, .int a2), (3, .int a3), (4, .int a4), (5, .int a5)] [] (f_X4_reckonLatest_L19 n a2 a3 a4 a5 s0) := by
  intro n
  induction n with
  | zero => intros; exact im_none
  | succ n ih => intro a2 a3 a4 a5 s0; exact i_X4_reckonLatest_B19 X g hF hM hI (f_X4_reckonLatest_L19 n) ih a2 a3 a4 a5 s0
def f_X4_reckonLatest (a2 : Int32) (a3 : Int32) (s0 : Sg) : Option Sg :=
  Option.bind (f_J7_fill_28 (-1 : Int32) s0) fun q1 =>
  bdS (up3 q1 4 0 4 (0 : Int32)) fun s2 =>
  (f_X4_reckonLatest_L19 FU) a2 a3 (1 : Int32) (1 : Int32) s2
set_option maxRecDepth 4000 in
theorem i_X4_reckonLatest (X : Cx) (g : GT) (hF : Fx X g RX4 cX4_reckonLatest 7 3 119) (hM : FM X g none) (hI : GI g) (a2 : Int32) (a3 : Int32) (s0 : Sg) : Im X g 7 (Qm X g embV) s0 0 [(0, .ref (g.2.1 4 0)), (1, .ref (g.2.1 0 0)), (2, .int a2), (3, .int a3)] [] (f_X4_reckonLatest a2 a3 s0) := by
  unfold f_X4_reckonLatest
  refine im_aload_n hF dX4_reckonLatest_0 0 rfl ?_
  refine im_get hF (v := .ref (g.2.1 28 0)) fl_4_21 (by decide) (by decide) rfl dX4_reckonLatest_1 ?_
  refine im_iconst hF dX4_reckonLatest_4 (v := (-1 : Int32)) (by decide) ?_
  refine im_callSV hF (As := [.ref (g.2.1 28 0), .int (-1 : Int32)]) (rest := []) my_J7_fill_53178 ms_J7_fill_53178 wl_692 (fun l r hr => c_J7_fill_28 l g hI (-1 : Int32) s0 r hr) ⟨by decide, by decide⟩ rfl rfl (Nat.le_of_ble_eq_true rfl) dX4_reckonLatest_5 (fun q1 => ?_)
  refine im_aload_n hF dX4_reckonLatest_8 0 rfl ?_
  refine im_iconst hF dX4_reckonLatest_9 (v := (0 : Int32)) (by decide) ?_
  refine im_put hF (0 : Int32) fp_4_27 (by decide) (by decide) rfl rfl rfl dX4_reckonLatest_10 ?_
  refine im_bdS (fun s2 => ?_)
  refine im_iconst hF dX4_reckonLatest_13 (v := (1 : Int32)) (by decide) ?_
  refine im_istore hF dX4_reckonLatest_14 (lv' := [(4, .int (1 : Int32)), (0, .ref (g.2.1 4 0)), (1, .ref (g.2.1 0 0)), (2, .int a2), (3, .int a3)]) (by decide) rfl ?_
  refine im_iconst hF dX4_reckonLatest_16 (v := (1 : Int32)) (by decide) ?_
  refine im_istore hF dX4_reckonLatest_17 (lv' := [(5, .int (1 : Int32)), (4, .int (1 : Int32)), (0, .ref (g.2.1 4 0)), (1, .ref (g.2.1 0 0)), (2, .int a2), (3, .int a3)]) (by decide) rfl ?_
  refine im_sub (lv' := [(0, .ref (g.2.1 4 0)), (1, .ref (g.2.1 0 0)), (2, .int a2), (3, .int a3), (4, .int (1 : Int32)), (5, .int (1 : Int32))]) [2, 3, 4, 5, 1, 0] rfl ?_
  exact (i_X4_reckonLatest_L19 X g hF hM hI FU) a2 a3 (1 : Int32) (1 : Int32) s2
theorem c_X4_reckonLatest (l : Launch) (g : GT) (hI : GI g) (a2 : Int32) (a3 : Int32) (s0 : Sg) (r : Sg) (hr : f_X4_reckonLatest a2 a3 s0 = some r) : Ct l yX4_reckonLatest cX4_reckonLatest 7 none 3 119 g [.ref (g.2.1 4 0), .ref (g.2.1 0 0), .int a2, .int a3] s0 (embV r) := ct_of (by decide) hI (Nat.le_of_ble_eq_true rfl) (fun X hF hM => i_X4_reckonLatest X g hF hM hI a2 a3 s0) r hr
def f_X4_findAshore_B5 (k5 : Nat → Int32 → Int32 → Int32 → Int32 → Int32 → Sg → Option (Int32 × Sg)) (o1 : Nat) (a2 : Int32) (a4 : Int32) (a5 : Int32) (a6 : Int32) (a7 : Int32) (s0 : Sg) : Option (Int32 × Sg) :=
  if (s0 8 o1 4) < a7 then
  some ((-1 : Int32), s0)
  else
  chk (gi a7 7) (
  chk (gi ((a2 * (7 : Int32)) + a7) 70) (
  Option.bind (f_X4_goesOnInTime a4 (s0 36 o1 a7.toNatClampNeg) (s0 25 0 ((a2 * (7 : Int32)) + a7).toNatClampNeg) a5 a6 s0) fun q3 =>
  if q3.1 = 0 then
  k5 o1 a2 a4 a5 a6 (a7 + (1 : Int32)) q3.2
  else
  some (a7, q3.2)))
set_option maxRecDepth 4000 in
theorem i_X4_findAshore_B5 (X : Cx) (g : GT) (hF : Fx X g RX4 cX4_findAshore 8 2 47) (hM : FM X g (some .int)) (hI : GI g) (k5 : Nat → Int32 → Int32 → Int32 → Int32 → Int32 → Sg → Option (Int32 × Sg)) (hk5 : ∀ (o1 : Nat) (a2 : Int32) (a4 : Int32) (a5 : Int32) (a6 : Int32) (a7 : Int32) (ho1 : o1 < cnt 8) (s0 : Sg), Im X g 8 (Qm X g embI) s0 5 [(0, .ref (g.2.1 4 0)), (1, .ref (g.2.1 8 o1)), (2, .int a2), (4, .int a4), (5, .int a5), (6, .int a6), (7, .int a7)] [] (k5 o1 a2 a4 a5 a6 a7 s0)) (o1 : Nat) (a2 : Int32) (a4 : Int32) (a5 : Int32) (a6 : Int32) (a7 : Int32) (ho1 : o1 < cnt 8) (s0 : Sg) : Im X g 8 (Qm X g embI) s0 5 [(0, .ref (g.2.1 4 0)), (1, .ref (g.2.1 8 o1)), (2, .int a2), (4, .int a4), (5, .int a5), (6, .int a6), (7, .int a7)] [] (f_X4_findAshore_B5 k5 o1 a2 a4 a5 a6 a7 s0) := by
  unfold f_X4_findAshore_B5
  refine im_iload hF dX4_findAshore_5 6 rfl ?_
  refine im_aload_n hF dX4_findAshore_7 1 rfl ?_
  refine im_get hF (v := .int (s0 8 o1 4)) fl_4_69 (by decide) ho1 rfl dX4_findAshore_8 ?_
  refine im_icmp_gt hF 55 dX4_findAshore_11 (by decide) (fun _ => ?_) (fun _ => ?_)
  · refine im_iconst hF dX4_findAshore_55 (v := (-1 : Int32)) (by decide) ?_
    exact im_iret hF hM dX4_findAshore_56
  · refine im_aload_n hF dX4_findAshore_14 0 rfl ?_
    refine im_iload hF dX4_findAshore_15 3 rfl ?_
    refine im_aload_n hF dX4_findAshore_17 1 rfl ?_
    refine im_get hF (v := .ref (g.2.1 36 o1)) fl_4_90 (by decide) ho1 rfl dX4_findAshore_18 ?_
    refine im_iload hF dX4_findAshore_21 6 rfl ?_
    refine im_iald hF ar_36 ho1 dX4_findAshore_23 (fun h1 => ?_)
    refine im_aload_n hF dX4_findAshore_24 0 rfl ?_
    refine im_get hF (v := .ref (g.2.1 25 0)) fl_4_9 (by decide) (by decide) rfl dX4_findAshore_25 ?_
    refine im_iload_n hF dX4_findAshore_28 2 rfl ?_
    refine im_bipush hF dX4_findAshore_29 (v := (7 : Int32)) (by decide) ?_
    refine im_imul hF dX4_findAshore_31 ?_
    refine im_iload hF dX4_findAshore_32 6 rfl ?_
    refine im_iadd hF dX4_findAshore_34 ?_
    refine im_iald hF ar_25 (by decide) dX4_findAshore_35 (fun h2 => ?_)
    refine im_iload hF dX4_findAshore_36 4 rfl ?_
    refine im_iload hF dX4_findAshore_38 5 rfl ?_
    refine im_callVI hF (As := [.int a4, .int (s0 36 o1 a7.toNatClampNeg), .int (s0 25 0 ((a2 * (7 : Int32)) + a7).toNatClampNeg), .int a5, .int a6]) (rest := []) my_X4_goesOnInTime mv_X4_goesOnInTime wl_708 (fun l r hr => c_X4_goesOnInTime l g hI a4 (s0 36 o1 a7.toNatClampNeg) (s0 25 0 ((a2 * (7 : Int32)) + a7).toNatClampNeg) a5 a6 s0 r hr) ⟨by decide, by decide⟩ (by decide) (by decide) ⟨_, rfl, rfl⟩ rfl rfl (Nat.le_of_ble_eq_true rfl) dX4_findAshore_40 (fun q3 => ?_)
    refine im_if_eq hF 49 dX4_findAshore_43 (by decide) (fun _ => ?_) (fun _ => ?_)
    · refine im_iinc hF dX4_findAshore_49 (v := (a7 + (1 : Int32))) (lv' := [(7, .int (a7 + (1 : Int32))), (0, .ref (g.2.1 4 0)), (1, .ref (g.2.1 8 o1)), (2, .int a2), (4, .int a4), (5, .int a5), (6, .int a6)]) 6 rfl rfl (by decide) rfl ?_
      refine im_goto hF 5 dX4_findAshore_52 (by decide) ?_
      refine im_sub (lv' := [(0, .ref (g.2.1 4 0)), (1, .ref (g.2.1 8 o1)), (2, .int a2), (4, .int a4), (5, .int a5), (6, .int a6), (7, .int (a7 + (1 : Int32)))]) [1, 2, 3, 4, 5, 6, 0] rfl ?_
      exact hk5 o1 a2 a4 a5 a6 (a7 + (1 : Int32)) ho1 q3.2
    · refine im_iload hF dX4_findAshore_46 6 rfl ?_
      exact im_iret hF hM dX4_findAshore_48
def f_X4_findAshore_L5 : Nat → Nat → Int32 → Int32 → Int32 → Int32 → Int32 → Sg → Option (Int32 × Sg)
  | 0 => fun _ _ _ _ _ _ _ => none
  | n + 1 => fun o1 a2 a4 a5 a6 a7 s0 => f_X4_findAshore_B5 (f_X4_findAshore_L5 n) o1 a2 a4 a5 a6 a7 s0
theorem i_X4_findAshore_L5 (X : Cx) (g : GT) (hF : Fx X g RX4 cX4_findAshore 8 2 47) (hM : FM X g (some .int)) (hI : GI g) : ∀ (n : Nat) (o1 : Nat) (a2 : Int32) (a4 : Int32) (a5 : Int32) (a6 : Int32) (a7 : Int32) (ho1 : o1 < cnt 8) (s0 : Sg), Im X g 8 (Qm X g embI) s0 5 [(0, .ref (g.2.1 4 0)), (1, .ref (g.2.1 8 o1)), (2, .int a2), (4, .int a4), (5, .int a5), (6, .int a6), (7, .int a7)] [] (f_X4_findAshore_L5 n o1 a2 a4 a5 a6 a7 s0) := by
  intro n
  induction n with
  | zero => intros; exact im_none
  | succ n ih => intro o1 a2 a4 a5 a6 a7 ho1 s0; exact i_X4_findAshore_B5 X g hF hM hI (f_X4_findAshore_L5 n) ih o1 a2 a4 a5 a6 a7 ho1 s0
def f_X4_findAshore (o1 : Nat) (a2 : Int32) (a3 : Int32) (a4 : Int32) (a5 : Int32) (a6 : Int32) (s0 : Sg) : Option (Int32 × Sg) :=
  bdI (a3 + (1 : Int32)) fun x1 =>
  (f_X4_findAshore_L5 FU) o1 a2 a4 a5 a6 x1 s0
set_option maxRecDepth 4000 in
theorem i_X4_findAshore (X : Cx) (g : GT) (hF : Fx X g RX4 cX4_findAshore 8 2 47) (hM : FM X g (some .int)) (hI : GI g) (o1 : Nat) (a2 : Int32) (a3 : Int32) (a4 : Int32) (a5 : Int32) (a6 : Int32) (ho1 : o1 < cnt 8) (s0 : Sg) : Im X g 8 (Qm X g embI) s0 0 [(0, .ref (g.2.1 4 0)), (1, .ref (g.2.1 8 o1)), (2, .int a2), (3, .int a3), (4, .int a4), (5, .int a5), (6, .int a6)] [] (f_X4_findAshore o1 a2 a3 a4 a5 a6 s0) := by
  unfold f_X4_findAshore
  refine im_iload_n hF dX4_findAshore_0 3 rfl ?_
  refine im_iconst hF dX4_findAshore_1 (v := (1 : Int32)) (by decide) ?_
  refine im_iadd hF dX4_findAshore_2 ?_
  refine im_bdI (fun x1 => ?_)
  refine im_istore hF dX4_findAshore_3 (lv' := [(7, .int x1), (0, .ref (g.2.1 4 0)), (1, .ref (g.2.1 8 o1)), (2, .int a2), (3, .int a3), (4, .int a4), (5, .int a5), (6, .int a6)]) (by decide) rfl ?_
  refine im_sub (lv' := [(0, .ref (g.2.1 4 0)), (1, .ref (g.2.1 8 o1)), (2, .int a2), (4, .int a4), (5, .int a5), (6, .int a6), (7, .int x1)]) [1, 2, 3, 5, 6, 7, 0] rfl ?_
  exact (i_X4_findAshore_L5 X g hF hM hI FU) o1 a2 a4 a5 a6 x1 ho1 s0
theorem c_X4_findAshore (l : Launch) (g : GT) (hI : GI g) (o1 : Nat) (a2 : Int32) (a3 : Int32) (a4 : Int32) (a5 : Int32) (a6 : Int32) (ho1 : o1 < cnt 8) (s0 : Sg) (r : (Int32 × Sg)) (hr : f_X4_findAshore o1 a2 a3 a4 a5 a6 s0 = some r) : Ct l yX4_findAshore cX4_findAshore 8 (some .int) 2 47 g [.ref (g.2.1 4 0), .ref (g.2.1 8 o1), .int a2, .int a3, .int a4, .int a5, .int a6] s0 (embI r) := ct_of (by decide) hI (Nat.le_of_ble_eq_true rfl) (fun X hF hM => i_X4_findAshore X g hF hM hI o1 a2 a3 a4 a5 a6 ho1 s0) r hr
def f_X4_noteRide (a1 : Int32) (a2 : Int32) (a3 : Int32) (s0 : Sg) : Option Sg :=
  chk (gi ((s0 4 0 6) * (3 : Int32)) 30) (bdS (up3 s0 29 0 ((s0 4 0 6) * (3 : Int32)).toNatClampNeg a1) fun s2 =>
  chk (gi (((s2 4 0 6) * (3 : Int32)) + (1 : Int32)) 30) (bdS (up3 s2 29 0 (((s2 4 0 6) * (3 : Int32)) + (1 : Int32)).toNatClampNeg a2) fun s4 =>
  chk (gi (((s4 4 0 6) * (3 : Int32)) + (2 : Int32)) 30) (bdS (up3 s4 29 0 (((s4 4 0 6) * (3 : Int32)) + (2 : Int32)).toNatClampNeg a3) fun s6 =>
  some s6)))
set_option maxRecDepth 4000 in
theorem i_X4_noteRide (X : Cx) (g : GT) (hF : Fx X g RX4 cX4_noteRide 4 0 0) (hM : FM X g none) (hI : GI g) (a1 : Int32) (a2 : Int32) (a3 : Int32) (s0 : Sg) : Im X g 4 (Qm X g embV) s0 0 [(0, .ref (g.2.1 4 0)), (1, .int a1), (2, .int a2), (3, .int a3)] [] (f_X4_noteRide a1 a2 a3 s0) := by
  unfold f_X4_noteRide
  refine im_aload_n hF dX4_noteRide_0 0 rfl ?_
  refine im_get hF (v := .ref (g.2.1 29 0)) fl_4_24 (by decide) (by decide) rfl dX4_noteRide_1 ?_
  refine im_aload_n hF dX4_noteRide_4 0 rfl ?_
  refine im_get hF (v := .int (s0 4 0 6)) fl_4_31 (by decide) (by decide) rfl dX4_noteRide_5 ?_
  refine im_iconst hF dX4_noteRide_8 (v := (3 : Int32)) (by decide) ?_
  refine im_imul hF dX4_noteRide_9 ?_
  refine im_iload_n hF dX4_noteRide_10 1 rfl ?_
  refine im_iast hF ar_29 (by decide) dX4_noteRide_11 (fun h1 => im_bdS (fun s2 => ?_))
  refine im_aload_n hF dX4_noteRide_12 0 rfl ?_
  refine im_get hF (v := .ref (g.2.1 29 0)) fl_4_24 (by decide) (by decide) rfl dX4_noteRide_13 ?_
  refine im_aload_n hF dX4_noteRide_16 0 rfl ?_
  refine im_get hF (v := .int (s2 4 0 6)) fl_4_31 (by decide) (by decide) rfl dX4_noteRide_17 ?_
  refine im_iconst hF dX4_noteRide_20 (v := (3 : Int32)) (by decide) ?_
  refine im_imul hF dX4_noteRide_21 ?_
  refine im_iconst hF dX4_noteRide_22 (v := (1 : Int32)) (by decide) ?_
  refine im_iadd hF dX4_noteRide_23 ?_
  refine im_iload_n hF dX4_noteRide_24 2 rfl ?_
  refine im_iast hF ar_29 (by decide) dX4_noteRide_25 (fun h3 => im_bdS (fun s4 => ?_))
  refine im_aload_n hF dX4_noteRide_26 0 rfl ?_
  refine im_get hF (v := .ref (g.2.1 29 0)) fl_4_24 (by decide) (by decide) rfl dX4_noteRide_27 ?_
  refine im_aload_n hF dX4_noteRide_30 0 rfl ?_
  refine im_get hF (v := .int (s4 4 0 6)) fl_4_31 (by decide) (by decide) rfl dX4_noteRide_31 ?_
  refine im_iconst hF dX4_noteRide_34 (v := (3 : Int32)) (by decide) ?_
  refine im_imul hF dX4_noteRide_35 ?_
  refine im_iconst hF dX4_noteRide_36 (v := (2 : Int32)) (by decide) ?_
  refine im_iadd hF dX4_noteRide_37 ?_
  refine im_iload_n hF dX4_noteRide_38 3 rfl ?_
  refine im_iast hF ar_29 (by decide) dX4_noteRide_39 (fun h5 => im_bdS (fun s6 => ?_))
  exact im_vret hF hM dX4_noteRide_40
theorem c_X4_noteRide (l : Launch) (g : GT) (hI : GI g) (a1 : Int32) (a2 : Int32) (a3 : Int32) (s0 : Sg) (r : Sg) (hr : f_X4_noteRide a1 a2 a3 s0 = some r) : Ct l yX4_noteRide cX4_noteRide 4 none 0 0 g [.ref (g.2.1 4 0), .int a1, .int a2, .int a3] s0 (embV r) := ct_of (by decide) hI (Nat.le_of_ble_eq_true rfl) (fun X hF hM => i_X4_noteRide X g hF hM hI a1 a2 a3 s0) r hr
def f_X4_findRide_B24 (k24 : Int32 → Int32 → Int32 → Int32 → Int32 → Int32 → Nat → Int32 → Sg → Option (Int32 × Sg)) (k3 : Int32 → Int32 → Int32 → Int32 → Int32 → Int32 → Sg → Option (Int32 × Sg)) (a2 : Int32) (a3 : Int32) (a4 : Int32) (a5 : Int32) (a6 : Int32) (a7 : Int32) (o8 : Nat) (a9 : Int32) (s0 : Sg) : Option (Int32 × Sg) :=
  if (s0 8 o8 4) ≤ a9 then
  k3 a2 a3 a4 a5 a6 (a7 + (1 : Int32)) s0
  else
  chk (gi a9 7) (
  if (s0 36 o8 a9.toNatClampNeg) = a2 then
  chk (gi ((a7 * (7 : Int32)) + a9) 70) (
  if (s0 26 0 ((a7 * (7 : Int32)) + a9).toNatClampNeg) < a3 then
  k24 a2 a3 a4 a5 a6 a7 o8 (a9 + (1 : Int32)) s0
  else
  Option.bind (f_X4_findAshore o8 a7 a9 a4 a5 a6 s0) fun q3 =>
  if q3.1 = (-1 : Int32) then
  k24 a2 a3 a4 a5 a6 a7 o8 (a9 + (1 : Int32)) q3.2
  else
  Option.bind (f_X4_noteRide a7 a9 q3.1 q3.2) fun q4 =>
  some ((1 : Int32), q4))
  else
  k24 a2 a3 a4 a5 a6 a7 o8 (a9 + (1 : Int32)) s0)
set_option maxRecDepth 4000 in
theorem i_X4_findRide_B24 (X : Cx) (g : GT) (hF : Fx X g RX4 cX4_findRide 11 3 74) (hM : FM X g (some .boolean)) (hI : GI g) (k24 : Int32 → Int32 → Int32 → Int32 → Int32 → Int32 → Nat → Int32 → Sg → Option (Int32 × Sg)) (hk24 : ∀ (a2 : Int32) (a3 : Int32) (a4 : Int32) (a5 : Int32) (a6 : Int32) (a7 : Int32) (o8 : Nat) (a9 : Int32) (ho8 : o8 < cnt 8) (s0 : Sg), Im X g 11 (Qm X g embI) s0 24 [(0, .ref (g.2.1 4 0)), (1, .ref (g.2.1 0 0)), (2, .int a2), (3, .int a3), (4, .int a4), (5, .int a5), (6, .int a6), (7, .int a7), (8, .ref (g.2.1 8 o8)), (9, .int a9)] [] (k24 a2 a3 a4 a5 a6 a7 o8 a9 s0)) (k3 : Int32 → Int32 → Int32 → Int32 → Int32 → Int32 → Sg → Option (Int32 × Sg)) (hk3 : ∀ (a2 : Int32) (a3 : Int32) (a4 : Int32) (a5 : Int32) (a6 : Int32) (a7 : Int32) (s0 : Sg), Im X g 11 (Qm X g embI) s0 3 [(0, .ref (g.2.1 4 0)), (1, .ref (g.2.1 0 0)), (2, .int a2), (3, .int a3), (4, .int a4), (5, .int a5), (6, .int a6), (7, .int a7)] [] (k3 a2 a3 a4 a5 a6 a7 s0)) (a2 : Int32) (a3 : Int32) (a4 : Int32) (a5 : Int32) (a6 : Int32) (a7 : Int32) (o8 : Nat) (a9 : Int32) (ho8 : o8 < cnt 8) (s0 : Sg) : Im X g 11 (Qm X g embI) s0 24 [(0, .ref (g.2.1 4 0)), (1, .ref (g.2.1 0 0)), (2, .int a2), (3, .int a3), (4, .int a4), (5, .int a5), (6, .int a6), (7, .int a7), (8, .ref (g.2.1 8 o8)), (9, .int a9)] [] (f_X4_findRide_B24 k24 k3 a2 a3 a4 a5 a6 a7 o8 a9 s0) := by
  unfold f_X4_findRide_B24
  refine im_iload hF dX4_findRide_24 9 rfl ?_
  refine im_aload hF dX4_findRide_26 8 rfl ?_
  refine im_get hF (v := .int (s0 8 o8 4)) fl_4_69 (by decide) ho8 rfl dX4_findRide_28 ?_
  refine im_icmp_ge hF 105 dX4_findRide_31 (by decide) (fun _ => ?_) (fun _ => ?_)
  · refine im_iinc hF dX4_findRide_105 (v := (a7 + (1 : Int32))) (lv' := [(7, .int (a7 + (1 : Int32))), (0, .ref (g.2.1 4 0)), (1, .ref (g.2.1 0 0)), (2, .int a2), (3, .int a3), (4, .int a4), (5, .int a5), (6, .int a6), (8, .ref (g.2.1 8 o8)), (9, .int a9)]) 7 rfl rfl (by decide) rfl ?_
    refine im_goto hF 3 dX4_findRide_108 (by decide) ?_
    refine im_sub (lv' := [(0, .ref (g.2.1 4 0)), (1, .ref (g.2.1 0 0)), (2, .int a2), (3, .int a3), (4, .int a4), (5, .int a5), (6, .int a6), (7, .int (a7 + (1 : Int32)))]) [1, 2, 3, 4, 5, 6, 7, 0] rfl ?_
    exact hk3 a2 a3 a4 a5 a6 (a7 + (1 : Int32)) s0
  · refine im_aload hF dX4_findRide_34 8 rfl ?_
    refine im_get hF (v := .ref (g.2.1 36 o8)) fl_4_90 (by decide) ho8 rfl dX4_findRide_36 ?_
    refine im_iload hF dX4_findRide_39 9 rfl ?_
    refine im_iald hF ar_36 ho8 dX4_findRide_41 (fun h1 => ?_)
    refine im_iload_n hF dX4_findRide_42 2 rfl ?_
    refine im_icmp_ne hF 99 dX4_findRide_43 (by decide) (fun _ => ?_) (fun _ => ?_)
    · refine im_aload_n hF dX4_findRide_46 0 rfl ?_
      refine im_get hF (v := .ref (g.2.1 26 0)) fl_4_15 (by decide) (by decide) rfl dX4_findRide_47 ?_
      refine im_iload hF dX4_findRide_50 7 rfl ?_
      refine im_bipush hF dX4_findRide_52 (v := (7 : Int32)) (by decide) ?_
      refine im_imul hF dX4_findRide_54 ?_
      refine im_iload hF dX4_findRide_55 9 rfl ?_
      refine im_iadd hF dX4_findRide_57 ?_
      refine im_iald hF ar_26 (by decide) dX4_findRide_58 (fun h2 => ?_)
      refine im_iload_n hF dX4_findRide_59 3 rfl ?_
      refine im_icmp_lt hF 99 dX4_findRide_60 (by decide) (fun _ => ?_) (fun _ => ?_)
      · refine im_iinc hF dX4_findRide_99 (v := (a9 + (1 : Int32))) (lv' := [(9, .int (a9 + (1 : Int32))), (0, .ref (g.2.1 4 0)), (1, .ref (g.2.1 0 0)), (2, .int a2), (3, .int a3), (4, .int a4), (5, .int a5), (6, .int a6), (7, .int a7), (8, .ref (g.2.1 8 o8))]) 9 rfl rfl (by decide) rfl ?_
        refine im_goto hF 24 dX4_findRide_102 (by decide) ?_
        refine im_sub (lv' := [(0, .ref (g.2.1 4 0)), (1, .ref (g.2.1 0 0)), (2, .int a2), (3, .int a3), (4, .int a4), (5, .int a5), (6, .int a6), (7, .int a7), (8, .ref (g.2.1 8 o8)), (9, .int (a9 + (1 : Int32)))]) [1, 2, 3, 4, 5, 6, 7, 8, 9, 0] rfl ?_
        exact hk24 a2 a3 a4 a5 a6 a7 o8 (a9 + (1 : Int32)) ho8 s0
      · refine im_aload_n hF dX4_findRide_63 0 rfl ?_
        refine im_aload hF dX4_findRide_64 8 rfl ?_
        refine im_iload hF dX4_findRide_66 7 rfl ?_
        refine im_iload hF dX4_findRide_68 9 rfl ?_
        refine im_iload hF dX4_findRide_70 4 rfl ?_
        refine im_iload hF dX4_findRide_72 5 rfl ?_
        refine im_iload hF dX4_findRide_74 6 rfl ?_
        refine im_callVI hF (As := [.ref (g.2.1 8 o8), .int a7, .int a9, .int a4, .int a5, .int a6]) (rest := []) my_X4_findAshore mv_X4_findAshore wl_724 (fun l r hr => c_X4_findAshore l g hI o8 a7 a9 a4 a5 a6 ho8 s0 r hr) ⟨by decide, by decide⟩ (by decide) (by decide) ⟨_, rfl, rfl⟩ rfl rfl (Nat.le_of_ble_eq_true rfl) dX4_findRide_76 (fun q3 => ?_)
        refine im_istore hF dX4_findRide_79 (lv' := [(10, .int q3.1), (0, .ref (g.2.1 4 0)), (1, .ref (g.2.1 0 0)), (2, .int a2), (3, .int a3), (4, .int a4), (5, .int a5), (6, .int a6), (7, .int a7), (8, .ref (g.2.1 8 o8)), (9, .int a9)]) (by decide) rfl ?_
        refine im_iload hF dX4_findRide_81 0 rfl ?_
        refine im_iconst hF dX4_findRide_83 (v := (-1 : Int32)) (by decide) ?_
        refine im_icmp_eq hF 99 dX4_findRide_84 (by decide) (fun _ => ?_) (fun _ => ?_)
        · refine im_iinc hF dX4_findRide_99 (v := (a9 + (1 : Int32))) (lv' := [(9, .int (a9 + (1 : Int32))), (10, .int q3.1), (0, .ref (g.2.1 4 0)), (1, .ref (g.2.1 0 0)), (2, .int a2), (3, .int a3), (4, .int a4), (5, .int a5), (6, .int a6), (7, .int a7), (8, .ref (g.2.1 8 o8))]) 10 rfl rfl (by decide) rfl ?_
          refine im_goto hF 24 dX4_findRide_102 (by decide) ?_
          refine im_sub (lv' := [(0, .ref (g.2.1 4 0)), (1, .ref (g.2.1 0 0)), (2, .int a2), (3, .int a3), (4, .int a4), (5, .int a5), (6, .int a6), (7, .int a7), (8, .ref (g.2.1 8 o8)), (9, .int (a9 + (1 : Int32)))]) [2, 3, 4, 5, 6, 7, 8, 9, 10, 0] rfl ?_
          exact hk24 a2 a3 a4 a5 a6 a7 o8 (a9 + (1 : Int32)) ho8 q3.2
        · refine im_aload_n hF dX4_findRide_87 1 rfl ?_
          refine im_iload hF dX4_findRide_88 8 rfl ?_
          refine im_iload hF dX4_findRide_90 10 rfl ?_
          refine im_iload hF dX4_findRide_92 0 rfl ?_
          refine im_callVV hF (As := [.int a7, .int a9, .int q3.1]) (rest := []) my_X4_noteRide mv_X4_noteRide wl_728 (fun l r hr => c_X4_noteRide l g hI a7 a9 q3.1 q3.2 r hr) ⟨by decide, by decide⟩ (by decide) (by decide) ⟨_, rfl, rfl⟩ rfl rfl (Nat.le_of_ble_eq_true rfl) dX4_findRide_94 (fun q4 => ?_)
          refine im_iconst hF dX4_findRide_97 (v := (1 : Int32)) (by decide) ?_
          exact im_zret hF hM (by decide) dX4_findRide_98
    · refine im_iinc hF dX4_findRide_99 (v := (a9 + (1 : Int32))) (lv' := [(9, .int (a9 + (1 : Int32))), (0, .ref (g.2.1 4 0)), (1, .ref (g.2.1 0 0)), (2, .int a2), (3, .int a3), (4, .int a4), (5, .int a5), (6, .int a6), (7, .int a7), (8, .ref (g.2.1 8 o8))]) 9 rfl rfl (by decide) rfl ?_
      refine im_goto hF 24 dX4_findRide_102 (by decide) ?_
      refine im_sub (lv' := [(0, .ref (g.2.1 4 0)), (1, .ref (g.2.1 0 0)), (2, .int a2), (3, .int a3), (4, .int a4), (5, .int a5), (6, .int a6), (7, .int a7), (8, .ref (g.2.1 8 o8)), (9, .int (a9 + (1 : Int32)))]) [1, 2, 3, 4, 5, 6, 7, 8, 9, 0] rfl ?_
      exact hk24 a2 a3 a4 a5 a6 a7 o8 (a9 + (1 : Int32)) ho8 s0
def f_X4_findRide_L24 (k3 : Int32 → Int32 → Int32 → Int32 → Int32 → Int32 → Sg → Option (Int32 × Sg)) : Nat → Int32 → Int32 → Int32 → Int32 → Int32 → Int32 → Nat → Int32 → Sg → Option (Int32 × Sg)
  | 0 => fun _ _ _ _ _ _ _ _ _ => none
  | n + 1 => fun a2 a3 a4 a5 a6 a7 o8 a9 s0 => f_X4_findRide_B24 (f_X4_findRide_L24 k3 n) k3 a2 a3 a4 a5 a6 a7 o8 a9 s0
theorem i_X4_findRide_L24 (X : Cx) (g : GT) (hF : Fx X g RX4 cX4_findRide 11 3 74) (hM : FM X g (some .boolean)) (hI : GI g) (k3 : Int32 → Int32 → Int32 → Int32 → Int32 → Int32 → Sg → Option (Int32 × Sg)) (hk3 : ∀ (a2 : Int32) (a3 : Int32) (a4 : Int32) (a5 : Int32) (a6 : Int32) (a7 : Int32) (s0 : Sg), Im X g 11 (Qm X g embI) s0 3 [(0, .ref (g.2.1 4 0)), (1, .ref (g.2.1 0 0)), (2, .int a2), (3, .int a3), (4, .int a4), (5, .int a5), (6, .int a6), (7, .int a7)] [] (k3 a2 a3 a4 a5 a6 a7 s0)) : ∀ (n : Nat) (a2 : Int32) (a3 : Int32) (a4 : Int32) (a5 : Int32) (a6 : Int32) (a7 : Int32) (o8 : Nat) (a9 : Int32) (ho8 : o8 < cnt 8) (s0 : Sg), Im X g 11 (Qm X g embI) s0 24 [(0, .ref (g.2.1 4 0)), (1, .ref (g.2.1 0 0)), (2, .int a2), (3, .int a3), (4, .int a4), (5, .int a5), (6, .int a6), (7, .int a7), (8, .ref (g.2.1 8 o8)), (9, .int a9)] [] (f_X4_findRide_L24 k3 n a2 a3 a4 a5 a6 a7 o8 a9 s0) := by
  intro n
  induction n with
  | zero => intros; exact im_none
  | succ n ih => intro a2 a3 a4 a5 a6 a7 o8 a9 ho8 s0; exact i_X4_findRide_B24 X g hF hM hI (f_X4_findRide_L24 k3 n) ih k3 hk3 a2 a3 a4 a5 a6 a7 o8 a9 ho8 s0
def f_X4_findRide_B3 (k3 : Int32 → Int32 → Int32 → Int32 → Int32 → Int32 → Sg → Option (Int32 × Sg)) (a2 : Int32) (a3 : Int32) (a4 : Int32) (a5 : Int32) (a6 : Int32) (a7 : Int32) (s0 : Sg) : Option (Int32 × Sg) :=
  if (s0 0 0 2) ≤ a7 then
  some ((0 : Int32), s0)
  else
  chk (gi a7 10) (
  (f_X4_findRide_L24 k3 FU) a2 a3 a4 a5 a6 a7 a7.toNatClampNeg (0 : Int32) s0)
set_option maxRecDepth 4000 in
theorem i_X4_findRide_B3 (X : Cx) (g : GT) (hF : Fx X g RX4 cX4_findRide 11 3 74) (hM : FM X g (some .boolean)) (hI : GI g) (k3 : Int32 → Int32 → Int32 → Int32 → Int32 → Int32 → Sg → Option (Int32 × Sg)) (hk3 : ∀ (a2 : Int32) (a3 : Int32) (a4 : Int32) (a5 : Int32) (a6 : Int32) (a7 : Int32) (s0 : Sg), Im X g 11 (Qm X g embI) s0 3 [(0, .ref (g.2.1 4 0)), (1, .ref (g.2.1 0 0)), (2, .int a2), (3, .int a3), (4, .int a4), (5, .int a5), (6, .int a6), (7, .int a7)] [] (k3 a2 a3 a4 a5 a6 a7 s0)) (a2 : Int32) (a3 : Int32) (a4 : Int32) (a5 : Int32) (a6 : Int32) (a7 : Int32) (s0 : Sg) : Im X g 11 (Qm X g embI) s0 3 [(0, .ref (g.2.1 4 0)), (1, .ref (g.2.1 0 0)), (2, .int a2), (3, .int a3), (4, .int a4), (5, .int a5), (6, .int a6), (7, .int a7)] [] (f_X4_findRide_B3 k3 a2 a3 a4 a5 a6 a7 s0) := by
  unfold f_X4_findRide_B3
  refine im_iload hF dX4_findRide_3 7 rfl ?_
  refine im_aload_n hF dX4_findRide_5 1 rfl ?_
  refine im_get hF (v := .int (s0 0 0 2)) fl_4_34 (by decide) (by decide) rfl dX4_findRide_6 ?_
  refine im_icmp_ge hF 111 dX4_findRide_9 (by decide) (fun _ => ?_) (fun _ => ?_)
  · refine im_iconst hF dX4_findRide_111 (v := (0 : Int32)) (by decide) ?_
    exact im_zret hF hM (by decide) dX4_findRide_112
  · refine im_aload_n hF dX4_findRide_12 1 rfl ?_
    refine im_get hF (v := .ref (g.2.1 11 0)) fl_4_45 (by decide) (by decide) rfl dX4_findRide_13 ?_
    refine im_iload hF dX4_findRide_16 7 rfl ?_
    refine im_aald11 hF dX4_findRide_18 (fun h1 => ?_)
    refine im_astore hF dX4_findRide_19 (lv' := [(8, .ref (g.2.1 8 a7.toNatClampNeg)), (0, .ref (g.2.1 4 0)), (1, .ref (g.2.1 0 0)), (2, .int a2), (3, .int a3), (4, .int a4), (5, .int a5), (6, .int a6), (7, .int a7)]) (by decide) rfl ?_
    refine im_iconst hF dX4_findRide_21 (v := (0 : Int32)) (by decide) ?_
    refine im_istore hF dX4_findRide_22 (lv' := [(9, .int (0 : Int32)), (8, .ref (g.2.1 8 a7.toNatClampNeg)), (0, .ref (g.2.1 4 0)), (1, .ref (g.2.1 0 0)), (2, .int a2), (3, .int a3), (4, .int a4), (5, .int a5), (6, .int a6), (7, .int a7)]) (by decide) rfl ?_
    refine im_sub (lv' := [(0, .ref (g.2.1 4 0)), (1, .ref (g.2.1 0 0)), (2, .int a2), (3, .int a3), (4, .int a4), (5, .int a5), (6, .int a6), (7, .int a7), (8, .ref (g.2.1 8 a7.toNatClampNeg)), (9, .int (0 : Int32))]) [2, 3, 4, 5, 6, 7, 8, 9, 1, 0] rfl ?_
    exact (i_X4_findRide_L24 X g hF hM hI k3 hk3 FU) a2 a3 a4 a5 a6 a7 a7.toNatClampNeg (0 : Int32) (gi_lt h1) s0
def f_X4_findRide_L3 : Nat → Int32 → Int32 → Int32 → Int32 → Int32 → Int32 → Sg → Option (Int32 × Sg)
  | 0 => fun _ _ _ _ _ _ _ => none
  | n + 1 => fun a2 a3 a4 a5 a6 a7 s0 => f_X4_findRide_B3 (f_X4_findRide_L3 n) a2 a3 a4 a5 a6 a7 s0
theorem i_X4_findRide_L3 (X : Cx) (g : GT) (hF : Fx X g RX4 cX4_findRide 11 3 74) (hM : FM X g (some .boolean)) (hI : GI g) : ∀ (n : Nat) (a2 : Int32) (a3 : Int32) (a4 : Int32) (a5 : Int32) (a6 : Int32) (a7 : Int32) (s0 : Sg), Im X g 11 (Qm X g embI) s0 3 [(0, .ref (g.2.1 4 0)), (1, .ref (g.2.1 0 0)), (2, .int a2), (3, .int a3), (4, .int a4), (5, .int a5), (6, .int a6), (7, .int a7)] [] (f_X4_findRide_L3 n a2 a3 a4 a5 a6 a7 s0) := by
  intro n
  induction n with
  | zero => intros; exact im_none
  | succ n ih => intro a2 a3 a4 a5 a6 a7 s0; exact i_X4_findRide_B3 X g hF hM hI (f_X4_findRide_L3 n) ih a2 a3 a4 a5 a6 a7 s0
def f_X4_findRide (a2 : Int32) (a3 : Int32) (a4 : Int32) (a5 : Int32) (a6 : Int32) (s0 : Sg) : Option (Int32 × Sg) :=
  (f_X4_findRide_L3 FU) a2 a3 a4 a5 a6 (0 : Int32) s0
set_option maxRecDepth 4000 in
theorem i_X4_findRide (X : Cx) (g : GT) (hF : Fx X g RX4 cX4_findRide 11 3 74) (hM : FM X g (some .boolean)) (hI : GI g) (a2 : Int32) (a3 : Int32) (a4 : Int32) (a5 : Int32) (a6 : Int32) (s0 : Sg) : Im X g 11 (Qm X g embI) s0 0 [(0, .ref (g.2.1 4 0)), (1, .ref (g.2.1 0 0)), (2, .int a2), (3, .int a3), (4, .int a4), (5, .int a5), (6, .int a6)] [] (f_X4_findRide a2 a3 a4 a5 a6 s0) := by
  unfold f_X4_findRide
  refine im_iconst hF dX4_findRide_0 (v := (0 : Int32)) (by decide) ?_
  refine im_istore hF dX4_findRide_1 (lv' := [(7, .int (0 : Int32)), (0, .ref (g.2.1 4 0)), (1, .ref (g.2.1 0 0)), (2, .int a2), (3, .int a3), (4, .int a4), (5, .int a5), (6, .int a6)]) (by decide) rfl ?_
  refine im_sub (lv' := [(0, .ref (g.2.1 4 0)), (1, .ref (g.2.1 0 0)), (2, .int a2), (3, .int a3), (4, .int a4), (5, .int a5), (6, .int a6), (7, .int (0 : Int32))]) [1, 2, 3, 4, 5, 6, 7, 0] rfl ?_
  exact (i_X4_findRide_L3 X g hF hM hI FU) a2 a3 a4 a5 a6 (0 : Int32) s0
theorem c_X4_findRide (l : Launch) (g : GT) (hI : GI g) (a2 : Int32) (a3 : Int32) (a4 : Int32) (a5 : Int32) (a6 : Int32) (s0 : Sg) (r : (Int32 × Sg)) (hr : f_X4_findRide a2 a3 a4 a5 a6 s0 = some r) : Ct l yX4_findRide cX4_findRide 11 (some .boolean) 3 74 g [.ref (g.2.1 4 0), .ref (g.2.1 0 0), .int a2, .int a3, .int a4, .int a5, .int a6] s0 (embI r) := ct_of (by decide) hI (Nat.le_of_ble_eq_true rfl) (fun X hF hM => i_X4_findRide X g hF hM hI a2 a3 a4 a5 a6 s0) r hr
def f_X4_chooseRides_B3 (k3 : Int32 → Int32 → Int32 → Int32 → Int32 → Sg → Option Sg) (k30 : Int32 → Int32 → Int32 → Int32 → Int32 → Sg → Option Sg) (a2 : Int32) (a3 : Int32) (a4 : Int32) (a5 : Int32) (a6 : Int32) (s0 : Sg) : Option Sg :=
  if (s0 4 0 4) ≤ a6 then
  k30 a2 a3 a4 a5 a6 s0
  else
  Option.bind (f_X4_latestFrom a2 a6 s0) fun q1 =>
  if a4 ≤ q1.1 then
  k30 a2 a3 a4 a5 a6 q1.2
  else
  k3 a2 a3 a4 a5 (a6 + (1 : Int32)) q1.2
set_option maxRecDepth 4000 in
theorem i_X4_chooseRides_B3 (X : Cx) (g : GT) (hF : Fx X g RX4 cX4_chooseRides 12 4 104) (hM : FM X g none) (hI : GI g) (k3 : Int32 → Int32 → Int32 → Int32 → Int32 → Sg → Option Sg) (hk3 : ∀ (a2 : Int32) (a3 : Int32) (a4 : Int32) (a5 : Int32) (a6 : Int32) (s0 : Sg), Im X g 12 (Qm X g embV) s0 3 [(0, .ref (g.2.1 4 0)), (1, .ref (g.2.1 0 0)), (2, .int a2), (3, .int a3), (4, .int a4), (5, .int a5), (6, .int a6)] [] (k3 a2 a3 a4 a5 a6 s0)) (k30 : Int32 → Int32 → Int32 → Int32 → Int32 → Sg → Option Sg) (hk30 : ∀ (a2 : Int32) (a3 : Int32) (a4 : Int32) (a5 : Int32) (a6 : Int32) (s0 : Sg), Im X g 12 (Qm X g embV) s0 30 [(0, .ref (g.2.1 4 0)), (1, .ref (g.2.1 0 0)), (2, .int a2), (3, .int a3), (4, .int a4), (5, .int a5), (6, .int a6)] [] (k30 a2 a3 a4 a5 a6 s0)) (a2 : Int32) (a3 : Int32) (a4 : Int32) (a5 : Int32) (a6 : Int32) (s0 : Sg) : Im X g 12 (Qm X g embV) s0 3 [(0, .ref (g.2.1 4 0)), (1, .ref (g.2.1 0 0)), (2, .int a2), (3, .int a3), (4, .int a4), (5, .int a5), (6, .int a6)] [] (f_X4_chooseRides_B3 k3 k30 a2 a3 a4 a5 a6 s0) := by
  unfold f_X4_chooseRides_B3
  refine im_iload hF dX4_chooseRides_3 6 rfl ?_
  refine im_aload_n hF dX4_chooseRides_5 0 rfl ?_
  refine im_get hF (v := .int (s0 4 0 4)) fl_4_27 (by decide) (by decide) rfl dX4_chooseRides_6 ?_
  refine im_icmp_ge hF 30 dX4_chooseRides_9 (by decide) (fun _ => ?_) (fun _ => ?_)
  · exact hk30 a2 a3 a4 a5 a6 s0
  · refine im_aload_n hF dX4_chooseRides_12 0 rfl ?_
    refine im_iload_n hF dX4_chooseRides_13 2 rfl ?_
    refine im_iload hF dX4_chooseRides_14 6 rfl ?_
    refine im_callVI hF (As := [.int a2, .int a6]) (rest := []) my_X4_latestFrom mv_X4_latestFrom wl_712 (fun l r hr => c_X4_latestFrom l g hI a2 a6 s0 r hr) ⟨by decide, by decide⟩ (by decide) (by decide) ⟨_, rfl, rfl⟩ rfl rfl (Nat.le_of_ble_eq_true rfl) dX4_chooseRides_16 (fun q1 => ?_)
    refine im_iload hF dX4_chooseRides_19 4 rfl ?_
    refine im_icmp_ge hF 30 dX4_chooseRides_21 (by decide) (fun _ => ?_) (fun _ => ?_)
    · exact hk30 a2 a3 a4 a5 a6 q1.2
    · refine im_iinc hF dX4_chooseRides_24 (v := (a6 + (1 : Int32))) (lv' := [(6, .int (a6 + (1 : Int32))), (0, .ref (g.2.1 4 0)), (1, .ref (g.2.1 0 0)), (2, .int a2), (3, .int a3), (4, .int a4), (5, .int a5)]) 6 rfl rfl (by decide) rfl ?_
      refine im_goto hF 3 dX4_chooseRides_27 (by decide) ?_
      refine im_sub (lv' := [(0, .ref (g.2.1 4 0)), (1, .ref (g.2.1 0 0)), (2, .int a2), (3, .int a3), (4, .int a4), (5, .int a5), (6, .int (a6 + (1 : Int32)))]) [1, 2, 3, 4, 5, 6, 0] rfl ?_
      exact hk3 a2 a3 a4 a5 (a6 + (1 : Int32)) q1.2
def f_X4_chooseRides_L3 (k30 : Int32 → Int32 → Int32 → Int32 → Int32 → Sg → Option Sg) : Nat → Int32 → Int32 → Int32 → Int32 → Int32 → Sg → Option Sg
  | 0 => fun _ _ _ _ _ _ => none
  | n + 1 => fun a2 a3 a4 a5 a6 s0 => f_X4_chooseRides_B3 (f_X4_chooseRides_L3 k30 n) k30 a2 a3 a4 a5 a6 s0
theorem i_X4_chooseRides_L3 (X : Cx) (g : GT) (hF : Fx X g RX4 cX4_chooseRides 12 4 104) (hM : FM X g none) (hI : GI g) (k30 : Int32 → Int32 → Int32 → Int32 → Int32 → Sg → Option Sg) (hk30 : ∀ (a2 : Int32) (a3 : Int32) (a4 : Int32) (a5 : Int32) (a6 : Int32) (s0 : Sg), Im X g 12 (Qm X g embV) s0 30 [(0, .ref (g.2.1 4 0)), (1, .ref (g.2.1 0 0)), (2, .int a2), (3, .int a3), (4, .int a4), (5, .int a5), (6, .int a6)] [] (k30 a2 a3 a4 a5 a6 s0)) : ∀ (n : Nat) (a2 : Int32) (a3 : Int32) (a4 : Int32) (a5 : Int32) (a6 : Int32) (s0 : Sg), Im X g 12 (Qm X g embV) s0 3 [(0, .ref (g.2.1 4 0)), (1, .ref (g.2.1 0 0)), (2, .int a2), (3, .int a3), (4, .int a4), (5, .int a5), (6, .int a6)] [] (f_X4_chooseRides_L3 k30 n a2 a3 a4 a5 a6 s0) := by
  intro n
  induction n with
  | zero => intros; exact im_none
  | succ n ih => intro a2 a3 a4 a5 a6 s0; exact i_X4_chooseRides_B3 X g hF hM hI (f_X4_chooseRides_L3 k30 n) ih k30 hk30 a2 a3 a4 a5 a6 s0
def f_X4_chooseRides_B48 (k48 : Int32 → Int32 → Int32 → Int32 → Int32 → Sg → Option Sg) (a3 : Int32) (a5 : Int32) (a7 : Int32) (a8 : Int32) (a9 : Int32) (s0 : Sg) : Option Sg :=
  if a9 < 0 then
  some s0
  else
  Option.bind (f_X4_findRide a7 a8 a9 a3 a5 s0) fun q1 =>
  if q1.1 = 0 then
  some q1.2
  else
  chk (gi ((q1.2 4 0 6) * (3 : Int32)) 30) (
  bdI (q1.2 29 0 ((q1.2 4 0 6) * (3 : Int32)).toNatClampNeg) fun x3 =>
  chk (gi (((q1.2 4 0 6) * (3 : Int32)) + (2 : Int32)) 30) (
  bdI (q1.2 29 0 (((q1.2 4 0 6) * (3 : Int32)) + (2 : Int32)).toNatClampNeg) fun x5 =>
  chk (gi x3 10) (
  chk (gi x5 7) (
  bdI (q1.2 36 x3.toNatClampNeg x5.toNatClampNeg) fun x8 =>
  chk (gi ((x3 * (7 : Int32)) + x5) 70) (
  bdI ((q1.2 25 0 ((x3 * (7 : Int32)) + x5).toNatClampNeg) + (1 : Int32)) fun x10 =>
  bdS (up3 q1.2 4 0 6 ((q1.2 4 0 6) + (1 : Int32))) fun s11 =>
  k48 a3 a5 x8 x10 (a9 + (-1 : Int32)) s11)))))
set_option maxRecDepth 4000 in
theorem i_X4_chooseRides_B48 (X : Cx) (g : GT) (hF : Fx X g RX4 cX4_chooseRides 12 4 104) (hM : FM X g none) (hI : GI g) (k48 : Int32 → Int32 → Int32 → Int32 → Int32 → Sg → Option Sg) (hk48 : ∀ (a3 : Int32) (a5 : Int32) (a7 : Int32) (a8 : Int32) (a9 : Int32) (s0 : Sg), Im X g 12 (Qm X g embV) s0 48 [(0, .ref (g.2.1 4 0)), (1, .ref (g.2.1 0 0)), (3, .int a3), (5, .int a5), (7, .int a7), (8, .int a8), (9, .int a9)] [] (k48 a3 a5 a7 a8 a9 s0)) (a3 : Int32) (a5 : Int32) (a7 : Int32) (a8 : Int32) (a9 : Int32) (s0 : Sg) : Im X g 12 (Qm X g embV) s0 48 [(0, .ref (g.2.1 4 0)), (1, .ref (g.2.1 0 0)), (3, .int a3), (5, .int a5), (7, .int a7), (8, .int a8), (9, .int a9)] [] (f_X4_chooseRides_B48 k48 a3 a5 a7 a8 a9 s0) := by
  unfold f_X4_chooseRides_B48
  refine im_iload hF dX4_chooseRides_48 6 rfl ?_
  refine im_if_lt hF 147 dX4_chooseRides_50 (by decide) (fun _ => ?_) (fun _ => ?_)
  · exact im_vret hF hM dX4_chooseRides_147
  · refine im_aload_n hF dX4_chooseRides_53 0 rfl ?_
    refine im_aload_n hF dX4_chooseRides_54 1 rfl ?_
    refine im_iload hF dX4_chooseRides_55 4 rfl ?_
    refine im_iload hF dX4_chooseRides_57 5 rfl ?_
    refine im_iload hF dX4_chooseRides_59 6 rfl ?_
    refine im_iload_n hF dX4_chooseRides_61 2 rfl ?_
    refine im_iload hF dX4_chooseRides_62 3 rfl ?_
    refine im_callVI hF (As := [.ref (g.2.1 0 0), .int a7, .int a8, .int a9, .int a3, .int a5]) (rest := []) my_X4_findRide mv_X4_findRide wl_720 (fun l r hr => c_X4_findRide l g hI a7 a8 a9 a3 a5 s0 r hr) ⟨by decide, by decide⟩ (by decide) (by decide) ⟨_, rfl, rfl⟩ rfl rfl (Nat.le_of_ble_eq_true rfl) dX4_chooseRides_64 (fun q1 => ?_)
    refine im_if_ne hF 71 dX4_chooseRides_67 (by decide) (fun _ => ?_) (fun _ => ?_)
    · exact im_vret hF hM dX4_chooseRides_70
    · refine im_aload_n hF dX4_chooseRides_71 0 rfl ?_
      refine im_get hF (v := .ref (g.2.1 29 0)) fl_4_24 (by decide) (by decide) rfl dX4_chooseRides_72 ?_
      refine im_aload_n hF dX4_chooseRides_75 0 rfl ?_
      refine im_get hF (v := .int (q1.2 4 0 6)) fl_4_31 (by decide) (by decide) rfl dX4_chooseRides_76 ?_
      refine im_iconst hF dX4_chooseRides_79 (v := (3 : Int32)) (by decide) ?_
      refine im_imul hF dX4_chooseRides_80 ?_
      refine im_iald hF ar_29 (by decide) dX4_chooseRides_81 (fun h2 => ?_)
      refine im_bdI (fun x3 => ?_)
      refine im_istore hF dX4_chooseRides_82 (lv' := [(10, .int x3), (0, .ref (g.2.1 4 0)), (1, .ref (g.2.1 0 0)), (3, .int a3), (5, .int a5), (7, .int a7), (8, .int a8), (9, .int a9)]) (by decide) rfl ?_
      refine im_aload_n hF dX4_chooseRides_84 1 rfl ?_
      refine im_get hF (v := .ref (g.2.1 29 0)) fl_4_24 (by decide) (by decide) rfl dX4_chooseRides_85 ?_
      refine im_aload_n hF dX4_chooseRides_88 1 rfl ?_
      refine im_get hF (v := .int (q1.2 4 0 6)) fl_4_31 (by decide) (by decide) rfl dX4_chooseRides_89 ?_
      refine im_iconst hF dX4_chooseRides_92 (v := (3 : Int32)) (by decide) ?_
      refine im_imul hF dX4_chooseRides_93 ?_
      refine im_iconst hF dX4_chooseRides_94 (v := (2 : Int32)) (by decide) ?_
      refine im_iadd hF dX4_chooseRides_95 ?_
      refine im_iald hF ar_29 (by decide) dX4_chooseRides_96 (fun h4 => ?_)
      refine im_bdI (fun x5 => ?_)
      refine im_istore hF dX4_chooseRides_97 (lv' := [(11, .int x5), (10, .int x3), (0, .ref (g.2.1 4 0)), (1, .ref (g.2.1 0 0)), (3, .int a3), (5, .int a5), (7, .int a7), (8, .int a8), (9, .int a9)]) (by decide) rfl ?_
      refine im_aload_n hF dX4_chooseRides_99 3 rfl ?_
      refine im_get hF (v := .ref (g.2.1 11 0)) fl_4_45 (by decide) (by decide) rfl dX4_chooseRides_100 ?_
      refine im_iload hF dX4_chooseRides_103 1 rfl ?_
      refine im_aald11 hF dX4_chooseRides_105 (fun h6 => ?_)
      refine im_get hF (v := .ref (g.2.1 36 x3.toNatClampNeg)) fl_4_90 (by decide) (gi_lt h6) rfl dX4_chooseRides_106 ?_
      refine im_iload hF dX4_chooseRides_109 0 rfl ?_
      refine im_iald hF ar_36 (gi_lt h6) dX4_chooseRides_111 (fun h7 => ?_)
      refine im_bdI (fun x8 => ?_)
      refine im_istore hF dX4_chooseRides_112 (lv' := [(7, .int x8), (11, .int x5), (10, .int x3), (0, .ref (g.2.1 4 0)), (1, .ref (g.2.1 0 0)), (3, .int a3), (5, .int a5), (8, .int a8), (9, .int a9)]) (by decide) rfl ?_
      refine im_aload_n hF dX4_chooseRides_114 3 rfl ?_
      refine im_get hF (v := .ref (g.2.1 25 0)) fl_4_9 (by decide) (by decide) rfl dX4_chooseRides_115 ?_
      refine im_iload hF dX4_chooseRides_118 2 rfl ?_
      refine im_bipush hF dX4_chooseRides_120 (v := (7 : Int32)) (by decide) ?_
      refine im_imul hF dX4_chooseRides_122 ?_
      refine im_iload hF dX4_chooseRides_123 1 rfl ?_
      refine im_iadd hF dX4_chooseRides_125 ?_
      refine im_iald hF ar_25 (by decide) dX4_chooseRides_126 (fun h9 => ?_)
      refine im_iconst hF dX4_chooseRides_127 (v := (1 : Int32)) (by decide) ?_
      refine im_iadd hF dX4_chooseRides_128 ?_
      refine im_bdI (fun x10 => ?_)
      refine im_istore hF dX4_chooseRides_129 (lv' := [(8, .int x10), (7, .int x8), (11, .int x5), (10, .int x3), (0, .ref (g.2.1 4 0)), (1, .ref (g.2.1 0 0)), (3, .int a3), (5, .int a5), (9, .int a9)]) (by decide) rfl ?_
      refine im_aload_n hF dX4_chooseRides_131 4 rfl ?_
      refine im_dup hF dX4_chooseRides_132 rfl ?_
      refine im_get hF (v := .int (q1.2 4 0 6)) fl_4_31 (by decide) (by decide) rfl dX4_chooseRides_133 ?_
      refine im_iconst hF dX4_chooseRides_136 (v := (1 : Int32)) (by decide) ?_
      refine im_iadd hF dX4_chooseRides_137 ?_
      refine im_put hF ((q1.2 4 0 6) + (1 : Int32)) fp_4_31 (by decide) (by decide) rfl rfl rfl dX4_chooseRides_138 ?_
      refine im_bdS (fun s11 => ?_)
      refine im_iinc hF dX4_chooseRides_141 (v := (a9 + (-1 : Int32))) (lv' := [(9, .int (a9 + (-1 : Int32))), (8, .int x10), (7, .int x8), (11, .int x5), (10, .int x3), (0, .ref (g.2.1 4 0)), (1, .ref (g.2.1 0 0)), (3, .int a3), (5, .int a5)]) 8 rfl rfl (by decide) rfl ?_
      refine im_goto hF 48 dX4_chooseRides_144 (by decide) ?_
      refine im_sub (lv' := [(0, .ref (g.2.1 4 0)), (1, .ref (g.2.1 0 0)), (3, .int a3), (5, .int a5), (7, .int x8), (8, .int x10), (9, .int (a9 + (-1 : Int32)))]) [5, 6, 7, 8, 2, 1, 0] rfl ?_
      exact hk48 a3 a5 x8 x10 (a9 + (-1 : Int32)) s11
def f_X4_chooseRides_L48 : Nat → Int32 → Int32 → Int32 → Int32 → Int32 → Sg → Option Sg
  | 0 => fun _ _ _ _ _ _ => none
  | n + 1 => fun a3 a5 a7 a8 a9 s0 => f_X4_chooseRides_B48 (f_X4_chooseRides_L48 n) a3 a5 a7 a8 a9 s0
theorem i_X4_chooseRides_L48 (X : Cx) (g : GT) (hF : Fx X g RX4 cX4_chooseRides 12 4 104) (hM : FM X g none) (hI : GI g) : ∀ (n : Nat) (a3 : Int32) (a5 : Int32) (a7 : Int32) (a8 : Int32) (a9 : Int32) (s0 : Sg), Im X g 12 (Qm X g embV) s0 48 [(0, .ref (g.2.1 4 0)), (1, .ref (g.2.1 0 0)), (3, .int a3), (5, .int a5), (7, .int a7), (8, .int a8), (9, .int a9)] [] (f_X4_chooseRides_L48 n a3 a5 a7 a8 a9 s0) := by
  intro n
  induction n with
  | zero => intros; exact im_none
  | succ n ih => intro a3 a5 a7 a8 a9 s0; exact i_X4_chooseRides_B48 X g hF hM hI (f_X4_chooseRides_L48 n) ih a3 a5 a7 a8 a9 s0
def f_X4_chooseRides_B30 (a2 : Int32) (a3 : Int32) (a4 : Int32) (a5 : Int32) (a6 : Int32) (s0 : Sg) : Option Sg :=
  bdS (up3 s0 4 0 6 (0 : Int32)) fun s1 =>
  bdI (a6 - (1 : Int32)) fun x2 =>
  (f_X4_chooseRides_L48 FU) a3 a5 a2 a4 x2 s1
set_option maxRecDepth 4000 in
theorem i_X4_chooseRides_B30 (X : Cx) (g : GT) (hF : Fx X g RX4 cX4_chooseRides 12 4 104) (hM : FM X g none) (hI : GI g) (a2 : Int32) (a3 : Int32) (a4 : Int32) (a5 : Int32) (a6 : Int32) (s0 : Sg) : Im X g 12 (Qm X g embV) s0 30 [(0, .ref (g.2.1 4 0)), (1, .ref (g.2.1 0 0)), (2, .int a2), (3, .int a3), (4, .int a4), (5, .int a5), (6, .int a6)] [] (f_X4_chooseRides_B30 a2 a3 a4 a5 a6 s0) := by
  unfold f_X4_chooseRides_B30
  refine im_aload_n hF dX4_chooseRides_30 0 rfl ?_
  refine im_iconst hF dX4_chooseRides_31 (v := (0 : Int32)) (by decide) ?_
  refine im_put hF (0 : Int32) fp_4_31 (by decide) (by decide) rfl rfl rfl dX4_chooseRides_32 ?_
  refine im_bdS (fun s1 => ?_)
  refine im_iload_n hF dX4_chooseRides_35 2 rfl ?_
  refine im_istore hF dX4_chooseRides_36 (lv' := [(7, .int a2), (0, .ref (g.2.1 4 0)), (1, .ref (g.2.1 0 0)), (2, .int a2), (3, .int a3), (4, .int a4), (5, .int a5), (6, .int a6)]) (by decide) rfl ?_
  refine im_iload hF dX4_chooseRides_38 5 rfl ?_
  refine im_istore hF dX4_chooseRides_40 (lv' := [(8, .int a4), (7, .int a2), (0, .ref (g.2.1 4 0)), (1, .ref (g.2.1 0 0)), (2, .int a2), (3, .int a3), (4, .int a4), (5, .int a5), (6, .int a6)]) (by decide) rfl ?_
  refine im_iload hF dX4_chooseRides_42 8 rfl ?_
  refine im_iconst hF dX4_chooseRides_44 (v := (1 : Int32)) (by decide) ?_
  refine im_isub hF dX4_chooseRides_45 ?_
  refine im_bdI (fun x2 => ?_)
  refine im_istore hF dX4_chooseRides_46 (lv' := [(9, .int x2), (8, .int a4), (7, .int a2), (0, .ref (g.2.1 4 0)), (1, .ref (g.2.1 0 0)), (2, .int a2), (3, .int a3), (4, .int a4), (5, .int a5), (6, .int a6)]) (by decide) rfl ?_
  refine im_sub (lv' := [(0, .ref (g.2.1 4 0)), (1, .ref (g.2.1 0 0)), (3, .int a3), (5, .int a5), (7, .int a2), (8, .int a4), (9, .int x2)]) [3, 4, 6, 8, 2, 1, 0] rfl ?_
  exact (i_X4_chooseRides_L48 X g hF hM hI FU) a3 a5 a2 a4 x2 s1
def f_X4_chooseRides (a2 : Int32) (a3 : Int32) (a4 : Int32) (a5 : Int32) (s0 : Sg) : Option Sg :=
  (f_X4_chooseRides_L3 (f_X4_chooseRides_B30) FU) a2 a3 a4 a5 (1 : Int32) s0
set_option maxRecDepth 4000 in
theorem i_X4_chooseRides (X : Cx) (g : GT) (hF : Fx X g RX4 cX4_chooseRides 12 4 104) (hM : FM X g none) (hI : GI g) (a2 : Int32) (a3 : Int32) (a4 : Int32) (a5 : Int32) (s0 : Sg) : Im X g 12 (Qm X g embV) s0 0 [(0, .ref (g.2.1 4 0)), (1, .ref (g.2.1 0 0)), (2, .int a2), (3, .int a3), (4, .int a4), (5, .int a5)] [] (f_X4_chooseRides a2 a3 a4 a5 s0) := by
  unfold f_X4_chooseRides
  refine im_iconst hF dX4_chooseRides_0 (v := (1 : Int32)) (by decide) ?_
  refine im_istore hF dX4_chooseRides_1 (lv' := [(6, .int (1 : Int32)), (0, .ref (g.2.1 4 0)), (1, .ref (g.2.1 0 0)), (2, .int a2), (3, .int a3), (4, .int a4), (5, .int a5)]) (by decide) rfl ?_
  refine im_sub (lv' := [(0, .ref (g.2.1 4 0)), (1, .ref (g.2.1 0 0)), (2, .int a2), (3, .int a3), (4, .int a4), (5, .int a5), (6, .int (1 : Int32))]) [1, 2, 3, 4, 5, 6, 0] rfl ?_
  exact (i_X4_chooseRides_L3 X g hF hM hI (f_X4_chooseRides_B30) (i_X4_chooseRides_B30 X g hF hM hI) FU) a2 a3 a4 a5 (1 : Int32) s0
theorem c_X4_chooseRides (l : Launch) (g : GT) (hI : GI g) (a2 : Int32) (a3 : Int32) (a4 : Int32) (a5 : Int32) (s0 : Sg) (r : Sg) (hr : f_X4_chooseRides a2 a3 a4 a5 s0 = some r) : Ct l yX4_chooseRides cX4_chooseRides 12 none 4 104 g [.ref (g.2.1 4 0), .ref (g.2.1 0 0), .int a2, .int a3, .int a4, .int a5] s0 (embV r) := ct_of (by decide) hI (Nat.le_of_ble_eq_true rfl) (fun X hF hM => i_X4_chooseRides X g hF hM hI a2 a3 a4 a5 s0) r hr
def f_X9_first_B33 (a1 : Int32) (a2 : Int32) (a3 : Int32) (a4 : Int32) (s0 : Sg) : Option (Int32 × Sg) :=
  Option.bind (f_X4_layOut a4 s0) fun q1 =>
  Option.bind (f_X4_firstComing a1 a2 a3 q1) fun q2 =>
  if q2.1 = (-1 : Int32) then
  some (q2.1, q2.2)
  else
  Option.bind (f_X4_reckonLatest a2 q2.1 q2.2) fun q3 =>
  Option.bind (f_X4_chooseRides a1 a2 a3 q2.1 q3) fun q4 =>
  some (q2.1, q4)
set_option maxRecDepth 4000 in
theorem i_X9_first_B33 (X : Cx) (g : GT) (hF : Fx X g RX9 cX9_first 6 7 170) (hM : FM X g (some .int)) (hI : GI g) (a1 : Int32) (a2 : Int32) (a3 : Int32) (a4 : Int32) (s0 : Sg) : Im X g 6 (Qm X g embI) s0 33 [(0, .ref (g.2.1 9 0)), (1, .int a1), (2, .int a2), (3, .int a3), (4, .int a4)] [] (f_X9_first_B33 a1 a2 a3 a4 s0) := by
  unfold f_X9_first_B33
  refine im_aload_n hF dX9_first_33 0 rfl ?_
  refine im_get hF (v := .ref (g.2.1 4 0)) fl_9_40 (by decide) (by decide) rfl dX9_first_34 ?_
  refine im_aload_n hF dX9_first_37 0 rfl ?_
  refine im_get hF (v := .ref (g.2.1 0 0)) fl_9_10 (by decide) (by decide) rfl dX9_first_38 ?_
  refine im_aload_n hF dX9_first_41 0 rfl ?_
  refine im_get hF (v := .ref (g.2.1 3 0)) fl_9_33 (by decide) (by decide) rfl dX9_first_42 ?_
  refine im_iload hF dX9_first_45 4 rfl ?_
  refine im_callVV hF (As := [.ref (g.2.1 0 0), .ref (g.2.1 3 0), .int a4]) (rest := []) my_X4_layOut mv_X4_layOut wl_677 (fun l r hr => c_X4_layOut l g hI a4 s0 r hr) ⟨by decide, by decide⟩ (by decide) (by decide) ⟨_, rfl, rfl⟩ rfl rfl (Nat.le_of_ble_eq_true rfl) dX9_first_47 (fun q1 => ?_)
  refine im_aload_n hF dX9_first_50 0 rfl ?_
  refine im_get hF (v := .ref (g.2.1 4 0)) fl_9_40 (by decide) (by decide) rfl dX9_first_51 ?_
  refine im_aload_n hF dX9_first_54 0 rfl ?_
  refine im_get hF (v := .ref (g.2.1 0 0)) fl_9_10 (by decide) (by decide) rfl dX9_first_55 ?_
  refine im_iload_n hF dX9_first_58 1 rfl ?_
  refine im_iload_n hF dX9_first_59 2 rfl ?_
  refine im_iload_n hF dX9_first_60 3 rfl ?_
  refine im_callVI hF (As := [.ref (g.2.1 0 0), .int a1, .int a2, .int a3]) (rest := []) my_X4_firstComing mv_X4_firstComing wl_687 (fun l r hr => c_X4_firstComing l g hI a1 a2 a3 q1 r hr) ⟨by decide, by decide⟩ (by decide) (by decide) ⟨_, rfl, rfl⟩ rfl rfl (Nat.le_of_ble_eq_true rfl) dX9_first_61 (fun q2 => ?_)
  refine im_istore hF dX9_first_64 (lv' := [(5, .int q2.1), (0, .ref (g.2.1 9 0)), (1, .int a1), (2, .int a2), (3, .int a3), (4, .int a4)]) (by decide) rfl ?_
  refine im_iload hF dX9_first_66 0 rfl ?_
  refine im_iconst hF dX9_first_68 (v := (-1 : Int32)) (by decide) ?_
  refine im_icmp_eq hF 102 dX9_first_69 (by decide) (fun _ => ?_) (fun _ => ?_)
  · refine im_iload hF dX9_first_102 0 rfl ?_
    exact im_iret hF hM dX9_first_104
  · refine im_aload_n hF dX9_first_72 1 rfl ?_
    refine im_get hF (v := .ref (g.2.1 4 0)) fl_9_40 (by decide) (by decide) rfl dX9_first_73 ?_
    refine im_aload_n hF dX9_first_76 1 rfl ?_
    refine im_get hF (v := .ref (g.2.1 0 0)) fl_9_10 (by decide) (by decide) rfl dX9_first_77 ?_
    refine im_iload_n hF dX9_first_80 3 rfl ?_
    refine im_iload hF dX9_first_81 0 rfl ?_
    refine im_callVV hF (As := [.ref (g.2.1 0 0), .int a2, .int q2.1]) (rest := []) my_X4_reckonLatest mv_X4_reckonLatest wl_697 (fun l r hr => c_X4_reckonLatest l g hI a2 q2.1 q2.2 r hr) ⟨by decide, by decide⟩ (by decide) (by decide) ⟨_, rfl, rfl⟩ rfl rfl (Nat.le_of_ble_eq_true rfl) dX9_first_83 (fun q3 => ?_)
    refine im_aload_n hF dX9_first_86 1 rfl ?_
    refine im_get hF (v := .ref (g.2.1 4 0)) fl_9_40 (by decide) (by decide) rfl dX9_first_87 ?_
    refine im_aload_n hF dX9_first_90 1 rfl ?_
    refine im_get hF (v := .ref (g.2.1 0 0)) fl_9_10 (by decide) (by decide) rfl dX9_first_91 ?_
    refine im_iload_n hF dX9_first_94 2 rfl ?_
    refine im_iload_n hF dX9_first_95 3 rfl ?_
    refine im_iload_n hF dX9_first_96 4 rfl ?_
    refine im_iload hF dX9_first_97 0 rfl ?_
    refine im_callVV hF (As := [.ref (g.2.1 0 0), .int a1, .int a2, .int a3, .int q2.1]) (rest := []) my_X4_chooseRides mv_X4_chooseRides wl_716 (fun l r hr => c_X4_chooseRides l g hI a1 a2 a3 q2.1 q3 r hr) ⟨by decide, by decide⟩ (by decide) (by decide) ⟨_, rfl, rfl⟩ rfl rfl (Nat.le_of_ble_eq_true rfl) dX9_first_99 (fun q4 => ?_)
    refine im_iload hF dX9_first_102 0 rfl ?_
    exact im_iret hF hM dX9_first_104
def f_X9_first (a1 : Int32) (a2 : Int32) (a3 : Int32) (a4 : Int32) (s0 : Sg) : Option (Int32 × Sg) :=
  Option.bind (f_X9_areTwoPorts a1 a2 s0) fun q1 =>
  if q1.1 = 0 then
  some ((-1 : Int32), q1.2)
  else
  Option.bind (f_X9_isAskedHour a3 q1.2) fun q2 =>
  if q2.1 = 0 then
  some ((-1 : Int32), q2.2)
  else
  if a4 = 0 then
  (f_X9_first_B33) a1 a2 a3 a4 q2.2
  else
  Option.bind (f_X3_bringUpToDate q2.2) fun q3 =>
  (f_X9_first_B33) a1 a2 a3 a4 q3
set_option maxRecDepth 4000 in
theorem i_X9_first (X : Cx) (g : GT) (hF : Fx X g RX9 cX9_first 6 7 170) (hM : FM X g (some .int)) (hI : GI g) (a1 : Int32) (a2 : Int32) (a3 : Int32) (a4 : Int32) (s0 : Sg) : Im X g 6 (Qm X g embI) s0 0 [(0, .ref (g.2.1 9 0)), (1, .int a1), (2, .int a2), (3, .int a3), (4, .int a4)] [] (f_X9_first a1 a2 a3 a4 s0) := by
  unfold f_X9_first
  refine im_iload_n hF dX9_first_0 1 rfl ?_
  refine im_iload_n hF dX9_first_1 2 rfl ?_
  refine im_callSI hF (As := [.int a1, .int a2]) (rest := []) my_X9_areTwoPorts ms_X9_areTwoPorts wl_377 (fun l r hr => c_X9_areTwoPorts l g hI a1 a2 s0 r hr) ⟨by decide, by decide⟩ rfl rfl (Nat.le_of_ble_eq_true rfl) dX9_first_2 (fun q1 => ?_)
  refine im_if_eq hF 15 dX9_first_5 (by decide) (fun _ => ?_) (fun _ => ?_)
  · refine im_iconst hF dX9_first_15 (v := (-1 : Int32)) (by decide) ?_
    exact im_iret hF hM dX9_first_16
  · refine im_iload_n hF dX9_first_8 3 rfl ?_
    refine im_callSI hF (As := [.int a3]) (rest := []) my_X9_isAskedHour ms_X9_isAskedHour wl_674 (fun l r hr => c_X9_isAskedHour l g hI a3 q1.2 r hr) ⟨by decide, by decide⟩ rfl rfl (Nat.le_of_ble_eq_true rfl) dX9_first_9 (fun q2 => ?_)
    refine im_if_ne hF 17 dX9_first_12 (by decide) (fun _ => ?_) (fun _ => ?_)
    · refine im_iconst hF dX9_first_15 (v := (-1 : Int32)) (by decide) ?_
      exact im_iret hF hM dX9_first_16
    · refine im_iload hF dX9_first_17 4 rfl ?_
      refine im_if_eq hF 33 dX9_first_19 (by decide) (fun _ => ?_) (fun _ => ?_)
      · exact (i_X9_first_B33 X g hF hM hI) a1 a2 a3 a4 q2.2
      · refine im_aload_n hF dX9_first_22 0 rfl ?_
        refine im_get hF (v := .ref (g.2.1 3 0)) fl_9_33 (by decide) (by decide) rfl dX9_first_23 ?_
        refine im_aload_n hF dX9_first_26 0 rfl ?_
        refine im_get hF (v := .ref (g.2.1 0 0)) fl_9_10 (by decide) (by decide) rfl dX9_first_27 ?_
        refine im_callVV hF (As := [.ref (g.2.1 0 0)]) (rest := []) my_X3_bringUpToDate mv_X3_bringUpToDate wl_539 (fun l r hr => c_X3_bringUpToDate l g hI  q2.2 r hr) ⟨by decide, by decide⟩ (by decide) (by decide) ⟨_, rfl, rfl⟩ rfl rfl (Nat.le_of_ble_eq_true rfl) dX9_first_30 (fun q3 => ?_)
        exact (i_X9_first_B33 X g hF hM hI) a1 a2 a3 a4 q3
theorem c_X9_first (l : Launch) (g : GT) (hI : GI g) (a1 : Int32) (a2 : Int32) (a3 : Int32) (a4 : Int32) (s0 : Sg) (r : (Int32 × Sg)) (hr : f_X9_first a1 a2 a3 a4 s0 = some r) : Ct l yX9_first cX9_first 6 (some .int) 7 170 g [.ref (g.2.1 9 0), .int a1, .int a2, .int a3, .int a4] s0 (embI r) := ct_of (by decide) hI (Nat.le_of_ble_eq_true rfl) (fun X hF hM => i_X9_first X g hF hM hI a1 a2 a3 a4 s0) r hr
def f_X9_last_B33 (a1 : Int32) (a2 : Int32) (a3 : Int32) (a4 : Int32) (s0 : Sg) : Option (Int32 × Sg) :=
  Option.bind (f_X4_layOut a4 s0) fun q1 =>
  Option.bind (f_X4_reckonLatest a2 a3 q1) fun q2 =>
  Option.bind (f_X4_latestFrom a1 (q2 4 0 4) q2) fun q3 =>
  some (q3.1, q3.2)
set_option maxRecDepth 4000 in
theorem i_X9_last_B33 (X : Cx) (g : GT) (hF : Fx X g RX9 cX9_last 5 7 170) (hM : FM X g (some .int)) (hI : GI g) (a1 : Int32) (a2 : Int32) (a3 : Int32) (a4 : Int32) (s0 : Sg) : Im X g 5 (Qm X g embI) s0 33 [(0, .ref (g.2.1 9 0)), (1, .int a1), (2, .int a2), (3, .int a3), (4, .int a4)] [] (f_X9_last_B33 a1 a2 a3 a4 s0) := by
  unfold f_X9_last_B33
  refine im_aload_n hF dX9_last_33 0 rfl ?_
  refine im_get hF (v := .ref (g.2.1 4 0)) fl_9_40 (by decide) (by decide) rfl dX9_last_34 ?_
  refine im_aload_n hF dX9_last_37 0 rfl ?_
  refine im_get hF (v := .ref (g.2.1 0 0)) fl_9_10 (by decide) (by decide) rfl dX9_last_38 ?_
  refine im_aload_n hF dX9_last_41 0 rfl ?_
  refine im_get hF (v := .ref (g.2.1 3 0)) fl_9_33 (by decide) (by decide) rfl dX9_last_42 ?_
  refine im_iload hF dX9_last_45 4 rfl ?_
  refine im_callVV hF (As := [.ref (g.2.1 0 0), .ref (g.2.1 3 0), .int a4]) (rest := []) my_X4_layOut mv_X4_layOut wl_677 (fun l r hr => c_X4_layOut l g hI a4 s0 r hr) ⟨by decide, by decide⟩ (by decide) (by decide) ⟨_, rfl, rfl⟩ rfl rfl (Nat.le_of_ble_eq_true rfl) dX9_last_47 (fun q1 => ?_)
  refine im_aload_n hF dX9_last_50 0 rfl ?_
  refine im_get hF (v := .ref (g.2.1 4 0)) fl_9_40 (by decide) (by decide) rfl dX9_last_51 ?_
  refine im_aload_n hF dX9_last_54 0 rfl ?_
  refine im_get hF (v := .ref (g.2.1 0 0)) fl_9_10 (by decide) (by decide) rfl dX9_last_55 ?_
  refine im_iload_n hF dX9_last_58 2 rfl ?_
  refine im_iload_n hF dX9_last_59 3 rfl ?_
  refine im_callVV hF (As := [.ref (g.2.1 0 0), .int a2, .int a3]) (rest := []) my_X4_reckonLatest mv_X4_reckonLatest wl_697 (fun l r hr => c_X4_reckonLatest l g hI a2 a3 q1 r hr) ⟨by decide, by decide⟩ (by decide) (by decide) ⟨_, rfl, rfl⟩ rfl rfl (Nat.le_of_ble_eq_true rfl) dX9_last_60 (fun q2 => ?_)
  refine im_aload_n hF dX9_last_63 0 rfl ?_
  refine im_get hF (v := .ref (g.2.1 4 0)) fl_9_40 (by decide) (by decide) rfl dX9_last_64 ?_
  refine im_iload_n hF dX9_last_67 1 rfl ?_
  refine im_aload_n hF dX9_last_68 0 rfl ?_
  refine im_get hF (v := .ref (g.2.1 4 0)) fl_9_40 (by decide) (by decide) rfl dX9_last_69 ?_
  refine im_get hF (v := .int (q2 4 0 4)) fl_9_239 (by decide) (by decide) rfl dX9_last_72 ?_
  refine im_callVI hF (As := [.int a1, .int (q2 4 0 4)]) (rest := []) my_X4_latestFrom mv_X4_latestFrom wl_736 (fun l r hr => c_X4_latestFrom l g hI a1 (q2 4 0 4) q2 r hr) ⟨by decide, by decide⟩ (by decide) (by decide) ⟨_, rfl, rfl⟩ rfl rfl (Nat.le_of_ble_eq_true rfl) dX9_last_75 (fun q3 => ?_)
  exact im_iret hF hM dX9_last_78
def f_X9_last (a1 : Int32) (a2 : Int32) (a3 : Int32) (a4 : Int32) (s0 : Sg) : Option (Int32 × Sg) :=
  Option.bind (f_X9_areTwoPorts a1 a2 s0) fun q1 =>
  if q1.1 = 0 then
  some ((-1 : Int32), q1.2)
  else
  Option.bind (f_X9_isAskedHour a3 q1.2) fun q2 =>
  if q2.1 = 0 then
  some ((-1 : Int32), q2.2)
  else
  if a4 = 0 then
  (f_X9_last_B33) a1 a2 a3 a4 q2.2
  else
  Option.bind (f_X3_bringUpToDate q2.2) fun q3 =>
  (f_X9_last_B33) a1 a2 a3 a4 q3
set_option maxRecDepth 4000 in
theorem i_X9_last (X : Cx) (g : GT) (hF : Fx X g RX9 cX9_last 5 7 170) (hM : FM X g (some .int)) (hI : GI g) (a1 : Int32) (a2 : Int32) (a3 : Int32) (a4 : Int32) (s0 : Sg) : Im X g 5 (Qm X g embI) s0 0 [(0, .ref (g.2.1 9 0)), (1, .int a1), (2, .int a2), (3, .int a3), (4, .int a4)] [] (f_X9_last a1 a2 a3 a4 s0) := by
  unfold f_X9_last
  refine im_iload_n hF dX9_last_0 1 rfl ?_
  refine im_iload_n hF dX9_last_1 2 rfl ?_
  refine im_callSI hF (As := [.int a1, .int a2]) (rest := []) my_X9_areTwoPorts ms_X9_areTwoPorts wl_377 (fun l r hr => c_X9_areTwoPorts l g hI a1 a2 s0 r hr) ⟨by decide, by decide⟩ rfl rfl (Nat.le_of_ble_eq_true rfl) dX9_last_2 (fun q1 => ?_)
  refine im_if_eq hF 15 dX9_last_5 (by decide) (fun _ => ?_) (fun _ => ?_)
  · refine im_iconst hF dX9_last_15 (v := (-1 : Int32)) (by decide) ?_
    exact im_iret hF hM dX9_last_16
  · refine im_iload_n hF dX9_last_8 3 rfl ?_
    refine im_callSI hF (As := [.int a3]) (rest := []) my_X9_isAskedHour ms_X9_isAskedHour wl_674 (fun l r hr => c_X9_isAskedHour l g hI a3 q1.2 r hr) ⟨by decide, by decide⟩ rfl rfl (Nat.le_of_ble_eq_true rfl) dX9_last_9 (fun q2 => ?_)
    refine im_if_ne hF 17 dX9_last_12 (by decide) (fun _ => ?_) (fun _ => ?_)
    · refine im_iconst hF dX9_last_15 (v := (-1 : Int32)) (by decide) ?_
      exact im_iret hF hM dX9_last_16
    · refine im_iload hF dX9_last_17 4 rfl ?_
      refine im_if_eq hF 33 dX9_last_19 (by decide) (fun _ => ?_) (fun _ => ?_)
      · exact (i_X9_last_B33 X g hF hM hI) a1 a2 a3 a4 q2.2
      · refine im_aload_n hF dX9_last_22 0 rfl ?_
        refine im_get hF (v := .ref (g.2.1 3 0)) fl_9_33 (by decide) (by decide) rfl dX9_last_23 ?_
        refine im_aload_n hF dX9_last_26 0 rfl ?_
        refine im_get hF (v := .ref (g.2.1 0 0)) fl_9_10 (by decide) (by decide) rfl dX9_last_27 ?_
        refine im_callVV hF (As := [.ref (g.2.1 0 0)]) (rest := []) my_X3_bringUpToDate mv_X3_bringUpToDate wl_539 (fun l r hr => c_X3_bringUpToDate l g hI  q2.2 r hr) ⟨by decide, by decide⟩ (by decide) (by decide) ⟨_, rfl, rfl⟩ rfl rfl (Nat.le_of_ble_eq_true rfl) dX9_last_30 (fun q3 => ?_)
        exact (i_X9_last_B33 X g hF hM hI) a1 a2 a3 a4 q3
theorem c_X9_last (l : Launch) (g : GT) (hI : GI g) (a1 : Int32) (a2 : Int32) (a3 : Int32) (a4 : Int32) (s0 : Sg) (r : (Int32 × Sg)) (hr : f_X9_last a1 a2 a3 a4 s0 = some r) : Ct l yX9_last cX9_last 5 (some .int) 7 170 g [.ref (g.2.1 9 0), .int a1, .int a2, .int a3, .int a4] s0 (embI r) := ct_of (by decide) hI (Nat.le_of_ble_eq_true rfl) (fun X hF hM => i_X9_last X g hF hM hI a1 a2 a3 a4 s0) r hr
def f_X9_ride (a1 : Int32) (a2 : Int32) (s0 : Sg) : Option (Int32 × Sg) :=
  if a1 < 0 then
  some ((-1 : Int32), s0)
  else
  if (s0 4 0 6) ≤ a1 then
  some ((-1 : Int32), s0)
  else
  if a2 < 0 then
  some ((-1 : Int32), s0)
  else
  if a2 < (3 : Int32) then
  chk (gi ((a1 * (3 : Int32)) + a2) 30) (
  some ((s0 29 0 ((a1 * (3 : Int32)) + a2).toNatClampNeg), s0))
  else
  some ((-1 : Int32), s0)
set_option maxRecDepth 4000 in
theorem i_X9_ride (X : Cx) (g : GT) (hF : Fx X g RX9 cX9_ride 3 0 0) (hM : FM X g (some .int)) (hI : GI g) (a1 : Int32) (a2 : Int32) (s0 : Sg) : Im X g 3 (Qm X g embI) s0 0 [(0, .ref (g.2.1 9 0)), (1, .int a1), (2, .int a2)] [] (f_X9_ride a1 a2 s0) := by
  unfold f_X9_ride
  refine im_iload_n hF dX9_ride_0 1 rfl ?_
  refine im_if_lt hF 24 dX9_ride_1 (by decide) (fun _ => ?_) (fun _ => ?_)
  · refine im_iconst hF dX9_ride_24 (v := (-1 : Int32)) (by decide) ?_
    exact im_iret hF hM dX9_ride_25
  · refine im_iload_n hF dX9_ride_4 1 rfl ?_
    refine im_aload_n hF dX9_ride_5 0 rfl ?_
    refine im_get hF (v := .ref (g.2.1 4 0)) fl_9_40 (by decide) (by decide) rfl dX9_ride_6 ?_
    refine im_get hF (v := .int (s0 4 0 6)) fl_9_245 (by decide) (by decide) rfl dX9_ride_9 ?_
    refine im_icmp_ge hF 24 dX9_ride_12 (by decide) (fun _ => ?_) (fun _ => ?_)
    · refine im_iconst hF dX9_ride_24 (v := (-1 : Int32)) (by decide) ?_
      exact im_iret hF hM dX9_ride_25
    · refine im_iload_n hF dX9_ride_15 2 rfl ?_
      refine im_if_lt hF 24 dX9_ride_16 (by decide) (fun _ => ?_) (fun _ => ?_)
      · refine im_iconst hF dX9_ride_24 (v := (-1 : Int32)) (by decide) ?_
        exact im_iret hF hM dX9_ride_25
      · refine im_iload_n hF dX9_ride_19 2 rfl ?_
        refine im_iconst hF dX9_ride_20 (v := (3 : Int32)) (by decide) ?_
        refine im_icmp_lt hF 26 dX9_ride_21 (by decide) (fun _ => ?_) (fun _ => ?_)
        · refine im_aload_n hF dX9_ride_26 0 rfl ?_
          refine im_get hF (v := .ref (g.2.1 4 0)) fl_9_40 (by decide) (by decide) rfl dX9_ride_27 ?_
          refine im_get hF (v := .ref (g.2.1 29 0)) fl_9_248 (by decide) (by decide) rfl dX9_ride_30 ?_
          refine im_iload_n hF dX9_ride_33 1 rfl ?_
          refine im_iconst hF dX9_ride_34 (v := (3 : Int32)) (by decide) ?_
          refine im_imul hF dX9_ride_35 ?_
          refine im_iload_n hF dX9_ride_36 2 rfl ?_
          refine im_iadd hF dX9_ride_37 ?_
          refine im_iald hF ar_29 (by decide) dX9_ride_38 (fun h1 => ?_)
          exact im_iret hF hM dX9_ride_39
        · refine im_iconst hF dX9_ride_24 (v := (-1 : Int32)) (by decide) ?_
          exact im_iret hF hM dX9_ride_25
theorem c_X9_ride (l : Launch) (g : GT) (hI : GI g) (a1 : Int32) (a2 : Int32) (s0 : Sg) (r : (Int32 × Sg)) (hr : f_X9_ride a1 a2 s0 = some r) : Ct l yX9_ride cX9_ride 3 (some .int) 0 0 g [.ref (g.2.1 9 0), .int a1, .int a2] s0 (embI r) := ct_of (by decide) hI (Nat.le_of_ble_eq_true rfl) (fun X hF hM => i_X9_ride X g hF hM hI a1 a2 s0) r hr
def f_X9_look (a1 : Int32) (a2 : Int32) (s0 : Sg) : Option (Int32 × Sg) :=
  Option.bind (f_X0_hasVoyage a1 s0) fun q1 =>
  if q1.1 = 0 then
  some ((-1 : Int32), q1.2)
  else
  chk (gi a1 10) (
  if a2 = (0 : Int32) then
  some ((q1.2 8 a1.toNatClampNeg 0), q1.2)
  else
  if a2 = (1 : Int32) then
  some ((q1.2 8 a1.toNatClampNeg 1), q1.2)
  else
  if a2 = (2 : Int32) then
  some ((q1.2 8 a1.toNatClampNeg 2), q1.2)
  else
  if a2 = (3 : Int32) then
  some ((q1.2 8 a1.toNatClampNeg 3), q1.2)
  else
  if a2 = (4 : Int32) then
  some ((q1.2 8 a1.toNatClampNeg 4), q1.2)
  else
  if a2 = (5 : Int32) then
  Option.bind (f_X8_endPort a1.toNatClampNeg q1.2) fun q9 =>
  some (q9.1, q9.2)
  else
  if a2 < (10 : Int32) then
  some ((-1 : Int32), q1.2)
  else
  Option.bind (f_X8_hasPlace a1.toNatClampNeg (a2 - (10 : Int32)) q1.2) fun q10 =>
  if q10.1 = 0 then
  some ((-1 : Int32), q10.2)
  else
  chk (gi (a2 - (10 : Int32)) 7) (
  some ((q10.2 36 a1.toNatClampNeg (a2 - (10 : Int32)).toNatClampNeg), q10.2)))
set_option maxRecDepth 4000 in
theorem i_X9_look (X : Cx) (g : GT) (hF : Fx X g RX9 cX9_look 4 1 21) (hM : FM X g (some .int)) (hI : GI g) (a1 : Int32) (a2 : Int32) (s0 : Sg) : Im X g 4 (Qm X g embI) s0 0 [(0, .ref (g.2.1 9 0)), (1, .int a1), (2, .int a2)] [] (f_X9_look a1 a2 s0) := by
  unfold f_X9_look
  refine im_aload_n hF dX9_look_0 0 rfl ?_
  refine im_get hF (v := .ref (g.2.1 0 0)) fl_9_10 (by decide) (by decide) rfl dX9_look_1 ?_
  refine im_iload_n hF dX9_look_4 1 rfl ?_
  refine im_callVI hF (As := [.int a1]) (rest := []) my_X0_hasVoyage mv_X0_hasVoyage wl_415 (fun l r hr => c_X0_hasVoyage l g hI a1 s0 r hr) ⟨by decide, by decide⟩ (by decide) (by decide) ⟨_, rfl, rfl⟩ rfl rfl (Nat.le_of_ble_eq_true rfl) dX9_look_5 (fun q1 => ?_)
  refine im_if_ne hF 13 dX9_look_8 (by decide) (fun _ => ?_) (fun _ => ?_)
  · refine im_iconst hF dX9_look_11 (v := (-1 : Int32)) (by decide) ?_
    exact im_iret hF hM dX9_look_12
  · refine im_aload_n hF dX9_look_13 0 rfl ?_
    refine im_get hF (v := .ref (g.2.1 0 0)) fl_9_10 (by decide) (by decide) rfl dX9_look_14 ?_
    refine im_get hF (v := .ref (g.2.1 11 0)) fl_9_96 (by decide) (by decide) rfl dX9_look_17 ?_
    refine im_iload_n hF dX9_look_20 1 rfl ?_
    refine im_aald11 hF dX9_look_21 (fun h2 => ?_)
    refine im_astore_n hF dX9_look_22 (lv' := [(3, .ref (g.2.1 8 a1.toNatClampNeg)), (0, .ref (g.2.1 9 0)), (1, .int a1), (2, .int a2)]) rfl (by decide) rfl ?_
    refine im_iload_n hF dX9_look_23 3 rfl ?_
    refine im_ite (fun h3 => ?_) (fun h3 => ?_)
    · refine im_tableIn hF 64 dX9_look_24 (by rw [h3]; decide) (by rw [h3]; decide) (by rw [h3]; rfl) (by decide) ?_
      refine im_aload_n hF dX9_look_64 0 rfl ?_
      refine im_get hF (v := .int (q1.2 8 a1.toNatClampNeg 0)) fl_9_214 (by decide) (gi_lt h2) rfl dX9_look_65 ?_
      exact im_iret hF hM dX9_look_68
    · refine im_ite (fun h4 => ?_) (fun h4 => ?_)
      · refine im_tableIn hF 69 dX9_look_24 (by rw [h4]; decide) (by rw [h4]; decide) (by rw [h4]; rfl) (by decide) ?_
        refine im_aload_n hF dX9_look_69 0 rfl ?_
        refine im_get hF (v := .int (q1.2 8 a1.toNatClampNeg 1)) fl_9_251 (by decide) (gi_lt h2) rfl dX9_look_70 ?_
        exact im_iret hF hM dX9_look_73
      · refine im_ite (fun h5 => ?_) (fun h5 => ?_)
        · refine im_tableIn hF 74 dX9_look_24 (by rw [h5]; decide) (by rw [h5]; decide) (by rw [h5]; rfl) (by decide) ?_
          refine im_aload_n hF dX9_look_74 0 rfl ?_
          refine im_get hF (v := .int (q1.2 8 a1.toNatClampNeg 2)) fl_9_254 (by decide) (gi_lt h2) rfl dX9_look_75 ?_
          exact im_iret hF hM dX9_look_78
        · refine im_ite (fun h6 => ?_) (fun h6 => ?_)
          · refine im_tableIn hF 79 dX9_look_24 (by rw [h6]; decide) (by rw [h6]; decide) (by rw [h6]; rfl) (by decide) ?_
            refine im_aload_n hF dX9_look_79 0 rfl ?_
            refine im_get hF (v := .int (q1.2 8 a1.toNatClampNeg 3)) fl_9_257 (by decide) (gi_lt h2) rfl dX9_look_80 ?_
            exact im_iret hF hM dX9_look_83
          · refine im_ite (fun h7 => ?_) (fun h7 => ?_)
            · refine im_tableIn hF 84 dX9_look_24 (by rw [h7]; decide) (by rw [h7]; decide) (by rw [h7]; rfl) (by decide) ?_
              refine im_aload_n hF dX9_look_84 0 rfl ?_
              refine im_get hF (v := .int (q1.2 8 a1.toNatClampNeg 4)) fl_9_109 (by decide) (gi_lt h2) rfl dX9_look_85 ?_
              exact im_iret hF hM dX9_look_88
            · refine im_ite (fun h8 => ?_) (fun h8 => ?_)
              · refine im_tableIn hF 89 dX9_look_24 (by rw [h8]; decide) (by rw [h8]; decide) (by rw [h8]; rfl) (by decide) ?_
                refine im_aload_n hF dX9_look_89 0 rfl ?_
                refine im_callVI hF (As := []) (rest := []) my_X8_endPort mv_X8_endPort wl_419 (fun l r hr => c_X8_endPort l g hI a1.toNatClampNeg (gi_lt h2) q1.2 r hr) ⟨by decide, by decide⟩ (by decide) (gi_lt h2) ⟨_, rfl, rfl⟩ rfl rfl (Nat.le_of_ble_eq_true rfl) dX9_look_90 (fun q9 => ?_)
                exact im_iret hF hM dX9_look_93
              · refine im_tableOut hF 94 dX9_look_24 (by have := lv_neT h3 (a := 0) rfl; have := lv_neT h4 (a := 1) rfl; have := lv_neT h5 (a := 2) rfl; have := lv_neT h6 (a := 3) rfl; have := lv_neT h7 (a := 4) rfl; have := lv_neT h8 (a := 5) rfl; omega) (by decide) ?_
                refine im_iload_n hF dX9_look_94 3 rfl ?_
                refine im_bipush hF dX9_look_95 (v := (10 : Int32)) (by decide) ?_
                refine im_icmp_lt hF 123 dX9_look_97 (by decide) (fun _ => ?_) (fun _ => ?_)
                · refine im_iconst hF dX9_look_123 (v := (-1 : Int32)) (by decide) ?_
                  exact im_iret hF hM dX9_look_124
                · refine im_aload_n hF dX9_look_100 0 rfl ?_
                  refine im_iload_n hF dX9_look_101 3 rfl ?_
                  refine im_bipush hF dX9_look_102 (v := (10 : Int32)) (by decide) ?_
                  refine im_isub hF dX9_look_104 ?_
                  refine im_callVI hF (As := [.int (a2 - (10 : Int32))]) (rest := []) my_X8_hasPlace mv_X8_hasPlace wl_535 (fun l r hr => c_X8_hasPlace l g hI a1.toNatClampNeg (a2 - (10 : Int32)) (gi_lt h2) q1.2 r hr) ⟨by decide, by decide⟩ (by decide) (gi_lt h2) ⟨_, rfl, rfl⟩ rfl rfl (Nat.le_of_ble_eq_true rfl) dX9_look_105 (fun q10 => ?_)
                  refine im_if_eq hF 123 dX9_look_108 (by decide) (fun _ => ?_) (fun _ => ?_)
                  · refine im_iconst hF dX9_look_123 (v := (-1 : Int32)) (by decide) ?_
                    exact im_iret hF hM dX9_look_124
                  · refine im_aload_n hF dX9_look_111 0 rfl ?_
                    refine im_get hF (v := .ref (g.2.1 36 a1.toNatClampNeg)) fl_9_139 (by decide) (gi_lt h2) rfl dX9_look_112 ?_
                    refine im_iload_n hF dX9_look_115 3 rfl ?_
                    refine im_bipush hF dX9_look_116 (v := (10 : Int32)) (by decide) ?_
                    refine im_isub hF dX9_look_118 ?_
                    refine im_iald hF ar_36 (gi_lt h2) dX9_look_119 (fun h11 => ?_)
                    refine im_goto hF 124 dX9_look_120 (by decide) ?_
                    exact im_iret hF hM dX9_look_124
theorem c_X9_look (l : Launch) (g : GT) (hI : GI g) (a1 : Int32) (a2 : Int32) (s0 : Sg) (r : (Int32 × Sg)) (hr : f_X9_look a1 a2 s0 = some r) : Ct l yX9_look cX9_look 4 (some .int) 1 21 g [.ref (g.2.1 9 0), .int a1, .int a2] s0 (embI r) := ct_of (by decide) hI (Nat.le_of_ble_eq_true rfl) (fun X hF hM => i_X9_look X g hF hM hI a1 a2 s0) r hr
def f_X9_count_B99 (a1 : Int32) (s0 : Sg) : Option (Int32 × Sg) :=
  if a1 < (100 : Int32) then
  some ((-1 : Int32), s0)
  else
  Option.bind (f_X1_has ((a1 - (100 : Int32)) / (12 : Int32)) s0) fun q1 =>
  if q1.1 = 0 then
  some ((-1 : Int32), q1.2)
  else
  chk (gi (a1 - (100 : Int32)) 144) (
  some (((q1.2 17 0 (a1 - (100 : Int32)).toNatClampNeg) + (1000 : Int32)), q1.2))
set_option maxRecDepth 4000 in
theorem i_X9_count_B99 (X : Cx) (g : GT) (hF : Fx X g RX9 cX9_count 2 1 21) (hM : FM X g (some .int)) (hI : GI g) (a1 : Int32) (s0 : Sg) : Im X g 2 (Qm X g embI) s0 99 [(0, .ref (g.2.1 9 0)), (1, .int a1)] [] (f_X9_count_B99 a1 s0) := by
  unfold f_X9_count_B99
  refine im_iload_n hF dX9_count_99 1 rfl ?_
  refine im_bipush hF dX9_count_100 (v := (100 : Int32)) (by decide) ?_
  refine im_icmp_lt hF 145 dX9_count_102 (by decide) (fun _ => ?_) (fun _ => ?_)
  · refine im_iconst hF dX9_count_145 (v := (-1 : Int32)) (by decide) ?_
    exact im_iret hF hM dX9_count_146
  · refine im_aload_n hF dX9_count_105 0 rfl ?_
    refine im_get hF (v := .ref (g.2.1 0 0)) fl_9_10 (by decide) (by decide) rfl dX9_count_106 ?_
    refine im_get hF (v := .ref (g.2.1 1 0)) fl_9_56 (by decide) (by decide) rfl dX9_count_109 ?_
    refine im_iload_n hF dX9_count_112 1 rfl ?_
    refine im_bipush hF dX9_count_113 (v := (100 : Int32)) (by decide) ?_
    refine im_isub hF dX9_count_115 ?_
    refine im_bipush hF dX9_count_116 (v := (12 : Int32)) (by decide) ?_
    refine im_idiv hF dX9_count_118 (by decide) ?_
    refine im_callVI hF (As := [.int ((a1 - (100 : Int32)) / (12 : Int32))]) (rest := []) my_X1_has mv_X1_has wl_391 (fun l r hr => c_X1_has l g hI ((a1 - (100 : Int32)) / (12 : Int32)) s0 r hr) ⟨by decide, by decide⟩ (by decide) (by decide) ⟨_, rfl, rfl⟩ rfl rfl (Nat.le_of_ble_eq_true rfl) dX9_count_119 (fun q1 => ?_)
    refine im_if_eq hF 145 dX9_count_122 (by decide) (fun _ => ?_) (fun _ => ?_)
    · refine im_iconst hF dX9_count_145 (v := (-1 : Int32)) (by decide) ?_
      exact im_iret hF hM dX9_count_146
    · refine im_aload_n hF dX9_count_125 0 rfl ?_
      refine im_get hF (v := .ref (g.2.1 0 0)) fl_9_10 (by decide) (by decide) rfl dX9_count_126 ?_
      refine im_get hF (v := .ref (g.2.1 1 0)) fl_9_56 (by decide) (by decide) rfl dX9_count_129 ?_
      refine im_get hF (v := .ref (g.2.1 17 0)) fl_9_75 (by decide) (by decide) rfl dX9_count_132 ?_
      refine im_iload_n hF dX9_count_135 1 rfl ?_
      refine im_bipush hF dX9_count_136 (v := (100 : Int32)) (by decide) ?_
      refine im_isub hF dX9_count_138 ?_
      refine im_iald hF ar_17 (by decide) dX9_count_139 (fun h2 => ?_)
      refine im_sipush hF dX9_count_140 (v := (1000 : Int32)) (by decide) ?_
      refine im_iadd hF dX9_count_143 ?_
      exact im_iret hF hM dX9_count_144
def f_X9_count (a1 : Int32) (s0 : Sg) : Option (Int32 × Sg) :=
  if a1 = (0 : Int32) then
  some ((s0 1 0 4), s0)
  else
  if a1 = (1 : Int32) then
  some ((s0 0 0 2), s0)
  else
  if a1 = (2 : Int32) then
  some ((s0 0 0 3), s0)
  else
  if a1 = (3 : Int32) then
  some ((s0 7 0 1), s0)
  else
  if a1 < (10 : Int32) then
  (f_X9_count_B99) a1 s0
  else
  Option.bind (f_X9_isLine (a1 - (10 : Int32)) s0) fun q5 =>
  if q5.1 = 0 then
  (f_X9_count_B99) a1 q5.2
  else
  chk (gi (a1 - (10 : Int32)) 4) (chk (decide ((q5.2 12 0 (a1 - (10 : Int32)).toNatClampNeg).toNatClampNeg < 5)) (
  some ((q5.2 2 ((q5.2 12 0 (a1 - (10 : Int32)).toNatClampNeg).toNatClampNeg) 1), q5.2)))
set_option maxRecDepth 4000 in
theorem i_X9_count (X : Cx) (g : GT) (hF : Fx X g RX9 cX9_count 2 1 21) (hM : FM X g (some .int)) (hI : GI g) (a1 : Int32) (s0 : Sg) : Im X g 2 (Qm X g embI) s0 0 [(0, .ref (g.2.1 9 0)), (1, .int a1)] [] (f_X9_count a1 s0) := by
  unfold f_X9_count
  refine im_iload_n hF dX9_count_0 1 rfl ?_
  refine im_ite (fun h1 => ?_) (fun h1 => ?_)
  · refine im_tableIn hF 32 dX9_count_1 (by rw [h1]; decide) (by rw [h1]; decide) (by rw [h1]; rfl) (by decide) ?_
    refine im_aload_n hF dX9_count_32 0 rfl ?_
    refine im_get hF (v := .ref (g.2.1 0 0)) fl_9_10 (by decide) (by decide) rfl dX9_count_33 ?_
    refine im_get hF (v := .ref (g.2.1 1 0)) fl_9_56 (by decide) (by decide) rfl dX9_count_36 ?_
    refine im_get hF (v := .int (s0 1 0 4)) fl_9_60 (by decide) (by decide) rfl dX9_count_39 ?_
    exact im_iret hF hM dX9_count_42
  · refine im_ite (fun h2 => ?_) (fun h2 => ?_)
    · refine im_tableIn hF 43 dX9_count_1 (by rw [h2]; decide) (by rw [h2]; decide) (by rw [h2]; rfl) (by decide) ?_
      refine im_aload_n hF dX9_count_43 0 rfl ?_
      refine im_get hF (v := .ref (g.2.1 0 0)) fl_9_10 (by decide) (by decide) rfl dX9_count_44 ?_
      refine im_get hF (v := .int (s0 0 0 2)) fl_9_93 (by decide) (by decide) rfl dX9_count_47 ?_
      exact im_iret hF hM dX9_count_50
    · refine im_ite (fun h3 => ?_) (fun h3 => ?_)
      · refine im_tableIn hF 51 dX9_count_1 (by rw [h3]; decide) (by rw [h3]; decide) (by rw [h3]; rfl) (by decide) ?_
        refine im_aload_n hF dX9_count_51 0 rfl ?_
        refine im_get hF (v := .ref (g.2.1 0 0)) fl_9_10 (by decide) (by decide) rfl dX9_count_52 ?_
        refine im_get hF (v := .int (s0 0 0 3)) fl_9_133 (by decide) (by decide) rfl dX9_count_55 ?_
        exact im_iret hF hM dX9_count_58
      · refine im_ite (fun h4 => ?_) (fun h4 => ?_)
        · refine im_tableIn hF 59 dX9_count_1 (by rw [h4]; decide) (by rw [h4]; decide) (by rw [h4]; rfl) (by decide) ?_
          refine im_aload_n hF dX9_count_59 0 rfl ?_
          refine im_get hF (v := .ref (g.2.1 7 0)) fl_9_19 (by decide) (by decide) rfl dX9_count_60 ?_
          refine im_get hF (v := .int (s0 7 0 1)) fl_9_44 (by decide) (by decide) rfl dX9_count_63 ?_
          exact im_iret hF hM dX9_count_66
        · refine im_tableOut hF 67 dX9_count_1 (by have := lv_neT h1 (a := 0) rfl; have := lv_neT h2 (a := 1) rfl; have := lv_neT h3 (a := 2) rfl; have := lv_neT h4 (a := 3) rfl; omega) (by decide) ?_
          refine im_iload_n hF dX9_count_67 1 rfl ?_
          refine im_bipush hF dX9_count_68 (v := (10 : Int32)) (by decide) ?_
          refine im_icmp_lt hF 99 dX9_count_70 (by decide) (fun _ => ?_) (fun _ => ?_)
          · exact (i_X9_count_B99 X g hF hM hI) a1 s0
          · refine im_iload_n hF dX9_count_73 1 rfl ?_
            refine im_bipush hF dX9_count_74 (v := (10 : Int32)) (by decide) ?_
            refine im_isub hF dX9_count_76 ?_
            refine im_callSI hF (As := [.int (a1 - (10 : Int32))]) (rest := []) my_X9_isLine ms_X9_isLine wl_404 (fun l r hr => c_X9_isLine l g hI (a1 - (10 : Int32)) s0 r hr) ⟨by decide, by decide⟩ rfl rfl (Nat.le_of_ble_eq_true rfl) dX9_count_77 (fun q5 => ?_)
            refine im_if_eq hF 99 dX9_count_80 (by decide) (fun _ => ?_) (fun _ => ?_)
            · exact (i_X9_count_B99 X g hF hM hI) a1 q5.2
            · refine im_aload_n hF dX9_count_83 0 rfl ?_
              refine im_get hF (v := .ref (g.2.1 0 0)) fl_9_10 (by decide) (by decide) rfl dX9_count_84 ?_
              refine im_get hF (v := .ref (g.2.1 12 0)) fl_9_159 (by decide) (by decide) rfl dX9_count_87 ?_
              refine im_iload_n hF dX9_count_90 1 rfl ?_
              refine im_bipush hF dX9_count_91 (v := (10 : Int32)) (by decide) ?_
              refine im_isub hF dX9_count_93 ?_
              refine im_aald12 hF dX9_count_94 (fun h6 => ?_)
              refine im_chk (fun h7 => ?_)
              refine im_get hF (v := .int (q5.2 2 ((q5.2 12 0 (a1 - (10 : Int32)).toNatClampNeg).toNatClampNeg) 1)) fl_9_217 (by decide) (of_decide_eq_true h7) rfl dX9_count_95 ?_
              exact im_iret hF hM dX9_count_98
theorem c_X9_count (l : Launch) (g : GT) (hI : GI g) (a1 : Int32) (s0 : Sg) (r : (Int32 × Sg)) (hr : f_X9_count a1 s0 = some r) : Ct l yX9_count cX9_count 2 (some .int) 1 21 g [.ref (g.2.1 9 0), .int a1] s0 (embI r) := ct_of (by decide) hI (Nat.le_of_ble_eq_true rfl) (fun X hF hM => i_X9_count X g hF hM hI a1 s0) r hr
