def f_X10_types_B2 (k2 : Int32 → Int32 → Sg → Option Sg) (a1 : Int32) (a2 : Int32) (s0 : Sg) : Option Sg :=
  if a2 < 0 then
  some s0
  else
  chk (gi (s0 10 0 21) 200) (bdS (up3 s0 60 0 (s0 10 0 21).toNatClampNeg (vp_nar .byte ((a1 >>> (((8 : Int32) * a2) &&& 31)).toInt8.toInt32))) fun s2 =>
  bdS (up3 s2 10 0 21 ((s2 10 0 21) + (1 : Int32))) fun s3 =>
  k2 a1 (a2 + (-1 : Int32)) s3)
set_option maxRecDepth 4000 in
theorem i_X10_types_B2 (X : Cx) (g : GT) (hF : Fx X g RX10 cX10_types 3 0 0) (hM : FM X g none) (hI : GI g) (k2 : Int32 → Int32 → Sg → Option Sg) (hk2 : ∀ (a1 : Int32) (a2 : Int32) (s0 : Sg), Im X g 3 (Qm X g embV) s0 2 [(0, .ref (g.2.1 10 0)), (1, .int a1), (2, .int a2)] [] (k2 a1 a2 s0)) (a1 : Int32) (a2 : Int32) (s0 : Sg) : Im X g 3 (Qm X g embV) s0 2 [(0, .ref (g.2.1 10 0)), (1, .int a1), (2, .int a2)] [] (f_X10_types_B2 k2 a1 a2 s0) := by
  unfold f_X10_types_B2
  refine im_iload_n hF dX10_types_2 2 rfl ?_
  refine im_if_lt hF 38 dX10_types_3 (by decide) (fun _ => ?_) (fun _ => ?_)
  · exact im_vret hF hM dX10_types_38
  · refine im_aload_n hF dX10_types_6 0 rfl ?_
    refine im_get hF (v := .ref (g.2.1 60 0)) fl_10_58 (by decide) (by decide) rfl dX10_types_7 ?_
    refine im_aload_n hF dX10_types_10 0 rfl ?_
    refine im_get hF (v := .int (s0 10 0 21)) fl_10_179 (by decide) (by decide) rfl dX10_types_11 ?_
    refine im_iload_n hF dX10_types_14 1 rfl ?_
    refine im_bipush hF dX10_types_15 (v := (8 : Int32)) (by decide) ?_
    refine im_iload_n hF dX10_types_17 2 rfl ?_
    refine im_imul hF dX10_types_18 ?_
    refine im_ishr hF dX10_types_19 ?_
    refine im_i2b hF dX10_types_20 ?_
    refine im_bast hF ar_60 (by decide) dX10_types_21 (fun h1 => im_bdS (fun s2 => ?_))
    refine im_aload_n hF dX10_types_22 0 rfl ?_
    refine im_aload_n hF dX10_types_23 0 rfl ?_
    refine im_get hF (v := .int (s2 10 0 21)) fl_10_179 (by decide) (by decide) rfl dX10_types_24 ?_
    refine im_iconst hF dX10_types_27 (v := (1 : Int32)) (by decide) ?_
    refine im_iadd hF dX10_types_28 ?_
    refine im_put hF ((s2 10 0 21) + (1 : Int32)) fp_10_179 (by decide) (by decide) rfl rfl rfl dX10_types_29 ?_
    refine im_bdS (fun s3 => ?_)
    refine im_iinc hF dX10_types_32 (v := (a2 + (-1 : Int32))) (lv' := [(2, .int (a2 + (-1 : Int32))), (0, .ref (g.2.1 10 0)), (1, .int a1)]) 2 rfl rfl (by decide) rfl ?_
    refine im_goto hF 2 dX10_types_35 (by decide) ?_
    refine im_sub (lv' := [(0, .ref (g.2.1 10 0)), (1, .int a1), (2, .int (a2 + (-1 : Int32)))]) [1, 2, 0] rfl ?_
    exact hk2 a1 (a2 + (-1 : Int32)) s3
def f_X10_types_L2 : Nat → Int32 → Int32 → Sg → Option Sg
  | 0 => fun _ _ _ => none
  | n + 1 => fun a1 a2 s0 => f_X10_types_B2 (f_X10_types_L2 n) a1 a2 s0
theorem i_X10_types_L2 (X : Cx) (g : GT) (hF : Fx X g RX10 cX10_types 3 0 0) (hM : FM X g none) (hI : GI g) : ∀ (n : Nat) (a1 : Int32) (a2 : Int32) (s0 : Sg), Im X g 3 (Qm X g embV) s0 2 [(0, .ref (g.2.1 10 0)), (1, .int a1), (2, .int a2)] [] (f_X10_types_L2 n a1 a2 s0) := by
  intro n
  induction n with
  | zero => intros; exact im_none
  | succ n ih => intro a1 a2 s0; exact i_X10_types_B2 X g hF hM hI (f_X10_types_L2 n) ih a1 a2 s0
def f_X10_types (a1 : Int32) (s0 : Sg) : Option Sg :=
  (f_X10_types_L2 FU) a1 (3 : Int32) s0
set_option maxRecDepth 4000 in
theorem i_X10_types (X : Cx) (g : GT) (hF : Fx X g RX10 cX10_types 3 0 0) (hM : FM X g none) (hI : GI g) (a1 : Int32) (s0 : Sg) : Im X g 3 (Qm X g embV) s0 0 [(0, .ref (g.2.1 10 0)), (1, .int a1)] [] (f_X10_types a1 s0) := by
  unfold f_X10_types
  refine im_iconst hF dX10_types_0 (v := (3 : Int32)) (by decide) ?_
  refine im_istore_n hF dX10_types_1 (lv' := [(2, .int (3 : Int32)), (0, .ref (g.2.1 10 0)), (1, .int a1)]) rfl (by decide) rfl ?_
  refine im_sub (lv' := [(0, .ref (g.2.1 10 0)), (1, .int a1), (2, .int (3 : Int32))]) [1, 2, 0] rfl ?_
  exact (i_X10_types_L2 X g hF hM hI FU) a1 (3 : Int32) s0
theorem c_X10_types (l : Launch) (g : GT) (hI : GI g) (a1 : Int32) (s0 : Sg) (r : Sg) (hr : f_X10_types a1 s0 = some r) : Ct l yX10_types cX10_types 3 none 0 0 g [.ref (g.2.1 10 0), .int a1] s0 (embV r) := ct_of (by decide) hI (Nat.le_of_ble_eq_true rfl) (fun X hF hM => i_X10_types X g hF hM hI a1 s0) r hr
def f_X10_feed (a1 : Int32) (a2 : Int32) (a3 : Int32) (a4 : Int32) (a5 : Int32) (s0 : Sg) : Option (Int32 × Sg) :=
  if ((s0 10 0 21) + (20 : Int32)) ≤ (200 : Int32) then
  Option.bind (f_X10_types a1 s0) fun q1 =>
  Option.bind (f_X10_types a2 q1) fun q2 =>
  Option.bind (f_X10_types a3 q2) fun q3 =>
  Option.bind (f_X10_types a4 q3) fun q4 =>
  Option.bind (f_X10_types a5 q4) fun q5 =>
  some ((q5 10 0 21), q5)
  else
  some ((-1 : Int32), s0)
set_option maxRecDepth 4000 in
theorem i_X10_feed (X : Cx) (g : GT) (hF : Fx X g RX10 cX10_feed 6 1 22) (hM : FM X g (some .int)) (hI : GI g) (a1 : Int32) (a2 : Int32) (a3 : Int32) (a4 : Int32) (a5 : Int32) (s0 : Sg) : Im X g 6 (Qm X g embI) s0 0 [(0, .ref (g.2.1 10 0)), (1, .int a1), (2, .int a2), (3, .int a3), (4, .int a4), (5, .int a5)] [] (f_X10_feed a1 a2 a3 a4 a5 s0) := by
  unfold f_X10_feed
  refine im_aload_n hF dX10_feed_0 0 rfl ?_
  refine im_get hF (v := .int (s0 10 0 21)) fl_10_179 (by decide) (by decide) rfl dX10_feed_1 ?_
  refine im_bipush hF dX10_feed_4 (v := (20 : Int32)) (by decide) ?_
  refine im_iadd hF dX10_feed_6 ?_
  refine im_sipush hF dX10_feed_7 (v := (200 : Int32)) (by decide) ?_
  refine im_icmp_le hF 15 dX10_feed_10 (by decide) (fun _ => ?_) (fun _ => ?_)
  · refine im_aload_n hF dX10_feed_15 0 rfl ?_
    refine im_iload_n hF dX10_feed_16 1 rfl ?_
    refine im_callVV hF (As := [.int a1]) (rest := []) my_X10_types mv_X10_types wl_976 (fun l r hr => c_X10_types l g hI a1 s0 r hr) ⟨by decide, by decide⟩ (by decide) (by decide) ⟨_, rfl, rfl⟩ rfl rfl (Nat.le_of_ble_eq_true rfl) dX10_feed_17 (fun q1 => ?_)
    refine im_aload_n hF dX10_feed_20 0 rfl ?_
    refine im_iload_n hF dX10_feed_21 2 rfl ?_
    refine im_callVV hF (As := [.int a2]) (rest := []) my_X10_types mv_X10_types wl_976 (fun l r hr => c_X10_types l g hI a2 q1 r hr) ⟨by decide, by decide⟩ (by decide) (by decide) ⟨_, rfl, rfl⟩ rfl rfl (Nat.le_of_ble_eq_true rfl) dX10_feed_22 (fun q2 => ?_)
    refine im_aload_n hF dX10_feed_25 0 rfl ?_
    refine im_iload_n hF dX10_feed_26 3 rfl ?_
    refine im_callVV hF (As := [.int a3]) (rest := []) my_X10_types mv_X10_types wl_976 (fun l r hr => c_X10_types l g hI a3 q2 r hr) ⟨by decide, by decide⟩ (by decide) (by decide) ⟨_, rfl, rfl⟩ rfl rfl (Nat.le_of_ble_eq_true rfl) dX10_feed_27 (fun q3 => ?_)
    refine im_aload_n hF dX10_feed_30 0 rfl ?_
    refine im_iload hF dX10_feed_31 4 rfl ?_
    refine im_callVV hF (As := [.int a4]) (rest := []) my_X10_types mv_X10_types wl_976 (fun l r hr => c_X10_types l g hI a4 q3 r hr) ⟨by decide, by decide⟩ (by decide) (by decide) ⟨_, rfl, rfl⟩ rfl rfl (Nat.le_of_ble_eq_true rfl) dX10_feed_33 (fun q4 => ?_)
    refine im_aload_n hF dX10_feed_36 0 rfl ?_
    refine im_iload hF dX10_feed_37 5 rfl ?_
    refine im_callVV hF (As := [.int a5]) (rest := []) my_X10_types mv_X10_types wl_976 (fun l r hr => c_X10_types l g hI a5 q4 r hr) ⟨by decide, by decide⟩ (by decide) (by decide) ⟨_, rfl, rfl⟩ rfl rfl (Nat.le_of_ble_eq_true rfl) dX10_feed_39 (fun q5 => ?_)
    refine im_aload_n hF dX10_feed_42 0 rfl ?_
    refine im_get hF (v := .int (q5 10 0 21)) fl_10_179 (by decide) (by decide) rfl dX10_feed_43 ?_
    exact im_iret hF hM dX10_feed_46
  · refine im_iconst hF dX10_feed_13 (v := (-1 : Int32)) (by decide) ?_
    exact im_iret hF hM dX10_feed_14
theorem c_X10_feed (l : Launch) (g : GT) (hI : GI g) (a1 : Int32) (a2 : Int32) (a3 : Int32) (a4 : Int32) (a5 : Int32) (s0 : Sg) (r : (Int32 × Sg)) (hr : f_X10_feed a1 a2 a3 a4 a5 s0 = some r) : Ct l yX10_feed cX10_feed 6 (some .int) 1 22 g [.ref (g.2.1 10 0), .int a1, .int a2, .int a3, .int a4, .int a5] s0 (embI r) := ct_of (by decide) hI (Nat.le_of_ble_eq_true rfl) (fun X hF hM => i_X10_feed X g hF hM hI a1 a2 a3 a4 a5 s0) r hr
def f_X10_isPort (a0 : Int32) (s0 : Sg) : Option (Int32 × Sg) :=
  if a0 < 0 then
  some ((0 : Int32), s0)
  else
  if (8 : Int32) ≤ a0 then
  some ((0 : Int32), s0)
  else
  some ((1 : Int32), s0)
set_option maxRecDepth 4000 in
theorem i_X10_isPort (X : Cx) (g : GT) (hF : Fx X g RX10 cX10_isPort 1 0 0) (hM : FM X g (some .boolean)) (hI : GI g) (a0 : Int32) (s0 : Sg) : Im X g 1 (Qm X g embI) s0 0 [(0, .int a0)] [] (f_X10_isPort a0 s0) := by
  unfold f_X10_isPort
  refine im_iload_n hF dX10_isPort_0 0 rfl ?_
  refine im_if_lt hF 14 dX10_isPort_1 (by decide) (fun _ => ?_) (fun _ => ?_)
  · refine im_iconst hF dX10_isPort_14 (v := (0 : Int32)) (by decide) ?_
    exact im_zret hF hM (by decide) dX10_isPort_15
  · refine im_iload_n hF dX10_isPort_4 0 rfl ?_
    refine im_bipush hF dX10_isPort_5 (v := (8 : Int32)) (by decide) ?_
    refine im_icmp_ge hF 14 dX10_isPort_7 (by decide) (fun _ => ?_) (fun _ => ?_)
    · refine im_iconst hF dX10_isPort_14 (v := (0 : Int32)) (by decide) ?_
      exact im_zret hF hM (by decide) dX10_isPort_15
    · refine im_iconst hF dX10_isPort_10 (v := (1 : Int32)) (by decide) ?_
      refine im_goto hF 15 dX10_isPort_11 (by decide) ?_
      exact im_zret hF hM (by decide) dX10_isPort_15
theorem c_X10_isPort (l : Launch) (g : GT) (hI : GI g) (a0 : Int32) (s0 : Sg) (r : (Int32 × Sg)) (hr : f_X10_isPort a0 s0 = some r) : Ct l yX10_isPort cX10_isPort 1 (some .boolean) 0 0 g [.int a0] s0 (embI r) := ct_of (by decide) hI (Nat.le_of_ble_eq_true rfl) (fun X hF hM => i_X10_isPort X g hF hM hI a0 s0) r hr
def f_X10_passage (a1 : Int32) (a2 : Int32) (a3 : Int32) (s0 : Sg) : Option (Int32 × Sg) :=
  Option.bind (f_X10_isPort a1 s0) fun q1 =>
  if q1.1 = 0 then
  some ((-1 : Int32), q1.2)
  else
  Option.bind (f_X10_isPort a2 q1.2) fun q2 =>
  if q2.1 = 0 then
  some ((-1 : Int32), q2.2)
  else
  if a1 = a2 then
  some ((-1 : Int32), q2.2)
  else
  if a3 < (1 : Int32) then
  some ((-1 : Int32), q2.2)
  else
  if (9999 : Int32) < a3 then
  some ((-1 : Int32), q2.2)
  else
  if (q2.2 10 0 0) = (12 : Int32) then
  some ((-1 : Int32), q2.2)
  else
  chk (gi (q2.2 10 0 0) 12) (bdS (up3 q2.2 44 0 (q2.2 10 0 0).toNatClampNeg a1) fun s4 =>
  chk (gi (s4 10 0 0) 12) (bdS (up3 s4 45 0 (s4 10 0 0).toNatClampNeg a2) fun s6 =>
  chk (gi (s6 10 0 0) 12) (bdS (up3 s6 46 0 (s6 10 0 0).toNatClampNeg a3) fun s8 =>
  bdS (up3 s8 10 0 0 ((s8 10 0 0) + (1 : Int32))) fun s9 =>
  some (((s9 10 0 0) - (1 : Int32)), s9))))
set_option maxRecDepth 4000 in
theorem i_X10_passage (X : Cx) (g : GT) (hF : Fx X g RX10 cX10_passage 4 1 20) (hM : FM X g (some .int)) (hI : GI g) (a1 : Int32) (a2 : Int32) (a3 : Int32) (s0 : Sg) : Im X g 4 (Qm X g embI) s0 0 [(0, .ref (g.2.1 10 0)), (1, .int a1), (2, .int a2), (3, .int a3)] [] (f_X10_passage a1 a2 a3 s0) := by
  unfold f_X10_passage
  refine im_iload_n hF dX10_passage_0 1 rfl ?_
  refine im_callSI hF (As := [.int a1]) (rest := []) my_X10_isPort ms_X10_isPort wl_939 (fun l r hr => c_X10_isPort l g hI a1 s0 r hr) ⟨by decide, by decide⟩ rfl rfl (Nat.le_of_ble_eq_true rfl) dX10_passage_1 (fun q1 => ?_)
  refine im_if_eq hF 40 dX10_passage_4 (by decide) (fun _ => ?_) (fun _ => ?_)
  · refine im_iconst hF dX10_passage_40 (v := (-1 : Int32)) (by decide) ?_
    exact im_iret hF hM dX10_passage_41
  · refine im_iload_n hF dX10_passage_7 2 rfl ?_
    refine im_callSI hF (As := [.int a2]) (rest := []) my_X10_isPort ms_X10_isPort wl_939 (fun l r hr => c_X10_isPort l g hI a2 q1.2 r hr) ⟨by decide, by decide⟩ rfl rfl (Nat.le_of_ble_eq_true rfl) dX10_passage_8 (fun q2 => ?_)
    refine im_if_eq hF 40 dX10_passage_11 (by decide) (fun _ => ?_) (fun _ => ?_)
    · refine im_iconst hF dX10_passage_40 (v := (-1 : Int32)) (by decide) ?_
      exact im_iret hF hM dX10_passage_41
    · refine im_iload_n hF dX10_passage_14 1 rfl ?_
      refine im_iload_n hF dX10_passage_15 2 rfl ?_
      refine im_icmp_eq hF 40 dX10_passage_16 (by decide) (fun _ => ?_) (fun _ => ?_)
      · refine im_iconst hF dX10_passage_40 (v := (-1 : Int32)) (by decide) ?_
        exact im_iret hF hM dX10_passage_41
      · refine im_iload_n hF dX10_passage_19 3 rfl ?_
        refine im_iconst hF dX10_passage_20 (v := (1 : Int32)) (by decide) ?_
        refine im_icmp_lt hF 40 dX10_passage_21 (by decide) (fun _ => ?_) (fun _ => ?_)
        · refine im_iconst hF dX10_passage_40 (v := (-1 : Int32)) (by decide) ?_
          exact im_iret hF hM dX10_passage_41
        · refine im_iload_n hF dX10_passage_24 3 rfl ?_
          refine im_sipush hF dX10_passage_25 (v := (9999 : Int32)) (by decide) ?_
          refine im_icmp_gt hF 40 dX10_passage_28 (by decide) (fun _ => ?_) (fun _ => ?_)
          · refine im_iconst hF dX10_passage_40 (v := (-1 : Int32)) (by decide) ?_
            exact im_iret hF hM dX10_passage_41
          · refine im_aload_n hF dX10_passage_31 0 rfl ?_
            refine im_get hF (v := .int (q2.2 10 0 0)) fl_10_158 (by decide) (by decide) rfl dX10_passage_32 ?_
            refine im_bipush hF dX10_passage_35 (v := (12 : Int32)) (by decide) ?_
            refine im_icmp_ne hF 42 dX10_passage_37 (by decide) (fun _ => ?_) (fun _ => ?_)
            · refine im_iconst hF dX10_passage_40 (v := (-1 : Int32)) (by decide) ?_
              exact im_iret hF hM dX10_passage_41
            · refine im_aload_n hF dX10_passage_42 0 rfl ?_
              refine im_get hF (v := .ref (g.2.1 44 0)) fl_10_7 (by decide) (by decide) rfl dX10_passage_43 ?_
              refine im_aload_n hF dX10_passage_46 0 rfl ?_
              refine im_get hF (v := .int (q2.2 10 0 0)) fl_10_158 (by decide) (by decide) rfl dX10_passage_47 ?_
              refine im_iload_n hF dX10_passage_50 1 rfl ?_
              refine im_iast hF ar_44 (by decide) dX10_passage_51 (fun h3 => im_bdS (fun s4 => ?_))
              refine im_aload_n hF dX10_passage_52 0 rfl ?_
              refine im_get hF (v := .ref (g.2.1 45 0)) fl_10_13 (by decide) (by decide) rfl dX10_passage_53 ?_
              refine im_aload_n hF dX10_passage_56 0 rfl ?_
              refine im_get hF (v := .int (s4 10 0 0)) fl_10_158 (by decide) (by decide) rfl dX10_passage_57 ?_
              refine im_iload_n hF dX10_passage_60 2 rfl ?_
              refine im_iast hF ar_45 (by decide) dX10_passage_61 (fun h5 => im_bdS (fun s6 => ?_))
              refine im_aload_n hF dX10_passage_62 0 rfl ?_
              refine im_get hF (v := .ref (g.2.1 46 0)) fl_10_16 (by decide) (by decide) rfl dX10_passage_63 ?_
              refine im_aload_n hF dX10_passage_66 0 rfl ?_
              refine im_get hF (v := .int (s6 10 0 0)) fl_10_158 (by decide) (by decide) rfl dX10_passage_67 ?_
              refine im_iload_n hF dX10_passage_70 3 rfl ?_
              refine im_iast hF ar_46 (by decide) dX10_passage_71 (fun h7 => im_bdS (fun s8 => ?_))
              refine im_aload_n hF dX10_passage_72 0 rfl ?_
              refine im_aload_n hF dX10_passage_73 0 rfl ?_
              refine im_get hF (v := .int (s8 10 0 0)) fl_10_158 (by decide) (by decide) rfl dX10_passage_74 ?_
              refine im_iconst hF dX10_passage_77 (v := (1 : Int32)) (by decide) ?_
              refine im_iadd hF dX10_passage_78 ?_
              refine im_put hF ((s8 10 0 0) + (1 : Int32)) fp_10_158 (by decide) (by decide) rfl rfl rfl dX10_passage_79 ?_
              refine im_bdS (fun s9 => ?_)
              refine im_aload_n hF dX10_passage_82 0 rfl ?_
              refine im_get hF (v := .int (s9 10 0 0)) fl_10_158 (by decide) (by decide) rfl dX10_passage_83 ?_
              refine im_iconst hF dX10_passage_86 (v := (1 : Int32)) (by decide) ?_
              refine im_isub hF dX10_passage_87 ?_
              exact im_iret hF hM dX10_passage_88
theorem c_X10_passage (l : Launch) (g : GT) (hI : GI g) (a1 : Int32) (a2 : Int32) (a3 : Int32) (s0 : Sg) (r : (Int32 × Sg)) (hr : f_X10_passage a1 a2 a3 s0 = some r) : Ct l yX10_passage cX10_passage 4 (some .int) 1 20 g [.ref (g.2.1 10 0), .int a1, .int a2, .int a3] s0 (embI r) := ct_of (by decide) hI (Nat.le_of_ble_eq_true rfl) (fun X hF hM => i_X10_passage X g hF hM hI a1 a2 a3 s0) r hr
def f_X10_wind_B60 (a1 : Int32) (a2 : Int32) (a5 : Int32) (s0 : Sg) : Option (Int32 × Sg) :=
  chk (gi (((12 : Int32) * a1) + a2) 144) (bdS (up3 s0 47 0 (((12 : Int32) * a1) + a2).toNatClampNeg a5) fun s2 =>
  bdS (up3 s2 10 0 19 (0 : Int32)) fun s3 =>
  some ((1 : Int32), s3))
set_option maxRecDepth 4000 in
theorem i_X10_wind_B60 (X : Cx) (g : GT) (hF : Fx X g RX10 cX10_wind 6 0 0) (hM : FM X g (some .boolean)) (hI : GI g) (a1 : Int32) (a2 : Int32) (a5 : Int32) (s0 : Sg) : Im X g 6 (Qm X g embI) s0 60 [(0, .ref (g.2.1 10 0)), (1, .int a1), (2, .int a2), (5, .int a5)] [] (f_X10_wind_B60 a1 a2 a5 s0) := by
  unfold f_X10_wind_B60
  refine im_aload_n hF dX10_wind_60 0 rfl ?_
  refine im_get hF (v := .ref (g.2.1 47 0)) fl_10_19 (by decide) (by decide) rfl dX10_wind_61 ?_
  refine im_bipush hF dX10_wind_64 (v := (12 : Int32)) (by decide) ?_
  refine im_iload_n hF dX10_wind_66 1 rfl ?_
  refine im_imul hF dX10_wind_67 ?_
  refine im_iload_n hF dX10_wind_68 2 rfl ?_
  refine im_iadd hF dX10_wind_69 ?_
  refine im_iload hF dX10_wind_70 3 rfl ?_
  refine im_iast hF ar_47 (by decide) dX10_wind_72 (fun h1 => im_bdS (fun s2 => ?_))
  refine im_aload_n hF dX10_wind_73 0 rfl ?_
  refine im_iconst hF dX10_wind_74 (v := (0 : Int32)) (by decide) ?_
  refine im_put hF (0 : Int32) fp_10_165 (by decide) (by decide) rfl rfl rfl dX10_wind_75 ?_
  refine im_bdS (fun s3 => ?_)
  refine im_iconst hF dX10_wind_78 (v := (1 : Int32)) (by decide) ?_
  exact im_zret hF hM (by decide) dX10_wind_79
def f_X10_wind (a1 : Int32) (a2 : Int32) (a3 : UInt64) (s0 : Sg) : Option (Int32 × Sg) :=
  if a1 < 0 then
  some ((0 : Int32), s0)
  else
  if (s0 10 0 0) ≤ a1 then
  some ((0 : Int32), s0)
  else
  if a2 < 0 then
  some ((0 : Int32), s0)
  else
  if a2 ≤ (11 : Int32) then
  if (Op.cmpValue (FP.dcmp a3 (13855605728582041600 : UInt64)) .g) < 0 then
  some ((0 : Int32), s0)
  else
  if (Op.cmpValue (FP.dcmp a3 (4632374429215621120 : UInt64)) .l) < 0 then
  bdI (FP.d2i a3) fun x1 =>
  if 0 ≤ (Op.cmpValue (FP.dcmp a3 (FP.i2d x1)) .g) then
  (f_X10_wind_B60) a1 a2 x1 s0
  else
  bdI (x1 - (1 : Int32)) fun x2 =>
  (f_X10_wind_B60) a1 a2 x2 s0
  else
  some ((0 : Int32), s0)
  else
  some ((0 : Int32), s0)
set_option maxRecDepth 4000 in
theorem i_X10_wind (X : Cx) (g : GT) (hF : Fx X g RX10 cX10_wind 6 0 0) (hM : FM X g (some .boolean)) (hI : GI g) (a1 : Int32) (a2 : Int32) (a3 : UInt64) (s0 : Sg) : Im X g 6 (Qm X g embI) s0 0 [(0, .ref (g.2.1 10 0)), (1, .int a1), (2, .int a2), (3, .double a3)] [] (f_X10_wind a1 a2 a3 s0) := by
  unfold f_X10_wind
  refine im_iload_n hF dX10_wind_0 1 rfl ?_
  refine im_if_lt hF 22 dX10_wind_1 (by decide) (fun _ => ?_) (fun _ => ?_)
  · refine im_iconst hF dX10_wind_22 (v := (0 : Int32)) (by decide) ?_
    exact im_zret hF hM (by decide) dX10_wind_23
  · refine im_iload_n hF dX10_wind_4 1 rfl ?_
    refine im_aload_n hF dX10_wind_5 0 rfl ?_
    refine im_get hF (v := .int (s0 10 0 0)) fl_10_158 (by decide) (by decide) rfl dX10_wind_6 ?_
    refine im_icmp_ge hF 22 dX10_wind_9 (by decide) (fun _ => ?_) (fun _ => ?_)
    · refine im_iconst hF dX10_wind_22 (v := (0 : Int32)) (by decide) ?_
      exact im_zret hF hM (by decide) dX10_wind_23
    · refine im_iload_n hF dX10_wind_12 2 rfl ?_
      refine im_if_lt hF 22 dX10_wind_13 (by decide) (fun _ => ?_) (fun _ => ?_)
      · refine im_iconst hF dX10_wind_22 (v := (0 : Int32)) (by decide) ?_
        exact im_zret hF hM (by decide) dX10_wind_23
      · refine im_iload_n hF dX10_wind_16 2 rfl ?_
        refine im_bipush hF dX10_wind_17 (v := (11 : Int32)) (by decide) ?_
        refine im_icmp_le hF 24 dX10_wind_19 (by decide) (fun _ => ?_) (fun _ => ?_)
        · refine im_dload_n hF dX10_wind_24 3 rfl ?_
          refine im_ldc2d hF (v := (13855605728582041600 : UInt64)) wl_946 dX10_wind_25 ?_
          refine im_dcmp hF dX10_wind_28 ?_
          refine im_if_lt hF 40 dX10_wind_29 (by decide) (fun _ => ?_) (fun _ => ?_)
          · refine im_iconst hF dX10_wind_40 (v := (0 : Int32)) (by decide) ?_
            exact im_zret hF hM (by decide) dX10_wind_41
          · refine im_dload_n hF dX10_wind_32 3 rfl ?_
            refine im_ldc2d hF (v := (4632374429215621120 : UInt64)) wl_947 dX10_wind_33 ?_
            refine im_dcmp hF dX10_wind_36 ?_
            refine im_if_lt hF 42 dX10_wind_37 (by decide) (fun _ => ?_) (fun _ => ?_)
            · refine im_dload_n hF dX10_wind_42 3 rfl ?_
              refine im_d2i hF dX10_wind_43 ?_
              refine im_bdI (fun x1 => ?_)
              refine im_istore hF dX10_wind_44 (lv' := [(5, .int x1), (0, .ref (g.2.1 10 0)), (1, .int a1), (2, .int a2), (3, .double a3)]) (by decide) rfl ?_
              refine im_dload_n hF dX10_wind_46 4 rfl ?_
              refine im_iload hF dX10_wind_47 0 rfl ?_
              refine im_i2d hF dX10_wind_49 ?_
              refine im_dcmp hF dX10_wind_50 ?_
              refine im_if_ge hF 60 dX10_wind_51 (by decide) (fun _ => ?_) (fun _ => ?_)
              · refine im_sub (lv' := [(0, .ref (g.2.1 10 0)), (1, .int a1), (2, .int a2), (5, .int x1)]) [1, 2, 3, 0] rfl ?_
                exact (i_X10_wind_B60 X g hF hM hI) a1 a2 x1 s0
              · refine im_iload hF dX10_wind_54 0 rfl ?_
                refine im_iconst hF dX10_wind_56 (v := (1 : Int32)) (by decide) ?_
                refine im_isub hF dX10_wind_57 ?_
                refine im_bdI (fun x2 => ?_)
                refine im_istore hF dX10_wind_58 (lv' := [(5, .int x2), (0, .ref (g.2.1 10 0)), (1, .int a1), (2, .int a2), (3, .double a3)]) (by decide) rfl ?_
                refine im_sub (lv' := [(0, .ref (g.2.1 10 0)), (1, .int a1), (2, .int a2), (5, .int x2)]) [1, 2, 3, 0] rfl ?_
                exact (i_X10_wind_B60 X g hF hM hI) a1 a2 x2 s0
            · refine im_iconst hF dX10_wind_40 (v := (0 : Int32)) (by decide) ?_
              exact im_zret hF hM (by decide) dX10_wind_41
        · refine im_iconst hF dX10_wind_22 (v := (0 : Int32)) (by decide) ?_
          exact im_zret hF hM (by decide) dX10_wind_23
theorem c_X10_wind (l : Launch) (g : GT) (hI : GI g) (a1 : Int32) (a2 : Int32) (a3 : UInt64) (s0 : Sg) (r : (Int32 × Sg)) (hr : f_X10_wind a1 a2 a3 s0 = some r) : Ct l yX10_wind cX10_wind 6 (some .boolean) 0 0 g [.ref (g.2.1 10 0), .int a1, .int a2, .double a3] s0 (embI r) := ct_of (by decide) hI (Nat.le_of_ble_eq_true rfl) (fun X hF hM => i_X10_wind X g hF hM hI a1 a2 a3 s0) r hr
def f_X10_voyage (a1 : Int32) (a2 : Int32) (a3 : Int32) (a4 : Int32) (a5 : Int32) (s0 : Sg) : Option (Int32 × Sg) :=
  if a1 < 0 then
  some ((-1 : Int32), s0)
  else
  if (4 : Int32) ≤ a1 then
  some ((-1 : Int32), s0)
  else
  Option.bind (f_X10_isPort a2 s0) fun q1 =>
  if q1.1 = 0 then
  some ((-1 : Int32), q1.2)
  else
  if a3 < (1 : Int32) then
  some ((-1 : Int32), q1.2)
  else
  if (30 : Int32) < a3 then
  some ((-1 : Int32), q1.2)
  else
  if a4 < (1 : Int32) then
  some ((-1 : Int32), q1.2)
  else
  if (48 : Int32) < a4 then
  some ((-1 : Int32), q1.2)
  else
  if a5 < 0 then
  some ((-1 : Int32), q1.2)
  else
  if (5000 : Int32) < a5 then
  some ((-1 : Int32), q1.2)
  else
  if (q1.2 10 0 1) = (10 : Int32) then
  some ((-1 : Int32), q1.2)
  else
  chk (gi (q1.2 10 0 1) 10) (bdS (up3 q1.2 48 0 (q1.2 10 0 1).toNatClampNeg a1) fun s3 =>
  chk (gi (s3 10 0 1) 10) (bdS (up3 s3 49 0 (s3 10 0 1).toNatClampNeg a3) fun s5 =>
  chk (gi (s5 10 0 1) 10) (bdS (up3 s5 50 0 (s5 10 0 1).toNatClampNeg a4) fun s7 =>
  chk (gi (s7 10 0 1) 10) (bdS (up3 s7 51 0 (s7 10 0 1).toNatClampNeg a5) fun s9 =>
  chk (gi (s9 10 0 1) 10) (bdS (up3 s9 52 0 (s9 10 0 1).toNatClampNeg (0 : Int32)) fun s11 =>
  chk (gi ((7 : Int32) * (s11 10 0 1)) 70) (bdS (up3 s11 55 0 ((7 : Int32) * (s11 10 0 1)).toNatClampNeg a2) fun s13 =>
  bdS (up3 s13 10 0 1 ((s13 10 0 1) + (1 : Int32))) fun s14 =>
  bdS (up3 s14 10 0 19 (0 : Int32)) fun s15 =>
  some (((s15 10 0 1) - (1 : Int32)), s15)))))))
set_option maxRecDepth 4000 in
theorem i_X10_voyage (X : Cx) (g : GT) (hF : Fx X g RX10 cX10_voyage 6 1 20) (hM : FM X g (some .int)) (hI : GI g) (a1 : Int32) (a2 : Int32) (a3 : Int32) (a4 : Int32) (a5 : Int32) (s0 : Sg) : Im X g 6 (Qm X g embI) s0 0 [(0, .ref (g.2.1 10 0)), (1, .int a1), (2, .int a2), (3, .int a3), (4, .int a4), (5, .int a5)] [] (f_X10_voyage a1 a2 a3 a4 a5 s0) := by
  unfold f_X10_voyage
  refine im_iload_n hF dX10_voyage_0 1 rfl ?_
  refine im_if_lt hF 62 dX10_voyage_1 (by decide) (fun _ => ?_) (fun _ => ?_)
  · refine im_iconst hF dX10_voyage_62 (v := (-1 : Int32)) (by decide) ?_
    exact im_iret hF hM dX10_voyage_63
  · refine im_iload_n hF dX10_voyage_4 1 rfl ?_
    refine im_iconst hF dX10_voyage_5 (v := (4 : Int32)) (by decide) ?_
    refine im_icmp_ge hF 62 dX10_voyage_6 (by decide) (fun _ => ?_) (fun _ => ?_)
    · refine im_iconst hF dX10_voyage_62 (v := (-1 : Int32)) (by decide) ?_
      exact im_iret hF hM dX10_voyage_63
    · refine im_iload_n hF dX10_voyage_9 2 rfl ?_
      refine im_callSI hF (As := [.int a2]) (rest := []) my_X10_isPort ms_X10_isPort wl_939 (fun l r hr => c_X10_isPort l g hI a2 s0 r hr) ⟨by decide, by decide⟩ rfl rfl (Nat.le_of_ble_eq_true rfl) dX10_voyage_10 (fun q1 => ?_)
      refine im_if_eq hF 62 dX10_voyage_13 (by decide) (fun _ => ?_) (fun _ => ?_)
      · refine im_iconst hF dX10_voyage_62 (v := (-1 : Int32)) (by decide) ?_
        exact im_iret hF hM dX10_voyage_63
      · refine im_iload_n hF dX10_voyage_16 3 rfl ?_
        refine im_iconst hF dX10_voyage_17 (v := (1 : Int32)) (by decide) ?_
        refine im_icmp_lt hF 62 dX10_voyage_18 (by decide) (fun _ => ?_) (fun _ => ?_)
        · refine im_iconst hF dX10_voyage_62 (v := (-1 : Int32)) (by decide) ?_
          exact im_iret hF hM dX10_voyage_63
        · refine im_iload_n hF dX10_voyage_21 3 rfl ?_
          refine im_bipush hF dX10_voyage_22 (v := (30 : Int32)) (by decide) ?_
          refine im_icmp_gt hF 62 dX10_voyage_24 (by decide) (fun _ => ?_) (fun _ => ?_)
          · refine im_iconst hF dX10_voyage_62 (v := (-1 : Int32)) (by decide) ?_
            exact im_iret hF hM dX10_voyage_63
          · refine im_iload hF dX10_voyage_27 4 rfl ?_
            refine im_iconst hF dX10_voyage_29 (v := (1 : Int32)) (by decide) ?_
            refine im_icmp_lt hF 62 dX10_voyage_30 (by decide) (fun _ => ?_) (fun _ => ?_)
            · refine im_iconst hF dX10_voyage_62 (v := (-1 : Int32)) (by decide) ?_
              exact im_iret hF hM dX10_voyage_63
            · refine im_iload hF dX10_voyage_33 4 rfl ?_
              refine im_bipush hF dX10_voyage_35 (v := (48 : Int32)) (by decide) ?_
              refine im_icmp_gt hF 62 dX10_voyage_37 (by decide) (fun _ => ?_) (fun _ => ?_)
              · refine im_iconst hF dX10_voyage_62 (v := (-1 : Int32)) (by decide) ?_
                exact im_iret hF hM dX10_voyage_63
              · refine im_iload hF dX10_voyage_40 5 rfl ?_
                refine im_if_lt hF 62 dX10_voyage_42 (by decide) (fun _ => ?_) (fun _ => ?_)
                · refine im_iconst hF dX10_voyage_62 (v := (-1 : Int32)) (by decide) ?_
                  exact im_iret hF hM dX10_voyage_63
                · refine im_iload hF dX10_voyage_45 5 rfl ?_
                  refine im_sipush hF dX10_voyage_47 (v := (5000 : Int32)) (by decide) ?_
                  refine im_icmp_gt hF 62 dX10_voyage_50 (by decide) (fun _ => ?_) (fun _ => ?_)
                  · refine im_iconst hF dX10_voyage_62 (v := (-1 : Int32)) (by decide) ?_
                    exact im_iret hF hM dX10_voyage_63
                  · refine im_aload_n hF dX10_voyage_53 0 rfl ?_
                    refine im_get hF (v := .int (q1.2 10 0 1)) fl_10_151 (by decide) (by decide) rfl dX10_voyage_54 ?_
                    refine im_bipush hF dX10_voyage_57 (v := (10 : Int32)) (by decide) ?_
                    refine im_icmp_ne hF 64 dX10_voyage_59 (by decide) (fun _ => ?_) (fun _ => ?_)
                    · refine im_iconst hF dX10_voyage_62 (v := (-1 : Int32)) (by decide) ?_
                      exact im_iret hF hM dX10_voyage_63
                    · refine im_aload_n hF dX10_voyage_64 0 rfl ?_
                      refine im_get hF (v := .ref (g.2.1 48 0)) fl_10_22 (by decide) (by decide) rfl dX10_voyage_65 ?_
                      refine im_aload_n hF dX10_voyage_68 0 rfl ?_
                      refine im_get hF (v := .int (q1.2 10 0 1)) fl_10_151 (by decide) (by decide) rfl dX10_voyage_69 ?_
                      refine im_iload_n hF dX10_voyage_72 1 rfl ?_
                      refine im_iast hF ar_48 (by decide) dX10_voyage_73 (fun h2 => im_bdS (fun s3 => ?_))
                      refine im_aload_n hF dX10_voyage_74 0 rfl ?_
                      refine im_get hF (v := .ref (g.2.1 49 0)) fl_10_25 (by decide) (by decide) rfl dX10_voyage_75 ?_
                      refine im_aload_n hF dX10_voyage_78 0 rfl ?_
                      refine im_get hF (v := .int (s3 10 0 1)) fl_10_151 (by decide) (by decide) rfl dX10_voyage_79 ?_
                      refine im_iload_n hF dX10_voyage_82 3 rfl ?_
                      refine im_iast hF ar_49 (by decide) dX10_voyage_83 (fun h4 => im_bdS (fun s5 => ?_))
                      refine im_aload_n hF dX10_voyage_84 0 rfl ?_
                      refine im_get hF (v := .ref (g.2.1 50 0)) fl_10_28 (by decide) (by decide) rfl dX10_voyage_85 ?_
                      refine im_aload_n hF dX10_voyage_88 0 rfl ?_
                      refine im_get hF (v := .int (s5 10 0 1)) fl_10_151 (by decide) (by decide) rfl dX10_voyage_89 ?_
                      refine im_iload hF dX10_voyage_92 4 rfl ?_
                      refine im_iast hF ar_50 (by decide) dX10_voyage_94 (fun h6 => im_bdS (fun s7 => ?_))
                      refine im_aload_n hF dX10_voyage_95 0 rfl ?_
                      refine im_get hF (v := .ref (g.2.1 51 0)) fl_10_31 (by decide) (by decide) rfl dX10_voyage_96 ?_
                      refine im_aload_n hF dX10_voyage_99 0 rfl ?_
                      refine im_get hF (v := .int (s7 10 0 1)) fl_10_151 (by decide) (by decide) rfl dX10_voyage_100 ?_
                      refine im_iload hF dX10_voyage_103 5 rfl ?_
                      refine im_iast hF ar_51 (by decide) dX10_voyage_105 (fun h8 => im_bdS (fun s9 => ?_))
                      refine im_aload_n hF dX10_voyage_106 0 rfl ?_
                      refine im_get hF (v := .ref (g.2.1 52 0)) fl_10_34 (by decide) (by decide) rfl dX10_voyage_107 ?_
                      refine im_aload_n hF dX10_voyage_110 0 rfl ?_
                      refine im_get hF (v := .int (s9 10 0 1)) fl_10_151 (by decide) (by decide) rfl dX10_voyage_111 ?_
                      refine im_iconst hF dX10_voyage_114 (v := (0 : Int32)) (by decide) ?_
                      refine im_iast hF ar_52 (by decide) dX10_voyage_115 (fun h10 => im_bdS (fun s11 => ?_))
                      refine im_aload_n hF dX10_voyage_116 0 rfl ?_
                      refine im_get hF (v := .ref (g.2.1 55 0)) fl_10_43 (by decide) (by decide) rfl dX10_voyage_117 ?_
                      refine im_bipush hF dX10_voyage_120 (v := (7 : Int32)) (by decide) ?_
                      refine im_aload_n hF dX10_voyage_122 0 rfl ?_
                      refine im_get hF (v := .int (s11 10 0 1)) fl_10_151 (by decide) (by decide) rfl dX10_voyage_123 ?_
                      refine im_imul hF dX10_voyage_126 ?_
                      refine im_iload_n hF dX10_voyage_127 2 rfl ?_
                      refine im_iast hF ar_55 (by decide) dX10_voyage_128 (fun h12 => im_bdS (fun s13 => ?_))
                      refine im_aload_n hF dX10_voyage_129 0 rfl ?_
                      refine im_aload_n hF dX10_voyage_130 0 rfl ?_
                      refine im_get hF (v := .int (s13 10 0 1)) fl_10_151 (by decide) (by decide) rfl dX10_voyage_131 ?_
                      refine im_iconst hF dX10_voyage_134 (v := (1 : Int32)) (by decide) ?_
                      refine im_iadd hF dX10_voyage_135 ?_
                      refine im_put hF ((s13 10 0 1) + (1 : Int32)) fp_10_151 (by decide) (by decide) rfl rfl rfl dX10_voyage_136 ?_
                      refine im_bdS (fun s14 => ?_)
                      refine im_aload_n hF dX10_voyage_139 0 rfl ?_
                      refine im_iconst hF dX10_voyage_140 (v := (0 : Int32)) (by decide) ?_
                      refine im_put hF (0 : Int32) fp_10_165 (by decide) (by decide) rfl rfl rfl dX10_voyage_141 ?_
                      refine im_bdS (fun s15 => ?_)
                      refine im_aload_n hF dX10_voyage_144 0 rfl ?_
                      refine im_get hF (v := .int (s15 10 0 1)) fl_10_151 (by decide) (by decide) rfl dX10_voyage_145 ?_
                      refine im_iconst hF dX10_voyage_148 (v := (1 : Int32)) (by decide) ?_
                      refine im_isub hF dX10_voyage_149 ?_
                      exact im_iret hF hM dX10_voyage_150
theorem c_X10_voyage (l : Launch) (g : GT) (hI : GI g) (a1 : Int32) (a2 : Int32) (a3 : Int32) (a4 : Int32) (a5 : Int32) (s0 : Sg) (r : (Int32 × Sg)) (hr : f_X10_voyage a1 a2 a3 a4 a5 s0 = some r) : Ct l yX10_voyage cX10_voyage 6 (some .int) 1 20 g [.ref (g.2.1 10 0), .int a1, .int a2, .int a3, .int a4, .int a5] s0 (embI r) := ct_of (by decide) hI (Nat.le_of_ble_eq_true rfl) (fun X hF hM => i_X10_voyage X g hF hM hI a1 a2 a3 a4 a5 s0) r hr
def f_X10_isVoyage (a1 : Int32) (s0 : Sg) : Option (Int32 × Sg) :=
  if a1 < 0 then
  some ((0 : Int32), s0)
  else
  if (s0 10 0 1) ≤ a1 then
  some ((0 : Int32), s0)
  else
  some ((1 : Int32), s0)
set_option maxRecDepth 4000 in
theorem i_X10_isVoyage (X : Cx) (g : GT) (hF : Fx X g RX10 cX10_isVoyage 2 0 0) (hM : FM X g (some .boolean)) (hI : GI g) (a1 : Int32) (s0 : Sg) : Im X g 2 (Qm X g embI) s0 0 [(0, .ref (g.2.1 10 0)), (1, .int a1)] [] (f_X10_isVoyage a1 s0) := by
  unfold f_X10_isVoyage
  refine im_iload_n hF dX10_isVoyage_0 1 rfl ?_
  refine im_if_lt hF 16 dX10_isVoyage_1 (by decide) (fun _ => ?_) (fun _ => ?_)
  · refine im_iconst hF dX10_isVoyage_16 (v := (0 : Int32)) (by decide) ?_
    exact im_zret hF hM (by decide) dX10_isVoyage_17
  · refine im_iload_n hF dX10_isVoyage_4 1 rfl ?_
    refine im_aload_n hF dX10_isVoyage_5 0 rfl ?_
    refine im_get hF (v := .int (s0 10 0 1)) fl_10_151 (by decide) (by decide) rfl dX10_isVoyage_6 ?_
    refine im_icmp_ge hF 16 dX10_isVoyage_9 (by decide) (fun _ => ?_) (fun _ => ?_)
    · refine im_iconst hF dX10_isVoyage_16 (v := (0 : Int32)) (by decide) ?_
      exact im_zret hF hM (by decide) dX10_isVoyage_17
    · refine im_iconst hF dX10_isVoyage_12 (v := (1 : Int32)) (by decide) ?_
      refine im_goto hF 17 dX10_isVoyage_13 (by decide) ?_
      exact im_zret hF hM (by decide) dX10_isVoyage_17
theorem c_X10_isVoyage (l : Launch) (g : GT) (hI : GI g) (a1 : Int32) (s0 : Sg) (r : (Int32 × Sg)) (hr : f_X10_isVoyage a1 s0 = some r) : Ct l yX10_isVoyage cX10_isVoyage 2 (some .boolean) 0 0 g [.ref (g.2.1 10 0), .int a1] s0 (embI r) := ct_of (by decide) hI (Nat.le_of_ble_eq_true rfl) (fun X hF hM => i_X10_isVoyage X g hF hM hI a1 s0) r hr
def f_X10_leg_B160 (a1 : Int32) (as1 : Int32) (as2 : Int32) (s0 : Sg) : Option (Int32 × Sg) :=
  chk (gi as1 70) (bdS (up3 s0 55 0 as1.toNatClampNeg as2) fun s2 =>
  bdS (up3 s2 10 0 19 (0 : Int32)) fun s3 =>
  chk (gi a1 10) (
  some ((s3 52 0 a1.toNatClampNeg), s3)))
set_option maxRecDepth 4000 in
theorem i_X10_leg_B160 (X : Cx) (g : GT) (hF : Fx X g RX10 cX10_leg 4 1 21) (hM : FM X g (some .int)) (hI : GI g) (a1 : Int32) (as1 : Int32) (as2 : Int32) (s0 : Sg) : Im X g 4 (Qm X g embI) s0 160 [(0, .ref (g.2.1 10 0)), (1, .int a1)] [.int as2, .int as1, .ref (g.2.1 55 0)] (f_X10_leg_B160 a1 as1 as2 s0) := by
  unfold f_X10_leg_B160
  refine im_iast hF ar_55 (by decide) dX10_leg_160 (fun h1 => im_bdS (fun s2 => ?_))
  refine im_aload_n hF dX10_leg_161 0 rfl ?_
  refine im_iconst hF dX10_leg_162 (v := (0 : Int32)) (by decide) ?_
  refine im_put hF (0 : Int32) fp_10_165 (by decide) (by decide) rfl rfl rfl dX10_leg_163 ?_
  refine im_bdS (fun s3 => ?_)
  refine im_aload_n hF dX10_leg_166 0 rfl ?_
  refine im_get hF (v := .ref (g.2.1 52 0)) fl_10_34 (by decide) (by decide) rfl dX10_leg_167 ?_
  refine im_iload_n hF dX10_leg_170 1 rfl ?_
  refine im_iald hF ar_52 (by decide) dX10_leg_171 (fun h4 => ?_)
  exact im_iret hF hM dX10_leg_172
def f_X10_leg_B72 (a1 : Int32) (a2 : Int32) (a3 : Int32) (s0 : Sg) : Option (Int32 × Sg) :=
  chk (gi a1 10) (
  chk (gi (((6 : Int32) * a1) + (s0 52 0 a1.toNatClampNeg)) 60) (bdS (up3 s0 53 0 (((6 : Int32) * a1) + (s0 52 0 a1.toNatClampNeg)).toNatClampNeg a2) fun s3 =>
  chk (gi a1 10) (
  chk (gi (((6 : Int32) * a1) + (s3 52 0 a1.toNatClampNeg)) 60) (bdS (up3 s3 54 0 (((6 : Int32) * a1) + (s3 52 0 a1.toNatClampNeg)).toNatClampNeg (0 : Int32)) fun s6 =>
  chk (gi a1 10) (
  chk (gi a1 10) (bdS (up3 s6 52 0 a1.toNatClampNeg ((s6 52 0 a1.toNatClampNeg) + (1 : Int32))) fun s9 =>
  chk (gi a1 10) (
  chk (gi a2 12) (
  if (s9 44 0 a2.toNatClampNeg) = a3 then
  chk (gi a2 12) (
  (f_X10_leg_B160) a1 (((7 : Int32) * a1) + (s9 52 0 a1.toNatClampNeg)) (s9 45 0 a2.toNatClampNeg) s9)
  else
  chk (gi a2 12) (
  (f_X10_leg_B160) a1 (((7 : Int32) * a1) + (s9 52 0 a1.toNatClampNeg)) (s9 44 0 a2.toNatClampNeg) s9)))))))))
set_option maxRecDepth 4000 in
theorem i_X10_leg_B72 (X : Cx) (g : GT) (hF : Fx X g RX10 cX10_leg 4 1 21) (hM : FM X g (some .int)) (hI : GI g) (a1 : Int32) (a2 : Int32) (a3 : Int32) (s0 : Sg) : Im X g 4 (Qm X g embI) s0 72 [(0, .ref (g.2.1 10 0)), (1, .int a1), (2, .int a2), (3, .int a3)] [] (f_X10_leg_B72 a1 a2 a3 s0) := by
  unfold f_X10_leg_B72
  refine im_aload_n hF dX10_leg_72 0 rfl ?_
  refine im_get hF (v := .ref (g.2.1 53 0)) fl_10_37 (by decide) (by decide) rfl dX10_leg_73 ?_
  refine im_bipush hF dX10_leg_76 (v := (6 : Int32)) (by decide) ?_
  refine im_iload_n hF dX10_leg_78 1 rfl ?_
  refine im_imul hF dX10_leg_79 ?_
  refine im_aload_n hF dX10_leg_80 0 rfl ?_
  refine im_get hF (v := .ref (g.2.1 52 0)) fl_10_34 (by decide) (by decide) rfl dX10_leg_81 ?_
  refine im_iload_n hF dX10_leg_84 1 rfl ?_
  refine im_iald hF ar_52 (by decide) dX10_leg_85 (fun h1 => ?_)
  refine im_iadd hF dX10_leg_86 ?_
  refine im_iload_n hF dX10_leg_87 2 rfl ?_
  refine im_iast hF ar_53 (by decide) dX10_leg_88 (fun h2 => im_bdS (fun s3 => ?_))
  refine im_aload_n hF dX10_leg_89 0 rfl ?_
  refine im_get hF (v := .ref (g.2.1 54 0)) fl_10_40 (by decide) (by decide) rfl dX10_leg_90 ?_
  refine im_bipush hF dX10_leg_93 (v := (6 : Int32)) (by decide) ?_
  refine im_iload_n hF dX10_leg_95 1 rfl ?_
  refine im_imul hF dX10_leg_96 ?_
  refine im_aload_n hF dX10_leg_97 0 rfl ?_
  refine im_get hF (v := .ref (g.2.1 52 0)) fl_10_34 (by decide) (by decide) rfl dX10_leg_98 ?_
  refine im_iload_n hF dX10_leg_101 1 rfl ?_
  refine im_iald hF ar_52 (by decide) dX10_leg_102 (fun h4 => ?_)
  refine im_iadd hF dX10_leg_103 ?_
  refine im_iconst hF dX10_leg_104 (v := (0 : Int32)) (by decide) ?_
  refine im_iast hF ar_54 (by decide) dX10_leg_105 (fun h5 => im_bdS (fun s6 => ?_))
  refine im_aload_n hF dX10_leg_106 0 rfl ?_
  refine im_get hF (v := .ref (g.2.1 52 0)) fl_10_34 (by decide) (by decide) rfl dX10_leg_107 ?_
  refine im_iload_n hF dX10_leg_110 1 rfl ?_
  refine im_aload_n hF dX10_leg_111 0 rfl ?_
  refine im_get hF (v := .ref (g.2.1 52 0)) fl_10_34 (by decide) (by decide) rfl dX10_leg_112 ?_
  refine im_iload_n hF dX10_leg_115 1 rfl ?_
  refine im_iald hF ar_52 (by decide) dX10_leg_116 (fun h7 => ?_)
  refine im_iconst hF dX10_leg_117 (v := (1 : Int32)) (by decide) ?_
  refine im_iadd hF dX10_leg_118 ?_
  refine im_iast hF ar_52 (by decide) dX10_leg_119 (fun h8 => im_bdS (fun s9 => ?_))
  refine im_aload_n hF dX10_leg_120 0 rfl ?_
  refine im_get hF (v := .ref (g.2.1 55 0)) fl_10_43 (by decide) (by decide) rfl dX10_leg_121 ?_
  refine im_bipush hF dX10_leg_124 (v := (7 : Int32)) (by decide) ?_
  refine im_iload_n hF dX10_leg_126 1 rfl ?_
  refine im_imul hF dX10_leg_127 ?_
  refine im_aload_n hF dX10_leg_128 0 rfl ?_
  refine im_get hF (v := .ref (g.2.1 52 0)) fl_10_34 (by decide) (by decide) rfl dX10_leg_129 ?_
  refine im_iload_n hF dX10_leg_132 1 rfl ?_
  refine im_iald hF ar_52 (by decide) dX10_leg_133 (fun h10 => ?_)
  refine im_iadd hF dX10_leg_134 ?_
  refine im_aload_n hF dX10_leg_135 0 rfl ?_
  refine im_get hF (v := .ref (g.2.1 44 0)) fl_10_7 (by decide) (by decide) rfl dX10_leg_136 ?_
  refine im_iload_n hF dX10_leg_139 2 rfl ?_
  refine im_iald hF ar_44 (by decide) dX10_leg_140 (fun h11 => ?_)
  refine im_iload_n hF dX10_leg_141 3 rfl ?_
  refine im_icmp_ne hF 154 dX10_leg_142 (by decide) (fun _ => ?_) (fun _ => ?_)
  · refine im_aload_n hF dX10_leg_145 0 rfl ?_
    refine im_get hF (v := .ref (g.2.1 45 0)) fl_10_13 (by decide) (by decide) rfl dX10_leg_146 ?_
    refine im_iload_n hF dX10_leg_149 2 rfl ?_
    refine im_iald hF ar_45 (by decide) dX10_leg_150 (fun h12 => ?_)
    refine im_goto hF 160 dX10_leg_151 (by decide) ?_
    refine im_sub (lv' := [(0, .ref (g.2.1 10 0)), (1, .int a1)]) [0, 1] rfl ?_
    exact (i_X10_leg_B160 X g hF hM hI) a1 (((7 : Int32) * a1) + (s9 52 0 a1.toNatClampNeg)) (s9 45 0 a2.toNatClampNeg) s9
  · refine im_aload_n hF dX10_leg_154 0 rfl ?_
    refine im_get hF (v := .ref (g.2.1 44 0)) fl_10_7 (by decide) (by decide) rfl dX10_leg_155 ?_
    refine im_iload_n hF dX10_leg_158 2 rfl ?_
    refine im_iald hF ar_44 (by decide) dX10_leg_159 (fun h13 => ?_)
    refine im_sub (lv' := [(0, .ref (g.2.1 10 0)), (1, .int a1)]) [0, 1] rfl ?_
    exact (i_X10_leg_B160 X g hF hM hI) a1 (((7 : Int32) * a1) + (s9 52 0 a1.toNatClampNeg)) (s9 44 0 a2.toNatClampNeg) s9
def f_X10_leg (a1 : Int32) (a2 : Int32) (s0 : Sg) : Option (Int32 × Sg) :=
  Option.bind (f_X10_isVoyage a1 s0) fun q1 =>
  if q1.1 = 0 then
  some ((-1 : Int32), q1.2)
  else
  if a2 < 0 then
  some ((-1 : Int32), q1.2)
  else
  if (q1.2 10 0 0) ≤ a2 then
  some ((-1 : Int32), q1.2)
  else
  chk (gi a1 10) (
  if (q1.2 52 0 a1.toNatClampNeg) = (6 : Int32) then
  some ((-1 : Int32), q1.2)
  else
  chk (gi a1 10) (
  chk (gi (((7 : Int32) * a1) + (q1.2 52 0 a1.toNatClampNeg)) 70) (
  bdI (q1.2 55 0 (((7 : Int32) * a1) + (q1.2 52 0 a1.toNatClampNeg)).toNatClampNeg) fun x5 =>
  chk (gi a2 12) (
  if (q1.2 44 0 a2.toNatClampNeg) = x5 then
  (f_X10_leg_B72) a1 a2 x5 q1.2
  else
  chk (gi a2 12) (
  if (q1.2 45 0 a2.toNatClampNeg) = x5 then
  (f_X10_leg_B72) a1 a2 x5 q1.2
  else
  some ((-1 : Int32), q1.2))))))
set_option maxRecDepth 4000 in
theorem i_X10_leg (X : Cx) (g : GT) (hF : Fx X g RX10 cX10_leg 4 1 21) (hM : FM X g (some .int)) (hI : GI g) (a1 : Int32) (a2 : Int32) (s0 : Sg) : Im X g 4 (Qm X g embI) s0 0 [(0, .ref (g.2.1 10 0)), (1, .int a1), (2, .int a2)] [] (f_X10_leg a1 a2 s0) := by
  unfold f_X10_leg
  refine im_aload_n hF dX10_leg_0 0 rfl ?_
  refine im_iload_n hF dX10_leg_1 1 rfl ?_
  refine im_callVI hF (As := [.int a1]) (rest := []) my_X10_isVoyage mv_X10_isVoyage wl_956 (fun l r hr => c_X10_isVoyage l g hI a1 s0 r hr) ⟨by decide, by decide⟩ (by decide) (by decide) ⟨_, rfl, rfl⟩ rfl rfl (Nat.le_of_ble_eq_true rfl) dX10_leg_2 (fun q1 => ?_)
  refine im_if_eq hF 31 dX10_leg_5 (by decide) (fun _ => ?_) (fun _ => ?_)
  · refine im_iconst hF dX10_leg_31 (v := (-1 : Int32)) (by decide) ?_
    exact im_iret hF hM dX10_leg_32
  · refine im_iload_n hF dX10_leg_8 2 rfl ?_
    refine im_if_lt hF 31 dX10_leg_9 (by decide) (fun _ => ?_) (fun _ => ?_)
    · refine im_iconst hF dX10_leg_31 (v := (-1 : Int32)) (by decide) ?_
      exact im_iret hF hM dX10_leg_32
    · refine im_iload_n hF dX10_leg_12 2 rfl ?_
      refine im_aload_n hF dX10_leg_13 0 rfl ?_
      refine im_get hF (v := .int (q1.2 10 0 0)) fl_10_158 (by decide) (by decide) rfl dX10_leg_14 ?_
      refine im_icmp_ge hF 31 dX10_leg_17 (by decide) (fun _ => ?_) (fun _ => ?_)
      · refine im_iconst hF dX10_leg_31 (v := (-1 : Int32)) (by decide) ?_
        exact im_iret hF hM dX10_leg_32
      · refine im_aload_n hF dX10_leg_20 0 rfl ?_
        refine im_get hF (v := .ref (g.2.1 52 0)) fl_10_34 (by decide) (by decide) rfl dX10_leg_21 ?_
        refine im_iload_n hF dX10_leg_24 1 rfl ?_
        refine im_iald hF ar_52 (by decide) dX10_leg_25 (fun h2 => ?_)
        refine im_bipush hF dX10_leg_26 (v := (6 : Int32)) (by decide) ?_
        refine im_icmp_ne hF 33 dX10_leg_28 (by decide) (fun _ => ?_) (fun _ => ?_)
        · refine im_iconst hF dX10_leg_31 (v := (-1 : Int32)) (by decide) ?_
          exact im_iret hF hM dX10_leg_32
        · refine im_aload_n hF dX10_leg_33 0 rfl ?_
          refine im_get hF (v := .ref (g.2.1 55 0)) fl_10_43 (by decide) (by decide) rfl dX10_leg_34 ?_
          refine im_bipush hF dX10_leg_37 (v := (7 : Int32)) (by decide) ?_
          refine im_iload_n hF dX10_leg_39 1 rfl ?_
          refine im_imul hF dX10_leg_40 ?_
          refine im_aload_n hF dX10_leg_41 0 rfl ?_
          refine im_get hF (v := .ref (g.2.1 52 0)) fl_10_34 (by decide) (by decide) rfl dX10_leg_42 ?_
          refine im_iload_n hF dX10_leg_45 1 rfl ?_
          refine im_iald hF ar_52 (by decide) dX10_leg_46 (fun h3 => ?_)
          refine im_iadd hF dX10_leg_47 ?_
          refine im_iald hF ar_55 (by decide) dX10_leg_48 (fun h4 => ?_)
          refine im_bdI (fun x5 => ?_)
          refine im_istore_n hF dX10_leg_49 (lv' := [(3, .int x5), (0, .ref (g.2.1 10 0)), (1, .int a1), (2, .int a2)]) rfl (by decide) rfl ?_
          refine im_aload_n hF dX10_leg_50 1 rfl ?_
          refine im_get hF (v := .ref (g.2.1 44 0)) fl_10_7 (by decide) (by decide) rfl dX10_leg_51 ?_
          refine im_iload_n hF dX10_leg_54 3 rfl ?_
          refine im_iald hF ar_44 (by decide) dX10_leg_55 (fun h6 => ?_)
          refine im_iload_n hF dX10_leg_56 0 rfl ?_
          refine im_icmp_eq hF 72 dX10_leg_57 (by decide) (fun _ => ?_) (fun _ => ?_)
          · refine im_sub (lv' := [(0, .ref (g.2.1 10 0)), (1, .int a1), (2, .int a2), (3, .int x5)]) [1, 2, 3, 0] rfl ?_
            exact (i_X10_leg_B72 X g hF hM hI) a1 a2 x5 q1.2
          · refine im_aload_n hF dX10_leg_60 1 rfl ?_
            refine im_get hF (v := .ref (g.2.1 45 0)) fl_10_13 (by decide) (by decide) rfl dX10_leg_61 ?_
            refine im_iload_n hF dX10_leg_64 3 rfl ?_
            refine im_iald hF ar_45 (by decide) dX10_leg_65 (fun h7 => ?_)
            refine im_iload_n hF dX10_leg_66 0 rfl ?_
            refine im_icmp_eq hF 72 dX10_leg_67 (by decide) (fun _ => ?_) (fun _ => ?_)
            · refine im_sub (lv' := [(0, .ref (g.2.1 10 0)), (1, .int a1), (2, .int a2), (3, .int x5)]) [1, 2, 3, 0] rfl ?_
              exact (i_X10_leg_B72 X g hF hM hI) a1 a2 x5 q1.2
            · refine im_iconst hF dX10_leg_70 (v := (-1 : Int32)) (by decide) ?_
              exact im_iret hF hM dX10_leg_71
theorem c_X10_leg (l : Launch) (g : GT) (hI : GI g) (a1 : Int32) (a2 : Int32) (s0 : Sg) (r : (Int32 × Sg)) (hr : f_X10_leg a1 a2 s0 = some r) : Ct l yX10_leg cX10_leg 4 (some .int) 1 21 g [.ref (g.2.1 10 0), .int a1, .int a2] s0 (embI r) := ct_of (by decide) hI (Nat.le_of_ble_eq_true rfl) (fun X hF hM => i_X10_leg X g hF hM hI a1 a2 s0) r hr
def f_X10_broken (a1 : Int32) (a2 : Int32) (a3 : Int32) (s0 : Sg) : Option (Int32 × Sg) :=
  Option.bind (f_X10_isVoyage a1 s0) fun q1 =>
  if q1.1 = 0 then
  some ((0 : Int32), q1.2)
  else
  if a2 < 0 then
  some ((0 : Int32), q1.2)
  else
  chk (gi a1 10) (
  if (q1.2 52 0 a1.toNatClampNeg) ≤ a2 then
  some ((0 : Int32), q1.2)
  else
  if a3 < 0 then
  some ((0 : Int32), q1.2)
  else
  if a3 ≤ (500 : Int32) then
  chk (gi (((6 : Int32) * a1) + a2) 60) (bdS (up3 q1.2 54 0 (((6 : Int32) * a1) + a2).toNatClampNeg a3) fun s4 =>
  bdS (up3 s4 10 0 19 (0 : Int32)) fun s5 =>
  some ((1 : Int32), s5))
  else
  some ((0 : Int32), q1.2))
set_option maxRecDepth 4000 in
theorem i_X10_broken (X : Cx) (g : GT) (hF : Fx X g RX10 cX10_broken 4 1 21) (hM : FM X g (some .boolean)) (hI : GI g) (a1 : Int32) (a2 : Int32) (a3 : Int32) (s0 : Sg) : Im X g 4 (Qm X g embI) s0 0 [(0, .ref (g.2.1 10 0)), (1, .int a1), (2, .int a2), (3, .int a3)] [] (f_X10_broken a1 a2 a3 s0) := by
  unfold f_X10_broken
  refine im_aload_n hF dX10_broken_0 0 rfl ?_
  refine im_iload_n hF dX10_broken_1 1 rfl ?_
  refine im_callVI hF (As := [.int a1]) (rest := []) my_X10_isVoyage mv_X10_isVoyage wl_956 (fun l r hr => c_X10_isVoyage l g hI a1 s0 r hr) ⟨by decide, by decide⟩ (by decide) (by decide) ⟨_, rfl, rfl⟩ rfl rfl (Nat.le_of_ble_eq_true rfl) dX10_broken_2 (fun q1 => ?_)
  refine im_if_eq hF 33 dX10_broken_5 (by decide) (fun _ => ?_) (fun _ => ?_)
  · refine im_iconst hF dX10_broken_33 (v := (0 : Int32)) (by decide) ?_
    exact im_zret hF hM (by decide) dX10_broken_34
  · refine im_iload_n hF dX10_broken_8 2 rfl ?_
    refine im_if_lt hF 33 dX10_broken_9 (by decide) (fun _ => ?_) (fun _ => ?_)
    · refine im_iconst hF dX10_broken_33 (v := (0 : Int32)) (by decide) ?_
      exact im_zret hF hM (by decide) dX10_broken_34
    · refine im_iload_n hF dX10_broken_12 2 rfl ?_
      refine im_aload_n hF dX10_broken_13 0 rfl ?_
      refine im_get hF (v := .ref (g.2.1 52 0)) fl_10_34 (by decide) (by decide) rfl dX10_broken_14 ?_
      refine im_iload_n hF dX10_broken_17 1 rfl ?_
      refine im_iald hF ar_52 (by decide) dX10_broken_18 (fun h2 => ?_)
      refine im_icmp_ge hF 33 dX10_broken_19 (by decide) (fun _ => ?_) (fun _ => ?_)
      · refine im_iconst hF dX10_broken_33 (v := (0 : Int32)) (by decide) ?_
        exact im_zret hF hM (by decide) dX10_broken_34
      · refine im_iload_n hF dX10_broken_22 3 rfl ?_
        refine im_if_lt hF 33 dX10_broken_23 (by decide) (fun _ => ?_) (fun _ => ?_)
        · refine im_iconst hF dX10_broken_33 (v := (0 : Int32)) (by decide) ?_
          exact im_zret hF hM (by decide) dX10_broken_34
        · refine im_iload_n hF dX10_broken_26 3 rfl ?_
          refine im_sipush hF dX10_broken_27 (v := (500 : Int32)) (by decide) ?_
          refine im_icmp_le hF 35 dX10_broken_30 (by decide) (fun _ => ?_) (fun _ => ?_)
          · refine im_aload_n hF dX10_broken_35 0 rfl ?_
            refine im_get hF (v := .ref (g.2.1 54 0)) fl_10_40 (by decide) (by decide) rfl dX10_broken_36 ?_
            refine im_bipush hF dX10_broken_39 (v := (6 : Int32)) (by decide) ?_
            refine im_iload_n hF dX10_broken_41 1 rfl ?_
            refine im_imul hF dX10_broken_42 ?_
            refine im_iload_n hF dX10_broken_43 2 rfl ?_
            refine im_iadd hF dX10_broken_44 ?_
            refine im_iload_n hF dX10_broken_45 3 rfl ?_
            refine im_iast hF ar_54 (by decide) dX10_broken_46 (fun h3 => im_bdS (fun s4 => ?_))
            refine im_aload_n hF dX10_broken_47 0 rfl ?_
            refine im_iconst hF dX10_broken_48 (v := (0 : Int32)) (by decide) ?_
            refine im_put hF (0 : Int32) fp_10_165 (by decide) (by decide) rfl rfl rfl dX10_broken_49 ?_
            refine im_bdS (fun s5 => ?_)
            refine im_iconst hF dX10_broken_52 (v := (1 : Int32)) (by decide) ?_
            exact im_zret hF hM (by decide) dX10_broken_53
          · refine im_iconst hF dX10_broken_33 (v := (0 : Int32)) (by decide) ?_
            exact im_zret hF hM (by decide) dX10_broken_34
theorem c_X10_broken (l : Launch) (g : GT) (hI : GI g) (a1 : Int32) (a2 : Int32) (a3 : Int32) (s0 : Sg) (r : (Int32 × Sg)) (hr : f_X10_broken a1 a2 a3 s0 = some r) : Ct l yX10_broken cX10_broken 4 (some .boolean) 1 21 g [.ref (g.2.1 10 0), .int a1, .int a2, .int a3] s0 (embI r) := ct_of (by decide) hI (Nat.le_of_ble_eq_true rfl) (fun X hF hM => i_X10_broken X g hF hM hI a1 a2 a3 s0) r hr
def f_X10_meeting_B2 (k2 : Int32 → Int32 → Int32 → Sg → Option (Int32 × Sg)) (a1 : Int32) (a2 : Int32) (a3 : Int32) (s0 : Sg) : Option (Int32 × Sg) :=
  if (s0 10 0 2) ≤ a3 then
  some ((-1 : Int32), s0)
  else
  chk (gi a3 20) (
  if (s0 56 0 a3.toNatClampNeg) = a1 then
  chk (gi a3 20) (
  if (s0 57 0 a3.toNatClampNeg) = a2 then
  some (a3, s0)
  else
  k2 a1 a2 (a3 + (1 : Int32)) s0)
  else
  k2 a1 a2 (a3 + (1 : Int32)) s0)
set_option maxRecDepth 4000 in
theorem i_X10_meeting_B2 (X : Cx) (g : GT) (hF : Fx X g RX10 cX10_meeting 4 0 0) (hM : FM X g (some .int)) (hI : GI g) (k2 : Int32 → Int32 → Int32 → Sg → Option (Int32 × Sg)) (hk2 : ∀ (a1 : Int32) (a2 : Int32) (a3 : Int32) (s0 : Sg), Im X g 4 (Qm X g embI) s0 2 [(0, .ref (g.2.1 10 0)), (1, .int a1), (2, .int a2), (3, .int a3)] [] (k2 a1 a2 a3 s0)) (a1 : Int32) (a2 : Int32) (a3 : Int32) (s0 : Sg) : Im X g 4 (Qm X g embI) s0 2 [(0, .ref (g.2.1 10 0)), (1, .int a1), (2, .int a2), (3, .int a3)] [] (f_X10_meeting_B2 k2 a1 a2 a3 s0) := by
  unfold f_X10_meeting_B2
  refine im_iload_n hF dX10_meeting_2 3 rfl ?_
  refine im_aload_n hF dX10_meeting_3 0 rfl ?_
  refine im_get hF (v := .int (s0 10 0 2)) fl_10_172 (by decide) (by decide) rfl dX10_meeting_4 ?_
  refine im_icmp_ge hF 38 dX10_meeting_7 (by decide) (fun _ => ?_) (fun _ => ?_)
  · refine im_iconst hF dX10_meeting_38 (v := (-1 : Int32)) (by decide) ?_
    exact im_iret hF hM dX10_meeting_39
  · refine im_aload_n hF dX10_meeting_10 0 rfl ?_
    refine im_get hF (v := .ref (g.2.1 56 0)) fl_10_46 (by decide) (by decide) rfl dX10_meeting_11 ?_
    refine im_iload_n hF dX10_meeting_14 3 rfl ?_
    refine im_iald hF ar_56 (by decide) dX10_meeting_15 (fun h1 => ?_)
    refine im_iload_n hF dX10_meeting_16 1 rfl ?_
    refine im_icmp_ne hF 32 dX10_meeting_17 (by decide) (fun _ => ?_) (fun _ => ?_)
    · refine im_aload_n hF dX10_meeting_20 0 rfl ?_
      refine im_get hF (v := .ref (g.2.1 57 0)) fl_10_49 (by decide) (by decide) rfl dX10_meeting_21 ?_
      refine im_iload_n hF dX10_meeting_24 3 rfl ?_
      refine im_iald hF ar_57 (by decide) dX10_meeting_25 (fun h2 => ?_)
      refine im_iload_n hF dX10_meeting_26 2 rfl ?_
      refine im_icmp_ne hF 32 dX10_meeting_27 (by decide) (fun _ => ?_) (fun _ => ?_)
      · refine im_iload_n hF dX10_meeting_30 3 rfl ?_
        exact im_iret hF hM dX10_meeting_31
      · refine im_iinc hF dX10_meeting_32 (v := (a3 + (1 : Int32))) (lv' := [(3, .int (a3 + (1 : Int32))), (0, .ref (g.2.1 10 0)), (1, .int a1), (2, .int a2)]) 3 rfl rfl (by decide) rfl ?_
        refine im_goto hF 2 dX10_meeting_35 (by decide) ?_
        refine im_sub (lv' := [(0, .ref (g.2.1 10 0)), (1, .int a1), (2, .int a2), (3, .int (a3 + (1 : Int32)))]) [1, 2, 3, 0] rfl ?_
        exact hk2 a1 a2 (a3 + (1 : Int32)) s0
    · refine im_iinc hF dX10_meeting_32 (v := (a3 + (1 : Int32))) (lv' := [(3, .int (a3 + (1 : Int32))), (0, .ref (g.2.1 10 0)), (1, .int a1), (2, .int a2)]) 3 rfl rfl (by decide) rfl ?_
      refine im_goto hF 2 dX10_meeting_35 (by decide) ?_
      refine im_sub (lv' := [(0, .ref (g.2.1 10 0)), (1, .int a1), (2, .int a2), (3, .int (a3 + (1 : Int32)))]) [1, 2, 3, 0] rfl ?_
      exact hk2 a1 a2 (a3 + (1 : Int32)) s0
def f_X10_meeting_L2 : Nat → Int32 → Int32 → Int32 → Sg → Option (Int32 × Sg)
  | 0 => fun _ _ _ _ => none
  | n + 1 => fun a1 a2 a3 s0 => f_X10_meeting_B2 (f_X10_meeting_L2 n) a1 a2 a3 s0
theorem i_X10_meeting_L2 (X : Cx) (g : GT) (hF : Fx X g RX10 cX10_meeting 4 0 0) (hM : FM X g (some .int)) (hI : GI g) : ∀ (n : Nat) (a1 : Int32) (a2 : Int32) (a3 : Int32) (s0 : Sg), Im X g 4 (Qm X g embI) s0 2 [(0, .ref (g.2.1 10 0)), (1, .int a1), (2, .int a2), (3, .int a3)] [] (f_X10_meeting_L2 n a1 a2 a3 s0) := by
  intro n
  induction n with
  | zero => intros; exact im_none
  | succ n ih => intro a1 a2 a3 s0; exact i_X10_meeting_B2 X g hF hM hI (f_X10_meeting_L2 n) ih a1 a2 a3 s0
def f_X10_meeting (a1 : Int32) (a2 : Int32) (s0 : Sg) : Option (Int32 × Sg) :=
  (f_X10_meeting_L2 FU) a1 a2 (0 : Int32) s0
set_option maxRecDepth 4000 in
theorem i_X10_meeting (X : Cx) (g : GT) (hF : Fx X g RX10 cX10_meeting 4 0 0) (hM : FM X g (some .int)) (hI : GI g) (a1 : Int32) (a2 : Int32) (s0 : Sg) : Im X g 4 (Qm X g embI) s0 0 [(0, .ref (g.2.1 10 0)), (1, .int a1), (2, .int a2)] [] (f_X10_meeting a1 a2 s0) := by
  unfold f_X10_meeting
  refine im_iconst hF dX10_meeting_0 (v := (0 : Int32)) (by decide) ?_
  refine im_istore_n hF dX10_meeting_1 (lv' := [(3, .int (0 : Int32)), (0, .ref (g.2.1 10 0)), (1, .int a1), (2, .int a2)]) rfl (by decide) rfl ?_
  refine im_sub (lv' := [(0, .ref (g.2.1 10 0)), (1, .int a1), (2, .int a2), (3, .int (0 : Int32))]) [1, 2, 3, 0] rfl ?_
  exact (i_X10_meeting_L2 X g hF hM hI FU) a1 a2 (0 : Int32) s0
theorem c_X10_meeting (l : Launch) (g : GT) (hI : GI g) (a1 : Int32) (a2 : Int32) (s0 : Sg) (r : (Int32 × Sg)) (hr : f_X10_meeting a1 a2 s0 = some r) : Ct l yX10_meeting cX10_meeting 4 (some .int) 0 0 g [.ref (g.2.1 10 0), .int a1, .int a2] s0 (embI r) := ct_of (by decide) hI (Nat.le_of_ble_eq_true rfl) (fun X hF hM => i_X10_meeting X g hF hM hI a1 a2 s0) r hr
def f_X10_meet (a1 : Int32) (a2 : Int32) (a3 : Int32) (a4 : Int32) (s0 : Sg) : Option (Int32 × Sg) :=
  Option.bind (f_X10_isVoyage a1 s0) fun q1 =>
  if q1.1 = 0 then
  some ((0 : Int32), q1.2)
  else
  Option.bind (f_X10_isVoyage a3 q1.2) fun q2 =>
  if q2.1 = 0 then
  some ((0 : Int32), q2.2)
  else
  if a1 = a3 then
  some ((0 : Int32), q2.2)
  else
  if a2 < 0 then
  some ((0 : Int32), q2.2)
  else
  chk (gi a1 10) (
  if (q2.2 52 0 a1.toNatClampNeg) ≤ a2 then
  some ((0 : Int32), q2.2)
  else
  if a4 < (1 : Int32) then
  some ((0 : Int32), q2.2)
  else
  chk (gi a3 10) (
  if (q2.2 52 0 a3.toNatClampNeg) < a4 then
  some ((0 : Int32), q2.2)
  else
  if (q2.2 10 0 2) = (20 : Int32) then
  some ((0 : Int32), q2.2)
  else
  chk (gi (((7 : Int32) * a1) + a2) 70) (
  chk (gi (((7 : Int32) * a3) + a4) 70) (
  if (q2.2 55 0 (((7 : Int32) * a1) + a2).toNatClampNeg) = (q2.2 55 0 (((7 : Int32) * a3) + a4).toNatClampNeg) then
  Option.bind (f_X10_meeting a1 a2 q2.2) fun q7 =>
  if q7.1 = (-1 : Int32) then
  chk (gi (q7.2 10 0 2) 20) (bdS (up3 q7.2 56 0 (q7.2 10 0 2).toNatClampNeg a1) fun s9 =>
  chk (gi (s9 10 0 2) 20) (bdS (up3 s9 57 0 (s9 10 0 2).toNatClampNeg a2) fun s11 =>
  chk (gi (s11 10 0 2) 20) (bdS (up3 s11 58 0 (s11 10 0 2).toNatClampNeg a3) fun s13 =>
  chk (gi (s13 10 0 2) 20) (bdS (up3 s13 59 0 (s13 10 0 2).toNatClampNeg a4) fun s15 =>
  bdS (up3 s15 10 0 2 ((s15 10 0 2) + (1 : Int32))) fun s16 =>
  bdS (up3 s16 10 0 19 (0 : Int32)) fun s17 =>
  some ((1 : Int32), s17)))))
  else
  some ((0 : Int32), q7.2)
  else
  some ((0 : Int32), q2.2)))))
set_option maxRecDepth 4000 in
theorem i_X10_meet (X : Cx) (g : GT) (hF : Fx X g RX10 cX10_meet 5 1 23) (hM : FM X g (some .boolean)) (hI : GI g) (a1 : Int32) (a2 : Int32) (a3 : Int32) (a4 : Int32) (s0 : Sg) : Im X g 5 (Qm X g embI) s0 0 [(0, .ref (g.2.1 10 0)), (1, .int a1), (2, .int a2), (3, .int a3), (4, .int a4)] [] (f_X10_meet a1 a2 a3 a4 s0) := by
  unfold f_X10_meet
  refine im_aload_n hF dX10_meet_0 0 rfl ?_
  refine im_iload_n hF dX10_meet_1 1 rfl ?_
  refine im_callVI hF (As := [.int a1]) (rest := []) my_X10_isVoyage mv_X10_isVoyage wl_956 (fun l r hr => c_X10_isVoyage l g hI a1 s0 r hr) ⟨by decide, by decide⟩ (by decide) (by decide) ⟨_, rfl, rfl⟩ rfl rfl (Nat.le_of_ble_eq_true rfl) dX10_meet_2 (fun q1 => ?_)
  refine im_if_eq hF 61 dX10_meet_5 (by decide) (fun _ => ?_) (fun _ => ?_)
  · refine im_iconst hF dX10_meet_61 (v := (0 : Int32)) (by decide) ?_
    exact im_zret hF hM (by decide) dX10_meet_62
  · refine im_aload_n hF dX10_meet_8 0 rfl ?_
    refine im_iload_n hF dX10_meet_9 3 rfl ?_
    refine im_callVI hF (As := [.int a3]) (rest := []) my_X10_isVoyage mv_X10_isVoyage wl_956 (fun l r hr => c_X10_isVoyage l g hI a3 q1.2 r hr) ⟨by decide, by decide⟩ (by decide) (by decide) ⟨_, rfl, rfl⟩ rfl rfl (Nat.le_of_ble_eq_true rfl) dX10_meet_10 (fun q2 => ?_)
    refine im_if_eq hF 61 dX10_meet_13 (by decide) (fun _ => ?_) (fun _ => ?_)
    · refine im_iconst hF dX10_meet_61 (v := (0 : Int32)) (by decide) ?_
      exact im_zret hF hM (by decide) dX10_meet_62
    · refine im_iload_n hF dX10_meet_16 1 rfl ?_
      refine im_iload_n hF dX10_meet_17 3 rfl ?_
      refine im_icmp_eq hF 61 dX10_meet_18 (by decide) (fun _ => ?_) (fun _ => ?_)
      · refine im_iconst hF dX10_meet_61 (v := (0 : Int32)) (by decide) ?_
        exact im_zret hF hM (by decide) dX10_meet_62
      · refine im_iload_n hF dX10_meet_21 2 rfl ?_
        refine im_if_lt hF 61 dX10_meet_22 (by decide) (fun _ => ?_) (fun _ => ?_)
        · refine im_iconst hF dX10_meet_61 (v := (0 : Int32)) (by decide) ?_
          exact im_zret hF hM (by decide) dX10_meet_62
        · refine im_iload_n hF dX10_meet_25 2 rfl ?_
          refine im_aload_n hF dX10_meet_26 0 rfl ?_
          refine im_get hF (v := .ref (g.2.1 52 0)) fl_10_34 (by decide) (by decide) rfl dX10_meet_27 ?_
          refine im_iload_n hF dX10_meet_30 1 rfl ?_
          refine im_iald hF ar_52 (by decide) dX10_meet_31 (fun h3 => ?_)
          refine im_icmp_ge hF 61 dX10_meet_32 (by decide) (fun _ => ?_) (fun _ => ?_)
          · refine im_iconst hF dX10_meet_61 (v := (0 : Int32)) (by decide) ?_
            exact im_zret hF hM (by decide) dX10_meet_62
          · refine im_iload hF dX10_meet_35 4 rfl ?_
            refine im_iconst hF dX10_meet_37 (v := (1 : Int32)) (by decide) ?_
            refine im_icmp_lt hF 61 dX10_meet_38 (by decide) (fun _ => ?_) (fun _ => ?_)
            · refine im_iconst hF dX10_meet_61 (v := (0 : Int32)) (by decide) ?_
              exact im_zret hF hM (by decide) dX10_meet_62
            · refine im_iload hF dX10_meet_41 4 rfl ?_
              refine im_aload_n hF dX10_meet_43 0 rfl ?_
              refine im_get hF (v := .ref (g.2.1 52 0)) fl_10_34 (by decide) (by decide) rfl dX10_meet_44 ?_
              refine im_iload_n hF dX10_meet_47 3 rfl ?_
              refine im_iald hF ar_52 (by decide) dX10_meet_48 (fun h4 => ?_)
              refine im_icmp_gt hF 61 dX10_meet_49 (by decide) (fun _ => ?_) (fun _ => ?_)
              · refine im_iconst hF dX10_meet_61 (v := (0 : Int32)) (by decide) ?_
                exact im_zret hF hM (by decide) dX10_meet_62
              · refine im_aload_n hF dX10_meet_52 0 rfl ?_
                refine im_get hF (v := .int (q2.2 10 0 2)) fl_10_172 (by decide) (by decide) rfl dX10_meet_53 ?_
                refine im_bipush hF dX10_meet_56 (v := (20 : Int32)) (by decide) ?_
                refine im_icmp_ne hF 63 dX10_meet_58 (by decide) (fun _ => ?_) (fun _ => ?_)
                · refine im_iconst hF dX10_meet_61 (v := (0 : Int32)) (by decide) ?_
                  exact im_zret hF hM (by decide) dX10_meet_62
                · refine im_aload_n hF dX10_meet_63 0 rfl ?_
                  refine im_get hF (v := .ref (g.2.1 55 0)) fl_10_43 (by decide) (by decide) rfl dX10_meet_64 ?_
                  refine im_bipush hF dX10_meet_67 (v := (7 : Int32)) (by decide) ?_
                  refine im_iload_n hF dX10_meet_69 1 rfl ?_
                  refine im_imul hF dX10_meet_70 ?_
                  refine im_iload_n hF dX10_meet_71 2 rfl ?_
                  refine im_iadd hF dX10_meet_72 ?_
                  refine im_iald hF ar_55 (by decide) dX10_meet_73 (fun h5 => ?_)
                  refine im_aload_n hF dX10_meet_74 0 rfl ?_
                  refine im_get hF (v := .ref (g.2.1 55 0)) fl_10_43 (by decide) (by decide) rfl dX10_meet_75 ?_
                  refine im_bipush hF dX10_meet_78 (v := (7 : Int32)) (by decide) ?_
                  refine im_iload_n hF dX10_meet_80 3 rfl ?_
                  refine im_imul hF dX10_meet_81 ?_
                  refine im_iload hF dX10_meet_82 4 rfl ?_
                  refine im_iadd hF dX10_meet_84 ?_
                  refine im_iald hF ar_55 (by decide) dX10_meet_85 (fun h6 => ?_)
                  refine im_icmp_ne hF 99 dX10_meet_86 (by decide) (fun _ => ?_) (fun _ => ?_)
                  · refine im_aload_n hF dX10_meet_89 0 rfl ?_
                    refine im_iload_n hF dX10_meet_90 1 rfl ?_
                    refine im_iload_n hF dX10_meet_91 2 rfl ?_
                    refine im_callVI hF (As := [.int a1, .int a2]) (rest := []) my_X10_meeting mv_X10_meeting wl_968 (fun l r hr => c_X10_meeting l g hI a1 a2 q2.2 r hr) ⟨by decide, by decide⟩ (by decide) (by decide) ⟨_, rfl, rfl⟩ rfl rfl (Nat.le_of_ble_eq_true rfl) dX10_meet_92 (fun q7 => ?_)
                    refine im_iconst hF dX10_meet_95 (v := (-1 : Int32)) (by decide) ?_
                    refine im_icmp_eq hF 101 dX10_meet_96 (by decide) (fun _ => ?_) (fun _ => ?_)
                    · refine im_aload_n hF dX10_meet_101 0 rfl ?_
                      refine im_get hF (v := .ref (g.2.1 56 0)) fl_10_46 (by decide) (by decide) rfl dX10_meet_102 ?_
                      refine im_aload_n hF dX10_meet_105 0 rfl ?_
                      refine im_get hF (v := .int (q7.2 10 0 2)) fl_10_172 (by decide) (by decide) rfl dX10_meet_106 ?_
                      refine im_iload_n hF dX10_meet_109 1 rfl ?_
                      refine im_iast hF ar_56 (by decide) dX10_meet_110 (fun h8 => im_bdS (fun s9 => ?_))
                      refine im_aload_n hF dX10_meet_111 0 rfl ?_
                      refine im_get hF (v := .ref (g.2.1 57 0)) fl_10_49 (by decide) (by decide) rfl dX10_meet_112 ?_
                      refine im_aload_n hF dX10_meet_115 0 rfl ?_
                      refine im_get hF (v := .int (s9 10 0 2)) fl_10_172 (by decide) (by decide) rfl dX10_meet_116 ?_
                      refine im_iload_n hF dX10_meet_119 2 rfl ?_
                      refine im_iast hF ar_57 (by decide) dX10_meet_120 (fun h10 => im_bdS (fun s11 => ?_))
                      refine im_aload_n hF dX10_meet_121 0 rfl ?_
                      refine im_get hF (v := .ref (g.2.1 58 0)) fl_10_52 (by decide) (by decide) rfl dX10_meet_122 ?_
                      refine im_aload_n hF dX10_meet_125 0 rfl ?_
                      refine im_get hF (v := .int (s11 10 0 2)) fl_10_172 (by decide) (by decide) rfl dX10_meet_126 ?_
                      refine im_iload_n hF dX10_meet_129 3 rfl ?_
                      refine im_iast hF ar_58 (by decide) dX10_meet_130 (fun h12 => im_bdS (fun s13 => ?_))
                      refine im_aload_n hF dX10_meet_131 0 rfl ?_
                      refine im_get hF (v := .ref (g.2.1 59 0)) fl_10_55 (by decide) (by decide) rfl dX10_meet_132 ?_
                      refine im_aload_n hF dX10_meet_135 0 rfl ?_
                      refine im_get hF (v := .int (s13 10 0 2)) fl_10_172 (by decide) (by decide) rfl dX10_meet_136 ?_
                      refine im_iload hF dX10_meet_139 4 rfl ?_
                      refine im_iast hF ar_59 (by decide) dX10_meet_141 (fun h14 => im_bdS (fun s15 => ?_))
                      refine im_aload_n hF dX10_meet_142 0 rfl ?_
                      refine im_aload_n hF dX10_meet_143 0 rfl ?_
                      refine im_get hF (v := .int (s15 10 0 2)) fl_10_172 (by decide) (by decide) rfl dX10_meet_144 ?_
                      refine im_iconst hF dX10_meet_147 (v := (1 : Int32)) (by decide) ?_
                      refine im_iadd hF dX10_meet_148 ?_
                      refine im_put hF ((s15 10 0 2) + (1 : Int32)) fp_10_172 (by decide) (by decide) rfl rfl rfl dX10_meet_149 ?_
                      refine im_bdS (fun s16 => ?_)
                      refine im_aload_n hF dX10_meet_152 0 rfl ?_
                      refine im_iconst hF dX10_meet_153 (v := (0 : Int32)) (by decide) ?_
                      refine im_put hF (0 : Int32) fp_10_165 (by decide) (by decide) rfl rfl rfl dX10_meet_154 ?_
                      refine im_bdS (fun s17 => ?_)
                      refine im_iconst hF dX10_meet_157 (v := (1 : Int32)) (by decide) ?_
                      exact im_zret hF hM (by decide) dX10_meet_158
                    · refine im_iconst hF dX10_meet_99 (v := (0 : Int32)) (by decide) ?_
                      exact im_zret hF hM (by decide) dX10_meet_100
                  · refine im_iconst hF dX10_meet_99 (v := (0 : Int32)) (by decide) ?_
                    exact im_zret hF hM (by decide) dX10_meet_100
theorem c_X10_meet (l : Launch) (g : GT) (hI : GI g) (a1 : Int32) (a2 : Int32) (a3 : Int32) (a4 : Int32) (s0 : Sg) (r : (Int32 × Sg)) (hr : f_X10_meet a1 a2 a3 a4 s0 = some r) : Ct l yX10_meet cX10_meet 5 (some .boolean) 1 23 g [.ref (g.2.1 10 0), .int a1, .int a2, .int a3, .int a4] s0 (embI r) := ct_of (by decide) hI (Nat.le_of_ble_eq_true rfl) (fun X hF hM => i_X10_meet X g hF hM hI a1 a2 a3 a4 s0) r hr
def f_X10_here (s0 : Sg) : Option (Int32 × Sg) :=
  if (s0 10 0 38) ≤ (s0 10 0 37) then
  some ((0 : Int32), s0)
  else
  chk (gi (s0 10 0 37) 200) (
  some (((s0 60 0 (s0 10 0 37).toNatClampNeg) &&& (255 : Int32)), s0))
set_option maxRecDepth 4000 in
theorem i_X10_here (X : Cx) (g : GT) (hF : Fx X g RX10 cX10_here 1 0 0) (hM : FM X g (some .int)) (hI : GI g) (s0 : Sg) : Im X g 1 (Qm X g embI) s0 0 [(0, .ref (g.2.1 10 0))] [] (f_X10_here s0) := by
  unfold f_X10_here
  refine im_aload_n hF dX10_here_0 0 rfl ?_
  refine im_get hF (v := .int (s0 10 0 37)) fl_10_186 (by decide) (by decide) rfl dX10_here_1 ?_
  refine im_aload_n hF dX10_here_4 0 rfl ?_
  refine im_get hF (v := .int (s0 10 0 38)) fl_10_189 (by decide) (by decide) rfl dX10_here_5 ?_
  refine im_icmp_ge hF 27 dX10_here_8 (by decide) (fun _ => ?_) (fun _ => ?_)
  · refine im_iconst hF dX10_here_27 (v := (0 : Int32)) (by decide) ?_
    exact im_iret hF hM dX10_here_28
  · refine im_aload_n hF dX10_here_11 0 rfl ?_
    refine im_get hF (v := .ref (g.2.1 60 0)) fl_10_58 (by decide) (by decide) rfl dX10_here_12 ?_
    refine im_aload_n hF dX10_here_15 0 rfl ?_
    refine im_get hF (v := .int (s0 10 0 37)) fl_10_186 (by decide) (by decide) rfl dX10_here_16 ?_
    refine im_bald hF ar_60 (by decide) dX10_here_19 (fun h1 => ?_)
    refine im_sipush hF dX10_here_20 (v := (255 : Int32)) (by decide) ?_
    refine im_iand hF dX10_here_23 ?_
    refine im_goto hF 28 dX10_here_24 (by decide) ?_
    exact im_iret hF hM dX10_here_28
theorem c_X10_here (l : Launch) (g : GT) (hI : GI g) (s0 : Sg) (r : (Int32 × Sg)) (hr : f_X10_here s0 = some r) : Ct l yX10_here cX10_here 1 (some .int) 0 0 g [.ref (g.2.1 10 0)] s0 (embI r) := ct_of (by decide) hI (Nat.le_of_ble_eq_true rfl) (fun X hF hM => i_X10_here X g hF hM hI s0) r hr
def f_X10_wrong (a1 : Int32) (s0 : Sg) : Option (Int32 × Sg) :=
  bdS (up3 s0 10 0 22 a1) fun s1 =>
  bdS (up3 s1 10 0 23 (s1 10 0 37)) fun s2 =>
  some ((0 : Int32), s2)
set_option maxRecDepth 4000 in
theorem i_X10_wrong (X : Cx) (g : GT) (hF : Fx X g RX10 cX10_wrong 2 0 0) (hM : FM X g (some .boolean)) (hI : GI g) (a1 : Int32) (s0 : Sg) : Im X g 2 (Qm X g embI) s0 0 [(0, .ref (g.2.1 10 0)), (1, .int a1)] [] (f_X10_wrong a1 s0) := by
  unfold f_X10_wrong
  refine im_aload_n hF dX10_wrong_0 0 rfl ?_
  refine im_iload_n hF dX10_wrong_1 1 rfl ?_
  refine im_put hF a1 fp_10_192 (by decide) (by decide) rfl rfl rfl dX10_wrong_2 ?_
  refine im_bdS (fun s1 => ?_)
  refine im_aload_n hF dX10_wrong_5 0 rfl ?_
  refine im_aload_n hF dX10_wrong_6 0 rfl ?_
  refine im_get hF (v := .int (s1 10 0 37)) fl_10_186 (by decide) (by decide) rfl dX10_wrong_7 ?_
  refine im_put hF (s1 10 0 37) fp_10_62 (by decide) (by decide) rfl rfl rfl dX10_wrong_10 ?_
  refine im_bdS (fun s2 => ?_)
  refine im_iconst hF dX10_wrong_13 (v := (0 : Int32)) (by decide) ?_
  exact im_zret hF hM (by decide) dX10_wrong_14
theorem c_X10_wrong (l : Launch) (g : GT) (hI : GI g) (a1 : Int32) (s0 : Sg) (r : (Int32 × Sg)) (hr : f_X10_wrong a1 s0 = some r) : Ct l yX10_wrong cX10_wrong 2 (some .boolean) 0 0 g [.ref (g.2.1 10 0), .int a1] s0 (embI r) := ct_of (by decide) hI (Nat.le_of_ble_eq_true rfl) (fun X hF hM => i_X10_wrong X g hF hM hI a1 s0) r hr
def f_X10_reads_B10 (k10 : Int32 → Sg → Option (Int32 × Sg)) (k76 : Int32 → Sg → Option (Int32 × Sg)) (a1 : Int32) (s0 : Sg) : Option (Int32 × Sg) :=
  Option.bind (f_X10_here s0) fun q1 =>
  if q1.1 < (48 : Int32) then
  k76 a1 q1.2
  else
  Option.bind (f_X10_here q1.2) fun q2 =>
  if (57 : Int32) < q2.1 then
  k76 a1 q2.2
  else
  if (q2.2 10 0 37) = (a1 + (4 : Int32)) then
  Option.bind (f_X10_wrong (1 : Int32) q2.2) fun q3 =>
  chk (b01 q3.1) (some (q3.1, q3.2))
  else
  Option.bind (f_X10_here q2.2) fun q5 =>
  bdS (up3 q5.2 10 0 40 ((((10 : Int32) * (q2.2 10 0 40)) + q5.1) - (48 : Int32))) fun s6 =>
  bdS (up3 s6 10 0 37 ((s6 10 0 37) + (1 : Int32))) fun s7 =>
  k10 a1 s7
set_option maxRecDepth 4000 in
theorem i_X10_reads_B10 (X : Cx) (g : GT) (hF : Fx X g RX10 cX10_reads 2 1 21) (hM : FM X g (some .boolean)) (hI : GI g) (k10 : Int32 → Sg → Option (Int32 × Sg)) (hk10 : ∀ (a1 : Int32) (s0 : Sg), Im X g 2 (Qm X g embI) s0 10 [(0, .ref (g.2.1 10 0)), (1, .int a1)] [] (k10 a1 s0)) (k76 : Int32 → Sg → Option (Int32 × Sg)) (hk76 : ∀ (a1 : Int32) (s0 : Sg), Im X g 2 (Qm X g embI) s0 76 [(0, .ref (g.2.1 10 0)), (1, .int a1)] [] (k76 a1 s0)) (a1 : Int32) (s0 : Sg) : Im X g 2 (Qm X g embI) s0 10 [(0, .ref (g.2.1 10 0)), (1, .int a1)] [] (f_X10_reads_B10 k10 k76 a1 s0) := by
  unfold f_X10_reads_B10
  refine im_aload_n hF dX10_reads_10 0 rfl ?_
  refine im_callVI hF (As := []) (rest := []) my_X10_here mv_X10_here wl_992 (fun l r hr => c_X10_here l g hI  s0 r hr) ⟨by decide, by decide⟩ (by decide) (by decide) ⟨_, rfl, rfl⟩ rfl rfl (Nat.le_of_ble_eq_true rfl) dX10_reads_11 (fun q1 => ?_)
  refine im_bipush hF dX10_reads_14 (v := (48 : Int32)) (by decide) ?_
  refine im_icmp_lt hF 76 dX10_reads_16 (by decide) (fun _ => ?_) (fun _ => ?_)
  · exact hk76 a1 q1.2
  · refine im_aload_n hF dX10_reads_19 0 rfl ?_
    refine im_callVI hF (As := []) (rest := []) my_X10_here mv_X10_here wl_992 (fun l r hr => c_X10_here l g hI  q1.2 r hr) ⟨by decide, by decide⟩ (by decide) (by decide) ⟨_, rfl, rfl⟩ rfl rfl (Nat.le_of_ble_eq_true rfl) dX10_reads_20 (fun q2 => ?_)
    refine im_bipush hF dX10_reads_23 (v := (57 : Int32)) (by decide) ?_
    refine im_icmp_gt hF 76 dX10_reads_25 (by decide) (fun _ => ?_) (fun _ => ?_)
    · exact hk76 a1 q2.2
    · refine im_aload_n hF dX10_reads_28 0 rfl ?_
      refine im_get hF (v := .int (q2.2 10 0 37)) fl_10_186 (by decide) (by decide) rfl dX10_reads_29 ?_
      refine im_iload_n hF dX10_reads_32 1 rfl ?_
      refine im_iconst hF dX10_reads_33 (v := (4 : Int32)) (by decide) ?_
      refine im_iadd hF dX10_reads_34 ?_
      refine im_icmp_ne hF 44 dX10_reads_35 (by decide) (fun _ => ?_) (fun _ => ?_)
      · refine im_aload_n hF dX10_reads_38 0 rfl ?_
        refine im_iconst hF dX10_reads_39 (v := (1 : Int32)) (by decide) ?_
        refine im_callVI hF (As := [.int (1 : Int32)]) (rest := []) my_X10_wrong mv_X10_wrong wl_996 (fun l r hr => c_X10_wrong l g hI (1 : Int32) q2.2 r hr) ⟨by decide, by decide⟩ (by decide) (by decide) ⟨_, rfl, rfl⟩ rfl rfl (Nat.le_of_ble_eq_true rfl) dX10_reads_40 (fun q3 => ?_)
        exact im_chk (fun h4 => im_zret hF hM (b01_or h4) dX10_reads_43)
      · refine im_aload_n hF dX10_reads_44 0 rfl ?_
        refine im_bipush hF dX10_reads_45 (v := (10 : Int32)) (by decide) ?_
        refine im_aload_n hF dX10_reads_47 0 rfl ?_
        refine im_get hF (v := .int (q2.2 10 0 40)) fl_10_195 (by decide) (by decide) rfl dX10_reads_48 ?_
        refine im_imul hF dX10_reads_51 ?_
        refine im_aload_n hF dX10_reads_52 0 rfl ?_
        refine im_callVI hF (As := []) (rest := [.int ((10 : Int32) * (q2.2 10 0 40)), .ref (g.2.1 10 0)]) my_X10_here mv_X10_here wl_992 (fun l r hr => c_X10_here l g hI  q2.2 r hr) ⟨by decide, by decide⟩ (by decide) (by decide) ⟨_, rfl, rfl⟩ rfl rfl (Nat.le_of_ble_eq_true rfl) dX10_reads_53 (fun q5 => ?_)
        refine im_iadd hF dX10_reads_56 ?_
        refine im_bipush hF dX10_reads_57 (v := (48 : Int32)) (by decide) ?_
        refine im_isub hF dX10_reads_59 ?_
        refine im_put hF ((((10 : Int32) * (q2.2 10 0 40)) + q5.1) - (48 : Int32)) fp_10_195 (by decide) (by decide) rfl rfl rfl dX10_reads_60 ?_
        refine im_bdS (fun s6 => ?_)
        refine im_aload_n hF dX10_reads_63 0 rfl ?_
        refine im_aload_n hF dX10_reads_64 0 rfl ?_
        refine im_get hF (v := .int (s6 10 0 37)) fl_10_186 (by decide) (by decide) rfl dX10_reads_65 ?_
        refine im_iconst hF dX10_reads_68 (v := (1 : Int32)) (by decide) ?_
        refine im_iadd hF dX10_reads_69 ?_
        refine im_put hF ((s6 10 0 37) + (1 : Int32)) fp_10_186 (by decide) (by decide) rfl rfl rfl dX10_reads_70 ?_
        refine im_bdS (fun s7 => ?_)
        refine im_goto hF 10 dX10_reads_73 (by decide) ?_
        exact hk10 a1 s7
def f_X10_reads_L10 (k76 : Int32 → Sg → Option (Int32 × Sg)) : Nat → Int32 → Sg → Option (Int32 × Sg)
  | 0 => fun _ _ => none
  | n + 1 => fun a1 s0 => f_X10_reads_B10 (f_X10_reads_L10 k76 n) k76 a1 s0
theorem i_X10_reads_L10 (X : Cx) (g : GT) (hF : Fx X g RX10 cX10_reads 2 1 21) (hM : FM X g (some .boolean)) (hI : GI g) (k76 : Int32 → Sg → Option (Int32 × Sg)) (hk76 : ∀ (a1 : Int32) (s0 : Sg), Im X g 2 (Qm X g embI) s0 76 [(0, .ref (g.2.1 10 0)), (1, .int a1)] [] (k76 a1 s0)) : ∀ (n : Nat) (a1 : Int32) (s0 : Sg), Im X g 2 (Qm X g embI) s0 10 [(0, .ref (g.2.1 10 0)), (1, .int a1)] [] (f_X10_reads_L10 k76 n a1 s0) := by
  intro n
  induction n with
  | zero => intros; exact im_none
  | succ n ih => intro a1 s0; exact i_X10_reads_B10 X g hF hM hI (f_X10_reads_L10 k76 n) ih k76 hk76 a1 s0
def f_X10_reads_B76 (a1 : Int32) (s0 : Sg) : Option (Int32 × Sg) :=
  if a1 < (s0 10 0 37) then
  some ((1 : Int32), s0)
  else
  Option.bind (f_X10_wrong (1 : Int32) s0) fun q1 =>
  if q1.1 = 0 then
  some ((0 : Int32), q1.2)
  else
  some ((1 : Int32), q1.2)
set_option maxRecDepth 4000 in
theorem i_X10_reads_B76 (X : Cx) (g : GT) (hF : Fx X g RX10 cX10_reads 2 1 21) (hM : FM X g (some .boolean)) (hI : GI g) (a1 : Int32) (s0 : Sg) : Im X g 2 (Qm X g embI) s0 76 [(0, .ref (g.2.1 10 0)), (1, .int a1)] [] (f_X10_reads_B76 a1 s0) := by
  unfold f_X10_reads_B76
  refine im_aload_n hF dX10_reads_76 0 rfl ?_
  refine im_get hF (v := .int (s0 10 0 37)) fl_10_186 (by decide) (by decide) rfl dX10_reads_77 ?_
  refine im_iload_n hF dX10_reads_80 1 rfl ?_
  refine im_icmp_gt hF 92 dX10_reads_81 (by decide) (fun _ => ?_) (fun _ => ?_)
  · refine im_iconst hF dX10_reads_92 (v := (1 : Int32)) (by decide) ?_
    refine im_goto hF 97 dX10_reads_93 (by decide) ?_
    exact im_zret hF hM (by decide) dX10_reads_97
  · refine im_aload_n hF dX10_reads_84 0 rfl ?_
    refine im_iconst hF dX10_reads_85 (v := (1 : Int32)) (by decide) ?_
    refine im_callVI hF (As := [.int (1 : Int32)]) (rest := []) my_X10_wrong mv_X10_wrong wl_996 (fun l r hr => c_X10_wrong l g hI (1 : Int32) s0 r hr) ⟨by decide, by decide⟩ (by decide) (by decide) ⟨_, rfl, rfl⟩ rfl rfl (Nat.le_of_ble_eq_true rfl) dX10_reads_86 (fun q1 => ?_)
    refine im_if_eq hF 96 dX10_reads_89 (by decide) (fun _ => ?_) (fun _ => ?_)
    · refine im_iconst hF dX10_reads_96 (v := (0 : Int32)) (by decide) ?_
      exact im_zret hF hM (by decide) dX10_reads_97
    · refine im_iconst hF dX10_reads_92 (v := (1 : Int32)) (by decide) ?_
      refine im_goto hF 97 dX10_reads_93 (by decide) ?_
      exact im_zret hF hM (by decide) dX10_reads_97
def f_X10_reads (s0 : Sg) : Option (Int32 × Sg) :=
  bdI (s0 10 0 37) fun x1 =>
  bdS (up3 s0 10 0 40 (0 : Int32)) fun s2 =>
  (f_X10_reads_L10 (f_X10_reads_B76) FU) x1 s2
set_option maxRecDepth 4000 in
theorem i_X10_reads (X : Cx) (g : GT) (hF : Fx X g RX10 cX10_reads 2 1 21) (hM : FM X g (some .boolean)) (hI : GI g) (s0 : Sg) : Im X g 2 (Qm X g embI) s0 0 [(0, .ref (g.2.1 10 0))] [] (f_X10_reads s0) := by
  unfold f_X10_reads
  refine im_aload_n hF dX10_reads_0 0 rfl ?_
  refine im_get hF (v := .int (s0 10 0 37)) fl_10_186 (by decide) (by decide) rfl dX10_reads_1 ?_
  refine im_bdI (fun x1 => ?_)
  refine im_istore_n hF dX10_reads_4 (lv' := [(1, .int x1), (0, .ref (g.2.1 10 0))]) rfl (by decide) rfl ?_
  refine im_aload_n hF dX10_reads_5 1 rfl ?_
  refine im_iconst hF dX10_reads_6 (v := (0 : Int32)) (by decide) ?_
  refine im_put hF (0 : Int32) fp_10_195 (by decide) (by decide) rfl rfl rfl dX10_reads_7 ?_
  refine im_bdS (fun s2 => ?_)
  refine im_sub (lv' := [(0, .ref (g.2.1 10 0)), (1, .int x1)]) [1, 0] rfl ?_
  exact (i_X10_reads_L10 X g hF hM hI (f_X10_reads_B76) (i_X10_reads_B76 X g hF hM hI) FU) x1 s2
theorem c_X10_reads (l : Launch) (g : GT) (hI : GI g) (s0 : Sg) (r : (Int32 × Sg)) (hr : f_X10_reads s0 = some r) : Ct l yX10_reads cX10_reads 2 (some .boolean) 1 21 g [.ref (g.2.1 10 0)] s0 (embI r) := ct_of (by decide) hI (Nat.le_of_ble_eq_true rfl) (fun X hF hM => i_X10_reads X g hF hM hI s0) r hr
def f_X10_letterOf (a0 : Int32) (s0 : Sg) : Option (Int32 × Sg) :=
  if a0 = (108 : Int32) then
  some ((0 : Int32), s0)
  else
  if a0 = (116 : Int32) then
  some ((1 : Int32), s0)
  else
  if a0 = (119 : Int32) then
  some ((2 : Int32), s0)
  else
  if a0 = (107 : Int32) then
  some ((3 : Int32), s0)
  else
  if a0 = (109 : Int32) then
  some ((4 : Int32), s0)
  else
  some ((-1 : Int32), s0)
set_option maxRecDepth 4000 in
theorem i_X10_letterOf (X : Cx) (g : GT) (hF : Fx X g RX10 cX10_letterOf 1 0 0) (hM : FM X g (some .int)) (hI : GI g) (a0 : Int32) (s0 : Sg) : Im X g 1 (Qm X g embI) s0 0 [(0, .int a0)] [] (f_X10_letterOf a0 s0) := by
  unfold f_X10_letterOf
  refine im_iload_n hF dX10_letterOf_0 0 rfl ?_
  refine im_bipush hF dX10_letterOf_1 (v := (108 : Int32)) (by decide) ?_
  refine im_icmp_ne hF 10 dX10_letterOf_3 (by decide) (fun _ => ?_) (fun _ => ?_)
  · refine im_iconst hF dX10_letterOf_6 (v := (0 : Int32)) (by decide) ?_
    refine im_goto hF 51 dX10_letterOf_7 (by decide) ?_
    exact im_iret hF hM dX10_letterOf_51
  · refine im_iload_n hF dX10_letterOf_10 0 rfl ?_
    refine im_bipush hF dX10_letterOf_11 (v := (116 : Int32)) (by decide) ?_
    refine im_icmp_ne hF 20 dX10_letterOf_13 (by decide) (fun _ => ?_) (fun _ => ?_)
    · refine im_iconst hF dX10_letterOf_16 (v := (1 : Int32)) (by decide) ?_
      refine im_goto hF 51 dX10_letterOf_17 (by decide) ?_
      exact im_iret hF hM dX10_letterOf_51
    · refine im_iload_n hF dX10_letterOf_20 0 rfl ?_
      refine im_bipush hF dX10_letterOf_21 (v := (119 : Int32)) (by decide) ?_
      refine im_icmp_ne hF 30 dX10_letterOf_23 (by decide) (fun _ => ?_) (fun _ => ?_)
      · refine im_iconst hF dX10_letterOf_26 (v := (2 : Int32)) (by decide) ?_
        refine im_goto hF 51 dX10_letterOf_27 (by decide) ?_
        exact im_iret hF hM dX10_letterOf_51
      · refine im_iload_n hF dX10_letterOf_30 0 rfl ?_
        refine im_bipush hF dX10_letterOf_31 (v := (107 : Int32)) (by decide) ?_
        refine im_icmp_ne hF 40 dX10_letterOf_33 (by decide) (fun _ => ?_) (fun _ => ?_)
        · refine im_iconst hF dX10_letterOf_36 (v := (3 : Int32)) (by decide) ?_
          refine im_goto hF 51 dX10_letterOf_37 (by decide) ?_
          exact im_iret hF hM dX10_letterOf_51
        · refine im_iload_n hF dX10_letterOf_40 0 rfl ?_
          refine im_bipush hF dX10_letterOf_41 (v := (109 : Int32)) (by decide) ?_
          refine im_icmp_ne hF 50 dX10_letterOf_43 (by decide) (fun _ => ?_) (fun _ => ?_)
          · refine im_iconst hF dX10_letterOf_46 (v := (4 : Int32)) (by decide) ?_
            refine im_goto hF 51 dX10_letterOf_47 (by decide) ?_
            exact im_iret hF hM dX10_letterOf_51
          · refine im_iconst hF dX10_letterOf_50 (v := (-1 : Int32)) (by decide) ?_
            exact im_iret hF hM dX10_letterOf_51
theorem c_X10_letterOf (l : Launch) (g : GT) (hI : GI g) (a0 : Int32) (s0 : Sg) (r : (Int32 × Sg)) (hr : f_X10_letterOf a0 s0 = some r) : Ct l yX10_letterOf cX10_letterOf 1 (some .int) 0 0 g [.int a0] s0 (embI r) := ct_of (by decide) hI (Nat.le_of_ble_eq_true rfl) (fun X hF hM => i_X10_letterOf X g hF hM hI a0 s0) r hr
def f_X10_code (a1 : Int32) (a2 : Int32) (a3 : Int32) (a4 : Int32) (s0 : Sg) : Option Sg :=
  chk (gi (4 : Int32) 5) (
  bdI ((800 : Int32) + (s0 62 0 (4 : Int32).toNatClampNeg)) fun x2 =>
  chk (gi x2 1000) (bdS (up3 s0 68 0 x2.toNatClampNeg a1) fun s4 =>
  chk (gi x2 1000) (bdS (up3 s4 69 0 x2.toNatClampNeg a2) fun s6 =>
  chk (gi x2 1000) (bdS (up3 s6 70 0 x2.toNatClampNeg a3) fun s8 =>
  chk (gi x2 1000) (bdS (up3 s8 71 0 x2.toNatClampNeg a4) fun s10 =>
  chk (gi (4 : Int32) 5) (
  chk (gi (4 : Int32) 5) (bdS (up3 s10 62 0 (4 : Int32).toNatClampNeg ((s10 62 0 (4 : Int32).toNatClampNeg) + (1 : Int32))) fun s13 =>
  some s13)))))))
set_option maxRecDepth 4000 in
theorem i_X10_code (X : Cx) (g : GT) (hF : Fx X g RX10 cX10_code 6 0 0) (hM : FM X g none) (hI : GI g) (a1 : Int32) (a2 : Int32) (a3 : Int32) (a4 : Int32) (s0 : Sg) : Im X g 6 (Qm X g embV) s0 0 [(0, .ref (g.2.1 10 0)), (1, .int a1), (2, .int a2), (3, .int a3), (4, .int a4)] [] (f_X10_code a1 a2 a3 a4 s0) := by
  unfold f_X10_code
  refine im_sipush hF dX10_code_0 (v := (800 : Int32)) (by decide) ?_
  refine im_aload_n hF dX10_code_3 0 rfl ?_
  refine im_get hF (v := .ref (g.2.1 62 0)) fl_10_69 (by decide) (by decide) rfl dX10_code_4 ?_
  refine im_iconst hF dX10_code_7 (v := (4 : Int32)) (by decide) ?_
  refine im_iald hF ar_62 (by decide) dX10_code_8 (fun h1 => ?_)
  refine im_iadd hF dX10_code_9 ?_
  refine im_bdI (fun x2 => ?_)
  refine im_istore hF dX10_code_10 (lv' := [(5, .int x2), (0, .ref (g.2.1 10 0)), (1, .int a1), (2, .int a2), (3, .int a3), (4, .int a4)]) (by decide) rfl ?_
  refine im_aload_n hF dX10_code_12 1 rfl ?_
  refine im_get hF (v := .ref (g.2.1 68 0)) fl_10_87 (by decide) (by decide) rfl dX10_code_13 ?_
  refine im_iload hF dX10_code_16 0 rfl ?_
  refine im_iload_n hF dX10_code_18 2 rfl ?_
  refine im_iast hF ar_68 (by decide) dX10_code_19 (fun h3 => im_bdS (fun s4 => ?_))
  refine im_aload_n hF dX10_code_20 1 rfl ?_
  refine im_get hF (v := .ref (g.2.1 69 0)) fl_10_90 (by decide) (by decide) rfl dX10_code_21 ?_
  refine im_iload hF dX10_code_24 0 rfl ?_
  refine im_iload_n hF dX10_code_26 3 rfl ?_
  refine im_iast hF ar_69 (by decide) dX10_code_27 (fun h5 => im_bdS (fun s6 => ?_))
  refine im_aload_n hF dX10_code_28 1 rfl ?_
  refine im_get hF (v := .ref (g.2.1 70 0)) fl_10_93 (by decide) (by decide) rfl dX10_code_29 ?_
  refine im_iload hF dX10_code_32 0 rfl ?_
  refine im_iload_n hF dX10_code_34 4 rfl ?_
  refine im_iast hF ar_70 (by decide) dX10_code_35 (fun h7 => im_bdS (fun s8 => ?_))
  refine im_aload_n hF dX10_code_36 1 rfl ?_
  refine im_get hF (v := .ref (g.2.1 71 0)) fl_10_96 (by decide) (by decide) rfl dX10_code_37 ?_
  refine im_iload hF dX10_code_40 0 rfl ?_
  refine im_iload hF dX10_code_42 5 rfl ?_
  refine im_iast hF ar_71 (by decide) dX10_code_44 (fun h9 => im_bdS (fun s10 => ?_))
  refine im_aload_n hF dX10_code_45 1 rfl ?_
  refine im_get hF (v := .ref (g.2.1 62 0)) fl_10_69 (by decide) (by decide) rfl dX10_code_46 ?_
  refine im_iconst hF dX10_code_49 (v := (4 : Int32)) (by decide) ?_
  refine im_aload_n hF dX10_code_50 1 rfl ?_
  refine im_get hF (v := .ref (g.2.1 62 0)) fl_10_69 (by decide) (by decide) rfl dX10_code_51 ?_
  refine im_iconst hF dX10_code_54 (v := (4 : Int32)) (by decide) ?_
  refine im_iald hF ar_62 (by decide) dX10_code_55 (fun h11 => ?_)
  refine im_iconst hF dX10_code_56 (v := (1 : Int32)) (by decide) ?_
  refine im_iadd hF dX10_code_57 ?_
  refine im_iast hF ar_62 (by decide) dX10_code_58 (fun h12 => im_bdS (fun s13 => ?_))
  exact im_vret hF hM dX10_code_59
theorem c_X10_code (l : Launch) (g : GT) (hI : GI g) (a1 : Int32) (a2 : Int32) (a3 : Int32) (a4 : Int32) (s0 : Sg) (r : Sg) (hr : f_X10_code a1 a2 a3 a4 s0 = some r) : Ct l yX10_code cX10_code 6 none 0 0 g [.ref (g.2.1 10 0), .int a1, .int a2, .int a3, .int a4] s0 (embV r) := ct_of (by decide) hI (Nat.le_of_ble_eq_true rfl) (fun X hF hM => i_X10_code X g hF hM hI a1 a2 a3 a4 s0) r hr
def f_X10_isTop (a1 : Int32) (s0 : Sg) : Option (Int32 × Sg) :=
  if (s0 10 0 36) ≤ 0 then
  some ((0 : Int32), s0)
  else
  chk (gi ((s0 10 0 36) - (1 : Int32)) 200) (
  if (s0 72 0 ((s0 10 0 36) - (1 : Int32)).toNatClampNeg) = a1 then
  some ((1 : Int32), s0)
  else
  some ((0 : Int32), s0))
set_option maxRecDepth 4000 in
theorem i_X10_isTop (X : Cx) (g : GT) (hF : Fx X g RX10 cX10_isTop 2 0 0) (hM : FM X g (some .boolean)) (hI : GI g) (a1 : Int32) (s0 : Sg) : Im X g 2 (Qm X g embI) s0 0 [(0, .ref (g.2.1 10 0)), (1, .int a1)] [] (f_X10_isTop a1 s0) := by
  unfold f_X10_isTop
  refine im_aload_n hF dX10_isTop_0 0 rfl ?_
  refine im_get hF (v := .int (s0 10 0 36)) fl_10_205 (by decide) (by decide) rfl dX10_isTop_1 ?_
  refine im_if_le hF 26 dX10_isTop_4 (by decide) (fun _ => ?_) (fun _ => ?_)
  · refine im_iconst hF dX10_isTop_26 (v := (0 : Int32)) (by decide) ?_
    exact im_zret hF hM (by decide) dX10_isTop_27
  · refine im_aload_n hF dX10_isTop_7 0 rfl ?_
    refine im_get hF (v := .ref (g.2.1 72 0)) fl_10_99 (by decide) (by decide) rfl dX10_isTop_8 ?_
    refine im_aload_n hF dX10_isTop_11 0 rfl ?_
    refine im_get hF (v := .int (s0 10 0 36)) fl_10_205 (by decide) (by decide) rfl dX10_isTop_12 ?_
    refine im_iconst hF dX10_isTop_15 (v := (1 : Int32)) (by decide) ?_
    refine im_isub hF dX10_isTop_16 ?_
    refine im_iald hF ar_72 (by decide) dX10_isTop_17 (fun h1 => ?_)
    refine im_iload_n hF dX10_isTop_18 1 rfl ?_
    refine im_icmp_ne hF 26 dX10_isTop_19 (by decide) (fun _ => ?_) (fun _ => ?_)
    · refine im_iconst hF dX10_isTop_22 (v := (1 : Int32)) (by decide) ?_
      refine im_goto hF 27 dX10_isTop_23 (by decide) ?_
      exact im_zret hF hM (by decide) dX10_isTop_27
    · refine im_iconst hF dX10_isTop_26 (v := (0 : Int32)) (by decide) ?_
      exact im_zret hF hM (by decide) dX10_isTop_27
theorem c_X10_isTop (l : Launch) (g : GT) (hI : GI g) (a1 : Int32) (s0 : Sg) (r : (Int32 × Sg)) (hr : f_X10_isTop a1 s0 = some r) : Ct l yX10_isTop cX10_isTop 2 (some .boolean) 0 0 g [.ref (g.2.1 10 0), .int a1] s0 (embI r) := ct_of (by decide) hI (Nat.le_of_ble_eq_true rfl) (fun X hF hM => i_X10_isTop X g hF hM hI a1 s0) r hr
def f_X10_pops_B42 (as1 : Int32) (s0 : Sg) : Option Sg :=
  Option.bind (f_X10_code as1 (0 : Int32) (0 : Int32) (0 : Int32) s0) fun q1 =>
  some q1
set_option maxRecDepth 4000 in
theorem i_X10_pops_B42 (X : Cx) (g : GT) (hF : Fx X g RX10 cX10_pops 2 1 25) (hM : FM X g none) (hI : GI g) (as1 : Int32) (s0 : Sg) : Im X g 2 (Qm X g embV) s0 42 [] [.int as1, .ref (g.2.1 10 0)] (f_X10_pops_B42 as1 s0) := by
  unfold f_X10_pops_B42
  refine im_iconst hF dX10_pops_42 (v := (0 : Int32)) (by decide) ?_
  refine im_iconst hF dX10_pops_43 (v := (0 : Int32)) (by decide) ?_
  refine im_iconst hF dX10_pops_44 (v := (0 : Int32)) (by decide) ?_
  refine im_callVV hF (As := [.int as1, .int (0 : Int32), .int (0 : Int32), .int (0 : Int32)]) (rest := []) my_X10_code mv_X10_code wl_1019 (fun l r hr => c_X10_code l g hI as1 (0 : Int32) (0 : Int32) (0 : Int32) s0 r hr) ⟨by decide, by decide⟩ (by decide) (by decide) ⟨_, rfl, rfl⟩ rfl rfl (Nat.le_of_ble_eq_true rfl) dX10_pops_45 (fun q1 => ?_)
  exact im_vret hF hM dX10_pops_48
def f_X10_pops (s0 : Sg) : Option Sg :=
  bdS (up3 s0 10 0 36 ((s0 10 0 36) - (1 : Int32))) fun s1 =>
  chk (gi (s1 10 0 36) 200) (
  bdI (s1 72 0 (s1 10 0 36).toNatClampNeg) fun x3 =>
  if x3 = (33 : Int32) then
  (f_X10_pops_B42) (1 : Int32) s1
  else
  if x3 = (38 : Int32) then
  (f_X10_pops_B42) (2 : Int32) s1
  else
  (f_X10_pops_B42) (3 : Int32) s1)
set_option maxRecDepth 4000 in
theorem i_X10_pops (X : Cx) (g : GT) (hF : Fx X g RX10 cX10_pops 2 1 25) (hM : FM X g none) (hI : GI g) (s0 : Sg) : Im X g 2 (Qm X g embV) s0 0 [(0, .ref (g.2.1 10 0))] [] (f_X10_pops s0) := by
  unfold f_X10_pops
  refine im_aload_n hF dX10_pops_0 0 rfl ?_
  refine im_aload_n hF dX10_pops_1 0 rfl ?_
  refine im_get hF (v := .int (s0 10 0 36)) fl_10_205 (by decide) (by decide) rfl dX10_pops_2 ?_
  refine im_iconst hF dX10_pops_5 (v := (1 : Int32)) (by decide) ?_
  refine im_isub hF dX10_pops_6 ?_
  refine im_put hF ((s0 10 0 36) - (1 : Int32)) fp_10_205 (by decide) (by decide) rfl rfl rfl dX10_pops_7 ?_
  refine im_bdS (fun s1 => ?_)
  refine im_aload_n hF dX10_pops_10 0 rfl ?_
  refine im_get hF (v := .ref (g.2.1 72 0)) fl_10_99 (by decide) (by decide) rfl dX10_pops_11 ?_
  refine im_aload_n hF dX10_pops_14 0 rfl ?_
  refine im_get hF (v := .int (s1 10 0 36)) fl_10_205 (by decide) (by decide) rfl dX10_pops_15 ?_
  refine im_iald hF ar_72 (by decide) dX10_pops_18 (fun h2 => ?_)
  refine im_bdI (fun x3 => ?_)
  refine im_istore_n hF dX10_pops_19 (lv' := [(1, .int x3), (0, .ref (g.2.1 10 0))]) rfl (by decide) rfl ?_
  refine im_aload_n hF dX10_pops_20 1 rfl ?_
  refine im_iload_n hF dX10_pops_21 0 rfl ?_
  refine im_bipush hF dX10_pops_22 (v := (33 : Int32)) (by decide) ?_
  refine im_icmp_ne hF 31 dX10_pops_24 (by decide) (fun _ => ?_) (fun _ => ?_)
  · refine im_iconst hF dX10_pops_27 (v := (1 : Int32)) (by decide) ?_
    refine im_goto hF 42 dX10_pops_28 (by decide) ?_
    refine im_sub (lv' := []) [] rfl ?_
    exact (i_X10_pops_B42 X g hF hM hI) (1 : Int32) s1
  · refine im_iload_n hF dX10_pops_31 0 rfl ?_
    refine im_bipush hF dX10_pops_32 (v := (38 : Int32)) (by decide) ?_
    refine im_icmp_ne hF 41 dX10_pops_34 (by decide) (fun _ => ?_) (fun _ => ?_)
    · refine im_iconst hF dX10_pops_37 (v := (2 : Int32)) (by decide) ?_
      refine im_goto hF 42 dX10_pops_38 (by decide) ?_
      refine im_sub (lv' := []) [] rfl ?_
      exact (i_X10_pops_B42 X g hF hM hI) (2 : Int32) s1
    · refine im_iconst hF dX10_pops_41 (v := (3 : Int32)) (by decide) ?_
      refine im_sub (lv' := []) [] rfl ?_
      exact (i_X10_pops_B42 X g hF hM hI) (3 : Int32) s1
theorem c_X10_pops (l : Launch) (g : GT) (hI : GI g) (s0 : Sg) (r : Sg) (hr : f_X10_pops s0 = some r) : Ct l yX10_pops cX10_pops 2 none 1 25 g [.ref (g.2.1 10 0)] s0 (embV r) := ct_of (by decide) hI (Nat.le_of_ble_eq_true rfl) (fun X hF hM => i_X10_pops X g hF hM hI s0) r hr
def f_X10_ends_B0 (k0 : Sg → Option Sg) (s0 : Sg) : Option Sg :=
  Option.bind (f_X10_isTop (33 : Int32) s0) fun q1 =>
  if q1.1 = 0 then
  some q1.2
  else
  Option.bind (f_X10_pops q1.2) fun q2 =>
  bdS (up3 q2 10 0 39 ((q2 10 0 39) - (1 : Int32))) fun s3 =>
  k0 s3
set_option maxRecDepth 4000 in
theorem i_X10_ends_B0 (X : Cx) (g : GT) (hF : Fx X g RX10 cX10_ends 1 2 46) (hM : FM X g none) (hI : GI g) (k0 : Sg → Option Sg) (hk0 : ∀ (s0 : Sg), Im X g 1 (Qm X g embV) s0 0 [(0, .ref (g.2.1 10 0))] [] (k0 s0)) (s0 : Sg) : Im X g 1 (Qm X g embV) s0 0 [(0, .ref (g.2.1 10 0))] [] (f_X10_ends_B0 k0 s0) := by
  unfold f_X10_ends_B0
  refine im_aload_n hF dX10_ends_0 0 rfl ?_
  refine im_bipush hF dX10_ends_1 (v := (33 : Int32)) (by decide) ?_
  refine im_callVI hF (As := [.int (33 : Int32)]) (rest := []) my_X10_isTop mv_X10_isTop wl_1027 (fun l r hr => c_X10_isTop l g hI (33 : Int32) s0 r hr) ⟨by decide, by decide⟩ (by decide) (by decide) ⟨_, rfl, rfl⟩ rfl rfl (Nat.le_of_ble_eq_true rfl) dX10_ends_3 (fun q1 => ?_)
  refine im_if_eq hF 26 dX10_ends_6 (by decide) (fun _ => ?_) (fun _ => ?_)
  · exact im_vret hF hM dX10_ends_26
  · refine im_aload_n hF dX10_ends_9 0 rfl ?_
    refine im_callVV hF (As := []) (rest := []) my_X10_pops mv_X10_pops wl_1031 (fun l r hr => c_X10_pops l g hI  q1.2 r hr) ⟨by decide, by decide⟩ (by decide) (by decide) ⟨_, rfl, rfl⟩ rfl rfl (Nat.le_of_ble_eq_true rfl) dX10_ends_10 (fun q2 => ?_)
    refine im_aload_n hF dX10_ends_13 0 rfl ?_
    refine im_aload_n hF dX10_ends_14 0 rfl ?_
    refine im_get hF (v := .int (q2 10 0 39)) fl_10_218 (by decide) (by decide) rfl dX10_ends_15 ?_
    refine im_iconst hF dX10_ends_18 (v := (1 : Int32)) (by decide) ?_
    refine im_isub hF dX10_ends_19 ?_
    refine im_put hF ((q2 10 0 39) - (1 : Int32)) fp_10_218 (by decide) (by decide) rfl rfl rfl dX10_ends_20 ?_
    refine im_bdS (fun s3 => ?_)
    refine im_goto hF 0 dX10_ends_23 (by decide) ?_
    exact hk0 s3
def f_X10_ends_L0 : Nat → Sg → Option Sg
  | 0 => fun  _ => none
  | n + 1 => fun s0 => f_X10_ends_B0 (f_X10_ends_L0 n) s0
theorem i_X10_ends_L0 (X : Cx) (g : GT) (hF : Fx X g RX10 cX10_ends 1 2 46) (hM : FM X g none) (hI : GI g) : ∀ (n : Nat) (s0 : Sg), Im X g 1 (Qm X g embV) s0 0 [(0, .ref (g.2.1 10 0))] [] (f_X10_ends_L0 n s0) := by
  intro n
  induction n with
  | zero => intros; exact im_none
  | succ n ih => intro s0; exact i_X10_ends_B0 X g hF hM hI (f_X10_ends_L0 n) ih s0
def f_X10_ends (s0 : Sg) : Option Sg :=
  (f_X10_ends_L0 FU) s0
set_option maxRecDepth 4000 in
theorem i_X10_ends (X : Cx) (g : GT) (hF : Fx X g RX10 cX10_ends 1 2 46) (hM : FM X g none) (hI : GI g) (s0 : Sg) : Im X g 1 (Qm X g embV) s0 0 [(0, .ref (g.2.1 10 0))] [] (f_X10_ends s0) := by
  unfold f_X10_ends
  exact (i_X10_ends_L0 X g hF hM hI FU) s0
theorem c_X10_ends (l : Launch) (g : GT) (hI : GI g) (s0 : Sg) (r : Sg) (hr : f_X10_ends s0 = some r) : Ct l yX10_ends cX10_ends 1 none 2 46 g [.ref (g.2.1 10 0)] s0 (embV r) := ct_of (by decide) hI (Nat.le_of_ble_eq_true rfl) (fun X hF hM => i_X10_ends X g hF hM hI s0) r hr
def f_X10_pushes (a1 : Int32) (s0 : Sg) : Option Sg :=
  chk (gi (s0 10 0 36) 200) (bdS (up3 s0 72 0 (s0 10 0 36).toNatClampNeg a1) fun s2 =>
  bdS (up3 s2 10 0 36 ((s2 10 0 36) + (1 : Int32))) fun s3 =>
  some s3)
set_option maxRecDepth 4000 in
theorem i_X10_pushes (X : Cx) (g : GT) (hF : Fx X g RX10 cX10_pushes 2 0 0) (hM : FM X g none) (hI : GI g) (a1 : Int32) (s0 : Sg) : Im X g 2 (Qm X g embV) s0 0 [(0, .ref (g.2.1 10 0)), (1, .int a1)] [] (f_X10_pushes a1 s0) := by
  unfold f_X10_pushes
  refine im_aload_n hF dX10_pushes_0 0 rfl ?_
  refine im_get hF (v := .ref (g.2.1 72 0)) fl_10_99 (by decide) (by decide) rfl dX10_pushes_1 ?_
  refine im_aload_n hF dX10_pushes_4 0 rfl ?_
  refine im_get hF (v := .int (s0 10 0 36)) fl_10_205 (by decide) (by decide) rfl dX10_pushes_5 ?_
  refine im_iload_n hF dX10_pushes_8 1 rfl ?_
  refine im_iast hF ar_72 (by decide) dX10_pushes_9 (fun h1 => im_bdS (fun s2 => ?_))
  refine im_aload_n hF dX10_pushes_10 0 rfl ?_
  refine im_aload_n hF dX10_pushes_11 0 rfl ?_
  refine im_get hF (v := .int (s2 10 0 36)) fl_10_205 (by decide) (by decide) rfl dX10_pushes_12 ?_
  refine im_iconst hF dX10_pushes_15 (v := (1 : Int32)) (by decide) ?_
  refine im_iadd hF dX10_pushes_16 ?_
  refine im_put hF ((s2 10 0 36) + (1 : Int32)) fp_10_205 (by decide) (by decide) rfl rfl rfl dX10_pushes_17 ?_
  refine im_bdS (fun s3 => ?_)
  exact im_vret hF hM dX10_pushes_20
theorem c_X10_pushes (l : Launch) (g : GT) (hI : GI g) (a1 : Int32) (s0 : Sg) (r : Sg) (hr : f_X10_pushes a1 s0 = some r) : Ct l yX10_pushes cX10_pushes 2 none 0 0 g [.ref (g.2.1 10 0), .int a1] s0 (embV r) := ct_of (by decide) hI (Nat.le_of_ble_eq_true rfl) (fun X hF hM => i_X10_pushes X g hF hM hI a1 s0) r hr
def f_X10_readsFactor_B18 (k0 : Sg → Option (Int32 × Sg)) (k122 : Int32 → Int32 → Sg → Option (Int32 × Sg)) (s0 : Sg) : Option (Int32 × Sg) :=
  if (s0 10 0 39) = (8 : Int32) then
  Option.bind (f_X10_wrong (3 : Int32) s0) fun q1 =>
  chk (b01 q1.1) (some (q1.1, q1.2))
  else
  bdS (up3 s0 10 0 39 ((s0 10 0 39) + (1 : Int32))) fun s3 =>
  Option.bind (f_X10_here s3) fun q4 =>
  Option.bind (f_X10_pushes q4.1 q4.2) fun q5 =>
  bdS (up3 q5 10 0 37 ((q5 10 0 37) + (1 : Int32))) fun s6 =>
  k0 s6
set_option maxRecDepth 4000 in
theorem i_X10_readsFactor_B18 (X : Cx) (g : GT) (hF : Fx X g RX10 cX10_readsFactor 4 3 66) (hM : FM X g (some .boolean)) (hI : GI g) (k0 : Sg → Option (Int32 × Sg)) (hk0 : ∀ (s0 : Sg), Im X g 4 (Qm X g embI) s0 0 [(0, .ref (g.2.1 10 0))] [] (k0 s0)) (k122 : Int32 → Int32 → Sg → Option (Int32 × Sg)) (hk122 : ∀ (a1 : Int32) (a2 : Int32) (s0 : Sg), Im X g 4 (Qm X g embI) s0 122 [(0, .ref (g.2.1 10 0)), (1, .int a1), (2, .int a2)] [] (k122 a1 a2 s0)) (s0 : Sg) : Im X g 4 (Qm X g embI) s0 18 [(0, .ref (g.2.1 10 0))] [] (f_X10_readsFactor_B18 k0 k122 s0) := by
  unfold f_X10_readsFactor_B18
  refine im_aload_n hF dX10_readsFactor_18 0 rfl ?_
  refine im_get hF (v := .int (s0 10 0 39)) fl_10_218 (by decide) (by decide) rfl dX10_readsFactor_19 ?_
  refine im_bipush hF dX10_readsFactor_22 (v := (8 : Int32)) (by decide) ?_
  refine im_icmp_ne hF 33 dX10_readsFactor_24 (by decide) (fun _ => ?_) (fun _ => ?_)
  · refine im_aload_n hF dX10_readsFactor_27 0 rfl ?_
    refine im_iconst hF dX10_readsFactor_28 (v := (3 : Int32)) (by decide) ?_
    refine im_callVI hF (As := [.int (3 : Int32)]) (rest := []) my_X10_wrong mv_X10_wrong wl_996 (fun l r hr => c_X10_wrong l g hI (3 : Int32) s0 r hr) ⟨by decide, by decide⟩ (by decide) (by decide) ⟨_, rfl, rfl⟩ rfl rfl (Nat.le_of_ble_eq_true rfl) dX10_readsFactor_29 (fun q1 => ?_)
    exact im_chk (fun h2 => im_zret hF hM (b01_or h2) dX10_readsFactor_32)
  · refine im_aload_n hF dX10_readsFactor_33 0 rfl ?_
    refine im_aload_n hF dX10_readsFactor_34 0 rfl ?_
    refine im_get hF (v := .int (s0 10 0 39)) fl_10_218 (by decide) (by decide) rfl dX10_readsFactor_35 ?_
    refine im_iconst hF dX10_readsFactor_38 (v := (1 : Int32)) (by decide) ?_
    refine im_iadd hF dX10_readsFactor_39 ?_
    refine im_put hF ((s0 10 0 39) + (1 : Int32)) fp_10_218 (by decide) (by decide) rfl rfl rfl dX10_readsFactor_40 ?_
    refine im_bdS (fun s3 => ?_)
    refine im_aload_n hF dX10_readsFactor_43 0 rfl ?_
    refine im_aload_n hF dX10_readsFactor_44 0 rfl ?_
    refine im_callVI hF (As := []) (rest := [.ref (g.2.1 10 0)]) my_X10_here mv_X10_here wl_992 (fun l r hr => c_X10_here l g hI  s3 r hr) ⟨by decide, by decide⟩ (by decide) (by decide) ⟨_, rfl, rfl⟩ rfl rfl (Nat.le_of_ble_eq_true rfl) dX10_readsFactor_45 (fun q4 => ?_)
    refine im_callVV hF (As := [.int q4.1]) (rest := []) my_X10_pushes mv_X10_pushes wl_1012 (fun l r hr => c_X10_pushes l g hI q4.1 q4.2 r hr) ⟨by decide, by decide⟩ (by decide) (by decide) ⟨_, rfl, rfl⟩ rfl rfl (Nat.le_of_ble_eq_true rfl) dX10_readsFactor_48 (fun q5 => ?_)
    refine im_aload_n hF dX10_readsFactor_51 0 rfl ?_
    refine im_aload_n hF dX10_readsFactor_52 0 rfl ?_
    refine im_get hF (v := .int (q5 10 0 37)) fl_10_186 (by decide) (by decide) rfl dX10_readsFactor_53 ?_
    refine im_iconst hF dX10_readsFactor_56 (v := (1 : Int32)) (by decide) ?_
    refine im_iadd hF dX10_readsFactor_57 ?_
    refine im_put hF ((q5 10 0 37) + (1 : Int32)) fp_10_186 (by decide) (by decide) rfl rfl rfl dX10_readsFactor_58 ?_
    refine im_bdS (fun s6 => ?_)
    refine im_goto hF 0 dX10_readsFactor_61 (by decide) ?_
    exact hk0 s6
def f_X10_readsFactor_B0 (k0 : Sg → Option (Int32 × Sg)) (k122 : Int32 → Int32 → Sg → Option (Int32 × Sg)) (s0 : Sg) : Option (Int32 × Sg) :=
  Option.bind (f_X10_here s0) fun q1 =>
  if q1.1 = (33 : Int32) then
  (f_X10_readsFactor_B18 k0 k122) q1.2
  else
  Option.bind (f_X10_here q1.2) fun q2 =>
  if q2.1 = (40 : Int32) then
  (f_X10_readsFactor_B18 k0 k122) q2.2
  else
  Option.bind (f_X10_here q2.2) fun q3 =>
  Option.bind (f_X10_letterOf q3.1 q3.2) fun q4 =>
  if q4.1 = (-1 : Int32) then
  Option.bind (f_X10_wrong (1 : Int32) q4.2) fun q5 =>
  chk (b01 q5.1) (some (q5.1, q5.2))
  else
  bdS (up3 q4.2 10 0 37 ((q4.2 10 0 37) + (1 : Int32))) fun s7 =>
  Option.bind (f_X10_here s7) fun q8 =>
  if q8.1 = (60 : Int32) then
  k122 q4.1 q8.1 q8.2
  else
  if q8.1 = (61 : Int32) then
  k122 q4.1 q8.1 q8.2
  else
  if q8.1 = (62 : Int32) then
  k122 q4.1 q8.1 q8.2
  else
  Option.bind (f_X10_wrong (1 : Int32) q8.2) fun q9 =>
  chk (b01 q9.1) (some (q9.1, q9.2))
set_option maxRecDepth 4000 in
theorem i_X10_readsFactor_B0 (X : Cx) (g : GT) (hF : Fx X g RX10 cX10_readsFactor 4 3 66) (hM : FM X g (some .boolean)) (hI : GI g) (k0 : Sg → Option (Int32 × Sg)) (hk0 : ∀ (s0 : Sg), Im X g 4 (Qm X g embI) s0 0 [(0, .ref (g.2.1 10 0))] [] (k0 s0)) (k122 : Int32 → Int32 → Sg → Option (Int32 × Sg)) (hk122 : ∀ (a1 : Int32) (a2 : Int32) (s0 : Sg), Im X g 4 (Qm X g embI) s0 122 [(0, .ref (g.2.1 10 0)), (1, .int a1), (2, .int a2)] [] (k122 a1 a2 s0)) (s0 : Sg) : Im X g 4 (Qm X g embI) s0 0 [(0, .ref (g.2.1 10 0))] [] (f_X10_readsFactor_B0 k0 k122 s0) := by
  unfold f_X10_readsFactor_B0
  refine im_aload_n hF dX10_readsFactor_0 0 rfl ?_
  refine im_callVI hF (As := []) (rest := []) my_X10_here mv_X10_here wl_992 (fun l r hr => c_X10_here l g hI  s0 r hr) ⟨by decide, by decide⟩ (by decide) (by decide) ⟨_, rfl, rfl⟩ rfl rfl (Nat.le_of_ble_eq_true rfl) dX10_readsFactor_1 (fun q1 => ?_)
  refine im_bipush hF dX10_readsFactor_4 (v := (33 : Int32)) (by decide) ?_
  refine im_icmp_eq hF 18 dX10_readsFactor_6 (by decide) (fun _ => ?_) (fun _ => ?_)
  · exact (i_X10_readsFactor_B18 X g hF hM hI k0 hk0 k122 hk122) q1.2
  · refine im_aload_n hF dX10_readsFactor_9 0 rfl ?_
    refine im_callVI hF (As := []) (rest := []) my_X10_here mv_X10_here wl_992 (fun l r hr => c_X10_here l g hI  q1.2 r hr) ⟨by decide, by decide⟩ (by decide) (by decide) ⟨_, rfl, rfl⟩ rfl rfl (Nat.le_of_ble_eq_true rfl) dX10_readsFactor_10 (fun q2 => ?_)
    refine im_bipush hF dX10_readsFactor_13 (v := (40 : Int32)) (by decide) ?_
    refine im_icmp_ne hF 64 dX10_readsFactor_15 (by decide) (fun _ => ?_) (fun _ => ?_)
    · exact (i_X10_readsFactor_B18 X g hF hM hI k0 hk0 k122 hk122) q2.2
    · refine im_aload_n hF dX10_readsFactor_64 0 rfl ?_
      refine im_callVI hF (As := []) (rest := []) my_X10_here mv_X10_here wl_992 (fun l r hr => c_X10_here l g hI  q2.2 r hr) ⟨by decide, by decide⟩ (by decide) (by decide) ⟨_, rfl, rfl⟩ rfl rfl (Nat.le_of_ble_eq_true rfl) dX10_readsFactor_65 (fun q3 => ?_)
      refine im_callSI hF (As := [.int q3.1]) (rest := []) my_X10_letterOf ms_X10_letterOf wl_1016 (fun l r hr => c_X10_letterOf l g hI q3.1 q3.2 r hr) ⟨by decide, by decide⟩ rfl rfl (Nat.le_of_ble_eq_true rfl) dX10_readsFactor_68 (fun q4 => ?_)
      refine im_istore_n hF dX10_readsFactor_71 (lv' := [(1, .int q4.1), (0, .ref (g.2.1 10 0))]) rfl (by decide) rfl ?_
      refine im_iload_n hF dX10_readsFactor_72 0 rfl ?_
      refine im_iconst hF dX10_readsFactor_73 (v := (-1 : Int32)) (by decide) ?_
      refine im_icmp_ne hF 83 dX10_readsFactor_74 (by decide) (fun _ => ?_) (fun _ => ?_)
      · refine im_aload_n hF dX10_readsFactor_77 1 rfl ?_
        refine im_iconst hF dX10_readsFactor_78 (v := (1 : Int32)) (by decide) ?_
        refine im_callVI hF (As := [.int (1 : Int32)]) (rest := []) my_X10_wrong mv_X10_wrong wl_996 (fun l r hr => c_X10_wrong l g hI (1 : Int32) q4.2 r hr) ⟨by decide, by decide⟩ (by decide) (by decide) ⟨_, rfl, rfl⟩ rfl rfl (Nat.le_of_ble_eq_true rfl) dX10_readsFactor_79 (fun q5 => ?_)
        exact im_chk (fun h6 => im_zret hF hM (b01_or h6) dX10_readsFactor_82)
      · refine im_aload_n hF dX10_readsFactor_83 1 rfl ?_
        refine im_aload_n hF dX10_readsFactor_84 1 rfl ?_
        refine im_get hF (v := .int (q4.2 10 0 37)) fl_10_186 (by decide) (by decide) rfl dX10_readsFactor_85 ?_
        refine im_iconst hF dX10_readsFactor_88 (v := (1 : Int32)) (by decide) ?_
        refine im_iadd hF dX10_readsFactor_89 ?_
        refine im_put hF ((q4.2 10 0 37) + (1 : Int32)) fp_10_186 (by decide) (by decide) rfl rfl rfl dX10_readsFactor_90 ?_
        refine im_bdS (fun s7 => ?_)
        refine im_aload_n hF dX10_readsFactor_93 1 rfl ?_
        refine im_callVI hF (As := []) (rest := []) my_X10_here mv_X10_here wl_992 (fun l r hr => c_X10_here l g hI  s7 r hr) ⟨by decide, by decide⟩ (by decide) (by decide) ⟨_, rfl, rfl⟩ rfl rfl (Nat.le_of_ble_eq_true rfl) dX10_readsFactor_94 (fun q8 => ?_)
        refine im_istore_n hF dX10_readsFactor_97 (lv' := [(2, .int q8.1), (1, .int q4.1), (0, .ref (g.2.1 10 0))]) rfl (by decide) rfl ?_
        refine im_iload_n hF dX10_readsFactor_98 0 rfl ?_
        refine im_bipush hF dX10_readsFactor_99 (v := (60 : Int32)) (by decide) ?_
        refine im_icmp_eq hF 122 dX10_readsFactor_101 (by decide) (fun _ => ?_) (fun _ => ?_)
        · refine im_sub (lv' := [(0, .ref (g.2.1 10 0)), (1, .int q4.1), (2, .int q8.1)]) [2, 1, 0] rfl ?_
          exact hk122 q4.1 q8.1 q8.2
        · refine im_iload_n hF dX10_readsFactor_104 0 rfl ?_
          refine im_bipush hF dX10_readsFactor_105 (v := (61 : Int32)) (by decide) ?_
          refine im_icmp_eq hF 122 dX10_readsFactor_107 (by decide) (fun _ => ?_) (fun _ => ?_)
          · refine im_sub (lv' := [(0, .ref (g.2.1 10 0)), (1, .int q4.1), (2, .int q8.1)]) [2, 1, 0] rfl ?_
            exact hk122 q4.1 q8.1 q8.2
          · refine im_iload_n hF dX10_readsFactor_110 0 rfl ?_
            refine im_bipush hF dX10_readsFactor_111 (v := (62 : Int32)) (by decide) ?_
            refine im_icmp_eq hF 122 dX10_readsFactor_113 (by decide) (fun _ => ?_) (fun _ => ?_)
            · refine im_sub (lv' := [(0, .ref (g.2.1 10 0)), (1, .int q4.1), (2, .int q8.1)]) [2, 1, 0] rfl ?_
              exact hk122 q4.1 q8.1 q8.2
            · refine im_aload_n hF dX10_readsFactor_116 2 rfl ?_
              refine im_iconst hF dX10_readsFactor_117 (v := (1 : Int32)) (by decide) ?_
              refine im_callVI hF (As := [.int (1 : Int32)]) (rest := []) my_X10_wrong mv_X10_wrong wl_996 (fun l r hr => c_X10_wrong l g hI (1 : Int32) q8.2 r hr) ⟨by decide, by decide⟩ (by decide) (by decide) ⟨_, rfl, rfl⟩ rfl rfl (Nat.le_of_ble_eq_true rfl) dX10_readsFactor_118 (fun q9 => ?_)
              exact im_chk (fun h10 => im_zret hF hM (b01_or h10) dX10_readsFactor_121)
def f_X10_readsFactor_L0 (k122 : Int32 → Int32 → Sg → Option (Int32 × Sg)) : Nat → Sg → Option (Int32 × Sg)
  | 0 => fun  _ => none
  | n + 1 => fun s0 => f_X10_readsFactor_B0 (f_X10_readsFactor_L0 k122 n) k122 s0
theorem i_X10_readsFactor_L0 (X : Cx) (g : GT) (hF : Fx X g RX10 cX10_readsFactor 4 3 66) (hM : FM X g (some .boolean)) (hI : GI g) (k122 : Int32 → Int32 → Sg → Option (Int32 × Sg)) (hk122 : ∀ (a1 : Int32) (a2 : Int32) (s0 : Sg), Im X g 4 (Qm X g embI) s0 122 [(0, .ref (g.2.1 10 0)), (1, .int a1), (2, .int a2)] [] (k122 a1 a2 s0)) : ∀ (n : Nat) (s0 : Sg), Im X g 4 (Qm X g embI) s0 0 [(0, .ref (g.2.1 10 0))] [] (f_X10_readsFactor_L0 k122 n s0) := by
  intro n
  induction n with
  | zero => intros; exact im_none
  | succ n ih => intro s0; exact i_X10_readsFactor_B0 X g hF hM hI (f_X10_readsFactor_L0 k122 n) ih k122 hk122 s0
def f_X10_readsFactor_B190 (as1 : Int32) (as2 : Int32) (as3 : Int32) (as4 : Int32) (s0 : Sg) : Option (Int32 × Sg) :=
  Option.bind (f_X10_code as1 as2 as3 as4 s0) fun q1 =>
  Option.bind (f_X10_ends q1) fun q2 =>
  some ((1 : Int32), q2)
set_option maxRecDepth 4000 in
theorem i_X10_readsFactor_B190 (X : Cx) (g : GT) (hF : Fx X g RX10 cX10_readsFactor 4 3 66) (hM : FM X g (some .boolean)) (hI : GI g) (as1 : Int32) (as2 : Int32) (as3 : Int32) (as4 : Int32) (s0 : Sg) : Im X g 4 (Qm X g embI) s0 190 [(0, .ref (g.2.1 10 0))] [.int as4, .int as3, .int as2, .int as1, .ref (g.2.1 10 0)] (f_X10_readsFactor_B190 as1 as2 as3 as4 s0) := by
  unfold f_X10_readsFactor_B190
  refine im_callVV hF (As := [.int as1, .int as2, .int as3, .int as4]) (rest := []) my_X10_code mv_X10_code wl_1019 (fun l r hr => c_X10_code l g hI as1 as2 as3 as4 s0 r hr) ⟨by decide, by decide⟩ (by decide) (by decide) ⟨_, rfl, rfl⟩ rfl rfl (Nat.le_of_ble_eq_true rfl) dX10_readsFactor_190 (fun q1 => ?_)
  refine im_aload_n hF dX10_readsFactor_193 0 rfl ?_
  refine im_callVV hF (As := []) (rest := []) my_X10_ends mv_X10_ends wl_1023 (fun l r hr => c_X10_ends l g hI  q1 r hr) ⟨by decide, by decide⟩ (by decide) (by decide) ⟨_, rfl, rfl⟩ rfl rfl (Nat.le_of_ble_eq_true rfl) dX10_readsFactor_194 (fun q2 => ?_)
  refine im_iconst hF dX10_readsFactor_197 (v := (1 : Int32)) (by decide) ?_
  exact im_zret hF hM (by decide) dX10_readsFactor_198
def f_X10_readsFactor_B161 (a1 : Int32) (a2 : Int32) (a3 : Int32) (s0 : Sg) : Option (Int32 × Sg) :=
  Option.bind (f_X10_reads s0) fun q1 =>
  if q1.1 = 0 then
  some ((0 : Int32), q1.2)
  else
  if a3 = 0 then
  (f_X10_readsFactor_B190) (0 : Int32) a1 a2 (q1.2 10 0 40) q1.2
  else
  (f_X10_readsFactor_B190) (0 : Int32) a1 a2 (-(q1.2 10 0 40)) q1.2
set_option maxRecDepth 4000 in
theorem i_X10_readsFactor_B161 (X : Cx) (g : GT) (hF : Fx X g RX10 cX10_readsFactor 4 3 66) (hM : FM X g (some .boolean)) (hI : GI g) (a1 : Int32) (a2 : Int32) (a3 : Int32) (s0 : Sg) : Im X g 4 (Qm X g embI) s0 161 [(0, .ref (g.2.1 10 0)), (1, .int a1), (2, .int a2), (3, .int a3)] [] (f_X10_readsFactor_B161 a1 a2 a3 s0) := by
  unfold f_X10_readsFactor_B161
  refine im_aload_n hF dX10_readsFactor_161 0 rfl ?_
  refine im_callVI hF (As := []) (rest := []) my_X10_reads mv_X10_reads wl_1000 (fun l r hr => c_X10_reads l g hI  s0 r hr) ⟨by decide, by decide⟩ (by decide) (by decide) ⟨_, rfl, rfl⟩ rfl rfl (Nat.le_of_ble_eq_true rfl) dX10_readsFactor_162 (fun q1 => ?_)
  refine im_if_ne hF 170 dX10_readsFactor_165 (by decide) (fun _ => ?_) (fun _ => ?_)
  · refine im_iconst hF dX10_readsFactor_168 (v := (0 : Int32)) (by decide) ?_
    exact im_zret hF hM (by decide) dX10_readsFactor_169
  · refine im_aload_n hF dX10_readsFactor_170 0 rfl ?_
    refine im_iconst hF dX10_readsFactor_171 (v := (0 : Int32)) (by decide) ?_
    refine im_iload_n hF dX10_readsFactor_172 1 rfl ?_
    refine im_iload_n hF dX10_readsFactor_173 2 rfl ?_
    refine im_iload_n hF dX10_readsFactor_174 3 rfl ?_
    refine im_if_eq hF 186 dX10_readsFactor_175 (by decide) (fun _ => ?_) (fun _ => ?_)
    · refine im_aload_n hF dX10_readsFactor_186 0 rfl ?_
      refine im_get hF (v := .int (q1.2 10 0 40)) fl_10_195 (by decide) (by decide) rfl dX10_readsFactor_187 ?_
      refine im_sub (lv' := [(0, .ref (g.2.1 10 0))]) [0] rfl ?_
      exact (i_X10_readsFactor_B190 X g hF hM hI) (0 : Int32) a1 a2 (q1.2 10 0 40) q1.2
    · refine im_aload_n hF dX10_readsFactor_178 0 rfl ?_
      refine im_get hF (v := .int (q1.2 10 0 40)) fl_10_195 (by decide) (by decide) rfl dX10_readsFactor_179 ?_
      refine im_ineg hF dX10_readsFactor_182 ?_
      refine im_goto hF 190 dX10_readsFactor_183 (by decide) ?_
      refine im_sub (lv' := [(0, .ref (g.2.1 10 0))]) [0] rfl ?_
      exact (i_X10_readsFactor_B190 X g hF hM hI) (0 : Int32) a1 a2 (-(q1.2 10 0 40)) q1.2
def f_X10_readsFactor_B146 (a1 : Int32) (a2 : Int32) (as0 : Int32) (s0 : Sg) : Option (Int32 × Sg) :=
  if as0 = 0 then
  (f_X10_readsFactor_B161) a1 a2 as0 s0
  else
  bdS (up3 s0 10 0 37 ((s0 10 0 37) + (1 : Int32))) fun s1 =>
  (f_X10_readsFactor_B161) a1 a2 as0 s1
set_option maxRecDepth 4000 in
theorem i_X10_readsFactor_B146 (X : Cx) (g : GT) (hF : Fx X g RX10 cX10_readsFactor 4 3 66) (hM : FM X g (some .boolean)) (hI : GI g) (a1 : Int32) (a2 : Int32) (as0 : Int32) (s0 : Sg) : Im X g 4 (Qm X g embI) s0 146 [(0, .ref (g.2.1 10 0)), (1, .int a1), (2, .int a2)] [.int as0] (f_X10_readsFactor_B146 a1 a2 as0 s0) := by
  unfold f_X10_readsFactor_B146
  refine im_istore_n hF dX10_readsFactor_146 (lv' := [(3, .int as0), (0, .ref (g.2.1 10 0)), (1, .int a1), (2, .int a2)]) rfl (by decide) rfl ?_
  refine im_iload_n hF dX10_readsFactor_147 0 rfl ?_
  refine im_if_eq hF 161 dX10_readsFactor_148 (by decide) (fun _ => ?_) (fun _ => ?_)
  · refine im_sub (lv' := [(0, .ref (g.2.1 10 0)), (1, .int a1), (2, .int a2), (3, .int as0)]) [1, 2, 3, 0] rfl ?_
    exact (i_X10_readsFactor_B161 X g hF hM hI) a1 a2 as0 s0
  · refine im_aload_n hF dX10_readsFactor_151 1 rfl ?_
    refine im_aload_n hF dX10_readsFactor_152 1 rfl ?_
    refine im_get hF (v := .int (s0 10 0 37)) fl_10_186 (by decide) (by decide) rfl dX10_readsFactor_153 ?_
    refine im_iconst hF dX10_readsFactor_156 (v := (1 : Int32)) (by decide) ?_
    refine im_iadd hF dX10_readsFactor_157 ?_
    refine im_put hF ((s0 10 0 37) + (1 : Int32)) fp_10_186 (by decide) (by decide) rfl rfl rfl dX10_readsFactor_158 ?_
    refine im_bdS (fun s1 => ?_)
    refine im_sub (lv' := [(0, .ref (g.2.1 10 0)), (1, .int a1), (2, .int a2), (3, .int as0)]) [1, 2, 3, 0] rfl ?_
    exact (i_X10_readsFactor_B161 X g hF hM hI) a1 a2 as0 s1
def f_X10_readsFactor_B122 (a1 : Int32) (a2 : Int32) (s0 : Sg) : Option (Int32 × Sg) :=
  bdS (up3 s0 10 0 37 ((s0 10 0 37) + (1 : Int32))) fun s1 =>
  Option.bind (f_X10_here s1) fun q2 =>
  if q2.1 = (45 : Int32) then
  (f_X10_readsFactor_B146) a1 a2 (1 : Int32) q2.2
  else
  (f_X10_readsFactor_B146) a1 a2 (0 : Int32) q2.2
set_option maxRecDepth 4000 in
theorem i_X10_readsFactor_B122 (X : Cx) (g : GT) (hF : Fx X g RX10 cX10_readsFactor 4 3 66) (hM : FM X g (some .boolean)) (hI : GI g) (a1 : Int32) (a2 : Int32) (s0 : Sg) : Im X g 4 (Qm X g embI) s0 122 [(0, .ref (g.2.1 10 0)), (1, .int a1), (2, .int a2)] [] (f_X10_readsFactor_B122 a1 a2 s0) := by
  unfold f_X10_readsFactor_B122
  refine im_aload_n hF dX10_readsFactor_122 0 rfl ?_
  refine im_aload_n hF dX10_readsFactor_123 0 rfl ?_
  refine im_get hF (v := .int (s0 10 0 37)) fl_10_186 (by decide) (by decide) rfl dX10_readsFactor_124 ?_
  refine im_iconst hF dX10_readsFactor_127 (v := (1 : Int32)) (by decide) ?_
  refine im_iadd hF dX10_readsFactor_128 ?_
  refine im_put hF ((s0 10 0 37) + (1 : Int32)) fp_10_186 (by decide) (by decide) rfl rfl rfl dX10_readsFactor_129 ?_
  refine im_bdS (fun s1 => ?_)
  refine im_aload_n hF dX10_readsFactor_132 0 rfl ?_
  refine im_callVI hF (As := []) (rest := []) my_X10_here mv_X10_here wl_992 (fun l r hr => c_X10_here l g hI  s1 r hr) ⟨by decide, by decide⟩ (by decide) (by decide) ⟨_, rfl, rfl⟩ rfl rfl (Nat.le_of_ble_eq_true rfl) dX10_readsFactor_133 (fun q2 => ?_)
  refine im_bipush hF dX10_readsFactor_136 (v := (45 : Int32)) (by decide) ?_
  refine im_icmp_ne hF 145 dX10_readsFactor_138 (by decide) (fun _ => ?_) (fun _ => ?_)
  · refine im_iconst hF dX10_readsFactor_141 (v := (1 : Int32)) (by decide) ?_
    refine im_goto hF 146 dX10_readsFactor_142 (by decide) ?_
    exact (i_X10_readsFactor_B146 X g hF hM hI) a1 a2 (1 : Int32) q2.2
  · refine im_iconst hF dX10_readsFactor_145 (v := (0 : Int32)) (by decide) ?_
    exact (i_X10_readsFactor_B146 X g hF hM hI) a1 a2 (0 : Int32) q2.2
def f_X10_readsFactor (s0 : Sg) : Option (Int32 × Sg) :=
  (f_X10_readsFactor_L0 (f_X10_readsFactor_B122) FU) s0
set_option maxRecDepth 4000 in
theorem i_X10_readsFactor (X : Cx) (g : GT) (hF : Fx X g RX10 cX10_readsFactor 4 3 66) (hM : FM X g (some .boolean)) (hI : GI g) (s0 : Sg) : Im X g 4 (Qm X g embI) s0 0 [(0, .ref (g.2.1 10 0))] [] (f_X10_readsFactor s0) := by
  unfold f_X10_readsFactor
  exact (i_X10_readsFactor_L0 X g hF hM hI (f_X10_readsFactor_B122) (i_X10_readsFactor_B122 X g hF hM hI) FU) s0
theorem c_X10_readsFactor (l : Launch) (g : GT) (hI : GI g) (s0 : Sg) (r : (Int32 × Sg)) (hr : f_X10_readsFactor s0 = some r) : Ct l yX10_readsFactor cX10_readsFactor 4 (some .boolean) 3 66 g [.ref (g.2.1 10 0)] s0 (embI r) := ct_of (by decide) hI (Nat.le_of_ble_eq_true rfl) (fun X hF hM => i_X10_readsFactor X g hF hM hI s0) r hr
def f_X10_hasOpen_B27 (k4 : Int32 → Int32 → Sg → Option (Int32 × Sg)) (a2 : Int32) (s0 : Sg) : Option (Int32 × Sg) :=
  k4 (1 : Int32) (a2 + (1 : Int32)) s0
set_option maxRecDepth 4000 in
theorem i_X10_hasOpen_B27 (X : Cx) (g : GT) (hF : Fx X g RX10 cX10_hasOpen 3 0 0) (hM : FM X g (some .boolean)) (hI : GI g) (k4 : Int32 → Int32 → Sg → Option (Int32 × Sg)) (hk4 : ∀ (a1 : Int32) (a2 : Int32) (s0 : Sg), Im X g 3 (Qm X g embI) s0 4 [(0, .ref (g.2.1 10 0)), (1, .int a1), (2, .int a2)] [] (k4 a1 a2 s0)) (a2 : Int32) (s0 : Sg) : Im X g 3 (Qm X g embI) s0 27 [(0, .ref (g.2.1 10 0)), (2, .int a2)] [] (f_X10_hasOpen_B27 k4 a2 s0) := by
  unfold f_X10_hasOpen_B27
  refine im_iconst hF dX10_hasOpen_27 (v := (1 : Int32)) (by decide) ?_
  refine im_goto hF 32 dX10_hasOpen_28 (by decide) ?_
  refine im_istore_n hF dX10_hasOpen_32 (lv' := [(1, .int (1 : Int32)), (0, .ref (g.2.1 10 0)), (2, .int a2)]) rfl (by decide) rfl ?_
  refine im_iinc hF dX10_hasOpen_33 (v := (a2 + (1 : Int32))) (lv' := [(2, .int (a2 + (1 : Int32))), (1, .int (1 : Int32)), (0, .ref (g.2.1 10 0))]) 2 rfl rfl (by decide) rfl ?_
  refine im_goto hF 4 dX10_hasOpen_36 (by decide) ?_
  refine im_sub (lv' := [(0, .ref (g.2.1 10 0)), (1, .int (1 : Int32)), (2, .int (a2 + (1 : Int32)))]) [2, 1, 0] rfl ?_
  exact hk4 (1 : Int32) (a2 + (1 : Int32)) s0
def f_X10_hasOpen_B4 (k4 : Int32 → Int32 → Sg → Option (Int32 × Sg)) (a1 : Int32) (a2 : Int32) (s0 : Sg) : Option (Int32 × Sg) :=
  if (s0 10 0 36) ≤ a2 then
  chk (b01 a1) (some (a1, s0))
  else
  if a1 = 0 then
  chk (gi a2 200) (
  if (s0 72 0 a2.toNatClampNeg) = (40 : Int32) then
  (f_X10_hasOpen_B27 k4) a2 s0
  else
  k4 (0 : Int32) (a2 + (1 : Int32)) s0)
  else
  (f_X10_hasOpen_B27 k4) a2 s0
set_option maxRecDepth 4000 in
theorem i_X10_hasOpen_B4 (X : Cx) (g : GT) (hF : Fx X g RX10 cX10_hasOpen 3 0 0) (hM : FM X g (some .boolean)) (hI : GI g) (k4 : Int32 → Int32 → Sg → Option (Int32 × Sg)) (hk4 : ∀ (a1 : Int32) (a2 : Int32) (s0 : Sg), Im X g 3 (Qm X g embI) s0 4 [(0, .ref (g.2.1 10 0)), (1, .int a1), (2, .int a2)] [] (k4 a1 a2 s0)) (a1 : Int32) (a2 : Int32) (s0 : Sg) : Im X g 3 (Qm X g embI) s0 4 [(0, .ref (g.2.1 10 0)), (1, .int a1), (2, .int a2)] [] (f_X10_hasOpen_B4 k4 a1 a2 s0) := by
  unfold f_X10_hasOpen_B4
  refine im_iload_n hF dX10_hasOpen_4 2 rfl ?_
  refine im_aload_n hF dX10_hasOpen_5 0 rfl ?_
  refine im_get hF (v := .int (s0 10 0 36)) fl_10_205 (by decide) (by decide) rfl dX10_hasOpen_6 ?_
  refine im_icmp_ge hF 39 dX10_hasOpen_9 (by decide) (fun _ => ?_) (fun _ => ?_)
  · refine im_iload_n hF dX10_hasOpen_39 1 rfl ?_
    exact im_chk (fun h1 => im_zret hF hM (b01_or h1) dX10_hasOpen_40)
  · refine im_iload_n hF dX10_hasOpen_12 1 rfl ?_
    refine im_if_ne hF 27 dX10_hasOpen_13 (by decide) (fun _ => ?_) (fun _ => ?_)
    · refine im_aload_n hF dX10_hasOpen_16 0 rfl ?_
      refine im_get hF (v := .ref (g.2.1 72 0)) fl_10_99 (by decide) (by decide) rfl dX10_hasOpen_17 ?_
      refine im_iload_n hF dX10_hasOpen_20 2 rfl ?_
      refine im_iald hF ar_72 (by decide) dX10_hasOpen_21 (fun h2 => ?_)
      refine im_bipush hF dX10_hasOpen_22 (v := (40 : Int32)) (by decide) ?_
      refine im_icmp_ne hF 31 dX10_hasOpen_24 (by decide) (fun _ => ?_) (fun _ => ?_)
      · refine im_sub (lv' := [(0, .ref (g.2.1 10 0)), (2, .int a2)]) [0, 2] rfl ?_
        exact (i_X10_hasOpen_B27 X g hF hM hI k4 hk4) a2 s0
      · refine im_iconst hF dX10_hasOpen_31 (v := (0 : Int32)) (by decide) ?_
        refine im_istore_n hF dX10_hasOpen_32 (lv' := [(1, .int (0 : Int32)), (0, .ref (g.2.1 10 0)), (2, .int a2)]) rfl (by decide) rfl ?_
        refine im_iinc hF dX10_hasOpen_33 (v := (a2 + (1 : Int32))) (lv' := [(2, .int (a2 + (1 : Int32))), (1, .int (0 : Int32)), (0, .ref (g.2.1 10 0))]) 2 rfl rfl (by decide) rfl ?_
        refine im_goto hF 4 dX10_hasOpen_36 (by decide) ?_
        refine im_sub (lv' := [(0, .ref (g.2.1 10 0)), (1, .int (0 : Int32)), (2, .int (a2 + (1 : Int32)))]) [2, 1, 0] rfl ?_
        exact hk4 (0 : Int32) (a2 + (1 : Int32)) s0
    · refine im_sub (lv' := [(0, .ref (g.2.1 10 0)), (2, .int a2)]) [0, 2] rfl ?_
      exact (i_X10_hasOpen_B27 X g hF hM hI k4 hk4) a2 s0
def f_X10_hasOpen_L4 : Nat → Int32 → Int32 → Sg → Option (Int32 × Sg)
  | 0 => fun _ _ _ => none
  | n + 1 => fun a1 a2 s0 => f_X10_hasOpen_B4 (f_X10_hasOpen_L4 n) a1 a2 s0
theorem i_X10_hasOpen_L4 (X : Cx) (g : GT) (hF : Fx X g RX10 cX10_hasOpen 3 0 0) (hM : FM X g (some .boolean)) (hI : GI g) : ∀ (n : Nat) (a1 : Int32) (a2 : Int32) (s0 : Sg), Im X g 3 (Qm X g embI) s0 4 [(0, .ref (g.2.1 10 0)), (1, .int a1), (2, .int a2)] [] (f_X10_hasOpen_L4 n a1 a2 s0) := by
  intro n
  induction n with
  | zero => intros; exact im_none
  | succ n ih => intro a1 a2 s0; exact i_X10_hasOpen_B4 X g hF hM hI (f_X10_hasOpen_L4 n) ih a1 a2 s0
def f_X10_hasOpen (s0 : Sg) : Option (Int32 × Sg) :=
  (f_X10_hasOpen_L4 FU) (0 : Int32) (0 : Int32) s0
set_option maxRecDepth 4000 in
theorem i_X10_hasOpen (X : Cx) (g : GT) (hF : Fx X g RX10 cX10_hasOpen 3 0 0) (hM : FM X g (some .boolean)) (hI : GI g) (s0 : Sg) : Im X g 3 (Qm X g embI) s0 0 [(0, .ref (g.2.1 10 0))] [] (f_X10_hasOpen s0) := by
  unfold f_X10_hasOpen
  refine im_iconst hF dX10_hasOpen_0 (v := (0 : Int32)) (by decide) ?_
  refine im_istore_n hF dX10_hasOpen_1 (lv' := [(1, .int (0 : Int32)), (0, .ref (g.2.1 10 0))]) rfl (by decide) rfl ?_
  refine im_iconst hF dX10_hasOpen_2 (v := (0 : Int32)) (by decide) ?_
  refine im_istore_n hF dX10_hasOpen_3 (lv' := [(2, .int (0 : Int32)), (1, .int (0 : Int32)), (0, .ref (g.2.1 10 0))]) rfl (by decide) rfl ?_
  refine im_sub (lv' := [(0, .ref (g.2.1 10 0)), (1, .int (0 : Int32)), (2, .int (0 : Int32))]) [2, 1, 0] rfl ?_
  exact (i_X10_hasOpen_L4 X g hF hM hI FU) (0 : Int32) (0 : Int32) s0
theorem c_X10_hasOpen (l : Launch) (g : GT) (hI : GI g) (s0 : Sg) (r : (Int32 × Sg)) (hr : f_X10_hasOpen s0 = some r) : Ct l yX10_hasOpen cX10_hasOpen 3 (some .boolean) 0 0 g [.ref (g.2.1 10 0)] s0 (embI r) := ct_of (by decide) hI (Nat.le_of_ble_eq_true rfl) (fun X hF hM => i_X10_hasOpen X g hF hM hI s0) r hr
def f_X10_readsTest_B41 (k41 : Sg → Option (Int32 × Sg)) (k25 : Sg → Option (Int32 × Sg)) (s0 : Sg) : Option (Int32 × Sg) :=
  Option.bind (f_X10_isTop (40 : Int32) s0) fun q1 =>
  if q1.1 = 0 then
  Option.bind (f_X10_pops q1.2) fun q2 =>
  k41 q2
  else
  bdS (up3 q1.2 10 0 36 ((q1.2 10 0 36) - (1 : Int32))) fun s3 =>
  bdS (up3 s3 10 0 39 ((s3 10 0 39) - (1 : Int32))) fun s4 =>
  bdS (up3 s4 10 0 37 ((s4 10 0 37) + (1 : Int32))) fun s5 =>
  Option.bind (f_X10_ends s5) fun q6 =>
  k25 q6
set_option maxRecDepth 4000 in
theorem i_X10_readsTest_B41 (X : Cx) (g : GT) (hF : Fx X g RX10 cX10_readsTest 2 4 89) (hM : FM X g (some .boolean)) (hI : GI g) (k41 : Sg → Option (Int32 × Sg)) (hk41 : ∀ (s0 : Sg), Im X g 2 (Qm X g embI) s0 41 [(0, .ref (g.2.1 10 0))] [] (k41 s0)) (k25 : Sg → Option (Int32 × Sg)) (hk25 : ∀ (s0 : Sg), Im X g 2 (Qm X g embI) s0 25 [(0, .ref (g.2.1 10 0))] [] (k25 s0)) (s0 : Sg) : Im X g 2 (Qm X g embI) s0 41 [(0, .ref (g.2.1 10 0))] [] (f_X10_readsTest_B41 k41 k25 s0) := by
  unfold f_X10_readsTest_B41
  refine im_aload_n hF dX10_readsTest_41 0 rfl ?_
  refine im_bipush hF dX10_readsTest_42 (v := (40 : Int32)) (by decide) ?_
  refine im_callVI hF (As := [.int (40 : Int32)]) (rest := []) my_X10_isTop mv_X10_isTop wl_1027 (fun l r hr => c_X10_isTop l g hI (40 : Int32) s0 r hr) ⟨by decide, by decide⟩ (by decide) (by decide) ⟨_, rfl, rfl⟩ rfl rfl (Nat.le_of_ble_eq_true rfl) dX10_readsTest_44 (fun q1 => ?_)
  refine im_if_ne hF 57 dX10_readsTest_47 (by decide) (fun _ => ?_) (fun _ => ?_)
  · refine im_aload_n hF dX10_readsTest_50 0 rfl ?_
    refine im_callVV hF (As := []) (rest := []) my_X10_pops mv_X10_pops wl_1031 (fun l r hr => c_X10_pops l g hI  q1.2 r hr) ⟨by decide, by decide⟩ (by decide) (by decide) ⟨_, rfl, rfl⟩ rfl rfl (Nat.le_of_ble_eq_true rfl) dX10_readsTest_51 (fun q2 => ?_)
    refine im_goto hF 41 dX10_readsTest_54 (by decide) ?_
    exact hk41 q2
  · refine im_aload_n hF dX10_readsTest_57 0 rfl ?_
    refine im_aload_n hF dX10_readsTest_58 0 rfl ?_
    refine im_get hF (v := .int (q1.2 10 0 36)) fl_10_205 (by decide) (by decide) rfl dX10_readsTest_59 ?_
    refine im_iconst hF dX10_readsTest_62 (v := (1 : Int32)) (by decide) ?_
    refine im_isub hF dX10_readsTest_63 ?_
    refine im_put hF ((q1.2 10 0 36) - (1 : Int32)) fp_10_205 (by decide) (by decide) rfl rfl rfl dX10_readsTest_64 ?_
    refine im_bdS (fun s3 => ?_)
    refine im_aload_n hF dX10_readsTest_67 0 rfl ?_
    refine im_aload_n hF dX10_readsTest_68 0 rfl ?_
    refine im_get hF (v := .int (s3 10 0 39)) fl_10_218 (by decide) (by decide) rfl dX10_readsTest_69 ?_
    refine im_iconst hF dX10_readsTest_72 (v := (1 : Int32)) (by decide) ?_
    refine im_isub hF dX10_readsTest_73 ?_
    refine im_put hF ((s3 10 0 39) - (1 : Int32)) fp_10_218 (by decide) (by decide) rfl rfl rfl dX10_readsTest_74 ?_
    refine im_bdS (fun s4 => ?_)
    refine im_aload_n hF dX10_readsTest_77 0 rfl ?_
    refine im_aload_n hF dX10_readsTest_78 0 rfl ?_
    refine im_get hF (v := .int (s4 10 0 37)) fl_10_186 (by decide) (by decide) rfl dX10_readsTest_79 ?_
    refine im_iconst hF dX10_readsTest_82 (v := (1 : Int32)) (by decide) ?_
    refine im_iadd hF dX10_readsTest_83 ?_
    refine im_put hF ((s4 10 0 37) + (1 : Int32)) fp_10_186 (by decide) (by decide) rfl rfl rfl dX10_readsTest_84 ?_
    refine im_bdS (fun s5 => ?_)
    refine im_aload_n hF dX10_readsTest_87 0 rfl ?_
    refine im_callVV hF (As := []) (rest := []) my_X10_ends mv_X10_ends wl_1023 (fun l r hr => c_X10_ends l g hI  s5 r hr) ⟨by decide, by decide⟩ (by decide) (by decide) ⟨_, rfl, rfl⟩ rfl rfl (Nat.le_of_ble_eq_true rfl) dX10_readsTest_88 (fun q6 => ?_)
    refine im_goto hF 25 dX10_readsTest_91 (by decide) ?_
    exact hk25 q6
def f_X10_readsTest_L41 (k25 : Sg → Option (Int32 × Sg)) : Nat → Sg → Option (Int32 × Sg)
  | 0 => fun  _ => none
  | n + 1 => fun s0 => f_X10_readsTest_B41 (f_X10_readsTest_L41 k25 n) k25 s0
theorem i_X10_readsTest_L41 (X : Cx) (g : GT) (hF : Fx X g RX10 cX10_readsTest 2 4 89) (hM : FM X g (some .boolean)) (hI : GI g) (k25 : Sg → Option (Int32 × Sg)) (hk25 : ∀ (s0 : Sg), Im X g 2 (Qm X g embI) s0 25 [(0, .ref (g.2.1 10 0))] [] (k25 s0)) : ∀ (n : Nat) (s0 : Sg), Im X g 2 (Qm X g embI) s0 41 [(0, .ref (g.2.1 10 0))] [] (f_X10_readsTest_L41 k25 n s0) := by
  intro n
  induction n with
  | zero => intros; exact im_none
  | succ n ih => intro s0; exact i_X10_readsTest_B41 X g hF hM hI (f_X10_readsTest_L41 k25 n) ih k25 hk25 s0
def f_X10_readsTest_B25 (k25 : Sg → Option (Int32 × Sg)) (k94 : Sg → Option (Int32 × Sg)) (s0 : Sg) : Option (Int32 × Sg) :=
  Option.bind (f_X10_here s0) fun q1 =>
  if q1.1 = (41 : Int32) then
  Option.bind (f_X10_hasOpen q1.2) fun q2 =>
  if q2.1 = 0 then
  k94 q2.2
  else
  (f_X10_readsTest_L41 k25 FU) q2.2
  else
  k94 q1.2
set_option maxRecDepth 4000 in
theorem i_X10_readsTest_B25 (X : Cx) (g : GT) (hF : Fx X g RX10 cX10_readsTest 2 4 89) (hM : FM X g (some .boolean)) (hI : GI g) (k25 : Sg → Option (Int32 × Sg)) (hk25 : ∀ (s0 : Sg), Im X g 2 (Qm X g embI) s0 25 [(0, .ref (g.2.1 10 0))] [] (k25 s0)) (k94 : Sg → Option (Int32 × Sg)) (hk94 : ∀ (s0 : Sg), Im X g 2 (Qm X g embI) s0 94 [(0, .ref (g.2.1 10 0))] [] (k94 s0)) (s0 : Sg) : Im X g 2 (Qm X g embI) s0 25 [(0, .ref (g.2.1 10 0))] [] (f_X10_readsTest_B25 k25 k94 s0) := by
  unfold f_X10_readsTest_B25
  refine im_aload_n hF dX10_readsTest_25 0 rfl ?_
  refine im_callVI hF (As := []) (rest := []) my_X10_here mv_X10_here wl_992 (fun l r hr => c_X10_here l g hI  s0 r hr) ⟨by decide, by decide⟩ (by decide) (by decide) ⟨_, rfl, rfl⟩ rfl rfl (Nat.le_of_ble_eq_true rfl) dX10_readsTest_26 (fun q1 => ?_)
  refine im_bipush hF dX10_readsTest_29 (v := (41 : Int32)) (by decide) ?_
  refine im_icmp_ne hF 94 dX10_readsTest_31 (by decide) (fun _ => ?_) (fun _ => ?_)
  · refine im_aload_n hF dX10_readsTest_34 0 rfl ?_
    refine im_callVI hF (As := []) (rest := []) my_X10_hasOpen mv_X10_hasOpen wl_1035 (fun l r hr => c_X10_hasOpen l g hI  q1.2 r hr) ⟨by decide, by decide⟩ (by decide) (by decide) ⟨_, rfl, rfl⟩ rfl rfl (Nat.le_of_ble_eq_true rfl) dX10_readsTest_35 (fun q2 => ?_)
    refine im_if_eq hF 94 dX10_readsTest_38 (by decide) (fun _ => ?_) (fun _ => ?_)
    · exact hk94 q2.2
    · exact (i_X10_readsTest_L41 X g hF hM hI k25 hk25 FU) q2.2
  · exact hk94 q1.2
def f_X10_readsTest_L25 (k94 : Sg → Option (Int32 × Sg)) : Nat → Sg → Option (Int32 × Sg)
  | 0 => fun  _ => none
  | n + 1 => fun s0 => f_X10_readsTest_B25 (f_X10_readsTest_L25 k94 n) k94 s0
theorem i_X10_readsTest_L25 (X : Cx) (g : GT) (hF : Fx X g RX10 cX10_readsTest 2 4 89) (hM : FM X g (some .boolean)) (hI : GI g) (k94 : Sg → Option (Int32 × Sg)) (hk94 : ∀ (s0 : Sg), Im X g 2 (Qm X g embI) s0 94 [(0, .ref (g.2.1 10 0))] [] (k94 s0)) : ∀ (n : Nat) (s0 : Sg), Im X g 2 (Qm X g embI) s0 25 [(0, .ref (g.2.1 10 0))] [] (f_X10_readsTest_L25 k94 n s0) := by
  intro n
  induction n with
  | zero => intros; exact im_none
  | succ n ih => intro s0; exact i_X10_readsTest_B25 X g hF hM hI (f_X10_readsTest_L25 k94 n) ih k94 hk94 s0
def f_X10_readsTest_B152 (k125 : Int32 → Sg → Option (Int32 × Sg)) (k159 : Int32 → Sg → Option (Int32 × Sg)) (a1 : Int32) (s0 : Sg) : Option (Int32 × Sg) :=
  Option.bind (f_X10_pops s0) fun q1 =>
  k125 a1 q1
set_option maxRecDepth 4000 in
theorem i_X10_readsTest_B152 (X : Cx) (g : GT) (hF : Fx X g RX10 cX10_readsTest 2 4 89) (hM : FM X g (some .boolean)) (hI : GI g) (k125 : Int32 → Sg → Option (Int32 × Sg)) (hk125 : ∀ (a1 : Int32) (s0 : Sg), Im X g 2 (Qm X g embI) s0 125 [(0, .ref (g.2.1 10 0)), (1, .int a1)] [] (k125 a1 s0)) (k159 : Int32 → Sg → Option (Int32 × Sg)) (hk159 : ∀ (a1 : Int32) (s0 : Sg), Im X g 2 (Qm X g embI) s0 159 [(0, .ref (g.2.1 10 0)), (1, .int a1)] [] (k159 a1 s0)) (a1 : Int32) (s0 : Sg) : Im X g 2 (Qm X g embI) s0 152 [(0, .ref (g.2.1 10 0)), (1, .int a1)] [] (f_X10_readsTest_B152 k125 k159 a1 s0) := by
  unfold f_X10_readsTest_B152
  refine im_aload_n hF dX10_readsTest_152 0 rfl ?_
  refine im_callVV hF (As := []) (rest := []) my_X10_pops mv_X10_pops wl_1031 (fun l r hr => c_X10_pops l g hI  s0 r hr) ⟨by decide, by decide⟩ (by decide) (by decide) ⟨_, rfl, rfl⟩ rfl rfl (Nat.le_of_ble_eq_true rfl) dX10_readsTest_153 (fun q1 => ?_)
  refine im_goto hF 125 dX10_readsTest_156 (by decide) ?_
  exact hk125 a1 q1
def f_X10_readsTest_B125 (k125 : Int32 → Sg → Option (Int32 × Sg)) (k159 : Int32 → Sg → Option (Int32 × Sg)) (a1 : Int32) (s0 : Sg) : Option (Int32 × Sg) :=
  Option.bind (f_X10_isTop (38 : Int32) s0) fun q1 =>
  if q1.1 = 0 then
  Option.bind (f_X10_here q1.2) fun q2 =>
  if q2.1 = (124 : Int32) then
  Option.bind (f_X10_isTop (124 : Int32) q2.2) fun q3 =>
  if q3.1 = 0 then
  k159 a1 q3.2
  else
  (f_X10_readsTest_B152 k125 k159) a1 q3.2
  else
  k159 a1 q2.2
  else
  (f_X10_readsTest_B152 k125 k159) a1 q1.2
set_option maxRecDepth 4000 in
theorem i_X10_readsTest_B125 (X : Cx) (g : GT) (hF : Fx X g RX10 cX10_readsTest 2 4 89) (hM : FM X g (some .boolean)) (hI : GI g) (k125 : Int32 → Sg → Option (Int32 × Sg)) (hk125 : ∀ (a1 : Int32) (s0 : Sg), Im X g 2 (Qm X g embI) s0 125 [(0, .ref (g.2.1 10 0)), (1, .int a1)] [] (k125 a1 s0)) (k159 : Int32 → Sg → Option (Int32 × Sg)) (hk159 : ∀ (a1 : Int32) (s0 : Sg), Im X g 2 (Qm X g embI) s0 159 [(0, .ref (g.2.1 10 0)), (1, .int a1)] [] (k159 a1 s0)) (a1 : Int32) (s0 : Sg) : Im X g 2 (Qm X g embI) s0 125 [(0, .ref (g.2.1 10 0)), (1, .int a1)] [] (f_X10_readsTest_B125 k125 k159 a1 s0) := by
  unfold f_X10_readsTest_B125
  refine im_aload_n hF dX10_readsTest_125 0 rfl ?_
  refine im_bipush hF dX10_readsTest_126 (v := (38 : Int32)) (by decide) ?_
  refine im_callVI hF (As := [.int (38 : Int32)]) (rest := []) my_X10_isTop mv_X10_isTop wl_1027 (fun l r hr => c_X10_isTop l g hI (38 : Int32) s0 r hr) ⟨by decide, by decide⟩ (by decide) (by decide) ⟨_, rfl, rfl⟩ rfl rfl (Nat.le_of_ble_eq_true rfl) dX10_readsTest_128 (fun q1 => ?_)
  refine im_if_ne hF 152 dX10_readsTest_131 (by decide) (fun _ => ?_) (fun _ => ?_)
  · refine im_aload_n hF dX10_readsTest_134 0 rfl ?_
    refine im_callVI hF (As := []) (rest := []) my_X10_here mv_X10_here wl_992 (fun l r hr => c_X10_here l g hI  q1.2 r hr) ⟨by decide, by decide⟩ (by decide) (by decide) ⟨_, rfl, rfl⟩ rfl rfl (Nat.le_of_ble_eq_true rfl) dX10_readsTest_135 (fun q2 => ?_)
    refine im_bipush hF dX10_readsTest_138 (v := (124 : Int32)) (by decide) ?_
    refine im_icmp_ne hF 159 dX10_readsTest_140 (by decide) (fun _ => ?_) (fun _ => ?_)
    · refine im_aload_n hF dX10_readsTest_143 0 rfl ?_
      refine im_bipush hF dX10_readsTest_144 (v := (124 : Int32)) (by decide) ?_
      refine im_callVI hF (As := [.int (124 : Int32)]) (rest := []) my_X10_isTop mv_X10_isTop wl_1027 (fun l r hr => c_X10_isTop l g hI (124 : Int32) q2.2 r hr) ⟨by decide, by decide⟩ (by decide) (by decide) ⟨_, rfl, rfl⟩ rfl rfl (Nat.le_of_ble_eq_true rfl) dX10_readsTest_146 (fun q3 => ?_)
      refine im_if_eq hF 159 dX10_readsTest_149 (by decide) (fun _ => ?_) (fun _ => ?_)
      · exact hk159 a1 q3.2
      · exact (i_X10_readsTest_B152 X g hF hM hI k125 hk125 k159 hk159) a1 q3.2
    · exact hk159 a1 q2.2
  · exact (i_X10_readsTest_B152 X g hF hM hI k125 hk125 k159 hk159) a1 q1.2
def f_X10_readsTest_L125 (k159 : Int32 → Sg → Option (Int32 × Sg)) : Nat → Int32 → Sg → Option (Int32 × Sg)
  | 0 => fun _ _ => none
  | n + 1 => fun a1 s0 => f_X10_readsTest_B125 (f_X10_readsTest_L125 k159 n) k159 a1 s0
theorem i_X10_readsTest_L125 (X : Cx) (g : GT) (hF : Fx X g RX10 cX10_readsTest 2 4 89) (hM : FM X g (some .boolean)) (hI : GI g) (k159 : Int32 → Sg → Option (Int32 × Sg)) (hk159 : ∀ (a1 : Int32) (s0 : Sg), Im X g 2 (Qm X g embI) s0 159 [(0, .ref (g.2.1 10 0)), (1, .int a1)] [] (k159 a1 s0)) : ∀ (n : Nat) (a1 : Int32) (s0 : Sg), Im X g 2 (Qm X g embI) s0 125 [(0, .ref (g.2.1 10 0)), (1, .int a1)] [] (f_X10_readsTest_L125 k159 n a1 s0) := by
  intro n
  induction n with
  | zero => intros; exact im_none
  | succ n ih => intro a1 s0; exact i_X10_readsTest_B125 X g hF hM hI (f_X10_readsTest_L125 k159 n) ih k159 hk159 a1 s0
def f_X10_readsTest_B159 (k12 : Int32 → Sg → Option (Int32 × Sg)) (k193 : Sg → Option (Int32 × Sg)) (a1 : Int32) (s0 : Sg) : Option (Int32 × Sg) :=
  Option.bind (f_X10_here s0) fun q1 =>
  Option.bind (f_X10_pushes q1.1 q1.2) fun q2 =>
  bdS (up3 q2 10 0 37 ((q2 10 0 37) + (1 : Int32))) fun s3 =>
  k12 a1 s3
set_option maxRecDepth 4000 in
theorem i_X10_readsTest_B159 (X : Cx) (g : GT) (hF : Fx X g RX10 cX10_readsTest 2 4 89) (hM : FM X g (some .boolean)) (hI : GI g) (k12 : Int32 → Sg → Option (Int32 × Sg)) (hk12 : ∀ (a1 : Int32) (s0 : Sg), Im X g 2 (Qm X g embI) s0 12 [(0, .ref (g.2.1 10 0)), (1, .int a1)] [] (k12 a1 s0)) (k193 : Sg → Option (Int32 × Sg)) (hk193 : ∀ (s0 : Sg), Im X g 2 (Qm X g embI) s0 193 [(0, .ref (g.2.1 10 0))] [] (k193 s0)) (a1 : Int32) (s0 : Sg) : Im X g 2 (Qm X g embI) s0 159 [(0, .ref (g.2.1 10 0)), (1, .int a1)] [] (f_X10_readsTest_B159 k12 k193 a1 s0) := by
  unfold f_X10_readsTest_B159
  refine im_aload_n hF dX10_readsTest_159 0 rfl ?_
  refine im_aload_n hF dX10_readsTest_160 0 rfl ?_
  refine im_callVI hF (As := []) (rest := [.ref (g.2.1 10 0)]) my_X10_here mv_X10_here wl_992 (fun l r hr => c_X10_here l g hI  s0 r hr) ⟨by decide, by decide⟩ (by decide) (by decide) ⟨_, rfl, rfl⟩ rfl rfl (Nat.le_of_ble_eq_true rfl) dX10_readsTest_161 (fun q1 => ?_)
  refine im_callVV hF (As := [.int q1.1]) (rest := []) my_X10_pushes mv_X10_pushes wl_1012 (fun l r hr => c_X10_pushes l g hI q1.1 q1.2 r hr) ⟨by decide, by decide⟩ (by decide) (by decide) ⟨_, rfl, rfl⟩ rfl rfl (Nat.le_of_ble_eq_true rfl) dX10_readsTest_164 (fun q2 => ?_)
  refine im_aload_n hF dX10_readsTest_167 0 rfl ?_
  refine im_aload_n hF dX10_readsTest_168 0 rfl ?_
  refine im_get hF (v := .int (q2 10 0 37)) fl_10_186 (by decide) (by decide) rfl dX10_readsTest_169 ?_
  refine im_iconst hF dX10_readsTest_172 (v := (1 : Int32)) (by decide) ?_
  refine im_iadd hF dX10_readsTest_173 ?_
  refine im_put hF ((q2 10 0 37) + (1 : Int32)) fp_10_186 (by decide) (by decide) rfl rfl rfl dX10_readsTest_174 ?_
  refine im_bdS (fun s3 => ?_)
  refine im_goto hF 12 dX10_readsTest_177 (by decide) ?_
  exact hk12 a1 s3
def f_X10_readsTest_B117 (k12 : Int32 → Sg → Option (Int32 × Sg)) (k193 : Sg → Option (Int32 × Sg)) (as0 : Int32) (s0 : Sg) : Option (Int32 × Sg) :=
  if as0 = 0 then
  k12 as0 s0
  else
  (f_X10_readsTest_L125 (f_X10_readsTest_B159 k12 k193) FU) as0 s0
set_option maxRecDepth 4000 in
theorem i_X10_readsTest_B117 (X : Cx) (g : GT) (hF : Fx X g RX10 cX10_readsTest 2 4 89) (hM : FM X g (some .boolean)) (hI : GI g) (k12 : Int32 → Sg → Option (Int32 × Sg)) (hk12 : ∀ (a1 : Int32) (s0 : Sg), Im X g 2 (Qm X g embI) s0 12 [(0, .ref (g.2.1 10 0)), (1, .int a1)] [] (k12 a1 s0)) (k193 : Sg → Option (Int32 × Sg)) (hk193 : ∀ (s0 : Sg), Im X g 2 (Qm X g embI) s0 193 [(0, .ref (g.2.1 10 0))] [] (k193 s0)) (as0 : Int32) (s0 : Sg) : Im X g 2 (Qm X g embI) s0 117 [(0, .ref (g.2.1 10 0))] [.int as0] (f_X10_readsTest_B117 k12 k193 as0 s0) := by
  unfold f_X10_readsTest_B117
  refine im_istore_n hF dX10_readsTest_117 (lv' := [(1, .int as0), (0, .ref (g.2.1 10 0))]) rfl (by decide) rfl ?_
  refine im_iload_n hF dX10_readsTest_118 0 rfl ?_
  refine im_if_ne hF 125 dX10_readsTest_119 (by decide) (fun _ => ?_) (fun _ => ?_)
  · refine im_goto hF 12 dX10_readsTest_122 (by decide) ?_
    refine im_sub (lv' := [(0, .ref (g.2.1 10 0)), (1, .int as0)]) [1, 0] rfl ?_
    exact hk12 as0 s0
  · refine im_sub (lv' := [(0, .ref (g.2.1 10 0)), (1, .int as0)]) [1, 0] rfl ?_
    exact (i_X10_readsTest_L125 X g hF hM hI (f_X10_readsTest_B159 k12 k193) (i_X10_readsTest_B159 X g hF hM hI k12 hk12 k193 hk193) FU) as0 s0
def f_X10_readsTest_B112 (k12 : Int32 → Sg → Option (Int32 × Sg)) (k193 : Sg → Option (Int32 × Sg)) (s0 : Sg) : Option (Int32 × Sg) :=
  (f_X10_readsTest_B117 k12 k193) (1 : Int32) s0
set_option maxRecDepth 4000 in
theorem i_X10_readsTest_B112 (X : Cx) (g : GT) (hF : Fx X g RX10 cX10_readsTest 2 4 89) (hM : FM X g (some .boolean)) (hI : GI g) (k12 : Int32 → Sg → Option (Int32 × Sg)) (hk12 : ∀ (a1 : Int32) (s0 : Sg), Im X g 2 (Qm X g embI) s0 12 [(0, .ref (g.2.1 10 0)), (1, .int a1)] [] (k12 a1 s0)) (k193 : Sg → Option (Int32 × Sg)) (hk193 : ∀ (s0 : Sg), Im X g 2 (Qm X g embI) s0 193 [(0, .ref (g.2.1 10 0))] [] (k193 s0)) (s0 : Sg) : Im X g 2 (Qm X g embI) s0 112 [(0, .ref (g.2.1 10 0))] [] (f_X10_readsTest_B112 k12 k193 s0) := by
  unfold f_X10_readsTest_B112
  refine im_iconst hF dX10_readsTest_112 (v := (1 : Int32)) (by decide) ?_
  refine im_goto hF 117 dX10_readsTest_113 (by decide) ?_
  exact (i_X10_readsTest_B117 X g hF hM hI k12 hk12 k193 hk193) (1 : Int32) s0
def f_X10_readsTest_B94 (k12 : Int32 → Sg → Option (Int32 × Sg)) (k193 : Sg → Option (Int32 × Sg)) (s0 : Sg) : Option (Int32 × Sg) :=
  Option.bind (f_X10_here s0) fun q1 =>
  if q1.1 = (38 : Int32) then
  (f_X10_readsTest_B112 k12 k193) q1.2
  else
  Option.bind (f_X10_here q1.2) fun q2 =>
  if q2.1 = (124 : Int32) then
  (f_X10_readsTest_B112 k12 k193) q2.2
  else
  (f_X10_readsTest_B117 k12 k193) (0 : Int32) q2.2
set_option maxRecDepth 4000 in
theorem i_X10_readsTest_B94 (X : Cx) (g : GT) (hF : Fx X g RX10 cX10_readsTest 2 4 89) (hM : FM X g (some .boolean)) (hI : GI g) (k12 : Int32 → Sg → Option (Int32 × Sg)) (hk12 : ∀ (a1 : Int32) (s0 : Sg), Im X g 2 (Qm X g embI) s0 12 [(0, .ref (g.2.1 10 0)), (1, .int a1)] [] (k12 a1 s0)) (k193 : Sg → Option (Int32 × Sg)) (hk193 : ∀ (s0 : Sg), Im X g 2 (Qm X g embI) s0 193 [(0, .ref (g.2.1 10 0))] [] (k193 s0)) (s0 : Sg) : Im X g 2 (Qm X g embI) s0 94 [(0, .ref (g.2.1 10 0))] [] (f_X10_readsTest_B94 k12 k193 s0) := by
  unfold f_X10_readsTest_B94
  refine im_aload_n hF dX10_readsTest_94 0 rfl ?_
  refine im_callVI hF (As := []) (rest := []) my_X10_here mv_X10_here wl_992 (fun l r hr => c_X10_here l g hI  s0 r hr) ⟨by decide, by decide⟩ (by decide) (by decide) ⟨_, rfl, rfl⟩ rfl rfl (Nat.le_of_ble_eq_true rfl) dX10_readsTest_95 (fun q1 => ?_)
  refine im_bipush hF dX10_readsTest_98 (v := (38 : Int32)) (by decide) ?_
  refine im_icmp_eq hF 112 dX10_readsTest_100 (by decide) (fun _ => ?_) (fun _ => ?_)
  · exact (i_X10_readsTest_B112 X g hF hM hI k12 hk12 k193 hk193) q1.2
  · refine im_aload_n hF dX10_readsTest_103 0 rfl ?_
    refine im_callVI hF (As := []) (rest := []) my_X10_here mv_X10_here wl_992 (fun l r hr => c_X10_here l g hI  q1.2 r hr) ⟨by decide, by decide⟩ (by decide) (by decide) ⟨_, rfl, rfl⟩ rfl rfl (Nat.le_of_ble_eq_true rfl) dX10_readsTest_104 (fun q2 => ?_)
    refine im_bipush hF dX10_readsTest_107 (v := (124 : Int32)) (by decide) ?_
    refine im_icmp_ne hF 116 dX10_readsTest_109 (by decide) (fun _ => ?_) (fun _ => ?_)
    · exact (i_X10_readsTest_B112 X g hF hM hI k12 hk12 k193 hk193) q2.2
    · refine im_iconst hF dX10_readsTest_116 (v := (0 : Int32)) (by decide) ?_
      exact (i_X10_readsTest_B117 X g hF hM hI k12 hk12 k193 hk193) (0 : Int32) q2.2
def f_X10_readsTest_B12 (k12 : Int32 → Sg → Option (Int32 × Sg)) (k193 : Sg → Option (Int32 × Sg)) (a1 : Int32) (s0 : Sg) : Option (Int32 × Sg) :=
  if a1 = 0 then
  Option.bind (f_X10_hasOpen s0) fun q1 =>
  if q1.1 = 0 then
  k193 q1.2
  else
  Option.bind (f_X10_wrong (1 : Int32) q1.2) fun q2 =>
  chk (b01 q2.1) (some (q2.1, q2.2))
  else
  Option.bind (f_X10_readsFactor s0) fun q4 =>
  if q4.1 = 0 then
  some ((0 : Int32), q4.2)
  else
  (f_X10_readsTest_L25 (f_X10_readsTest_B94 k12 k193) FU) q4.2
set_option maxRecDepth 4000 in
theorem i_X10_readsTest_B12 (X : Cx) (g : GT) (hF : Fx X g RX10 cX10_readsTest 2 4 89) (hM : FM X g (some .boolean)) (hI : GI g) (k12 : Int32 → Sg → Option (Int32 × Sg)) (hk12 : ∀ (a1 : Int32) (s0 : Sg), Im X g 2 (Qm X g embI) s0 12 [(0, .ref (g.2.1 10 0)), (1, .int a1)] [] (k12 a1 s0)) (k193 : Sg → Option (Int32 × Sg)) (hk193 : ∀ (s0 : Sg), Im X g 2 (Qm X g embI) s0 193 [(0, .ref (g.2.1 10 0))] [] (k193 s0)) (a1 : Int32) (s0 : Sg) : Im X g 2 (Qm X g embI) s0 12 [(0, .ref (g.2.1 10 0)), (1, .int a1)] [] (f_X10_readsTest_B12 k12 k193 a1 s0) := by
  unfold f_X10_readsTest_B12
  refine im_iload_n hF dX10_readsTest_12 1 rfl ?_
  refine im_if_eq hF 180 dX10_readsTest_13 (by decide) (fun _ => ?_) (fun _ => ?_)
  · refine im_aload_n hF dX10_readsTest_180 0 rfl ?_
    refine im_callVI hF (As := []) (rest := []) my_X10_hasOpen mv_X10_hasOpen wl_1035 (fun l r hr => c_X10_hasOpen l g hI  s0 r hr) ⟨by decide, by decide⟩ (by decide) (by decide) ⟨_, rfl, rfl⟩ rfl rfl (Nat.le_of_ble_eq_true rfl) dX10_readsTest_181 (fun q1 => ?_)
    refine im_if_eq hF 193 dX10_readsTest_184 (by decide) (fun _ => ?_) (fun _ => ?_)
    · refine im_sub (lv' := [(0, .ref (g.2.1 10 0))]) [0] rfl ?_
      exact hk193 q1.2
    · refine im_aload_n hF dX10_readsTest_187 0 rfl ?_
      refine im_iconst hF dX10_readsTest_188 (v := (1 : Int32)) (by decide) ?_
      refine im_callVI hF (As := [.int (1 : Int32)]) (rest := []) my_X10_wrong mv_X10_wrong wl_996 (fun l r hr => c_X10_wrong l g hI (1 : Int32) q1.2 r hr) ⟨by decide, by decide⟩ (by decide) (by decide) ⟨_, rfl, rfl⟩ rfl rfl (Nat.le_of_ble_eq_true rfl) dX10_readsTest_189 (fun q2 => ?_)
      exact im_chk (fun h3 => im_zret hF hM (b01_or h3) dX10_readsTest_192)
  · refine im_aload_n hF dX10_readsTest_16 0 rfl ?_
    refine im_callVI hF (As := []) (rest := []) my_X10_readsFactor mv_X10_readsFactor wl_1008 (fun l r hr => c_X10_readsFactor l g hI  s0 r hr) ⟨by decide, by decide⟩ (by decide) (by decide) ⟨_, rfl, rfl⟩ rfl rfl (Nat.le_of_ble_eq_true rfl) dX10_readsTest_17 (fun q4 => ?_)
    refine im_if_ne hF 25 dX10_readsTest_20 (by decide) (fun _ => ?_) (fun _ => ?_)
    · refine im_iconst hF dX10_readsTest_23 (v := (0 : Int32)) (by decide) ?_
      exact im_zret hF hM (by decide) dX10_readsTest_24
    · refine im_sub (lv' := [(0, .ref (g.2.1 10 0))]) [0] rfl ?_
      exact (i_X10_readsTest_L25 X g hF hM hI (f_X10_readsTest_B94 k12 k193) (i_X10_readsTest_B94 X g hF hM hI k12 hk12 k193 hk193) FU) q4.2
def f_X10_readsTest_L12 (k193 : Sg → Option (Int32 × Sg)) : Nat → Int32 → Sg → Option (Int32 × Sg)
  | 0 => fun _ _ => none
  | n + 1 => fun a1 s0 => f_X10_readsTest_B12 (f_X10_readsTest_L12 k193 n) k193 a1 s0
theorem i_X10_readsTest_L12 (X : Cx) (g : GT) (hF : Fx X g RX10 cX10_readsTest 2 4 89) (hM : FM X g (some .boolean)) (hI : GI g) (k193 : Sg → Option (Int32 × Sg)) (hk193 : ∀ (s0 : Sg), Im X g 2 (Qm X g embI) s0 193 [(0, .ref (g.2.1 10 0))] [] (k193 s0)) : ∀ (n : Nat) (a1 : Int32) (s0 : Sg), Im X g 2 (Qm X g embI) s0 12 [(0, .ref (g.2.1 10 0)), (1, .int a1)] [] (f_X10_readsTest_L12 k193 n a1 s0) := by
  intro n
  induction n with
  | zero => intros; exact im_none
  | succ n ih => intro a1 s0; exact i_X10_readsTest_B12 X g hF hM hI (f_X10_readsTest_L12 k193 n) ih k193 hk193 a1 s0
def f_X10_readsTest_B193 (k193 : Sg → Option (Int32 × Sg)) (s0 : Sg) : Option (Int32 × Sg) :=
  if (s0 10 0 36) ≤ 0 then
  some ((1 : Int32), s0)
  else
  Option.bind (f_X10_pops s0) fun q1 =>
  k193 q1
set_option maxRecDepth 4000 in
theorem i_X10_readsTest_B193 (X : Cx) (g : GT) (hF : Fx X g RX10 cX10_readsTest 2 4 89) (hM : FM X g (some .boolean)) (hI : GI g) (k193 : Sg → Option (Int32 × Sg)) (hk193 : ∀ (s0 : Sg), Im X g 2 (Qm X g embI) s0 193 [(0, .ref (g.2.1 10 0))] [] (k193 s0)) (s0 : Sg) : Im X g 2 (Qm X g embI) s0 193 [(0, .ref (g.2.1 10 0))] [] (f_X10_readsTest_B193 k193 s0) := by
  unfold f_X10_readsTest_B193
  refine im_aload_n hF dX10_readsTest_193 0 rfl ?_
  refine im_get hF (v := .int (s0 10 0 36)) fl_10_205 (by decide) (by decide) rfl dX10_readsTest_194 ?_
  refine im_if_le hF 207 dX10_readsTest_197 (by decide) (fun _ => ?_) (fun _ => ?_)
  · refine im_iconst hF dX10_readsTest_207 (v := (1 : Int32)) (by decide) ?_
    exact im_zret hF hM (by decide) dX10_readsTest_208
  · refine im_aload_n hF dX10_readsTest_200 0 rfl ?_
    refine im_callVV hF (As := []) (rest := []) my_X10_pops mv_X10_pops wl_1031 (fun l r hr => c_X10_pops l g hI  s0 r hr) ⟨by decide, by decide⟩ (by decide) (by decide) ⟨_, rfl, rfl⟩ rfl rfl (Nat.le_of_ble_eq_true rfl) dX10_readsTest_201 (fun q1 => ?_)
    refine im_goto hF 193 dX10_readsTest_204 (by decide) ?_
    exact hk193 q1
def f_X10_readsTest_L193 : Nat → Sg → Option (Int32 × Sg)
  | 0 => fun  _ => none
  | n + 1 => fun s0 => f_X10_readsTest_B193 (f_X10_readsTest_L193 n) s0
theorem i_X10_readsTest_L193 (X : Cx) (g : GT) (hF : Fx X g RX10 cX10_readsTest 2 4 89) (hM : FM X g (some .boolean)) (hI : GI g) : ∀ (n : Nat) (s0 : Sg), Im X g 2 (Qm X g embI) s0 193 [(0, .ref (g.2.1 10 0))] [] (f_X10_readsTest_L193 n s0) := by
  intro n
  induction n with
  | zero => intros; exact im_none
  | succ n ih => intro s0; exact i_X10_readsTest_B193 X g hF hM hI (f_X10_readsTest_L193 n) ih s0
def f_X10_readsTest (s0 : Sg) : Option (Int32 × Sg) :=
  bdS (up3 s0 10 0 36 (0 : Int32)) fun s1 =>
  bdS (up3 s1 10 0 39 (0 : Int32)) fun s2 =>
  (f_X10_readsTest_L12 (f_X10_readsTest_L193 FU) FU) (1 : Int32) s2
set_option maxRecDepth 4000 in
theorem i_X10_readsTest (X : Cx) (g : GT) (hF : Fx X g RX10 cX10_readsTest 2 4 89) (hM : FM X g (some .boolean)) (hI : GI g) (s0 : Sg) : Im X g 2 (Qm X g embI) s0 0 [(0, .ref (g.2.1 10 0))] [] (f_X10_readsTest s0) := by
  unfold f_X10_readsTest
  refine im_aload_n hF dX10_readsTest_0 0 rfl ?_
  refine im_iconst hF dX10_readsTest_1 (v := (0 : Int32)) (by decide) ?_
  refine im_put hF (0 : Int32) fp_10_205 (by decide) (by decide) rfl rfl rfl dX10_readsTest_2 ?_
  refine im_bdS (fun s1 => ?_)
  refine im_aload_n hF dX10_readsTest_5 0 rfl ?_
  refine im_iconst hF dX10_readsTest_6 (v := (0 : Int32)) (by decide) ?_
  refine im_put hF (0 : Int32) fp_10_218 (by decide) (by decide) rfl rfl rfl dX10_readsTest_7 ?_
  refine im_bdS (fun s2 => ?_)
  refine im_iconst hF dX10_readsTest_10 (v := (1 : Int32)) (by decide) ?_
  refine im_istore_n hF dX10_readsTest_11 (lv' := [(1, .int (1 : Int32)), (0, .ref (g.2.1 10 0))]) rfl (by decide) rfl ?_
  refine im_sub (lv' := [(0, .ref (g.2.1 10 0)), (1, .int (1 : Int32))]) [1, 0] rfl ?_
  exact (i_X10_readsTest_L12 X g hF hM hI (f_X10_readsTest_L193 FU) (i_X10_readsTest_L193 X g hF hM hI FU) FU) (1 : Int32) s2
theorem c_X10_readsTest (l : Launch) (g : GT) (hI : GI g) (s0 : Sg) (r : (Int32 × Sg)) (hr : f_X10_readsTest s0 = some r) : Ct l yX10_readsTest cX10_readsTest 2 (some .boolean) 4 89 g [.ref (g.2.1 10 0)] s0 (embI r) := ct_of (by decide) hI (Nat.le_of_ble_eq_true rfl) (fun X hF hM => i_X10_readsTest X g hF hM hI s0) r hr
def f_X10_readsClause_B135 (a1 : Int32) (a2 : Int32) (a3 : Int32) (s0 : Sg) : Option (Int32 × Sg) :=
  chk (gi (4 : Int32) 5) (
  bdI ((48 : Int32) + (s0 61 0 (4 : Int32).toNatClampNeg)) fun x2 =>
  chk (gi x2 60) (bdS (up3 s0 64 0 x2.toNatClampNeg a1) fun s4 =>
  chk (gi x2 60) (bdS (up3 s4 65 0 x2.toNatClampNeg a2) fun s6 =>
  chk (gi x2 60) (bdS (up3 s6 66 0 x2.toNatClampNeg a3) fun s8 =>
  chk (gi (4 : Int32) 5) (
  chk (gi x2 60) (bdS (up3 s8 67 0 x2.toNatClampNeg (s8 62 0 (4 : Int32).toNatClampNeg)) fun s11 =>
  chk (gi (4 : Int32) 5) (
  chk (gi (4 : Int32) 5) (bdS (up3 s11 61 0 (4 : Int32).toNatClampNeg ((s11 61 0 (4 : Int32).toNatClampNeg) + (1 : Int32))) fun s14 =>
  some ((1 : Int32), s14)))))))))
set_option maxRecDepth 4000 in
theorem i_X10_readsClause_B135 (X : Cx) (g : GT) (hF : Fx X g RX10 cX10_readsClause 5 5 110) (hM : FM X g (some .boolean)) (hI : GI g) (a1 : Int32) (a2 : Int32) (a3 : Int32) (s0 : Sg) : Im X g 5 (Qm X g embI) s0 135 [(0, .ref (g.2.1 10 0)), (1, .int a1), (2, .int a2), (3, .int a3)] [] (f_X10_readsClause_B135 a1 a2 a3 s0) := by
  unfold f_X10_readsClause_B135
  refine im_bipush hF dX10_readsClause_135 (v := (48 : Int32)) (by decide) ?_
  refine im_aload_n hF dX10_readsClause_137 0 rfl ?_
  refine im_get hF (v := .ref (g.2.1 61 0)) fl_10_66 (by decide) (by decide) rfl dX10_readsClause_138 ?_
  refine im_iconst hF dX10_readsClause_141 (v := (4 : Int32)) (by decide) ?_
  refine im_iald hF ar_61 (by decide) dX10_readsClause_142 (fun h1 => ?_)
  refine im_iadd hF dX10_readsClause_143 ?_
  refine im_bdI (fun x2 => ?_)
  refine im_istore hF dX10_readsClause_144 (lv' := [(4, .int x2), (0, .ref (g.2.1 10 0)), (1, .int a1), (2, .int a2), (3, .int a3)]) (by decide) rfl ?_
  refine im_aload_n hF dX10_readsClause_146 1 rfl ?_
  refine im_get hF (v := .ref (g.2.1 64 0)) fl_10_75 (by decide) (by decide) rfl dX10_readsClause_147 ?_
  refine im_iload hF dX10_readsClause_150 0 rfl ?_
  refine im_iload_n hF dX10_readsClause_152 2 rfl ?_
  refine im_iast hF ar_64 (by decide) dX10_readsClause_153 (fun h3 => im_bdS (fun s4 => ?_))
  refine im_aload_n hF dX10_readsClause_154 1 rfl ?_
  refine im_get hF (v := .ref (g.2.1 65 0)) fl_10_78 (by decide) (by decide) rfl dX10_readsClause_155 ?_
  refine im_iload hF dX10_readsClause_158 0 rfl ?_
  refine im_iload_n hF dX10_readsClause_160 3 rfl ?_
  refine im_iast hF ar_65 (by decide) dX10_readsClause_161 (fun h5 => im_bdS (fun s6 => ?_))
  refine im_aload_n hF dX10_readsClause_162 1 rfl ?_
  refine im_get hF (v := .ref (g.2.1 66 0)) fl_10_81 (by decide) (by decide) rfl dX10_readsClause_163 ?_
  refine im_iload hF dX10_readsClause_166 0 rfl ?_
  refine im_iload_n hF dX10_readsClause_168 4 rfl ?_
  refine im_iast hF ar_66 (by decide) dX10_readsClause_169 (fun h7 => im_bdS (fun s8 => ?_))
  refine im_aload_n hF dX10_readsClause_170 1 rfl ?_
  refine im_get hF (v := .ref (g.2.1 67 0)) fl_10_84 (by decide) (by decide) rfl dX10_readsClause_171 ?_
  refine im_iload hF dX10_readsClause_174 0 rfl ?_
  refine im_aload_n hF dX10_readsClause_176 1 rfl ?_
  refine im_get hF (v := .ref (g.2.1 62 0)) fl_10_69 (by decide) (by decide) rfl dX10_readsClause_177 ?_
  refine im_iconst hF dX10_readsClause_180 (v := (4 : Int32)) (by decide) ?_
  refine im_iald hF ar_62 (by decide) dX10_readsClause_181 (fun h9 => ?_)
  refine im_iast hF ar_67 (by decide) dX10_readsClause_182 (fun h10 => im_bdS (fun s11 => ?_))
  refine im_aload_n hF dX10_readsClause_183 1 rfl ?_
  refine im_get hF (v := .ref (g.2.1 61 0)) fl_10_66 (by decide) (by decide) rfl dX10_readsClause_184 ?_
  refine im_iconst hF dX10_readsClause_187 (v := (4 : Int32)) (by decide) ?_
  refine im_aload_n hF dX10_readsClause_188 1 rfl ?_
  refine im_get hF (v := .ref (g.2.1 61 0)) fl_10_66 (by decide) (by decide) rfl dX10_readsClause_189 ?_
  refine im_iconst hF dX10_readsClause_192 (v := (4 : Int32)) (by decide) ?_
  refine im_iald hF ar_61 (by decide) dX10_readsClause_193 (fun h12 => ?_)
  refine im_iconst hF dX10_readsClause_194 (v := (1 : Int32)) (by decide) ?_
  refine im_iadd hF dX10_readsClause_195 ?_
  refine im_iast hF ar_61 (by decide) dX10_readsClause_196 (fun h13 => im_bdS (fun s14 => ?_))
  refine im_iconst hF dX10_readsClause_197 (v := (1 : Int32)) (by decide) ?_
  exact im_zret hF hM (by decide) dX10_readsClause_198
def f_X10_readsClause_B76 (a1 : Int32) (s0 : Sg) : Option (Int32 × Sg) :=
  bdI (s0 10 0 40) fun x1 =>
  chk (gi (4 : Int32) 5) (
  bdI (s0 62 0 (4 : Int32).toNatClampNeg) fun x3 =>
  if a1 = (80 : Int32) then
  chk (gi (4 : Int32) 5) (bdS (up3 s0 63 0 (4 : Int32).toNatClampNeg x1) fun s5 =>
  (f_X10_readsClause_B135) a1 x1 x3 s5)
  else
  Option.bind (f_X10_here s0) fun q6 =>
  if q6.1 = (58 : Int32) then
  bdS (up3 q6.2 10 0 37 ((q6.2 10 0 37) + (1 : Int32))) fun s7 =>
  Option.bind (f_X10_readsTest s7) fun q8 =>
  if q8.1 = 0 then
  some ((0 : Int32), q8.2)
  else
  (f_X10_readsClause_B135) a1 x1 x3 q8.2
  else
  Option.bind (f_X10_wrong (1 : Int32) q6.2) fun q9 =>
  chk (b01 q9.1) (some (q9.1, q9.2)))
set_option maxRecDepth 4000 in
theorem i_X10_readsClause_B76 (X : Cx) (g : GT) (hF : Fx X g RX10 cX10_readsClause 5 5 110) (hM : FM X g (some .boolean)) (hI : GI g) (a1 : Int32) (s0 : Sg) : Im X g 5 (Qm X g embI) s0 76 [(0, .ref (g.2.1 10 0)), (1, .int a1)] [] (f_X10_readsClause_B76 a1 s0) := by
  unfold f_X10_readsClause_B76
  refine im_aload_n hF dX10_readsClause_76 0 rfl ?_
  refine im_get hF (v := .int (s0 10 0 40)) fl_10_195 (by decide) (by decide) rfl dX10_readsClause_77 ?_
  refine im_bdI (fun x1 => ?_)
  refine im_istore_n hF dX10_readsClause_80 (lv' := [(2, .int x1), (0, .ref (g.2.1 10 0)), (1, .int a1)]) rfl (by decide) rfl ?_
  refine im_aload_n hF dX10_readsClause_81 1 rfl ?_
  refine im_get hF (v := .ref (g.2.1 62 0)) fl_10_69 (by decide) (by decide) rfl dX10_readsClause_82 ?_
  refine im_iconst hF dX10_readsClause_85 (v := (4 : Int32)) (by decide) ?_
  refine im_iald hF ar_62 (by decide) dX10_readsClause_86 (fun h2 => ?_)
  refine im_bdI (fun x3 => ?_)
  refine im_istore_n hF dX10_readsClause_87 (lv' := [(3, .int x3), (2, .int x1), (0, .ref (g.2.1 10 0)), (1, .int a1)]) rfl (by decide) rfl ?_
  refine im_iload_n hF dX10_readsClause_88 3 rfl ?_
  refine im_bipush hF dX10_readsClause_89 (v := (80 : Int32)) (by decide) ?_
  refine im_icmp_eq hF 128 dX10_readsClause_91 (by decide) (fun _ => ?_) (fun _ => ?_)
  · refine im_aload_n hF dX10_readsClause_128 2 rfl ?_
    refine im_get hF (v := .ref (g.2.1 63 0)) fl_10_72 (by decide) (by decide) rfl dX10_readsClause_129 ?_
    refine im_iconst hF dX10_readsClause_132 (v := (4 : Int32)) (by decide) ?_
    refine im_iload_n hF dX10_readsClause_133 1 rfl ?_
    refine im_iast hF ar_63 (by decide) dX10_readsClause_134 (fun h4 => im_bdS (fun s5 => ?_))
    refine im_sub (lv' := [(0, .ref (g.2.1 10 0)), (1, .int a1), (2, .int x1), (3, .int x3)]) [2, 3, 1, 0] rfl ?_
    exact (i_X10_readsClause_B135 X g hF hM hI) a1 x1 x3 s5
  · refine im_aload_n hF dX10_readsClause_94 2 rfl ?_
    refine im_callVI hF (As := []) (rest := []) my_X10_here mv_X10_here wl_992 (fun l r hr => c_X10_here l g hI  s0 r hr) ⟨by decide, by decide⟩ (by decide) (by decide) ⟨_, rfl, rfl⟩ rfl rfl (Nat.le_of_ble_eq_true rfl) dX10_readsClause_95 (fun q6 => ?_)
    refine im_bipush hF dX10_readsClause_98 (v := (58 : Int32)) (by decide) ?_
    refine im_icmp_eq hF 109 dX10_readsClause_100 (by decide) (fun _ => ?_) (fun _ => ?_)
    · refine im_aload_n hF dX10_readsClause_109 2 rfl ?_
      refine im_aload_n hF dX10_readsClause_110 2 rfl ?_
      refine im_get hF (v := .int (q6.2 10 0 37)) fl_10_186 (by decide) (by decide) rfl dX10_readsClause_111 ?_
      refine im_iconst hF dX10_readsClause_114 (v := (1 : Int32)) (by decide) ?_
      refine im_iadd hF dX10_readsClause_115 ?_
      refine im_put hF ((q6.2 10 0 37) + (1 : Int32)) fp_10_186 (by decide) (by decide) rfl rfl rfl dX10_readsClause_116 ?_
      refine im_bdS (fun s7 => ?_)
      refine im_aload_n hF dX10_readsClause_119 2 rfl ?_
      refine im_callVI hF (As := []) (rest := []) my_X10_readsTest mv_X10_readsTest wl_1004 (fun l r hr => c_X10_readsTest l g hI  s7 r hr) ⟨by decide, by decide⟩ (by decide) (by decide) ⟨_, rfl, rfl⟩ rfl rfl (Nat.le_of_ble_eq_true rfl) dX10_readsClause_120 (fun q8 => ?_)
      refine im_if_ne hF 135 dX10_readsClause_123 (by decide) (fun _ => ?_) (fun _ => ?_)
      · refine im_iconst hF dX10_readsClause_126 (v := (0 : Int32)) (by decide) ?_
        exact im_zret hF hM (by decide) dX10_readsClause_127
      · refine im_sub (lv' := [(0, .ref (g.2.1 10 0)), (1, .int a1), (2, .int x1), (3, .int x3)]) [2, 3, 1, 0] rfl ?_
        exact (i_X10_readsClause_B135 X g hF hM hI) a1 x1 x3 q8.2
    · refine im_aload_n hF dX10_readsClause_103 2 rfl ?_
      refine im_iconst hF dX10_readsClause_104 (v := (1 : Int32)) (by decide) ?_
      refine im_callVI hF (As := [.int (1 : Int32)]) (rest := []) my_X10_wrong mv_X10_wrong wl_996 (fun l r hr => c_X10_wrong l g hI (1 : Int32) q6.2 r hr) ⟨by decide, by decide⟩ (by decide) (by decide) ⟨_, rfl, rfl⟩ rfl rfl (Nat.le_of_ble_eq_true rfl) dX10_readsClause_105 (fun q9 => ?_)
      exact im_chk (fun h10 => im_zret hF hM (b01_or h10) dX10_readsClause_108)
def f_X10_readsClause_B29 (a1 : Int32) (s0 : Sg) : Option (Int32 × Sg) :=
  chk (gi (4 : Int32) 5) (
  if (s0 61 0 (4 : Int32).toNatClampNeg) = (12 : Int32) then
  Option.bind (f_X10_wrong (2 : Int32) s0) fun q2 =>
  chk (b01 q2.1) (some (q2.1, q2.2))
  else
  bdS (up3 s0 10 0 37 ((s0 10 0 37) + (1 : Int32))) fun s4 =>
  bdS (up3 s4 10 0 40 (0 : Int32)) fun s5 =>
  if a1 = (88 : Int32) then
  (f_X10_readsClause_B76) a1 s5
  else
  Option.bind (f_X10_reads s5) fun q6 =>
  if q6.1 = 0 then
  some ((0 : Int32), q6.2)
  else
  (f_X10_readsClause_B76) a1 q6.2)
set_option maxRecDepth 4000 in
theorem i_X10_readsClause_B29 (X : Cx) (g : GT) (hF : Fx X g RX10 cX10_readsClause 5 5 110) (hM : FM X g (some .boolean)) (hI : GI g) (a1 : Int32) (s0 : Sg) : Im X g 5 (Qm X g embI) s0 29 [(0, .ref (g.2.1 10 0)), (1, .int a1)] [] (f_X10_readsClause_B29 a1 s0) := by
  unfold f_X10_readsClause_B29
  refine im_aload_n hF dX10_readsClause_29 0 rfl ?_
  refine im_get hF (v := .ref (g.2.1 61 0)) fl_10_66 (by decide) (by decide) rfl dX10_readsClause_30 ?_
  refine im_iconst hF dX10_readsClause_33 (v := (4 : Int32)) (by decide) ?_
  refine im_iald hF ar_61 (by decide) dX10_readsClause_34 (fun h1 => ?_)
  refine im_bipush hF dX10_readsClause_35 (v := (12 : Int32)) (by decide) ?_
  refine im_icmp_ne hF 46 dX10_readsClause_37 (by decide) (fun _ => ?_) (fun _ => ?_)
  · refine im_aload_n hF dX10_readsClause_40 0 rfl ?_
    refine im_iconst hF dX10_readsClause_41 (v := (2 : Int32)) (by decide) ?_
    refine im_callVI hF (As := [.int (2 : Int32)]) (rest := []) my_X10_wrong mv_X10_wrong wl_996 (fun l r hr => c_X10_wrong l g hI (2 : Int32) s0 r hr) ⟨by decide, by decide⟩ (by decide) (by decide) ⟨_, rfl, rfl⟩ rfl rfl (Nat.le_of_ble_eq_true rfl) dX10_readsClause_42 (fun q2 => ?_)
    exact im_chk (fun h3 => im_zret hF hM (b01_or h3) dX10_readsClause_45)
  · refine im_aload_n hF dX10_readsClause_46 0 rfl ?_
    refine im_aload_n hF dX10_readsClause_47 0 rfl ?_
    refine im_get hF (v := .int (s0 10 0 37)) fl_10_186 (by decide) (by decide) rfl dX10_readsClause_48 ?_
    refine im_iconst hF dX10_readsClause_51 (v := (1 : Int32)) (by decide) ?_
    refine im_iadd hF dX10_readsClause_52 ?_
    refine im_put hF ((s0 10 0 37) + (1 : Int32)) fp_10_186 (by decide) (by decide) rfl rfl rfl dX10_readsClause_53 ?_
    refine im_bdS (fun s4 => ?_)
    refine im_aload_n hF dX10_readsClause_56 0 rfl ?_
    refine im_iconst hF dX10_readsClause_57 (v := (0 : Int32)) (by decide) ?_
    refine im_put hF (0 : Int32) fp_10_195 (by decide) (by decide) rfl rfl rfl dX10_readsClause_58 ?_
    refine im_bdS (fun s5 => ?_)
    refine im_iload_n hF dX10_readsClause_61 1 rfl ?_
    refine im_bipush hF dX10_readsClause_62 (v := (88 : Int32)) (by decide) ?_
    refine im_icmp_eq hF 76 dX10_readsClause_64 (by decide) (fun _ => ?_) (fun _ => ?_)
    · exact (i_X10_readsClause_B76 X g hF hM hI) a1 s5
    · refine im_aload_n hF dX10_readsClause_67 0 rfl ?_
      refine im_callVI hF (As := []) (rest := []) my_X10_reads mv_X10_reads wl_1000 (fun l r hr => c_X10_reads l g hI  s5 r hr) ⟨by decide, by decide⟩ (by decide) (by decide) ⟨_, rfl, rfl⟩ rfl rfl (Nat.le_of_ble_eq_true rfl) dX10_readsClause_68 (fun q6 => ?_)
      refine im_if_ne hF 76 dX10_readsClause_71 (by decide) (fun _ => ?_) (fun _ => ?_)
      · refine im_iconst hF dX10_readsClause_74 (v := (0 : Int32)) (by decide) ?_
        exact im_zret hF hM (by decide) dX10_readsClause_75
      · exact (i_X10_readsClause_B76 X g hF hM hI) a1 q6.2
def f_X10_readsClause (s0 : Sg) : Option (Int32 × Sg) :=
  Option.bind (f_X10_here s0) fun q1 =>
  if q1.1 = (87 : Int32) then
  (f_X10_readsClause_B29) q1.1 q1.2
  else
  if q1.1 = (88 : Int32) then
  (f_X10_readsClause_B29) q1.1 q1.2
  else
  if q1.1 = (80 : Int32) then
  (f_X10_readsClause_B29) q1.1 q1.2
  else
  Option.bind (f_X10_wrong (1 : Int32) q1.2) fun q2 =>
  chk (b01 q2.1) (some (q2.1, q2.2))
set_option maxRecDepth 4000 in
theorem i_X10_readsClause (X : Cx) (g : GT) (hF : Fx X g RX10 cX10_readsClause 5 5 110) (hM : FM X g (some .boolean)) (hI : GI g) (s0 : Sg) : Im X g 5 (Qm X g embI) s0 0 [(0, .ref (g.2.1 10 0))] [] (f_X10_readsClause s0) := by
  unfold f_X10_readsClause
  refine im_aload_n hF dX10_readsClause_0 0 rfl ?_
  refine im_callVI hF (As := []) (rest := []) my_X10_here mv_X10_here wl_992 (fun l r hr => c_X10_here l g hI  s0 r hr) ⟨by decide, by decide⟩ (by decide) (by decide) ⟨_, rfl, rfl⟩ rfl rfl (Nat.le_of_ble_eq_true rfl) dX10_readsClause_1 (fun q1 => ?_)
  refine im_istore_n hF dX10_readsClause_4 (lv' := [(1, .int q1.1), (0, .ref (g.2.1 10 0))]) rfl (by decide) rfl ?_
  refine im_iload_n hF dX10_readsClause_5 0 rfl ?_
  refine im_bipush hF dX10_readsClause_6 (v := (87 : Int32)) (by decide) ?_
  refine im_icmp_eq hF 29 dX10_readsClause_8 (by decide) (fun _ => ?_) (fun _ => ?_)
  · refine im_sub (lv' := [(0, .ref (g.2.1 10 0)), (1, .int q1.1)]) [1, 0] rfl ?_
    exact (i_X10_readsClause_B29 X g hF hM hI) q1.1 q1.2
  · refine im_iload_n hF dX10_readsClause_11 0 rfl ?_
    refine im_bipush hF dX10_readsClause_12 (v := (88 : Int32)) (by decide) ?_
    refine im_icmp_eq hF 29 dX10_readsClause_14 (by decide) (fun _ => ?_) (fun _ => ?_)
    · refine im_sub (lv' := [(0, .ref (g.2.1 10 0)), (1, .int q1.1)]) [1, 0] rfl ?_
      exact (i_X10_readsClause_B29 X g hF hM hI) q1.1 q1.2
    · refine im_iload_n hF dX10_readsClause_17 0 rfl ?_
      refine im_bipush hF dX10_readsClause_18 (v := (80 : Int32)) (by decide) ?_
      refine im_icmp_eq hF 29 dX10_readsClause_20 (by decide) (fun _ => ?_) (fun _ => ?_)
      · refine im_sub (lv' := [(0, .ref (g.2.1 10 0)), (1, .int q1.1)]) [1, 0] rfl ?_
        exact (i_X10_readsClause_B29 X g hF hM hI) q1.1 q1.2
      · refine im_aload_n hF dX10_readsClause_23 1 rfl ?_
        refine im_iconst hF dX10_readsClause_24 (v := (1 : Int32)) (by decide) ?_
        refine im_callVI hF (As := [.int (1 : Int32)]) (rest := []) my_X10_wrong mv_X10_wrong wl_996 (fun l r hr => c_X10_wrong l g hI (1 : Int32) q1.2 r hr) ⟨by decide, by decide⟩ (by decide) (by decide) ⟨_, rfl, rfl⟩ rfl rfl (Nat.le_of_ble_eq_true rfl) dX10_readsClause_25 (fun q2 => ?_)
        exact im_chk (fun h3 => im_zret hF hM (b01_or h3) dX10_readsClause_28)
theorem c_X10_readsClause (l : Launch) (g : GT) (hI : GI g) (s0 : Sg) (r : (Int32 × Sg)) (hr : f_X10_readsClause s0 = some r) : Ct l yX10_readsClause cX10_readsClause 5 (some .boolean) 5 110 g [.ref (g.2.1 10 0)] s0 (embI r) := ct_of (by decide) hI (Nat.le_of_ble_eq_true rfl) (fun X hF hM => i_X10_readsClause X g hF hM hI s0) r hr
def f_X10_readsText_B88 (k39 : Int32 → Sg → Option (Int32 × Sg)) (a2 : Int32) (s0 : Sg) : Option (Int32 × Sg) :=
  bdS (up3 s0 10 0 37 ((s0 10 0 37) + (1 : Int32))) fun s1 =>
  k39 a2 s1
set_option maxRecDepth 4000 in
theorem i_X10_readsText_B88 (X : Cx) (g : GT) (hF : Fx X g RX10 cX10_readsText 3 6 134) (hM : FM X g (some .boolean)) (hI : GI g) (k39 : Int32 → Sg → Option (Int32 × Sg)) (hk39 : ∀ (a2 : Int32) (s0 : Sg), Im X g 3 (Qm X g embI) s0 39 [(0, .ref (g.2.1 10 0)), (2, .int a2)] [] (k39 a2 s0)) (a2 : Int32) (s0 : Sg) : Im X g 3 (Qm X g embI) s0 88 [(0, .ref (g.2.1 10 0)), (2, .int a2)] [] (f_X10_readsText_B88 k39 a2 s0) := by
  unfold f_X10_readsText_B88
  refine im_aload_n hF dX10_readsText_88 0 rfl ?_
  refine im_aload_n hF dX10_readsText_89 0 rfl ?_
  refine im_get hF (v := .int (s0 10 0 37)) fl_10_186 (by decide) (by decide) rfl dX10_readsText_90 ?_
  refine im_iconst hF dX10_readsText_93 (v := (1 : Int32)) (by decide) ?_
  refine im_iadd hF dX10_readsText_94 ?_
  refine im_put hF ((s0 10 0 37) + (1 : Int32)) fp_10_186 (by decide) (by decide) rfl rfl rfl dX10_readsText_95 ?_
  refine im_bdS (fun s1 => ?_)
  refine im_goto hF 39 dX10_readsText_98 (by decide) ?_
  exact hk39 a2 s1
def f_X10_readsText_B68 (k39 : Int32 → Sg → Option (Int32 × Sg)) (as0 : Int32) (s0 : Sg) : Option (Int32 × Sg) :=
  if as0 = 0 then
  (f_X10_readsText_B88 k39) as0 s0
  else
  Option.bind (f_X10_here s0) fun q1 =>
  if q1.1 = (59 : Int32) then
  (f_X10_readsText_B88 k39) as0 q1.2
  else
  Option.bind (f_X10_wrong (1 : Int32) q1.2) fun q2 =>
  chk (b01 q2.1) (some (q2.1, q2.2))
set_option maxRecDepth 4000 in
theorem i_X10_readsText_B68 (X : Cx) (g : GT) (hF : Fx X g RX10 cX10_readsText 3 6 134) (hM : FM X g (some .boolean)) (hI : GI g) (k39 : Int32 → Sg → Option (Int32 × Sg)) (hk39 : ∀ (a2 : Int32) (s0 : Sg), Im X g 3 (Qm X g embI) s0 39 [(0, .ref (g.2.1 10 0)), (2, .int a2)] [] (k39 a2 s0)) (as0 : Int32) (s0 : Sg) : Im X g 3 (Qm X g embI) s0 68 [(0, .ref (g.2.1 10 0))] [.int as0] (f_X10_readsText_B68 k39 as0 s0) := by
  unfold f_X10_readsText_B68
  refine im_istore_n hF dX10_readsText_68 (lv' := [(2, .int as0), (0, .ref (g.2.1 10 0))]) rfl (by decide) rfl ?_
  refine im_iload_n hF dX10_readsText_69 0 rfl ?_
  refine im_if_eq hF 88 dX10_readsText_70 (by decide) (fun _ => ?_) (fun _ => ?_)
  · refine im_sub (lv' := [(0, .ref (g.2.1 10 0)), (2, .int as0)]) [1, 0] rfl ?_
    exact (i_X10_readsText_B88 X g hF hM hI k39 hk39) as0 s0
  · refine im_aload_n hF dX10_readsText_73 1 rfl ?_
    refine im_callVI hF (As := []) (rest := []) my_X10_here mv_X10_here wl_992 (fun l r hr => c_X10_here l g hI  s0 r hr) ⟨by decide, by decide⟩ (by decide) (by decide) ⟨_, rfl, rfl⟩ rfl rfl (Nat.le_of_ble_eq_true rfl) dX10_readsText_74 (fun q1 => ?_)
    refine im_bipush hF dX10_readsText_77 (v := (59 : Int32)) (by decide) ?_
    refine im_icmp_eq hF 88 dX10_readsText_79 (by decide) (fun _ => ?_) (fun _ => ?_)
    · refine im_sub (lv' := [(0, .ref (g.2.1 10 0)), (2, .int as0)]) [1, 0] rfl ?_
      exact (i_X10_readsText_B88 X g hF hM hI k39 hk39) as0 q1.2
    · refine im_aload_n hF dX10_readsText_82 1 rfl ?_
      refine im_iconst hF dX10_readsText_83 (v := (1 : Int32)) (by decide) ?_
      refine im_callVI hF (As := [.int (1 : Int32)]) (rest := []) my_X10_wrong mv_X10_wrong wl_996 (fun l r hr => c_X10_wrong l g hI (1 : Int32) q1.2 r hr) ⟨by decide, by decide⟩ (by decide) (by decide) ⟨_, rfl, rfl⟩ rfl rfl (Nat.le_of_ble_eq_true rfl) dX10_readsText_84 (fun q2 => ?_)
      exact im_chk (fun h3 => im_zret hF hM (b01_or h3) dX10_readsText_87)
def f_X10_readsText_B39 (k39 : Int32 → Sg → Option (Int32 × Sg)) (a2 : Int32) (s0 : Sg) : Option (Int32 × Sg) :=
  if a2 = 0 then
  some ((1 : Int32), s0)
  else
  Option.bind (f_X10_readsClause s0) fun q1 =>
  if q1.1 = 0 then
  some ((0 : Int32), q1.2)
  else
  if (q1.2 10 0 38) ≤ (q1.2 10 0 37) then
  (f_X10_readsText_B68 k39) (0 : Int32) q1.2
  else
  (f_X10_readsText_B68 k39) (1 : Int32) q1.2
set_option maxRecDepth 4000 in
theorem i_X10_readsText_B39 (X : Cx) (g : GT) (hF : Fx X g RX10 cX10_readsText 3 6 134) (hM : FM X g (some .boolean)) (hI : GI g) (k39 : Int32 → Sg → Option (Int32 × Sg)) (hk39 : ∀ (a2 : Int32) (s0 : Sg), Im X g 3 (Qm X g embI) s0 39 [(0, .ref (g.2.1 10 0)), (2, .int a2)] [] (k39 a2 s0)) (a2 : Int32) (s0 : Sg) : Im X g 3 (Qm X g embI) s0 39 [(0, .ref (g.2.1 10 0)), (2, .int a2)] [] (f_X10_readsText_B39 k39 a2 s0) := by
  unfold f_X10_readsText_B39
  refine im_iload_n hF dX10_readsText_39 1 rfl ?_
  refine im_if_eq hF 101 dX10_readsText_40 (by decide) (fun _ => ?_) (fun _ => ?_)
  · refine im_iconst hF dX10_readsText_101 (v := (1 : Int32)) (by decide) ?_
    exact im_zret hF hM (by decide) dX10_readsText_102
  · refine im_aload_n hF dX10_readsText_43 0 rfl ?_
    refine im_callVI hF (As := []) (rest := []) my_X10_readsClause mv_X10_readsClause wl_988 (fun l r hr => c_X10_readsClause l g hI  s0 r hr) ⟨by decide, by decide⟩ (by decide) (by decide) ⟨_, rfl, rfl⟩ rfl rfl (Nat.le_of_ble_eq_true rfl) dX10_readsText_44 (fun q1 => ?_)
    refine im_if_ne hF 52 dX10_readsText_47 (by decide) (fun _ => ?_) (fun _ => ?_)
    · refine im_iconst hF dX10_readsText_50 (v := (0 : Int32)) (by decide) ?_
      exact im_zret hF hM (by decide) dX10_readsText_51
    · refine im_aload_n hF dX10_readsText_52 0 rfl ?_
      refine im_get hF (v := .int (q1.2 10 0 37)) fl_10_186 (by decide) (by decide) rfl dX10_readsText_53 ?_
      refine im_aload_n hF dX10_readsText_56 0 rfl ?_
      refine im_get hF (v := .int (q1.2 10 0 38)) fl_10_189 (by decide) (by decide) rfl dX10_readsText_57 ?_
      refine im_icmp_ge hF 67 dX10_readsText_60 (by decide) (fun _ => ?_) (fun _ => ?_)
      · refine im_iconst hF dX10_readsText_67 (v := (0 : Int32)) (by decide) ?_
        refine im_sub (lv' := [(0, .ref (g.2.1 10 0))]) [0] rfl ?_
        exact (i_X10_readsText_B68 X g hF hM hI k39 hk39) (0 : Int32) q1.2
      · refine im_iconst hF dX10_readsText_63 (v := (1 : Int32)) (by decide) ?_
        refine im_goto hF 68 dX10_readsText_64 (by decide) ?_
        refine im_sub (lv' := [(0, .ref (g.2.1 10 0))]) [0] rfl ?_
        exact (i_X10_readsText_B68 X g hF hM hI k39 hk39) (1 : Int32) q1.2
def f_X10_readsText_L39 : Nat → Int32 → Sg → Option (Int32 × Sg)
  | 0 => fun _ _ => none
  | n + 1 => fun a2 s0 => f_X10_readsText_B39 (f_X10_readsText_L39 n) a2 s0
theorem i_X10_readsText_L39 (X : Cx) (g : GT) (hF : Fx X g RX10 cX10_readsText 3 6 134) (hM : FM X g (some .boolean)) (hI : GI g) : ∀ (n : Nat) (a2 : Int32) (s0 : Sg), Im X g 3 (Qm X g embI) s0 39 [(0, .ref (g.2.1 10 0)), (2, .int a2)] [] (f_X10_readsText_L39 n a2 s0) := by
  intro n
  induction n with
  | zero => intros; exact im_none
  | succ n ih => intro a2 s0; exact i_X10_readsText_B39 X g hF hM hI (f_X10_readsText_L39 n) ih a2 s0
def f_X10_readsText (a1 : Int32) (s0 : Sg) : Option (Int32 × Sg) :=
  bdS (up3 s0 10 0 37 (0 : Int32)) fun s1 =>
  bdS (up3 s1 10 0 38 a1) fun s2 =>
  chk (gi (4 : Int32) 5) (bdS (up3 s2 61 0 (4 : Int32).toNatClampNeg (0 : Int32)) fun s4 =>
  chk (gi (4 : Int32) 5) (bdS (up3 s4 62 0 (4 : Int32).toNatClampNeg (0 : Int32)) fun s6 =>
  chk (gi (4 : Int32) 5) (bdS (up3 s6 63 0 (4 : Int32).toNatClampNeg (0 : Int32)) fun s8 =>
  if a1 = 0 then
  some ((1 : Int32), s8)
  else
  (f_X10_readsText_L39 FU) (1 : Int32) s8)))
set_option maxRecDepth 4000 in
theorem i_X10_readsText (X : Cx) (g : GT) (hF : Fx X g RX10 cX10_readsText 3 6 134) (hM : FM X g (some .boolean)) (hI : GI g) (a1 : Int32) (s0 : Sg) : Im X g 3 (Qm X g embI) s0 0 [(0, .ref (g.2.1 10 0)), (1, .int a1)] [] (f_X10_readsText a1 s0) := by
  unfold f_X10_readsText
  refine im_aload_n hF dX10_readsText_0 0 rfl ?_
  refine im_iconst hF dX10_readsText_1 (v := (0 : Int32)) (by decide) ?_
  refine im_put hF (0 : Int32) fp_10_186 (by decide) (by decide) rfl rfl rfl dX10_readsText_2 ?_
  refine im_bdS (fun s1 => ?_)
  refine im_aload_n hF dX10_readsText_5 0 rfl ?_
  refine im_iload_n hF dX10_readsText_6 1 rfl ?_
  refine im_put hF a1 fp_10_189 (by decide) (by decide) rfl rfl rfl dX10_readsText_7 ?_
  refine im_bdS (fun s2 => ?_)
  refine im_aload_n hF dX10_readsText_10 0 rfl ?_
  refine im_get hF (v := .ref (g.2.1 61 0)) fl_10_66 (by decide) (by decide) rfl dX10_readsText_11 ?_
  refine im_iconst hF dX10_readsText_14 (v := (4 : Int32)) (by decide) ?_
  refine im_iconst hF dX10_readsText_15 (v := (0 : Int32)) (by decide) ?_
  refine im_iast hF ar_61 (by decide) dX10_readsText_16 (fun h3 => im_bdS (fun s4 => ?_))
  refine im_aload_n hF dX10_readsText_17 0 rfl ?_
  refine im_get hF (v := .ref (g.2.1 62 0)) fl_10_69 (by decide) (by decide) rfl dX10_readsText_18 ?_
  refine im_iconst hF dX10_readsText_21 (v := (4 : Int32)) (by decide) ?_
  refine im_iconst hF dX10_readsText_22 (v := (0 : Int32)) (by decide) ?_
  refine im_iast hF ar_62 (by decide) dX10_readsText_23 (fun h5 => im_bdS (fun s6 => ?_))
  refine im_aload_n hF dX10_readsText_24 0 rfl ?_
  refine im_get hF (v := .ref (g.2.1 63 0)) fl_10_72 (by decide) (by decide) rfl dX10_readsText_25 ?_
  refine im_iconst hF dX10_readsText_28 (v := (4 : Int32)) (by decide) ?_
  refine im_iconst hF dX10_readsText_29 (v := (0 : Int32)) (by decide) ?_
  refine im_iast hF ar_63 (by decide) dX10_readsText_30 (fun h7 => im_bdS (fun s8 => ?_))
  refine im_iload_n hF dX10_readsText_31 1 rfl ?_
  refine im_if_ne hF 37 dX10_readsText_32 (by decide) (fun _ => ?_) (fun _ => ?_)
  · refine im_iconst hF dX10_readsText_35 (v := (1 : Int32)) (by decide) ?_
    exact im_zret hF hM (by decide) dX10_readsText_36
  · refine im_iconst hF dX10_readsText_37 (v := (1 : Int32)) (by decide) ?_
    refine im_istore_n hF dX10_readsText_38 (lv' := [(2, .int (1 : Int32)), (0, .ref (g.2.1 10 0)), (1, .int a1)]) rfl (by decide) rfl ?_
    refine im_sub (lv' := [(0, .ref (g.2.1 10 0)), (2, .int (1 : Int32))]) [1, 0] rfl ?_
    exact (i_X10_readsText_L39 X g hF hM hI FU) (1 : Int32) s8
theorem c_X10_readsText (l : Launch) (g : GT) (hI : GI g) (a1 : Int32) (s0 : Sg) (r : (Int32 × Sg)) (hr : f_X10_readsText a1 s0 = some r) : Ct l yX10_readsText cX10_readsText 3 (some .boolean) 6 134 g [.ref (g.2.1 10 0), .int a1] s0 (embI r) := ct_of (by decide) hI (Nat.le_of_ble_eq_true rfl) (fun X hF hM => i_X10_readsText X g hF hM hI a1 s0) r hr
def f_X10_contract_B90 (k90 : Int32 → Int32 → Sg → Option (Int32 × Sg)) (k194 : Int32 → Int32 → Sg → Option (Int32 × Sg)) (a1 : Int32) (a4 : Int32) (s0 : Sg) : Option (Int32 × Sg) :=
  if (12 : Int32) ≤ a4 then
  k194 a1 (0 : Int32) s0
  else
  chk (gi ((48 : Int32) + a4) 60) (
  chk (gi (((12 : Int32) * a1) + a4) 60) (bdS (up3 s0 64 0 (((12 : Int32) * a1) + a4).toNatClampNeg (s0 64 0 ((48 : Int32) + a4).toNatClampNeg)) fun s3 =>
  chk (gi ((48 : Int32) + a4) 60) (
  chk (gi (((12 : Int32) * a1) + a4) 60) (bdS (up3 s3 65 0 (((12 : Int32) * a1) + a4).toNatClampNeg (s3 65 0 ((48 : Int32) + a4).toNatClampNeg)) fun s6 =>
  chk (gi ((48 : Int32) + a4) 60) (
  chk (gi (((12 : Int32) * a1) + a4) 60) (bdS (up3 s6 66 0 (((12 : Int32) * a1) + a4).toNatClampNeg (s6 66 0 ((48 : Int32) + a4).toNatClampNeg)) fun s9 =>
  chk (gi ((48 : Int32) + a4) 60) (
  chk (gi (((12 : Int32) * a1) + a4) 60) (bdS (up3 s9 67 0 (((12 : Int32) * a1) + a4).toNatClampNeg (s9 67 0 ((48 : Int32) + a4).toNatClampNeg)) fun s12 =>
  k90 a1 (a4 + (1 : Int32)) s12))))))))
set_option maxRecDepth 4000 in
theorem i_X10_contract_B90 (X : Cx) (g : GT) (hF : Fx X g RX10 cX10_contract 5 7 156) (hM : FM X g (some .int)) (hI : GI g) (k90 : Int32 → Int32 → Sg → Option (Int32 × Sg)) (hk90 : ∀ (a1 : Int32) (a4 : Int32) (s0 : Sg), Im X g 5 (Qm X g embI) s0 90 [(0, .ref (g.2.1 10 0)), (1, .int a1), (4, .int a4)] [] (k90 a1 a4 s0)) (k194 : Int32 → Int32 → Sg → Option (Int32 × Sg)) (hk194 : ∀ (a1 : Int32) (a4 : Int32) (s0 : Sg), Im X g 5 (Qm X g embI) s0 194 [(0, .ref (g.2.1 10 0)), (1, .int a1), (4, .int a4)] [] (k194 a1 a4 s0)) (a1 : Int32) (a4 : Int32) (s0 : Sg) : Im X g 5 (Qm X g embI) s0 90 [(0, .ref (g.2.1 10 0)), (1, .int a1), (4, .int a4)] [] (f_X10_contract_B90 k90 k194 a1 a4 s0) := by
  unfold f_X10_contract_B90
  refine im_iload hF dX10_contract_90 2 rfl ?_
  refine im_bipush hF dX10_contract_92 (v := (12 : Int32)) (by decide) ?_
  refine im_icmp_ge hF 191 dX10_contract_94 (by decide) (fun _ => ?_) (fun _ => ?_)
  · refine im_iconst hF dX10_contract_191 (v := (0 : Int32)) (by decide) ?_
    refine im_istore hF dX10_contract_192 (lv' := [(4, .int (0 : Int32)), (0, .ref (g.2.1 10 0)), (1, .int a1)]) (by decide) rfl ?_
    refine im_sub (lv' := [(0, .ref (g.2.1 10 0)), (1, .int a1), (4, .int (0 : Int32))]) [1, 2, 0] rfl ?_
    exact hk194 a1 (0 : Int32) s0
  · refine im_aload_n hF dX10_contract_97 0 rfl ?_
    refine im_get hF (v := .ref (g.2.1 64 0)) fl_10_75 (by decide) (by decide) rfl dX10_contract_98 ?_
    refine im_bipush hF dX10_contract_101 (v := (12 : Int32)) (by decide) ?_
    refine im_iload_n hF dX10_contract_103 1 rfl ?_
    refine im_imul hF dX10_contract_104 ?_
    refine im_iload hF dX10_contract_105 2 rfl ?_
    refine im_iadd hF dX10_contract_107 ?_
    refine im_aload_n hF dX10_contract_108 0 rfl ?_
    refine im_get hF (v := .ref (g.2.1 64 0)) fl_10_75 (by decide) (by decide) rfl dX10_contract_109 ?_
    refine im_bipush hF dX10_contract_112 (v := (48 : Int32)) (by decide) ?_
    refine im_iload hF dX10_contract_114 2 rfl ?_
    refine im_iadd hF dX10_contract_116 ?_
    refine im_iald hF ar_64 (by decide) dX10_contract_117 (fun h1 => ?_)
    refine im_iast hF ar_64 (by decide) dX10_contract_118 (fun h2 => im_bdS (fun s3 => ?_))
    refine im_aload_n hF dX10_contract_119 0 rfl ?_
    refine im_get hF (v := .ref (g.2.1 65 0)) fl_10_78 (by decide) (by decide) rfl dX10_contract_120 ?_
    refine im_bipush hF dX10_contract_123 (v := (12 : Int32)) (by decide) ?_
    refine im_iload_n hF dX10_contract_125 1 rfl ?_
    refine im_imul hF dX10_contract_126 ?_
    refine im_iload hF dX10_contract_127 2 rfl ?_
    refine im_iadd hF dX10_contract_129 ?_
    refine im_aload_n hF dX10_contract_130 0 rfl ?_
    refine im_get hF (v := .ref (g.2.1 65 0)) fl_10_78 (by decide) (by decide) rfl dX10_contract_131 ?_
    refine im_bipush hF dX10_contract_134 (v := (48 : Int32)) (by decide) ?_
    refine im_iload hF dX10_contract_136 2 rfl ?_
    refine im_iadd hF dX10_contract_138 ?_
    refine im_iald hF ar_65 (by decide) dX10_contract_139 (fun h4 => ?_)
    refine im_iast hF ar_65 (by decide) dX10_contract_140 (fun h5 => im_bdS (fun s6 => ?_))
    refine im_aload_n hF dX10_contract_141 0 rfl ?_
    refine im_get hF (v := .ref (g.2.1 66 0)) fl_10_81 (by decide) (by decide) rfl dX10_contract_142 ?_
    refine im_bipush hF dX10_contract_145 (v := (12 : Int32)) (by decide) ?_
    refine im_iload_n hF dX10_contract_147 1 rfl ?_
    refine im_imul hF dX10_contract_148 ?_
    refine im_iload hF dX10_contract_149 2 rfl ?_
    refine im_iadd hF dX10_contract_151 ?_
    refine im_aload_n hF dX10_contract_152 0 rfl ?_
    refine im_get hF (v := .ref (g.2.1 66 0)) fl_10_81 (by decide) (by decide) rfl dX10_contract_153 ?_
    refine im_bipush hF dX10_contract_156 (v := (48 : Int32)) (by decide) ?_
    refine im_iload hF dX10_contract_158 2 rfl ?_
    refine im_iadd hF dX10_contract_160 ?_
    refine im_iald hF ar_66 (by decide) dX10_contract_161 (fun h7 => ?_)
    refine im_iast hF ar_66 (by decide) dX10_contract_162 (fun h8 => im_bdS (fun s9 => ?_))
    refine im_aload_n hF dX10_contract_163 0 rfl ?_
    refine im_get hF (v := .ref (g.2.1 67 0)) fl_10_84 (by decide) (by decide) rfl dX10_contract_164 ?_
    refine im_bipush hF dX10_contract_167 (v := (12 : Int32)) (by decide) ?_
    refine im_iload_n hF dX10_contract_169 1 rfl ?_
    refine im_imul hF dX10_contract_170 ?_
    refine im_iload hF dX10_contract_171 2 rfl ?_
    refine im_iadd hF dX10_contract_173 ?_
    refine im_aload_n hF dX10_contract_174 0 rfl ?_
    refine im_get hF (v := .ref (g.2.1 67 0)) fl_10_84 (by decide) (by decide) rfl dX10_contract_175 ?_
    refine im_bipush hF dX10_contract_178 (v := (48 : Int32)) (by decide) ?_
    refine im_iload hF dX10_contract_180 2 rfl ?_
    refine im_iadd hF dX10_contract_182 ?_
    refine im_iald hF ar_67 (by decide) dX10_contract_183 (fun h10 => ?_)
    refine im_iast hF ar_67 (by decide) dX10_contract_184 (fun h11 => im_bdS (fun s12 => ?_))
    refine im_iinc hF dX10_contract_185 (v := (a4 + (1 : Int32))) (lv' := [(4, .int (a4 + (1 : Int32))), (0, .ref (g.2.1 10 0)), (1, .int a1)]) 2 rfl rfl (by decide) rfl ?_
    refine im_goto hF 90 dX10_contract_188 (by decide) ?_
    refine im_sub (lv' := [(0, .ref (g.2.1 10 0)), (1, .int a1), (4, .int (a4 + (1 : Int32)))]) [1, 2, 0] rfl ?_
    exact hk90 a1 (a4 + (1 : Int32)) s12
def f_X10_contract_L90 (k194 : Int32 → Int32 → Sg → Option (Int32 × Sg)) : Nat → Int32 → Int32 → Sg → Option (Int32 × Sg)
  | 0 => fun _ _ _ => none
  | n + 1 => fun a1 a4 s0 => f_X10_contract_B90 (f_X10_contract_L90 k194 n) k194 a1 a4 s0
theorem i_X10_contract_L90 (X : Cx) (g : GT) (hF : Fx X g RX10 cX10_contract 5 7 156) (hM : FM X g (some .int)) (hI : GI g) (k194 : Int32 → Int32 → Sg → Option (Int32 × Sg)) (hk194 : ∀ (a1 : Int32) (a4 : Int32) (s0 : Sg), Im X g 5 (Qm X g embI) s0 194 [(0, .ref (g.2.1 10 0)), (1, .int a1), (4, .int a4)] [] (k194 a1 a4 s0)) : ∀ (n : Nat) (a1 : Int32) (a4 : Int32) (s0 : Sg), Im X g 5 (Qm X g embI) s0 90 [(0, .ref (g.2.1 10 0)), (1, .int a1), (4, .int a4)] [] (f_X10_contract_L90 k194 n a1 a4 s0) := by
  intro n
  induction n with
  | zero => intros; exact im_none
  | succ n ih => intro a1 a4 s0; exact i_X10_contract_B90 X g hF hM hI (f_X10_contract_L90 k194 n) ih k194 hk194 a1 a4 s0
def f_X10_contract_B194 (k194 : Int32 → Int32 → Sg → Option (Int32 × Sg)) (a1 : Int32) (a4 : Int32) (s0 : Sg) : Option (Int32 × Sg) :=
  if (200 : Int32) ≤ a4 then
  bdS (up3 s0 10 0 19 (0 : Int32)) fun s1 =>
  chk (gi a1 5) (
  some ((s1 61 0 a1.toNatClampNeg), s1))
  else
  chk (gi ((800 : Int32) + a4) 1000) (
  chk (gi (((200 : Int32) * a1) + a4) 1000) (bdS (up3 s0 68 0 (((200 : Int32) * a1) + a4).toNatClampNeg (s0 68 0 ((800 : Int32) + a4).toNatClampNeg)) fun s5 =>
  chk (gi ((800 : Int32) + a4) 1000) (
  chk (gi (((200 : Int32) * a1) + a4) 1000) (bdS (up3 s5 69 0 (((200 : Int32) * a1) + a4).toNatClampNeg (s5 69 0 ((800 : Int32) + a4).toNatClampNeg)) fun s8 =>
  chk (gi ((800 : Int32) + a4) 1000) (
  chk (gi (((200 : Int32) * a1) + a4) 1000) (bdS (up3 s8 70 0 (((200 : Int32) * a1) + a4).toNatClampNeg (s8 70 0 ((800 : Int32) + a4).toNatClampNeg)) fun s11 =>
  chk (gi ((800 : Int32) + a4) 1000) (
  chk (gi (((200 : Int32) * a1) + a4) 1000) (bdS (up3 s11 71 0 (((200 : Int32) * a1) + a4).toNatClampNeg (s11 71 0 ((800 : Int32) + a4).toNatClampNeg)) fun s14 =>
  k194 a1 (a4 + (1 : Int32)) s14))))))))
set_option maxRecDepth 4000 in
theorem i_X10_contract_B194 (X : Cx) (g : GT) (hF : Fx X g RX10 cX10_contract 5 7 156) (hM : FM X g (some .int)) (hI : GI g) (k194 : Int32 → Int32 → Sg → Option (Int32 × Sg)) (hk194 : ∀ (a1 : Int32) (a4 : Int32) (s0 : Sg), Im X g 5 (Qm X g embI) s0 194 [(0, .ref (g.2.1 10 0)), (1, .int a1), (4, .int a4)] [] (k194 a1 a4 s0)) (a1 : Int32) (a4 : Int32) (s0 : Sg) : Im X g 5 (Qm X g embI) s0 194 [(0, .ref (g.2.1 10 0)), (1, .int a1), (4, .int a4)] [] (f_X10_contract_B194 k194 a1 a4 s0) := by
  unfold f_X10_contract_B194
  refine im_iload hF dX10_contract_194 2 rfl ?_
  refine im_sipush hF dX10_contract_196 (v := (200 : Int32)) (by decide) ?_
  refine im_icmp_ge hF 304 dX10_contract_199 (by decide) (fun _ => ?_) (fun _ => ?_)
  · refine im_aload_n hF dX10_contract_304 0 rfl ?_
    refine im_iconst hF dX10_contract_305 (v := (0 : Int32)) (by decide) ?_
    refine im_put hF (0 : Int32) fp_10_165 (by decide) (by decide) rfl rfl rfl dX10_contract_306 ?_
    refine im_bdS (fun s1 => ?_)
    refine im_aload_n hF dX10_contract_309 0 rfl ?_
    refine im_get hF (v := .ref (g.2.1 61 0)) fl_10_66 (by decide) (by decide) rfl dX10_contract_310 ?_
    refine im_iload_n hF dX10_contract_313 1 rfl ?_
    refine im_iald hF ar_61 (by decide) dX10_contract_314 (fun h2 => ?_)
    exact im_iret hF hM dX10_contract_315
  · refine im_aload_n hF dX10_contract_202 0 rfl ?_
    refine im_get hF (v := .ref (g.2.1 68 0)) fl_10_87 (by decide) (by decide) rfl dX10_contract_203 ?_
    refine im_sipush hF dX10_contract_206 (v := (200 : Int32)) (by decide) ?_
    refine im_iload_n hF dX10_contract_209 1 rfl ?_
    refine im_imul hF dX10_contract_210 ?_
    refine im_iload hF dX10_contract_211 2 rfl ?_
    refine im_iadd hF dX10_contract_213 ?_
    refine im_aload_n hF dX10_contract_214 0 rfl ?_
    refine im_get hF (v := .ref (g.2.1 68 0)) fl_10_87 (by decide) (by decide) rfl dX10_contract_215 ?_
    refine im_sipush hF dX10_contract_218 (v := (800 : Int32)) (by decide) ?_
    refine im_iload hF dX10_contract_221 2 rfl ?_
    refine im_iadd hF dX10_contract_223 ?_
    refine im_iald hF ar_68 (by decide) dX10_contract_224 (fun h3 => ?_)
    refine im_iast hF ar_68 (by decide) dX10_contract_225 (fun h4 => im_bdS (fun s5 => ?_))
    refine im_aload_n hF dX10_contract_226 0 rfl ?_
    refine im_get hF (v := .ref (g.2.1 69 0)) fl_10_90 (by decide) (by decide) rfl dX10_contract_227 ?_
    refine im_sipush hF dX10_contract_230 (v := (200 : Int32)) (by decide) ?_
    refine im_iload_n hF dX10_contract_233 1 rfl ?_
    refine im_imul hF dX10_contract_234 ?_
    refine im_iload hF dX10_contract_235 2 rfl ?_
    refine im_iadd hF dX10_contract_237 ?_
    refine im_aload_n hF dX10_contract_238 0 rfl ?_
    refine im_get hF (v := .ref (g.2.1 69 0)) fl_10_90 (by decide) (by decide) rfl dX10_contract_239 ?_
    refine im_sipush hF dX10_contract_242 (v := (800 : Int32)) (by decide) ?_
    refine im_iload hF dX10_contract_245 2 rfl ?_
    refine im_iadd hF dX10_contract_247 ?_
    refine im_iald hF ar_69 (by decide) dX10_contract_248 (fun h6 => ?_)
    refine im_iast hF ar_69 (by decide) dX10_contract_249 (fun h7 => im_bdS (fun s8 => ?_))
    refine im_aload_n hF dX10_contract_250 0 rfl ?_
    refine im_get hF (v := .ref (g.2.1 70 0)) fl_10_93 (by decide) (by decide) rfl dX10_contract_251 ?_
    refine im_sipush hF dX10_contract_254 (v := (200 : Int32)) (by decide) ?_
    refine im_iload_n hF dX10_contract_257 1 rfl ?_
    refine im_imul hF dX10_contract_258 ?_
    refine im_iload hF dX10_contract_259 2 rfl ?_
    refine im_iadd hF dX10_contract_261 ?_
    refine im_aload_n hF dX10_contract_262 0 rfl ?_
    refine im_get hF (v := .ref (g.2.1 70 0)) fl_10_93 (by decide) (by decide) rfl dX10_contract_263 ?_
    refine im_sipush hF dX10_contract_266 (v := (800 : Int32)) (by decide) ?_
    refine im_iload hF dX10_contract_269 2 rfl ?_
    refine im_iadd hF dX10_contract_271 ?_
    refine im_iald hF ar_70 (by decide) dX10_contract_272 (fun h9 => ?_)
    refine im_iast hF ar_70 (by decide) dX10_contract_273 (fun h10 => im_bdS (fun s11 => ?_))
    refine im_aload_n hF dX10_contract_274 0 rfl ?_
    refine im_get hF (v := .ref (g.2.1 71 0)) fl_10_96 (by decide) (by decide) rfl dX10_contract_275 ?_
    refine im_sipush hF dX10_contract_278 (v := (200 : Int32)) (by decide) ?_
    refine im_iload_n hF dX10_contract_281 1 rfl ?_
    refine im_imul hF dX10_contract_282 ?_
    refine im_iload hF dX10_contract_283 2 rfl ?_
    refine im_iadd hF dX10_contract_285 ?_
    refine im_aload_n hF dX10_contract_286 0 rfl ?_
    refine im_get hF (v := .ref (g.2.1 71 0)) fl_10_96 (by decide) (by decide) rfl dX10_contract_287 ?_
    refine im_sipush hF dX10_contract_290 (v := (800 : Int32)) (by decide) ?_
    refine im_iload hF dX10_contract_293 2 rfl ?_
    refine im_iadd hF dX10_contract_295 ?_
    refine im_iald hF ar_71 (by decide) dX10_contract_296 (fun h12 => ?_)
    refine im_iast hF ar_71 (by decide) dX10_contract_297 (fun h13 => im_bdS (fun s14 => ?_))
    refine im_iinc hF dX10_contract_298 (v := (a4 + (1 : Int32))) (lv' := [(4, .int (a4 + (1 : Int32))), (0, .ref (g.2.1 10 0)), (1, .int a1)]) 2 rfl rfl (by decide) rfl ?_
    refine im_goto hF 194 dX10_contract_301 (by decide) ?_
    refine im_sub (lv' := [(0, .ref (g.2.1 10 0)), (1, .int a1), (4, .int (a4 + (1 : Int32)))]) [1, 2, 0] rfl ?_
    exact hk194 a1 (a4 + (1 : Int32)) s14
def f_X10_contract_L194 : Nat → Int32 → Int32 → Sg → Option (Int32 × Sg)
  | 0 => fun _ _ _ => none
  | n + 1 => fun a1 a4 s0 => f_X10_contract_B194 (f_X10_contract_L194 n) a1 a4 s0
theorem i_X10_contract_L194 (X : Cx) (g : GT) (hF : Fx X g RX10 cX10_contract 5 7 156) (hM : FM X g (some .int)) (hI : GI g) : ∀ (n : Nat) (a1 : Int32) (a4 : Int32) (s0 : Sg), Im X g 5 (Qm X g embI) s0 194 [(0, .ref (g.2.1 10 0)), (1, .int a1), (4, .int a4)] [] (f_X10_contract_L194 n a1 a4 s0) := by
  intro n
  induction n with
  | zero => intros; exact im_none
  | succ n ih => intro a1 a4 s0; exact i_X10_contract_B194 X g hF hM hI (f_X10_contract_L194 n) ih a1 a4 s0
def f_X10_contract (a1 : Int32) (a2 : Int32) (s0 : Sg) : Option (Int32 × Sg) :=
  if a1 < 0 then
  some ((-1 : Int32), s0)
  else
  if (4 : Int32) ≤ a1 then
  some ((-1 : Int32), s0)
  else
  if a2 < 0 then
  some ((-1 : Int32), s0)
  else
  if a2 ≤ (s0 10 0 21) then
  bdS (up3 s0 10 0 22 (0 : Int32)) fun s1 =>
  bdS (up3 s1 10 0 23 (-1 : Int32)) fun s2 =>
  Option.bind (f_X10_readsText a2 s2) fun q3 =>
  bdS (up3 q3.2 10 0 21 (0 : Int32)) fun s4 =>
  if q3.1 = 0 then
  some ((-2 : Int32), s4)
  else
  chk (gi (4 : Int32) 5) (
  chk (gi a1 5) (bdS (up3 s4 61 0 a1.toNatClampNeg (s4 61 0 (4 : Int32).toNatClampNeg)) fun s7 =>
  chk (gi (4 : Int32) 5) (
  chk (gi a1 5) (bdS (up3 s7 62 0 a1.toNatClampNeg (s7 62 0 (4 : Int32).toNatClampNeg)) fun s10 =>
  chk (gi (4 : Int32) 5) (
  chk (gi a1 5) (bdS (up3 s10 63 0 a1.toNatClampNeg (s10 63 0 (4 : Int32).toNatClampNeg)) fun s13 =>
  (f_X10_contract_L90 (f_X10_contract_L194 FU) FU) a1 (0 : Int32) s13))))))
  else
  some ((-1 : Int32), s0)
set_option maxRecDepth 4000 in
theorem i_X10_contract (X : Cx) (g : GT) (hF : Fx X g RX10 cX10_contract 5 7 156) (hM : FM X g (some .int)) (hI : GI g) (a1 : Int32) (a2 : Int32) (s0 : Sg) : Im X g 5 (Qm X g embI) s0 0 [(0, .ref (g.2.1 10 0)), (1, .int a1), (2, .int a2)] [] (f_X10_contract a1 a2 s0) := by
  unfold f_X10_contract
  refine im_iload_n hF dX10_contract_0 1 rfl ?_
  refine im_if_lt hF 21 dX10_contract_1 (by decide) (fun _ => ?_) (fun _ => ?_)
  · refine im_iconst hF dX10_contract_21 (v := (-1 : Int32)) (by decide) ?_
    exact im_iret hF hM dX10_contract_22
  · refine im_iload_n hF dX10_contract_4 1 rfl ?_
    refine im_iconst hF dX10_contract_5 (v := (4 : Int32)) (by decide) ?_
    refine im_icmp_ge hF 21 dX10_contract_6 (by decide) (fun _ => ?_) (fun _ => ?_)
    · refine im_iconst hF dX10_contract_21 (v := (-1 : Int32)) (by decide) ?_
      exact im_iret hF hM dX10_contract_22
    · refine im_iload_n hF dX10_contract_9 2 rfl ?_
      refine im_if_lt hF 21 dX10_contract_10 (by decide) (fun _ => ?_) (fun _ => ?_)
      · refine im_iconst hF dX10_contract_21 (v := (-1 : Int32)) (by decide) ?_
        exact im_iret hF hM dX10_contract_22
      · refine im_iload_n hF dX10_contract_13 2 rfl ?_
        refine im_aload_n hF dX10_contract_14 0 rfl ?_
        refine im_get hF (v := .int (s0 10 0 21)) fl_10_179 (by decide) (by decide) rfl dX10_contract_15 ?_
        refine im_icmp_le hF 23 dX10_contract_18 (by decide) (fun _ => ?_) (fun _ => ?_)
        · refine im_aload_n hF dX10_contract_23 0 rfl ?_
          refine im_iconst hF dX10_contract_24 (v := (0 : Int32)) (by decide) ?_
          refine im_put hF (0 : Int32) fp_10_192 (by decide) (by decide) rfl rfl rfl dX10_contract_25 ?_
          refine im_bdS (fun s1 => ?_)
          refine im_aload_n hF dX10_contract_28 0 rfl ?_
          refine im_iconst hF dX10_contract_29 (v := (-1 : Int32)) (by decide) ?_
          refine im_put hF (-1 : Int32) fp_10_62 (by decide) (by decide) rfl rfl rfl dX10_contract_30 ?_
          refine im_bdS (fun s2 => ?_)
          refine im_aload_n hF dX10_contract_33 0 rfl ?_
          refine im_iload_n hF dX10_contract_34 2 rfl ?_
          refine im_callVI hF (As := [.int a2]) (rest := []) my_X10_readsText mv_X10_readsText wl_984 (fun l r hr => c_X10_readsText l g hI a2 s2 r hr) ⟨by decide, by decide⟩ (by decide) (by decide) ⟨_, rfl, rfl⟩ rfl rfl (Nat.le_of_ble_eq_true rfl) dX10_contract_35 (fun q3 => ?_)
          refine im_istore_n hF dX10_contract_38 (lv' := [(3, .int q3.1), (0, .ref (g.2.1 10 0)), (1, .int a1), (2, .int a2)]) rfl (by decide) rfl ?_
          refine im_aload_n hF dX10_contract_39 1 rfl ?_
          refine im_iconst hF dX10_contract_40 (v := (0 : Int32)) (by decide) ?_
          refine im_put hF (0 : Int32) fp_10_179 (by decide) (by decide) rfl rfl rfl dX10_contract_41 ?_
          refine im_bdS (fun s4 => ?_)
          refine im_iload_n hF dX10_contract_44 0 rfl ?_
          refine im_if_ne hF 51 dX10_contract_45 (by decide) (fun _ => ?_) (fun _ => ?_)
          · refine im_bipush hF dX10_contract_48 (v := (-2 : Int32)) (by decide) ?_
            exact im_iret hF hM dX10_contract_50
          · refine im_aload_n hF dX10_contract_51 1 rfl ?_
            refine im_get hF (v := .ref (g.2.1 61 0)) fl_10_66 (by decide) (by decide) rfl dX10_contract_52 ?_
            refine im_iload_n hF dX10_contract_55 2 rfl ?_
            refine im_aload_n hF dX10_contract_56 1 rfl ?_
            refine im_get hF (v := .ref (g.2.1 61 0)) fl_10_66 (by decide) (by decide) rfl dX10_contract_57 ?_
            refine im_iconst hF dX10_contract_60 (v := (4 : Int32)) (by decide) ?_
            refine im_iald hF ar_61 (by decide) dX10_contract_61 (fun h5 => ?_)
            refine im_iast hF ar_61 (by decide) dX10_contract_62 (fun h6 => im_bdS (fun s7 => ?_))
            refine im_aload_n hF dX10_contract_63 1 rfl ?_
            refine im_get hF (v := .ref (g.2.1 62 0)) fl_10_69 (by decide) (by decide) rfl dX10_contract_64 ?_
            refine im_iload_n hF dX10_contract_67 2 rfl ?_
            refine im_aload_n hF dX10_contract_68 1 rfl ?_
            refine im_get hF (v := .ref (g.2.1 62 0)) fl_10_69 (by decide) (by decide) rfl dX10_contract_69 ?_
            refine im_iconst hF dX10_contract_72 (v := (4 : Int32)) (by decide) ?_
            refine im_iald hF ar_62 (by decide) dX10_contract_73 (fun h8 => ?_)
            refine im_iast hF ar_62 (by decide) dX10_contract_74 (fun h9 => im_bdS (fun s10 => ?_))
            refine im_aload_n hF dX10_contract_75 1 rfl ?_
            refine im_get hF (v := .ref (g.2.1 63 0)) fl_10_72 (by decide) (by decide) rfl dX10_contract_76 ?_
            refine im_iload_n hF dX10_contract_79 2 rfl ?_
            refine im_aload_n hF dX10_contract_80 1 rfl ?_
            refine im_get hF (v := .ref (g.2.1 63 0)) fl_10_72 (by decide) (by decide) rfl dX10_contract_81 ?_
            refine im_iconst hF dX10_contract_84 (v := (4 : Int32)) (by decide) ?_
            refine im_iald hF ar_63 (by decide) dX10_contract_85 (fun h11 => ?_)
            refine im_iast hF ar_63 (by decide) dX10_contract_86 (fun h12 => im_bdS (fun s13 => ?_))
            refine im_iconst hF dX10_contract_87 (v := (0 : Int32)) (by decide) ?_
            refine im_istore hF dX10_contract_88 (lv' := [(4, .int (0 : Int32)), (3, .int q3.1), (0, .ref (g.2.1 10 0)), (1, .int a1), (2, .int a2)]) (by decide) rfl ?_
            refine im_sub (lv' := [(0, .ref (g.2.1 10 0)), (1, .int a1), (4, .int (0 : Int32))]) [2, 3, 0] rfl ?_
            exact (i_X10_contract_L90 X g hF hM hI (f_X10_contract_L194 FU) (i_X10_contract_L194 X g hF hM hI FU) FU) a1 (0 : Int32) s13
        · refine im_iconst hF dX10_contract_21 (v := (-1 : Int32)) (by decide) ?_
          exact im_iret hF hM dX10_contract_22
theorem c_X10_contract (l : Launch) (g : GT) (hI : GI g) (a1 : Int32) (a2 : Int32) (s0 : Sg) (r : (Int32 × Sg)) (hr : f_X10_contract a1 a2 s0 = some r) : Ct l yX10_contract cX10_contract 5 (some .int) 7 156 g [.ref (g.2.1 10 0), .int a1, .int a2] s0 (embI r) := ct_of (by decide) hI (Nat.le_of_ble_eq_true rfl) (fun X hF hM => i_X10_contract X g hF hM hI a1 a2 s0) r hr
def f_X10_fault (a1 : Int32) (s0 : Sg) : Option (Int32 × Sg) :=
  if a1 = 0 then
  some ((s0 10 0 22), s0)
  else
  if a1 = (1 : Int32) then
  some ((s0 10 0 23), s0)
  else
  some ((-1 : Int32), s0)
set_option maxRecDepth 4000 in
theorem i_X10_fault (X : Cx) (g : GT) (hF : Fx X g RX10 cX10_fault 2 0 0) (hM : FM X g (some .int)) (hI : GI g) (a1 : Int32) (s0 : Sg) : Im X g 2 (Qm X g embI) s0 0 [(0, .ref (g.2.1 10 0)), (1, .int a1)] [] (f_X10_fault a1 s0) := by
  unfold f_X10_fault
  refine im_iload_n hF dX10_fault_0 1 rfl ?_
  refine im_if_ne hF 11 dX10_fault_1 (by decide) (fun _ => ?_) (fun _ => ?_)
  · refine im_aload_n hF dX10_fault_4 0 rfl ?_
    refine im_get hF (v := .int (s0 10 0 22)) fl_10_192 (by decide) (by decide) rfl dX10_fault_5 ?_
    refine im_goto hF 24 dX10_fault_8 (by decide) ?_
    exact im_iret hF hM dX10_fault_24
  · refine im_iload_n hF dX10_fault_11 1 rfl ?_
    refine im_iconst hF dX10_fault_12 (v := (1 : Int32)) (by decide) ?_
    refine im_icmp_ne hF 23 dX10_fault_13 (by decide) (fun _ => ?_) (fun _ => ?_)
    · refine im_aload_n hF dX10_fault_16 0 rfl ?_
      refine im_get hF (v := .int (s0 10 0 23)) fl_10_62 (by decide) (by decide) rfl dX10_fault_17 ?_
      refine im_goto hF 24 dX10_fault_20 (by decide) ?_
      exact im_iret hF hM dX10_fault_24
    · refine im_iconst hF dX10_fault_23 (v := (-1 : Int32)) (by decide) ?_
      exact im_iret hF hM dX10_fault_24
theorem c_X10_fault (l : Launch) (g : GT) (hI : GI g) (a1 : Int32) (s0 : Sg) (r : (Int32 × Sg)) (hr : f_X10_fault a1 s0 = some r) : Ct l yX10_fault cX10_fault 2 (some .int) 0 0 g [.ref (g.2.1 10 0), .int a1] s0 (embI r) := ct_of (by decide) hI (Nat.le_of_ble_eq_true rfl) (fun X hF hM => i_X10_fault X g hF hM hI a1 s0) r hr
def f_X10_up (a0 : Int32) (a1 : Int32) (s0 : Sg) : Option (Int32 × Sg) :=
  chk (decide (¬ a1 = 0)) (
  some ((((a0 + a1) - (1 : Int32)) / a1), s0))
set_option maxRecDepth 4000 in
theorem i_X10_up (X : Cx) (g : GT) (hF : Fx X g RX10 cX10_up 2 0 0) (hM : FM X g (some .int)) (hI : GI g) (a0 : Int32) (a1 : Int32) (s0 : Sg) : Im X g 2 (Qm X g embI) s0 0 [(0, .int a0), (1, .int a1)] [] (f_X10_up a0 a1 s0) := by
  unfold f_X10_up
  refine im_iload_n hF dX10_up_0 0 rfl ?_
  refine im_iload_n hF dX10_up_1 1 rfl ?_
  refine im_iadd hF dX10_up_2 ?_
  refine im_iconst hF dX10_up_3 (v := (1 : Int32)) (by decide) ?_
  refine im_isub hF dX10_up_4 ?_
  refine im_iload_n hF dX10_up_5 1 rfl ?_
  refine im_chk (fun h1 => ?_)
  refine im_idiv hF dX10_up_6 (of_decide_eq_true h1) ?_
  exact im_iret hF hM dX10_up_7
theorem c_X10_up (l : Launch) (g : GT) (hI : GI g) (a0 : Int32) (a1 : Int32) (s0 : Sg) (r : (Int32 × Sg)) (hr : f_X10_up a0 a1 s0 = some r) : Ct l yX10_up cX10_up 2 (some .int) 0 0 g [.int a0, .int a1] s0 (embI r) := ct_of (by decide) hI (Nat.le_of_ble_eq_true rfl) (fun X hF hM => i_X10_up X g hF hM hI a0 a1 s0) r hr
def f_X10_tableHours (a1 : Int32) (a2 : Int32) (s0 : Sg) : Option (Int32 × Sg) :=
  chk (gi (((6 : Int32) * a1) + a2) 60) (
  chk (gi (s0 53 0 (((6 : Int32) * a1) + a2).toNatClampNeg) 12) (
  chk (gi a1 10) (
  Option.bind (f_X10_up (s0 46 0 (s0 53 0 (((6 : Int32) * a1) + a2).toNatClampNeg).toNatClampNeg) (s0 49 0 a1.toNatClampNeg) s0) fun q4 =>
  some (q4.1, q4.2))))
set_option maxRecDepth 4000 in
theorem i_X10_tableHours (X : Cx) (g : GT) (hF : Fx X g RX10 cX10_tableHours 3 1 21) (hM : FM X g (some .int)) (hI : GI g) (a1 : Int32) (a2 : Int32) (s0 : Sg) : Im X g 3 (Qm X g embI) s0 0 [(0, .ref (g.2.1 10 0)), (1, .int a1), (2, .int a2)] [] (f_X10_tableHours a1 a2 s0) := by
  unfold f_X10_tableHours
  refine im_aload_n hF dX10_tableHours_0 0 rfl ?_
  refine im_get hF (v := .ref (g.2.1 46 0)) fl_10_16 (by decide) (by decide) rfl dX10_tableHours_1 ?_
  refine im_aload_n hF dX10_tableHours_4 0 rfl ?_
  refine im_get hF (v := .ref (g.2.1 53 0)) fl_10_37 (by decide) (by decide) rfl dX10_tableHours_5 ?_
  refine im_bipush hF dX10_tableHours_8 (v := (6 : Int32)) (by decide) ?_
  refine im_iload_n hF dX10_tableHours_10 1 rfl ?_
  refine im_imul hF dX10_tableHours_11 ?_
  refine im_iload_n hF dX10_tableHours_12 2 rfl ?_
  refine im_iadd hF dX10_tableHours_13 ?_
  refine im_iald hF ar_53 (by decide) dX10_tableHours_14 (fun h1 => ?_)
  refine im_iald hF ar_46 (by decide) dX10_tableHours_15 (fun h2 => ?_)
  refine im_aload_n hF dX10_tableHours_16 0 rfl ?_
  refine im_get hF (v := .ref (g.2.1 49 0)) fl_10_25 (by decide) (by decide) rfl dX10_tableHours_17 ?_
  refine im_iload_n hF dX10_tableHours_20 1 rfl ?_
  refine im_iald hF ar_49 (by decide) dX10_tableHours_21 (fun h3 => ?_)
  refine im_callSI hF (As := [.int (s0 46 0 (s0 53 0 (((6 : Int32) * a1) + a2).toNatClampNeg).toNatClampNeg), .int (s0 49 0 a1.toNatClampNeg)]) (rest := []) my_X10_up ms_X10_up wl_1059 (fun l r hr => c_X10_up l g hI (s0 46 0 (s0 53 0 (((6 : Int32) * a1) + a2).toNatClampNeg).toNatClampNeg) (s0 49 0 a1.toNatClampNeg) s0 r hr) ⟨by decide, by decide⟩ rfl rfl (Nat.le_of_ble_eq_true rfl) dX10_tableHours_22 (fun q4 => ?_)
  exact im_iret hF hM dX10_tableHours_25
theorem c_X10_tableHours (l : Launch) (g : GT) (hI : GI g) (a1 : Int32) (a2 : Int32) (s0 : Sg) (r : (Int32 × Sg)) (hr : f_X10_tableHours a1 a2 s0 = some r) : Ct l yX10_tableHours cX10_tableHours 3 (some .int) 1 21 g [.ref (g.2.1 10 0), .int a1, .int a2] s0 (embI r) := ct_of (by decide) hI (Nat.le_of_ble_eq_true rfl) (fun X hF hM => i_X10_tableHours X g hF hM hI a1 a2 s0) r hr
def f_X10_dueLeave_B10 (k10 : Int32 → Int32 → Int32 → Int32 → Sg → Option (Int32 × Sg)) (a1 : Int32) (a2 : Int32) (a3 : Int32) (a4 : Int32) (s0 : Sg) : Option (Int32 × Sg) :=
  if a2 ≤ a4 then
  some (a3, s0)
  else
  Option.bind (f_X10_tableHours a1 a4 s0) fun q1 =>
  chk (gi a1 10) (
  bdI ((a3 + q1.1) + (q1.2 50 0 a1.toNatClampNeg)) fun x3 =>
  k10 a1 a2 x3 (a4 + (1 : Int32)) q1.2)
set_option maxRecDepth 4000 in
theorem i_X10_dueLeave_B10 (X : Cx) (g : GT) (hF : Fx X g RX10 cX10_dueLeave 5 2 43) (hM : FM X g (some .int)) (hI : GI g) (k10 : Int32 → Int32 → Int32 → Int32 → Sg → Option (Int32 × Sg)) (hk10 : ∀ (a1 : Int32) (a2 : Int32) (a3 : Int32) (a4 : Int32) (s0 : Sg), Im X g 5 (Qm X g embI) s0 10 [(0, .ref (g.2.1 10 0)), (1, .int a1), (2, .int a2), (3, .int a3), (4, .int a4)] [] (k10 a1 a2 a3 a4 s0)) (a1 : Int32) (a2 : Int32) (a3 : Int32) (a4 : Int32) (s0 : Sg) : Im X g 5 (Qm X g embI) s0 10 [(0, .ref (g.2.1 10 0)), (1, .int a1), (2, .int a2), (3, .int a3), (4, .int a4)] [] (f_X10_dueLeave_B10 k10 a1 a2 a3 a4 s0) := by
  unfold f_X10_dueLeave_B10
  refine im_iload hF dX10_dueLeave_10 4 rfl ?_
  refine im_iload_n hF dX10_dueLeave_12 2 rfl ?_
  refine im_icmp_ge hF 39 dX10_dueLeave_13 (by decide) (fun _ => ?_) (fun _ => ?_)
  · refine im_iload_n hF dX10_dueLeave_39 3 rfl ?_
    exact im_iret hF hM dX10_dueLeave_40
  · refine im_iload_n hF dX10_dueLeave_16 3 rfl ?_
    refine im_aload_n hF dX10_dueLeave_17 0 rfl ?_
    refine im_iload_n hF dX10_dueLeave_18 1 rfl ?_
    refine im_iload hF dX10_dueLeave_19 4 rfl ?_
    refine im_callVI hF (As := [.int a1, .int a4]) (rest := [.int a3]) my_X10_tableHours mv_X10_tableHours wl_1055 (fun l r hr => c_X10_tableHours l g hI a1 a4 s0 r hr) ⟨by decide, by decide⟩ (by decide) (by decide) ⟨_, rfl, rfl⟩ rfl rfl (Nat.le_of_ble_eq_true rfl) dX10_dueLeave_21 (fun q1 => ?_)
    refine im_iadd hF dX10_dueLeave_24 ?_
    refine im_aload_n hF dX10_dueLeave_25 0 rfl ?_
    refine im_get hF (v := .ref (g.2.1 50 0)) fl_10_28 (by decide) (by decide) rfl dX10_dueLeave_26 ?_
    refine im_iload_n hF dX10_dueLeave_29 1 rfl ?_
    refine im_iald hF ar_50 (by decide) dX10_dueLeave_30 (fun h2 => ?_)
    refine im_iadd hF dX10_dueLeave_31 ?_
    refine im_bdI (fun x3 => ?_)
    refine im_istore_n hF dX10_dueLeave_32 (lv' := [(3, .int x3), (0, .ref (g.2.1 10 0)), (1, .int a1), (2, .int a2), (4, .int a4)]) rfl (by decide) rfl ?_
    refine im_iinc hF dX10_dueLeave_33 (v := (a4 + (1 : Int32))) (lv' := [(4, .int (a4 + (1 : Int32))), (3, .int x3), (0, .ref (g.2.1 10 0)), (1, .int a1), (2, .int a2)]) 4 rfl rfl (by decide) rfl ?_
    refine im_goto hF 10 dX10_dueLeave_36 (by decide) ?_
    refine im_sub (lv' := [(0, .ref (g.2.1 10 0)), (1, .int a1), (2, .int a2), (3, .int x3), (4, .int (a4 + (1 : Int32)))]) [2, 3, 4, 1, 0] rfl ?_
    exact hk10 a1 a2 x3 (a4 + (1 : Int32)) q1.2
def f_X10_dueLeave_L10 : Nat → Int32 → Int32 → Int32 → Int32 → Sg → Option (Int32 × Sg)
  | 0 => fun _ _ _ _ _ => none
  | n + 1 => fun a1 a2 a3 a4 s0 => f_X10_dueLeave_B10 (f_X10_dueLeave_L10 n) a1 a2 a3 a4 s0
theorem i_X10_dueLeave_L10 (X : Cx) (g : GT) (hF : Fx X g RX10 cX10_dueLeave 5 2 43) (hM : FM X g (some .int)) (hI : GI g) : ∀ (n : Nat) (a1 : Int32) (a2 : Int32) (a3 : Int32) (a4 : Int32) (s0 : Sg), Im X g 5 (Qm X g embI) s0 10 [(0, .ref (g.2.1 10 0)), (1, .int a1), (2, .int a2), (3, .int a3), (4, .int a4)] [] (f_X10_dueLeave_L10 n a1 a2 a3 a4 s0) := by
  intro n
  induction n with
  | zero => intros; exact im_none
  | succ n ih => intro a1 a2 a3 a4 s0; exact i_X10_dueLeave_B10 X g hF hM hI (f_X10_dueLeave_L10 n) ih a1 a2 a3 a4 s0
def f_X10_dueLeave (a1 : Int32) (a2 : Int32) (s0 : Sg) : Option (Int32 × Sg) :=
  chk (gi a1 10) (
  bdI (s0 51 0 a1.toNatClampNeg) fun x2 =>
  (f_X10_dueLeave_L10 FU) a1 a2 x2 (0 : Int32) s0)
set_option maxRecDepth 4000 in
theorem i_X10_dueLeave (X : Cx) (g : GT) (hF : Fx X g RX10 cX10_dueLeave 5 2 43) (hM : FM X g (some .int)) (hI : GI g) (a1 : Int32) (a2 : Int32) (s0 : Sg) : Im X g 5 (Qm X g embI) s0 0 [(0, .ref (g.2.1 10 0)), (1, .int a1), (2, .int a2)] [] (f_X10_dueLeave a1 a2 s0) := by
  unfold f_X10_dueLeave
  refine im_aload_n hF dX10_dueLeave_0 0 rfl ?_
  refine im_get hF (v := .ref (g.2.1 51 0)) fl_10_31 (by decide) (by decide) rfl dX10_dueLeave_1 ?_
  refine im_iload_n hF dX10_dueLeave_4 1 rfl ?_
  refine im_iald hF ar_51 (by decide) dX10_dueLeave_5 (fun h1 => ?_)
  refine im_bdI (fun x2 => ?_)
  refine im_istore_n hF dX10_dueLeave_6 (lv' := [(3, .int x2), (0, .ref (g.2.1 10 0)), (1, .int a1), (2, .int a2)]) rfl (by decide) rfl ?_
  refine im_iconst hF dX10_dueLeave_7 (v := (0 : Int32)) (by decide) ?_
  refine im_istore hF dX10_dueLeave_8 (lv' := [(4, .int (0 : Int32)), (3, .int x2), (0, .ref (g.2.1 10 0)), (1, .int a1), (2, .int a2)]) (by decide) rfl ?_
  refine im_sub (lv' := [(0, .ref (g.2.1 10 0)), (1, .int a1), (2, .int a2), (3, .int x2), (4, .int (0 : Int32))]) [2, 3, 4, 1, 0] rfl ?_
  exact (i_X10_dueLeave_L10 X g hF hM hI FU) a1 a2 x2 (0 : Int32) s0
theorem c_X10_dueLeave (l : Launch) (g : GT) (hI : GI g) (a1 : Int32) (a2 : Int32) (s0 : Sg) (r : (Int32 × Sg)) (hr : f_X10_dueLeave a1 a2 s0 = some r) : Ct l yX10_dueLeave cX10_dueLeave 5 (some .int) 2 43 g [.ref (g.2.1 10 0), .int a1, .int a2] s0 (embI r) := ct_of (by decide) hI (Nat.le_of_ble_eq_true rfl) (fun X hF hM => i_X10_dueLeave X g hF hM hI a1 a2 s0) r hr
def f_X10_dueCome (a1 : Int32) (a2 : Int32) (s0 : Sg) : Option (Int32 × Sg) :=
  Option.bind (f_X10_dueLeave a1 (a2 - (1 : Int32)) s0) fun q1 =>
  Option.bind (f_X10_tableHours a1 (a2 - (1 : Int32)) q1.2) fun q2 =>
  some ((q1.1 + q2.1), q2.2)
set_option maxRecDepth 4000 in
theorem i_X10_dueCome (X : Cx) (g : GT) (hF : Fx X g RX10 cX10_dueCome 3 3 67) (hM : FM X g (some .int)) (hI : GI g) (a1 : Int32) (a2 : Int32) (s0 : Sg) : Im X g 3 (Qm X g embI) s0 0 [(0, .ref (g.2.1 10 0)), (1, .int a1), (2, .int a2)] [] (f_X10_dueCome a1 a2 s0) := by
  unfold f_X10_dueCome
  refine im_aload_n hF dX10_dueCome_0 0 rfl ?_
  refine im_iload_n hF dX10_dueCome_1 1 rfl ?_
  refine im_iload_n hF dX10_dueCome_2 2 rfl ?_
  refine im_iconst hF dX10_dueCome_3 (v := (1 : Int32)) (by decide) ?_
  refine im_isub hF dX10_dueCome_4 ?_
  refine im_callVI hF (As := [.int a1, .int (a2 - (1 : Int32))]) (rest := []) my_X10_dueLeave mv_X10_dueLeave wl_1051 (fun l r hr => c_X10_dueLeave l g hI a1 (a2 - (1 : Int32)) s0 r hr) ⟨by decide, by decide⟩ (by decide) (by decide) ⟨_, rfl, rfl⟩ rfl rfl (Nat.le_of_ble_eq_true rfl) dX10_dueCome_5 (fun q1 => ?_)
  refine im_aload_n hF dX10_dueCome_8 0 rfl ?_
  refine im_iload_n hF dX10_dueCome_9 1 rfl ?_
  refine im_iload_n hF dX10_dueCome_10 2 rfl ?_
  refine im_iconst hF dX10_dueCome_11 (v := (1 : Int32)) (by decide) ?_
  refine im_isub hF dX10_dueCome_12 ?_
  refine im_callVI hF (As := [.int a1, .int (a2 - (1 : Int32))]) (rest := [.int q1.1]) my_X10_tableHours mv_X10_tableHours wl_1055 (fun l r hr => c_X10_tableHours l g hI a1 (a2 - (1 : Int32)) q1.2 r hr) ⟨by decide, by decide⟩ (by decide) (by decide) ⟨_, rfl, rfl⟩ rfl rfl (Nat.le_of_ble_eq_true rfl) dX10_dueCome_13 (fun q2 => ?_)
  refine im_iadd hF dX10_dueCome_16 ?_
  exact im_iret hF hM dX10_dueCome_17
theorem c_X10_dueCome (l : Launch) (g : GT) (hI : GI g) (a1 : Int32) (a2 : Int32) (s0 : Sg) (r : (Int32 × Sg)) (hr : f_X10_dueCome a1 a2 s0 = some r) : Ct l yX10_dueCome cX10_dueCome 3 (some .int) 3 67 g [.ref (g.2.1 10 0), .int a1, .int a2] s0 (embI r) := ct_of (by decide) hI (Nat.le_of_ble_eq_true rfl) (fun X hF hM => i_X10_dueCome X g hF hM hI a1 a2 s0) r hr
def f_X10_due (a1 : Int32) (a2 : Int32) (a3 : Int32) (s0 : Sg) : Option (Int32 × Sg) :=
  Option.bind (f_X10_isVoyage a1 s0) fun q1 =>
  if q1.1 = 0 then
  some ((-1 : Int32), q1.2)
  else
  if a2 < 0 then
  some ((-1 : Int32), q1.2)
  else
  chk (gi a1 10) (
  if a2 ≤ (q1.2 52 0 a1.toNatClampNeg) then
  if a3 = 0 then
  if a2 = 0 then
  some ((-1 : Int32), q1.2)
  else
  Option.bind (f_X10_dueCome a1 a2 q1.2) fun q3 =>
  some (q3.1, q3.2)
  else
  if a3 = (1 : Int32) then
  chk (gi a1 10) (
  if (q1.2 52 0 a1.toNatClampNeg) ≤ a2 then
  some ((-1 : Int32), q1.2)
  else
  Option.bind (f_X10_dueLeave a1 a2 q1.2) fun q5 =>
  some (q5.1, q5.2))
  else
  some ((-1 : Int32), q1.2)
  else
  some ((-1 : Int32), q1.2))
set_option maxRecDepth 4000 in
theorem i_X10_due (X : Cx) (g : GT) (hF : Fx X g RX10 cX10_due 4 4 89) (hM : FM X g (some .int)) (hI : GI g) (a1 : Int32) (a2 : Int32) (a3 : Int32) (s0 : Sg) : Im X g 4 (Qm X g embI) s0 0 [(0, .ref (g.2.1 10 0)), (1, .int a1), (2, .int a2), (3, .int a3)] [] (f_X10_due a1 a2 a3 s0) := by
  unfold f_X10_due
  refine im_aload_n hF dX10_due_0 0 rfl ?_
  refine im_iload_n hF dX10_due_1 1 rfl ?_
  refine im_callVI hF (As := [.int a1]) (rest := []) my_X10_isVoyage mv_X10_isVoyage wl_956 (fun l r hr => c_X10_isVoyage l g hI a1 s0 r hr) ⟨by decide, by decide⟩ (by decide) (by decide) ⟨_, rfl, rfl⟩ rfl rfl (Nat.le_of_ble_eq_true rfl) dX10_due_2 (fun q1 => ?_)
  refine im_if_eq hF 22 dX10_due_5 (by decide) (fun _ => ?_) (fun _ => ?_)
  · refine im_iconst hF dX10_due_22 (v := (-1 : Int32)) (by decide) ?_
    exact im_iret hF hM dX10_due_23
  · refine im_iload_n hF dX10_due_8 2 rfl ?_
    refine im_if_lt hF 22 dX10_due_9 (by decide) (fun _ => ?_) (fun _ => ?_)
    · refine im_iconst hF dX10_due_22 (v := (-1 : Int32)) (by decide) ?_
      exact im_iret hF hM dX10_due_23
    · refine im_iload_n hF dX10_due_12 2 rfl ?_
      refine im_aload_n hF dX10_due_13 0 rfl ?_
      refine im_get hF (v := .ref (g.2.1 52 0)) fl_10_34 (by decide) (by decide) rfl dX10_due_14 ?_
      refine im_iload_n hF dX10_due_17 1 rfl ?_
      refine im_iald hF ar_52 (by decide) dX10_due_18 (fun h2 => ?_)
      refine im_icmp_le hF 24 dX10_due_19 (by decide) (fun _ => ?_) (fun _ => ?_)
      · refine im_iload_n hF dX10_due_24 3 rfl ?_
        refine im_if_ne hF 43 dX10_due_25 (by decide) (fun _ => ?_) (fun _ => ?_)
        · refine im_iload_n hF dX10_due_28 2 rfl ?_
          refine im_if_ne hF 36 dX10_due_29 (by decide) (fun _ => ?_) (fun _ => ?_)
          · refine im_iconst hF dX10_due_32 (v := (-1 : Int32)) (by decide) ?_
            refine im_goto hF 42 dX10_due_33 (by decide) ?_
            exact im_iret hF hM dX10_due_42
          · refine im_aload_n hF dX10_due_36 0 rfl ?_
            refine im_iload_n hF dX10_due_37 1 rfl ?_
            refine im_iload_n hF dX10_due_38 2 rfl ?_
            refine im_callVI hF (As := [.int a1, .int a2]) (rest := []) my_X10_dueCome mv_X10_dueCome wl_1047 (fun l r hr => c_X10_dueCome l g hI a1 a2 q1.2 r hr) ⟨by decide, by decide⟩ (by decide) (by decide) ⟨_, rfl, rfl⟩ rfl rfl (Nat.le_of_ble_eq_true rfl) dX10_due_39 (fun q3 => ?_)
            exact im_iret hF hM dX10_due_42
        · refine im_iload_n hF dX10_due_43 3 rfl ?_
          refine im_iconst hF dX10_due_44 (v := (1 : Int32)) (by decide) ?_
          refine im_icmp_ne hF 67 dX10_due_45 (by decide) (fun _ => ?_) (fun _ => ?_)
          · refine im_iload_n hF dX10_due_48 2 rfl ?_
            refine im_aload_n hF dX10_due_49 0 rfl ?_
            refine im_get hF (v := .ref (g.2.1 52 0)) fl_10_34 (by decide) (by decide) rfl dX10_due_50 ?_
            refine im_iload_n hF dX10_due_53 1 rfl ?_
            refine im_iald hF ar_52 (by decide) dX10_due_54 (fun h4 => ?_)
            refine im_icmp_ge hF 67 dX10_due_55 (by decide) (fun _ => ?_) (fun _ => ?_)
            · refine im_iconst hF dX10_due_67 (v := (-1 : Int32)) (by decide) ?_
              exact im_iret hF hM dX10_due_68
            · refine im_aload_n hF dX10_due_58 0 rfl ?_
              refine im_iload_n hF dX10_due_59 1 rfl ?_
              refine im_iload_n hF dX10_due_60 2 rfl ?_
              refine im_callVI hF (As := [.int a1, .int a2]) (rest := []) my_X10_dueLeave mv_X10_dueLeave wl_1051 (fun l r hr => c_X10_dueLeave l g hI a1 a2 q1.2 r hr) ⟨by decide, by decide⟩ (by decide) (by decide) ⟨_, rfl, rfl⟩ rfl rfl (Nat.le_of_ble_eq_true rfl) dX10_due_61 (fun q5 => ?_)
              refine im_goto hF 68 dX10_due_64 (by decide) ?_
              exact im_iret hF hM dX10_due_68
          · refine im_iconst hF dX10_due_67 (v := (-1 : Int32)) (by decide) ?_
            exact im_iret hF hM dX10_due_68
      · refine im_iconst hF dX10_due_22 (v := (-1 : Int32)) (by decide) ?_
        exact im_iret hF hM dX10_due_23
theorem c_X10_due (l : Launch) (g : GT) (hI : GI g) (a1 : Int32) (a2 : Int32) (a3 : Int32) (s0 : Sg) (r : (Int32 × Sg)) (hr : f_X10_due a1 a2 a3 s0 = some r) : Ct l yX10_due cX10_due 4 (some .int) 4 89 g [.ref (g.2.1 10 0), .int a1, .int a2, .int a3] s0 (embI r) := ct_of (by decide) hI (Nat.le_of_ble_eq_true rfl) (fun X hF hM => i_X10_due X g hF hM hI a1 a2 a3 s0) r hr
def f_X10_month (a0 : Int32) (s0 : Sg) : Option (Int32 × Sg) :=
  some (((a0 / (720 : Int32)) - (a0 / (720 : Int32)) / (12 : Int32) * (12 : Int32)), s0)
set_option maxRecDepth 4000 in
theorem i_X10_month (X : Cx) (g : GT) (hF : Fx X g RX10 cX10_month 1 0 0) (hM : FM X g (some .int)) (hI : GI g) (a0 : Int32) (s0 : Sg) : Im X g 1 (Qm X g embI) s0 0 [(0, .int a0)] [] (f_X10_month a0 s0) := by
  unfold f_X10_month
  refine im_iload_n hF dX10_month_0 0 rfl ?_
  refine im_sipush hF dX10_month_1 (v := (720 : Int32)) (by decide) ?_
  refine im_idiv hF dX10_month_4 (by decide) ?_
  refine im_bipush hF dX10_month_5 (v := (12 : Int32)) (by decide) ?_
  refine im_irem hF dX10_month_7 (by decide) ?_
  exact im_iret hF hM dX10_month_8
theorem c_X10_month (l : Launch) (g : GT) (hI : GI g) (a0 : Int32) (s0 : Sg) (r : (Int32 × Sg)) (hr : f_X10_month a0 s0 = some r) : Ct l yX10_month cX10_month 1 (some .int) 0 0 g [.int a0] s0 (embI r) := ct_of (by decide) hI (Nat.le_of_ble_eq_true rfl) (fun X hF hM => i_X10_month X g hF hM hI a0 s0) r hr
def f_X10_windIn (a1 : Int32) (a2 : Int32) (a3 : Int32) (s0 : Sg) : Option (Int32 × Sg) :=
  chk (gi (((6 : Int32) * a1) + a2) 60) (
  Option.bind (f_X10_month a3 s0) fun q2 =>
  chk (gi (((12 : Int32) * (s0 53 0 (((6 : Int32) * a1) + a2).toNatClampNeg)) + q2.1) 144) (
  some ((q2.2 47 0 (((12 : Int32) * (s0 53 0 (((6 : Int32) * a1) + a2).toNatClampNeg)) + q2.1).toNatClampNeg), q2.2)))
set_option maxRecDepth 4000 in
theorem i_X10_windIn (X : Cx) (g : GT) (hF : Fx X g RX10 cX10_windIn 4 1 20) (hM : FM X g (some .int)) (hI : GI g) (a1 : Int32) (a2 : Int32) (a3 : Int32) (s0 : Sg) : Im X g 4 (Qm X g embI) s0 0 [(0, .ref (g.2.1 10 0)), (1, .int a1), (2, .int a2), (3, .int a3)] [] (f_X10_windIn a1 a2 a3 s0) := by
  unfold f_X10_windIn
  refine im_aload_n hF dX10_windIn_0 0 rfl ?_
  refine im_get hF (v := .ref (g.2.1 47 0)) fl_10_19 (by decide) (by decide) rfl dX10_windIn_1 ?_
  refine im_bipush hF dX10_windIn_4 (v := (12 : Int32)) (by decide) ?_
  refine im_aload_n hF dX10_windIn_6 0 rfl ?_
  refine im_get hF (v := .ref (g.2.1 53 0)) fl_10_37 (by decide) (by decide) rfl dX10_windIn_7 ?_
  refine im_bipush hF dX10_windIn_10 (v := (6 : Int32)) (by decide) ?_
  refine im_iload_n hF dX10_windIn_12 1 rfl ?_
  refine im_imul hF dX10_windIn_13 ?_
  refine im_iload_n hF dX10_windIn_14 2 rfl ?_
  refine im_iadd hF dX10_windIn_15 ?_
  refine im_iald hF ar_53 (by decide) dX10_windIn_16 (fun h1 => ?_)
  refine im_imul hF dX10_windIn_17 ?_
  refine im_iload_n hF dX10_windIn_18 3 rfl ?_
  refine im_callSI hF (As := [.int a3]) (rest := [.int ((12 : Int32) * (s0 53 0 (((6 : Int32) * a1) + a2).toNatClampNeg)), .ref (g.2.1 47 0)]) my_X10_month ms_X10_month wl_1082 (fun l r hr => c_X10_month l g hI a3 s0 r hr) ⟨by decide, by decide⟩ rfl rfl (Nat.le_of_ble_eq_true rfl) dX10_windIn_19 (fun q2 => ?_)
  refine im_iadd hF dX10_windIn_22 ?_
  refine im_iald hF ar_47 (by decide) dX10_windIn_23 (fun h3 => ?_)
  exact im_iret hF hM dX10_windIn_24
theorem c_X10_windIn (l : Launch) (g : GT) (hI : GI g) (a1 : Int32) (a2 : Int32) (a3 : Int32) (s0 : Sg) (r : (Int32 × Sg)) (hr : f_X10_windIn a1 a2 a3 s0 = some r) : Ct l yX10_windIn cX10_windIn 4 (some .int) 1 20 g [.ref (g.2.1 10 0), .int a1, .int a2, .int a3] s0 (embI r) := ct_of (by decide) hI (Nat.le_of_ble_eq_true rfl) (fun X hF hM => i_X10_windIn X g hF hM hI a1 a2 a3 s0) r hr
def f_X10_holds_B277 (k12 : Int32 → Int32 → Int32 → Int32 → Sg → Option (Int32 × Sg)) (a1 : Int32) (a3 : Int32) (a4 : Int32) (a5 : Int32) (as1 : Int32) (s0 : Sg) : Option (Int32 × Sg) :=
  chk (gi as1 200) (bdS (up3 s0 74 0 as1.toNatClampNeg (vp_nar .boolean (1 : Int32))) fun s2 =>
  k12 a1 a3 a4 (a5 + (1 : Int32)) s2)
set_option maxRecDepth 4000 in
theorem i_X10_holds_B277 (X : Cx) (g : GT) (hF : Fx X g RX10 cX10_holds 7 0 0) (hM : FM X g (some .boolean)) (hI : GI g) (k12 : Int32 → Int32 → Int32 → Int32 → Sg → Option (Int32 × Sg)) (hk12 : ∀ (a1 : Int32) (a3 : Int32) (a4 : Int32) (a5 : Int32) (s0 : Sg), Im X g 7 (Qm X g embI) s0 12 [(0, .ref (g.2.1 10 0)), (1, .int a1), (3, .int a3), (4, .int a4), (5, .int a5)] [] (k12 a1 a3 a4 a5 s0)) (a1 : Int32) (a3 : Int32) (a4 : Int32) (a5 : Int32) (as1 : Int32) (s0 : Sg) : Im X g 7 (Qm X g embI) s0 277 [(0, .ref (g.2.1 10 0)), (1, .int a1), (3, .int a3), (4, .int a4), (5, .int a5)] [.int as1, .ref (g.2.1 74 0)] (f_X10_holds_B277 k12 a1 a3 a4 a5 as1 s0) := by
  unfold f_X10_holds_B277
  refine im_iconst hF dX10_holds_277 (v := (1 : Int32)) (by decide) ?_
  refine im_goto hF 282 dX10_holds_278 (by decide) ?_
  refine im_zast hF ar_74 (by decide) dX10_holds_282 (fun h1 => im_bdS (fun s2 => ?_))
  refine im_iinc hF dX10_holds_283 (v := (a5 + (1 : Int32))) (lv' := [(5, .int (a5 + (1 : Int32))), (0, .ref (g.2.1 10 0)), (1, .int a1), (3, .int a3), (4, .int a4)]) 4 rfl rfl (by decide) rfl ?_
  refine im_goto hF 12 dX10_holds_286 (by decide) ?_
  refine im_sub (lv' := [(0, .ref (g.2.1 10 0)), (1, .int a1), (3, .int a3), (4, .int a4), (5, .int (a5 + (1 : Int32)))]) [1, 2, 3, 4, 0] rfl ?_
  exact hk12 a1 a3 a4 (a5 + (1 : Int32)) s2
def f_X10_holds_B236 (k12 : Int32 → Int32 → Int32 → Int32 → Sg → Option (Int32 × Sg)) (a1 : Int32) (a3 : Int32) (a4 : Int32) (a5 : Int32) (as1 : Int32) (s0 : Sg) : Option (Int32 × Sg) :=
  chk (gi as1 200) (bdS (up3 s0 74 0 as1.toNatClampNeg (vp_nar .boolean (0 : Int32))) fun s2 =>
  k12 a1 a3 a4 (a5 + (1 : Int32)) s2)
set_option maxRecDepth 4000 in
theorem i_X10_holds_B236 (X : Cx) (g : GT) (hF : Fx X g RX10 cX10_holds 7 0 0) (hM : FM X g (some .boolean)) (hI : GI g) (k12 : Int32 → Int32 → Int32 → Int32 → Sg → Option (Int32 × Sg)) (hk12 : ∀ (a1 : Int32) (a3 : Int32) (a4 : Int32) (a5 : Int32) (s0 : Sg), Im X g 7 (Qm X g embI) s0 12 [(0, .ref (g.2.1 10 0)), (1, .int a1), (3, .int a3), (4, .int a4), (5, .int a5)] [] (k12 a1 a3 a4 a5 s0)) (a1 : Int32) (a3 : Int32) (a4 : Int32) (a5 : Int32) (as1 : Int32) (s0 : Sg) : Im X g 7 (Qm X g embI) s0 236 [(0, .ref (g.2.1 10 0)), (1, .int a1), (3, .int a3), (4, .int a4), (5, .int a5)] [.int as1, .ref (g.2.1 74 0)] (f_X10_holds_B236 k12 a1 a3 a4 a5 as1 s0) := by
  unfold f_X10_holds_B236
  refine im_iconst hF dX10_holds_236 (v := (0 : Int32)) (by decide) ?_
  refine im_zast hF ar_74 (by decide) dX10_holds_237 (fun h1 => im_bdS (fun s2 => ?_))
  refine im_goto hF 283 dX10_holds_238 (by decide) ?_
  refine im_iinc hF dX10_holds_283 (v := (a5 + (1 : Int32))) (lv' := [(5, .int (a5 + (1 : Int32))), (0, .ref (g.2.1 10 0)), (1, .int a1), (3, .int a3), (4, .int a4)]) 4 rfl rfl (by decide) rfl ?_
  refine im_goto hF 12 dX10_holds_286 (by decide) ?_
  refine im_sub (lv' := [(0, .ref (g.2.1 10 0)), (1, .int a1), (3, .int a3), (4, .int a4), (5, .int (a5 + (1 : Int32)))]) [1, 2, 3, 4, 0] rfl ?_
  exact hk12 a1 a3 a4 (a5 + (1 : Int32)) s2
def f_X10_holds_B157 (k12 : Int32 → Int32 → Int32 → Int32 → Sg → Option (Int32 × Sg)) (a1 : Int32) (a3 : Int32) (a4 : Int32) (a5 : Int32) (as1 : Int32) (as2 : Int32) (s0 : Sg) : Option (Int32 × Sg) :=
  chk (gi as1 200) (bdS (up3 s0 74 0 as1.toNatClampNeg (vp_nar .boolean as2)) fun s2 =>
  bdI (a4 + (1 : Int32)) fun x3 =>
  k12 a1 a3 x3 (a5 + (1 : Int32)) s2)
set_option maxRecDepth 4000 in
theorem i_X10_holds_B157 (X : Cx) (g : GT) (hF : Fx X g RX10 cX10_holds 7 0 0) (hM : FM X g (some .boolean)) (hI : GI g) (k12 : Int32 → Int32 → Int32 → Int32 → Sg → Option (Int32 × Sg)) (hk12 : ∀ (a1 : Int32) (a3 : Int32) (a4 : Int32) (a5 : Int32) (s0 : Sg), Im X g 7 (Qm X g embI) s0 12 [(0, .ref (g.2.1 10 0)), (1, .int a1), (3, .int a3), (4, .int a4), (5, .int a5)] [] (k12 a1 a3 a4 a5 s0)) (a1 : Int32) (a3 : Int32) (a4 : Int32) (a5 : Int32) (as1 : Int32) (as2 : Int32) (s0 : Sg) : Im X g 7 (Qm X g embI) s0 157 [(0, .ref (g.2.1 10 0)), (1, .int a1), (3, .int a3), (4, .int a4), (5, .int a5)] [.int as2, .int as1, .ref (g.2.1 74 0)] (f_X10_holds_B157 k12 a1 a3 a4 a5 as1 as2 s0) := by
  unfold f_X10_holds_B157
  refine im_zast hF ar_74 (by decide) dX10_holds_157 (fun h1 => im_bdS (fun s2 => ?_))
  refine im_iload hF dX10_holds_158 3 rfl ?_
  refine im_iconst hF dX10_holds_160 (v := (1 : Int32)) (by decide) ?_
  refine im_iadd hF dX10_holds_161 ?_
  refine im_bdI (fun x3 => ?_)
  refine im_istore hF dX10_holds_162 (lv' := [(4, .int x3), (0, .ref (g.2.1 10 0)), (1, .int a1), (3, .int a3), (5, .int a5)]) (by decide) rfl ?_
  refine im_goto hF 283 dX10_holds_164 (by decide) ?_
  refine im_iinc hF dX10_holds_283 (v := (a5 + (1 : Int32))) (lv' := [(5, .int (a5 + (1 : Int32))), (4, .int x3), (0, .ref (g.2.1 10 0)), (1, .int a1), (3, .int a3)]) 4 rfl rfl (by decide) rfl ?_
  refine im_goto hF 12 dX10_holds_286 (by decide) ?_
  refine im_sub (lv' := [(0, .ref (g.2.1 10 0)), (1, .int a1), (3, .int a3), (4, .int x3), (5, .int (a5 + (1 : Int32)))]) [2, 3, 4, 1, 0] rfl ?_
  exact hk12 a1 a3 x3 (a5 + (1 : Int32)) s2
def f_X10_holds_B12 (k12 : Int32 → Int32 → Int32 → Int32 → Sg → Option (Int32 × Sg)) (a1 : Int32) (a3 : Int32) (a4 : Int32) (a5 : Int32) (s0 : Sg) : Option (Int32 × Sg) :=
  if (((200 : Int32) * a1) + a3) ≤ a5 then
  chk (gi (0 : Int32) 200) (
  chk (b01 (s0 74 0 (0 : Int32).toNatClampNeg)) (some ((s0 74 0 (0 : Int32).toNatClampNeg), s0)))
  else
  chk (gi a5 1000) (
  if (s0 68 0 a5.toNatClampNeg) = (0 : Int32) then
  chk (gi a5 1000) (
  chk (gi (s0 69 0 a5.toNatClampNeg) 5) (
  bdI (s0 73 0 (s0 69 0 a5.toNatClampNeg).toNatClampNeg) fun x7 =>
  chk (gi a5 1000) (
  if (s0 70 0 a5.toNatClampNeg) = (60 : Int32) then
  chk (gi a5 1000) (
  if (s0 71 0 a5.toNatClampNeg) ≤ x7 then
  (f_X10_holds_B157 k12) a1 a3 a4 a5 a4 (0 : Int32) s0
  else
  (f_X10_holds_B157 k12) a1 a3 a4 a5 a4 (1 : Int32) s0)
  else
  chk (gi a5 1000) (
  if (s0 70 0 a5.toNatClampNeg) = (62 : Int32) then
  chk (gi a5 1000) (
  if x7 ≤ (s0 71 0 a5.toNatClampNeg) then
  (f_X10_holds_B157 k12) a1 a3 a4 a5 a4 (0 : Int32) s0
  else
  (f_X10_holds_B157 k12) a1 a3 a4 a5 a4 (1 : Int32) s0)
  else
  chk (gi a5 1000) (
  if x7 = (s0 71 0 a5.toNatClampNeg) then
  (f_X10_holds_B157 k12) a1 a3 a4 a5 a4 (1 : Int32) s0
  else
  (f_X10_holds_B157 k12) a1 a3 a4 a5 a4 (0 : Int32) s0)))))
  else
  if (s0 68 0 a5.toNatClampNeg) = (1 : Int32) then
  chk (gi (a4 - (1 : Int32)) 200) (
  if (s0 74 0 (a4 - (1 : Int32)).toNatClampNeg) = 0 then
  chk (gi (a4 - (1 : Int32)) 200) (bdS (up3 s0 74 0 (a4 - (1 : Int32)).toNatClampNeg (vp_nar .boolean (1 : Int32))) fun s16 =>
  k12 a1 a3 a4 (a5 + (1 : Int32)) s16)
  else
  chk (gi (a4 - (1 : Int32)) 200) (bdS (up3 s0 74 0 (a4 - (1 : Int32)).toNatClampNeg (vp_nar .boolean (0 : Int32))) fun s18 =>
  k12 a1 a3 a4 (a5 + (1 : Int32)) s18))
  else
  if (s0 68 0 a5.toNatClampNeg) = (2 : Int32) then
  bdI (a4 - (1 : Int32)) fun x20 =>
  chk (gi (x20 - (1 : Int32)) 200) (
  if (s0 74 0 (x20 - (1 : Int32)).toNatClampNeg) = 0 then
  (f_X10_holds_B236 k12) a1 a3 x20 a5 (x20 - (1 : Int32)) s0
  else
  chk (gi x20 200) (
  if (s0 74 0 x20.toNatClampNeg) = 0 then
  (f_X10_holds_B236 k12) a1 a3 x20 a5 (x20 - (1 : Int32)) s0
  else
  chk (gi (x20 - (1 : Int32)) 200) (bdS (up3 s0 74 0 (x20 - (1 : Int32)).toNatClampNeg (vp_nar .boolean (1 : Int32))) fun s24 =>
  k12 a1 a3 x20 (a5 + (1 : Int32)) s24)))
  else
  bdI (a4 - (1 : Int32)) fun x25 =>
  chk (gi (x25 - (1 : Int32)) 200) (
  if (s0 74 0 (x25 - (1 : Int32)).toNatClampNeg) = 0 then
  chk (gi x25 200) (
  if (s0 74 0 x25.toNatClampNeg) = 0 then
  chk (gi (x25 - (1 : Int32)) 200) (bdS (up3 s0 74 0 (x25 - (1 : Int32)).toNatClampNeg (vp_nar .boolean (0 : Int32))) fun s29 =>
  k12 a1 a3 x25 (a5 + (1 : Int32)) s29)
  else
  (f_X10_holds_B277 k12) a1 a3 x25 a5 (x25 - (1 : Int32)) s0)
  else
  (f_X10_holds_B277 k12) a1 a3 x25 a5 (x25 - (1 : Int32)) s0))
set_option maxRecDepth 4000 in
theorem i_X10_holds_B12 (X : Cx) (g : GT) (hF : Fx X g RX10 cX10_holds 7 0 0) (hM : FM X g (some .boolean)) (hI : GI g) (k12 : Int32 → Int32 → Int32 → Int32 → Sg → Option (Int32 × Sg)) (hk12 : ∀ (a1 : Int32) (a3 : Int32) (a4 : Int32) (a5 : Int32) (s0 : Sg), Im X g 7 (Qm X g embI) s0 12 [(0, .ref (g.2.1 10 0)), (1, .int a1), (3, .int a3), (4, .int a4), (5, .int a5)] [] (k12 a1 a3 a4 a5 s0)) (a1 : Int32) (a3 : Int32) (a4 : Int32) (a5 : Int32) (s0 : Sg) : Im X g 7 (Qm X g embI) s0 12 [(0, .ref (g.2.1 10 0)), (1, .int a1), (3, .int a3), (4, .int a4), (5, .int a5)] [] (f_X10_holds_B12 k12 a1 a3 a4 a5 s0) := by
  unfold f_X10_holds_B12
  refine im_iload hF dX10_holds_12 4 rfl ?_
  refine im_sipush hF dX10_holds_14 (v := (200 : Int32)) (by decide) ?_
  refine im_iload_n hF dX10_holds_17 1 rfl ?_
  refine im_imul hF dX10_holds_18 ?_
  refine im_iload_n hF dX10_holds_19 2 rfl ?_
  refine im_iadd hF dX10_holds_20 ?_
  refine im_icmp_ge hF 289 dX10_holds_21 (by decide) (fun _ => ?_) (fun _ => ?_)
  · refine im_aload_n hF dX10_holds_289 0 rfl ?_
    refine im_get hF (v := .ref (g.2.1 74 0)) fl_10_105 (by decide) (by decide) rfl dX10_holds_290 ?_
    refine im_iconst hF dX10_holds_293 (v := (0 : Int32)) (by decide) ?_
    refine im_zald hF ar_74 (by decide) dX10_holds_294 (fun h1 => ?_)
    exact im_chk (fun h2 => im_zret hF hM (b01_or h2) dX10_holds_295)
  · refine im_aload_n hF dX10_holds_24 0 rfl ?_
    refine im_get hF (v := .ref (g.2.1 68 0)) fl_10_87 (by decide) (by decide) rfl dX10_holds_25 ?_
    refine im_iload hF dX10_holds_28 4 rfl ?_
    refine im_iald hF ar_68 (by decide) dX10_holds_30 (fun h3 => ?_)
    refine im_ite (fun h4 => ?_) (fun h4 => ?_)
    · refine im_tableIn hF 56 dX10_holds_31 (by rw [h4]; decide) (by rw [h4]; decide) (by rw [h4]; rfl) (by decide) ?_
      refine im_aload_n hF dX10_holds_56 0 rfl ?_
      refine im_get hF (v := .ref (g.2.1 73 0)) fl_10_102 (by decide) (by decide) rfl dX10_holds_57 ?_
      refine im_aload_n hF dX10_holds_60 0 rfl ?_
      refine im_get hF (v := .ref (g.2.1 69 0)) fl_10_90 (by decide) (by decide) rfl dX10_holds_61 ?_
      refine im_iload hF dX10_holds_64 4 rfl ?_
      refine im_iald hF ar_69 (by decide) dX10_holds_66 (fun h5 => ?_)
      refine im_iald hF ar_73 (by decide) dX10_holds_67 (fun h6 => ?_)
      refine im_bdI (fun x7 => ?_)
      refine im_istore hF dX10_holds_68 (lv' := [(6, .int x7), (0, .ref (g.2.1 10 0)), (1, .int a1), (3, .int a3), (4, .int a4), (5, .int a5)]) (by decide) rfl ?_
      refine im_aload_n hF dX10_holds_70 1 rfl ?_
      refine im_get hF (v := .ref (g.2.1 74 0)) fl_10_105 (by decide) (by decide) rfl dX10_holds_71 ?_
      refine im_iload hF dX10_holds_74 4 rfl ?_
      refine im_aload_n hF dX10_holds_76 1 rfl ?_
      refine im_get hF (v := .ref (g.2.1 70 0)) fl_10_93 (by decide) (by decide) rfl dX10_holds_77 ?_
      refine im_iload hF dX10_holds_80 5 rfl ?_
      refine im_iald hF ar_70 (by decide) dX10_holds_82 (fun h8 => ?_)
      refine im_bipush hF dX10_holds_83 (v := (60 : Int32)) (by decide) ?_
      refine im_icmp_ne hF 108 dX10_holds_85 (by decide) (fun _ => ?_) (fun _ => ?_)
      · refine im_iload hF dX10_holds_88 0 rfl ?_
        refine im_aload_n hF dX10_holds_90 1 rfl ?_
        refine im_get hF (v := .ref (g.2.1 71 0)) fl_10_96 (by decide) (by decide) rfl dX10_holds_91 ?_
        refine im_iload hF dX10_holds_94 5 rfl ?_
        refine im_iald hF ar_71 (by decide) dX10_holds_96 (fun h9 => ?_)
        refine im_icmp_ge hF 104 dX10_holds_97 (by decide) (fun _ => ?_) (fun _ => ?_)
        · refine im_iconst hF dX10_holds_104 (v := (0 : Int32)) (by decide) ?_
          refine im_goto hF 157 dX10_holds_105 (by decide) ?_
          refine im_sub (lv' := [(0, .ref (g.2.1 10 0)), (1, .int a1), (3, .int a3), (4, .int a4), (5, .int a5)]) [1, 2, 3, 4, 5] rfl ?_
          exact (i_X10_holds_B157 X g hF hM hI k12 hk12) a1 a3 a4 a5 a4 (0 : Int32) s0
        · refine im_iconst hF dX10_holds_100 (v := (1 : Int32)) (by decide) ?_
          refine im_goto hF 157 dX10_holds_101 (by decide) ?_
          refine im_sub (lv' := [(0, .ref (g.2.1 10 0)), (1, .int a1), (3, .int a3), (4, .int a4), (5, .int a5)]) [1, 2, 3, 4, 5] rfl ?_
          exact (i_X10_holds_B157 X g hF hM hI k12 hk12) a1 a3 a4 a5 a4 (1 : Int32) s0
      · refine im_aload_n hF dX10_holds_108 1 rfl ?_
        refine im_get hF (v := .ref (g.2.1 70 0)) fl_10_93 (by decide) (by decide) rfl dX10_holds_109 ?_
        refine im_iload hF dX10_holds_112 5 rfl ?_
        refine im_iald hF ar_70 (by decide) dX10_holds_114 (fun h10 => ?_)
        refine im_bipush hF dX10_holds_115 (v := (62 : Int32)) (by decide) ?_
        refine im_icmp_ne hF 140 dX10_holds_117 (by decide) (fun _ => ?_) (fun _ => ?_)
        · refine im_iload hF dX10_holds_120 0 rfl ?_
          refine im_aload_n hF dX10_holds_122 1 rfl ?_
          refine im_get hF (v := .ref (g.2.1 71 0)) fl_10_96 (by decide) (by decide) rfl dX10_holds_123 ?_
          refine im_iload hF dX10_holds_126 5 rfl ?_
          refine im_iald hF ar_71 (by decide) dX10_holds_128 (fun h11 => ?_)
          refine im_icmp_le hF 136 dX10_holds_129 (by decide) (fun _ => ?_) (fun _ => ?_)
          · refine im_iconst hF dX10_holds_136 (v := (0 : Int32)) (by decide) ?_
            refine im_goto hF 157 dX10_holds_137 (by decide) ?_
            refine im_sub (lv' := [(0, .ref (g.2.1 10 0)), (1, .int a1), (3, .int a3), (4, .int a4), (5, .int a5)]) [1, 2, 3, 4, 5] rfl ?_
            exact (i_X10_holds_B157 X g hF hM hI k12 hk12) a1 a3 a4 a5 a4 (0 : Int32) s0
          · refine im_iconst hF dX10_holds_132 (v := (1 : Int32)) (by decide) ?_
            refine im_goto hF 157 dX10_holds_133 (by decide) ?_
            refine im_sub (lv' := [(0, .ref (g.2.1 10 0)), (1, .int a1), (3, .int a3), (4, .int a4), (5, .int a5)]) [1, 2, 3, 4, 5] rfl ?_
            exact (i_X10_holds_B157 X g hF hM hI k12 hk12) a1 a3 a4 a5 a4 (1 : Int32) s0
        · refine im_iload hF dX10_holds_140 0 rfl ?_
          refine im_aload_n hF dX10_holds_142 1 rfl ?_
          refine im_get hF (v := .ref (g.2.1 71 0)) fl_10_96 (by decide) (by decide) rfl dX10_holds_143 ?_
          refine im_iload hF dX10_holds_146 5 rfl ?_
          refine im_iald hF ar_71 (by decide) dX10_holds_148 (fun h12 => ?_)
          refine im_icmp_ne hF 156 dX10_holds_149 (by decide) (fun _ => ?_) (fun _ => ?_)
          · refine im_iconst hF dX10_holds_152 (v := (1 : Int32)) (by decide) ?_
            refine im_goto hF 157 dX10_holds_153 (by decide) ?_
            refine im_sub (lv' := [(0, .ref (g.2.1 10 0)), (1, .int a1), (3, .int a3), (4, .int a4), (5, .int a5)]) [1, 2, 3, 4, 5] rfl ?_
            exact (i_X10_holds_B157 X g hF hM hI k12 hk12) a1 a3 a4 a5 a4 (1 : Int32) s0
          · refine im_iconst hF dX10_holds_156 (v := (0 : Int32)) (by decide) ?_
            refine im_sub (lv' := [(0, .ref (g.2.1 10 0)), (1, .int a1), (3, .int a3), (4, .int a4), (5, .int a5)]) [1, 2, 3, 4, 5] rfl ?_
            exact (i_X10_holds_B157 X g hF hM hI k12 hk12) a1 a3 a4 a5 a4 (0 : Int32) s0
    · refine im_ite (fun h13 => ?_) (fun h13 => ?_)
      · refine im_tableIn hF 167 dX10_holds_31 (by rw [h13]; decide) (by rw [h13]; decide) (by rw [h13]; rfl) (by decide) ?_
        refine im_aload_n hF dX10_holds_167 0 rfl ?_
        refine im_get hF (v := .ref (g.2.1 74 0)) fl_10_105 (by decide) (by decide) rfl dX10_holds_168 ?_
        refine im_iload hF dX10_holds_171 3 rfl ?_
        refine im_iconst hF dX10_holds_173 (v := (1 : Int32)) (by decide) ?_
        refine im_isub hF dX10_holds_174 ?_
        refine im_aload_n hF dX10_holds_175 0 rfl ?_
        refine im_get hF (v := .ref (g.2.1 74 0)) fl_10_105 (by decide) (by decide) rfl dX10_holds_176 ?_
        refine im_iload hF dX10_holds_179 3 rfl ?_
        refine im_iconst hF dX10_holds_181 (v := (1 : Int32)) (by decide) ?_
        refine im_isub hF dX10_holds_182 ?_
        refine im_zald hF ar_74 (by decide) dX10_holds_183 (fun h14 => ?_)
        refine im_if_ne hF 191 dX10_holds_184 (by decide) (fun _ => ?_) (fun _ => ?_)
        · refine im_iconst hF dX10_holds_187 (v := (1 : Int32)) (by decide) ?_
          refine im_goto hF 192 dX10_holds_188 (by decide) ?_
          refine im_zast hF ar_74 (by decide) dX10_holds_192 (fun h15 => im_bdS (fun s16 => ?_))
          refine im_goto hF 283 dX10_holds_193 (by decide) ?_
          refine im_iinc hF dX10_holds_283 (v := (a5 + (1 : Int32))) (lv' := [(5, .int (a5 + (1 : Int32))), (0, .ref (g.2.1 10 0)), (1, .int a1), (3, .int a3), (4, .int a4)]) 4 rfl rfl (by decide) rfl ?_
          refine im_goto hF 12 dX10_holds_286 (by decide) ?_
          refine im_sub (lv' := [(0, .ref (g.2.1 10 0)), (1, .int a1), (3, .int a3), (4, .int a4), (5, .int (a5 + (1 : Int32)))]) [1, 2, 3, 4, 0] rfl ?_
          exact hk12 a1 a3 a4 (a5 + (1 : Int32)) s16
        · refine im_iconst hF dX10_holds_191 (v := (0 : Int32)) (by decide) ?_
          refine im_zast hF ar_74 (by decide) dX10_holds_192 (fun h17 => im_bdS (fun s18 => ?_))
          refine im_goto hF 283 dX10_holds_193 (by decide) ?_
          refine im_iinc hF dX10_holds_283 (v := (a5 + (1 : Int32))) (lv' := [(5, .int (a5 + (1 : Int32))), (0, .ref (g.2.1 10 0)), (1, .int a1), (3, .int a3), (4, .int a4)]) 4 rfl rfl (by decide) rfl ?_
          refine im_goto hF 12 dX10_holds_286 (by decide) ?_
          refine im_sub (lv' := [(0, .ref (g.2.1 10 0)), (1, .int a1), (3, .int a3), (4, .int a4), (5, .int (a5 + (1 : Int32)))]) [1, 2, 3, 4, 0] rfl ?_
          exact hk12 a1 a3 a4 (a5 + (1 : Int32)) s18
      · refine im_ite (fun h19 => ?_) (fun h19 => ?_)
        · refine im_tableIn hF 196 dX10_holds_31 (by rw [h19]; decide) (by rw [h19]; decide) (by rw [h19]; rfl) (by decide) ?_
          refine im_iload hF dX10_holds_196 3 rfl ?_
          refine im_iconst hF dX10_holds_198 (v := (1 : Int32)) (by decide) ?_
          refine im_isub hF dX10_holds_199 ?_
          refine im_bdI (fun x20 => ?_)
          refine im_istore hF dX10_holds_200 (lv' := [(4, .int x20), (0, .ref (g.2.1 10 0)), (1, .int a1), (3, .int a3), (5, .int a5)]) (by decide) rfl ?_
          refine im_aload_n hF dX10_holds_202 1 rfl ?_
          refine im_get hF (v := .ref (g.2.1 74 0)) fl_10_105 (by decide) (by decide) rfl dX10_holds_203 ?_
          refine im_iload hF dX10_holds_206 0 rfl ?_
          refine im_iconst hF dX10_holds_208 (v := (1 : Int32)) (by decide) ?_
          refine im_isub hF dX10_holds_209 ?_
          refine im_aload_n hF dX10_holds_210 1 rfl ?_
          refine im_get hF (v := .ref (g.2.1 74 0)) fl_10_105 (by decide) (by decide) rfl dX10_holds_211 ?_
          refine im_iload hF dX10_holds_214 0 rfl ?_
          refine im_iconst hF dX10_holds_216 (v := (1 : Int32)) (by decide) ?_
          refine im_isub hF dX10_holds_217 ?_
          refine im_zald hF ar_74 (by decide) dX10_holds_218 (fun h21 => ?_)
          refine im_if_eq hF 236 dX10_holds_219 (by decide) (fun _ => ?_) (fun _ => ?_)
          · refine im_sub (lv' := [(0, .ref (g.2.1 10 0)), (1, .int a1), (3, .int a3), (4, .int x20), (5, .int a5)]) [1, 2, 3, 0, 4] rfl ?_
            exact (i_X10_holds_B236 X g hF hM hI k12 hk12) a1 a3 x20 a5 (x20 - (1 : Int32)) s0
          · refine im_aload_n hF dX10_holds_222 1 rfl ?_
            refine im_get hF (v := .ref (g.2.1 74 0)) fl_10_105 (by decide) (by decide) rfl dX10_holds_223 ?_
            refine im_iload hF dX10_holds_226 0 rfl ?_
            refine im_zald hF ar_74 (by decide) dX10_holds_228 (fun h22 => ?_)
            refine im_if_eq hF 236 dX10_holds_229 (by decide) (fun _ => ?_) (fun _ => ?_)
            · refine im_sub (lv' := [(0, .ref (g.2.1 10 0)), (1, .int a1), (3, .int a3), (4, .int x20), (5, .int a5)]) [1, 2, 3, 0, 4] rfl ?_
              exact (i_X10_holds_B236 X g hF hM hI k12 hk12) a1 a3 x20 a5 (x20 - (1 : Int32)) s0
            · refine im_iconst hF dX10_holds_232 (v := (1 : Int32)) (by decide) ?_
              refine im_goto hF 237 dX10_holds_233 (by decide) ?_
              refine im_zast hF ar_74 (by decide) dX10_holds_237 (fun h23 => im_bdS (fun s24 => ?_))
              refine im_goto hF 283 dX10_holds_238 (by decide) ?_
              refine im_iinc hF dX10_holds_283 (v := (a5 + (1 : Int32))) (lv' := [(5, .int (a5 + (1 : Int32))), (4, .int x20), (0, .ref (g.2.1 10 0)), (1, .int a1), (3, .int a3)]) 4 rfl rfl (by decide) rfl ?_
              refine im_goto hF 12 dX10_holds_286 (by decide) ?_
              refine im_sub (lv' := [(0, .ref (g.2.1 10 0)), (1, .int a1), (3, .int a3), (4, .int x20), (5, .int (a5 + (1 : Int32)))]) [2, 3, 4, 1, 0] rfl ?_
              exact hk12 a1 a3 x20 (a5 + (1 : Int32)) s24
        · refine im_tableOut hF 241 dX10_holds_31 (by have := lv_neT h4 (a := 0) rfl; have := lv_neT h13 (a := 1) rfl; have := lv_neT h19 (a := 2) rfl; omega) (by decide) ?_
          refine im_iload hF dX10_holds_241 3 rfl ?_
          refine im_iconst hF dX10_holds_243 (v := (1 : Int32)) (by decide) ?_
          refine im_isub hF dX10_holds_244 ?_
          refine im_bdI (fun x25 => ?_)
          refine im_istore hF dX10_holds_245 (lv' := [(4, .int x25), (0, .ref (g.2.1 10 0)), (1, .int a1), (3, .int a3), (5, .int a5)]) (by decide) rfl ?_
          refine im_aload_n hF dX10_holds_247 1 rfl ?_
          refine im_get hF (v := .ref (g.2.1 74 0)) fl_10_105 (by decide) (by decide) rfl dX10_holds_248 ?_
          refine im_iload hF dX10_holds_251 0 rfl ?_
          refine im_iconst hF dX10_holds_253 (v := (1 : Int32)) (by decide) ?_
          refine im_isub hF dX10_holds_254 ?_
          refine im_aload_n hF dX10_holds_255 1 rfl ?_
          refine im_get hF (v := .ref (g.2.1 74 0)) fl_10_105 (by decide) (by decide) rfl dX10_holds_256 ?_
          refine im_iload hF dX10_holds_259 0 rfl ?_
          refine im_iconst hF dX10_holds_261 (v := (1 : Int32)) (by decide) ?_
          refine im_isub hF dX10_holds_262 ?_
          refine im_zald hF ar_74 (by decide) dX10_holds_263 (fun h26 => ?_)
          refine im_if_ne hF 277 dX10_holds_264 (by decide) (fun _ => ?_) (fun _ => ?_)
          · refine im_aload_n hF dX10_holds_267 1 rfl ?_
            refine im_get hF (v := .ref (g.2.1 74 0)) fl_10_105 (by decide) (by decide) rfl dX10_holds_268 ?_
            refine im_iload hF dX10_holds_271 0 rfl ?_
            refine im_zald hF ar_74 (by decide) dX10_holds_273 (fun h27 => ?_)
            refine im_if_eq hF 281 dX10_holds_274 (by decide) (fun _ => ?_) (fun _ => ?_)
            · refine im_iconst hF dX10_holds_281 (v := (0 : Int32)) (by decide) ?_
              refine im_zast hF ar_74 (by decide) dX10_holds_282 (fun h28 => im_bdS (fun s29 => ?_))
              refine im_iinc hF dX10_holds_283 (v := (a5 + (1 : Int32))) (lv' := [(5, .int (a5 + (1 : Int32))), (4, .int x25), (0, .ref (g.2.1 10 0)), (1, .int a1), (3, .int a3)]) 4 rfl rfl (by decide) rfl ?_
              refine im_goto hF 12 dX10_holds_286 (by decide) ?_
              refine im_sub (lv' := [(0, .ref (g.2.1 10 0)), (1, .int a1), (3, .int a3), (4, .int x25), (5, .int (a5 + (1 : Int32)))]) [2, 3, 4, 1, 0] rfl ?_
              exact hk12 a1 a3 x25 (a5 + (1 : Int32)) s29
            · refine im_sub (lv' := [(0, .ref (g.2.1 10 0)), (1, .int a1), (3, .int a3), (4, .int x25), (5, .int a5)]) [1, 2, 3, 0, 4] rfl ?_
              exact (i_X10_holds_B277 X g hF hM hI k12 hk12) a1 a3 x25 a5 (x25 - (1 : Int32)) s0
          · refine im_sub (lv' := [(0, .ref (g.2.1 10 0)), (1, .int a1), (3, .int a3), (4, .int x25), (5, .int a5)]) [1, 2, 3, 0, 4] rfl ?_
            exact (i_X10_holds_B277 X g hF hM hI k12 hk12) a1 a3 x25 a5 (x25 - (1 : Int32)) s0
def f_X10_holds_L12 : Nat → Int32 → Int32 → Int32 → Int32 → Sg → Option (Int32 × Sg)
  | 0 => fun _ _ _ _ _ => none
  | n + 1 => fun a1 a3 a4 a5 s0 => f_X10_holds_B12 (f_X10_holds_L12 n) a1 a3 a4 a5 s0
theorem i_X10_holds_L12 (X : Cx) (g : GT) (hF : Fx X g RX10 cX10_holds 7 0 0) (hM : FM X g (some .boolean)) (hI : GI g) : ∀ (n : Nat) (a1 : Int32) (a3 : Int32) (a4 : Int32) (a5 : Int32) (s0 : Sg), Im X g 7 (Qm X g embI) s0 12 [(0, .ref (g.2.1 10 0)), (1, .int a1), (3, .int a3), (4, .int a4), (5, .int a5)] [] (f_X10_holds_L12 n a1 a3 a4 a5 s0) := by
  intro n
  induction n with
  | zero => intros; exact im_none
  | succ n ih => intro a1 a3 a4 a5 s0; exact i_X10_holds_B12 X g hF hM hI (f_X10_holds_L12 n) ih a1 a3 a4 a5 s0
def f_X10_holds (a1 : Int32) (a2 : Int32) (a3 : Int32) (s0 : Sg) : Option (Int32 × Sg) :=
  bdI (((200 : Int32) * a1) + a2) fun x1 =>
  (f_X10_holds_L12 FU) a1 a3 (0 : Int32) x1 s0
set_option maxRecDepth 4000 in
theorem i_X10_holds (X : Cx) (g : GT) (hF : Fx X g RX10 cX10_holds 7 0 0) (hM : FM X g (some .boolean)) (hI : GI g) (a1 : Int32) (a2 : Int32) (a3 : Int32) (s0 : Sg) : Im X g 7 (Qm X g embI) s0 0 [(0, .ref (g.2.1 10 0)), (1, .int a1), (2, .int a2), (3, .int a3)] [] (f_X10_holds a1 a2 a3 s0) := by
  unfold f_X10_holds
  refine im_iconst hF dX10_holds_0 (v := (0 : Int32)) (by decide) ?_
  refine im_istore hF dX10_holds_1 (lv' := [(4, .int (0 : Int32)), (0, .ref (g.2.1 10 0)), (1, .int a1), (2, .int a2), (3, .int a3)]) (by decide) rfl ?_
  refine im_sipush hF dX10_holds_3 (v := (200 : Int32)) (by decide) ?_
  refine im_iload_n hF dX10_holds_6 2 rfl ?_
  refine im_imul hF dX10_holds_7 ?_
  refine im_iload_n hF dX10_holds_8 3 rfl ?_
  refine im_iadd hF dX10_holds_9 ?_
  refine im_bdI (fun x1 => ?_)
  refine im_istore hF dX10_holds_10 (lv' := [(5, .int x1), (4, .int (0 : Int32)), (0, .ref (g.2.1 10 0)), (1, .int a1), (2, .int a2), (3, .int a3)]) (by decide) rfl ?_
  refine im_sub (lv' := [(0, .ref (g.2.1 10 0)), (1, .int a1), (3, .int a3), (4, .int (0 : Int32)), (5, .int x1)]) [2, 3, 5, 1, 0] rfl ?_
  exact (i_X10_holds_L12 X g hF hM hI FU) a1 a3 (0 : Int32) x1 s0
theorem c_X10_holds (l : Launch) (g : GT) (hI : GI g) (a1 : Int32) (a2 : Int32) (a3 : Int32) (s0 : Sg) (r : (Int32 × Sg)) (hr : f_X10_holds a1 a2 a3 s0 = some r) : Ct l yX10_holds cX10_holds 7 (some .boolean) 0 0 g [.ref (g.2.1 10 0), .int a1, .int a2, .int a3] s0 (embI r) := ct_of (by decide) hI (Nat.le_of_ble_eq_true rfl) (fun X hF hM => i_X10_holds X g hF hM hI a1 a2 a3 s0) r hr
