def f_law_B810 (L : Nat) (xs : Nat → Int32) (k18 : Int32 → Sg → Option (Int32 × Sg)) (a3 : Int32) (as0 : Int32) (as2 : Int32) (as3 : Int32) (as4 : Int32) (as5 : Int32) (s0 : Sg) : Option (Int32 × Sg) :=
  Option.bind (f_X10_last as2 as3 as4 as5 s0) fun q1 =>
  if as0 = q1.1 then
  k18 (a3 + (6 : Int32)) q1.2
  else
  some ((0 : Int32), q1.2)
set_option maxRecDepth 4000 in
theorem i_law_B810 (X : Cx) (g : GT) (b L : Nat) (xs : Nat → Int32) (hF : Fx X g RL cL_law 4 624 18694) (hM : LM X b) (hX : SX X b L xs) (hI : GI g) (k18 : Int32 → Sg → Option (Int32 × Sg)) (hk18 : ∀ (a3 : Int32) (s0 : Sg), Im X g 4 (QL X b) s0 18 [(0, .ref b), (1, .ref (g.2.1 9 0)), (2, .ref (g.2.1 10 0)), (3, .int a3)] [] (k18 a3 s0)) (a3 : Int32) (as0 : Int32) (as2 : Int32) (as3 : Int32) (as4 : Int32) (as5 : Int32) (s0 : Sg) : Im X g 4 (QL X b) s0 810 [(0, .ref b), (1, .ref (g.2.1 9 0)), (2, .ref (g.2.1 10 0)), (3, .int a3)] [.int as5, .int as4, .int as3, .int as2, .ref (g.2.1 10 0), .int as0] (f_law_B810 L xs k18 a3 as0 as2 as3 as4 as5 s0) := by
  unfold f_law_B810
  refine im_callVI hF (As := [.int as2, .int as3, .int as4, .int as5]) (rest := [.int as0]) my_X10_last mv_X10_last wl_1134 (fun l r hr => c_X10_last l g hI as2 as3 as4 as5 s0 r hr) ⟨by decide, by decide⟩ (by decide) (by decide) ⟨_, rfl, rfl⟩ rfl rfl (Nat.le_of_ble_eq_true rfl) dL_law_810 (fun q1 => ?_)
  refine im_icmp_eq hF 907 dL_law_813 (by decide) (fun _ => ?_) (fun _ => ?_)
  · refine im_iinc hF dL_law_907 (v := (a3 + (6 : Int32))) (lv' := [(3, .int (a3 + (6 : Int32))), (0, .ref b), (1, .ref (g.2.1 9 0)), (2, .ref (g.2.1 10 0))]) 3 rfl rfl (by decide) rfl ?_
    refine im_goto hF 18 dL_law_910 (by decide) ?_
    refine im_sub (lv' := [(0, .ref b), (1, .ref (g.2.1 9 0)), (2, .ref (g.2.1 10 0)), (3, .int (a3 + (6 : Int32)))]) [1, 2, 3, 0] rfl ?_
    exact hk18 (a3 + (6 : Int32)) q1.2
  · refine im_iconst hF dL_law_816 (v := (0 : Int32)) (by decide) ?_
    exact im_lawret hF hM dL_law_817
def f_law_B778 (L : Nat) (xs : Nat → Int32) (k18 : Int32 → Sg → Option (Int32 × Sg)) (a3 : Int32) (as1 : Int32) (as2 : Int32) (as3 : Int32) (as4 : Int32) (s0 : Sg) : Option (Int32 × Sg) :=
  Option.bind (f_X9_last as1 as2 as3 as4 s0) fun q1 =>
  chk (gi (a3 + (1 : Int32)) L) (
  chk (gi (a3 + (2 : Int32)) L) (
  chk (gi (a3 + (3 : Int32)) L) (
  chk (gi (a3 + (4 : Int32)) L) (
  if (xs (a3 + (4 : Int32)).toNatClampNeg) = 0 then
  (f_law_B810 L xs k18) a3 q1.1 (xs (a3 + (1 : Int32)).toNatClampNeg) (xs (a3 + (2 : Int32)).toNatClampNeg) (xs (a3 + (3 : Int32)).toNatClampNeg) (0 : Int32) q1.2
  else
  (f_law_B810 L xs k18) a3 q1.1 (xs (a3 + (1 : Int32)).toNatClampNeg) (xs (a3 + (2 : Int32)).toNatClampNeg) (xs (a3 + (3 : Int32)).toNatClampNeg) (1 : Int32) q1.2))))
set_option maxRecDepth 4000 in
theorem i_law_B778 (X : Cx) (g : GT) (b L : Nat) (xs : Nat → Int32) (hF : Fx X g RL cL_law 4 624 18694) (hM : LM X b) (hX : SX X b L xs) (hI : GI g) (k18 : Int32 → Sg → Option (Int32 × Sg)) (hk18 : ∀ (a3 : Int32) (s0 : Sg), Im X g 4 (QL X b) s0 18 [(0, .ref b), (1, .ref (g.2.1 9 0)), (2, .ref (g.2.1 10 0)), (3, .int a3)] [] (k18 a3 s0)) (a3 : Int32) (as1 : Int32) (as2 : Int32) (as3 : Int32) (as4 : Int32) (s0 : Sg) : Im X g 4 (QL X b) s0 778 [(0, .ref b), (1, .ref (g.2.1 9 0)), (2, .ref (g.2.1 10 0)), (3, .int a3)] [.int as4, .int as3, .int as2, .int as1, .ref (g.2.1 9 0)] (f_law_B778 L xs k18 a3 as1 as2 as3 as4 s0) := by
  unfold f_law_B778
  refine im_callVI hF (As := [.int as1, .int as2, .int as3, .int as4]) (rest := []) my_X9_last mv_X9_last wl_732 (fun l r hr => c_X9_last l g hI as1 as2 as3 as4 s0 r hr) ⟨by decide, by decide⟩ (by decide) (by decide) ⟨_, rfl, rfl⟩ rfl rfl (Nat.le_of_ble_eq_true rfl) dL_law_778 (fun q1 => ?_)
  refine im_aload_n hF dL_law_781 2 rfl ?_
  refine im_aload_n hF dL_law_782 0 rfl ?_
  refine im_iload_n hF dL_law_783 3 rfl ?_
  refine im_iconst hF dL_law_784 (v := (1 : Int32)) (by decide) ?_
  refine im_iadd hF dL_law_785 ?_
  refine im_sld2 hF hX dL_law_786 (fun h2 => ?_)
  refine im_aload_n hF dL_law_787 0 rfl ?_
  refine im_iload_n hF dL_law_788 3 rfl ?_
  refine im_iconst hF dL_law_789 (v := (2 : Int32)) (by decide) ?_
  refine im_iadd hF dL_law_790 ?_
  refine im_sld2 hF hX dL_law_791 (fun h3 => ?_)
  refine im_aload_n hF dL_law_792 0 rfl ?_
  refine im_iload_n hF dL_law_793 3 rfl ?_
  refine im_iconst hF dL_law_794 (v := (3 : Int32)) (by decide) ?_
  refine im_iadd hF dL_law_795 ?_
  refine im_sld2 hF hX dL_law_796 (fun h4 => ?_)
  refine im_aload_n hF dL_law_797 0 rfl ?_
  refine im_iload_n hF dL_law_798 3 rfl ?_
  refine im_iconst hF dL_law_799 (v := (4 : Int32)) (by decide) ?_
  refine im_iadd hF dL_law_800 ?_
  refine im_sld2 hF hX dL_law_801 (fun h5 => ?_)
  refine im_if_eq hF 809 dL_law_802 (by decide) (fun _ => ?_) (fun _ => ?_)
  · refine im_iconst hF dL_law_809 (v := (0 : Int32)) (by decide) ?_
    exact (i_law_B810 X g b L xs hF hM hX hI k18 hk18) a3 q1.1 (xs (a3 + (1 : Int32)).toNatClampNeg) (xs (a3 + (2 : Int32)).toNatClampNeg) (xs (a3 + (3 : Int32)).toNatClampNeg) (0 : Int32) q1.2
  · refine im_iconst hF dL_law_805 (v := (1 : Int32)) (by decide) ?_
    refine im_goto hF 810 dL_law_806 (by decide) ?_
    exact (i_law_B810 X g b L xs hF hM hX hI k18 hk18) a3 q1.1 (xs (a3 + (1 : Int32)).toNatClampNeg) (xs (a3 + (2 : Int32)).toNatClampNeg) (xs (a3 + (3 : Int32)).toNatClampNeg) (1 : Int32) q1.2
def f_law_B741 (L : Nat) (xs : Nat → Int32) (k18 : Int32 → Sg → Option (Int32 × Sg)) (a3 : Int32) (as0 : Int32) (as2 : Int32) (as3 : Int32) (as4 : Int32) (as5 : Int32) (s0 : Sg) : Option (Int32 × Sg) :=
  Option.bind (f_X10_first as2 as3 as4 as5 s0) fun q1 =>
  if as0 = q1.1 then
  k18 (a3 + (6 : Int32)) q1.2
  else
  some ((0 : Int32), q1.2)
set_option maxRecDepth 4000 in
theorem i_law_B741 (X : Cx) (g : GT) (b L : Nat) (xs : Nat → Int32) (hF : Fx X g RL cL_law 4 624 18694) (hM : LM X b) (hX : SX X b L xs) (hI : GI g) (k18 : Int32 → Sg → Option (Int32 × Sg)) (hk18 : ∀ (a3 : Int32) (s0 : Sg), Im X g 4 (QL X b) s0 18 [(0, .ref b), (1, .ref (g.2.1 9 0)), (2, .ref (g.2.1 10 0)), (3, .int a3)] [] (k18 a3 s0)) (a3 : Int32) (as0 : Int32) (as2 : Int32) (as3 : Int32) (as4 : Int32) (as5 : Int32) (s0 : Sg) : Im X g 4 (QL X b) s0 741 [(0, .ref b), (1, .ref (g.2.1 9 0)), (2, .ref (g.2.1 10 0)), (3, .int a3)] [.int as5, .int as4, .int as3, .int as2, .ref (g.2.1 10 0), .int as0] (f_law_B741 L xs k18 a3 as0 as2 as3 as4 as5 s0) := by
  unfold f_law_B741
  refine im_callVI hF (As := [.int as2, .int as3, .int as4, .int as5]) (rest := [.int as0]) my_X10_first mv_X10_first wl_1106 (fun l r hr => c_X10_first l g hI as2 as3 as4 as5 s0 r hr) ⟨by decide, by decide⟩ (by decide) (by decide) ⟨_, rfl, rfl⟩ rfl rfl (Nat.le_of_ble_eq_true rfl) dL_law_741 (fun q1 => ?_)
  refine im_icmp_eq hF 907 dL_law_744 (by decide) (fun _ => ?_) (fun _ => ?_)
  · refine im_iinc hF dL_law_907 (v := (a3 + (6 : Int32))) (lv' := [(3, .int (a3 + (6 : Int32))), (0, .ref b), (1, .ref (g.2.1 9 0)), (2, .ref (g.2.1 10 0))]) 3 rfl rfl (by decide) rfl ?_
    refine im_goto hF 18 dL_law_910 (by decide) ?_
    refine im_sub (lv' := [(0, .ref b), (1, .ref (g.2.1 9 0)), (2, .ref (g.2.1 10 0)), (3, .int (a3 + (6 : Int32)))]) [1, 2, 3, 0] rfl ?_
    exact hk18 (a3 + (6 : Int32)) q1.2
  · refine im_iconst hF dL_law_747 (v := (0 : Int32)) (by decide) ?_
    exact im_lawret hF hM dL_law_748
def f_law_B709 (L : Nat) (xs : Nat → Int32) (k18 : Int32 → Sg → Option (Int32 × Sg)) (a3 : Int32) (as1 : Int32) (as2 : Int32) (as3 : Int32) (as4 : Int32) (s0 : Sg) : Option (Int32 × Sg) :=
  Option.bind (f_X9_first as1 as2 as3 as4 s0) fun q1 =>
  chk (gi (a3 + (1 : Int32)) L) (
  chk (gi (a3 + (2 : Int32)) L) (
  chk (gi (a3 + (3 : Int32)) L) (
  chk (gi (a3 + (4 : Int32)) L) (
  if (xs (a3 + (4 : Int32)).toNatClampNeg) = 0 then
  (f_law_B741 L xs k18) a3 q1.1 (xs (a3 + (1 : Int32)).toNatClampNeg) (xs (a3 + (2 : Int32)).toNatClampNeg) (xs (a3 + (3 : Int32)).toNatClampNeg) (0 : Int32) q1.2
  else
  (f_law_B741 L xs k18) a3 q1.1 (xs (a3 + (1 : Int32)).toNatClampNeg) (xs (a3 + (2 : Int32)).toNatClampNeg) (xs (a3 + (3 : Int32)).toNatClampNeg) (1 : Int32) q1.2))))
set_option maxRecDepth 4000 in
theorem i_law_B709 (X : Cx) (g : GT) (b L : Nat) (xs : Nat → Int32) (hF : Fx X g RL cL_law 4 624 18694) (hM : LM X b) (hX : SX X b L xs) (hI : GI g) (k18 : Int32 → Sg → Option (Int32 × Sg)) (hk18 : ∀ (a3 : Int32) (s0 : Sg), Im X g 4 (QL X b) s0 18 [(0, .ref b), (1, .ref (g.2.1 9 0)), (2, .ref (g.2.1 10 0)), (3, .int a3)] [] (k18 a3 s0)) (a3 : Int32) (as1 : Int32) (as2 : Int32) (as3 : Int32) (as4 : Int32) (s0 : Sg) : Im X g 4 (QL X b) s0 709 [(0, .ref b), (1, .ref (g.2.1 9 0)), (2, .ref (g.2.1 10 0)), (3, .int a3)] [.int as4, .int as3, .int as2, .int as1, .ref (g.2.1 9 0)] (f_law_B709 L xs k18 a3 as1 as2 as3 as4 s0) := by
  unfold f_law_B709
  refine im_callVI hF (As := [.int as1, .int as2, .int as3, .int as4]) (rest := []) my_X9_first mv_X9_first wl_670 (fun l r hr => c_X9_first l g hI as1 as2 as3 as4 s0 r hr) ⟨by decide, by decide⟩ (by decide) (by decide) ⟨_, rfl, rfl⟩ rfl rfl (Nat.le_of_ble_eq_true rfl) dL_law_709 (fun q1 => ?_)
  refine im_aload_n hF dL_law_712 2 rfl ?_
  refine im_aload_n hF dL_law_713 0 rfl ?_
  refine im_iload_n hF dL_law_714 3 rfl ?_
  refine im_iconst hF dL_law_715 (v := (1 : Int32)) (by decide) ?_
  refine im_iadd hF dL_law_716 ?_
  refine im_sld2 hF hX dL_law_717 (fun h2 => ?_)
  refine im_aload_n hF dL_law_718 0 rfl ?_
  refine im_iload_n hF dL_law_719 3 rfl ?_
  refine im_iconst hF dL_law_720 (v := (2 : Int32)) (by decide) ?_
  refine im_iadd hF dL_law_721 ?_
  refine im_sld2 hF hX dL_law_722 (fun h3 => ?_)
  refine im_aload_n hF dL_law_723 0 rfl ?_
  refine im_iload_n hF dL_law_724 3 rfl ?_
  refine im_iconst hF dL_law_725 (v := (3 : Int32)) (by decide) ?_
  refine im_iadd hF dL_law_726 ?_
  refine im_sld2 hF hX dL_law_727 (fun h4 => ?_)
  refine im_aload_n hF dL_law_728 0 rfl ?_
  refine im_iload_n hF dL_law_729 3 rfl ?_
  refine im_iconst hF dL_law_730 (v := (4 : Int32)) (by decide) ?_
  refine im_iadd hF dL_law_731 ?_
  refine im_sld2 hF hX dL_law_732 (fun h5 => ?_)
  refine im_if_eq hF 740 dL_law_733 (by decide) (fun _ => ?_) (fun _ => ?_)
  · refine im_iconst hF dL_law_740 (v := (0 : Int32)) (by decide) ?_
    exact (i_law_B741 X g b L xs hF hM hX hI k18 hk18) a3 q1.1 (xs (a3 + (1 : Int32)).toNatClampNeg) (xs (a3 + (2 : Int32)).toNatClampNeg) (xs (a3 + (3 : Int32)).toNatClampNeg) (0 : Int32) q1.2
  · refine im_iconst hF dL_law_736 (v := (1 : Int32)) (by decide) ?_
    refine im_goto hF 741 dL_law_737 (by decide) ?_
    exact (i_law_B741 X g b L xs hF hM hX hI k18 hk18) a3 q1.1 (xs (a3 + (1 : Int32)).toNatClampNeg) (xs (a3 + (2 : Int32)).toNatClampNeg) (xs (a3 + (3 : Int32)).toNatClampNeg) (1 : Int32) q1.2
def f_law_B18 (L : Nat) (xs : Nat → Int32) (k18 : Int32 → Sg → Option (Int32 × Sg)) (a3 : Int32) (s0 : Sg) : Option (Int32 × Sg) :=
  if ((Int32.ofNat L) - (6 : Int32)) < a3 then
  some ((1 : Int32), s0)
  else
  chk (gi a3 L) (
  if ((xs a3.toNatClampNeg) &&& (31 : Int32)) = (0 : Int32) then
  chk (gi (a3 + (1 : Int32)) L) (
  chk (gi (a3 + (2 : Int32)) L) (
  chk (gi (a3 + (3 : Int32)) L) (
  chk (gi (a3 + (4 : Int32)) L) (
  chk (gi (a3 + (5 : Int32)) L) (
  Option.bind (f_X9_feed (xs (a3 + (1 : Int32)).toNatClampNeg) (xs (a3 + (2 : Int32)).toNatClampNeg) (xs (a3 + (3 : Int32)).toNatClampNeg) (xs (a3 + (4 : Int32)).toNatClampNeg) (xs (a3 + (5 : Int32)).toNatClampNeg) s0) fun q8 =>
  chk (gi (a3 + (1 : Int32)) L) (
  chk (gi (a3 + (2 : Int32)) L) (
  chk (gi (a3 + (3 : Int32)) L) (
  chk (gi (a3 + (4 : Int32)) L) (
  chk (gi (a3 + (5 : Int32)) L) (
  Option.bind (f_X10_feed (xs (a3 + (1 : Int32)).toNatClampNeg) (xs (a3 + (2 : Int32)).toNatClampNeg) (xs (a3 + (3 : Int32)).toNatClampNeg) (xs (a3 + (4 : Int32)).toNatClampNeg) (xs (a3 + (5 : Int32)).toNatClampNeg) q8.2) fun q14 =>
  if q8.1 = q14.1 then
  k18 (a3 + (6 : Int32)) q14.2
  else
  some ((0 : Int32), q14.2)))))))))))
  else
  if ((xs a3.toNatClampNeg) &&& (31 : Int32)) = (1 : Int32) then
  chk (gi (a3 + (1 : Int32)) L) (
  chk (gi (a3 + (2 : Int32)) L) (
  chk (gi (a3 + (3 : Int32)) L) (
  Option.bind (f_X9_passage (xs (a3 + (1 : Int32)).toNatClampNeg) (xs (a3 + (2 : Int32)).toNatClampNeg) (xs (a3 + (3 : Int32)).toNatClampNeg) s0) fun q19 =>
  chk (gi (a3 + (1 : Int32)) L) (
  chk (gi (a3 + (2 : Int32)) L) (
  chk (gi (a3 + (3 : Int32)) L) (
  Option.bind (f_X10_passage (xs (a3 + (1 : Int32)).toNatClampNeg) (xs (a3 + (2 : Int32)).toNatClampNeg) (xs (a3 + (3 : Int32)).toNatClampNeg) q19.2) fun q23 =>
  if q19.1 = q23.1 then
  k18 (a3 + (6 : Int32)) q23.2
  else
  some ((0 : Int32), q23.2)))))))
  else
  if ((xs a3.toNatClampNeg) &&& (31 : Int32)) = (2 : Int32) then
  chk (gi (a3 + (1 : Int32)) L) (
  chk (gi (a3 + (2 : Int32)) L) (
  chk (gi (a3 + (3 : Int32)) L) (
  chk (n64 (FP.dmul (FP.i2d (xs (a3 + (3 : Int32)).toNatClampNeg)) (4593671619917905920 : UInt64))) (
  Option.bind (f_X9_wind (xs (a3 + (1 : Int32)).toNatClampNeg) (xs (a3 + (2 : Int32)).toNatClampNeg) (FP.dmul (FP.i2d (xs (a3 + (3 : Int32)).toNatClampNeg)) (4593671619917905920 : UInt64)) s0) fun q29 =>
  chk (gi (a3 + (1 : Int32)) L) (
  chk (gi (a3 + (2 : Int32)) L) (
  chk (gi (a3 + (3 : Int32)) L) (
  chk (n64 (FP.dmul (FP.i2d (xs (a3 + (3 : Int32)).toNatClampNeg)) (4593671619917905920 : UInt64))) (
  Option.bind (f_X10_wind (xs (a3 + (1 : Int32)).toNatClampNeg) (xs (a3 + (2 : Int32)).toNatClampNeg) (FP.dmul (FP.i2d (xs (a3 + (3 : Int32)).toNatClampNeg)) (4593671619917905920 : UInt64)) q29.2) fun q34 =>
  if q29.1 = q34.1 then
  k18 (a3 + (6 : Int32)) q34.2
  else
  some ((0 : Int32), q34.2)))))))))
  else
  if ((xs a3.toNatClampNeg) &&& (31 : Int32)) = (3 : Int32) then
  chk (gi (a3 + (1 : Int32)) L) (
  chk (gi (a3 + (2 : Int32)) L) (
  chk (gi (a3 + (3 : Int32)) L) (
  chk (gi (a3 + (4 : Int32)) L) (
  chk (gi (a3 + (5 : Int32)) L) (
  Option.bind (f_X9_voyage (xs (a3 + (1 : Int32)).toNatClampNeg) (xs (a3 + (2 : Int32)).toNatClampNeg) (xs (a3 + (3 : Int32)).toNatClampNeg) (xs (a3 + (4 : Int32)).toNatClampNeg) (xs (a3 + (5 : Int32)).toNatClampNeg) s0) fun q41 =>
  chk (gi (a3 + (1 : Int32)) L) (
  chk (gi (a3 + (2 : Int32)) L) (
  chk (gi (a3 + (3 : Int32)) L) (
  chk (gi (a3 + (4 : Int32)) L) (
  chk (gi (a3 + (5 : Int32)) L) (
  Option.bind (f_X10_voyage (xs (a3 + (1 : Int32)).toNatClampNeg) (xs (a3 + (2 : Int32)).toNatClampNeg) (xs (a3 + (3 : Int32)).toNatClampNeg) (xs (a3 + (4 : Int32)).toNatClampNeg) (xs (a3 + (5 : Int32)).toNatClampNeg) q41.2) fun q47 =>
  if q41.1 = q47.1 then
  k18 (a3 + (6 : Int32)) q47.2
  else
  some ((0 : Int32), q47.2)))))))))))
  else
  if ((xs a3.toNatClampNeg) &&& (31 : Int32)) = (4 : Int32) then
  chk (gi (a3 + (1 : Int32)) L) (
  chk (gi (a3 + (2 : Int32)) L) (
  Option.bind (f_X9_leg (xs (a3 + (1 : Int32)).toNatClampNeg) (xs (a3 + (2 : Int32)).toNatClampNeg) s0) fun q51 =>
  chk (gi (a3 + (1 : Int32)) L) (
  chk (gi (a3 + (2 : Int32)) L) (
  Option.bind (f_X10_leg (xs (a3 + (1 : Int32)).toNatClampNeg) (xs (a3 + (2 : Int32)).toNatClampNeg) q51.2) fun q54 =>
  if q51.1 = q54.1 then
  k18 (a3 + (6 : Int32)) q54.2
  else
  some ((0 : Int32), q54.2)))))
  else
  if ((xs a3.toNatClampNeg) &&& (31 : Int32)) = (5 : Int32) then
  chk (gi (a3 + (1 : Int32)) L) (
  chk (gi (a3 + (2 : Int32)) L) (
  chk (gi (a3 + (3 : Int32)) L) (
  Option.bind (f_X9_broken (xs (a3 + (1 : Int32)).toNatClampNeg) (xs (a3 + (2 : Int32)).toNatClampNeg) (xs (a3 + (3 : Int32)).toNatClampNeg) s0) fun q59 =>
  chk (gi (a3 + (1 : Int32)) L) (
  chk (gi (a3 + (2 : Int32)) L) (
  chk (gi (a3 + (3 : Int32)) L) (
  Option.bind (f_X10_broken (xs (a3 + (1 : Int32)).toNatClampNeg) (xs (a3 + (2 : Int32)).toNatClampNeg) (xs (a3 + (3 : Int32)).toNatClampNeg) q59.2) fun q63 =>
  if q59.1 = q63.1 then
  k18 (a3 + (6 : Int32)) q63.2
  else
  some ((0 : Int32), q63.2)))))))
  else
  if ((xs a3.toNatClampNeg) &&& (31 : Int32)) = (6 : Int32) then
  chk (gi (a3 + (1 : Int32)) L) (
  chk (gi (a3 + (2 : Int32)) L) (
  chk (gi (a3 + (3 : Int32)) L) (
  chk (gi (a3 + (4 : Int32)) L) (
  Option.bind (f_X9_meet (xs (a3 + (1 : Int32)).toNatClampNeg) (xs (a3 + (2 : Int32)).toNatClampNeg) (xs (a3 + (3 : Int32)).toNatClampNeg) (xs (a3 + (4 : Int32)).toNatClampNeg) s0) fun q69 =>
  chk (gi (a3 + (1 : Int32)) L) (
  chk (gi (a3 + (2 : Int32)) L) (
  chk (gi (a3 + (3 : Int32)) L) (
  chk (gi (a3 + (4 : Int32)) L) (
  Option.bind (f_X10_meet (xs (a3 + (1 : Int32)).toNatClampNeg) (xs (a3 + (2 : Int32)).toNatClampNeg) (xs (a3 + (3 : Int32)).toNatClampNeg) (xs (a3 + (4 : Int32)).toNatClampNeg) q69.2) fun q74 =>
  if q69.1 = q74.1 then
  k18 (a3 + (6 : Int32)) q74.2
  else
  some ((0 : Int32), q74.2)))))))))
  else
  if ((xs a3.toNatClampNeg) &&& (31 : Int32)) = (7 : Int32) then
  chk (gi (a3 + (1 : Int32)) L) (
  chk (gi (a3 + (2 : Int32)) L) (
  Option.bind (f_X9_contract (xs (a3 + (1 : Int32)).toNatClampNeg) (xs (a3 + (2 : Int32)).toNatClampNeg) s0) fun q78 =>
  chk (gi (a3 + (1 : Int32)) L) (
  chk (gi (a3 + (2 : Int32)) L) (
  Option.bind (f_X10_contract (xs (a3 + (1 : Int32)).toNatClampNeg) (xs (a3 + (2 : Int32)).toNatClampNeg) q78.2) fun q81 =>
  if q78.1 = q81.1 then
  k18 (a3 + (6 : Int32)) q81.2
  else
  some ((0 : Int32), q81.2)))))
  else
  if ((xs a3.toNatClampNeg) &&& (31 : Int32)) = (8 : Int32) then
  chk (gi (a3 + (1 : Int32)) L) (
  Option.bind (f_X9_fault (xs (a3 + (1 : Int32)).toNatClampNeg) s0) fun q84 =>
  chk (gi (a3 + (1 : Int32)) L) (
  Option.bind (f_X10_fault (xs (a3 + (1 : Int32)).toNatClampNeg) q84.2) fun q86 =>
  if q84.1 = q86.1 then
  k18 (a3 + (6 : Int32)) q86.2
  else
  some ((0 : Int32), q86.2)))
  else
  if ((xs a3.toNatClampNeg) &&& (31 : Int32)) = (9 : Int32) then
  chk (gi (a3 + (1 : Int32)) L) (
  chk (gi (a3 + (2 : Int32)) L) (
  chk (gi (a3 + (3 : Int32)) L) (
  Option.bind (f_X9_due (xs (a3 + (1 : Int32)).toNatClampNeg) (xs (a3 + (2 : Int32)).toNatClampNeg) (xs (a3 + (3 : Int32)).toNatClampNeg) s0) fun q91 =>
  chk (gi (a3 + (1 : Int32)) L) (
  chk (gi (a3 + (2 : Int32)) L) (
  chk (gi (a3 + (3 : Int32)) L) (
  Option.bind (f_X10_due (xs (a3 + (1 : Int32)).toNatClampNeg) (xs (a3 + (2 : Int32)).toNatClampNeg) (xs (a3 + (3 : Int32)).toNatClampNeg) q91.2) fun q95 =>
  if q91.1 = q95.1 then
  k18 (a3 + (6 : Int32)) q95.2
  else
  some ((0 : Int32), q95.2)))))))
  else
  if ((xs a3.toNatClampNeg) &&& (31 : Int32)) = (10 : Int32) then
  chk (gi (a3 + (1 : Int32)) L) (
  chk (gi (a3 + (2 : Int32)) L) (
  chk (gi (a3 + (3 : Int32)) L) (
  Option.bind (f_X9_truth (xs (a3 + (1 : Int32)).toNatClampNeg) (xs (a3 + (2 : Int32)).toNatClampNeg) (xs (a3 + (3 : Int32)).toNatClampNeg) s0) fun q100 =>
  chk (gi (a3 + (1 : Int32)) L) (
  chk (gi (a3 + (2 : Int32)) L) (
  chk (gi (a3 + (3 : Int32)) L) (
  Option.bind (f_X10_truth (xs (a3 + (1 : Int32)).toNatClampNeg) (xs (a3 + (2 : Int32)).toNatClampNeg) (xs (a3 + (3 : Int32)).toNatClampNeg) q100.2) fun q104 =>
  if q100.1 = q104.1 then
  k18 (a3 + (6 : Int32)) q104.2
  else
  some ((0 : Int32), q104.2)))))))
  else
  if ((xs a3.toNatClampNeg) &&& (31 : Int32)) = (11 : Int32) then
  chk (gi (a3 + (1 : Int32)) L) (
  chk (gi (a3 + (2 : Int32)) L) (
  chk (gi (a3 + (3 : Int32)) L) (
  Option.bind (f_X9_share (xs (a3 + (1 : Int32)).toNatClampNeg) (xs (a3 + (2 : Int32)).toNatClampNeg) (xs (a3 + (3 : Int32)).toNatClampNeg) s0) fun q109 =>
  chk (gi (a3 + (1 : Int32)) L) (
  chk (gi (a3 + (2 : Int32)) L) (
  chk (gi (a3 + (3 : Int32)) L) (
  Option.bind (f_X10_share (xs (a3 + (1 : Int32)).toNatClampNeg) (xs (a3 + (2 : Int32)).toNatClampNeg) (xs (a3 + (3 : Int32)).toNatClampNeg) q109.2) fun q113 =>
  if q109.1 = q113.1 then
  k18 (a3 + (6 : Int32)) q113.2
  else
  some ((0 : Int32), q113.2)))))))
  else
  if ((xs a3.toNatClampNeg) &&& (31 : Int32)) = (12 : Int32) then
  chk (gi (a3 + (1 : Int32)) L) (
  Option.bind (f_X9_owed (xs (a3 + (1 : Int32)).toNatClampNeg) s0) fun q116 =>
  chk (gi (a3 + (1 : Int32)) L) (
  Option.bind (f_X10_owed (xs (a3 + (1 : Int32)).toNatClampNeg) q116.2) fun q118 =>
  if (lg_cmp q116.1 q118.1) = 0 then
  k18 (a3 + (6 : Int32)) q118.2
  else
  some ((0 : Int32), q118.2)))
  else
  if ((xs a3.toNatClampNeg) &&& (31 : Int32)) = (13 : Int32) then
  chk (gi (a3 + (1 : Int32)) L) (
  chk (gi (a3 + (2 : Int32)) L) (
  chk (gi (a3 + (3 : Int32)) L) (
  chk (gi (a3 + (4 : Int32)) L) (
  if (xs (a3 + (4 : Int32)).toNatClampNeg) = 0 then
  (f_law_B709 L xs k18) a3 (xs (a3 + (1 : Int32)).toNatClampNeg) (xs (a3 + (2 : Int32)).toNatClampNeg) (xs (a3 + (3 : Int32)).toNatClampNeg) (0 : Int32) s0
  else
  (f_law_B709 L xs k18) a3 (xs (a3 + (1 : Int32)).toNatClampNeg) (xs (a3 + (2 : Int32)).toNatClampNeg) (xs (a3 + (3 : Int32)).toNatClampNeg) (1 : Int32) s0))))
  else
  if ((xs a3.toNatClampNeg) &&& (31 : Int32)) = (14 : Int32) then
  chk (gi (a3 + (1 : Int32)) L) (
  chk (gi (a3 + (2 : Int32)) L) (
  chk (gi (a3 + (3 : Int32)) L) (
  chk (gi (a3 + (4 : Int32)) L) (
  if (xs (a3 + (4 : Int32)).toNatClampNeg) = 0 then
  (f_law_B778 L xs k18) a3 (xs (a3 + (1 : Int32)).toNatClampNeg) (xs (a3 + (2 : Int32)).toNatClampNeg) (xs (a3 + (3 : Int32)).toNatClampNeg) (0 : Int32) s0
  else
  (f_law_B778 L xs k18) a3 (xs (a3 + (1 : Int32)).toNatClampNeg) (xs (a3 + (2 : Int32)).toNatClampNeg) (xs (a3 + (3 : Int32)).toNatClampNeg) (1 : Int32) s0))))
  else
  if ((xs a3.toNatClampNeg) &&& (31 : Int32)) = (15 : Int32) then
  chk (gi (a3 + (1 : Int32)) L) (
  chk (gi (a3 + (2 : Int32)) L) (
  Option.bind (f_X9_ride (xs (a3 + (1 : Int32)).toNatClampNeg) (xs (a3 + (2 : Int32)).toNatClampNeg) s0) fun q132 =>
  chk (gi (a3 + (1 : Int32)) L) (
  chk (gi (a3 + (2 : Int32)) L) (
  Option.bind (f_X10_ride (xs (a3 + (1 : Int32)).toNatClampNeg) (xs (a3 + (2 : Int32)).toNatClampNeg) q132.2) fun q135 =>
  if q132.1 = q135.1 then
  k18 (a3 + (6 : Int32)) q135.2
  else
  some ((0 : Int32), q135.2)))))
  else
  if ((xs a3.toNatClampNeg) &&& (31 : Int32)) = (16 : Int32) then
  chk (gi (a3 + (1 : Int32)) L) (
  chk (gi (a3 + (2 : Int32)) L) (
  Option.bind (f_X9_look (xs (a3 + (1 : Int32)).toNatClampNeg) (xs (a3 + (2 : Int32)).toNatClampNeg) s0) fun q139 =>
  chk (gi (a3 + (1 : Int32)) L) (
  chk (gi (a3 + (2 : Int32)) L) (
  Option.bind (f_X10_look (xs (a3 + (1 : Int32)).toNatClampNeg) (xs (a3 + (2 : Int32)).toNatClampNeg) q139.2) fun q142 =>
  if q139.1 = q142.1 then
  k18 (a3 + (6 : Int32)) q142.2
  else
  some ((0 : Int32), q142.2)))))
  else
  if ((xs a3.toNatClampNeg) &&& (31 : Int32)) = (17 : Int32) then
  chk (gi (a3 + (1 : Int32)) L) (
  Option.bind (f_X9_count (xs (a3 + (1 : Int32)).toNatClampNeg) s0) fun q145 =>
  chk (gi (a3 + (1 : Int32)) L) (
  Option.bind (f_X10_count (xs (a3 + (1 : Int32)).toNatClampNeg) q145.2) fun q147 =>
  if q145.1 = q147.1 then
  k18 (a3 + (6 : Int32)) q147.2
  else
  some ((0 : Int32), q147.2)))
  else
  k18 (a3 + (6 : Int32)) s0)
set_option maxRecDepth 4000 in
theorem i_law_B18 (X : Cx) (g : GT) (b L : Nat) (xs : Nat → Int32) (hF : Fx X g RL cL_law 4 624 18694) (hM : LM X b) (hX : SX X b L xs) (hI : GI g) (k18 : Int32 → Sg → Option (Int32 × Sg)) (hk18 : ∀ (a3 : Int32) (s0 : Sg), Im X g 4 (QL X b) s0 18 [(0, .ref b), (1, .ref (g.2.1 9 0)), (2, .ref (g.2.1 10 0)), (3, .int a3)] [] (k18 a3 s0)) (a3 : Int32) (s0 : Sg) : Im X g 4 (QL X b) s0 18 [(0, .ref b), (1, .ref (g.2.1 9 0)), (2, .ref (g.2.1 10 0)), (3, .int a3)] [] (f_law_B18 L xs k18 a3 s0) := by
  unfold f_law_B18
  refine im_iload_n hF dL_law_18 3 rfl ?_
  refine im_aload_n hF dL_law_19 0 rfl ?_
  refine im_slen hF hX dL_law_20 ?_
  refine im_bipush hF dL_law_21 (v := (6 : Int32)) (by decide) ?_
  refine im_isub hF dL_law_23 ?_
  refine im_icmp_gt hF 913 dL_law_24 (by decide) (fun _ => ?_) (fun _ => ?_)
  · refine im_iconst hF dL_law_913 (v := (1 : Int32)) (by decide) ?_
    exact im_lawret hF hM dL_law_914
  · refine im_aload_n hF dL_law_27 0 rfl ?_
    refine im_iload_n hF dL_law_28 3 rfl ?_
    refine im_sld2 hF hX dL_law_29 (fun h1 => ?_)
    refine im_bipush hF dL_law_30 (v := (31 : Int32)) (by decide) ?_
    refine im_iand hF dL_law_32 ?_
    refine im_ite (fun h2 => ?_) (fun h2 => ?_)
    · refine im_tableIn hF 120 dL_law_33 (by rw [h2]; decide) (by rw [h2]; decide) (by rw [h2]; rfl) (by decide) ?_
      refine im_aload_n hF dL_law_120 1 rfl ?_
      refine im_aload_n hF dL_law_121 0 rfl ?_
      refine im_iload_n hF dL_law_122 3 rfl ?_
      refine im_iconst hF dL_law_123 (v := (1 : Int32)) (by decide) ?_
      refine im_iadd hF dL_law_124 ?_
      refine im_sld2 hF hX dL_law_125 (fun h3 => ?_)
      refine im_aload_n hF dL_law_126 0 rfl ?_
      refine im_iload_n hF dL_law_127 3 rfl ?_
      refine im_iconst hF dL_law_128 (v := (2 : Int32)) (by decide) ?_
      refine im_iadd hF dL_law_129 ?_
      refine im_sld2 hF hX dL_law_130 (fun h4 => ?_)
      refine im_aload_n hF dL_law_131 0 rfl ?_
      refine im_iload_n hF dL_law_132 3 rfl ?_
      refine im_iconst hF dL_law_133 (v := (3 : Int32)) (by decide) ?_
      refine im_iadd hF dL_law_134 ?_
      refine im_sld2 hF hX dL_law_135 (fun h5 => ?_)
      refine im_aload_n hF dL_law_136 0 rfl ?_
      refine im_iload_n hF dL_law_137 3 rfl ?_
      refine im_iconst hF dL_law_138 (v := (4 : Int32)) (by decide) ?_
      refine im_iadd hF dL_law_139 ?_
      refine im_sld2 hF hX dL_law_140 (fun h6 => ?_)
      refine im_aload_n hF dL_law_141 0 rfl ?_
      refine im_iload_n hF dL_law_142 3 rfl ?_
      refine im_iconst hF dL_law_143 (v := (5 : Int32)) (by decide) ?_
      refine im_iadd hF dL_law_144 ?_
      refine im_sld2 hF hX dL_law_145 (fun h7 => ?_)
      refine im_callVI hF (As := [.int (xs (a3 + (1 : Int32)).toNatClampNeg), .int (xs (a3 + (2 : Int32)).toNatClampNeg), .int (xs (a3 + (3 : Int32)).toNatClampNeg), .int (xs (a3 + (4 : Int32)).toNatClampNeg), .int (xs (a3 + (5 : Int32)).toNatClampNeg)]) (rest := []) my_X9_feed mv_X9_feed wl_365 (fun l r hr => c_X9_feed l g hI (xs (a3 + (1 : Int32)).toNatClampNeg) (xs (a3 + (2 : Int32)).toNatClampNeg) (xs (a3 + (3 : Int32)).toNatClampNeg) (xs (a3 + (4 : Int32)).toNatClampNeg) (xs (a3 + (5 : Int32)).toNatClampNeg) s0 r hr) ⟨by decide, by decide⟩ (by decide) (by decide) ⟨_, rfl, rfl⟩ rfl rfl (Nat.le_of_ble_eq_true rfl) dL_law_146 (fun q8 => ?_)
      refine im_aload_n hF dL_law_149 2 rfl ?_
      refine im_aload_n hF dL_law_150 0 rfl ?_
      refine im_iload_n hF dL_law_151 3 rfl ?_
      refine im_iconst hF dL_law_152 (v := (1 : Int32)) (by decide) ?_
      refine im_iadd hF dL_law_153 ?_
      refine im_sld2 hF hX dL_law_154 (fun h9 => ?_)
      refine im_aload_n hF dL_law_155 0 rfl ?_
      refine im_iload_n hF dL_law_156 3 rfl ?_
      refine im_iconst hF dL_law_157 (v := (2 : Int32)) (by decide) ?_
      refine im_iadd hF dL_law_158 ?_
      refine im_sld2 hF hX dL_law_159 (fun h10 => ?_)
      refine im_aload_n hF dL_law_160 0 rfl ?_
      refine im_iload_n hF dL_law_161 3 rfl ?_
      refine im_iconst hF dL_law_162 (v := (3 : Int32)) (by decide) ?_
      refine im_iadd hF dL_law_163 ?_
      refine im_sld2 hF hX dL_law_164 (fun h11 => ?_)
      refine im_aload_n hF dL_law_165 0 rfl ?_
      refine im_iload_n hF dL_law_166 3 rfl ?_
      refine im_iconst hF dL_law_167 (v := (4 : Int32)) (by decide) ?_
      refine im_iadd hF dL_law_168 ?_
      refine im_sld2 hF hX dL_law_169 (fun h12 => ?_)
      refine im_aload_n hF dL_law_170 0 rfl ?_
      refine im_iload_n hF dL_law_171 3 rfl ?_
      refine im_iconst hF dL_law_172 (v := (5 : Int32)) (by decide) ?_
      refine im_iadd hF dL_law_173 ?_
      refine im_sld2 hF hX dL_law_174 (fun h13 => ?_)
      refine im_callVI hF (As := [.int (xs (a3 + (1 : Int32)).toNatClampNeg), .int (xs (a3 + (2 : Int32)).toNatClampNeg), .int (xs (a3 + (3 : Int32)).toNatClampNeg), .int (xs (a3 + (4 : Int32)).toNatClampNeg), .int (xs (a3 + (5 : Int32)).toNatClampNeg)]) (rest := [.int q8.1]) my_X10_feed mv_X10_feed wl_972 (fun l r hr => c_X10_feed l g hI (xs (a3 + (1 : Int32)).toNatClampNeg) (xs (a3 + (2 : Int32)).toNatClampNeg) (xs (a3 + (3 : Int32)).toNatClampNeg) (xs (a3 + (4 : Int32)).toNatClampNeg) (xs (a3 + (5 : Int32)).toNatClampNeg) q8.2 r hr) ⟨by decide, by decide⟩ (by decide) (by decide) ⟨_, rfl, rfl⟩ rfl rfl (Nat.le_of_ble_eq_true rfl) dL_law_175 (fun q14 => ?_)
      refine im_icmp_eq hF 907 dL_law_178 (by decide) (fun _ => ?_) (fun _ => ?_)
      · refine im_iinc hF dL_law_907 (v := (a3 + (6 : Int32))) (lv' := [(3, .int (a3 + (6 : Int32))), (0, .ref b), (1, .ref (g.2.1 9 0)), (2, .ref (g.2.1 10 0))]) 3 rfl rfl (by decide) rfl ?_
        refine im_goto hF 18 dL_law_910 (by decide) ?_
        refine im_sub (lv' := [(0, .ref b), (1, .ref (g.2.1 9 0)), (2, .ref (g.2.1 10 0)), (3, .int (a3 + (6 : Int32)))]) [1, 2, 3, 0] rfl ?_
        exact hk18 (a3 + (6 : Int32)) q14.2
      · refine im_iconst hF dL_law_181 (v := (0 : Int32)) (by decide) ?_
        exact im_lawret hF hM dL_law_182
    · refine im_ite (fun h15 => ?_) (fun h15 => ?_)
      · refine im_tableIn hF 183 dL_law_33 (by rw [h15]; decide) (by rw [h15]; decide) (by rw [h15]; rfl) (by decide) ?_
        refine im_aload_n hF dL_law_183 1 rfl ?_
        refine im_aload_n hF dL_law_184 0 rfl ?_
        refine im_iload_n hF dL_law_185 3 rfl ?_
        refine im_iconst hF dL_law_186 (v := (1 : Int32)) (by decide) ?_
        refine im_iadd hF dL_law_187 ?_
        refine im_sld2 hF hX dL_law_188 (fun h16 => ?_)
        refine im_aload_n hF dL_law_189 0 rfl ?_
        refine im_iload_n hF dL_law_190 3 rfl ?_
        refine im_iconst hF dL_law_191 (v := (2 : Int32)) (by decide) ?_
        refine im_iadd hF dL_law_192 ?_
        refine im_sld2 hF hX dL_law_193 (fun h17 => ?_)
        refine im_aload_n hF dL_law_194 0 rfl ?_
        refine im_iload_n hF dL_law_195 3 rfl ?_
        refine im_iconst hF dL_law_196 (v := (3 : Int32)) (by decide) ?_
        refine im_iadd hF dL_law_197 ?_
        refine im_sld2 hF hX dL_law_198 (fun h18 => ?_)
        refine im_callVI hF (As := [.int (xs (a3 + (1 : Int32)).toNatClampNeg), .int (xs (a3 + (2 : Int32)).toNatClampNeg), .int (xs (a3 + (3 : Int32)).toNatClampNeg)]) (rest := []) my_X9_passage mv_X9_passage wl_373 (fun l r hr => c_X9_passage l g hI (xs (a3 + (1 : Int32)).toNatClampNeg) (xs (a3 + (2 : Int32)).toNatClampNeg) (xs (a3 + (3 : Int32)).toNatClampNeg) s0 r hr) ⟨by decide, by decide⟩ (by decide) (by decide) ⟨_, rfl, rfl⟩ rfl rfl (Nat.le_of_ble_eq_true rfl) dL_law_199 (fun q19 => ?_)
        refine im_aload_n hF dL_law_202 2 rfl ?_
        refine im_aload_n hF dL_law_203 0 rfl ?_
        refine im_iload_n hF dL_law_204 3 rfl ?_
        refine im_iconst hF dL_law_205 (v := (1 : Int32)) (by decide) ?_
        refine im_iadd hF dL_law_206 ?_
        refine im_sld2 hF hX dL_law_207 (fun h20 => ?_)
        refine im_aload_n hF dL_law_208 0 rfl ?_
        refine im_iload_n hF dL_law_209 3 rfl ?_
        refine im_iconst hF dL_law_210 (v := (2 : Int32)) (by decide) ?_
        refine im_iadd hF dL_law_211 ?_
        refine im_sld2 hF hX dL_law_212 (fun h21 => ?_)
        refine im_aload_n hF dL_law_213 0 rfl ?_
        refine im_iload_n hF dL_law_214 3 rfl ?_
        refine im_iconst hF dL_law_215 (v := (3 : Int32)) (by decide) ?_
        refine im_iadd hF dL_law_216 ?_
        refine im_sld2 hF hX dL_law_217 (fun h22 => ?_)
        refine im_callVI hF (As := [.int (xs (a3 + (1 : Int32)).toNatClampNeg), .int (xs (a3 + (2 : Int32)).toNatClampNeg), .int (xs (a3 + (3 : Int32)).toNatClampNeg)]) (rest := [.int q19.1]) my_X10_passage mv_X10_passage wl_935 (fun l r hr => c_X10_passage l g hI (xs (a3 + (1 : Int32)).toNatClampNeg) (xs (a3 + (2 : Int32)).toNatClampNeg) (xs (a3 + (3 : Int32)).toNatClampNeg) q19.2 r hr) ⟨by decide, by decide⟩ (by decide) (by decide) ⟨_, rfl, rfl⟩ rfl rfl (Nat.le_of_ble_eq_true rfl) dL_law_218 (fun q23 => ?_)
        refine im_icmp_eq hF 907 dL_law_221 (by decide) (fun _ => ?_) (fun _ => ?_)
        · refine im_iinc hF dL_law_907 (v := (a3 + (6 : Int32))) (lv' := [(3, .int (a3 + (6 : Int32))), (0, .ref b), (1, .ref (g.2.1 9 0)), (2, .ref (g.2.1 10 0))]) 3 rfl rfl (by decide) rfl ?_
          refine im_goto hF 18 dL_law_910 (by decide) ?_
          refine im_sub (lv' := [(0, .ref b), (1, .ref (g.2.1 9 0)), (2, .ref (g.2.1 10 0)), (3, .int (a3 + (6 : Int32)))]) [1, 2, 3, 0] rfl ?_
          exact hk18 (a3 + (6 : Int32)) q23.2
        · refine im_iconst hF dL_law_224 (v := (0 : Int32)) (by decide) ?_
          exact im_lawret hF hM dL_law_225
      · refine im_ite (fun h24 => ?_) (fun h24 => ?_)
        · refine im_tableIn hF 226 dL_law_33 (by rw [h24]; decide) (by rw [h24]; decide) (by rw [h24]; rfl) (by decide) ?_
          refine im_aload_n hF dL_law_226 1 rfl ?_
          refine im_aload_n hF dL_law_227 0 rfl ?_
          refine im_iload_n hF dL_law_228 3 rfl ?_
          refine im_iconst hF dL_law_229 (v := (1 : Int32)) (by decide) ?_
          refine im_iadd hF dL_law_230 ?_
          refine im_sld2 hF hX dL_law_231 (fun h25 => ?_)
          refine im_aload_n hF dL_law_232 0 rfl ?_
          refine im_iload_n hF dL_law_233 3 rfl ?_
          refine im_iconst hF dL_law_234 (v := (2 : Int32)) (by decide) ?_
          refine im_iadd hF dL_law_235 ?_
          refine im_sld2 hF hX dL_law_236 (fun h26 => ?_)
          refine im_aload_n hF dL_law_237 0 rfl ?_
          refine im_iload_n hF dL_law_238 3 rfl ?_
          refine im_iconst hF dL_law_239 (v := (3 : Int32)) (by decide) ?_
          refine im_iadd hF dL_law_240 ?_
          refine im_sld2 hF hX dL_law_241 (fun h27 => ?_)
          refine im_i2d hF dL_law_242 ?_
          refine im_ldc2d hF (v := (4593671619917905920 : UInt64)) wl_1150 dL_law_243 ?_
          refine im_chk (fun h28 => ?_)
          refine im_dmul hF dL_law_246 (n64_of h28) ?_
          refine im_callVI hF (As := [.int (xs (a3 + (1 : Int32)).toNatClampNeg), .int (xs (a3 + (2 : Int32)).toNatClampNeg), .double (FP.dmul (FP.i2d (xs (a3 + (3 : Int32)).toNatClampNeg)) (4593671619917905920 : UInt64))]) (rest := []) my_X9_wind mv_X9_wind wl_387 (fun l r hr => c_X9_wind l g hI (xs (a3 + (1 : Int32)).toNatClampNeg) (xs (a3 + (2 : Int32)).toNatClampNeg) (FP.dmul (FP.i2d (xs (a3 + (3 : Int32)).toNatClampNeg)) (4593671619917905920 : UInt64)) s0 r hr) ⟨by decide, by decide⟩ (by decide) (by decide) ⟨_, rfl, rfl⟩ rfl rfl (Nat.le_of_ble_eq_true rfl) dL_law_247 (fun q29 => ?_)
          refine im_aload_n hF dL_law_250 2 rfl ?_
          refine im_aload_n hF dL_law_251 0 rfl ?_
          refine im_iload_n hF dL_law_252 3 rfl ?_
          refine im_iconst hF dL_law_253 (v := (1 : Int32)) (by decide) ?_
          refine im_iadd hF dL_law_254 ?_
          refine im_sld2 hF hX dL_law_255 (fun h30 => ?_)
          refine im_aload_n hF dL_law_256 0 rfl ?_
          refine im_iload_n hF dL_law_257 3 rfl ?_
          refine im_iconst hF dL_law_258 (v := (2 : Int32)) (by decide) ?_
          refine im_iadd hF dL_law_259 ?_
          refine im_sld2 hF hX dL_law_260 (fun h31 => ?_)
          refine im_aload_n hF dL_law_261 0 rfl ?_
          refine im_iload_n hF dL_law_262 3 rfl ?_
          refine im_iconst hF dL_law_263 (v := (3 : Int32)) (by decide) ?_
          refine im_iadd hF dL_law_264 ?_
          refine im_sld2 hF hX dL_law_265 (fun h32 => ?_)
          refine im_i2d hF dL_law_266 ?_
          refine im_ldc2d hF (v := (4593671619917905920 : UInt64)) wl_1150 dL_law_267 ?_
          refine im_chk (fun h33 => ?_)
          refine im_dmul hF dL_law_270 (n64_of h33) ?_
          refine im_callVI hF (As := [.int (xs (a3 + (1 : Int32)).toNatClampNeg), .int (xs (a3 + (2 : Int32)).toNatClampNeg), .double (FP.dmul (FP.i2d (xs (a3 + (3 : Int32)).toNatClampNeg)) (4593671619917905920 : UInt64))]) (rest := [.int q29.1]) my_X10_wind mv_X10_wind wl_942 (fun l r hr => c_X10_wind l g hI (xs (a3 + (1 : Int32)).toNatClampNeg) (xs (a3 + (2 : Int32)).toNatClampNeg) (FP.dmul (FP.i2d (xs (a3 + (3 : Int32)).toNatClampNeg)) (4593671619917905920 : UInt64)) q29.2 r hr) ⟨by decide, by decide⟩ (by decide) (by decide) ⟨_, rfl, rfl⟩ rfl rfl (Nat.le_of_ble_eq_true rfl) dL_law_271 (fun q34 => ?_)
          refine im_icmp_eq hF 907 dL_law_274 (by decide) (fun _ => ?_) (fun _ => ?_)
          · refine im_iinc hF dL_law_907 (v := (a3 + (6 : Int32))) (lv' := [(3, .int (a3 + (6 : Int32))), (0, .ref b), (1, .ref (g.2.1 9 0)), (2, .ref (g.2.1 10 0))]) 3 rfl rfl (by decide) rfl ?_
            refine im_goto hF 18 dL_law_910 (by decide) ?_
            refine im_sub (lv' := [(0, .ref b), (1, .ref (g.2.1 9 0)), (2, .ref (g.2.1 10 0)), (3, .int (a3 + (6 : Int32)))]) [1, 2, 3, 0] rfl ?_
            exact hk18 (a3 + (6 : Int32)) q34.2
          · refine im_iconst hF dL_law_277 (v := (0 : Int32)) (by decide) ?_
            exact im_lawret hF hM dL_law_278
        · refine im_ite (fun h35 => ?_) (fun h35 => ?_)
          · refine im_tableIn hF 279 dL_law_33 (by rw [h35]; decide) (by rw [h35]; decide) (by rw [h35]; rfl) (by decide) ?_
            refine im_aload_n hF dL_law_279 1 rfl ?_
            refine im_aload_n hF dL_law_280 0 rfl ?_
            refine im_iload_n hF dL_law_281 3 rfl ?_
            refine im_iconst hF dL_law_282 (v := (1 : Int32)) (by decide) ?_
            refine im_iadd hF dL_law_283 ?_
            refine im_sld2 hF hX dL_law_284 (fun h36 => ?_)
            refine im_aload_n hF dL_law_285 0 rfl ?_
            refine im_iload_n hF dL_law_286 3 rfl ?_
            refine im_iconst hF dL_law_287 (v := (2 : Int32)) (by decide) ?_
            refine im_iadd hF dL_law_288 ?_
            refine im_sld2 hF hX dL_law_289 (fun h37 => ?_)
            refine im_aload_n hF dL_law_290 0 rfl ?_
            refine im_iload_n hF dL_law_291 3 rfl ?_
            refine im_iconst hF dL_law_292 (v := (3 : Int32)) (by decide) ?_
            refine im_iadd hF dL_law_293 ?_
            refine im_sld2 hF hX dL_law_294 (fun h38 => ?_)
            refine im_aload_n hF dL_law_295 0 rfl ?_
            refine im_iload_n hF dL_law_296 3 rfl ?_
            refine im_iconst hF dL_law_297 (v := (4 : Int32)) (by decide) ?_
            refine im_iadd hF dL_law_298 ?_
            refine im_sld2 hF hX dL_law_299 (fun h39 => ?_)
            refine im_aload_n hF dL_law_300 0 rfl ?_
            refine im_iload_n hF dL_law_301 3 rfl ?_
            refine im_iconst hF dL_law_302 (v := (5 : Int32)) (by decide) ?_
            refine im_iadd hF dL_law_303 ?_
            refine im_sld2 hF hX dL_law_304 (fun h40 => ?_)
            refine im_callVI hF (As := [.int (xs (a3 + (1 : Int32)).toNatClampNeg), .int (xs (a3 + (2 : Int32)).toNatClampNeg), .int (xs (a3 + (3 : Int32)).toNatClampNeg), .int (xs (a3 + (4 : Int32)).toNatClampNeg), .int (xs (a3 + (5 : Int32)).toNatClampNeg)]) (rest := []) my_X9_voyage mv_X9_voyage wl_400 (fun l r hr => c_X9_voyage l g hI (xs (a3 + (1 : Int32)).toNatClampNeg) (xs (a3 + (2 : Int32)).toNatClampNeg) (xs (a3 + (3 : Int32)).toNatClampNeg) (xs (a3 + (4 : Int32)).toNatClampNeg) (xs (a3 + (5 : Int32)).toNatClampNeg) s0 r hr) ⟨by decide, by decide⟩ (by decide) (by decide) ⟨_, rfl, rfl⟩ rfl rfl (Nat.le_of_ble_eq_true rfl) dL_law_305 (fun q41 => ?_)
            refine im_aload_n hF dL_law_308 2 rfl ?_
            refine im_aload_n hF dL_law_309 0 rfl ?_
            refine im_iload_n hF dL_law_310 3 rfl ?_
            refine im_iconst hF dL_law_311 (v := (1 : Int32)) (by decide) ?_
            refine im_iadd hF dL_law_312 ?_
            refine im_sld2 hF hX dL_law_313 (fun h42 => ?_)
            refine im_aload_n hF dL_law_314 0 rfl ?_
            refine im_iload_n hF dL_law_315 3 rfl ?_
            refine im_iconst hF dL_law_316 (v := (2 : Int32)) (by decide) ?_
            refine im_iadd hF dL_law_317 ?_
            refine im_sld2 hF hX dL_law_318 (fun h43 => ?_)
            refine im_aload_n hF dL_law_319 0 rfl ?_
            refine im_iload_n hF dL_law_320 3 rfl ?_
            refine im_iconst hF dL_law_321 (v := (3 : Int32)) (by decide) ?_
            refine im_iadd hF dL_law_322 ?_
            refine im_sld2 hF hX dL_law_323 (fun h44 => ?_)
            refine im_aload_n hF dL_law_324 0 rfl ?_
            refine im_iload_n hF dL_law_325 3 rfl ?_
            refine im_iconst hF dL_law_326 (v := (4 : Int32)) (by decide) ?_
            refine im_iadd hF dL_law_327 ?_
            refine im_sld2 hF hX dL_law_328 (fun h45 => ?_)
            refine im_aload_n hF dL_law_329 0 rfl ?_
            refine im_iload_n hF dL_law_330 3 rfl ?_
            refine im_iconst hF dL_law_331 (v := (5 : Int32)) (by decide) ?_
            refine im_iadd hF dL_law_332 ?_
            refine im_sld2 hF hX dL_law_333 (fun h46 => ?_)
            refine im_callVI hF (As := [.int (xs (a3 + (1 : Int32)).toNatClampNeg), .int (xs (a3 + (2 : Int32)).toNatClampNeg), .int (xs (a3 + (3 : Int32)).toNatClampNeg), .int (xs (a3 + (4 : Int32)).toNatClampNeg), .int (xs (a3 + (5 : Int32)).toNatClampNeg)]) (rest := [.int q41.1]) my_X10_voyage mv_X10_voyage wl_948 (fun l r hr => c_X10_voyage l g hI (xs (a3 + (1 : Int32)).toNatClampNeg) (xs (a3 + (2 : Int32)).toNatClampNeg) (xs (a3 + (3 : Int32)).toNatClampNeg) (xs (a3 + (4 : Int32)).toNatClampNeg) (xs (a3 + (5 : Int32)).toNatClampNeg) q41.2 r hr) ⟨by decide, by decide⟩ (by decide) (by decide) ⟨_, rfl, rfl⟩ rfl rfl (Nat.le_of_ble_eq_true rfl) dL_law_334 (fun q47 => ?_)
            refine im_icmp_eq hF 907 dL_law_337 (by decide) (fun _ => ?_) (fun _ => ?_)
            · refine im_iinc hF dL_law_907 (v := (a3 + (6 : Int32))) (lv' := [(3, .int (a3 + (6 : Int32))), (0, .ref b), (1, .ref (g.2.1 9 0)), (2, .ref (g.2.1 10 0))]) 3 rfl rfl (by decide) rfl ?_
              refine im_goto hF 18 dL_law_910 (by decide) ?_
              refine im_sub (lv' := [(0, .ref b), (1, .ref (g.2.1 9 0)), (2, .ref (g.2.1 10 0)), (3, .int (a3 + (6 : Int32)))]) [1, 2, 3, 0] rfl ?_
              exact hk18 (a3 + (6 : Int32)) q47.2
            · refine im_iconst hF dL_law_340 (v := (0 : Int32)) (by decide) ?_
              exact im_lawret hF hM dL_law_341
          · refine im_ite (fun h48 => ?_) (fun h48 => ?_)
            · refine im_tableIn hF 342 dL_law_33 (by rw [h48]; decide) (by rw [h48]; decide) (by rw [h48]; rfl) (by decide) ?_
              refine im_aload_n hF dL_law_342 1 rfl ?_
              refine im_aload_n hF dL_law_343 0 rfl ?_
              refine im_iload_n hF dL_law_344 3 rfl ?_
              refine im_iconst hF dL_law_345 (v := (1 : Int32)) (by decide) ?_
              refine im_iadd hF dL_law_346 ?_
              refine im_sld2 hF hX dL_law_347 (fun h49 => ?_)
              refine im_aload_n hF dL_law_348 0 rfl ?_
              refine im_iload_n hF dL_law_349 3 rfl ?_
              refine im_iconst hF dL_law_350 (v := (2 : Int32)) (by decide) ?_
              refine im_iadd hF dL_law_351 ?_
              refine im_sld2 hF hX dL_law_352 (fun h50 => ?_)
              refine im_callVI hF (As := [.int (xs (a3 + (1 : Int32)).toNatClampNeg), .int (xs (a3 + (2 : Int32)).toNatClampNeg)]) (rest := []) my_X9_leg mv_X9_leg wl_411 (fun l r hr => c_X9_leg l g hI (xs (a3 + (1 : Int32)).toNatClampNeg) (xs (a3 + (2 : Int32)).toNatClampNeg) s0 r hr) ⟨by decide, by decide⟩ (by decide) (by decide) ⟨_, rfl, rfl⟩ rfl rfl (Nat.le_of_ble_eq_true rfl) dL_law_353 (fun q51 => ?_)
              refine im_aload_n hF dL_law_356 2 rfl ?_
              refine im_aload_n hF dL_law_357 0 rfl ?_
              refine im_iload_n hF dL_law_358 3 rfl ?_
              refine im_iconst hF dL_law_359 (v := (1 : Int32)) (by decide) ?_
              refine im_iadd hF dL_law_360 ?_
              refine im_sld2 hF hX dL_law_361 (fun h52 => ?_)
              refine im_aload_n hF dL_law_362 0 rfl ?_
              refine im_iload_n hF dL_law_363 3 rfl ?_
              refine im_iconst hF dL_law_364 (v := (2 : Int32)) (by decide) ?_
              refine im_iadd hF dL_law_365 ?_
              refine im_sld2 hF hX dL_law_366 (fun h53 => ?_)
              refine im_callVI hF (As := [.int (xs (a3 + (1 : Int32)).toNatClampNeg), .int (xs (a3 + (2 : Int32)).toNatClampNeg)]) (rest := [.int q51.1]) my_X10_leg mv_X10_leg wl_952 (fun l r hr => c_X10_leg l g hI (xs (a3 + (1 : Int32)).toNatClampNeg) (xs (a3 + (2 : Int32)).toNatClampNeg) q51.2 r hr) ⟨by decide, by decide⟩ (by decide) (by decide) ⟨_, rfl, rfl⟩ rfl rfl (Nat.le_of_ble_eq_true rfl) dL_law_367 (fun q54 => ?_)
              refine im_icmp_eq hF 907 dL_law_370 (by decide) (fun _ => ?_) (fun _ => ?_)
              · refine im_iinc hF dL_law_907 (v := (a3 + (6 : Int32))) (lv' := [(3, .int (a3 + (6 : Int32))), (0, .ref b), (1, .ref (g.2.1 9 0)), (2, .ref (g.2.1 10 0))]) 3 rfl rfl (by decide) rfl ?_
                refine im_goto hF 18 dL_law_910 (by decide) ?_
                refine im_sub (lv' := [(0, .ref b), (1, .ref (g.2.1 9 0)), (2, .ref (g.2.1 10 0)), (3, .int (a3 + (6 : Int32)))]) [1, 2, 3, 0] rfl ?_
                exact hk18 (a3 + (6 : Int32)) q54.2
              · refine im_iconst hF dL_law_373 (v := (0 : Int32)) (by decide) ?_
                exact im_lawret hF hM dL_law_374
            · refine im_ite (fun h55 => ?_) (fun h55 => ?_)
              · refine im_tableIn hF 375 dL_law_33 (by rw [h55]; decide) (by rw [h55]; decide) (by rw [h55]; rfl) (by decide) ?_
                refine im_aload_n hF dL_law_375 1 rfl ?_
                refine im_aload_n hF dL_law_376 0 rfl ?_
                refine im_iload_n hF dL_law_377 3 rfl ?_
                refine im_iconst hF dL_law_378 (v := (1 : Int32)) (by decide) ?_
                refine im_iadd hF dL_law_379 ?_
                refine im_sld2 hF hX dL_law_380 (fun h56 => ?_)
                refine im_aload_n hF dL_law_381 0 rfl ?_
                refine im_iload_n hF dL_law_382 3 rfl ?_
                refine im_iconst hF dL_law_383 (v := (2 : Int32)) (by decide) ?_
                refine im_iadd hF dL_law_384 ?_
                refine im_sld2 hF hX dL_law_385 (fun h57 => ?_)
                refine im_aload_n hF dL_law_386 0 rfl ?_
                refine im_iload_n hF dL_law_387 3 rfl ?_
                refine im_iconst hF dL_law_388 (v := (3 : Int32)) (by decide) ?_
                refine im_iadd hF dL_law_389 ?_
                refine im_sld2 hF hX dL_law_390 (fun h58 => ?_)
                refine im_callVI hF (As := [.int (xs (a3 + (1 : Int32)).toNatClampNeg), .int (xs (a3 + (2 : Int32)).toNatClampNeg), .int (xs (a3 + (3 : Int32)).toNatClampNeg)]) (rest := []) my_X9_broken mv_X9_broken wl_435 (fun l r hr => c_X9_broken l g hI (xs (a3 + (1 : Int32)).toNatClampNeg) (xs (a3 + (2 : Int32)).toNatClampNeg) (xs (a3 + (3 : Int32)).toNatClampNeg) s0 r hr) ⟨by decide, by decide⟩ (by decide) (by decide) ⟨_, rfl, rfl⟩ rfl rfl (Nat.le_of_ble_eq_true rfl) dL_law_391 (fun q59 => ?_)
                refine im_aload_n hF dL_law_394 2 rfl ?_
                refine im_aload_n hF dL_law_395 0 rfl ?_
                refine im_iload_n hF dL_law_396 3 rfl ?_
                refine im_iconst hF dL_law_397 (v := (1 : Int32)) (by decide) ?_
                refine im_iadd hF dL_law_398 ?_
                refine im_sld2 hF hX dL_law_399 (fun h60 => ?_)
                refine im_aload_n hF dL_law_400 0 rfl ?_
                refine im_iload_n hF dL_law_401 3 rfl ?_
                refine im_iconst hF dL_law_402 (v := (2 : Int32)) (by decide) ?_
                refine im_iadd hF dL_law_403 ?_
                refine im_sld2 hF hX dL_law_404 (fun h61 => ?_)
                refine im_aload_n hF dL_law_405 0 rfl ?_
                refine im_iload_n hF dL_law_406 3 rfl ?_
                refine im_iconst hF dL_law_407 (v := (3 : Int32)) (by decide) ?_
                refine im_iadd hF dL_law_408 ?_
                refine im_sld2 hF hX dL_law_409 (fun h62 => ?_)
                refine im_callVI hF (As := [.int (xs (a3 + (1 : Int32)).toNatClampNeg), .int (xs (a3 + (2 : Int32)).toNatClampNeg), .int (xs (a3 + (3 : Int32)).toNatClampNeg)]) (rest := [.int q59.1]) my_X10_broken mv_X10_broken wl_960 (fun l r hr => c_X10_broken l g hI (xs (a3 + (1 : Int32)).toNatClampNeg) (xs (a3 + (2 : Int32)).toNatClampNeg) (xs (a3 + (3 : Int32)).toNatClampNeg) q59.2 r hr) ⟨by decide, by decide⟩ (by decide) (by decide) ⟨_, rfl, rfl⟩ rfl rfl (Nat.le_of_ble_eq_true rfl) dL_law_410 (fun q63 => ?_)
                refine im_icmp_eq hF 907 dL_law_413 (by decide) (fun _ => ?_) (fun _ => ?_)
                · refine im_iinc hF dL_law_907 (v := (a3 + (6 : Int32))) (lv' := [(3, .int (a3 + (6 : Int32))), (0, .ref b), (1, .ref (g.2.1 9 0)), (2, .ref (g.2.1 10 0))]) 3 rfl rfl (by decide) rfl ?_
                  refine im_goto hF 18 dL_law_910 (by decide) ?_
                  refine im_sub (lv' := [(0, .ref b), (1, .ref (g.2.1 9 0)), (2, .ref (g.2.1 10 0)), (3, .int (a3 + (6 : Int32)))]) [1, 2, 3, 0] rfl ?_
                  exact hk18 (a3 + (6 : Int32)) q63.2
                · refine im_iconst hF dL_law_416 (v := (0 : Int32)) (by decide) ?_
                  exact im_lawret hF hM dL_law_417
              · refine im_ite (fun h64 => ?_) (fun h64 => ?_)
                · refine im_tableIn hF 418 dL_law_33 (by rw [h64]; decide) (by rw [h64]; decide) (by rw [h64]; rfl) (by decide) ?_
                  refine im_aload_n hF dL_law_418 1 rfl ?_
                  refine im_aload_n hF dL_law_419 0 rfl ?_
                  refine im_iload_n hF dL_law_420 3 rfl ?_
                  refine im_iconst hF dL_law_421 (v := (1 : Int32)) (by decide) ?_
                  refine im_iadd hF dL_law_422 ?_
                  refine im_sld2 hF hX dL_law_423 (fun h65 => ?_)
                  refine im_aload_n hF dL_law_424 0 rfl ?_
                  refine im_iload_n hF dL_law_425 3 rfl ?_
                  refine im_iconst hF dL_law_426 (v := (2 : Int32)) (by decide) ?_
                  refine im_iadd hF dL_law_427 ?_
                  refine im_sld2 hF hX dL_law_428 (fun h66 => ?_)
                  refine im_aload_n hF dL_law_429 0 rfl ?_
                  refine im_iload_n hF dL_law_430 3 rfl ?_
                  refine im_iconst hF dL_law_431 (v := (3 : Int32)) (by decide) ?_
                  refine im_iadd hF dL_law_432 ?_
                  refine im_sld2 hF hX dL_law_433 (fun h67 => ?_)
                  refine im_aload_n hF dL_law_434 0 rfl ?_
                  refine im_iload_n hF dL_law_435 3 rfl ?_
                  refine im_iconst hF dL_law_436 (v := (4 : Int32)) (by decide) ?_
                  refine im_iadd hF dL_law_437 ?_
                  refine im_sld2 hF hX dL_law_438 (fun h68 => ?_)
                  refine im_callVI hF (As := [.int (xs (a3 + (1 : Int32)).toNatClampNeg), .int (xs (a3 + (2 : Int32)).toNatClampNeg), .int (xs (a3 + (3 : Int32)).toNatClampNeg), .int (xs (a3 + (4 : Int32)).toNatClampNeg)]) (rest := []) my_X9_meet mv_X9_meet wl_443 (fun l r hr => c_X9_meet l g hI (xs (a3 + (1 : Int32)).toNatClampNeg) (xs (a3 + (2 : Int32)).toNatClampNeg) (xs (a3 + (3 : Int32)).toNatClampNeg) (xs (a3 + (4 : Int32)).toNatClampNeg) s0 r hr) ⟨by decide, by decide⟩ (by decide) (by decide) ⟨_, rfl, rfl⟩ rfl rfl (Nat.le_of_ble_eq_true rfl) dL_law_439 (fun q69 => ?_)
                  refine im_aload_n hF dL_law_442 2 rfl ?_
                  refine im_aload_n hF dL_law_443 0 rfl ?_
                  refine im_iload_n hF dL_law_444 3 rfl ?_
                  refine im_iconst hF dL_law_445 (v := (1 : Int32)) (by decide) ?_
                  refine im_iadd hF dL_law_446 ?_
                  refine im_sld2 hF hX dL_law_447 (fun h70 => ?_)
                  refine im_aload_n hF dL_law_448 0 rfl ?_
                  refine im_iload_n hF dL_law_449 3 rfl ?_
                  refine im_iconst hF dL_law_450 (v := (2 : Int32)) (by decide) ?_
                  refine im_iadd hF dL_law_451 ?_
                  refine im_sld2 hF hX dL_law_452 (fun h71 => ?_)
                  refine im_aload_n hF dL_law_453 0 rfl ?_
                  refine im_iload_n hF dL_law_454 3 rfl ?_
                  refine im_iconst hF dL_law_455 (v := (3 : Int32)) (by decide) ?_
                  refine im_iadd hF dL_law_456 ?_
                  refine im_sld2 hF hX dL_law_457 (fun h72 => ?_)
                  refine im_aload_n hF dL_law_458 0 rfl ?_
                  refine im_iload_n hF dL_law_459 3 rfl ?_
                  refine im_iconst hF dL_law_460 (v := (4 : Int32)) (by decide) ?_
                  refine im_iadd hF dL_law_461 ?_
                  refine im_sld2 hF hX dL_law_462 (fun h73 => ?_)
                  refine im_callVI hF (As := [.int (xs (a3 + (1 : Int32)).toNatClampNeg), .int (xs (a3 + (2 : Int32)).toNatClampNeg), .int (xs (a3 + (3 : Int32)).toNatClampNeg), .int (xs (a3 + (4 : Int32)).toNatClampNeg)]) (rest := [.int q69.1]) my_X10_meet mv_X10_meet wl_964 (fun l r hr => c_X10_meet l g hI (xs (a3 + (1 : Int32)).toNatClampNeg) (xs (a3 + (2 : Int32)).toNatClampNeg) (xs (a3 + (3 : Int32)).toNatClampNeg) (xs (a3 + (4 : Int32)).toNatClampNeg) q69.2 r hr) ⟨by decide, by decide⟩ (by decide) (by decide) ⟨_, rfl, rfl⟩ rfl rfl (Nat.le_of_ble_eq_true rfl) dL_law_463 (fun q74 => ?_)
                  refine im_icmp_eq hF 907 dL_law_466 (by decide) (fun _ => ?_) (fun _ => ?_)
                  · refine im_iinc hF dL_law_907 (v := (a3 + (6 : Int32))) (lv' := [(3, .int (a3 + (6 : Int32))), (0, .ref b), (1, .ref (g.2.1 9 0)), (2, .ref (g.2.1 10 0))]) 3 rfl rfl (by decide) rfl ?_
                    refine im_goto hF 18 dL_law_910 (by decide) ?_
                    refine im_sub (lv' := [(0, .ref b), (1, .ref (g.2.1 9 0)), (2, .ref (g.2.1 10 0)), (3, .int (a3 + (6 : Int32)))]) [1, 2, 3, 0] rfl ?_
                    exact hk18 (a3 + (6 : Int32)) q74.2
                  · refine im_iconst hF dL_law_469 (v := (0 : Int32)) (by decide) ?_
                    exact im_lawret hF hM dL_law_470
                · refine im_ite (fun h75 => ?_) (fun h75 => ?_)
                  · refine im_tableIn hF 471 dL_law_33 (by rw [h75]; decide) (by rw [h75]; decide) (by rw [h75]; rfl) (by decide) ?_
                    refine im_aload_n hF dL_law_471 1 rfl ?_
                    refine im_aload_n hF dL_law_472 0 rfl ?_
                    refine im_iload_n hF dL_law_473 3 rfl ?_
                    refine im_iconst hF dL_law_474 (v := (1 : Int32)) (by decide) ?_
                    refine im_iadd hF dL_law_475 ?_
                    refine im_sld2 hF hX dL_law_476 (fun h76 => ?_)
                    refine im_aload_n hF dL_law_477 0 rfl ?_
                    refine im_iload_n hF dL_law_478 3 rfl ?_
                    refine im_iconst hF dL_law_479 (v := (2 : Int32)) (by decide) ?_
                    refine im_iadd hF dL_law_480 ?_
                    refine im_sld2 hF hX dL_law_481 (fun h77 => ?_)
                    refine im_callVI hF (As := [.int (xs (a3 + (1 : Int32)).toNatClampNeg), .int (xs (a3 + (2 : Int32)).toNatClampNeg)]) (rest := []) my_X9_contract mv_X9_contract wl_451 (fun l r hr => c_X9_contract l g hI (xs (a3 + (1 : Int32)).toNatClampNeg) (xs (a3 + (2 : Int32)).toNatClampNeg) s0 r hr) ⟨by decide, by decide⟩ (by decide) (by decide) ⟨_, rfl, rfl⟩ rfl rfl (Nat.le_of_ble_eq_true rfl) dL_law_482 (fun q78 => ?_)
                    refine im_aload_n hF dL_law_485 2 rfl ?_
                    refine im_aload_n hF dL_law_486 0 rfl ?_
                    refine im_iload_n hF dL_law_487 3 rfl ?_
                    refine im_iconst hF dL_law_488 (v := (1 : Int32)) (by decide) ?_
                    refine im_iadd hF dL_law_489 ?_
                    refine im_sld2 hF hX dL_law_490 (fun h79 => ?_)
                    refine im_aload_n hF dL_law_491 0 rfl ?_
                    refine im_iload_n hF dL_law_492 3 rfl ?_
                    refine im_iconst hF dL_law_493 (v := (2 : Int32)) (by decide) ?_
                    refine im_iadd hF dL_law_494 ?_
                    refine im_sld2 hF hX dL_law_495 (fun h80 => ?_)
                    refine im_callVI hF (As := [.int (xs (a3 + (1 : Int32)).toNatClampNeg), .int (xs (a3 + (2 : Int32)).toNatClampNeg)]) (rest := [.int q78.1]) my_X10_contract mv_X10_contract wl_980 (fun l r hr => c_X10_contract l g hI (xs (a3 + (1 : Int32)).toNatClampNeg) (xs (a3 + (2 : Int32)).toNatClampNeg) q78.2 r hr) ⟨by decide, by decide⟩ (by decide) (by decide) ⟨_, rfl, rfl⟩ rfl rfl (Nat.le_of_ble_eq_true rfl) dL_law_496 (fun q81 => ?_)
                    refine im_icmp_eq hF 907 dL_law_499 (by decide) (fun _ => ?_) (fun _ => ?_)
                    · refine im_iinc hF dL_law_907 (v := (a3 + (6 : Int32))) (lv' := [(3, .int (a3 + (6 : Int32))), (0, .ref b), (1, .ref (g.2.1 9 0)), (2, .ref (g.2.1 10 0))]) 3 rfl rfl (by decide) rfl ?_
                      refine im_goto hF 18 dL_law_910 (by decide) ?_
                      refine im_sub (lv' := [(0, .ref b), (1, .ref (g.2.1 9 0)), (2, .ref (g.2.1 10 0)), (3, .int (a3 + (6 : Int32)))]) [1, 2, 3, 0] rfl ?_
                      exact hk18 (a3 + (6 : Int32)) q81.2
                    · refine im_iconst hF dL_law_502 (v := (0 : Int32)) (by decide) ?_
                      exact im_lawret hF hM dL_law_503
                  · refine im_ite (fun h82 => ?_) (fun h82 => ?_)
                    · refine im_tableIn hF 504 dL_law_33 (by rw [h82]; decide) (by rw [h82]; decide) (by rw [h82]; rfl) (by decide) ?_
                      refine im_aload_n hF dL_law_504 1 rfl ?_
                      refine im_aload_n hF dL_law_505 0 rfl ?_
                      refine im_iload_n hF dL_law_506 3 rfl ?_
                      refine im_iconst hF dL_law_507 (v := (1 : Int32)) (by decide) ?_
                      refine im_iadd hF dL_law_508 ?_
                      refine im_sld2 hF hX dL_law_509 (fun h83 => ?_)
                      refine im_callVI hF (As := [.int (xs (a3 + (1 : Int32)).toNatClampNeg)]) (rest := []) my_X9_fault mv_X9_fault wl_523 (fun l r hr => c_X9_fault l g hI (xs (a3 + (1 : Int32)).toNatClampNeg) s0 r hr) ⟨by decide, by decide⟩ (by decide) (by decide) ⟨_, rfl, rfl⟩ rfl rfl (Nat.le_of_ble_eq_true rfl) dL_law_510 (fun q84 => ?_)
                      refine im_aload_n hF dL_law_513 2 rfl ?_
                      refine im_aload_n hF dL_law_514 0 rfl ?_
                      refine im_iload_n hF dL_law_515 3 rfl ?_
                      refine im_iconst hF dL_law_516 (v := (1 : Int32)) (by decide) ?_
                      refine im_iadd hF dL_law_517 ?_
                      refine im_sld2 hF hX dL_law_518 (fun h85 => ?_)
                      refine im_callVI hF (As := [.int (xs (a3 + (1 : Int32)).toNatClampNeg)]) (rest := [.int q84.1]) my_X10_fault mv_X10_fault wl_1039 (fun l r hr => c_X10_fault l g hI (xs (a3 + (1 : Int32)).toNatClampNeg) q84.2 r hr) ⟨by decide, by decide⟩ (by decide) (by decide) ⟨_, rfl, rfl⟩ rfl rfl (Nat.le_of_ble_eq_true rfl) dL_law_519 (fun q86 => ?_)
                      refine im_icmp_eq hF 907 dL_law_522 (by decide) (fun _ => ?_) (fun _ => ?_)
                      · refine im_iinc hF dL_law_907 (v := (a3 + (6 : Int32))) (lv' := [(3, .int (a3 + (6 : Int32))), (0, .ref b), (1, .ref (g.2.1 9 0)), (2, .ref (g.2.1 10 0))]) 3 rfl rfl (by decide) rfl ?_
                        refine im_goto hF 18 dL_law_910 (by decide) ?_
                        refine im_sub (lv' := [(0, .ref b), (1, .ref (g.2.1 9 0)), (2, .ref (g.2.1 10 0)), (3, .int (a3 + (6 : Int32)))]) [1, 2, 3, 0] rfl ?_
                        exact hk18 (a3 + (6 : Int32)) q86.2
                      · refine im_iconst hF dL_law_525 (v := (0 : Int32)) (by decide) ?_
                        exact im_lawret hF hM dL_law_526
                    · refine im_ite (fun h87 => ?_) (fun h87 => ?_)
                      · refine im_tableIn hF 527 dL_law_33 (by rw [h87]; decide) (by rw [h87]; decide) (by rw [h87]; rfl) (by decide) ?_
                        refine im_aload_n hF dL_law_527 1 rfl ?_
                        refine im_aload_n hF dL_law_528 0 rfl ?_
                        refine im_iload_n hF dL_law_529 3 rfl ?_
                        refine im_iconst hF dL_law_530 (v := (1 : Int32)) (by decide) ?_
                        refine im_iadd hF dL_law_531 ?_
                        refine im_sld2 hF hX dL_law_532 (fun h88 => ?_)
                        refine im_aload_n hF dL_law_533 0 rfl ?_
                        refine im_iload_n hF dL_law_534 3 rfl ?_
                        refine im_iconst hF dL_law_535 (v := (2 : Int32)) (by decide) ?_
                        refine im_iadd hF dL_law_536 ?_
                        refine im_sld2 hF hX dL_law_537 (fun h89 => ?_)
                        refine im_aload_n hF dL_law_538 0 rfl ?_
                        refine im_iload_n hF dL_law_539 3 rfl ?_
                        refine im_iconst hF dL_law_540 (v := (3 : Int32)) (by decide) ?_
                        refine im_iadd hF dL_law_541 ?_
                        refine im_sld2 hF hX dL_law_542 (fun h90 => ?_)
                        refine im_callVI hF (As := [.int (xs (a3 + (1 : Int32)).toNatClampNeg), .int (xs (a3 + (2 : Int32)).toNatClampNeg), .int (xs (a3 + (3 : Int32)).toNatClampNeg)]) (rest := []) my_X9_due mv_X9_due wl_527 (fun l r hr => c_X9_due l g hI (xs (a3 + (1 : Int32)).toNatClampNeg) (xs (a3 + (2 : Int32)).toNatClampNeg) (xs (a3 + (3 : Int32)).toNatClampNeg) s0 r hr) ⟨by decide, by decide⟩ (by decide) (by decide) ⟨_, rfl, rfl⟩ rfl rfl (Nat.le_of_ble_eq_true rfl) dL_law_543 (fun q91 => ?_)
                        refine im_aload_n hF dL_law_546 2 rfl ?_
                        refine im_aload_n hF dL_law_547 0 rfl ?_
                        refine im_iload_n hF dL_law_548 3 rfl ?_
                        refine im_iconst hF dL_law_549 (v := (1 : Int32)) (by decide) ?_
                        refine im_iadd hF dL_law_550 ?_
                        refine im_sld2 hF hX dL_law_551 (fun h92 => ?_)
                        refine im_aload_n hF dL_law_552 0 rfl ?_
                        refine im_iload_n hF dL_law_553 3 rfl ?_
                        refine im_iconst hF dL_law_554 (v := (2 : Int32)) (by decide) ?_
                        refine im_iadd hF dL_law_555 ?_
                        refine im_sld2 hF hX dL_law_556 (fun h93 => ?_)
                        refine im_aload_n hF dL_law_557 0 rfl ?_
                        refine im_iload_n hF dL_law_558 3 rfl ?_
                        refine im_iconst hF dL_law_559 (v := (3 : Int32)) (by decide) ?_
                        refine im_iadd hF dL_law_560 ?_
                        refine im_sld2 hF hX dL_law_561 (fun h94 => ?_)
                        refine im_callVI hF (As := [.int (xs (a3 + (1 : Int32)).toNatClampNeg), .int (xs (a3 + (2 : Int32)).toNatClampNeg), .int (xs (a3 + (3 : Int32)).toNatClampNeg)]) (rest := [.int q91.1]) my_X10_due mv_X10_due wl_1043 (fun l r hr => c_X10_due l g hI (xs (a3 + (1 : Int32)).toNatClampNeg) (xs (a3 + (2 : Int32)).toNatClampNeg) (xs (a3 + (3 : Int32)).toNatClampNeg) q91.2 r hr) ⟨by decide, by decide⟩ (by decide) (by decide) ⟨_, rfl, rfl⟩ rfl rfl (Nat.le_of_ble_eq_true rfl) dL_law_562 (fun q95 => ?_)
                        refine im_icmp_eq hF 907 dL_law_565 (by decide) (fun _ => ?_) (fun _ => ?_)
                        · refine im_iinc hF dL_law_907 (v := (a3 + (6 : Int32))) (lv' := [(3, .int (a3 + (6 : Int32))), (0, .ref b), (1, .ref (g.2.1 9 0)), (2, .ref (g.2.1 10 0))]) 3 rfl rfl (by decide) rfl ?_
                          refine im_goto hF 18 dL_law_910 (by decide) ?_
                          refine im_sub (lv' := [(0, .ref b), (1, .ref (g.2.1 9 0)), (2, .ref (g.2.1 10 0)), (3, .int (a3 + (6 : Int32)))]) [1, 2, 3, 0] rfl ?_
                          exact hk18 (a3 + (6 : Int32)) q95.2
                        · refine im_iconst hF dL_law_568 (v := (0 : Int32)) (by decide) ?_
                          exact im_lawret hF hM dL_law_569
                      · refine im_ite (fun h96 => ?_) (fun h96 => ?_)
                        · refine im_tableIn hF 570 dL_law_33 (by rw [h96]; decide) (by rw [h96]; decide) (by rw [h96]; rfl) (by decide) ?_
                          refine im_aload_n hF dL_law_570 1 rfl ?_
                          refine im_aload_n hF dL_law_571 0 rfl ?_
                          refine im_iload_n hF dL_law_572 3 rfl ?_
                          refine im_iconst hF dL_law_573 (v := (1 : Int32)) (by decide) ?_
                          refine im_iadd hF dL_law_574 ?_
                          refine im_sld2 hF hX dL_law_575 (fun h97 => ?_)
                          refine im_aload_n hF dL_law_576 0 rfl ?_
                          refine im_iload_n hF dL_law_577 3 rfl ?_
                          refine im_iconst hF dL_law_578 (v := (2 : Int32)) (by decide) ?_
                          refine im_iadd hF dL_law_579 ?_
                          refine im_sld2 hF hX dL_law_580 (fun h98 => ?_)
                          refine im_aload_n hF dL_law_581 0 rfl ?_
                          refine im_iload_n hF dL_law_582 3 rfl ?_
                          refine im_iconst hF dL_law_583 (v := (3 : Int32)) (by decide) ?_
                          refine im_iadd hF dL_law_584 ?_
                          refine im_sld2 hF hX dL_law_585 (fun h99 => ?_)
                          refine im_callVI hF (As := [.int (xs (a3 + (1 : Int32)).toNatClampNeg), .int (xs (a3 + (2 : Int32)).toNatClampNeg), .int (xs (a3 + (3 : Int32)).toNatClampNeg)]) (rest := []) my_X9_truth mv_X9_truth wl_531 (fun l r hr => c_X9_truth l g hI (xs (a3 + (1 : Int32)).toNatClampNeg) (xs (a3 + (2 : Int32)).toNatClampNeg) (xs (a3 + (3 : Int32)).toNatClampNeg) s0 r hr) ⟨by decide, by decide⟩ (by decide) (by decide) ⟨_, rfl, rfl⟩ rfl rfl (Nat.le_of_ble_eq_true rfl) dL_law_586 (fun q100 => ?_)
                          refine im_aload_n hF dL_law_589 2 rfl ?_
                          refine im_aload_n hF dL_law_590 0 rfl ?_
                          refine im_iload_n hF dL_law_591 3 rfl ?_
                          refine im_iconst hF dL_law_592 (v := (1 : Int32)) (by decide) ?_
                          refine im_iadd hF dL_law_593 ?_
                          refine im_sld2 hF hX dL_law_594 (fun h101 => ?_)
                          refine im_aload_n hF dL_law_595 0 rfl ?_
                          refine im_iload_n hF dL_law_596 3 rfl ?_
                          refine im_iconst hF dL_law_597 (v := (2 : Int32)) (by decide) ?_
                          refine im_iadd hF dL_law_598 ?_
                          refine im_sld2 hF hX dL_law_599 (fun h102 => ?_)
                          refine im_aload_n hF dL_law_600 0 rfl ?_
                          refine im_iload_n hF dL_law_601 3 rfl ?_
                          refine im_iconst hF dL_law_602 (v := (3 : Int32)) (by decide) ?_
                          refine im_iadd hF dL_law_603 ?_
                          refine im_sld2 hF hX dL_law_604 (fun h103 => ?_)
                          refine im_callVI hF (As := [.int (xs (a3 + (1 : Int32)).toNatClampNeg), .int (xs (a3 + (2 : Int32)).toNatClampNeg), .int (xs (a3 + (3 : Int32)).toNatClampNeg)]) (rest := [.int q100.1]) my_X10_truth mv_X10_truth wl_1062 (fun l r hr => c_X10_truth l g hI (xs (a3 + (1 : Int32)).toNatClampNeg) (xs (a3 + (2 : Int32)).toNatClampNeg) (xs (a3 + (3 : Int32)).toNatClampNeg) q100.2 r hr) ⟨by decide, by decide⟩ (by decide) (by decide) ⟨_, rfl, rfl⟩ rfl rfl (Nat.le_of_ble_eq_true rfl) dL_law_605 (fun q104 => ?_)
                          refine im_icmp_eq hF 907 dL_law_608 (by decide) (fun _ => ?_) (fun _ => ?_)
                          · refine im_iinc hF dL_law_907 (v := (a3 + (6 : Int32))) (lv' := [(3, .int (a3 + (6 : Int32))), (0, .ref b), (1, .ref (g.2.1 9 0)), (2, .ref (g.2.1 10 0))]) 3 rfl rfl (by decide) rfl ?_
                            refine im_goto hF 18 dL_law_910 (by decide) ?_
                            refine im_sub (lv' := [(0, .ref b), (1, .ref (g.2.1 9 0)), (2, .ref (g.2.1 10 0)), (3, .int (a3 + (6 : Int32)))]) [1, 2, 3, 0] rfl ?_
                            exact hk18 (a3 + (6 : Int32)) q104.2
                          · refine im_iconst hF dL_law_611 (v := (0 : Int32)) (by decide) ?_
                            exact im_lawret hF hM dL_law_612
                        · refine im_ite (fun h105 => ?_) (fun h105 => ?_)
                          · refine im_tableIn hF 613 dL_law_33 (by rw [h105]; decide) (by rw [h105]; decide) (by rw [h105]; rfl) (by decide) ?_
                            refine im_aload_n hF dL_law_613 1 rfl ?_
                            refine im_aload_n hF dL_law_614 0 rfl ?_
                            refine im_iload_n hF dL_law_615 3 rfl ?_
                            refine im_iconst hF dL_law_616 (v := (1 : Int32)) (by decide) ?_
                            refine im_iadd hF dL_law_617 ?_
                            refine im_sld2 hF hX dL_law_618 (fun h106 => ?_)
                            refine im_aload_n hF dL_law_619 0 rfl ?_
                            refine im_iload_n hF dL_law_620 3 rfl ?_
                            refine im_iconst hF dL_law_621 (v := (2 : Int32)) (by decide) ?_
                            refine im_iadd hF dL_law_622 ?_
                            refine im_sld2 hF hX dL_law_623 (fun h107 => ?_)
                            refine im_aload_n hF dL_law_624 0 rfl ?_
                            refine im_iload_n hF dL_law_625 3 rfl ?_
                            refine im_iconst hF dL_law_626 (v := (3 : Int32)) (by decide) ?_
                            refine im_iadd hF dL_law_627 ?_
                            refine im_sld2 hF hX dL_law_628 (fun h108 => ?_)
                            refine im_callVI hF (As := [.int (xs (a3 + (1 : Int32)).toNatClampNeg), .int (xs (a3 + (2 : Int32)).toNatClampNeg), .int (xs (a3 + (3 : Int32)).toNatClampNeg)]) (rest := []) my_X9_share mv_X9_share wl_652 (fun l r hr => c_X9_share l g hI (xs (a3 + (1 : Int32)).toNatClampNeg) (xs (a3 + (2 : Int32)).toNatClampNeg) (xs (a3 + (3 : Int32)).toNatClampNeg) s0 r hr) ⟨by decide, by decide⟩ (by decide) (by decide) ⟨_, rfl, rfl⟩ rfl rfl (Nat.le_of_ble_eq_true rfl) dL_law_629 (fun q109 => ?_)
                            refine im_aload_n hF dL_law_632 2 rfl ?_
                            refine im_aload_n hF dL_law_633 0 rfl ?_
                            refine im_iload_n hF dL_law_634 3 rfl ?_
                            refine im_iconst hF dL_law_635 (v := (1 : Int32)) (by decide) ?_
                            refine im_iadd hF dL_law_636 ?_
                            refine im_sld2 hF hX dL_law_637 (fun h110 => ?_)
                            refine im_aload_n hF dL_law_638 0 rfl ?_
                            refine im_iload_n hF dL_law_639 3 rfl ?_
                            refine im_iconst hF dL_law_640 (v := (2 : Int32)) (by decide) ?_
                            refine im_iadd hF dL_law_641 ?_
                            refine im_sld2 hF hX dL_law_642 (fun h111 => ?_)
                            refine im_aload_n hF dL_law_643 0 rfl ?_
                            refine im_iload_n hF dL_law_644 3 rfl ?_
                            refine im_iconst hF dL_law_645 (v := (3 : Int32)) (by decide) ?_
                            refine im_iadd hF dL_law_646 ?_
                            refine im_sld2 hF hX dL_law_647 (fun h112 => ?_)
                            refine im_callVI hF (As := [.int (xs (a3 + (1 : Int32)).toNatClampNeg), .int (xs (a3 + (2 : Int32)).toNatClampNeg), .int (xs (a3 + (3 : Int32)).toNatClampNeg)]) (rest := [.int q109.1]) my_X10_share mv_X10_share wl_1097 (fun l r hr => c_X10_share l g hI (xs (a3 + (1 : Int32)).toNatClampNeg) (xs (a3 + (2 : Int32)).toNatClampNeg) (xs (a3 + (3 : Int32)).toNatClampNeg) q109.2 r hr) ⟨by decide, by decide⟩ (by decide) (by decide) ⟨_, rfl, rfl⟩ rfl rfl (Nat.le_of_ble_eq_true rfl) dL_law_648 (fun q113 => ?_)
                            refine im_icmp_eq hF 907 dL_law_651 (by decide) (fun _ => ?_) (fun _ => ?_)
                            · refine im_iinc hF dL_law_907 (v := (a3 + (6 : Int32))) (lv' := [(3, .int (a3 + (6 : Int32))), (0, .ref b), (1, .ref (g.2.1 9 0)), (2, .ref (g.2.1 10 0))]) 3 rfl rfl (by decide) rfl ?_
                              refine im_goto hF 18 dL_law_910 (by decide) ?_
                              refine im_sub (lv' := [(0, .ref b), (1, .ref (g.2.1 9 0)), (2, .ref (g.2.1 10 0)), (3, .int (a3 + (6 : Int32)))]) [1, 2, 3, 0] rfl ?_
                              exact hk18 (a3 + (6 : Int32)) q113.2
                            · refine im_iconst hF dL_law_654 (v := (0 : Int32)) (by decide) ?_
                              exact im_lawret hF hM dL_law_655
                          · refine im_ite (fun h114 => ?_) (fun h114 => ?_)
                            · refine im_tableIn hF 656 dL_law_33 (by rw [h114]; decide) (by rw [h114]; decide) (by rw [h114]; rfl) (by decide) ?_
                              refine im_aload_n hF dL_law_656 1 rfl ?_
                              refine im_aload_n hF dL_law_657 0 rfl ?_
                              refine im_iload_n hF dL_law_658 3 rfl ?_
                              refine im_iconst hF dL_law_659 (v := (1 : Int32)) (by decide) ?_
                              refine im_iadd hF dL_law_660 ?_
                              refine im_sld2 hF hX dL_law_661 (fun h115 => ?_)
                              refine im_callVL hF (As := [.int (xs (a3 + (1 : Int32)).toNatClampNeg)]) (rest := []) my_X9_owed mv_X9_owed wl_660 (fun l r hr => c_X9_owed l g hI (xs (a3 + (1 : Int32)).toNatClampNeg) s0 r hr) ⟨by decide, by decide⟩ (by decide) (by decide) ⟨_, rfl, rfl⟩ rfl rfl (Nat.le_of_ble_eq_true rfl) dL_law_662 (fun q116 => ?_)
                              refine im_aload_n hF dL_law_665 2 rfl ?_
                              refine im_aload_n hF dL_law_666 0 rfl ?_
                              refine im_iload_n hF dL_law_667 3 rfl ?_
                              refine im_iconst hF dL_law_668 (v := (1 : Int32)) (by decide) ?_
                              refine im_iadd hF dL_law_669 ?_
                              refine im_sld2 hF hX dL_law_670 (fun h117 => ?_)
                              refine im_callVL hF (As := [.int (xs (a3 + (1 : Int32)).toNatClampNeg)]) (rest := [.long q116.1]) my_X10_owed mv_X10_owed wl_1101 (fun l r hr => c_X10_owed l g hI (xs (a3 + (1 : Int32)).toNatClampNeg) q116.2 r hr) ⟨by decide, by decide⟩ (by decide) (by decide) ⟨_, rfl, rfl⟩ rfl rfl (Nat.le_of_ble_eq_true rfl) dL_law_671 (fun q118 => ?_)
                              refine im_lcmp hF dL_law_674 ?_
                              refine im_if_eq hF 907 dL_law_675 (by decide) (fun _ => ?_) (fun _ => ?_)
                              · refine im_iinc hF dL_law_907 (v := (a3 + (6 : Int32))) (lv' := [(3, .int (a3 + (6 : Int32))), (0, .ref b), (1, .ref (g.2.1 9 0)), (2, .ref (g.2.1 10 0))]) 3 rfl rfl (by decide) rfl ?_
                                refine im_goto hF 18 dL_law_910 (by decide) ?_
                                refine im_sub (lv' := [(0, .ref b), (1, .ref (g.2.1 9 0)), (2, .ref (g.2.1 10 0)), (3, .int (a3 + (6 : Int32)))]) [1, 2, 3, 0] rfl ?_
                                exact hk18 (a3 + (6 : Int32)) q118.2
                              · refine im_iconst hF dL_law_678 (v := (0 : Int32)) (by decide) ?_
                                exact im_lawret hF hM dL_law_679
                            · refine im_ite (fun h119 => ?_) (fun h119 => ?_)
                              · refine im_tableIn hF 680 dL_law_33 (by rw [h119]; decide) (by rw [h119]; decide) (by rw [h119]; rfl) (by decide) ?_
                                refine im_aload_n hF dL_law_680 1 rfl ?_
                                refine im_aload_n hF dL_law_681 0 rfl ?_
                                refine im_iload_n hF dL_law_682 3 rfl ?_
                                refine im_iconst hF dL_law_683 (v := (1 : Int32)) (by decide) ?_
                                refine im_iadd hF dL_law_684 ?_
                                refine im_sld2 hF hX dL_law_685 (fun h120 => ?_)
                                refine im_aload_n hF dL_law_686 0 rfl ?_
                                refine im_iload_n hF dL_law_687 3 rfl ?_
                                refine im_iconst hF dL_law_688 (v := (2 : Int32)) (by decide) ?_
                                refine im_iadd hF dL_law_689 ?_
                                refine im_sld2 hF hX dL_law_690 (fun h121 => ?_)
                                refine im_aload_n hF dL_law_691 0 rfl ?_
                                refine im_iload_n hF dL_law_692 3 rfl ?_
                                refine im_iconst hF dL_law_693 (v := (3 : Int32)) (by decide) ?_
                                refine im_iadd hF dL_law_694 ?_
                                refine im_sld2 hF hX dL_law_695 (fun h122 => ?_)
                                refine im_aload_n hF dL_law_696 0 rfl ?_
                                refine im_iload_n hF dL_law_697 3 rfl ?_
                                refine im_iconst hF dL_law_698 (v := (4 : Int32)) (by decide) ?_
                                refine im_iadd hF dL_law_699 ?_
                                refine im_sld2 hF hX dL_law_700 (fun h123 => ?_)
                                refine im_if_eq hF 708 dL_law_701 (by decide) (fun _ => ?_) (fun _ => ?_)
                                · refine im_iconst hF dL_law_708 (v := (0 : Int32)) (by decide) ?_
                                  exact (i_law_B709 X g b L xs hF hM hX hI k18 hk18) a3 (xs (a3 + (1 : Int32)).toNatClampNeg) (xs (a3 + (2 : Int32)).toNatClampNeg) (xs (a3 + (3 : Int32)).toNatClampNeg) (0 : Int32) s0
                                · refine im_iconst hF dL_law_704 (v := (1 : Int32)) (by decide) ?_
                                  refine im_goto hF 709 dL_law_705 (by decide) ?_
                                  exact (i_law_B709 X g b L xs hF hM hX hI k18 hk18) a3 (xs (a3 + (1 : Int32)).toNatClampNeg) (xs (a3 + (2 : Int32)).toNatClampNeg) (xs (a3 + (3 : Int32)).toNatClampNeg) (1 : Int32) s0
                              · refine im_ite (fun h124 => ?_) (fun h124 => ?_)
                                · refine im_tableIn hF 749 dL_law_33 (by rw [h124]; decide) (by rw [h124]; decide) (by rw [h124]; rfl) (by decide) ?_
                                  refine im_aload_n hF dL_law_749 1 rfl ?_
                                  refine im_aload_n hF dL_law_750 0 rfl ?_
                                  refine im_iload_n hF dL_law_751 3 rfl ?_
                                  refine im_iconst hF dL_law_752 (v := (1 : Int32)) (by decide) ?_
                                  refine im_iadd hF dL_law_753 ?_
                                  refine im_sld2 hF hX dL_law_754 (fun h125 => ?_)
                                  refine im_aload_n hF dL_law_755 0 rfl ?_
                                  refine im_iload_n hF dL_law_756 3 rfl ?_
                                  refine im_iconst hF dL_law_757 (v := (2 : Int32)) (by decide) ?_
                                  refine im_iadd hF dL_law_758 ?_
                                  refine im_sld2 hF hX dL_law_759 (fun h126 => ?_)
                                  refine im_aload_n hF dL_law_760 0 rfl ?_
                                  refine im_iload_n hF dL_law_761 3 rfl ?_
                                  refine im_iconst hF dL_law_762 (v := (3 : Int32)) (by decide) ?_
                                  refine im_iadd hF dL_law_763 ?_
                                  refine im_sld2 hF hX dL_law_764 (fun h127 => ?_)
                                  refine im_aload_n hF dL_law_765 0 rfl ?_
                                  refine im_iload_n hF dL_law_766 3 rfl ?_
                                  refine im_iconst hF dL_law_767 (v := (4 : Int32)) (by decide) ?_
                                  refine im_iadd hF dL_law_768 ?_
                                  refine im_sld2 hF hX dL_law_769 (fun h128 => ?_)
                                  refine im_if_eq hF 777 dL_law_770 (by decide) (fun _ => ?_) (fun _ => ?_)
                                  · refine im_iconst hF dL_law_777 (v := (0 : Int32)) (by decide) ?_
                                    exact (i_law_B778 X g b L xs hF hM hX hI k18 hk18) a3 (xs (a3 + (1 : Int32)).toNatClampNeg) (xs (a3 + (2 : Int32)).toNatClampNeg) (xs (a3 + (3 : Int32)).toNatClampNeg) (0 : Int32) s0
                                  · refine im_iconst hF dL_law_773 (v := (1 : Int32)) (by decide) ?_
                                    refine im_goto hF 778 dL_law_774 (by decide) ?_
                                    exact (i_law_B778 X g b L xs hF hM hX hI k18 hk18) a3 (xs (a3 + (1 : Int32)).toNatClampNeg) (xs (a3 + (2 : Int32)).toNatClampNeg) (xs (a3 + (3 : Int32)).toNatClampNeg) (1 : Int32) s0
                                · refine im_ite (fun h129 => ?_) (fun h129 => ?_)
                                  · refine im_tableIn hF 818 dL_law_33 (by rw [h129]; decide) (by rw [h129]; decide) (by rw [h129]; rfl) (by decide) ?_
                                    refine im_aload_n hF dL_law_818 1 rfl ?_
                                    refine im_aload_n hF dL_law_819 0 rfl ?_
                                    refine im_iload_n hF dL_law_820 3 rfl ?_
                                    refine im_iconst hF dL_law_821 (v := (1 : Int32)) (by decide) ?_
                                    refine im_iadd hF dL_law_822 ?_
                                    refine im_sld2 hF hX dL_law_823 (fun h130 => ?_)
                                    refine im_aload_n hF dL_law_824 0 rfl ?_
                                    refine im_iload_n hF dL_law_825 3 rfl ?_
                                    refine im_iconst hF dL_law_826 (v := (2 : Int32)) (by decide) ?_
                                    refine im_iadd hF dL_law_827 ?_
                                    refine im_sld2 hF hX dL_law_828 (fun h131 => ?_)
                                    refine im_callVI hF (As := [.int (xs (a3 + (1 : Int32)).toNatClampNeg), .int (xs (a3 + (2 : Int32)).toNatClampNeg)]) (rest := []) my_X9_ride mv_X9_ride wl_737 (fun l r hr => c_X9_ride l g hI (xs (a3 + (1 : Int32)).toNatClampNeg) (xs (a3 + (2 : Int32)).toNatClampNeg) s0 r hr) ⟨by decide, by decide⟩ (by decide) (by decide) ⟨_, rfl, rfl⟩ rfl rfl (Nat.le_of_ble_eq_true rfl) dL_law_829 (fun q132 => ?_)
                                    refine im_aload_n hF dL_law_832 2 rfl ?_
                                    refine im_aload_n hF dL_law_833 0 rfl ?_
                                    refine im_iload_n hF dL_law_834 3 rfl ?_
                                    refine im_iconst hF dL_law_835 (v := (1 : Int32)) (by decide) ?_
                                    refine im_iadd hF dL_law_836 ?_
                                    refine im_sld2 hF hX dL_law_837 (fun h133 => ?_)
                                    refine im_aload_n hF dL_law_838 0 rfl ?_
                                    refine im_iload_n hF dL_law_839 3 rfl ?_
                                    refine im_iconst hF dL_law_840 (v := (2 : Int32)) (by decide) ?_
                                    refine im_iadd hF dL_law_841 ?_
                                    refine im_sld2 hF hX dL_law_842 (fun h134 => ?_)
                                    refine im_callVI hF (As := [.int (xs (a3 + (1 : Int32)).toNatClampNeg), .int (xs (a3 + (2 : Int32)).toNatClampNeg)]) (rest := [.int q132.1]) my_X10_ride mv_X10_ride wl_1138 (fun l r hr => c_X10_ride l g hI (xs (a3 + (1 : Int32)).toNatClampNeg) (xs (a3 + (2 : Int32)).toNatClampNeg) q132.2 r hr) ⟨by decide, by decide⟩ (by decide) (by decide) ⟨_, rfl, rfl⟩ rfl rfl (Nat.le_of_ble_eq_true rfl) dL_law_843 (fun q135 => ?_)
                                    refine im_icmp_eq hF 907 dL_law_846 (by decide) (fun _ => ?_) (fun _ => ?_)
                                    · refine im_iinc hF dL_law_907 (v := (a3 + (6 : Int32))) (lv' := [(3, .int (a3 + (6 : Int32))), (0, .ref b), (1, .ref (g.2.1 9 0)), (2, .ref (g.2.1 10 0))]) 3 rfl rfl (by decide) rfl ?_
                                      refine im_goto hF 18 dL_law_910 (by decide) ?_
                                      refine im_sub (lv' := [(0, .ref b), (1, .ref (g.2.1 9 0)), (2, .ref (g.2.1 10 0)), (3, .int (a3 + (6 : Int32)))]) [1, 2, 3, 0] rfl ?_
                                      exact hk18 (a3 + (6 : Int32)) q135.2
                                    · refine im_iconst hF dL_law_849 (v := (0 : Int32)) (by decide) ?_
                                      exact im_lawret hF hM dL_law_850
                                  · refine im_ite (fun h136 => ?_) (fun h136 => ?_)
                                    · refine im_tableIn hF 851 dL_law_33 (by rw [h136]; decide) (by rw [h136]; decide) (by rw [h136]; rfl) (by decide) ?_
                                      refine im_aload_n hF dL_law_851 1 rfl ?_
                                      refine im_aload_n hF dL_law_852 0 rfl ?_
                                      refine im_iload_n hF dL_law_853 3 rfl ?_
                                      refine im_iconst hF dL_law_854 (v := (1 : Int32)) (by decide) ?_
                                      refine im_iadd hF dL_law_855 ?_
                                      refine im_sld2 hF hX dL_law_856 (fun h137 => ?_)
                                      refine im_aload_n hF dL_law_857 0 rfl ?_
                                      refine im_iload_n hF dL_law_858 3 rfl ?_
                                      refine im_iconst hF dL_law_859 (v := (2 : Int32)) (by decide) ?_
                                      refine im_iadd hF dL_law_860 ?_
                                      refine im_sld2 hF hX dL_law_861 (fun h138 => ?_)
                                      refine im_callVI hF (As := [.int (xs (a3 + (1 : Int32)).toNatClampNeg), .int (xs (a3 + (2 : Int32)).toNatClampNeg)]) (rest := []) my_X9_look mv_X9_look wl_741 (fun l r hr => c_X9_look l g hI (xs (a3 + (1 : Int32)).toNatClampNeg) (xs (a3 + (2 : Int32)).toNatClampNeg) s0 r hr) ⟨by decide, by decide⟩ (by decide) (by decide) ⟨_, rfl, rfl⟩ rfl rfl (Nat.le_of_ble_eq_true rfl) dL_law_862 (fun q139 => ?_)
                                      refine im_aload_n hF dL_law_865 2 rfl ?_
                                      refine im_aload_n hF dL_law_866 0 rfl ?_
                                      refine im_iload_n hF dL_law_867 3 rfl ?_
                                      refine im_iconst hF dL_law_868 (v := (1 : Int32)) (by decide) ?_
                                      refine im_iadd hF dL_law_869 ?_
                                      refine im_sld2 hF hX dL_law_870 (fun h140 => ?_)
                                      refine im_aload_n hF dL_law_871 0 rfl ?_
                                      refine im_iload_n hF dL_law_872 3 rfl ?_
                                      refine im_iconst hF dL_law_873 (v := (2 : Int32)) (by decide) ?_
                                      refine im_iadd hF dL_law_874 ?_
                                      refine im_sld2 hF hX dL_law_875 (fun h141 => ?_)
                                      refine im_callVI hF (As := [.int (xs (a3 + (1 : Int32)).toNatClampNeg), .int (xs (a3 + (2 : Int32)).toNatClampNeg)]) (rest := [.int q139.1]) my_X10_look mv_X10_look wl_1142 (fun l r hr => c_X10_look l g hI (xs (a3 + (1 : Int32)).toNatClampNeg) (xs (a3 + (2 : Int32)).toNatClampNeg) q139.2 r hr) ⟨by decide, by decide⟩ (by decide) (by decide) ⟨_, rfl, rfl⟩ rfl rfl (Nat.le_of_ble_eq_true rfl) dL_law_876 (fun q142 => ?_)
                                      refine im_icmp_eq hF 907 dL_law_879 (by decide) (fun _ => ?_) (fun _ => ?_)
                                      · refine im_iinc hF dL_law_907 (v := (a3 + (6 : Int32))) (lv' := [(3, .int (a3 + (6 : Int32))), (0, .ref b), (1, .ref (g.2.1 9 0)), (2, .ref (g.2.1 10 0))]) 3 rfl rfl (by decide) rfl ?_
                                        refine im_goto hF 18 dL_law_910 (by decide) ?_
                                        refine im_sub (lv' := [(0, .ref b), (1, .ref (g.2.1 9 0)), (2, .ref (g.2.1 10 0)), (3, .int (a3 + (6 : Int32)))]) [1, 2, 3, 0] rfl ?_
                                        exact hk18 (a3 + (6 : Int32)) q142.2
                                      · refine im_iconst hF dL_law_882 (v := (0 : Int32)) (by decide) ?_
                                        exact im_lawret hF hM dL_law_883
                                    · refine im_ite (fun h143 => ?_) (fun h143 => ?_)
                                      · refine im_tableIn hF 884 dL_law_33 (by rw [h143]; decide) (by rw [h143]; decide) (by rw [h143]; rfl) (by decide) ?_
                                        refine im_aload_n hF dL_law_884 1 rfl ?_
                                        refine im_aload_n hF dL_law_885 0 rfl ?_
                                        refine im_iload_n hF dL_law_886 3 rfl ?_
                                        refine im_iconst hF dL_law_887 (v := (1 : Int32)) (by decide) ?_
                                        refine im_iadd hF dL_law_888 ?_
                                        refine im_sld2 hF hX dL_law_889 (fun h144 => ?_)
                                        refine im_callVI hF (As := [.int (xs (a3 + (1 : Int32)).toNatClampNeg)]) (rest := []) my_X9_count mv_X9_count wl_745 (fun l r hr => c_X9_count l g hI (xs (a3 + (1 : Int32)).toNatClampNeg) s0 r hr) ⟨by decide, by decide⟩ (by decide) (by decide) ⟨_, rfl, rfl⟩ rfl rfl (Nat.le_of_ble_eq_true rfl) dL_law_890 (fun q145 => ?_)
                                        refine im_aload_n hF dL_law_893 2 rfl ?_
                                        refine im_aload_n hF dL_law_894 0 rfl ?_
                                        refine im_iload_n hF dL_law_895 3 rfl ?_
                                        refine im_iconst hF dL_law_896 (v := (1 : Int32)) (by decide) ?_
                                        refine im_iadd hF dL_law_897 ?_
                                        refine im_sld2 hF hX dL_law_898 (fun h146 => ?_)
                                        refine im_callVI hF (As := [.int (xs (a3 + (1 : Int32)).toNatClampNeg)]) (rest := [.int q145.1]) my_X10_count mv_X10_count wl_1146 (fun l r hr => c_X10_count l g hI (xs (a3 + (1 : Int32)).toNatClampNeg) q145.2 r hr) ⟨by decide, by decide⟩ (by decide) (by decide) ⟨_, rfl, rfl⟩ rfl rfl (Nat.le_of_ble_eq_true rfl) dL_law_899 (fun q147 => ?_)
                                        refine im_icmp_eq hF 907 dL_law_902 (by decide) (fun _ => ?_) (fun _ => ?_)
                                        · refine im_iinc hF dL_law_907 (v := (a3 + (6 : Int32))) (lv' := [(3, .int (a3 + (6 : Int32))), (0, .ref b), (1, .ref (g.2.1 9 0)), (2, .ref (g.2.1 10 0))]) 3 rfl rfl (by decide) rfl ?_
                                          refine im_goto hF 18 dL_law_910 (by decide) ?_
                                          refine im_sub (lv' := [(0, .ref b), (1, .ref (g.2.1 9 0)), (2, .ref (g.2.1 10 0)), (3, .int (a3 + (6 : Int32)))]) [1, 2, 3, 0] rfl ?_
                                          exact hk18 (a3 + (6 : Int32)) q147.2
                                        · refine im_iconst hF dL_law_905 (v := (0 : Int32)) (by decide) ?_
                                          exact im_lawret hF hM dL_law_906
                                      · refine im_tableOut hF 907 dL_law_33 (by have := lv_neT h2 (a := 0) rfl; have := lv_neT h15 (a := 1) rfl; have := lv_neT h24 (a := 2) rfl; have := lv_neT h35 (a := 3) rfl; have := lv_neT h48 (a := 4) rfl; have := lv_neT h55 (a := 5) rfl; have := lv_neT h64 (a := 6) rfl; have := lv_neT h75 (a := 7) rfl; have := lv_neT h82 (a := 8) rfl; have := lv_neT h87 (a := 9) rfl; have := lv_neT h96 (a := 10) rfl; have := lv_neT h105 (a := 11) rfl; have := lv_neT h114 (a := 12) rfl; have := lv_neT h119 (a := 13) rfl; have := lv_neT h124 (a := 14) rfl; have := lv_neT h129 (a := 15) rfl; have := lv_neT h136 (a := 16) rfl; have := lv_neT h143 (a := 17) rfl; omega) (by decide) ?_
                                        refine im_iinc hF dL_law_907 (v := (a3 + (6 : Int32))) (lv' := [(3, .int (a3 + (6 : Int32))), (0, .ref b), (1, .ref (g.2.1 9 0)), (2, .ref (g.2.1 10 0))]) 3 rfl rfl (by decide) rfl ?_
                                        refine im_goto hF 18 dL_law_910 (by decide) ?_
                                        refine im_sub (lv' := [(0, .ref b), (1, .ref (g.2.1 9 0)), (2, .ref (g.2.1 10 0)), (3, .int (a3 + (6 : Int32)))]) [1, 2, 3, 0] rfl ?_
                                        exact hk18 (a3 + (6 : Int32)) s0
def f_law_L18 (L : Nat) (xs : Nat → Int32) : Nat → Int32 → Sg → Option (Int32 × Sg)
  | 0 => fun _ _ => none
  | n + 1 => fun a3 s0 => f_law_B18 L xs (f_law_L18 L xs n) a3 s0
theorem i_law_L18 (X : Cx) (g : GT) (b L : Nat) (xs : Nat → Int32) (hF : Fx X g RL cL_law 4 624 18694) (hM : LM X b) (hX : SX X b L xs) (hI : GI g) : ∀ (n : Nat) (a3 : Int32) (s0 : Sg), Im X g 4 (QL X b) s0 18 [(0, .ref b), (1, .ref (g.2.1 9 0)), (2, .ref (g.2.1 10 0)), (3, .int a3)] [] (f_law_L18 L xs n a3 s0) := by
  intro n
  induction n with
  | zero => intros; exact im_none
  | succ n ih => intro a3 s0; exact i_law_B18 X g b L xs hF hM hX hI (f_law_L18 L xs n) ih a3 s0
def f_law (L : Nat) (xs : Nat → Int32) (s0 : Sg) : Option (Int32 × Sg) :=
  (f_law_L18 L xs FU) (0 : Int32) s0
set_option maxRecDepth 4000 in
theorem i_law (X : Cx) (g : GT) (b L : Nat) (xs : Nat → Int32) (hF : Fx X g RL cL_law 4 624 18694) (hM : LM X b) (hX : SX X b L xs) (hI : GI g) (s0 : Sg) : Im X g 4 (QL X b) s0 16 [(2, .ref (g.2.1 10 0)), (1, .ref (g.2.1 9 0)), (0, .ref b)] [] (f_law L xs s0) := by
  unfold f_law
  refine im_iconst hF dL_law_16 (v := (0 : Int32)) (by decide) ?_
  refine im_istore_n hF dL_law_17 (lv' := [(3, .int (0 : Int32)), (2, .ref (g.2.1 10 0)), (1, .ref (g.2.1 9 0)), (0, .ref b)]) rfl (by decide) rfl ?_
  refine im_sub (lv' := [(0, .ref b), (1, .ref (g.2.1 9 0)), (2, .ref (g.2.1 10 0)), (3, .int (0 : Int32))]) [3, 2, 1, 0] rfl ?_
  exact (i_law_L18 X g b L xs hF hM hX hI FU) (0 : Int32) s0
