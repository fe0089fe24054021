def f_X10_last_B24 (k24 : Int32 → Int32 → Int32 → Int32 → Sg → Option (Int32 × Sg)) (k48 : Int32 → Int32 → Int32 → Int32 → Sg → Option (Int32 × Sg)) (a1 : Int32) (a2 : Int32) (a3 : Int32) (a5 : Int32) (s0 : Sg) : Option (Int32 × Sg) :=
  if (8 : Int32) ≤ a5 then
  k48 a1 a2 a3 (1 : Int32) s0
  else
  chk (gi a5 8) (bdS (up3 s0 84 0 a5.toNatClampNeg (-1 : Int32)) fun s2 =>
  k24 a1 a2 a3 (a5 + (1 : Int32)) s2)
set_option maxRecDepth 4000 in
theorem i_X10_last_B24 (X : Cx) (g : GT) (hF : Fx X g RX10 cX10_last 14 7 171) (hM : FM X g (some .int)) (hI : GI g) (k24 : Int32 → Int32 → Int32 → Int32 → Sg → Option (Int32 × Sg)) (hk24 : ∀ (a1 : Int32) (a2 : Int32) (a3 : Int32) (a5 : Int32) (s0 : Sg), Im X g 14 (Qm X g embI) s0 24 [(0, .ref (g.2.1 10 0)), (1, .int a1), (2, .int a2), (3, .int a3), (5, .int a5)] [] (k24 a1 a2 a3 a5 s0)) (k48 : Int32 → Int32 → Int32 → Int32 → Sg → Option (Int32 × Sg)) (hk48 : ∀ (a1 : Int32) (a2 : Int32) (a3 : Int32) (a5 : Int32) (s0 : Sg), Im X g 14 (Qm X g embI) s0 48 [(0, .ref (g.2.1 10 0)), (1, .int a1), (2, .int a2), (3, .int a3), (5, .int a5)] [] (k48 a1 a2 a3 a5 s0)) (a1 : Int32) (a2 : Int32) (a3 : Int32) (a5 : Int32) (s0 : Sg) : Im X g 14 (Qm X g embI) s0 24 [(0, .ref (g.2.1 10 0)), (1, .int a1), (2, .int a2), (3, .int a3), (5, .int a5)] [] (f_X10_last_B24 k24 k48 a1 a2 a3 a5 s0) := by
  unfold f_X10_last_B24
  refine im_iload hF dX10_last_24 4 rfl ?_
  refine im_bipush hF dX10_last_26 (v := (8 : Int32)) (by decide) ?_
  refine im_icmp_ge hF 45 dX10_last_28 (by decide) (fun _ => ?_) (fun _ => ?_)
  · refine im_iconst hF dX10_last_45 (v := (1 : Int32)) (by decide) ?_
    refine im_istore hF dX10_last_46 (lv' := [(5, .int (1 : Int32)), (0, .ref (g.2.1 10 0)), (1, .int a1), (2, .int a2), (3, .int a3)]) (by decide) rfl ?_
    refine im_sub (lv' := [(0, .ref (g.2.1 10 0)), (1, .int a1), (2, .int a2), (3, .int a3), (5, .int (1 : Int32))]) [1, 2, 3, 4, 0] rfl ?_
    exact hk48 a1 a2 a3 (1 : Int32) s0
  · refine im_aload_n hF dX10_last_31 0 rfl ?_
    refine im_get hF (v := .ref (g.2.1 84 0)) fl_10_136 (by decide) (by decide) rfl dX10_last_32 ?_
    refine im_iload hF dX10_last_35 4 rfl ?_
    refine im_iconst hF dX10_last_37 (v := (-1 : Int32)) (by decide) ?_
    refine im_iast hF ar_84 (by decide) dX10_last_38 (fun h1 => im_bdS (fun s2 => ?_))
    refine im_iinc hF dX10_last_39 (v := (a5 + (1 : Int32))) (lv' := [(5, .int (a5 + (1 : Int32))), (0, .ref (g.2.1 10 0)), (1, .int a1), (2, .int a2), (3, .int a3)]) 4 rfl rfl (by decide) rfl ?_
    refine im_goto hF 24 dX10_last_42 (by decide) ?_
    refine im_sub (lv' := [(0, .ref (g.2.1 10 0)), (1, .int a1), (2, .int a2), (3, .int a3), (5, .int (a5 + (1 : Int32)))]) [1, 2, 3, 4, 0] rfl ?_
    exact hk24 a1 a2 a3 (a5 + (1 : Int32)) s2
def f_X10_last_L24 (k48 : Int32 → Int32 → Int32 → Int32 → Sg → Option (Int32 × Sg)) : Nat → Int32 → Int32 → Int32 → Int32 → Sg → Option (Int32 × Sg)
  | 0 => fun _ _ _ _ _ => none
  | n + 1 => fun a1 a2 a3 a5 s0 => f_X10_last_B24 (f_X10_last_L24 k48 n) k48 a1 a2 a3 a5 s0
theorem i_X10_last_L24 (X : Cx) (g : GT) (hF : Fx X g RX10 cX10_last 14 7 171) (hM : FM X g (some .int)) (hI : GI g) (k48 : Int32 → Int32 → Int32 → Int32 → Sg → Option (Int32 × Sg)) (hk48 : ∀ (a1 : Int32) (a2 : Int32) (a3 : Int32) (a5 : Int32) (s0 : Sg), Im X g 14 (Qm X g embI) s0 48 [(0, .ref (g.2.1 10 0)), (1, .int a1), (2, .int a2), (3, .int a3), (5, .int a5)] [] (k48 a1 a2 a3 a5 s0)) : ∀ (n : Nat) (a1 : Int32) (a2 : Int32) (a3 : Int32) (a5 : Int32) (s0 : Sg), Im X g 14 (Qm X g embI) s0 24 [(0, .ref (g.2.1 10 0)), (1, .int a1), (2, .int a2), (3, .int a3), (5, .int a5)] [] (f_X10_last_L24 k48 n a1 a2 a3 a5 s0) := by
  intro n
  induction n with
  | zero => intros; exact im_none
  | succ n ih => intro a1 a2 a3 a5 s0; exact i_X10_last_B24 X g hF hM hI (f_X10_last_L24 k48 n) ih k48 hk48 a1 a2 a3 a5 s0
def f_X10_last_B220 (k135 : Int32 → Int32 → Int32 → Int32 → Int32 → Int32 → Int32 → Int32 → Int32 → Sg → Option (Int32 × Sg)) (k71 : Int32 → Int32 → Int32 → Int32 → Int32 → Int32 → Sg → Option (Int32 × Sg)) (a1 : Int32) (a2 : Int32) (a3 : Int32) (a5 : Int32) (a6 : Int32) (a7 : Int32) (a8 : Int32) (a9 : Int32) (a10 : Int32) (as0 : Int32) (s0 : Sg) : Option (Int32 × Sg) :=
  if as0 = 0 then
  k135 a1 a2 a3 a5 a6 a7 a8 a9 (a10 + (1 : Int32)) s0
  else
  chk (gi a9 8) (
  if (s0 84 0 a9.toNatClampNeg) < a8 then
  chk (gi a9 8) (bdS (up3 s0 84 0 a9.toNatClampNeg a8) fun s3 =>
  k135 a1 a2 a3 (1 : Int32) a6 a7 a8 a9 (a10 + (1 : Int32)) s3)
  else
  k135 a1 a2 a3 a5 a6 a7 a8 a9 (a10 + (1 : Int32)) s0)
set_option maxRecDepth 4000 in
theorem i_X10_last_B220 (X : Cx) (g : GT) (hF : Fx X g RX10 cX10_last 14 7 171) (hM : FM X g (some .int)) (hI : GI g) (k135 : Int32 → Int32 → Int32 → Int32 → Int32 → Int32 → Int32 → Int32 → Int32 → Sg → Option (Int32 × Sg)) (hk135 : ∀ (a1 : Int32) (a2 : Int32) (a3 : Int32) (a5 : Int32) (a6 : Int32) (a7 : Int32) (a8 : Int32) (a9 : Int32) (a10 : Int32) (s0 : Sg), Im X g 14 (Qm X g embI) s0 135 [(0, .ref (g.2.1 10 0)), (1, .int a1), (2, .int a2), (3, .int a3), (5, .int a5), (6, .int a6), (7, .int a7), (8, .int a8), (9, .int a9), (10, .int a10)] [] (k135 a1 a2 a3 a5 a6 a7 a8 a9 a10 s0)) (k71 : Int32 → Int32 → Int32 → Int32 → Int32 → Int32 → Sg → Option (Int32 × Sg)) (hk71 : ∀ (a1 : Int32) (a2 : Int32) (a3 : Int32) (a5 : Int32) (a6 : Int32) (a7 : Int32) (s0 : Sg), Im X g 14 (Qm X g embI) s0 71 [(0, .ref (g.2.1 10 0)), (1, .int a1), (2, .int a2), (3, .int a3), (5, .int a5), (6, .int a6), (7, .int a7)] [] (k71 a1 a2 a3 a5 a6 a7 s0)) (a1 : Int32) (a2 : Int32) (a3 : Int32) (a5 : Int32) (a6 : Int32) (a7 : Int32) (a8 : Int32) (a9 : Int32) (a10 : Int32) (as0 : Int32) (s0 : Sg) : Im X g 14 (Qm X g embI) s0 220 [(0, .ref (g.2.1 10 0)), (1, .int a1), (2, .int a2), (3, .int a3), (5, .int a5), (6, .int a6), (7, .int a7), (8, .int a8), (9, .int a9), (10, .int a10)] [.int as0] (f_X10_last_B220 k135 k71 a1 a2 a3 a5 a6 a7 a8 a9 a10 as0 s0) := by
  unfold f_X10_last_B220
  refine im_istore hF dX10_last_220 (lv' := [(13, .int as0), (0, .ref (g.2.1 10 0)), (1, .int a1), (2, .int a2), (3, .int a3), (5, .int a5), (6, .int a6), (7, .int a7), (8, .int a8), (9, .int a9), (10, .int a10)]) (by decide) rfl ?_
  refine im_iload hF dX10_last_222 0 rfl ?_
  refine im_if_eq hF 254 dX10_last_224 (by decide) (fun _ => ?_) (fun _ => ?_)
  · refine im_iinc hF dX10_last_254 (v := (a10 + (1 : Int32))) (lv' := [(10, .int (a10 + (1 : Int32))), (13, .int as0), (0, .ref (g.2.1 10 0)), (1, .int a1), (2, .int a2), (3, .int a3), (5, .int a5), (6, .int a6), (7, .int a7), (8, .int a8), (9, .int a9)]) 10 rfl rfl (by decide) rfl ?_
    refine im_goto hF 135 dX10_last_257 (by decide) ?_
    refine im_sub (lv' := [(0, .ref (g.2.1 10 0)), (1, .int a1), (2, .int a2), (3, .int a3), (5, .int a5), (6, .int a6), (7, .int a7), (8, .int a8), (9, .int a9), (10, .int (a10 + (1 : Int32)))]) [2, 3, 4, 5, 6, 7, 8, 9, 10, 0] rfl ?_
    exact hk135 a1 a2 a3 a5 a6 a7 a8 a9 (a10 + (1 : Int32)) s0
  · refine im_iload hF dX10_last_227 8 rfl ?_
    refine im_aload_n hF dX10_last_229 1 rfl ?_
    refine im_get hF (v := .ref (g.2.1 84 0)) fl_10_136 (by decide) (by decide) rfl dX10_last_230 ?_
    refine im_iload hF dX10_last_233 9 rfl ?_
    refine im_iald hF ar_84 (by decide) dX10_last_235 (fun h1 => ?_)
    refine im_icmp_gt hF 242 dX10_last_236 (by decide) (fun _ => ?_) (fun _ => ?_)
    · refine im_aload_n hF dX10_last_242 1 rfl ?_
      refine im_get hF (v := .ref (g.2.1 84 0)) fl_10_136 (by decide) (by decide) rfl dX10_last_243 ?_
      refine im_iload hF dX10_last_246 9 rfl ?_
      refine im_iload hF dX10_last_248 8 rfl ?_
      refine im_iast hF ar_84 (by decide) dX10_last_250 (fun h2 => im_bdS (fun s3 => ?_))
      refine im_iconst hF dX10_last_251 (v := (1 : Int32)) (by decide) ?_
      refine im_istore hF dX10_last_252 (lv' := [(5, .int (1 : Int32)), (13, .int as0), (0, .ref (g.2.1 10 0)), (1, .int a1), (2, .int a2), (3, .int a3), (6, .int a6), (7, .int a7), (8, .int a8), (9, .int a9), (10, .int a10)]) (by decide) rfl ?_
      refine im_iinc hF dX10_last_254 (v := (a10 + (1 : Int32))) (lv' := [(10, .int (a10 + (1 : Int32))), (5, .int (1 : Int32)), (13, .int as0), (0, .ref (g.2.1 10 0)), (1, .int a1), (2, .int a2), (3, .int a3), (6, .int a6), (7, .int a7), (8, .int a8), (9, .int a9)]) 10 rfl rfl (by decide) rfl ?_
      refine im_goto hF 135 dX10_last_257 (by decide) ?_
      refine im_sub (lv' := [(0, .ref (g.2.1 10 0)), (1, .int a1), (2, .int a2), (3, .int a3), (5, .int (1 : Int32)), (6, .int a6), (7, .int a7), (8, .int a8), (9, .int a9), (10, .int (a10 + (1 : Int32)))]) [3, 4, 5, 6, 1, 7, 8, 9, 10, 0] rfl ?_
      exact hk135 a1 a2 a3 (1 : Int32) a6 a7 a8 a9 (a10 + (1 : Int32)) s3
    · refine im_goto hF 254 dX10_last_239 (by decide) ?_
      refine im_iinc hF dX10_last_254 (v := (a10 + (1 : Int32))) (lv' := [(10, .int (a10 + (1 : Int32))), (13, .int as0), (0, .ref (g.2.1 10 0)), (1, .int a1), (2, .int a2), (3, .int a3), (5, .int a5), (6, .int a6), (7, .int a7), (8, .int a8), (9, .int a9)]) 10 rfl rfl (by decide) rfl ?_
      refine im_goto hF 135 dX10_last_257 (by decide) ?_
      refine im_sub (lv' := [(0, .ref (g.2.1 10 0)), (1, .int a1), (2, .int a2), (3, .int a3), (5, .int a5), (6, .int a6), (7, .int a7), (8, .int a8), (9, .int a9), (10, .int (a10 + (1 : Int32)))]) [2, 3, 4, 5, 6, 7, 8, 9, 10, 0] rfl ?_
      exact hk135 a1 a2 a3 a5 a6 a7 a8 a9 (a10 + (1 : Int32)) s0
def f_X10_last_B215 (k135 : Int32 → Int32 → Int32 → Int32 → Int32 → Int32 → Int32 → Int32 → Int32 → Sg → Option (Int32 × Sg)) (k71 : Int32 → Int32 → Int32 → Int32 → Int32 → Int32 → Sg → Option (Int32 × Sg)) (a1 : Int32) (a2 : Int32) (a3 : Int32) (a5 : Int32) (a6 : Int32) (a7 : Int32) (a8 : Int32) (a9 : Int32) (a10 : Int32) (s0 : Sg) : Option (Int32 × Sg) :=
  (f_X10_last_B220 k135 k71) a1 a2 a3 a5 a6 a7 a8 a9 a10 (1 : Int32) s0
set_option maxRecDepth 4000 in
theorem i_X10_last_B215 (X : Cx) (g : GT) (hF : Fx X g RX10 cX10_last 14 7 171) (hM : FM X g (some .int)) (hI : GI g) (k135 : Int32 → Int32 → Int32 → Int32 → Int32 → Int32 → Int32 → Int32 → Int32 → Sg → Option (Int32 × Sg)) (hk135 : ∀ (a1 : Int32) (a2 : Int32) (a3 : Int32) (a5 : Int32) (a6 : Int32) (a7 : Int32) (a8 : Int32) (a9 : Int32) (a10 : Int32) (s0 : Sg), Im X g 14 (Qm X g embI) s0 135 [(0, .ref (g.2.1 10 0)), (1, .int a1), (2, .int a2), (3, .int a3), (5, .int a5), (6, .int a6), (7, .int a7), (8, .int a8), (9, .int a9), (10, .int a10)] [] (k135 a1 a2 a3 a5 a6 a7 a8 a9 a10 s0)) (k71 : Int32 → Int32 → Int32 → Int32 → Int32 → Int32 → Sg → Option (Int32 × Sg)) (hk71 : ∀ (a1 : Int32) (a2 : Int32) (a3 : Int32) (a5 : Int32) (a6 : Int32) (a7 : Int32) (s0 : Sg), Im X g 14 (Qm X g embI) s0 71 [(0, .ref (g.2.1 10 0)), (1, .int a1), (2, .int a2), (3, .int a3), (5, .int a5), (6, .int a6), (7, .int a7)] [] (k71 a1 a2 a3 a5 a6 a7 s0)) (a1 : Int32) (a2 : Int32) (a3 : Int32) (a5 : Int32) (a6 : Int32) (a7 : Int32) (a8 : Int32) (a9 : Int32) (a10 : Int32) (s0 : Sg) : Im X g 14 (Qm X g embI) s0 215 [(0, .ref (g.2.1 10 0)), (1, .int a1), (2, .int a2), (3, .int a3), (5, .int a5), (6, .int a6), (7, .int a7), (8, .int a8), (9, .int a9), (10, .int a10)] [] (f_X10_last_B215 k135 k71 a1 a2 a3 a5 a6 a7 a8 a9 a10 s0) := by
  unfold f_X10_last_B215
  refine im_iconst hF dX10_last_215 (v := (1 : Int32)) (by decide) ?_
  refine im_goto hF 220 dX10_last_216 (by decide) ?_
  exact (i_X10_last_B220 X g hF hM hI k135 hk135 k71 hk71) a1 a2 a3 a5 a6 a7 a8 a9 a10 (1 : Int32) s0
def f_X10_last_B219 (k135 : Int32 → Int32 → Int32 → Int32 → Int32 → Int32 → Int32 → Int32 → Int32 → Sg → Option (Int32 × Sg)) (k71 : Int32 → Int32 → Int32 → Int32 → Int32 → Int32 → Sg → Option (Int32 × Sg)) (a1 : Int32) (a2 : Int32) (a3 : Int32) (a5 : Int32) (a6 : Int32) (a7 : Int32) (a8 : Int32) (a9 : Int32) (a10 : Int32) (s0 : Sg) : Option (Int32 × Sg) :=
  (f_X10_last_B220 k135 k71) a1 a2 a3 a5 a6 a7 a8 a9 a10 (0 : Int32) s0
set_option maxRecDepth 4000 in
theorem i_X10_last_B219 (X : Cx) (g : GT) (hF : Fx X g RX10 cX10_last 14 7 171) (hM : FM X g (some .int)) (hI : GI g) (k135 : Int32 → Int32 → Int32 → Int32 → Int32 → Int32 → Int32 → Int32 → Int32 → Sg → Option (Int32 × Sg)) (hk135 : ∀ (a1 : Int32) (a2 : Int32) (a3 : Int32) (a5 : Int32) (a6 : Int32) (a7 : Int32) (a8 : Int32) (a9 : Int32) (a10 : Int32) (s0 : Sg), Im X g 14 (Qm X g embI) s0 135 [(0, .ref (g.2.1 10 0)), (1, .int a1), (2, .int a2), (3, .int a3), (5, .int a5), (6, .int a6), (7, .int a7), (8, .int a8), (9, .int a9), (10, .int a10)] [] (k135 a1 a2 a3 a5 a6 a7 a8 a9 a10 s0)) (k71 : Int32 → Int32 → Int32 → Int32 → Int32 → Int32 → Sg → Option (Int32 × Sg)) (hk71 : ∀ (a1 : Int32) (a2 : Int32) (a3 : Int32) (a5 : Int32) (a6 : Int32) (a7 : Int32) (s0 : Sg), Im X g 14 (Qm X g embI) s0 71 [(0, .ref (g.2.1 10 0)), (1, .int a1), (2, .int a2), (3, .int a3), (5, .int a5), (6, .int a6), (7, .int a7)] [] (k71 a1 a2 a3 a5 a6 a7 s0)) (a1 : Int32) (a2 : Int32) (a3 : Int32) (a5 : Int32) (a6 : Int32) (a7 : Int32) (a8 : Int32) (a9 : Int32) (a10 : Int32) (s0 : Sg) : Im X g 14 (Qm X g embI) s0 219 [(0, .ref (g.2.1 10 0)), (1, .int a1), (2, .int a2), (3, .int a3), (5, .int a5), (6, .int a6), (7, .int a7), (8, .int a8), (9, .int a9), (10, .int a10)] [] (f_X10_last_B219 k135 k71 a1 a2 a3 a5 a6 a7 a8 a9 a10 s0) := by
  unfold f_X10_last_B219
  refine im_iconst hF dX10_last_219 (v := (0 : Int32)) (by decide) ?_
  exact (i_X10_last_B220 X g hF hM hI k135 hk135 k71 hk71) a1 a2 a3 a5 a6 a7 a8 a9 a10 (0 : Int32) s0
def f_X10_last_B190 (k135 : Int32 → Int32 → Int32 → Int32 → Int32 → Int32 → Int32 → Int32 → Int32 → Sg → Option (Int32 × Sg)) (k71 : Int32 → Int32 → Int32 → Int32 → Int32 → Int32 → Sg → Option (Int32 × Sg)) (a1 : Int32) (a2 : Int32) (a3 : Int32) (a5 : Int32) (a6 : Int32) (a7 : Int32) (a8 : Int32) (a9 : Int32) (a10 : Int32) (a11 : Int32) (a12 : Int32) (s0 : Sg) : Option (Int32 × Sg) :=
  chk (gi a12 8) (
  if (s0 84 0 a12.toNatClampNeg) = (-1 : Int32) then
  (f_X10_last_B219 k135 k71) a1 a2 a3 a5 a6 a7 a8 a9 a10 s0
  else
  chk (gi a12 8) (
  if (s0 84 0 a12.toNatClampNeg) < (a11 + (1 : Int32)) then
  (f_X10_last_B219 k135 k71) a1 a2 a3 a5 a6 a7 a8 a9 a10 s0
  else
  (f_X10_last_B215 k135 k71) a1 a2 a3 a5 a6 a7 a8 a9 a10 s0))
set_option maxRecDepth 4000 in
theorem i_X10_last_B190 (X : Cx) (g : GT) (hF : Fx X g RX10 cX10_last 14 7 171) (hM : FM X g (some .int)) (hI : GI g) (k135 : Int32 → Int32 → Int32 → Int32 → Int32 → Int32 → Int32 → Int32 → Int32 → Sg → Option (Int32 × Sg)) (hk135 : ∀ (a1 : Int32) (a2 : Int32) (a3 : Int32) (a5 : Int32) (a6 : Int32) (a7 : Int32) (a8 : Int32) (a9 : Int32) (a10 : Int32) (s0 : Sg), Im X g 14 (Qm X g embI) s0 135 [(0, .ref (g.2.1 10 0)), (1, .int a1), (2, .int a2), (3, .int a3), (5, .int a5), (6, .int a6), (7, .int a7), (8, .int a8), (9, .int a9), (10, .int a10)] [] (k135 a1 a2 a3 a5 a6 a7 a8 a9 a10 s0)) (k71 : Int32 → Int32 → Int32 → Int32 → Int32 → Int32 → Sg → Option (Int32 × Sg)) (hk71 : ∀ (a1 : Int32) (a2 : Int32) (a3 : Int32) (a5 : Int32) (a6 : Int32) (a7 : Int32) (s0 : Sg), Im X g 14 (Qm X g embI) s0 71 [(0, .ref (g.2.1 10 0)), (1, .int a1), (2, .int a2), (3, .int a3), (5, .int a5), (6, .int a6), (7, .int a7)] [] (k71 a1 a2 a3 a5 a6 a7 s0)) (a1 : Int32) (a2 : Int32) (a3 : Int32) (a5 : Int32) (a6 : Int32) (a7 : Int32) (a8 : Int32) (a9 : Int32) (a10 : Int32) (a11 : Int32) (a12 : Int32) (s0 : Sg) : Im X g 14 (Qm X g embI) s0 190 [(0, .ref (g.2.1 10 0)), (1, .int a1), (2, .int a2), (3, .int a3), (5, .int a5), (6, .int a6), (7, .int a7), (8, .int a8), (9, .int a9), (10, .int a10), (11, .int a11), (12, .int a12)] [] (f_X10_last_B190 k135 k71 a1 a2 a3 a5 a6 a7 a8 a9 a10 a11 a12 s0) := by
  unfold f_X10_last_B190
  refine im_aload_n hF dX10_last_190 0 rfl ?_
  refine im_get hF (v := .ref (g.2.1 84 0)) fl_10_136 (by decide) (by decide) rfl dX10_last_191 ?_
  refine im_iload hF dX10_last_194 11 rfl ?_
  refine im_iald hF ar_84 (by decide) dX10_last_196 (fun h1 => ?_)
  refine im_iconst hF dX10_last_197 (v := (-1 : Int32)) (by decide) ?_
  refine im_icmp_eq hF 219 dX10_last_198 (by decide) (fun _ => ?_) (fun _ => ?_)
  · refine im_sub (lv' := [(0, .ref (g.2.1 10 0)), (1, .int a1), (2, .int a2), (3, .int a3), (5, .int a5), (6, .int a6), (7, .int a7), (8, .int a8), (9, .int a9), (10, .int a10)]) [0, 1, 2, 3, 4, 5, 6, 7, 8, 9] rfl ?_
    exact (i_X10_last_B219 X g hF hM hI k135 hk135 k71 hk71) a1 a2 a3 a5 a6 a7 a8 a9 a10 s0
  · refine im_iload hF dX10_last_201 10 rfl ?_
    refine im_iconst hF dX10_last_203 (v := (1 : Int32)) (by decide) ?_
    refine im_iadd hF dX10_last_204 ?_
    refine im_aload_n hF dX10_last_205 0 rfl ?_
    refine im_get hF (v := .ref (g.2.1 84 0)) fl_10_136 (by decide) (by decide) rfl dX10_last_206 ?_
    refine im_iload hF dX10_last_209 11 rfl ?_
    refine im_iald hF ar_84 (by decide) dX10_last_211 (fun h2 => ?_)
    refine im_icmp_gt hF 219 dX10_last_212 (by decide) (fun _ => ?_) (fun _ => ?_)
    · refine im_sub (lv' := [(0, .ref (g.2.1 10 0)), (1, .int a1), (2, .int a2), (3, .int a3), (5, .int a5), (6, .int a6), (7, .int a7), (8, .int a8), (9, .int a9), (10, .int a10)]) [0, 1, 2, 3, 4, 5, 6, 7, 8, 9] rfl ?_
      exact (i_X10_last_B219 X g hF hM hI k135 hk135 k71 hk71) a1 a2 a3 a5 a6 a7 a8 a9 a10 s0
    · refine im_sub (lv' := [(0, .ref (g.2.1 10 0)), (1, .int a1), (2, .int a2), (3, .int a3), (5, .int a5), (6, .int a6), (7, .int a7), (8, .int a8), (9, .int a9), (10, .int a10)]) [0, 1, 2, 3, 4, 5, 6, 7, 8, 9] rfl ?_
      exact (i_X10_last_B215 X g hF hM hI k135 hk135 k71 hk71) a1 a2 a3 a5 a6 a7 a8 a9 a10 s0
def f_X10_last_B135 (k135 : Int32 → Int32 → Int32 → Int32 → Int32 → Int32 → Int32 → Int32 → Int32 → Sg → Option (Int32 × Sg)) (k71 : Int32 → Int32 → Int32 → Int32 → Int32 → Int32 → Sg → Option (Int32 × Sg)) (a1 : Int32) (a2 : Int32) (a3 : Int32) (a5 : Int32) (a6 : Int32) (a7 : Int32) (a8 : Int32) (a9 : Int32) (a10 : Int32) (s0 : Sg) : Option (Int32 × Sg) :=
  chk (gi a6 10) (
  if (s0 52 0 a6.toNatClampNeg) < a10 then
  k71 a1 a2 a3 a5 a6 (a7 + (1 : Int32)) s0
  else
  Option.bind (f_X10_coming a6 a10 s0) fun q2 =>
  chk (gi (((7 : Int32) * a6) + a10) 70) (
  bdI (q2.2 55 0 (((7 : Int32) * a6) + a10).toNatClampNeg) fun x4 =>
  if q2.1 = (-1 : Int32) then
  (f_X10_last_B219 k135 k71) a1 a2 a3 a5 a6 a7 a8 a9 a10 q2.2
  else
  if x4 = a2 then
  if q2.1 ≤ a3 then
  (f_X10_last_B215 k135 k71) a1 a2 a3 a5 a6 a7 a8 a9 a10 q2.2
  else
  (f_X10_last_B190 k135 k71) a1 a2 a3 a5 a6 a7 a8 a9 a10 q2.1 x4 q2.2
  else
  (f_X10_last_B190 k135 k71) a1 a2 a3 a5 a6 a7 a8 a9 a10 q2.1 x4 q2.2))
set_option maxRecDepth 4000 in
theorem i_X10_last_B135 (X : Cx) (g : GT) (hF : Fx X g RX10 cX10_last 14 7 171) (hM : FM X g (some .int)) (hI : GI g) (k135 : Int32 → Int32 → Int32 → Int32 → Int32 → Int32 → Int32 → Int32 → Int32 → Sg → Option (Int32 × Sg)) (hk135 : ∀ (a1 : Int32) (a2 : Int32) (a3 : Int32) (a5 : Int32) (a6 : Int32) (a7 : Int32) (a8 : Int32) (a9 : Int32) (a10 : Int32) (s0 : Sg), Im X g 14 (Qm X g embI) s0 135 [(0, .ref (g.2.1 10 0)), (1, .int a1), (2, .int a2), (3, .int a3), (5, .int a5), (6, .int a6), (7, .int a7), (8, .int a8), (9, .int a9), (10, .int a10)] [] (k135 a1 a2 a3 a5 a6 a7 a8 a9 a10 s0)) (k71 : Int32 → Int32 → Int32 → Int32 → Int32 → Int32 → Sg → Option (Int32 × Sg)) (hk71 : ∀ (a1 : Int32) (a2 : Int32) (a3 : Int32) (a5 : Int32) (a6 : Int32) (a7 : Int32) (s0 : Sg), Im X g 14 (Qm X g embI) s0 71 [(0, .ref (g.2.1 10 0)), (1, .int a1), (2, .int a2), (3, .int a3), (5, .int a5), (6, .int a6), (7, .int a7)] [] (k71 a1 a2 a3 a5 a6 a7 s0)) (a1 : Int32) (a2 : Int32) (a3 : Int32) (a5 : Int32) (a6 : Int32) (a7 : Int32) (a8 : Int32) (a9 : Int32) (a10 : Int32) (s0 : Sg) : Im X g 14 (Qm X g embI) s0 135 [(0, .ref (g.2.1 10 0)), (1, .int a1), (2, .int a2), (3, .int a3), (5, .int a5), (6, .int a6), (7, .int a7), (8, .int a8), (9, .int a9), (10, .int a10)] [] (f_X10_last_B135 k135 k71 a1 a2 a3 a5 a6 a7 a8 a9 a10 s0) := by
  unfold f_X10_last_B135
  refine im_iload hF dX10_last_135 9 rfl ?_
  refine im_aload_n hF dX10_last_137 0 rfl ?_
  refine im_get hF (v := .ref (g.2.1 52 0)) fl_10_34 (by decide) (by decide) rfl dX10_last_138 ?_
  refine im_iload hF dX10_last_141 5 rfl ?_
  refine im_iald hF ar_52 (by decide) dX10_last_143 (fun h1 => ?_)
  refine im_icmp_gt hF 260 dX10_last_144 (by decide) (fun _ => ?_) (fun _ => ?_)
  · refine im_iinc hF dX10_last_260 (v := (a7 + (1 : Int32))) (lv' := [(7, .int (a7 + (1 : Int32))), (0, .ref (g.2.1 10 0)), (1, .int a1), (2, .int a2), (3, .int a3), (5, .int a5), (6, .int a6), (8, .int a8), (9, .int a9), (10, .int a10)]) 6 rfl rfl (by decide) rfl ?_
    refine im_goto hF 71 dX10_last_263 (by decide) ?_
    refine im_sub (lv' := [(0, .ref (g.2.1 10 0)), (1, .int a1), (2, .int a2), (3, .int a3), (5, .int a5), (6, .int a6), (7, .int (a7 + (1 : Int32)))]) [1, 2, 3, 4, 5, 6, 0] rfl ?_
    exact hk71 a1 a2 a3 a5 a6 (a7 + (1 : Int32)) s0
  · refine im_aload_n hF dX10_last_147 0 rfl ?_
    refine im_iload hF dX10_last_148 5 rfl ?_
    refine im_iload hF dX10_last_150 9 rfl ?_
    refine im_callVI hF (As := [.int a6, .int a10]) (rest := []) my_X10_coming mv_X10_coming wl_1122 (fun l r hr => c_X10_coming l g hI a6 a10 s0 r hr) ⟨by decide, by decide⟩ (by decide) (by decide) ⟨_, rfl, rfl⟩ rfl rfl (Nat.le_of_ble_eq_true rfl) dX10_last_152 (fun q2 => ?_)
    refine im_istore hF dX10_last_155 (lv' := [(11, .int q2.1), (0, .ref (g.2.1 10 0)), (1, .int a1), (2, .int a2), (3, .int a3), (5, .int a5), (6, .int a6), (7, .int a7), (8, .int a8), (9, .int a9), (10, .int a10)]) (by decide) rfl ?_
    refine im_aload_n hF dX10_last_157 1 rfl ?_
    refine im_get hF (v := .ref (g.2.1 55 0)) fl_10_43 (by decide) (by decide) rfl dX10_last_158 ?_
    refine im_bipush hF dX10_last_161 (v := (7 : Int32)) (by decide) ?_
    refine im_iload hF dX10_last_163 6 rfl ?_
    refine im_imul hF dX10_last_165 ?_
    refine im_iload hF dX10_last_166 10 rfl ?_
    refine im_iadd hF dX10_last_168 ?_
    refine im_iald hF ar_55 (by decide) dX10_last_169 (fun h3 => ?_)
    refine im_bdI (fun x4 => ?_)
    refine im_istore hF dX10_last_170 (lv' := [(12, .int x4), (11, .int q2.1), (0, .ref (g.2.1 10 0)), (1, .int a1), (2, .int a2), (3, .int a3), (5, .int a5), (6, .int a6), (7, .int a7), (8, .int a8), (9, .int a9), (10, .int a10)]) (by decide) rfl ?_
    refine im_iload hF dX10_last_172 1 rfl ?_
    refine im_iconst hF dX10_last_174 (v := (-1 : Int32)) (by decide) ?_
    refine im_icmp_eq hF 219 dX10_last_175 (by decide) (fun _ => ?_) (fun _ => ?_)
    · refine im_sub (lv' := [(0, .ref (g.2.1 10 0)), (1, .int a1), (2, .int a2), (3, .int a3), (5, .int a5), (6, .int a6), (7, .int a7), (8, .int a8), (9, .int a9), (10, .int a10)]) [2, 3, 4, 5, 6, 7, 8, 9, 10, 11] rfl ?_
      exact (i_X10_last_B219 X g hF hM hI k135 hk135 k71 hk71) a1 a2 a3 a5 a6 a7 a8 a9 a10 q2.2
    · refine im_iload hF dX10_last_178 0 rfl ?_
      refine im_iload_n hF dX10_last_180 4 rfl ?_
      refine im_icmp_ne hF 190 dX10_last_181 (by decide) (fun _ => ?_) (fun _ => ?_)
      · refine im_iload hF dX10_last_184 1 rfl ?_
        refine im_iload_n hF dX10_last_186 5 rfl ?_
        refine im_icmp_le hF 215 dX10_last_187 (by decide) (fun _ => ?_) (fun _ => ?_)
        · refine im_sub (lv' := [(0, .ref (g.2.1 10 0)), (1, .int a1), (2, .int a2), (3, .int a3), (5, .int a5), (6, .int a6), (7, .int a7), (8, .int a8), (9, .int a9), (10, .int a10)]) [2, 3, 4, 5, 6, 7, 8, 9, 10, 11] rfl ?_
          exact (i_X10_last_B215 X g hF hM hI k135 hk135 k71 hk71) a1 a2 a3 a5 a6 a7 a8 a9 a10 q2.2
        · refine im_sub (lv' := [(0, .ref (g.2.1 10 0)), (1, .int a1), (2, .int a2), (3, .int a3), (5, .int a5), (6, .int a6), (7, .int a7), (8, .int a8), (9, .int a9), (10, .int a10), (11, .int q2.1), (12, .int x4)]) [2, 3, 4, 5, 6, 7, 8, 9, 10, 11, 1, 0] rfl ?_
          exact (i_X10_last_B190 X g hF hM hI k135 hk135 k71 hk71) a1 a2 a3 a5 a6 a7 a8 a9 a10 q2.1 x4 q2.2
      · refine im_sub (lv' := [(0, .ref (g.2.1 10 0)), (1, .int a1), (2, .int a2), (3, .int a3), (5, .int a5), (6, .int a6), (7, .int a7), (8, .int a8), (9, .int a9), (10, .int a10), (11, .int q2.1), (12, .int x4)]) [2, 3, 4, 5, 6, 7, 8, 9, 10, 11, 1, 0] rfl ?_
        exact (i_X10_last_B190 X g hF hM hI k135 hk135 k71 hk71) a1 a2 a3 a5 a6 a7 a8 a9 a10 q2.1 x4 q2.2
def f_X10_last_L135 (k71 : Int32 → Int32 → Int32 → Int32 → Int32 → Int32 → Sg → Option (Int32 × Sg)) : Nat → Int32 → Int32 → Int32 → Int32 → Int32 → Int32 → Int32 → Int32 → Int32 → Sg → Option (Int32 × Sg)
  | 0 => fun _ _ _ _ _ _ _ _ _ _ => none
  | n + 1 => fun a1 a2 a3 a5 a6 a7 a8 a9 a10 s0 => f_X10_last_B135 (f_X10_last_L135 k71 n) k71 a1 a2 a3 a5 a6 a7 a8 a9 a10 s0
theorem i_X10_last_L135 (X : Cx) (g : GT) (hF : Fx X g RX10 cX10_last 14 7 171) (hM : FM X g (some .int)) (hI : GI g) (k71 : Int32 → Int32 → Int32 → Int32 → Int32 → Int32 → Sg → Option (Int32 × Sg)) (hk71 : ∀ (a1 : Int32) (a2 : Int32) (a3 : Int32) (a5 : Int32) (a6 : Int32) (a7 : Int32) (s0 : Sg), Im X g 14 (Qm X g embI) s0 71 [(0, .ref (g.2.1 10 0)), (1, .int a1), (2, .int a2), (3, .int a3), (5, .int a5), (6, .int a6), (7, .int a7)] [] (k71 a1 a2 a3 a5 a6 a7 s0)) : ∀ (n : Nat) (a1 : Int32) (a2 : Int32) (a3 : Int32) (a5 : Int32) (a6 : Int32) (a7 : Int32) (a8 : Int32) (a9 : Int32) (a10 : Int32) (s0 : Sg), Im X g 14 (Qm X g embI) s0 135 [(0, .ref (g.2.1 10 0)), (1, .int a1), (2, .int a2), (3, .int a3), (5, .int a5), (6, .int a6), (7, .int a7), (8, .int a8), (9, .int a9), (10, .int a10)] [] (f_X10_last_L135 k71 n a1 a2 a3 a5 a6 a7 a8 a9 a10 s0) := by
  intro n
  induction n with
  | zero => intros; exact im_none
  | succ n ih => intro a1 a2 a3 a5 a6 a7 a8 a9 a10 s0; exact i_X10_last_B135 X g hF hM hI (f_X10_last_L135 k71 n) ih k71 hk71 a1 a2 a3 a5 a6 a7 a8 a9 a10 s0
def f_X10_last_B71 (k71 : Int32 → Int32 → Int32 → Int32 → Int32 → Int32 → Sg → Option (Int32 × Sg)) (k59 : Int32 → Int32 → Int32 → Int32 → Int32 → Sg → Option (Int32 × Sg)) (a1 : Int32) (a2 : Int32) (a3 : Int32) (a5 : Int32) (a6 : Int32) (a7 : Int32) (s0 : Sg) : Option (Int32 × Sg) :=
  chk (gi a6 10) (
  if (s0 52 0 a6.toNatClampNeg) ≤ a7 then
  k59 a1 a2 a3 a5 (a6 + (1 : Int32)) s0
  else
  Option.bind (f_X10_leaving a6 a7 s0) fun q2 =>
  chk (gi (((7 : Int32) * a6) + a7) 70) (
  bdI (q2.2 55 0 (((7 : Int32) * a6) + a7).toNatClampNeg) fun x4 =>
  if q2.1 = (-1 : Int32) then
  k71 a1 a2 a3 a5 a6 (a7 + (1 : Int32)) q2.2
  else
  chk (gi x4 8) (
  if (q2.2 84 0 x4.toNatClampNeg) < q2.1 then
  bdI (a7 + (1 : Int32)) fun x6 =>
  (f_X10_last_L135 k71 FU) a1 a2 a3 a5 a6 a7 q2.1 x4 x6 q2.2
  else
  k71 a1 a2 a3 a5 a6 (a7 + (1 : Int32)) q2.2)))
set_option maxRecDepth 4000 in
theorem i_X10_last_B71 (X : Cx) (g : GT) (hF : Fx X g RX10 cX10_last 14 7 171) (hM : FM X g (some .int)) (hI : GI g) (k71 : Int32 → Int32 → Int32 → Int32 → Int32 → Int32 → Sg → Option (Int32 × Sg)) (hk71 : ∀ (a1 : Int32) (a2 : Int32) (a3 : Int32) (a5 : Int32) (a6 : Int32) (a7 : Int32) (s0 : Sg), Im X g 14 (Qm X g embI) s0 71 [(0, .ref (g.2.1 10 0)), (1, .int a1), (2, .int a2), (3, .int a3), (5, .int a5), (6, .int a6), (7, .int a7)] [] (k71 a1 a2 a3 a5 a6 a7 s0)) (k59 : Int32 → Int32 → Int32 → Int32 → Int32 → Sg → Option (Int32 × Sg)) (hk59 : ∀ (a1 : Int32) (a2 : Int32) (a3 : Int32) (a5 : Int32) (a6 : Int32) (s0 : Sg), Im X g 14 (Qm X g embI) s0 59 [(0, .ref (g.2.1 10 0)), (1, .int a1), (2, .int a2), (3, .int a3), (5, .int a5), (6, .int a6)] [] (k59 a1 a2 a3 a5 a6 s0)) (a1 : Int32) (a2 : Int32) (a3 : Int32) (a5 : Int32) (a6 : Int32) (a7 : Int32) (s0 : Sg) : Im X g 14 (Qm X g embI) s0 71 [(0, .ref (g.2.1 10 0)), (1, .int a1), (2, .int a2), (3, .int a3), (5, .int a5), (6, .int a6), (7, .int a7)] [] (f_X10_last_B71 k71 k59 a1 a2 a3 a5 a6 a7 s0) := by
  unfold f_X10_last_B71
  refine im_iload hF dX10_last_71 6 rfl ?_
  refine im_aload_n hF dX10_last_73 0 rfl ?_
  refine im_get hF (v := .ref (g.2.1 52 0)) fl_10_34 (by decide) (by decide) rfl dX10_last_74 ?_
  refine im_iload hF dX10_last_77 5 rfl ?_
  refine im_iald hF ar_52 (by decide) dX10_last_79 (fun h1 => ?_)
  refine im_icmp_ge hF 266 dX10_last_80 (by decide) (fun _ => ?_) (fun _ => ?_)
  · refine im_iinc hF dX10_last_266 (v := (a6 + (1 : Int32))) (lv' := [(6, .int (a6 + (1 : Int32))), (0, .ref (g.2.1 10 0)), (1, .int a1), (2, .int a2), (3, .int a3), (5, .int a5), (7, .int a7)]) 5 rfl rfl (by decide) rfl ?_
    refine im_goto hF 59 dX10_last_269 (by decide) ?_
    refine im_sub (lv' := [(0, .ref (g.2.1 10 0)), (1, .int a1), (2, .int a2), (3, .int a3), (5, .int a5), (6, .int (a6 + (1 : Int32)))]) [1, 2, 3, 4, 5, 0] rfl ?_
    exact hk59 a1 a2 a3 a5 (a6 + (1 : Int32)) s0
  · refine im_aload_n hF dX10_last_83 0 rfl ?_
    refine im_iload hF dX10_last_84 5 rfl ?_
    refine im_iload hF dX10_last_86 6 rfl ?_
    refine im_callVI hF (As := [.int a6, .int a7]) (rest := []) my_X10_leaving mv_X10_leaving wl_1118 (fun l r hr => c_X10_leaving l g hI a6 a7 s0 r hr) ⟨by decide, by decide⟩ (by decide) (by decide) ⟨_, rfl, rfl⟩ rfl rfl (Nat.le_of_ble_eq_true rfl) dX10_last_88 (fun q2 => ?_)
    refine im_istore hF dX10_last_91 (lv' := [(8, .int q2.1), (0, .ref (g.2.1 10 0)), (1, .int a1), (2, .int a2), (3, .int a3), (5, .int a5), (6, .int a6), (7, .int a7)]) (by decide) rfl ?_
    refine im_aload_n hF dX10_last_93 1 rfl ?_
    refine im_get hF (v := .ref (g.2.1 55 0)) fl_10_43 (by decide) (by decide) rfl dX10_last_94 ?_
    refine im_bipush hF dX10_last_97 (v := (7 : Int32)) (by decide) ?_
    refine im_iload hF dX10_last_99 6 rfl ?_
    refine im_imul hF dX10_last_101 ?_
    refine im_iload hF dX10_last_102 7 rfl ?_
    refine im_iadd hF dX10_last_104 ?_
    refine im_iald hF ar_55 (by decide) dX10_last_105 (fun h3 => ?_)
    refine im_bdI (fun x4 => ?_)
    refine im_istore hF dX10_last_106 (lv' := [(9, .int x4), (8, .int q2.1), (0, .ref (g.2.1 10 0)), (1, .int a1), (2, .int a2), (3, .int a3), (5, .int a5), (6, .int a6), (7, .int a7)]) (by decide) rfl ?_
    refine im_iload hF dX10_last_108 1 rfl ?_
    refine im_iconst hF dX10_last_110 (v := (-1 : Int32)) (by decide) ?_
    refine im_icmp_eq hF 260 dX10_last_111 (by decide) (fun _ => ?_) (fun _ => ?_)
    · refine im_iinc hF dX10_last_260 (v := (a7 + (1 : Int32))) (lv' := [(7, .int (a7 + (1 : Int32))), (9, .int x4), (8, .int q2.1), (0, .ref (g.2.1 10 0)), (1, .int a1), (2, .int a2), (3, .int a3), (5, .int a5), (6, .int a6)]) 8 rfl rfl (by decide) rfl ?_
      refine im_goto hF 71 dX10_last_263 (by decide) ?_
      refine im_sub (lv' := [(0, .ref (g.2.1 10 0)), (1, .int a1), (2, .int a2), (3, .int a3), (5, .int a5), (6, .int a6), (7, .int (a7 + (1 : Int32)))]) [3, 4, 5, 6, 7, 8, 0] rfl ?_
      exact hk71 a1 a2 a3 a5 a6 (a7 + (1 : Int32)) q2.2
    · refine im_iload hF dX10_last_114 1 rfl ?_
      refine im_aload_n hF dX10_last_116 2 rfl ?_
      refine im_get hF (v := .ref (g.2.1 84 0)) fl_10_136 (by decide) (by decide) rfl dX10_last_117 ?_
      refine im_iload hF dX10_last_120 0 rfl ?_
      refine im_iald hF ar_84 (by decide) dX10_last_122 (fun h5 => ?_)
      refine im_icmp_gt hF 129 dX10_last_123 (by decide) (fun _ => ?_) (fun _ => ?_)
      · refine im_iload hF dX10_last_129 8 rfl ?_
        refine im_iconst hF dX10_last_131 (v := (1 : Int32)) (by decide) ?_
        refine im_iadd hF dX10_last_132 ?_
        refine im_bdI (fun x6 => ?_)
        refine im_istore hF dX10_last_133 (lv' := [(10, .int x6), (9, .int x4), (8, .int q2.1), (0, .ref (g.2.1 10 0)), (1, .int a1), (2, .int a2), (3, .int a3), (5, .int a5), (6, .int a6), (7, .int a7)]) (by decide) rfl ?_
        refine im_sub (lv' := [(0, .ref (g.2.1 10 0)), (1, .int a1), (2, .int a2), (3, .int a3), (5, .int a5), (6, .int a6), (7, .int a7), (8, .int q2.1), (9, .int x4), (10, .int x6)]) [3, 4, 5, 6, 7, 8, 9, 2, 1, 0] rfl ?_
        exact (i_X10_last_L135 X g hF hM hI k71 hk71 FU) a1 a2 a3 a5 a6 a7 q2.1 x4 x6 q2.2
      · refine im_goto hF 260 dX10_last_126 (by decide) ?_
        refine im_iinc hF dX10_last_260 (v := (a7 + (1 : Int32))) (lv' := [(7, .int (a7 + (1 : Int32))), (9, .int x4), (8, .int q2.1), (0, .ref (g.2.1 10 0)), (1, .int a1), (2, .int a2), (3, .int a3), (5, .int a5), (6, .int a6)]) 8 rfl rfl (by decide) rfl ?_
        refine im_goto hF 71 dX10_last_263 (by decide) ?_
        refine im_sub (lv' := [(0, .ref (g.2.1 10 0)), (1, .int a1), (2, .int a2), (3, .int a3), (5, .int a5), (6, .int a6), (7, .int (a7 + (1 : Int32)))]) [3, 4, 5, 6, 7, 8, 0] rfl ?_
        exact hk71 a1 a2 a3 a5 a6 (a7 + (1 : Int32)) q2.2
def f_X10_last_L71 (k59 : Int32 → Int32 → Int32 → Int32 → Int32 → Sg → Option (Int32 × Sg)) : Nat → Int32 → Int32 → Int32 → Int32 → Int32 → Int32 → Sg → Option (Int32 × Sg)
  | 0 => fun _ _ _ _ _ _ _ => none
  | n + 1 => fun a1 a2 a3 a5 a6 a7 s0 => f_X10_last_B71 (f_X10_last_L71 k59 n) k59 a1 a2 a3 a5 a6 a7 s0
theorem i_X10_last_L71 (X : Cx) (g : GT) (hF : Fx X g RX10 cX10_last 14 7 171) (hM : FM X g (some .int)) (hI : GI g) (k59 : Int32 → Int32 → Int32 → Int32 → Int32 → Sg → Option (Int32 × Sg)) (hk59 : ∀ (a1 : Int32) (a2 : Int32) (a3 : Int32) (a5 : Int32) (a6 : Int32) (s0 : Sg), Im X g 14 (Qm X g embI) s0 59 [(0, .ref (g.2.1 10 0)), (1, .int a1), (2, .int a2), (3, .int a3), (5, .int a5), (6, .int a6)] [] (k59 a1 a2 a3 a5 a6 s0)) : ∀ (n : Nat) (a1 : Int32) (a2 : Int32) (a3 : Int32) (a5 : Int32) (a6 : Int32) (a7 : Int32) (s0 : Sg), Im X g 14 (Qm X g embI) s0 71 [(0, .ref (g.2.1 10 0)), (1, .int a1), (2, .int a2), (3, .int a3), (5, .int a5), (6, .int a6), (7, .int a7)] [] (f_X10_last_L71 k59 n a1 a2 a3 a5 a6 a7 s0) := by
  intro n
  induction n with
  | zero => intros; exact im_none
  | succ n ih => intro a1 a2 a3 a5 a6 a7 s0; exact i_X10_last_B71 X g hF hM hI (f_X10_last_L71 k59 n) ih k59 hk59 a1 a2 a3 a5 a6 a7 s0
def f_X10_last_B59 (k59 : Int32 → Int32 → Int32 → Int32 → Int32 → Sg → Option (Int32 × Sg)) (k48 : Int32 → Int32 → Int32 → Int32 → Sg → Option (Int32 × Sg)) (a1 : Int32) (a2 : Int32) (a3 : Int32) (a5 : Int32) (a6 : Int32) (s0 : Sg) : Option (Int32 × Sg) :=
  if (s0 10 0 1) ≤ a6 then
  k48 a1 a2 a3 a5 s0
  else
  (f_X10_last_L71 k59 FU) a1 a2 a3 a5 a6 (0 : Int32) s0
set_option maxRecDepth 4000 in
theorem i_X10_last_B59 (X : Cx) (g : GT) (hF : Fx X g RX10 cX10_last 14 7 171) (hM : FM X g (some .int)) (hI : GI g) (k59 : Int32 → Int32 → Int32 → Int32 → Int32 → Sg → Option (Int32 × Sg)) (hk59 : ∀ (a1 : Int32) (a2 : Int32) (a3 : Int32) (a5 : Int32) (a6 : Int32) (s0 : Sg), Im X g 14 (Qm X g embI) s0 59 [(0, .ref (g.2.1 10 0)), (1, .int a1), (2, .int a2), (3, .int a3), (5, .int a5), (6, .int a6)] [] (k59 a1 a2 a3 a5 a6 s0)) (k48 : Int32 → Int32 → Int32 → Int32 → Sg → Option (Int32 × Sg)) (hk48 : ∀ (a1 : Int32) (a2 : Int32) (a3 : Int32) (a5 : Int32) (s0 : Sg), Im X g 14 (Qm X g embI) s0 48 [(0, .ref (g.2.1 10 0)), (1, .int a1), (2, .int a2), (3, .int a3), (5, .int a5)] [] (k48 a1 a2 a3 a5 s0)) (a1 : Int32) (a2 : Int32) (a3 : Int32) (a5 : Int32) (a6 : Int32) (s0 : Sg) : Im X g 14 (Qm X g embI) s0 59 [(0, .ref (g.2.1 10 0)), (1, .int a1), (2, .int a2), (3, .int a3), (5, .int a5), (6, .int a6)] [] (f_X10_last_B59 k59 k48 a1 a2 a3 a5 a6 s0) := by
  unfold f_X10_last_B59
  refine im_iload hF dX10_last_59 5 rfl ?_
  refine im_aload_n hF dX10_last_61 0 rfl ?_
  refine im_get hF (v := .int (s0 10 0 1)) fl_10_151 (by decide) (by decide) rfl dX10_last_62 ?_
  refine im_icmp_ge hF 272 dX10_last_65 (by decide) (fun _ => ?_) (fun _ => ?_)
  · refine im_goto hF 48 dX10_last_272 (by decide) ?_
    refine im_sub (lv' := [(0, .ref (g.2.1 10 0)), (1, .int a1), (2, .int a2), (3, .int a3), (5, .int a5)]) [0, 1, 2, 3, 4] rfl ?_
    exact hk48 a1 a2 a3 a5 s0
  · refine im_iconst hF dX10_last_68 (v := (0 : Int32)) (by decide) ?_
    refine im_istore hF dX10_last_69 (lv' := [(7, .int (0 : Int32)), (0, .ref (g.2.1 10 0)), (1, .int a1), (2, .int a2), (3, .int a3), (5, .int a5), (6, .int a6)]) (by decide) rfl ?_
    refine im_sub (lv' := [(0, .ref (g.2.1 10 0)), (1, .int a1), (2, .int a2), (3, .int a3), (5, .int a5), (6, .int a6), (7, .int (0 : Int32))]) [1, 2, 3, 4, 5, 6, 0] rfl ?_
    exact (i_X10_last_L71 X g hF hM hI k59 hk59 FU) a1 a2 a3 a5 a6 (0 : Int32) s0
def f_X10_last_L59 (k48 : Int32 → Int32 → Int32 → Int32 → Sg → Option (Int32 × Sg)) : Nat → Int32 → Int32 → Int32 → Int32 → Int32 → Sg → Option (Int32 × Sg)
  | 0 => fun _ _ _ _ _ _ => none
  | n + 1 => fun a1 a2 a3 a5 a6 s0 => f_X10_last_B59 (f_X10_last_L59 k48 n) k48 a1 a2 a3 a5 a6 s0
theorem i_X10_last_L59 (X : Cx) (g : GT) (hF : Fx X g RX10 cX10_last 14 7 171) (hM : FM X g (some .int)) (hI : GI g) (k48 : Int32 → Int32 → Int32 → Int32 → Sg → Option (Int32 × Sg)) (hk48 : ∀ (a1 : Int32) (a2 : Int32) (a3 : Int32) (a5 : Int32) (s0 : Sg), Im X g 14 (Qm X g embI) s0 48 [(0, .ref (g.2.1 10 0)), (1, .int a1), (2, .int a2), (3, .int a3), (5, .int a5)] [] (k48 a1 a2 a3 a5 s0)) : ∀ (n : Nat) (a1 : Int32) (a2 : Int32) (a3 : Int32) (a5 : Int32) (a6 : Int32) (s0 : Sg), Im X g 14 (Qm X g embI) s0 59 [(0, .ref (g.2.1 10 0)), (1, .int a1), (2, .int a2), (3, .int a3), (5, .int a5), (6, .int a6)] [] (f_X10_last_L59 k48 n a1 a2 a3 a5 a6 s0) := by
  intro n
  induction n with
  | zero => intros; exact im_none
  | succ n ih => intro a1 a2 a3 a5 a6 s0; exact i_X10_last_B59 X g hF hM hI (f_X10_last_L59 k48 n) ih k48 hk48 a1 a2 a3 a5 a6 s0
def f_X10_last_B48 (k48 : Int32 → Int32 → Int32 → Int32 → Sg → Option (Int32 × Sg)) (a1 : Int32) (a2 : Int32) (a3 : Int32) (a5 : Int32) (s0 : Sg) : Option (Int32 × Sg) :=
  if a5 = 0 then
  chk (gi a1 8) (
  some ((s0 84 0 a1.toNatClampNeg), s0))
  else
  (f_X10_last_L59 k48 FU) a1 a2 a3 (0 : Int32) (0 : Int32) s0
set_option maxRecDepth 4000 in
theorem i_X10_last_B48 (X : Cx) (g : GT) (hF : Fx X g RX10 cX10_last 14 7 171) (hM : FM X g (some .int)) (hI : GI g) (k48 : Int32 → Int32 → Int32 → Int32 → Sg → Option (Int32 × Sg)) (hk48 : ∀ (a1 : Int32) (a2 : Int32) (a3 : Int32) (a5 : Int32) (s0 : Sg), Im X g 14 (Qm X g embI) s0 48 [(0, .ref (g.2.1 10 0)), (1, .int a1), (2, .int a2), (3, .int a3), (5, .int a5)] [] (k48 a1 a2 a3 a5 s0)) (a1 : Int32) (a2 : Int32) (a3 : Int32) (a5 : Int32) (s0 : Sg) : Im X g 14 (Qm X g embI) s0 48 [(0, .ref (g.2.1 10 0)), (1, .int a1), (2, .int a2), (3, .int a3), (5, .int a5)] [] (f_X10_last_B48 k48 a1 a2 a3 a5 s0) := by
  unfold f_X10_last_B48
  refine im_iload hF dX10_last_48 4 rfl ?_
  refine im_if_eq hF 275 dX10_last_50 (by decide) (fun _ => ?_) (fun _ => ?_)
  · refine im_aload_n hF dX10_last_275 0 rfl ?_
    refine im_get hF (v := .ref (g.2.1 84 0)) fl_10_136 (by decide) (by decide) rfl dX10_last_276 ?_
    refine im_iload_n hF dX10_last_279 1 rfl ?_
    refine im_iald hF ar_84 (by decide) dX10_last_280 (fun h1 => ?_)
    exact im_iret hF hM dX10_last_281
  · refine im_iconst hF dX10_last_53 (v := (0 : Int32)) (by decide) ?_
    refine im_istore hF dX10_last_54 (lv' := [(5, .int (0 : Int32)), (0, .ref (g.2.1 10 0)), (1, .int a1), (2, .int a2), (3, .int a3)]) (by decide) rfl ?_
    refine im_iconst hF dX10_last_56 (v := (0 : Int32)) (by decide) ?_
    refine im_istore hF dX10_last_57 (lv' := [(6, .int (0 : Int32)), (5, .int (0 : Int32)), (0, .ref (g.2.1 10 0)), (1, .int a1), (2, .int a2), (3, .int a3)]) (by decide) rfl ?_
    refine im_sub (lv' := [(0, .ref (g.2.1 10 0)), (1, .int a1), (2, .int a2), (3, .int a3), (5, .int (0 : Int32)), (6, .int (0 : Int32))]) [2, 3, 4, 5, 1, 0] rfl ?_
    exact (i_X10_last_L59 X g hF hM hI k48 hk48 FU) a1 a2 a3 (0 : Int32) (0 : Int32) s0
def f_X10_last_L48 : Nat → Int32 → Int32 → Int32 → Int32 → Sg → Option (Int32 × Sg)
  | 0 => fun _ _ _ _ _ => none
  | n + 1 => fun a1 a2 a3 a5 s0 => f_X10_last_B48 (f_X10_last_L48 n) a1 a2 a3 a5 s0
theorem i_X10_last_L48 (X : Cx) (g : GT) (hF : Fx X g RX10 cX10_last 14 7 171) (hM : FM X g (some .int)) (hI : GI g) : ∀ (n : Nat) (a1 : Int32) (a2 : Int32) (a3 : Int32) (a5 : Int32) (s0 : Sg), Im X g 14 (Qm X g embI) s0 48 [(0, .ref (g.2.1 10 0)), (1, .int a1), (2, .int a2), (3, .int a3), (5, .int a5)] [] (f_X10_last_L48 n a1 a2 a3 a5 s0) := by
  intro n
  induction n with
  | zero => intros; exact im_none
  | succ n ih => intro a1 a2 a3 a5 s0; exact i_X10_last_B48 X g hF hM hI (f_X10_last_L48 n) ih a1 a2 a3 a5 s0
def f_X10_last (a1 : Int32) (a2 : Int32) (a3 : Int32) (a4 : Int32) (s0 : Sg) : Option (Int32 × Sg) :=
  Option.bind (f_X10_areAsked a1 a2 a3 s0) fun q1 =>
  if q1.1 = 0 then
  some ((-1 : Int32), q1.2)
  else
  Option.bind (f_X10_runs q1.2) fun q2 =>
  chk (b01 a4) (
  bdS (up3 q2 10 0 52 a4) fun s3 =>
  (f_X10_last_L24 (f_X10_last_L48 FU) FU) a1 a2 a3 (0 : Int32) s3)
set_option maxRecDepth 4000 in
theorem i_X10_last (X : Cx) (g : GT) (hF : Fx X g RX10 cX10_last 14 7 171) (hM : FM X g (some .int)) (hI : GI g) (a1 : Int32) (a2 : Int32) (a3 : Int32) (a4 : Int32) (s0 : Sg) : Im X g 14 (Qm X g embI) s0 0 [(0, .ref (g.2.1 10 0)), (1, .int a1), (2, .int a2), (3, .int a3), (4, .int a4)] [] (f_X10_last a1 a2 a3 a4 s0) := by
  unfold f_X10_last
  refine im_iload_n hF dX10_last_0 1 rfl ?_
  refine im_iload_n hF dX10_last_1 2 rfl ?_
  refine im_iload_n hF dX10_last_2 3 rfl ?_
  refine im_callSI hF (As := [.int a1, .int a2, .int a3]) (rest := []) my_X10_areAsked ms_X10_areAsked wl_1110 (fun l r hr => c_X10_areAsked l g hI a1 a2 a3 s0 r hr) ⟨by decide, by decide⟩ rfl rfl (Nat.le_of_ble_eq_true rfl) dX10_last_3 (fun q1 => ?_)
  refine im_if_ne hF 11 dX10_last_6 (by decide) (fun _ => ?_) (fun _ => ?_)
  · refine im_iconst hF dX10_last_9 (v := (-1 : Int32)) (by decide) ?_
    exact im_iret hF hM dX10_last_10
  · refine im_aload_n hF dX10_last_11 0 rfl ?_
    refine im_callVV hF (As := []) (rest := []) my_X10_runs mv_X10_runs wl_1066 (fun l r hr => c_X10_runs l g hI  q1.2 r hr) ⟨by decide, by decide⟩ (by decide) (by decide) ⟨_, rfl, rfl⟩ rfl rfl (Nat.le_of_ble_eq_true rfl) dX10_last_12 (fun q2 => ?_)
    refine im_aload_n hF dX10_last_15 0 rfl ?_
    refine im_iload hF dX10_last_16 4 rfl ?_
    refine im_chk (fun h4 => ?_)
    refine im_put hF a4 fp_10_293 (by decide) (by decide) rfl (b01_n h4) (b01_f h4) dX10_last_18 ?_
    refine im_bdS (fun s3 => ?_)
    refine im_iconst hF dX10_last_21 (v := (0 : Int32)) (by decide) ?_
    refine im_istore hF dX10_last_22 (lv' := [(5, .int (0 : Int32)), (0, .ref (g.2.1 10 0)), (1, .int a1), (2, .int a2), (3, .int a3), (4, .int a4)]) (by decide) rfl ?_
    refine im_sub (lv' := [(0, .ref (g.2.1 10 0)), (1, .int a1), (2, .int a2), (3, .int a3), (5, .int (0 : Int32))]) [1, 2, 3, 4, 0] rfl ?_
    exact (i_X10_last_L24 X g hF hM hI (f_X10_last_L48 FU) (i_X10_last_L48 X g hF hM hI FU) FU) a1 a2 a3 (0 : Int32) s3
theorem c_X10_last (l : Launch) (g : GT) (hI : GI g) (a1 : Int32) (a2 : Int32) (a3 : Int32) (a4 : Int32) (s0 : Sg) (r : (Int32 × Sg)) (hr : f_X10_last a1 a2 a3 a4 s0 = some r) : Ct l yX10_last cX10_last 14 (some .int) 7 171 g [.ref (g.2.1 10 0), .int a1, .int a2, .int a3, .int a4] s0 (embI r) := ct_of (by decide) hI (Nat.le_of_ble_eq_true rfl) (fun X hF hM => i_X10_last X g hF hM hI a1 a2 a3 a4 s0) r hr
def f_X10_ride (a1 : Int32) (a2 : Int32) (s0 : Sg) : Option (Int32 × Sg) :=
  if a1 < 0 then
  some ((-1 : Int32), s0)
  else
  if a1 < (s0 10 0 55) then
  if a2 = 0 then
  chk (gi a1 8) (
  some ((s0 86 0 a1.toNatClampNeg), s0))
  else
  if a2 = (1 : Int32) then
  chk (gi a1 8) (
  some ((s0 87 0 a1.toNatClampNeg), s0))
  else
  if a2 = (2 : Int32) then
  chk (gi a1 8) (
  some ((s0 88 0 a1.toNatClampNeg), s0))
  else
  some ((-1 : Int32), s0)
  else
  some ((-1 : Int32), s0)
set_option maxRecDepth 4000 in
theorem i_X10_ride (X : Cx) (g : GT) (hF : Fx X g RX10 cX10_ride 3 0 0) (hM : FM X g (some .int)) (hI : GI g) (a1 : Int32) (a2 : Int32) (s0 : Sg) : Im X g 3 (Qm X g embI) s0 0 [(0, .ref (g.2.1 10 0)), (1, .int a1), (2, .int a2)] [] (f_X10_ride a1 a2 s0) := by
  unfold f_X10_ride
  refine im_iload_n hF dX10_ride_0 1 rfl ?_
  refine im_if_lt hF 12 dX10_ride_1 (by decide) (fun _ => ?_) (fun _ => ?_)
  · refine im_iconst hF dX10_ride_12 (v := (-1 : Int32)) (by decide) ?_
    exact im_iret hF hM dX10_ride_13
  · refine im_iload_n hF dX10_ride_4 1 rfl ?_
    refine im_aload_n hF dX10_ride_5 0 rfl ?_
    refine im_get hF (v := .int (s0 10 0 55)) fl_10_314 (by decide) (by decide) rfl dX10_ride_6 ?_
    refine im_icmp_lt hF 14 dX10_ride_9 (by decide) (fun _ => ?_) (fun _ => ?_)
    · refine im_iload_n hF dX10_ride_14 2 rfl ?_
      refine im_if_ne hF 27 dX10_ride_15 (by decide) (fun _ => ?_) (fun _ => ?_)
      · refine im_aload_n hF dX10_ride_18 0 rfl ?_
        refine im_get hF (v := .ref (g.2.1 86 0)) fl_10_142 (by decide) (by decide) rfl dX10_ride_19 ?_
        refine im_iload_n hF dX10_ride_22 1 rfl ?_
        refine im_iald hF ar_86 (by decide) dX10_ride_23 (fun h1 => ?_)
        refine im_goto hF 56 dX10_ride_24 (by decide) ?_
        exact im_iret hF hM dX10_ride_56
      · refine im_iload_n hF dX10_ride_27 2 rfl ?_
        refine im_iconst hF dX10_ride_28 (v := (1 : Int32)) (by decide) ?_
        refine im_icmp_ne hF 41 dX10_ride_29 (by decide) (fun _ => ?_) (fun _ => ?_)
        · refine im_aload_n hF dX10_ride_32 0 rfl ?_
          refine im_get hF (v := .ref (g.2.1 87 0)) fl_10_145 (by decide) (by decide) rfl dX10_ride_33 ?_
          refine im_iload_n hF dX10_ride_36 1 rfl ?_
          refine im_iald hF ar_87 (by decide) dX10_ride_37 (fun h2 => ?_)
          refine im_goto hF 56 dX10_ride_38 (by decide) ?_
          exact im_iret hF hM dX10_ride_56
        · refine im_iload_n hF dX10_ride_41 2 rfl ?_
          refine im_iconst hF dX10_ride_42 (v := (2 : Int32)) (by decide) ?_
          refine im_icmp_ne hF 55 dX10_ride_43 (by decide) (fun _ => ?_) (fun _ => ?_)
          · refine im_aload_n hF dX10_ride_46 0 rfl ?_
            refine im_get hF (v := .ref (g.2.1 88 0)) fl_10_148 (by decide) (by decide) rfl dX10_ride_47 ?_
            refine im_iload_n hF dX10_ride_50 1 rfl ?_
            refine im_iald hF ar_88 (by decide) dX10_ride_51 (fun h3 => ?_)
            refine im_goto hF 56 dX10_ride_52 (by decide) ?_
            exact im_iret hF hM dX10_ride_56
          · refine im_iconst hF dX10_ride_55 (v := (-1 : Int32)) (by decide) ?_
            exact im_iret hF hM dX10_ride_56
    · refine im_iconst hF dX10_ride_12 (v := (-1 : Int32)) (by decide) ?_
      exact im_iret hF hM dX10_ride_13
theorem c_X10_ride (l : Launch) (g : GT) (hI : GI g) (a1 : Int32) (a2 : Int32) (s0 : Sg) (r : (Int32 × Sg)) (hr : f_X10_ride a1 a2 s0 = some r) : Ct l yX10_ride cX10_ride 3 (some .int) 0 0 g [.ref (g.2.1 10 0), .int a1, .int a2] s0 (embI r) := ct_of (by decide) hI (Nat.le_of_ble_eq_true rfl) (fun X hF hM => i_X10_ride X g hF hM hI a1 a2 s0) r hr
def f_X10_look (a1 : Int32) (a2 : Int32) (s0 : Sg) : Option (Int32 × Sg) :=
  Option.bind (f_X10_isVoyage a1 s0) fun q1 =>
  if q1.1 = 0 then
  some ((-1 : Int32), q1.2)
  else
  if a2 = (0 : Int32) then
  chk (gi a1 10) (
  some ((q1.2 48 0 a1.toNatClampNeg), q1.2))
  else
  if a2 = (1 : Int32) then
  chk (gi a1 10) (
  some ((q1.2 49 0 a1.toNatClampNeg), q1.2))
  else
  if a2 = (2 : Int32) then
  chk (gi a1 10) (
  some ((q1.2 50 0 a1.toNatClampNeg), q1.2))
  else
  if a2 = (3 : Int32) then
  chk (gi a1 10) (
  some ((q1.2 51 0 a1.toNatClampNeg), q1.2))
  else
  if a2 = (4 : Int32) then
  chk (gi a1 10) (
  some ((q1.2 52 0 a1.toNatClampNeg), q1.2))
  else
  if a2 = (5 : Int32) then
  chk (gi a1 10) (
  chk (gi (((7 : Int32) * a1) + (q1.2 52 0 a1.toNatClampNeg)) 70) (
  some ((q1.2 55 0 (((7 : Int32) * a1) + (q1.2 52 0 a1.toNatClampNeg)).toNatClampNeg), q1.2)))
  else
  if a2 < (10 : Int32) then
  some ((-1 : Int32), q1.2)
  else
  chk (gi a1 10) (
  if ((10 : Int32) + (q1.2 52 0 a1.toNatClampNeg)) < a2 then
  some ((-1 : Int32), q1.2)
  else
  chk (gi ((((7 : Int32) * a1) + a2) - (10 : Int32)) 70) (
  some ((q1.2 55 0 ((((7 : Int32) * a1) + a2) - (10 : Int32)).toNatClampNeg), q1.2)))
set_option maxRecDepth 4000 in
theorem i_X10_look (X : Cx) (g : GT) (hF : Fx X g RX10 cX10_look 3 1 21) (hM : FM X g (some .int)) (hI : GI g) (a1 : Int32) (a2 : Int32) (s0 : Sg) : Im X g 3 (Qm X g embI) s0 0 [(0, .ref (g.2.1 10 0)), (1, .int a1), (2, .int a2)] [] (f_X10_look a1 a2 s0) := by
  unfold f_X10_look
  refine im_aload_n hF dX10_look_0 0 rfl ?_
  refine im_iload_n hF dX10_look_1 1 rfl ?_
  refine im_callVI hF (As := [.int a1]) (rest := []) my_X10_isVoyage mv_X10_isVoyage wl_956 (fun l r hr => c_X10_isVoyage l g hI a1 s0 r hr) ⟨by decide, by decide⟩ (by decide) (by decide) ⟨_, rfl, rfl⟩ rfl rfl (Nat.le_of_ble_eq_true rfl) dX10_look_2 (fun q1 => ?_)
  refine im_if_ne hF 10 dX10_look_5 (by decide) (fun _ => ?_) (fun _ => ?_)
  · refine im_iconst hF dX10_look_8 (v := (-1 : Int32)) (by decide) ?_
    exact im_iret hF hM dX10_look_9
  · refine im_iload_n hF dX10_look_10 2 rfl ?_
    refine im_ite (fun h2 => ?_) (fun h2 => ?_)
    · refine im_tableIn hF 48 dX10_look_11 (by rw [h2]; decide) (by rw [h2]; decide) (by rw [h2]; rfl) (by decide) ?_
      refine im_aload_n hF dX10_look_48 0 rfl ?_
      refine im_get hF (v := .ref (g.2.1 48 0)) fl_10_22 (by decide) (by decide) rfl dX10_look_49 ?_
      refine im_iload_n hF dX10_look_52 1 rfl ?_
      refine im_iald hF ar_48 (by decide) dX10_look_53 (fun h3 => ?_)
      exact im_iret hF hM dX10_look_54
    · refine im_ite (fun h4 => ?_) (fun h4 => ?_)
      · refine im_tableIn hF 55 dX10_look_11 (by rw [h4]; decide) (by rw [h4]; decide) (by rw [h4]; rfl) (by decide) ?_
        refine im_aload_n hF dX10_look_55 0 rfl ?_
        refine im_get hF (v := .ref (g.2.1 49 0)) fl_10_25 (by decide) (by decide) rfl dX10_look_56 ?_
        refine im_iload_n hF dX10_look_59 1 rfl ?_
        refine im_iald hF ar_49 (by decide) dX10_look_60 (fun h5 => ?_)
        exact im_iret hF hM dX10_look_61
      · refine im_ite (fun h6 => ?_) (fun h6 => ?_)
        · refine im_tableIn hF 62 dX10_look_11 (by rw [h6]; decide) (by rw [h6]; decide) (by rw [h6]; rfl) (by decide) ?_
          refine im_aload_n hF dX10_look_62 0 rfl ?_
          refine im_get hF (v := .ref (g.2.1 50 0)) fl_10_28 (by decide) (by decide) rfl dX10_look_63 ?_
          refine im_iload_n hF dX10_look_66 1 rfl ?_
          refine im_iald hF ar_50 (by decide) dX10_look_67 (fun h7 => ?_)
          exact im_iret hF hM dX10_look_68
        · refine im_ite (fun h8 => ?_) (fun h8 => ?_)
          · refine im_tableIn hF 69 dX10_look_11 (by rw [h8]; decide) (by rw [h8]; decide) (by rw [h8]; rfl) (by decide) ?_
            refine im_aload_n hF dX10_look_69 0 rfl ?_
            refine im_get hF (v := .ref (g.2.1 51 0)) fl_10_31 (by decide) (by decide) rfl dX10_look_70 ?_
            refine im_iload_n hF dX10_look_73 1 rfl ?_
            refine im_iald hF ar_51 (by decide) dX10_look_74 (fun h9 => ?_)
            exact im_iret hF hM dX10_look_75
          · refine im_ite (fun h10 => ?_) (fun h10 => ?_)
            · refine im_tableIn hF 76 dX10_look_11 (by rw [h10]; decide) (by rw [h10]; decide) (by rw [h10]; rfl) (by decide) ?_
              refine im_aload_n hF dX10_look_76 0 rfl ?_
              refine im_get hF (v := .ref (g.2.1 52 0)) fl_10_34 (by decide) (by decide) rfl dX10_look_77 ?_
              refine im_iload_n hF dX10_look_80 1 rfl ?_
              refine im_iald hF ar_52 (by decide) dX10_look_81 (fun h11 => ?_)
              exact im_iret hF hM dX10_look_82
            · refine im_ite (fun h12 => ?_) (fun h12 => ?_)
              · refine im_tableIn hF 83 dX10_look_11 (by rw [h12]; decide) (by rw [h12]; decide) (by rw [h12]; rfl) (by decide) ?_
                refine im_aload_n hF dX10_look_83 0 rfl ?_
                refine im_get hF (v := .ref (g.2.1 55 0)) fl_10_43 (by decide) (by decide) rfl dX10_look_84 ?_
                refine im_bipush hF dX10_look_87 (v := (7 : Int32)) (by decide) ?_
                refine im_iload_n hF dX10_look_89 1 rfl ?_
                refine im_imul hF dX10_look_90 ?_
                refine im_aload_n hF dX10_look_91 0 rfl ?_
                refine im_get hF (v := .ref (g.2.1 52 0)) fl_10_34 (by decide) (by decide) rfl dX10_look_92 ?_
                refine im_iload_n hF dX10_look_95 1 rfl ?_
                refine im_iald hF ar_52 (by decide) dX10_look_96 (fun h13 => ?_)
                refine im_iadd hF dX10_look_97 ?_
                refine im_iald hF ar_55 (by decide) dX10_look_98 (fun h14 => ?_)
                exact im_iret hF hM dX10_look_99
              · refine im_tableOut hF 100 dX10_look_11 (by have := lv_neT h2 (a := 0) rfl; have := lv_neT h4 (a := 1) rfl; have := lv_neT h6 (a := 2) rfl; have := lv_neT h8 (a := 3) rfl; have := lv_neT h10 (a := 4) rfl; have := lv_neT h12 (a := 5) rfl; omega) (by decide) ?_
                refine im_iload_n hF dX10_look_100 2 rfl ?_
                refine im_bipush hF dX10_look_101 (v := (10 : Int32)) (by decide) ?_
                refine im_icmp_lt hF 136 dX10_look_103 (by decide) (fun _ => ?_) (fun _ => ?_)
                · refine im_iconst hF dX10_look_136 (v := (-1 : Int32)) (by decide) ?_
                  exact im_iret hF hM dX10_look_137
                · refine im_iload_n hF dX10_look_106 2 rfl ?_
                  refine im_bipush hF dX10_look_107 (v := (10 : Int32)) (by decide) ?_
                  refine im_aload_n hF dX10_look_109 0 rfl ?_
                  refine im_get hF (v := .ref (g.2.1 52 0)) fl_10_34 (by decide) (by decide) rfl dX10_look_110 ?_
                  refine im_iload_n hF dX10_look_113 1 rfl ?_
                  refine im_iald hF ar_52 (by decide) dX10_look_114 (fun h15 => ?_)
                  refine im_iadd hF dX10_look_115 ?_
                  refine im_icmp_gt hF 136 dX10_look_116 (by decide) (fun _ => ?_) (fun _ => ?_)
                  · refine im_iconst hF dX10_look_136 (v := (-1 : Int32)) (by decide) ?_
                    exact im_iret hF hM dX10_look_137
                  · refine im_aload_n hF dX10_look_119 0 rfl ?_
                    refine im_get hF (v := .ref (g.2.1 55 0)) fl_10_43 (by decide) (by decide) rfl dX10_look_120 ?_
                    refine im_bipush hF dX10_look_123 (v := (7 : Int32)) (by decide) ?_
                    refine im_iload_n hF dX10_look_125 1 rfl ?_
                    refine im_imul hF dX10_look_126 ?_
                    refine im_iload_n hF dX10_look_127 2 rfl ?_
                    refine im_iadd hF dX10_look_128 ?_
                    refine im_bipush hF dX10_look_129 (v := (10 : Int32)) (by decide) ?_
                    refine im_isub hF dX10_look_131 ?_
                    refine im_iald hF ar_55 (by decide) dX10_look_132 (fun h16 => ?_)
                    refine im_goto hF 137 dX10_look_133 (by decide) ?_
                    exact im_iret hF hM dX10_look_137
theorem c_X10_look (l : Launch) (g : GT) (hI : GI g) (a1 : Int32) (a2 : Int32) (s0 : Sg) (r : (Int32 × Sg)) (hr : f_X10_look a1 a2 s0 = some r) : Ct l yX10_look cX10_look 3 (some .int) 1 21 g [.ref (g.2.1 10 0), .int a1, .int a2] s0 (embI r) := ct_of (by decide) hI (Nat.le_of_ble_eq_true rfl) (fun X hF hM => i_X10_look X g hF hM hI a1 a2 s0) r hr
def f_X10_count_B74 (a1 : Int32) (s0 : Sg) : Option (Int32 × Sg) :=
  if a1 < (100 : Int32) then
  some ((-1 : Int32), s0)
  else
  if ((100 : Int32) + ((12 : Int32) * (s0 10 0 0))) ≤ a1 then
  some ((-1 : Int32), s0)
  else
  chk (gi (a1 - (100 : Int32)) 144) (
  some (((s0 47 0 (a1 - (100 : Int32)).toNatClampNeg) + (1000 : Int32)), s0))
set_option maxRecDepth 4000 in
theorem i_X10_count_B74 (X : Cx) (g : GT) (hF : Fx X g RX10 cX10_count 2 0 0) (hM : FM X g (some .int)) (hI : GI g) (a1 : Int32) (s0 : Sg) : Im X g 2 (Qm X g embI) s0 74 [(0, .ref (g.2.1 10 0)), (1, .int a1)] [] (f_X10_count_B74 a1 s0) := by
  unfold f_X10_count_B74
  refine im_iload_n hF dX10_count_74 1 rfl ?_
  refine im_bipush hF dX10_count_75 (v := (100 : Int32)) (by decide) ?_
  refine im_icmp_lt hF 110 dX10_count_77 (by decide) (fun _ => ?_) (fun _ => ?_)
  · refine im_iconst hF dX10_count_110 (v := (-1 : Int32)) (by decide) ?_
    exact im_iret hF hM dX10_count_111
  · refine im_iload_n hF dX10_count_80 1 rfl ?_
    refine im_bipush hF dX10_count_81 (v := (100 : Int32)) (by decide) ?_
    refine im_bipush hF dX10_count_83 (v := (12 : Int32)) (by decide) ?_
    refine im_aload_n hF dX10_count_85 0 rfl ?_
    refine im_get hF (v := .int (s0 10 0 0)) fl_10_158 (by decide) (by decide) rfl dX10_count_86 ?_
    refine im_imul hF dX10_count_89 ?_
    refine im_iadd hF dX10_count_90 ?_
    refine im_icmp_ge hF 110 dX10_count_91 (by decide) (fun _ => ?_) (fun _ => ?_)
    · refine im_iconst hF dX10_count_110 (v := (-1 : Int32)) (by decide) ?_
      exact im_iret hF hM dX10_count_111
    · refine im_aload_n hF dX10_count_94 0 rfl ?_
      refine im_get hF (v := .ref (g.2.1 47 0)) fl_10_19 (by decide) (by decide) rfl dX10_count_95 ?_
      refine im_iload_n hF dX10_count_98 1 rfl ?_
      refine im_bipush hF dX10_count_99 (v := (100 : Int32)) (by decide) ?_
      refine im_isub hF dX10_count_101 ?_
      refine im_iald hF ar_47 (by decide) dX10_count_102 (fun h1 => ?_)
      refine im_sipush hF dX10_count_103 (v := (1000 : Int32)) (by decide) ?_
      refine im_iadd hF dX10_count_106 ?_
      refine im_goto hF 111 dX10_count_107 (by decide) ?_
      exact im_iret hF hM dX10_count_111
def f_X10_count (a1 : Int32) (s0 : Sg) : Option (Int32 × Sg) :=
  if a1 = (0 : Int32) then
  some ((s0 10 0 0), s0)
  else
  if a1 = (1 : Int32) then
  some ((s0 10 0 1), s0)
  else
  if a1 = (2 : Int32) then
  some ((s0 10 0 2), s0)
  else
  if a1 = (3 : Int32) then
  some ((s0 10 0 21), s0)
  else
  if a1 < (10 : Int32) then
  (f_X10_count_B74) a1 s0
  else
  if (14 : Int32) ≤ a1 then
  (f_X10_count_B74) a1 s0
  else
  chk (gi (a1 - (10 : Int32)) 5) (
  some ((s0 63 0 (a1 - (10 : Int32)).toNatClampNeg), s0))
set_option maxRecDepth 4000 in
theorem i_X10_count (X : Cx) (g : GT) (hF : Fx X g RX10 cX10_count 2 0 0) (hM : FM X g (some .int)) (hI : GI g) (a1 : Int32) (s0 : Sg) : Im X g 2 (Qm X g embI) s0 0 [(0, .ref (g.2.1 10 0)), (1, .int a1)] [] (f_X10_count a1 s0) := by
  unfold f_X10_count
  refine im_iload_n hF dX10_count_0 1 rfl ?_
  refine im_ite (fun h1 => ?_) (fun h1 => ?_)
  · refine im_tableIn hF 32 dX10_count_1 (by rw [h1]; decide) (by rw [h1]; decide) (by rw [h1]; rfl) (by decide) ?_
    refine im_aload_n hF dX10_count_32 0 rfl ?_
    refine im_get hF (v := .int (s0 10 0 0)) fl_10_158 (by decide) (by decide) rfl dX10_count_33 ?_
    exact im_iret hF hM dX10_count_36
  · refine im_ite (fun h2 => ?_) (fun h2 => ?_)
    · refine im_tableIn hF 37 dX10_count_1 (by rw [h2]; decide) (by rw [h2]; decide) (by rw [h2]; rfl) (by decide) ?_
      refine im_aload_n hF dX10_count_37 0 rfl ?_
      refine im_get hF (v := .int (s0 10 0 1)) fl_10_151 (by decide) (by decide) rfl dX10_count_38 ?_
      exact im_iret hF hM dX10_count_41
    · refine im_ite (fun h3 => ?_) (fun h3 => ?_)
      · refine im_tableIn hF 42 dX10_count_1 (by rw [h3]; decide) (by rw [h3]; decide) (by rw [h3]; rfl) (by decide) ?_
        refine im_aload_n hF dX10_count_42 0 rfl ?_
        refine im_get hF (v := .int (s0 10 0 2)) fl_10_172 (by decide) (by decide) rfl dX10_count_43 ?_
        exact im_iret hF hM dX10_count_46
      · refine im_ite (fun h4 => ?_) (fun h4 => ?_)
        · refine im_tableIn hF 47 dX10_count_1 (by rw [h4]; decide) (by rw [h4]; decide) (by rw [h4]; rfl) (by decide) ?_
          refine im_aload_n hF dX10_count_47 0 rfl ?_
          refine im_get hF (v := .int (s0 10 0 21)) fl_10_179 (by decide) (by decide) rfl dX10_count_48 ?_
          exact im_iret hF hM dX10_count_51
        · refine im_tableOut hF 52 dX10_count_1 (by have := lv_neT h1 (a := 0) rfl; have := lv_neT h2 (a := 1) rfl; have := lv_neT h3 (a := 2) rfl; have := lv_neT h4 (a := 3) rfl; omega) (by decide) ?_
          refine im_iload_n hF dX10_count_52 1 rfl ?_
          refine im_bipush hF dX10_count_53 (v := (10 : Int32)) (by decide) ?_
          refine im_icmp_lt hF 74 dX10_count_55 (by decide) (fun _ => ?_) (fun _ => ?_)
          · exact (i_X10_count_B74 X g hF hM hI) a1 s0
          · refine im_iload_n hF dX10_count_58 1 rfl ?_
            refine im_bipush hF dX10_count_59 (v := (14 : Int32)) (by decide) ?_
            refine im_icmp_ge hF 74 dX10_count_61 (by decide) (fun _ => ?_) (fun _ => ?_)
            · exact (i_X10_count_B74 X g hF hM hI) a1 s0
            · refine im_aload_n hF dX10_count_64 0 rfl ?_
              refine im_get hF (v := .ref (g.2.1 63 0)) fl_10_72 (by decide) (by decide) rfl dX10_count_65 ?_
              refine im_iload_n hF dX10_count_68 1 rfl ?_
              refine im_bipush hF dX10_count_69 (v := (10 : Int32)) (by decide) ?_
              refine im_isub hF dX10_count_71 ?_
              refine im_iald hF ar_63 (by decide) dX10_count_72 (fun h5 => ?_)
              exact im_iret hF hM dX10_count_73
theorem c_X10_count (l : Launch) (g : GT) (hI : GI g) (a1 : Int32) (s0 : Sg) (r : (Int32 × Sg)) (hr : f_X10_count a1 s0 = some r) : Ct l yX10_count cX10_count 2 (some .int) 0 0 g [.ref (g.2.1 10 0), .int a1] s0 (embI r) := ct_of (by decide) hI (Nat.le_of_ble_eq_true rfl) (fun X hF hM => i_X10_count X g hF hM hI a1 s0) r hr
def f_X7_addBytes_B3 (k3 : Int32 → Int32 → Sg → Option Sg) (a1 : Int32) (a2 : Int32) (s0 : Sg) : Option Sg :=
  if a2 < 0 then
  some s0
  else
  if (200 : Int32) ≤ (s0 7 0 1) then
  k3 a1 (a2 + (-8 : Int32)) s0
  else
  chk (gi (s0 7 0 1) 200) (bdS (up3 s0 35 0 (s0 7 0 1).toNatClampNeg ((ushr a1 a2) &&& (255 : Int32))) fun s2 =>
  bdS (up3 s2 7 0 1 ((s2 7 0 1) + (1 : Int32))) fun s3 =>
  k3 a1 (a2 + (-8 : Int32)) s3)
set_option maxRecDepth 4000 in
theorem i_X7_addBytes_B3 (X : Cx) (g : GT) (hF : Fx X g RX7 cX7_addBytes 3 0 0) (hM : FM X g none) (hI : GI g) (k3 : Int32 → Int32 → Sg → Option Sg) (hk3 : ∀ (a1 : Int32) (a2 : Int32) (s0 : Sg), Im X g 3 (Qm X g embV) s0 3 [(0, .ref (g.2.1 7 0)), (1, .int a1), (2, .int a2)] [] (k3 a1 a2 s0)) (a1 : Int32) (a2 : Int32) (s0 : Sg) : Im X g 3 (Qm X g embV) s0 3 [(0, .ref (g.2.1 7 0)), (1, .int a1), (2, .int a2)] [] (f_X7_addBytes_B3 k3 a1 a2 s0) := by
  unfold f_X7_addBytes_B3
  refine im_iload_n hF dX7_addBytes_3 2 rfl ?_
  refine im_if_lt hF 49 dX7_addBytes_4 (by decide) (fun _ => ?_) (fun _ => ?_)
  · exact im_vret hF hM dX7_addBytes_49
  · refine im_aload_n hF dX7_addBytes_7 0 rfl ?_
    refine im_get hF (v := .int (s0 7 0 1)) fl_7_15 (by decide) (by decide) rfl dX7_addBytes_8 ?_
    refine im_sipush hF dX7_addBytes_11 (v := (200 : Int32)) (by decide) ?_
    refine im_icmp_ge hF 43 dX7_addBytes_14 (by decide) (fun _ => ?_) (fun _ => ?_)
    · refine im_iinc hF dX7_addBytes_43 (v := (a2 + (-8 : Int32))) (lv' := [(2, .int (a2 + (-8 : Int32))), (0, .ref (g.2.1 7 0)), (1, .int a1)]) 2 rfl rfl (by decide) rfl ?_
      refine im_goto hF 3 dX7_addBytes_46 (by decide) ?_
      refine im_sub (lv' := [(0, .ref (g.2.1 7 0)), (1, .int a1), (2, .int (a2 + (-8 : Int32)))]) [1, 2, 0] rfl ?_
      exact hk3 a1 (a2 + (-8 : Int32)) s0
    · refine im_aload_n hF dX7_addBytes_17 0 rfl ?_
      refine im_get hF (v := .ref (g.2.1 35 0)) fl_7_9 (by decide) (by decide) rfl dX7_addBytes_18 ?_
      refine im_aload_n hF dX7_addBytes_21 0 rfl ?_
      refine im_get hF (v := .int (s0 7 0 1)) fl_7_15 (by decide) (by decide) rfl dX7_addBytes_22 ?_
      refine im_iload_n hF dX7_addBytes_25 1 rfl ?_
      refine im_iload_n hF dX7_addBytes_26 2 rfl ?_
      refine im_iushr hF dX7_addBytes_27 ?_
      refine im_sipush hF dX7_addBytes_28 (v := (255 : Int32)) (by decide) ?_
      refine im_iand hF dX7_addBytes_31 ?_
      refine im_iast hF ar_35 (by decide) dX7_addBytes_32 (fun h1 => im_bdS (fun s2 => ?_))
      refine im_aload_n hF dX7_addBytes_33 0 rfl ?_
      refine im_dup hF dX7_addBytes_34 rfl ?_
      refine im_get hF (v := .int (s2 7 0 1)) fl_7_15 (by decide) (by decide) rfl dX7_addBytes_35 ?_
      refine im_iconst hF dX7_addBytes_38 (v := (1 : Int32)) (by decide) ?_
      refine im_iadd hF dX7_addBytes_39 ?_
      refine im_put hF ((s2 7 0 1) + (1 : Int32)) fp_7_15 (by decide) (by decide) rfl rfl rfl dX7_addBytes_40 ?_
      refine im_bdS (fun s3 => ?_)
      refine im_iinc hF dX7_addBytes_43 (v := (a2 + (-8 : Int32))) (lv' := [(2, .int (a2 + (-8 : Int32))), (0, .ref (g.2.1 7 0)), (1, .int a1)]) 2 rfl rfl (by decide) rfl ?_
      refine im_goto hF 3 dX7_addBytes_46 (by decide) ?_
      refine im_sub (lv' := [(0, .ref (g.2.1 7 0)), (1, .int a1), (2, .int (a2 + (-8 : Int32)))]) [1, 2, 0] rfl ?_
      exact hk3 a1 (a2 + (-8 : Int32)) s3
def f_X7_addBytes_L3 : Nat → Int32 → Int32 → Sg → Option Sg
  | 0 => fun _ _ _ => none
  | n + 1 => fun a1 a2 s0 => f_X7_addBytes_B3 (f_X7_addBytes_L3 n) a1 a2 s0
theorem i_X7_addBytes_L3 (X : Cx) (g : GT) (hF : Fx X g RX7 cX7_addBytes 3 0 0) (hM : FM X g none) (hI : GI g) : ∀ (n : Nat) (a1 : Int32) (a2 : Int32) (s0 : Sg), Im X g 3 (Qm X g embV) s0 3 [(0, .ref (g.2.1 7 0)), (1, .int a1), (2, .int a2)] [] (f_X7_addBytes_L3 n a1 a2 s0) := by
  intro n
  induction n with
  | zero => intros; exact im_none
  | succ n ih => intro a1 a2 s0; exact i_X7_addBytes_B3 X g hF hM hI (f_X7_addBytes_L3 n) ih a1 a2 s0
def f_X7_addBytes (a1 : Int32) (s0 : Sg) : Option Sg :=
  (f_X7_addBytes_L3 FU) a1 (24 : Int32) s0
set_option maxRecDepth 4000 in
theorem i_X7_addBytes (X : Cx) (g : GT) (hF : Fx X g RX7 cX7_addBytes 3 0 0) (hM : FM X g none) (hI : GI g) (a1 : Int32) (s0 : Sg) : Im X g 3 (Qm X g embV) s0 0 [(0, .ref (g.2.1 7 0)), (1, .int a1)] [] (f_X7_addBytes a1 s0) := by
  unfold f_X7_addBytes
  refine im_bipush hF dX7_addBytes_0 (v := (24 : Int32)) (by decide) ?_
  refine im_istore_n hF dX7_addBytes_2 (lv' := [(2, .int (24 : Int32)), (0, .ref (g.2.1 7 0)), (1, .int a1)]) rfl (by decide) rfl ?_
  refine im_sub (lv' := [(0, .ref (g.2.1 7 0)), (1, .int a1), (2, .int (24 : Int32))]) [1, 2, 0] rfl ?_
  exact (i_X7_addBytes_L3 X g hF hM hI FU) a1 (24 : Int32) s0
theorem c_X7_addBytes (l : Launch) (g : GT) (hI : GI g) (a1 : Int32) (s0 : Sg) (r : Sg) (hr : f_X7_addBytes a1 s0 = some r) : Ct l yX7_addBytes cX7_addBytes 3 none 0 0 g [.ref (g.2.1 7 0), .int a1] s0 (embV r) := ct_of (by decide) hI (Nat.le_of_ble_eq_true rfl) (fun X hF hM => i_X7_addBytes X g hF hM hI a1 s0) r hr
def f_X9_feed (a1 : Int32) (a2 : Int32) (a3 : Int32) (a4 : Int32) (a5 : Int32) (s0 : Sg) : Option (Int32 × Sg) :=
  if ((s0 7 0 1) + (20 : Int32)) ≤ (200 : Int32) then
  Option.bind (f_X7_addBytes a1 s0) fun q1 =>
  Option.bind (f_X7_addBytes a2 q1) fun q2 =>
  Option.bind (f_X7_addBytes a3 q2) fun q3 =>
  Option.bind (f_X7_addBytes a4 q3) fun q4 =>
  Option.bind (f_X7_addBytes a5 q4) fun q5 =>
  some ((q5 7 0 1), q5)
  else
  some ((-1 : Int32), s0)
set_option maxRecDepth 4000 in
theorem i_X9_feed (X : Cx) (g : GT) (hF : Fx X g RX9 cX9_feed 6 1 22) (hM : FM X g (some .int)) (hI : GI g) (a1 : Int32) (a2 : Int32) (a3 : Int32) (a4 : Int32) (a5 : Int32) (s0 : Sg) : Im X g 6 (Qm X g embI) s0 0 [(0, .ref (g.2.1 9 0)), (1, .int a1), (2, .int a2), (3, .int a3), (4, .int a4), (5, .int a5)] [] (f_X9_feed a1 a2 a3 a4 a5 s0) := by
  unfold f_X9_feed
  refine im_aload_n hF dX9_feed_0 0 rfl ?_
  refine im_get hF (v := .ref (g.2.1 7 0)) fl_9_19 (by decide) (by decide) rfl dX9_feed_1 ?_
  refine im_get hF (v := .int (s0 7 0 1)) fl_9_44 (by decide) (by decide) rfl dX9_feed_4 ?_
  refine im_bipush hF dX9_feed_7 (v := (20 : Int32)) (by decide) ?_
  refine im_iadd hF dX9_feed_9 ?_
  refine im_sipush hF dX9_feed_10 (v := (200 : Int32)) (by decide) ?_
  refine im_icmp_le hF 18 dX9_feed_13 (by decide) (fun _ => ?_) (fun _ => ?_)
  · refine im_aload_n hF dX9_feed_18 0 rfl ?_
    refine im_get hF (v := .ref (g.2.1 7 0)) fl_9_19 (by decide) (by decide) rfl dX9_feed_19 ?_
    refine im_iload_n hF dX9_feed_22 1 rfl ?_
    refine im_callVV hF (As := [.int a1]) (rest := []) my_X7_addBytes mv_X7_addBytes wl_369 (fun l r hr => c_X7_addBytes l g hI a1 s0 r hr) ⟨by decide, by decide⟩ (by decide) (by decide) ⟨_, rfl, rfl⟩ rfl rfl (Nat.le_of_ble_eq_true rfl) dX9_feed_23 (fun q1 => ?_)
    refine im_aload_n hF dX9_feed_26 0 rfl ?_
    refine im_get hF (v := .ref (g.2.1 7 0)) fl_9_19 (by decide) (by decide) rfl dX9_feed_27 ?_
    refine im_iload_n hF dX9_feed_30 2 rfl ?_
    refine im_callVV hF (As := [.int a2]) (rest := []) my_X7_addBytes mv_X7_addBytes wl_369 (fun l r hr => c_X7_addBytes l g hI a2 q1 r hr) ⟨by decide, by decide⟩ (by decide) (by decide) ⟨_, rfl, rfl⟩ rfl rfl (Nat.le_of_ble_eq_true rfl) dX9_feed_31 (fun q2 => ?_)
    refine im_aload_n hF dX9_feed_34 0 rfl ?_
    refine im_get hF (v := .ref (g.2.1 7 0)) fl_9_19 (by decide) (by decide) rfl dX9_feed_35 ?_
    refine im_iload_n hF dX9_feed_38 3 rfl ?_
    refine im_callVV hF (As := [.int a3]) (rest := []) my_X7_addBytes mv_X7_addBytes wl_369 (fun l r hr => c_X7_addBytes l g hI a3 q2 r hr) ⟨by decide, by decide⟩ (by decide) (by decide) ⟨_, rfl, rfl⟩ rfl rfl (Nat.le_of_ble_eq_true rfl) dX9_feed_39 (fun q3 => ?_)
    refine im_aload_n hF dX9_feed_42 0 rfl ?_
    refine im_get hF (v := .ref (g.2.1 7 0)) fl_9_19 (by decide) (by decide) rfl dX9_feed_43 ?_
    refine im_iload hF dX9_feed_46 4 rfl ?_
    refine im_callVV hF (As := [.int a4]) (rest := []) my_X7_addBytes mv_X7_addBytes wl_369 (fun l r hr => c_X7_addBytes l g hI a4 q3 r hr) ⟨by decide, by decide⟩ (by decide) (by decide) ⟨_, rfl, rfl⟩ rfl rfl (Nat.le_of_ble_eq_true rfl) dX9_feed_48 (fun q4 => ?_)
    refine im_aload_n hF dX9_feed_51 0 rfl ?_
    refine im_get hF (v := .ref (g.2.1 7 0)) fl_9_19 (by decide) (by decide) rfl dX9_feed_52 ?_
    refine im_iload hF dX9_feed_55 5 rfl ?_
    refine im_callVV hF (As := [.int a5]) (rest := []) my_X7_addBytes mv_X7_addBytes wl_369 (fun l r hr => c_X7_addBytes l g hI a5 q4 r hr) ⟨by decide, by decide⟩ (by decide) (by decide) ⟨_, rfl, rfl⟩ rfl rfl (Nat.le_of_ble_eq_true rfl) dX9_feed_57 (fun q5 => ?_)
    refine im_aload_n hF dX9_feed_60 0 rfl ?_
    refine im_get hF (v := .ref (g.2.1 7 0)) fl_9_19 (by decide) (by decide) rfl dX9_feed_61 ?_
    refine im_get hF (v := .int (q5 7 0 1)) fl_9_44 (by decide) (by decide) rfl dX9_feed_64 ?_
    exact im_iret hF hM dX9_feed_67
  · refine im_iconst hF dX9_feed_16 (v := (-1 : Int32)) (by decide) ?_
    exact im_iret hF hM dX9_feed_17
theorem c_X9_feed (l : Launch) (g : GT) (hI : GI g) (a1 : Int32) (a2 : Int32) (a3 : Int32) (a4 : Int32) (a5 : Int32) (s0 : Sg) (r : (Int32 × Sg)) (hr : f_X9_feed a1 a2 a3 a4 a5 s0 = some r) : Ct l yX9_feed cX9_feed 6 (some .int) 1 22 g [.ref (g.2.1 9 0), .int a1, .int a2, .int a3, .int a4, .int a5] s0 (embI r) := ct_of (by decide) hI (Nat.le_of_ble_eq_true rfl) (fun X hF hM => i_X9_feed X g hF hM hI a1 a2 a3 a4 a5 s0) r hr
def f_X9_isPort (a0 : Int32) (s0 : Sg) : Option (Int32 × Sg) :=
  if a0 < 0 then
  some ((0 : Int32), s0)
  else
  if (8 : Int32) ≤ a0 then
  some ((0 : Int32), s0)
  else
  some ((1 : Int32), s0)
set_option maxRecDepth 4000 in
theorem i_X9_isPort (X : Cx) (g : GT) (hF : Fx X g RX9 cX9_isPort 1 0 0) (hM : FM X g (some .boolean)) (hI : GI g) (a0 : Int32) (s0 : Sg) : Im X g 1 (Qm X g embI) s0 0 [(0, .int a0)] [] (f_X9_isPort a0 s0) := by
  unfold f_X9_isPort
  refine im_iload_n hF dX9_isPort_0 0 rfl ?_
  refine im_if_lt hF 14 dX9_isPort_1 (by decide) (fun _ => ?_) (fun _ => ?_)
  · refine im_iconst hF dX9_isPort_14 (v := (0 : Int32)) (by decide) ?_
    exact im_zret hF hM (by decide) dX9_isPort_15
  · refine im_iload_n hF dX9_isPort_4 0 rfl ?_
    refine im_bipush hF dX9_isPort_5 (v := (8 : Int32)) (by decide) ?_
    refine im_icmp_ge hF 14 dX9_isPort_7 (by decide) (fun _ => ?_) (fun _ => ?_)
    · refine im_iconst hF dX9_isPort_14 (v := (0 : Int32)) (by decide) ?_
      exact im_zret hF hM (by decide) dX9_isPort_15
    · refine im_iconst hF dX9_isPort_10 (v := (1 : Int32)) (by decide) ?_
      refine im_goto hF 15 dX9_isPort_11 (by decide) ?_
      exact im_zret hF hM (by decide) dX9_isPort_15
theorem c_X9_isPort (l : Launch) (g : GT) (hI : GI g) (a0 : Int32) (s0 : Sg) (r : (Int32 × Sg)) (hr : f_X9_isPort a0 s0 = some r) : Ct l yX9_isPort cX9_isPort 1 (some .boolean) 0 0 g [.int a0] s0 (embI r) := ct_of (by decide) hI (Nat.le_of_ble_eq_true rfl) (fun X hF hM => i_X9_isPort X g hF hM hI a0 s0) r hr
def f_X9_areTwoPorts (a0 : Int32) (a1 : Int32) (s0 : Sg) : Option (Int32 × Sg) :=
  Option.bind (f_X9_isPort a0 s0) fun q1 =>
  if q1.1 = 0 then
  some ((0 : Int32), q1.2)
  else
  Option.bind (f_X9_isPort a1 q1.2) fun q2 =>
  if q2.1 = 0 then
  some ((0 : Int32), q2.2)
  else
  if a0 = a1 then
  some ((0 : Int32), q2.2)
  else
  some ((1 : Int32), q2.2)
set_option maxRecDepth 4000 in
theorem i_X9_areTwoPorts (X : Cx) (g : GT) (hF : Fx X g RX9 cX9_areTwoPorts 2 1 20) (hM : FM X g (some .boolean)) (hI : GI g) (a0 : Int32) (a1 : Int32) (s0 : Sg) : Im X g 2 (Qm X g embI) s0 0 [(0, .int a0), (1, .int a1)] [] (f_X9_areTwoPorts a0 a1 s0) := by
  unfold f_X9_areTwoPorts
  refine im_iload_n hF dX9_areTwoPorts_0 0 rfl ?_
  refine im_callSI hF (As := [.int a0]) (rest := []) my_X9_isPort ms_X9_isPort wl_380 (fun l r hr => c_X9_isPort l g hI a0 s0 r hr) ⟨by decide, by decide⟩ rfl rfl (Nat.le_of_ble_eq_true rfl) dX9_areTwoPorts_1 (fun q1 => ?_)
  refine im_if_eq hF 23 dX9_areTwoPorts_4 (by decide) (fun _ => ?_) (fun _ => ?_)
  · refine im_iconst hF dX9_areTwoPorts_23 (v := (0 : Int32)) (by decide) ?_
    exact im_zret hF hM (by decide) dX9_areTwoPorts_24
  · refine im_iload_n hF dX9_areTwoPorts_7 1 rfl ?_
    refine im_callSI hF (As := [.int a1]) (rest := []) my_X9_isPort ms_X9_isPort wl_380 (fun l r hr => c_X9_isPort l g hI a1 q1.2 r hr) ⟨by decide, by decide⟩ rfl rfl (Nat.le_of_ble_eq_true rfl) dX9_areTwoPorts_8 (fun q2 => ?_)
    refine im_if_eq hF 23 dX9_areTwoPorts_11 (by decide) (fun _ => ?_) (fun _ => ?_)
    · refine im_iconst hF dX9_areTwoPorts_23 (v := (0 : Int32)) (by decide) ?_
      exact im_zret hF hM (by decide) dX9_areTwoPorts_24
    · refine im_iload_n hF dX9_areTwoPorts_14 0 rfl ?_
      refine im_iload_n hF dX9_areTwoPorts_15 1 rfl ?_
      refine im_icmp_eq hF 23 dX9_areTwoPorts_16 (by decide) (fun _ => ?_) (fun _ => ?_)
      · refine im_iconst hF dX9_areTwoPorts_23 (v := (0 : Int32)) (by decide) ?_
        exact im_zret hF hM (by decide) dX9_areTwoPorts_24
      · refine im_iconst hF dX9_areTwoPorts_19 (v := (1 : Int32)) (by decide) ?_
        refine im_goto hF 24 dX9_areTwoPorts_20 (by decide) ?_
        exact im_zret hF hM (by decide) dX9_areTwoPorts_24
theorem c_X9_areTwoPorts (l : Launch) (g : GT) (hI : GI g) (a0 : Int32) (a1 : Int32) (s0 : Sg) (r : (Int32 × Sg)) (hr : f_X9_areTwoPorts a0 a1 s0 = some r) : Ct l yX9_areTwoPorts cX9_areTwoPorts 2 (some .boolean) 1 20 g [.int a0, .int a1] s0 (embI r) := ct_of (by decide) hI (Nat.le_of_ble_eq_true rfl) (fun X hF hM => i_X9_areTwoPorts X g hF hM hI a0 a1 s0) r hr
def f_X1_add (a1 : Int32) (a2 : Int32) (a3 : Int32) (s0 : Sg) : Option (Int32 × Sg) :=
  bdI (s0 1 0 4) fun x1 =>
  chk (gi x1 12) (bdS (up3 s0 14 0 x1.toNatClampNeg a1) fun s3 =>
  chk (gi x1 12) (bdS (up3 s3 15 0 x1.toNatClampNeg a2) fun s5 =>
  chk (gi x1 12) (bdS (up3 s5 16 0 x1.toNatClampNeg a3) fun s7 =>
  bdS (up3 s7 1 0 4 (x1 + (1 : Int32))) fun s8 =>
  some (x1, s8))))
set_option maxRecDepth 4000 in
theorem i_X1_add (X : Cx) (g : GT) (hF : Fx X g RX1 cX1_add 5 0 0) (hM : FM X g (some .int)) (hI : GI g) (a1 : Int32) (a2 : Int32) (a3 : Int32) (s0 : Sg) : Im X g 5 (Qm X g embI) s0 0 [(0, .ref (g.2.1 1 0)), (1, .int a1), (2, .int a2), (3, .int a3)] [] (f_X1_add a1 a2 a3 s0) := by
  unfold f_X1_add
  refine im_aload_n hF dX1_add_0 0 rfl ?_
  refine im_get hF (v := .int (s0 1 0 4)) fl_1_24 (by decide) (by decide) rfl dX1_add_1 ?_
  refine im_bdI (fun x1 => ?_)
  refine im_istore hF dX1_add_4 (lv' := [(4, .int x1), (0, .ref (g.2.1 1 0)), (1, .int a1), (2, .int a2), (3, .int a3)]) (by decide) rfl ?_
  refine im_aload_n hF dX1_add_6 1 rfl ?_
  refine im_get hF (v := .ref (g.2.1 14 0)) fl_1_9 (by decide) (by decide) rfl dX1_add_7 ?_
  refine im_iload hF dX1_add_10 0 rfl ?_
  refine im_iload_n hF dX1_add_12 2 rfl ?_
  refine im_iast hF ar_14 (by decide) dX1_add_13 (fun h2 => im_bdS (fun s3 => ?_))
  refine im_aload_n hF dX1_add_14 1 rfl ?_
  refine im_get hF (v := .ref (g.2.1 15 0)) fl_1_15 (by decide) (by decide) rfl dX1_add_15 ?_
  refine im_iload hF dX1_add_18 0 rfl ?_
  refine im_iload_n hF dX1_add_20 3 rfl ?_
  refine im_iast hF ar_15 (by decide) dX1_add_21 (fun h4 => im_bdS (fun s5 => ?_))
  refine im_aload_n hF dX1_add_22 1 rfl ?_
  refine im_get hF (v := .ref (g.2.1 16 0)) fl_1_18 (by decide) (by decide) rfl dX1_add_23 ?_
  refine im_iload hF dX1_add_26 0 rfl ?_
  refine im_iload_n hF dX1_add_28 4 rfl ?_
  refine im_iast hF ar_16 (by decide) dX1_add_29 (fun h6 => im_bdS (fun s7 => ?_))
  refine im_aload_n hF dX1_add_30 1 rfl ?_
  refine im_iload hF dX1_add_31 0 rfl ?_
  refine im_iconst hF dX1_add_33 (v := (1 : Int32)) (by decide) ?_
  refine im_iadd hF dX1_add_34 ?_
  refine im_put hF (x1 + (1 : Int32)) fp_1_24 (by decide) (by decide) rfl rfl rfl dX1_add_35 ?_
  refine im_bdS (fun s8 => ?_)
  refine im_iload hF dX1_add_38 0 rfl ?_
  exact im_iret hF hM dX1_add_40
theorem c_X1_add (l : Launch) (g : GT) (hI : GI g) (a1 : Int32) (a2 : Int32) (a3 : Int32) (s0 : Sg) (r : (Int32 × Sg)) (hr : f_X1_add a1 a2 a3 s0 = some r) : Ct l yX1_add cX1_add 5 (some .int) 0 0 g [.ref (g.2.1 1 0), .int a1, .int a2, .int a3] s0 (embI r) := ct_of (by decide) hI (Nat.le_of_ble_eq_true rfl) (fun X hF hM => i_X1_add X g hF hM hI a1 a2 a3 s0) r hr
def f_X9_passage (a1 : Int32) (a2 : Int32) (a3 : Int32) (s0 : Sg) : Option (Int32 × Sg) :=
  Option.bind (f_X9_areTwoPorts a1 a2 s0) fun q1 =>
  if q1.1 = 0 then
  some ((-1 : Int32), q1.2)
  else
  if a3 < (1 : Int32) then
  some ((-1 : Int32), q1.2)
  else
  if (9999 : Int32) < a3 then
  some ((-1 : Int32), q1.2)
  else
  if (q1.2 1 0 4) < (12 : Int32) then
  Option.bind (f_X1_add a1 a2 a3 q1.2) fun q2 =>
  some (q2.1, q2.2)
  else
  some ((-1 : Int32), q1.2)
set_option maxRecDepth 4000 in
theorem i_X9_passage (X : Cx) (g : GT) (hF : Fx X g RX9 cX9_passage 4 2 41) (hM : FM X g (some .int)) (hI : GI g) (a1 : Int32) (a2 : Int32) (a3 : Int32) (s0 : Sg) : Im X g 4 (Qm X g embI) s0 0 [(0, .ref (g.2.1 9 0)), (1, .int a1), (2, .int a2), (3, .int a3)] [] (f_X9_passage a1 a2 a3 s0) := by
  unfold f_X9_passage
  refine im_iload_n hF dX9_passage_0 1 rfl ?_
  refine im_iload_n hF dX9_passage_1 2 rfl ?_
  refine im_callSI hF (As := [.int a1, .int a2]) (rest := []) my_X9_areTwoPorts ms_X9_areTwoPorts wl_377 (fun l r hr => c_X9_areTwoPorts l g hI a1 a2 s0 r hr) ⟨by decide, by decide⟩ rfl rfl (Nat.le_of_ble_eq_true rfl) dX9_passage_2 (fun q1 => ?_)
  refine im_if_eq hF 35 dX9_passage_5 (by decide) (fun _ => ?_) (fun _ => ?_)
  · refine im_iconst hF dX9_passage_35 (v := (-1 : Int32)) (by decide) ?_
    exact im_iret hF hM dX9_passage_36
  · refine im_iload_n hF dX9_passage_8 3 rfl ?_
    refine im_iconst hF dX9_passage_9 (v := (1 : Int32)) (by decide) ?_
    refine im_icmp_lt hF 35 dX9_passage_10 (by decide) (fun _ => ?_) (fun _ => ?_)
    · refine im_iconst hF dX9_passage_35 (v := (-1 : Int32)) (by decide) ?_
      exact im_iret hF hM dX9_passage_36
    · refine im_iload_n hF dX9_passage_13 3 rfl ?_
      refine im_sipush hF dX9_passage_14 (v := (9999 : Int32)) (by decide) ?_
      refine im_icmp_gt hF 35 dX9_passage_17 (by decide) (fun _ => ?_) (fun _ => ?_)
      · refine im_iconst hF dX9_passage_35 (v := (-1 : Int32)) (by decide) ?_
        exact im_iret hF hM dX9_passage_36
      · refine im_aload_n hF dX9_passage_20 0 rfl ?_
        refine im_get hF (v := .ref (g.2.1 0 0)) fl_9_10 (by decide) (by decide) rfl dX9_passage_21 ?_
        refine im_get hF (v := .ref (g.2.1 1 0)) fl_9_56 (by decide) (by decide) rfl dX9_passage_24 ?_
        refine im_get hF (v := .int (q1.2 1 0 4)) fl_9_60 (by decide) (by decide) rfl dX9_passage_27 ?_
        refine im_bipush hF dX9_passage_30 (v := (12 : Int32)) (by decide) ?_
        refine im_icmp_lt hF 37 dX9_passage_32 (by decide) (fun _ => ?_) (fun _ => ?_)
        · refine im_aload_n hF dX9_passage_37 0 rfl ?_
          refine im_get hF (v := .ref (g.2.1 0 0)) fl_9_10 (by decide) (by decide) rfl dX9_passage_38 ?_
          refine im_get hF (v := .ref (g.2.1 1 0)) fl_9_56 (by decide) (by decide) rfl dX9_passage_41 ?_
          refine im_iload_n hF dX9_passage_44 1 rfl ?_
          refine im_iload_n hF dX9_passage_45 2 rfl ?_
          refine im_iload_n hF dX9_passage_46 3 rfl ?_
          refine im_callVI hF (As := [.int a1, .int a2, .int a3]) (rest := []) my_X1_add mv_X1_add wl_383 (fun l r hr => c_X1_add l g hI a1 a2 a3 q1.2 r hr) ⟨by decide, by decide⟩ (by decide) (by decide) ⟨_, rfl, rfl⟩ rfl rfl (Nat.le_of_ble_eq_true rfl) dX9_passage_47 (fun q2 => ?_)
          exact im_iret hF hM dX9_passage_50
        · refine im_iconst hF dX9_passage_35 (v := (-1 : Int32)) (by decide) ?_
          exact im_iret hF hM dX9_passage_36
theorem c_X9_passage (l : Launch) (g : GT) (hI : GI g) (a1 : Int32) (a2 : Int32) (a3 : Int32) (s0 : Sg) (r : (Int32 × Sg)) (hr : f_X9_passage a1 a2 a3 s0 = some r) : Ct l yX9_passage cX9_passage 4 (some .int) 2 41 g [.ref (g.2.1 9 0), .int a1, .int a2, .int a3] s0 (embI r) := ct_of (by decide) hI (Nat.le_of_ble_eq_true rfl) (fun X hF hM => i_X9_passage X g hF hM hI a1 a2 a3 s0) r hr
def f_X1_has (a1 : Int32) (s0 : Sg) : Option (Int32 × Sg) :=
  if a1 < 0 then
  some ((0 : Int32), s0)
  else
  if (s0 1 0 4) ≤ a1 then
  some ((0 : Int32), s0)
  else
  some ((1 : Int32), s0)
set_option maxRecDepth 4000 in
theorem i_X1_has (X : Cx) (g : GT) (hF : Fx X g RX1 cX1_has 2 0 0) (hM : FM X g (some .boolean)) (hI : GI g) (a1 : Int32) (s0 : Sg) : Im X g 2 (Qm X g embI) s0 0 [(0, .ref (g.2.1 1 0)), (1, .int a1)] [] (f_X1_has a1 s0) := by
  unfold f_X1_has
  refine im_iload_n hF dX1_has_0 1 rfl ?_
  refine im_if_lt hF 16 dX1_has_1 (by decide) (fun _ => ?_) (fun _ => ?_)
  · refine im_iconst hF dX1_has_16 (v := (0 : Int32)) (by decide) ?_
    exact im_zret hF hM (by decide) dX1_has_17
  · refine im_iload_n hF dX1_has_4 1 rfl ?_
    refine im_aload_n hF dX1_has_5 0 rfl ?_
    refine im_get hF (v := .int (s0 1 0 4)) fl_1_24 (by decide) (by decide) rfl dX1_has_6 ?_
    refine im_icmp_ge hF 16 dX1_has_9 (by decide) (fun _ => ?_) (fun _ => ?_)
    · refine im_iconst hF dX1_has_16 (v := (0 : Int32)) (by decide) ?_
      exact im_zret hF hM (by decide) dX1_has_17
    · refine im_iconst hF dX1_has_12 (v := (1 : Int32)) (by decide) ?_
      refine im_goto hF 17 dX1_has_13 (by decide) ?_
      exact im_zret hF hM (by decide) dX1_has_17
theorem c_X1_has (l : Launch) (g : GT) (hI : GI g) (a1 : Int32) (s0 : Sg) (r : (Int32 × Sg)) (hr : f_X1_has a1 s0 = some r) : Ct l yX1_has cX1_has 2 (some .boolean) 0 0 g [.ref (g.2.1 1 0), .int a1] s0 (embI r) := ct_of (by decide) hI (Nat.le_of_ble_eq_true rfl) (fun X hF hM => i_X1_has X g hF hM hI a1 s0) r hr
def f_X9_roundedDown (a0 : UInt64) (s0 : Sg) : Option (Int32 × Sg) :=
  bdI (FP.d2i a0) fun x1 =>
  if (Op.cmpValue (FP.dcmp (FP.i2d x1) a0) .l) ≤ 0 then
  some (x1, s0)
  else
  some ((x1 - (1 : Int32)), s0)
set_option maxRecDepth 4000 in
theorem i_X9_roundedDown (X : Cx) (g : GT) (hF : Fx X g RX9 cX9_roundedDown 3 0 0) (hM : FM X g (some .int)) (hI : GI g) (a0 : UInt64) (s0 : Sg) : Im X g 3 (Qm X g embI) s0 0 [(0, .double a0)] [] (f_X9_roundedDown a0 s0) := by
  unfold f_X9_roundedDown
  refine im_dload_n hF dX9_roundedDown_0 0 rfl ?_
  refine im_d2i hF dX9_roundedDown_1 ?_
  refine im_bdI (fun x1 => ?_)
  refine im_istore_n hF dX9_roundedDown_2 (lv' := [(2, .int x1), (0, .double a0)]) rfl (by decide) rfl ?_
  refine im_iload_n hF dX9_roundedDown_3 0 rfl ?_
  refine im_i2d hF dX9_roundedDown_4 ?_
  refine im_dload_n hF dX9_roundedDown_5 1 rfl ?_
  refine im_dcmp hF dX9_roundedDown_6 ?_
  refine im_if_le hF 16 dX9_roundedDown_7 (by decide) (fun _ => ?_) (fun _ => ?_)
  · refine im_iload_n hF dX9_roundedDown_16 0 rfl ?_
    exact im_iret hF hM dX9_roundedDown_17
  · refine im_iload_n hF dX9_roundedDown_10 0 rfl ?_
    refine im_iconst hF dX9_roundedDown_11 (v := (1 : Int32)) (by decide) ?_
    refine im_isub hF dX9_roundedDown_12 ?_
    refine im_goto hF 17 dX9_roundedDown_13 (by decide) ?_
    exact im_iret hF hM dX9_roundedDown_17
theorem c_X9_roundedDown (l : Launch) (g : GT) (hI : GI g) (a0 : UInt64) (s0 : Sg) (r : (Int32 × Sg)) (hr : f_X9_roundedDown a0 s0 = some r) : Ct l yX9_roundedDown cX9_roundedDown 3 (some .int) 0 0 g [.double a0] s0 (embI r) := ct_of (by decide) hI (Nat.le_of_ble_eq_true rfl) (fun X hF hM => i_X9_roundedDown X g hF hM hI a0 s0) r hr
def f_X9_wind_B37 (a1 : Int32) (a2 : Int32) (as0 : UInt64) (s0 : Sg) : Option (Int32 × Sg) :=
  if (Op.cmpValue (FP.dcmp as0 (13855605728582041600 : UInt64)) .l) < 0 then
  some ((0 : Int32), s0)
  else
  if (Op.cmpValue (FP.dcmp as0 (4632374429215621120 : UInt64)) .g) < 0 then
  Option.bind (f_X9_roundedDown as0 s0) fun q1 =>
  chk (gi ((a1 * (12 : Int32)) + a2) 144) (bdS (up3 q1.2 17 0 ((a1 * (12 : Int32)) + a2).toNatClampNeg q1.1) fun s3 =>
  bdS (up3 s3 3 0 2 (1 : Int32)) fun s4 =>
  some ((1 : Int32), s4))
  else
  some ((0 : Int32), s0)
set_option maxRecDepth 4000 in
theorem i_X9_wind_B37 (X : Cx) (g : GT) (hF : Fx X g RX9 cX9_wind 7 1 22) (hM : FM X g (some .boolean)) (hI : GI g) (a1 : Int32) (a2 : Int32) (as0 : UInt64) (s0 : Sg) : Im X g 7 (Qm X g embI) s0 37 [(0, .ref (g.2.1 9 0)), (1, .int a1), (2, .int a2)] [.double as0] (f_X9_wind_B37 a1 a2 as0 s0) := by
  unfold f_X9_wind_B37
  refine im_dstore hF dX9_wind_37 (lv' := [(5, .double as0), (0, .ref (g.2.1 9 0)), (1, .int a1), (2, .int a2)]) (by decide) rfl ?_
  refine im_dload hF dX9_wind_39 0 rfl ?_
  refine im_ldc2d hF (v := (13855605728582041600 : UInt64)) wl_395 dX9_wind_41 ?_
  refine im_dcmp hF dX9_wind_44 ?_
  refine im_if_lt hF 57 dX9_wind_45 (by decide) (fun _ => ?_) (fun _ => ?_)
  · refine im_iconst hF dX9_wind_57 (v := (0 : Int32)) (by decide) ?_
    exact im_zret hF hM (by decide) dX9_wind_58
  · refine im_dload hF dX9_wind_48 0 rfl ?_
    refine im_ldc2d hF (v := (4632374429215621120 : UInt64)) wl_396 dX9_wind_50 ?_
    refine im_dcmp hF dX9_wind_53 ?_
    refine im_if_lt hF 59 dX9_wind_54 (by decide) (fun _ => ?_) (fun _ => ?_)
    · refine im_aload_n hF dX9_wind_59 1 rfl ?_
      refine im_get hF (v := .ref (g.2.1 0 0)) fl_9_10 (by decide) (by decide) rfl dX9_wind_60 ?_
      refine im_get hF (v := .ref (g.2.1 1 0)) fl_9_56 (by decide) (by decide) rfl dX9_wind_63 ?_
      refine im_get hF (v := .ref (g.2.1 17 0)) fl_9_75 (by decide) (by decide) rfl dX9_wind_66 ?_
      refine im_iload_n hF dX9_wind_69 2 rfl ?_
      refine im_bipush hF dX9_wind_70 (v := (12 : Int32)) (by decide) ?_
      refine im_imul hF dX9_wind_72 ?_
      refine im_iload_n hF dX9_wind_73 3 rfl ?_
      refine im_iadd hF dX9_wind_74 ?_
      refine im_dload hF dX9_wind_75 0 rfl ?_
      refine im_callSI hF (As := [.double as0]) (rest := [.int ((a1 * (12 : Int32)) + a2), .ref (g.2.1 17 0)]) my_X9_roundedDown ms_X9_roundedDown wl_397 (fun l r hr => c_X9_roundedDown l g hI as0 s0 r hr) ⟨by decide, by decide⟩ rfl rfl (Nat.le_of_ble_eq_true rfl) dX9_wind_77 (fun q1 => ?_)
      refine im_iast hF ar_17 (by decide) dX9_wind_80 (fun h2 => im_bdS (fun s3 => ?_))
      refine im_aload_n hF dX9_wind_81 1 rfl ?_
      refine im_get hF (v := .ref (g.2.1 3 0)) fl_9_33 (by decide) (by decide) rfl dX9_wind_82 ?_
      refine im_iconst hF dX9_wind_85 (v := (1 : Int32)) (by decide) ?_
      refine im_put hF (1 : Int32) fp_9_83 (by decide) (by decide) rfl rfl rfl dX9_wind_86 ?_
      refine im_bdS (fun s4 => ?_)
      refine im_iconst hF dX9_wind_89 (v := (1 : Int32)) (by decide) ?_
      exact im_zret hF hM (by decide) dX9_wind_90
    · refine im_iconst hF dX9_wind_57 (v := (0 : Int32)) (by decide) ?_
      exact im_zret hF hM (by decide) dX9_wind_58
def f_X9_wind (a1 : Int32) (a2 : Int32) (a3 : UInt64) (s0 : Sg) : Option (Int32 × Sg) :=
  Option.bind (f_X1_has a1 s0) fun q1 =>
  if q1.1 = 0 then
  some ((0 : Int32), q1.2)
  else
  if a2 < 0 then
  some ((0 : Int32), q1.2)
  else
  if a2 < (12 : Int32) then
  if (Op.cmpValue (FP.dcmp a3 a3) .l) = 0 then
  (f_X9_wind_B37) a1 a2 a3 q1.2
  else
  (f_X9_wind_B37) a1 a2 FP.dconst0 q1.2
  else
  some ((0 : Int32), q1.2)
set_option maxRecDepth 4000 in
theorem i_X9_wind (X : Cx) (g : GT) (hF : Fx X g RX9 cX9_wind 7 1 22) (hM : FM X g (some .boolean)) (hI : GI g) (a1 : Int32) (a2 : Int32) (a3 : UInt64) (s0 : Sg) : Im X g 7 (Qm X g embI) s0 0 [(0, .ref (g.2.1 9 0)), (1, .int a1), (2, .int a2), (3, .double a3)] [] (f_X9_wind a1 a2 a3 s0) := by
  unfold f_X9_wind
  refine im_aload_n hF dX9_wind_0 0 rfl ?_
  refine im_get hF (v := .ref (g.2.1 0 0)) fl_9_10 (by decide) (by decide) rfl dX9_wind_1 ?_
  refine im_get hF (v := .ref (g.2.1 1 0)) fl_9_56 (by decide) (by decide) rfl dX9_wind_4 ?_
  refine im_iload_n hF dX9_wind_7 1 rfl ?_
  refine im_callVI hF (As := [.int a1]) (rest := []) my_X1_has mv_X1_has wl_391 (fun l r hr => c_X1_has l g hI a1 s0 r hr) ⟨by decide, by decide⟩ (by decide) (by decide) ⟨_, rfl, rfl⟩ rfl rfl (Nat.le_of_ble_eq_true rfl) dX9_wind_8 (fun q1 => ?_)
  refine im_if_eq hF 24 dX9_wind_11 (by decide) (fun _ => ?_) (fun _ => ?_)
  · refine im_iconst hF dX9_wind_24 (v := (0 : Int32)) (by decide) ?_
    exact im_zret hF hM (by decide) dX9_wind_25
  · refine im_iload_n hF dX9_wind_14 2 rfl ?_
    refine im_if_lt hF 24 dX9_wind_15 (by decide) (fun _ => ?_) (fun _ => ?_)
    · refine im_iconst hF dX9_wind_24 (v := (0 : Int32)) (by decide) ?_
      exact im_zret hF hM (by decide) dX9_wind_25
    · refine im_iload_n hF dX9_wind_18 2 rfl ?_
      refine im_bipush hF dX9_wind_19 (v := (12 : Int32)) (by decide) ?_
      refine im_icmp_lt hF 26 dX9_wind_21 (by decide) (fun _ => ?_) (fun _ => ?_)
      · refine im_dload_n hF dX9_wind_26 3 rfl ?_
        refine im_dload_n hF dX9_wind_27 3 rfl ?_
        refine im_dcmp hF dX9_wind_28 ?_
        refine im_if_eq hF 36 dX9_wind_29 (by decide) (fun _ => ?_) (fun _ => ?_)
        · refine im_dload_n hF dX9_wind_36 3 rfl ?_
          refine im_sub (lv' := [(0, .ref (g.2.1 9 0)), (1, .int a1), (2, .int a2)]) [0, 1, 2] rfl ?_
          exact (i_X9_wind_B37 X g hF hM hI) a1 a2 a3 q1.2
        · refine im_dconst0 hF dX9_wind_32 ?_
          refine im_goto hF 37 dX9_wind_33 (by decide) ?_
          refine im_sub (lv' := [(0, .ref (g.2.1 9 0)), (1, .int a1), (2, .int a2)]) [0, 1, 2] rfl ?_
          exact (i_X9_wind_B37 X g hF hM hI) a1 a2 FP.dconst0 q1.2
      · refine im_iconst hF dX9_wind_24 (v := (0 : Int32)) (by decide) ?_
        exact im_zret hF hM (by decide) dX9_wind_25
theorem c_X9_wind (l : Launch) (g : GT) (hI : GI g) (a1 : Int32) (a2 : Int32) (a3 : UInt64) (s0 : Sg) (r : (Int32 × Sg)) (hr : f_X9_wind a1 a2 a3 s0 = some r) : Ct l yX9_wind cX9_wind 7 (some .boolean) 1 22 g [.ref (g.2.1 9 0), .int a1, .int a2, .double a3] s0 (embI r) := ct_of (by decide) hI (Nat.le_of_ble_eq_true rfl) (fun X hF hM => i_X9_wind X g hF hM hI a1 a2 a3 s0) r hr
def f_X9_isLine (a0 : Int32) (s0 : Sg) : Option (Int32 × Sg) :=
  if a0 < 0 then
  some ((0 : Int32), s0)
  else
  if (4 : Int32) ≤ a0 then
  some ((0 : Int32), s0)
  else
  some ((1 : Int32), s0)
set_option maxRecDepth 4000 in
theorem i_X9_isLine (X : Cx) (g : GT) (hF : Fx X g RX9 cX9_isLine 1 0 0) (hM : FM X g (some .boolean)) (hI : GI g) (a0 : Int32) (s0 : Sg) : Im X g 1 (Qm X g embI) s0 0 [(0, .int a0)] [] (f_X9_isLine a0 s0) := by
  unfold f_X9_isLine
  refine im_iload_n hF dX9_isLine_0 0 rfl ?_
  refine im_if_lt hF 13 dX9_isLine_1 (by decide) (fun _ => ?_) (fun _ => ?_)
  · refine im_iconst hF dX9_isLine_13 (v := (0 : Int32)) (by decide) ?_
    exact im_zret hF hM (by decide) dX9_isLine_14
  · refine im_iload_n hF dX9_isLine_4 0 rfl ?_
    refine im_iconst hF dX9_isLine_5 (v := (4 : Int32)) (by decide) ?_
    refine im_icmp_ge hF 13 dX9_isLine_6 (by decide) (fun _ => ?_) (fun _ => ?_)
    · refine im_iconst hF dX9_isLine_13 (v := (0 : Int32)) (by decide) ?_
      exact im_zret hF hM (by decide) dX9_isLine_14
    · refine im_iconst hF dX9_isLine_9 (v := (1 : Int32)) (by decide) ?_
      refine im_goto hF 14 dX9_isLine_10 (by decide) ?_
      exact im_zret hF hM (by decide) dX9_isLine_14
theorem c_X9_isLine (l : Launch) (g : GT) (hI : GI g) (a0 : Int32) (s0 : Sg) (r : (Int32 × Sg)) (hr : f_X9_isLine a0 s0 = some r) : Ct l yX9_isLine cX9_isLine 1 (some .boolean) 0 0 g [.int a0] s0 (embI r) := ct_of (by decide) hI (Nat.le_of_ble_eq_true rfl) (fun X hF hM => i_X9_isLine X g hF hM hI a0 s0) r hr
def f_X8_begin (o0 : Nat) (a1 : Int32) (a2 : Int32) (a3 : Int32) (a4 : Int32) (a5 : Int32) (s0 : Sg) : Option Sg :=
  bdS (up3 s0 8 o0 0 a1) fun s1 =>
  bdS (up3 s1 8 o0 1 a3) fun s2 =>
  bdS (up3 s2 8 o0 2 a4) fun s3 =>
  bdS (up3 s3 8 o0 3 a5) fun s4 =>
  bdS (up3 s4 8 o0 4 (0 : Int32)) fun s5 =>
  chk (gi (0 : Int32) 7) (bdS (up3 s5 36 o0 (0 : Int32).toNatClampNeg a2) fun s7 =>
  chk (gi (0 : Int32) 7) (bdS (up3 s7 43 o0 (0 : Int32).toNatClampNeg a5) fun s9 =>
  some s9))
set_option maxRecDepth 4000 in
theorem i_X8_begin (X : Cx) (g : GT) (hF : Fx X g RX8 cX8_begin 6 0 0) (hM : FM X g none) (hI : GI g) (o0 : Nat) (a1 : Int32) (a2 : Int32) (a3 : Int32) (a4 : Int32) (a5 : Int32) (ho0 : o0 < cnt 8) (s0 : Sg) : Im X g 6 (Qm X g embV) s0 0 [(0, .ref (g.2.1 8 o0)), (1, .int a1), (2, .int a2), (3, .int a3), (4, .int a4), (5, .int a5)] [] (f_X8_begin o0 a1 a2 a3 a4 a5 s0) := by
  unfold f_X8_begin
  refine im_aload_n hF dX8_begin_0 0 rfl ?_
  refine im_iload_n hF dX8_begin_1 1 rfl ?_
  refine im_put hF a1 fp_8_42 (by decide) ho0 rfl rfl rfl dX8_begin_2 ?_
  refine im_bdS (fun s1 => ?_)
  refine im_aload_n hF dX8_begin_5 0 rfl ?_
  refine im_iload_n hF dX8_begin_6 3 rfl ?_
  refine im_put hF a3 fp_8_46 (by decide) ho0 rfl rfl rfl dX8_begin_7 ?_
  refine im_bdS (fun s2 => ?_)
  refine im_aload_n hF dX8_begin_10 0 rfl ?_
  refine im_iload hF dX8_begin_11 4 rfl ?_
  refine im_put hF a4 fp_8_49 (by decide) ho0 rfl rfl rfl dX8_begin_13 ?_
  refine im_bdS (fun s3 => ?_)
  refine im_aload_n hF dX8_begin_16 0 rfl ?_
  refine im_iload hF dX8_begin_17 5 rfl ?_
  refine im_put hF a5 fp_8_52 (by decide) ho0 rfl rfl rfl dX8_begin_19 ?_
  refine im_bdS (fun s4 => ?_)
  refine im_aload_n hF dX8_begin_22 0 rfl ?_
  refine im_iconst hF dX8_begin_23 (v := (0 : Int32)) (by decide) ?_
  refine im_put hF (0 : Int32) fp_8_55 (by decide) ho0 rfl rfl rfl dX8_begin_24 ?_
  refine im_bdS (fun s5 => ?_)
  refine im_aload_n hF dX8_begin_27 0 rfl ?_
  refine im_get hF (v := .ref (g.2.1 36 o0)) fl_8_9 (by decide) ho0 rfl dX8_begin_28 ?_
  refine im_iconst hF dX8_begin_31 (v := (0 : Int32)) (by decide) ?_
  refine im_iload_n hF dX8_begin_32 2 rfl ?_
  refine im_iast hF ar_36 ho0 dX8_begin_33 (fun h6 => im_bdS (fun s7 => ?_))
  refine im_aload_n hF dX8_begin_34 0 rfl ?_
  refine im_get hF (v := .ref (g.2.1 43 o0)) fl_8_39 (by decide) ho0 rfl dX8_begin_35 ?_
  refine im_iconst hF dX8_begin_38 (v := (0 : Int32)) (by decide) ?_
  refine im_iload hF dX8_begin_39 5 rfl ?_
  refine im_iast hF ar_43 ho0 dX8_begin_41 (fun h8 => im_bdS (fun s9 => ?_))
  exact im_vret hF hM dX8_begin_42
theorem c_X8_begin (l : Launch) (g : GT) (hI : GI g) (o0 : Nat) (a1 : Int32) (a2 : Int32) (a3 : Int32) (a4 : Int32) (a5 : Int32) (ho0 : o0 < cnt 8) (s0 : Sg) (r : Sg) (hr : f_X8_begin o0 a1 a2 a3 a4 a5 s0 = some r) : Ct l yX8_begin cX8_begin 6 none 0 0 g [.ref (g.2.1 8 o0), .int a1, .int a2, .int a3, .int a4, .int a5] s0 (embV r) := ct_of (by decide) hI (Nat.le_of_ble_eq_true rfl) (fun X hF hM => i_X8_begin X g hF hM hI o0 a1 a2 a3 a4 a5 ho0 s0) r hr
def f_X9_voyage (a1 : Int32) (a2 : Int32) (a3 : Int32) (a4 : Int32) (a5 : Int32) (s0 : Sg) : Option (Int32 × Sg) :=
  Option.bind (f_X9_isLine a1 s0) fun q1 =>
  if q1.1 = 0 then
  some ((-1 : Int32), q1.2)
  else
  Option.bind (f_X9_isPort a2 q1.2) fun q2 =>
  if q2.1 = 0 then
  some ((-1 : Int32), q2.2)
  else
  if a3 < (1 : Int32) then
  some ((-1 : Int32), q2.2)
  else
  if a3 ≤ (30 : Int32) then
  if a4 < (1 : Int32) then
  some ((-1 : Int32), q2.2)
  else
  if (48 : Int32) < a4 then
  some ((-1 : Int32), q2.2)
  else
  if a5 < 0 then
  some ((-1 : Int32), q2.2)
  else
  if a5 ≤ (5000 : Int32) then
  if (q2.2 0 0 2) < (10 : Int32) then
  bdI (q2.2 0 0 2) fun x3 =>
  chk (gi x3 10) (
  Option.bind (f_X8_begin x3.toNatClampNeg a1 a2 a3 a4 a5 q2.2) fun q5 =>
  bdS (up3 q5 0 0 2 (x3 + (1 : Int32))) fun s6 =>
  bdS (up3 s6 3 0 2 (1 : Int32)) fun s7 =>
  some (x3, s7))
  else
  some ((-1 : Int32), q2.2)
  else
  some ((-1 : Int32), q2.2)
  else
  some ((-1 : Int32), q2.2)
set_option maxRecDepth 4000 in
theorem i_X9_voyage (X : Cx) (g : GT) (hF : Fx X g RX9 cX9_voyage 7 1 25) (hM : FM X g (some .int)) (hI : GI g) (a1 : Int32) (a2 : Int32) (a3 : Int32) (a4 : Int32) (a5 : Int32) (s0 : Sg) : Im X g 7 (Qm X g embI) s0 0 [(0, .ref (g.2.1 9 0)), (1, .int a1), (2, .int a2), (3, .int a3), (4, .int a4), (5, .int a5)] [] (f_X9_voyage a1 a2 a3 a4 a5 s0) := by
  unfold f_X9_voyage
  refine im_iload_n hF dX9_voyage_0 1 rfl ?_
  refine im_callSI hF (As := [.int a1]) (rest := []) my_X9_isLine ms_X9_isLine wl_404 (fun l r hr => c_X9_isLine l g hI a1 s0 r hr) ⟨by decide, by decide⟩ rfl rfl (Nat.le_of_ble_eq_true rfl) dX9_voyage_1 (fun q1 => ?_)
  refine im_if_eq hF 25 dX9_voyage_4 (by decide) (fun _ => ?_) (fun _ => ?_)
  · refine im_iconst hF dX9_voyage_25 (v := (-1 : Int32)) (by decide) ?_
    exact im_iret hF hM dX9_voyage_26
  · refine im_iload_n hF dX9_voyage_7 2 rfl ?_
    refine im_callSI hF (As := [.int a2]) (rest := []) my_X9_isPort ms_X9_isPort wl_380 (fun l r hr => c_X9_isPort l g hI a2 q1.2 r hr) ⟨by decide, by decide⟩ rfl rfl (Nat.le_of_ble_eq_true rfl) dX9_voyage_8 (fun q2 => ?_)
    refine im_if_eq hF 25 dX9_voyage_11 (by decide) (fun _ => ?_) (fun _ => ?_)
    · refine im_iconst hF dX9_voyage_25 (v := (-1 : Int32)) (by decide) ?_
      exact im_iret hF hM dX9_voyage_26
    · refine im_iload_n hF dX9_voyage_14 3 rfl ?_
      refine im_iconst hF dX9_voyage_15 (v := (1 : Int32)) (by decide) ?_
      refine im_icmp_lt hF 25 dX9_voyage_16 (by decide) (fun _ => ?_) (fun _ => ?_)
      · refine im_iconst hF dX9_voyage_25 (v := (-1 : Int32)) (by decide) ?_
        exact im_iret hF hM dX9_voyage_26
      · refine im_iload_n hF dX9_voyage_19 3 rfl ?_
        refine im_bipush hF dX9_voyage_20 (v := (30 : Int32)) (by decide) ?_
        refine im_icmp_le hF 27 dX9_voyage_22 (by decide) (fun _ => ?_) (fun _ => ?_)
        · refine im_iload hF dX9_voyage_27 4 rfl ?_
          refine im_iconst hF dX9_voyage_29 (v := (1 : Int32)) (by decide) ?_
          refine im_icmp_lt hF 53 dX9_voyage_30 (by decide) (fun _ => ?_) (fun _ => ?_)
          · refine im_iconst hF dX9_voyage_53 (v := (-1 : Int32)) (by decide) ?_
            exact im_iret hF hM dX9_voyage_54
          · refine im_iload hF dX9_voyage_33 4 rfl ?_
            refine im_bipush hF dX9_voyage_35 (v := (48 : Int32)) (by decide) ?_
            refine im_icmp_gt hF 53 dX9_voyage_37 (by decide) (fun _ => ?_) (fun _ => ?_)
            · refine im_iconst hF dX9_voyage_53 (v := (-1 : Int32)) (by decide) ?_
              exact im_iret hF hM dX9_voyage_54
            · refine im_iload hF dX9_voyage_40 5 rfl ?_
              refine im_if_lt hF 53 dX9_voyage_42 (by decide) (fun _ => ?_) (fun _ => ?_)
              · refine im_iconst hF dX9_voyage_53 (v := (-1 : Int32)) (by decide) ?_
                exact im_iret hF hM dX9_voyage_54
              · refine im_iload hF dX9_voyage_45 5 rfl ?_
                refine im_sipush hF dX9_voyage_47 (v := (5000 : Int32)) (by decide) ?_
                refine im_icmp_le hF 55 dX9_voyage_50 (by decide) (fun _ => ?_) (fun _ => ?_)
                · refine im_aload_n hF dX9_voyage_55 0 rfl ?_
                  refine im_get hF (v := .ref (g.2.1 0 0)) fl_9_10 (by decide) (by decide) rfl dX9_voyage_56 ?_
                  refine im_get hF (v := .int (q2.2 0 0 2)) fl_9_93 (by decide) (by decide) rfl dX9_voyage_59 ?_
                  refine im_bipush hF dX9_voyage_62 (v := (10 : Int32)) (by decide) ?_
                  refine im_icmp_lt hF 69 dX9_voyage_64 (by decide) (fun _ => ?_) (fun _ => ?_)
                  · refine im_aload_n hF dX9_voyage_69 0 rfl ?_
                    refine im_get hF (v := .ref (g.2.1 0 0)) fl_9_10 (by decide) (by decide) rfl dX9_voyage_70 ?_
                    refine im_get hF (v := .int (q2.2 0 0 2)) fl_9_93 (by decide) (by decide) rfl dX9_voyage_73 ?_
                    refine im_bdI (fun x3 => ?_)
                    refine im_istore hF dX9_voyage_76 (lv' := [(6, .int x3), (0, .ref (g.2.1 9 0)), (1, .int a1), (2, .int a2), (3, .int a3), (4, .int a4), (5, .int a5)]) (by decide) rfl ?_
                    refine im_aload_n hF dX9_voyage_78 1 rfl ?_
                    refine im_get hF (v := .ref (g.2.1 0 0)) fl_9_10 (by decide) (by decide) rfl dX9_voyage_79 ?_
                    refine im_get hF (v := .ref (g.2.1 11 0)) fl_9_96 (by decide) (by decide) rfl dX9_voyage_82 ?_
                    refine im_iload hF dX9_voyage_85 0 rfl ?_
                    refine im_aald11 hF dX9_voyage_87 (fun h4 => ?_)
                    refine im_iload_n hF dX9_voyage_88 2 rfl ?_
                    refine im_iload_n hF dX9_voyage_89 3 rfl ?_
                    refine im_iload_n hF dX9_voyage_90 4 rfl ?_
                    refine im_iload hF dX9_voyage_91 5 rfl ?_
                    refine im_iload hF dX9_voyage_93 6 rfl ?_
                    refine im_callVV hF (As := [.int a1, .int a2, .int a3, .int a4, .int a5]) (rest := []) my_X8_begin mv_X8_begin wl_407 (fun l r hr => c_X8_begin l g hI x3.toNatClampNeg a1 a2 a3 a4 a5 (gi_lt h4) q2.2 r hr) ⟨by decide, by decide⟩ (by decide) (gi_lt h4) ⟨_, rfl, rfl⟩ rfl rfl (Nat.le_of_ble_eq_true rfl) dX9_voyage_95 (fun q5 => ?_)
                    refine im_aload_n hF dX9_voyage_98 1 rfl ?_
                    refine im_get hF (v := .ref (g.2.1 0 0)) fl_9_10 (by decide) (by decide) rfl dX9_voyage_99 ?_
                    refine im_iload hF dX9_voyage_102 0 rfl ?_
                    refine im_iconst hF dX9_voyage_104 (v := (1 : Int32)) (by decide) ?_
                    refine im_iadd hF dX9_voyage_105 ?_
                    refine im_put hF (x3 + (1 : Int32)) fp_9_93 (by decide) (by decide) rfl rfl rfl dX9_voyage_106 ?_
                    refine im_bdS (fun s6 => ?_)
                    refine im_aload_n hF dX9_voyage_109 1 rfl ?_
                    refine im_get hF (v := .ref (g.2.1 3 0)) fl_9_33 (by decide) (by decide) rfl dX9_voyage_110 ?_
                    refine im_iconst hF dX9_voyage_113 (v := (1 : Int32)) (by decide) ?_
                    refine im_put hF (1 : Int32) fp_9_83 (by decide) (by decide) rfl rfl rfl dX9_voyage_114 ?_
                    refine im_bdS (fun s7 => ?_)
                    refine im_iload hF dX9_voyage_117 0 rfl ?_
                    exact im_iret hF hM dX9_voyage_119
                  · refine im_iconst hF dX9_voyage_67 (v := (-1 : Int32)) (by decide) ?_
                    exact im_iret hF hM dX9_voyage_68
                · refine im_iconst hF dX9_voyage_53 (v := (-1 : Int32)) (by decide) ?_
                  exact im_iret hF hM dX9_voyage_54
        · refine im_iconst hF dX9_voyage_25 (v := (-1 : Int32)) (by decide) ?_
          exact im_iret hF hM dX9_voyage_26
theorem c_X9_voyage (l : Launch) (g : GT) (hI : GI g) (a1 : Int32) (a2 : Int32) (a3 : Int32) (a4 : Int32) (a5 : Int32) (s0 : Sg) (r : (Int32 × Sg)) (hr : f_X9_voyage a1 a2 a3 a4 a5 s0 = some r) : Ct l yX9_voyage cX9_voyage 7 (some .int) 1 25 g [.ref (g.2.1 9 0), .int a1, .int a2, .int a3, .int a4, .int a5] s0 (embI r) := ct_of (by decide) hI (Nat.le_of_ble_eq_true rfl) (fun X hF hM => i_X9_voyage X g hF hM hI a1 a2 a3 a4 a5 s0) r hr
def f_X0_hasVoyage (a1 : Int32) (s0 : Sg) : Option (Int32 × Sg) :=
  if a1 < 0 then
  some ((0 : Int32), s0)
  else
  if (s0 0 0 2) ≤ a1 then
  some ((0 : Int32), s0)
  else
  some ((1 : Int32), s0)
set_option maxRecDepth 4000 in
theorem i_X0_hasVoyage (X : Cx) (g : GT) (hF : Fx X g RX0 cX0_hasVoyage 2 0 0) (hM : FM X g (some .boolean)) (hI : GI g) (a1 : Int32) (s0 : Sg) : Im X g 2 (Qm X g embI) s0 0 [(0, .ref (g.2.1 0 0)), (1, .int a1)] [] (f_X0_hasVoyage a1 s0) := by
  unfold f_X0_hasVoyage
  refine im_iload_n hF dX0_hasVoyage_0 1 rfl ?_
  refine im_if_lt hF 16 dX0_hasVoyage_1 (by decide) (fun _ => ?_) (fun _ => ?_)
  · refine im_iconst hF dX0_hasVoyage_16 (v := (0 : Int32)) (by decide) ?_
    exact im_zret hF hM (by decide) dX0_hasVoyage_17
  · refine im_iload_n hF dX0_hasVoyage_4 1 rfl ?_
    refine im_aload_n hF dX0_hasVoyage_5 0 rfl ?_
    refine im_get hF (v := .int (s0 0 0 2)) fl_0_25 (by decide) (by decide) rfl dX0_hasVoyage_6 ?_
    refine im_icmp_ge hF 16 dX0_hasVoyage_9 (by decide) (fun _ => ?_) (fun _ => ?_)
    · refine im_iconst hF dX0_hasVoyage_16 (v := (0 : Int32)) (by decide) ?_
      exact im_zret hF hM (by decide) dX0_hasVoyage_17
    · refine im_iconst hF dX0_hasVoyage_12 (v := (1 : Int32)) (by decide) ?_
      refine im_goto hF 17 dX0_hasVoyage_13 (by decide) ?_
      exact im_zret hF hM (by decide) dX0_hasVoyage_17
theorem c_X0_hasVoyage (l : Launch) (g : GT) (hI : GI g) (a1 : Int32) (s0 : Sg) (r : (Int32 × Sg)) (hr : f_X0_hasVoyage a1 s0 = some r) : Ct l yX0_hasVoyage cX0_hasVoyage 2 (some .boolean) 0 0 g [.ref (g.2.1 0 0), .int a1] s0 (embI r) := ct_of (by decide) hI (Nat.le_of_ble_eq_true rfl) (fun X hF hM => i_X0_hasVoyage X g hF hM hI a1 s0) r hr
def f_X8_endPort (o0 : Nat) (s0 : Sg) : Option (Int32 × Sg) :=
  chk (gi (s0 8 o0 4) 7) (
  some ((s0 36 o0 (s0 8 o0 4).toNatClampNeg), s0))
set_option maxRecDepth 4000 in
theorem i_X8_endPort (X : Cx) (g : GT) (hF : Fx X g RX8 cX8_endPort 1 0 0) (hM : FM X g (some .int)) (hI : GI g) (o0 : Nat) (ho0 : o0 < cnt 8) (s0 : Sg) : Im X g 1 (Qm X g embI) s0 0 [(0, .ref (g.2.1 8 o0))] [] (f_X8_endPort o0 s0) := by
  unfold f_X8_endPort
  refine im_aload_n hF dX8_endPort_0 0 rfl ?_
  refine im_get hF (v := .ref (g.2.1 36 o0)) fl_8_9 (by decide) ho0 rfl dX8_endPort_1 ?_
  refine im_aload_n hF dX8_endPort_4 0 rfl ?_
  refine im_get hF (v := .int (s0 8 o0 4)) fl_8_55 (by decide) ho0 rfl dX8_endPort_5 ?_
  refine im_iald hF ar_36 ho0 dX8_endPort_8 (fun h1 => ?_)
  exact im_iret hF hM dX8_endPort_9
theorem c_X8_endPort (l : Launch) (g : GT) (hI : GI g) (o0 : Nat) (ho0 : o0 < cnt 8) (s0 : Sg) (r : (Int32 × Sg)) (hr : f_X8_endPort o0 s0 = some r) : Ct l yX8_endPort cX8_endPort 1 (some .int) 0 0 g [.ref (g.2.1 8 o0)] s0 (embI r) := ct_of (by decide) hI (Nat.le_of_ble_eq_true rfl) (fun X hF hM => i_X8_endPort X g hF hM hI o0 ho0 s0) r hr
def f_X1_otherEnd (a1 : Int32) (a2 : Int32) (s0 : Sg) : Option (Int32 × Sg) :=
  chk (gi a1 12) (
  if (s0 14 0 a1.toNatClampNeg) = a2 then
  chk (gi a1 12) (
  some ((s0 15 0 a1.toNatClampNeg), s0))
  else
  chk (gi a1 12) (
  if (s0 15 0 a1.toNatClampNeg) = a2 then
  chk (gi a1 12) (
  some ((s0 14 0 a1.toNatClampNeg), s0))
  else
  some ((-1 : Int32), s0)))
set_option maxRecDepth 4000 in
theorem i_X1_otherEnd (X : Cx) (g : GT) (hF : Fx X g RX1 cX1_otherEnd 3 0 0) (hM : FM X g (some .int)) (hI : GI g) (a1 : Int32) (a2 : Int32) (s0 : Sg) : Im X g 3 (Qm X g embI) s0 0 [(0, .ref (g.2.1 1 0)), (1, .int a1), (2, .int a2)] [] (f_X1_otherEnd a1 a2 s0) := by
  unfold f_X1_otherEnd
  refine im_aload_n hF dX1_otherEnd_0 0 rfl ?_
  refine im_get hF (v := .ref (g.2.1 14 0)) fl_1_9 (by decide) (by decide) rfl dX1_otherEnd_1 ?_
  refine im_iload_n hF dX1_otherEnd_4 1 rfl ?_
  refine im_iald hF ar_14 (by decide) dX1_otherEnd_5 (fun h1 => ?_)
  refine im_iload_n hF dX1_otherEnd_6 2 rfl ?_
  refine im_icmp_ne hF 17 dX1_otherEnd_7 (by decide) (fun _ => ?_) (fun _ => ?_)
  · refine im_aload_n hF dX1_otherEnd_10 0 rfl ?_
    refine im_get hF (v := .ref (g.2.1 15 0)) fl_1_15 (by decide) (by decide) rfl dX1_otherEnd_11 ?_
    refine im_iload_n hF dX1_otherEnd_14 1 rfl ?_
    refine im_iald hF ar_15 (by decide) dX1_otherEnd_15 (fun h2 => ?_)
    exact im_iret hF hM dX1_otherEnd_16
  · refine im_aload_n hF dX1_otherEnd_17 0 rfl ?_
    refine im_get hF (v := .ref (g.2.1 15 0)) fl_1_15 (by decide) (by decide) rfl dX1_otherEnd_18 ?_
    refine im_iload_n hF dX1_otherEnd_21 1 rfl ?_
    refine im_iald hF ar_15 (by decide) dX1_otherEnd_22 (fun h3 => ?_)
    refine im_iload_n hF dX1_otherEnd_23 2 rfl ?_
    refine im_icmp_ne hF 36 dX1_otherEnd_24 (by decide) (fun _ => ?_) (fun _ => ?_)
    · refine im_aload_n hF dX1_otherEnd_27 0 rfl ?_
      refine im_get hF (v := .ref (g.2.1 14 0)) fl_1_9 (by decide) (by decide) rfl dX1_otherEnd_28 ?_
      refine im_iload_n hF dX1_otherEnd_31 1 rfl ?_
      refine im_iald hF ar_14 (by decide) dX1_otherEnd_32 (fun h4 => ?_)
      refine im_goto hF 37 dX1_otherEnd_33 (by decide) ?_
      exact im_iret hF hM dX1_otherEnd_37
    · refine im_iconst hF dX1_otherEnd_36 (v := (-1 : Int32)) (by decide) ?_
      exact im_iret hF hM dX1_otherEnd_37
theorem c_X1_otherEnd (l : Launch) (g : GT) (hI : GI g) (a1 : Int32) (a2 : Int32) (s0 : Sg) (r : (Int32 × Sg)) (hr : f_X1_otherEnd a1 a2 s0 = some r) : Ct l yX1_otherEnd cX1_otherEnd 3 (some .int) 0 0 g [.ref (g.2.1 1 0), .int a1, .int a2] s0 (embI r) := ct_of (by decide) hI (Nat.le_of_ble_eq_true rfl) (fun X hF hM => i_X1_otherEnd X g hF hM hI a1 a2 s0) r hr
def f_X9_hoursFor (a0 : Int32) (a1 : Int32) (s0 : Sg) : Option (Int32 × Sg) :=
  if a1 ≤ 0 then
  some ((1000000 : Int32), s0)
  else
  chk (decide (¬ a1 = 0)) (
  some ((((a0 + a1) - (1 : Int32)) / a1), s0))
set_option maxRecDepth 4000 in
theorem i_X9_hoursFor (X : Cx) (g : GT) (hF : Fx X g RX9 cX9_hoursFor 2 0 0) (hM : FM X g (some .int)) (hI : GI g) (a0 : Int32) (a1 : Int32) (s0 : Sg) : Im X g 2 (Qm X g embI) s0 0 [(0, .int a0), (1, .int a1)] [] (f_X9_hoursFor a0 a1 s0) := by
  unfold f_X9_hoursFor
  refine im_iload_n hF dX9_hoursFor_0 1 rfl ?_
  refine im_if_le hF 14 dX9_hoursFor_1 (by decide) (fun _ => ?_) (fun _ => ?_)
  · refine im_ldcw hF (v := (1000000 : Int32)) wl_434 dX9_hoursFor_14 ?_
    exact im_iret hF hM dX9_hoursFor_17
  · refine im_iload_n hF dX9_hoursFor_4 0 rfl ?_
    refine im_iload_n hF dX9_hoursFor_5 1 rfl ?_
    refine im_iadd hF dX9_hoursFor_6 ?_
    refine im_iconst hF dX9_hoursFor_7 (v := (1 : Int32)) (by decide) ?_
    refine im_isub hF dX9_hoursFor_8 ?_
    refine im_iload_n hF dX9_hoursFor_9 1 rfl ?_
    refine im_chk (fun h1 => ?_)
    refine im_idiv hF dX9_hoursFor_10 (of_decide_eq_true h1) ?_
    refine im_goto hF 17 dX9_hoursFor_11 (by decide) ?_
    exact im_iret hF hM dX9_hoursFor_17
theorem c_X9_hoursFor (l : Launch) (g : GT) (hI : GI g) (a0 : Int32) (a1 : Int32) (s0 : Sg) (r : (Int32 × Sg)) (hr : f_X9_hoursFor a0 a1 s0 = some r) : Ct l yX9_hoursFor cX9_hoursFor 2 (some .int) 0 0 g [.int a0, .int a1] s0 (embI r) := ct_of (by decide) hI (Nat.le_of_ble_eq_true rfl) (fun X hF hM => i_X9_hoursFor X g hF hM hI a0 a1 s0) r hr
def f_X8_addLeg (o0 : Nat) (a1 : Int32) (a2 : Int32) (a3 : Int32) (s0 : Sg) : Option Sg :=
  bdI (s0 8 o0 4) fun x1 =>
  chk (gi x1 6) (bdS (up3 s0 37 o0 x1.toNatClampNeg a1) fun s3 =>
  Option.bind (f_X9_hoursFor a3 (s3 8 o0 1) s3) fun q4 =>
  chk (gi x1 6) (bdS (up3 q4.2 38 o0 x1.toNatClampNeg q4.1) fun s6 =>
  chk (gi (x1 + (1 : Int32)) 7) (bdS (up3 s6 36 o0 (x1 + (1 : Int32)).toNatClampNeg a2) fun s8 =>
  chk (gi x1 7) (
  chk (gi x1 6) (
  chk (gi (x1 + (1 : Int32)) 7) (bdS (up3 s8 42 o0 (x1 + (1 : Int32)).toNatClampNeg ((s8 43 o0 x1.toNatClampNeg) + (s8 38 o0 x1.toNatClampNeg))) fun s12 =>
  chk (gi (x1 + (1 : Int32)) 7) (
  chk (gi (x1 + (1 : Int32)) 7) (bdS (up3 s12 43 o0 (x1 + (1 : Int32)).toNatClampNeg ((s12 42 o0 (x1 + (1 : Int32)).toNatClampNeg) + (s12 8 o0 2))) fun s15 =>
  bdS (up3 s15 8 o0 4 (x1 + (1 : Int32))) fun s16 =>
  some s16))))))))
set_option maxRecDepth 4000 in
theorem i_X8_addLeg (X : Cx) (g : GT) (hF : Fx X g RX8 cX8_addLeg 5 1 21) (hM : FM X g none) (hI : GI g) (o0 : Nat) (a1 : Int32) (a2 : Int32) (a3 : Int32) (ho0 : o0 < cnt 8) (s0 : Sg) : Im X g 5 (Qm X g embV) s0 0 [(0, .ref (g.2.1 8 o0)), (1, .int a1), (2, .int a2), (3, .int a3)] [] (f_X8_addLeg o0 a1 a2 a3 s0) := by
  unfold f_X8_addLeg
  refine im_aload_n hF dX8_addLeg_0 0 rfl ?_
  refine im_get hF (v := .int (s0 8 o0 4)) fl_8_55 (by decide) ho0 rfl dX8_addLeg_1 ?_
  refine im_bdI (fun x1 => ?_)
  refine im_istore hF dX8_addLeg_4 (lv' := [(4, .int x1), (0, .ref (g.2.1 8 o0)), (1, .int a1), (2, .int a2), (3, .int a3)]) (by decide) rfl ?_
  refine im_aload_n hF dX8_addLeg_6 1 rfl ?_
  refine im_get hF (v := .ref (g.2.1 37 o0)) fl_8_15 (by decide) ho0 rfl dX8_addLeg_7 ?_
  refine im_iload hF dX8_addLeg_10 0 rfl ?_
  refine im_iload_n hF dX8_addLeg_12 2 rfl ?_
  refine im_iast hF ar_37 ho0 dX8_addLeg_13 (fun h2 => im_bdS (fun s3 => ?_))
  refine im_aload_n hF dX8_addLeg_14 1 rfl ?_
  refine im_get hF (v := .ref (g.2.1 38 o0)) fl_8_18 (by decide) ho0 rfl dX8_addLeg_15 ?_
  refine im_iload hF dX8_addLeg_18 0 rfl ?_
  refine im_iload_n hF dX8_addLeg_20 4 rfl ?_
  refine im_aload_n hF dX8_addLeg_21 1 rfl ?_
  refine im_get hF (v := .int (s3 8 o0 1)) fl_8_46 (by decide) ho0 rfl dX8_addLeg_22 ?_
  refine im_callNI hF (As := [.int a3, .int (s3 8 o0 1)]) (rest := [.int x1, .ref (g.2.1 38 o0)]) my_X9_hoursFor ms_X9_hoursFor nest_0 (fun l r hr => c_X9_hoursFor l g hI a3 (s3 8 o0 1) s3 r hr) ⟨by decide, by decide⟩ rfl rfl (Nat.le_of_ble_eq_true rfl) dX8_addLeg_25 (fun q4 => ?_)
  refine im_iast hF ar_38 ho0 dX8_addLeg_28 (fun h5 => im_bdS (fun s6 => ?_))
  refine im_aload_n hF dX8_addLeg_29 1 rfl ?_
  refine im_get hF (v := .ref (g.2.1 36 o0)) fl_8_9 (by decide) ho0 rfl dX8_addLeg_30 ?_
  refine im_iload hF dX8_addLeg_33 0 rfl ?_
  refine im_iconst hF dX8_addLeg_35 (v := (1 : Int32)) (by decide) ?_
  refine im_iadd hF dX8_addLeg_36 ?_
  refine im_iload_n hF dX8_addLeg_37 3 rfl ?_
  refine im_iast hF ar_36 ho0 dX8_addLeg_38 (fun h7 => im_bdS (fun s8 => ?_))
  refine im_aload_n hF dX8_addLeg_39 1 rfl ?_
  refine im_get hF (v := .ref (g.2.1 42 o0)) fl_8_36 (by decide) ho0 rfl dX8_addLeg_40 ?_
  refine im_iload hF dX8_addLeg_43 0 rfl ?_
  refine im_iconst hF dX8_addLeg_45 (v := (1 : Int32)) (by decide) ?_
  refine im_iadd hF dX8_addLeg_46 ?_
  refine im_aload_n hF dX8_addLeg_47 1 rfl ?_
  refine im_get hF (v := .ref (g.2.1 43 o0)) fl_8_39 (by decide) ho0 rfl dX8_addLeg_48 ?_
  refine im_iload hF dX8_addLeg_51 0 rfl ?_
  refine im_iald hF ar_43 ho0 dX8_addLeg_53 (fun h9 => ?_)
  refine im_aload_n hF dX8_addLeg_54 1 rfl ?_
  refine im_get hF (v := .ref (g.2.1 38 o0)) fl_8_18 (by decide) ho0 rfl dX8_addLeg_55 ?_
  refine im_iload hF dX8_addLeg_58 0 rfl ?_
  refine im_iald hF ar_38 ho0 dX8_addLeg_60 (fun h10 => ?_)
  refine im_iadd hF dX8_addLeg_61 ?_
  refine im_iast hF ar_42 ho0 dX8_addLeg_62 (fun h11 => im_bdS (fun s12 => ?_))
  refine im_aload_n hF dX8_addLeg_63 1 rfl ?_
  refine im_get hF (v := .ref (g.2.1 43 o0)) fl_8_39 (by decide) ho0 rfl dX8_addLeg_64 ?_
  refine im_iload hF dX8_addLeg_67 0 rfl ?_
  refine im_iconst hF dX8_addLeg_69 (v := (1 : Int32)) (by decide) ?_
  refine im_iadd hF dX8_addLeg_70 ?_
  refine im_aload_n hF dX8_addLeg_71 1 rfl ?_
  refine im_get hF (v := .ref (g.2.1 42 o0)) fl_8_36 (by decide) ho0 rfl dX8_addLeg_72 ?_
  refine im_iload hF dX8_addLeg_75 0 rfl ?_
  refine im_iconst hF dX8_addLeg_77 (v := (1 : Int32)) (by decide) ?_
  refine im_iadd hF dX8_addLeg_78 ?_
  refine im_iald hF ar_42 ho0 dX8_addLeg_79 (fun h13 => ?_)
  refine im_aload_n hF dX8_addLeg_80 1 rfl ?_
  refine im_get hF (v := .int (s12 8 o0 2)) fl_8_49 (by decide) ho0 rfl dX8_addLeg_81 ?_
  refine im_iadd hF dX8_addLeg_84 ?_
  refine im_iast hF ar_43 ho0 dX8_addLeg_85 (fun h14 => im_bdS (fun s15 => ?_))
  refine im_aload_n hF dX8_addLeg_86 1 rfl ?_
  refine im_iload hF dX8_addLeg_87 0 rfl ?_
  refine im_iconst hF dX8_addLeg_89 (v := (1 : Int32)) (by decide) ?_
  refine im_iadd hF dX8_addLeg_90 ?_
  refine im_put hF (x1 + (1 : Int32)) fp_8_55 (by decide) ho0 rfl rfl rfl dX8_addLeg_91 ?_
  refine im_bdS (fun s16 => ?_)
  exact im_vret hF hM dX8_addLeg_94
theorem c_X8_addLeg (l : Launch) (g : GT) (hI : GI g) (o0 : Nat) (a1 : Int32) (a2 : Int32) (a3 : Int32) (ho0 : o0 < cnt 8) (s0 : Sg) (r : Sg) (hr : f_X8_addLeg o0 a1 a2 a3 s0 = some r) : Ct l yX8_addLeg cX8_addLeg 5 none 1 21 g [.ref (g.2.1 8 o0), .int a1, .int a2, .int a3] s0 (embV r) := ct_of (by decide) hI (Nat.le_of_ble_eq_true rfl) (fun X hF hM => i_X8_addLeg X g hF hM hI o0 a1 a2 a3 ho0 s0) r hr
def f_X9_leg (a1 : Int32) (a2 : Int32) (s0 : Sg) : Option (Int32 × Sg) :=
  Option.bind (f_X0_hasVoyage a1 s0) fun q1 =>
  if q1.1 = 0 then
  some ((-1 : Int32), q1.2)
  else
  Option.bind (f_X1_has a2 q1.2) fun q2 =>
  if q2.1 = 0 then
  some ((-1 : Int32), q2.2)
  else
  chk (gi a1 10) (
  if (q2.2 8 a1.toNatClampNeg 4) < (6 : Int32) then
  chk (gi a1 10) (
  Option.bind (f_X8_endPort a1.toNatClampNeg q2.2) fun q5 =>
  Option.bind (f_X1_otherEnd a2 q5.1 q5.2) fun q6 =>
  if q6.1 = (-1 : Int32) then
  some ((-1 : Int32), q6.2)
  else
  chk (gi a2 12) (
  Option.bind (f_X8_addLeg a1.toNatClampNeg a2 q6.1 (q6.2 16 0 a2.toNatClampNeg) q6.2) fun q8 =>
  bdS (up3 q8 3 0 2 (1 : Int32)) fun s9 =>
  some ((s9 8 a1.toNatClampNeg 4), s9)))
  else
  some ((-1 : Int32), q2.2))
set_option maxRecDepth 4000 in
theorem i_X9_leg (X : Cx) (g : GT) (hF : Fx X g RX9 cX9_leg 5 2 45) (hM : FM X g (some .int)) (hI : GI g) (a1 : Int32) (a2 : Int32) (s0 : Sg) : Im X g 5 (Qm X g embI) s0 0 [(0, .ref (g.2.1 9 0)), (1, .int a1), (2, .int a2)] [] (f_X9_leg a1 a2 s0) := by
  unfold f_X9_leg
  refine im_aload_n hF dX9_leg_0 0 rfl ?_
  refine im_get hF (v := .ref (g.2.1 0 0)) fl_9_10 (by decide) (by decide) rfl dX9_leg_1 ?_
  refine im_iload_n hF dX9_leg_4 1 rfl ?_
  refine im_callVI hF (As := [.int a1]) (rest := []) my_X0_hasVoyage mv_X0_hasVoyage wl_415 (fun l r hr => c_X0_hasVoyage l g hI a1 s0 r hr) ⟨by decide, by decide⟩ (by decide) (by decide) ⟨_, rfl, rfl⟩ rfl rfl (Nat.le_of_ble_eq_true rfl) dX9_leg_5 (fun q1 => ?_)
  refine im_if_eq hF 42 dX9_leg_8 (by decide) (fun _ => ?_) (fun _ => ?_)
  · refine im_iconst hF dX9_leg_42 (v := (-1 : Int32)) (by decide) ?_
    exact im_iret hF hM dX9_leg_43
  · refine im_aload_n hF dX9_leg_11 0 rfl ?_
    refine im_get hF (v := .ref (g.2.1 0 0)) fl_9_10 (by decide) (by decide) rfl dX9_leg_12 ?_
    refine im_get hF (v := .ref (g.2.1 1 0)) fl_9_56 (by decide) (by decide) rfl dX9_leg_15 ?_
    refine im_iload_n hF dX9_leg_18 2 rfl ?_
    refine im_callVI hF (As := [.int a2]) (rest := []) my_X1_has mv_X1_has wl_391 (fun l r hr => c_X1_has l g hI a2 q1.2 r hr) ⟨by decide, by decide⟩ (by decide) (by decide) ⟨_, rfl, rfl⟩ rfl rfl (Nat.le_of_ble_eq_true rfl) dX9_leg_19 (fun q2 => ?_)
    refine im_if_eq hF 42 dX9_leg_22 (by decide) (fun _ => ?_) (fun _ => ?_)
    · refine im_iconst hF dX9_leg_42 (v := (-1 : Int32)) (by decide) ?_
      exact im_iret hF hM dX9_leg_43
    · refine im_aload_n hF dX9_leg_25 0 rfl ?_
      refine im_get hF (v := .ref (g.2.1 0 0)) fl_9_10 (by decide) (by decide) rfl dX9_leg_26 ?_
      refine im_get hF (v := .ref (g.2.1 11 0)) fl_9_96 (by decide) (by decide) rfl dX9_leg_29 ?_
      refine im_iload_n hF dX9_leg_32 1 rfl ?_
      refine im_aald11 hF dX9_leg_33 (fun h3 => ?_)
      refine im_get hF (v := .int (q2.2 8 a1.toNatClampNeg 4)) fl_9_109 (by decide) (gi_lt h3) rfl dX9_leg_34 ?_
      refine im_bipush hF dX9_leg_37 (v := (6 : Int32)) (by decide) ?_
      refine im_icmp_lt hF 44 dX9_leg_39 (by decide) (fun _ => ?_) (fun _ => ?_)
      · refine im_aload_n hF dX9_leg_44 0 rfl ?_
        refine im_get hF (v := .ref (g.2.1 0 0)) fl_9_10 (by decide) (by decide) rfl dX9_leg_45 ?_
        refine im_get hF (v := .ref (g.2.1 11 0)) fl_9_96 (by decide) (by decide) rfl dX9_leg_48 ?_
        refine im_iload_n hF dX9_leg_51 1 rfl ?_
        refine im_aald11 hF dX9_leg_52 (fun h4 => ?_)
        refine im_astore_n hF dX9_leg_53 (lv' := [(3, .ref (g.2.1 8 a1.toNatClampNeg)), (0, .ref (g.2.1 9 0)), (1, .int a1), (2, .int a2)]) rfl (by decide) rfl ?_
        refine im_aload_n hF dX9_leg_54 1 rfl ?_
        refine im_get hF (v := .ref (g.2.1 0 0)) fl_9_10 (by decide) (by decide) rfl dX9_leg_55 ?_
        refine im_get hF (v := .ref (g.2.1 1 0)) fl_9_56 (by decide) (by decide) rfl dX9_leg_58 ?_
        refine im_iload_n hF dX9_leg_61 3 rfl ?_
        refine im_aload_n hF dX9_leg_62 0 rfl ?_
        refine im_callVI hF (As := []) (rest := [.int a2, .ref (g.2.1 1 0)]) my_X8_endPort mv_X8_endPort wl_419 (fun l r hr => c_X8_endPort l g hI a1.toNatClampNeg (gi_lt h4) q2.2 r hr) ⟨by decide, by decide⟩ (by decide) (gi_lt h4) ⟨_, rfl, rfl⟩ rfl rfl (Nat.le_of_ble_eq_true rfl) dX9_leg_63 (fun q5 => ?_)
        refine im_callVI hF (As := [.int a2, .int q5.1]) (rest := []) my_X1_otherEnd mv_X1_otherEnd wl_423 (fun l r hr => c_X1_otherEnd l g hI a2 q5.1 q5.2 r hr) ⟨by decide, by decide⟩ (by decide) (by decide) ⟨_, rfl, rfl⟩ rfl rfl (Nat.le_of_ble_eq_true rfl) dX9_leg_66 (fun q6 => ?_)
        refine im_istore hF dX9_leg_69 (lv' := [(4, .int q6.1), (3, .ref (g.2.1 8 a1.toNatClampNeg)), (0, .ref (g.2.1 9 0)), (1, .int a1), (2, .int a2)]) (by decide) rfl ?_
        refine im_iload hF dX9_leg_71 0 rfl ?_
        refine im_iconst hF dX9_leg_73 (v := (-1 : Int32)) (by decide) ?_
        refine im_icmp_ne hF 79 dX9_leg_74 (by decide) (fun _ => ?_) (fun _ => ?_)
        · refine im_iconst hF dX9_leg_77 (v := (-1 : Int32)) (by decide) ?_
          exact im_iret hF hM dX9_leg_78
        · refine im_aload_n hF dX9_leg_79 1 rfl ?_
          refine im_iload_n hF dX9_leg_80 4 rfl ?_
          refine im_iload hF dX9_leg_81 0 rfl ?_
          refine im_aload_n hF dX9_leg_83 2 rfl ?_
          refine im_get hF (v := .ref (g.2.1 0 0)) fl_9_10 (by decide) (by decide) rfl dX9_leg_84 ?_
          refine im_get hF (v := .ref (g.2.1 1 0)) fl_9_56 (by decide) (by decide) rfl dX9_leg_87 ?_
          refine im_get hF (v := .ref (g.2.1 16 0)) fl_9_120 (by decide) (by decide) rfl dX9_leg_90 ?_
          refine im_iload_n hF dX9_leg_93 4 rfl ?_
          refine im_iald hF ar_16 (by decide) dX9_leg_94 (fun h7 => ?_)
          refine im_callVV hF (As := [.int a2, .int q6.1, .int (q6.2 16 0 a2.toNatClampNeg)]) (rest := []) my_X8_addLeg mv_X8_addLeg wl_427 (fun l r hr => c_X8_addLeg l g hI a1.toNatClampNeg a2 q6.1 (q6.2 16 0 a2.toNatClampNeg) (gi_lt h4) q6.2 r hr) ⟨by decide, by decide⟩ (by decide) (gi_lt h4) ⟨_, rfl, rfl⟩ rfl rfl (Nat.le_of_ble_eq_true rfl) dX9_leg_95 (fun q8 => ?_)
          refine im_aload_n hF dX9_leg_98 2 rfl ?_
          refine im_get hF (v := .ref (g.2.1 3 0)) fl_9_33 (by decide) (by decide) rfl dX9_leg_99 ?_
          refine im_iconst hF dX9_leg_102 (v := (1 : Int32)) (by decide) ?_
          refine im_put hF (1 : Int32) fp_9_83 (by decide) (by decide) rfl rfl rfl dX9_leg_103 ?_
          refine im_bdS (fun s9 => ?_)
          refine im_aload_n hF dX9_leg_106 1 rfl ?_
          refine im_get hF (v := .int (s9 8 a1.toNatClampNeg 4)) fl_9_109 (by decide) (gi_lt h4) rfl dX9_leg_107 ?_
          exact im_iret hF hM dX9_leg_110
      · refine im_iconst hF dX9_leg_42 (v := (-1 : Int32)) (by decide) ?_
        exact im_iret hF hM dX9_leg_43
theorem c_X9_leg (l : Launch) (g : GT) (hI : GI g) (a1 : Int32) (a2 : Int32) (s0 : Sg) (r : (Int32 × Sg)) (hr : f_X9_leg a1 a2 s0 = some r) : Ct l yX9_leg cX9_leg 5 (some .int) 2 45 g [.ref (g.2.1 9 0), .int a1, .int a2] s0 (embI r) := ct_of (by decide) hI (Nat.le_of_ble_eq_true rfl) (fun X hF hM => i_X9_leg X g hF hM hI a1 a2 s0) r hr
def f_X8_leavesFrom (o0 : Nat) (a1 : Int32) (s0 : Sg) : Option (Int32 × Sg) :=
  if a1 < 0 then
  some ((0 : Int32), s0)
  else
  if (s0 8 o0 4) ≤ a1 then
  some ((0 : Int32), s0)
  else
  some ((1 : Int32), s0)
set_option maxRecDepth 4000 in
theorem i_X8_leavesFrom (X : Cx) (g : GT) (hF : Fx X g RX8 cX8_leavesFrom 2 0 0) (hM : FM X g (some .boolean)) (hI : GI g) (o0 : Nat) (a1 : Int32) (ho0 : o0 < cnt 8) (s0 : Sg) : Im X g 2 (Qm X g embI) s0 0 [(0, .ref (g.2.1 8 o0)), (1, .int a1)] [] (f_X8_leavesFrom o0 a1 s0) := by
  unfold f_X8_leavesFrom
  refine im_iload_n hF dX8_leavesFrom_0 1 rfl ?_
  refine im_if_lt hF 16 dX8_leavesFrom_1 (by decide) (fun _ => ?_) (fun _ => ?_)
  · refine im_iconst hF dX8_leavesFrom_16 (v := (0 : Int32)) (by decide) ?_
    exact im_zret hF hM (by decide) dX8_leavesFrom_17
  · refine im_iload_n hF dX8_leavesFrom_4 1 rfl ?_
    refine im_aload_n hF dX8_leavesFrom_5 0 rfl ?_
    refine im_get hF (v := .int (s0 8 o0 4)) fl_8_55 (by decide) ho0 rfl dX8_leavesFrom_6 ?_
    refine im_icmp_ge hF 16 dX8_leavesFrom_9 (by decide) (fun _ => ?_) (fun _ => ?_)
    · refine im_iconst hF dX8_leavesFrom_16 (v := (0 : Int32)) (by decide) ?_
      exact im_zret hF hM (by decide) dX8_leavesFrom_17
    · refine im_iconst hF dX8_leavesFrom_12 (v := (1 : Int32)) (by decide) ?_
      refine im_goto hF 17 dX8_leavesFrom_13 (by decide) ?_
      exact im_zret hF hM (by decide) dX8_leavesFrom_17
theorem c_X8_leavesFrom (l : Launch) (g : GT) (hI : GI g) (o0 : Nat) (a1 : Int32) (ho0 : o0 < cnt 8) (s0 : Sg) (r : (Int32 × Sg)) (hr : f_X8_leavesFrom o0 a1 s0 = some r) : Ct l yX8_leavesFrom cX8_leavesFrom 2 (some .boolean) 0 0 g [.ref (g.2.1 8 o0), .int a1] s0 (embI r) := ct_of (by decide) hI (Nat.le_of_ble_eq_true rfl) (fun X hF hM => i_X8_leavesFrom X g hF hM hI o0 a1 ho0 s0) r hr
def f_X9_broken (a1 : Int32) (a2 : Int32) (a3 : Int32) (s0 : Sg) : Option (Int32 × Sg) :=
  Option.bind (f_X0_hasVoyage a1 s0) fun q1 =>
  if q1.1 = 0 then
  some ((0 : Int32), q1.2)
  else
  chk (gi a1 10) (
  Option.bind (f_X8_leavesFrom a1.toNatClampNeg a2 q1.2) fun q3 =>
  if q3.1 = 0 then
  some ((0 : Int32), q3.2)
  else
  if a3 < 0 then
  some ((0 : Int32), q3.2)
  else
  if a3 ≤ (500 : Int32) then
  chk (gi a1 10) (
  chk (gi a2 6) (bdS (up3 q3.2 39 a1.toNatClampNeg a2.toNatClampNeg a3) fun s6 =>
  bdS (up3 s6 3 0 2 (1 : Int32)) fun s7 =>
  some ((1 : Int32), s7)))
  else
  some ((0 : Int32), q3.2))
set_option maxRecDepth 4000 in
theorem i_X9_broken (X : Cx) (g : GT) (hF : Fx X g RX9 cX9_broken 4 1 21) (hM : FM X g (some .boolean)) (hI : GI g) (a1 : Int32) (a2 : Int32) (a3 : Int32) (s0 : Sg) : Im X g 4 (Qm X g embI) s0 0 [(0, .ref (g.2.1 9 0)), (1, .int a1), (2, .int a2), (3, .int a3)] [] (f_X9_broken a1 a2 a3 s0) := by
  unfold f_X9_broken
  refine im_aload_n hF dX9_broken_0 0 rfl ?_
  refine im_get hF (v := .ref (g.2.1 0 0)) fl_9_10 (by decide) (by decide) rfl dX9_broken_1 ?_
  refine im_iload_n hF dX9_broken_4 1 rfl ?_
  refine im_callVI hF (As := [.int a1]) (rest := []) my_X0_hasVoyage mv_X0_hasVoyage wl_415 (fun l r hr => c_X0_hasVoyage l g hI a1 s0 r hr) ⟨by decide, by decide⟩ (by decide) (by decide) ⟨_, rfl, rfl⟩ rfl rfl (Nat.le_of_ble_eq_true rfl) dX9_broken_5 (fun q1 => ?_)
  refine im_if_eq hF 38 dX9_broken_8 (by decide) (fun _ => ?_) (fun _ => ?_)
  · refine im_iconst hF dX9_broken_38 (v := (0 : Int32)) (by decide) ?_
    exact im_zret hF hM (by decide) dX9_broken_39
  · refine im_aload_n hF dX9_broken_11 0 rfl ?_
    refine im_get hF (v := .ref (g.2.1 0 0)) fl_9_10 (by decide) (by decide) rfl dX9_broken_12 ?_
    refine im_get hF (v := .ref (g.2.1 11 0)) fl_9_96 (by decide) (by decide) rfl dX9_broken_15 ?_
    refine im_iload_n hF dX9_broken_18 1 rfl ?_
    refine im_aald11 hF dX9_broken_19 (fun h2 => ?_)
    refine im_iload_n hF dX9_broken_20 2 rfl ?_
    refine im_callVI hF (As := [.int a2]) (rest := []) my_X8_leavesFrom mv_X8_leavesFrom wl_439 (fun l r hr => c_X8_leavesFrom l g hI a1.toNatClampNeg a2 (gi_lt h2) q1.2 r hr) ⟨by decide, by decide⟩ (by decide) (gi_lt h2) ⟨_, rfl, rfl⟩ rfl rfl (Nat.le_of_ble_eq_true rfl) dX9_broken_21 (fun q3 => ?_)
    refine im_if_eq hF 38 dX9_broken_24 (by decide) (fun _ => ?_) (fun _ => ?_)
    · refine im_iconst hF dX9_broken_38 (v := (0 : Int32)) (by decide) ?_
      exact im_zret hF hM (by decide) dX9_broken_39
    · refine im_iload_n hF dX9_broken_27 3 rfl ?_
      refine im_if_lt hF 38 dX9_broken_28 (by decide) (fun _ => ?_) (fun _ => ?_)
      · refine im_iconst hF dX9_broken_38 (v := (0 : Int32)) (by decide) ?_
        exact im_zret hF hM (by decide) dX9_broken_39
      · refine im_iload_n hF dX9_broken_31 3 rfl ?_
        refine im_sipush hF dX9_broken_32 (v := (500 : Int32)) (by decide) ?_
        refine im_icmp_le hF 40 dX9_broken_35 (by decide) (fun _ => ?_) (fun _ => ?_)
        · refine im_aload_n hF dX9_broken_40 0 rfl ?_
          refine im_get hF (v := .ref (g.2.1 0 0)) fl_9_10 (by decide) (by decide) rfl dX9_broken_41 ?_
          refine im_get hF (v := .ref (g.2.1 11 0)) fl_9_96 (by decide) (by decide) rfl dX9_broken_44 ?_
          refine im_iload_n hF dX9_broken_47 1 rfl ?_
          refine im_aald11 hF dX9_broken_48 (fun h4 => ?_)
          refine im_get hF (v := .ref (g.2.1 39 a1.toNatClampNeg)) fl_9_130 (by decide) (gi_lt h4) rfl dX9_broken_49 ?_
          refine im_iload_n hF dX9_broken_52 2 rfl ?_
          refine im_iload_n hF dX9_broken_53 3 rfl ?_
          refine im_iast hF ar_39 (gi_lt h4) dX9_broken_54 (fun h5 => im_bdS (fun s6 => ?_))
          refine im_aload_n hF dX9_broken_55 0 rfl ?_
          refine im_get hF (v := .ref (g.2.1 3 0)) fl_9_33 (by decide) (by decide) rfl dX9_broken_56 ?_
          refine im_iconst hF dX9_broken_59 (v := (1 : Int32)) (by decide) ?_
          refine im_put hF (1 : Int32) fp_9_83 (by decide) (by decide) rfl rfl rfl dX9_broken_60 ?_
          refine im_bdS (fun s7 => ?_)
          refine im_iconst hF dX9_broken_63 (v := (1 : Int32)) (by decide) ?_
          exact im_zret hF hM (by decide) dX9_broken_64
        · refine im_iconst hF dX9_broken_38 (v := (0 : Int32)) (by decide) ?_
          exact im_zret hF hM (by decide) dX9_broken_39
theorem c_X9_broken (l : Launch) (g : GT) (hI : GI g) (a1 : Int32) (a2 : Int32) (a3 : Int32) (s0 : Sg) (r : (Int32 × Sg)) (hr : f_X9_broken a1 a2 a3 s0 = some r) : Ct l yX9_broken cX9_broken 4 (some .boolean) 1 21 g [.ref (g.2.1 9 0), .int a1, .int a2, .int a3] s0 (embI r) := ct_of (by decide) hI (Nat.le_of_ble_eq_true rfl) (fun X hF hM => i_X9_broken X g hF hM hI a1 a2 a3 s0) r hr
def f_X8_comesTo (o0 : Nat) (a1 : Int32) (s0 : Sg) : Option (Int32 × Sg) :=
  if a1 < (1 : Int32) then
  some ((0 : Int32), s0)
  else
  if (s0 8 o0 4) < a1 then
  some ((0 : Int32), s0)
  else
  some ((1 : Int32), s0)
set_option maxRecDepth 4000 in
theorem i_X8_comesTo (X : Cx) (g : GT) (hF : Fx X g RX8 cX8_comesTo 2 0 0) (hM : FM X g (some .boolean)) (hI : GI g) (o0 : Nat) (a1 : Int32) (ho0 : o0 < cnt 8) (s0 : Sg) : Im X g 2 (Qm X g embI) s0 0 [(0, .ref (g.2.1 8 o0)), (1, .int a1)] [] (f_X8_comesTo o0 a1 s0) := by
  unfold f_X8_comesTo
  refine im_iload_n hF dX8_comesTo_0 1 rfl ?_
  refine im_iconst hF dX8_comesTo_1 (v := (1 : Int32)) (by decide) ?_
  refine im_icmp_lt hF 17 dX8_comesTo_2 (by decide) (fun _ => ?_) (fun _ => ?_)
  · refine im_iconst hF dX8_comesTo_17 (v := (0 : Int32)) (by decide) ?_
    exact im_zret hF hM (by decide) dX8_comesTo_18
  · refine im_iload_n hF dX8_comesTo_5 1 rfl ?_
    refine im_aload_n hF dX8_comesTo_6 0 rfl ?_
    refine im_get hF (v := .int (s0 8 o0 4)) fl_8_55 (by decide) ho0 rfl dX8_comesTo_7 ?_
    refine im_icmp_gt hF 17 dX8_comesTo_10 (by decide) (fun _ => ?_) (fun _ => ?_)
    · refine im_iconst hF dX8_comesTo_17 (v := (0 : Int32)) (by decide) ?_
      exact im_zret hF hM (by decide) dX8_comesTo_18
    · refine im_iconst hF dX8_comesTo_13 (v := (1 : Int32)) (by decide) ?_
      refine im_goto hF 18 dX8_comesTo_14 (by decide) ?_
      exact im_zret hF hM (by decide) dX8_comesTo_18
theorem c_X8_comesTo (l : Launch) (g : GT) (hI : GI g) (o0 : Nat) (a1 : Int32) (ho0 : o0 < cnt 8) (s0 : Sg) (r : (Int32 × Sg)) (hr : f_X8_comesTo o0 a1 s0 = some r) : Ct l yX8_comesTo cX8_comesTo 2 (some .boolean) 0 0 g [.ref (g.2.1 8 o0), .int a1] s0 (embI r) := ct_of (by decide) hI (Nat.le_of_ble_eq_true rfl) (fun X hF hM => i_X8_comesTo X g hF hM hI o0 a1 ho0 s0) r hr
def f_X9_meet (a1 : Int32) (a2 : Int32) (a3 : Int32) (a4 : Int32) (s0 : Sg) : Option (Int32 × Sg) :=
  Option.bind (f_X0_hasVoyage a1 s0) fun q1 =>
  if q1.1 = 0 then
  some ((0 : Int32), q1.2)
  else
  Option.bind (f_X0_hasVoyage a3 q1.2) fun q2 =>
  if q2.1 = 0 then
  some ((0 : Int32), q2.2)
  else
  if a1 = a3 then
  some ((0 : Int32), q2.2)
  else
  if (q2.2 0 0 3) < (20 : Int32) then
  chk (gi a1 10) (
  chk (gi a3 10) (
  Option.bind (f_X8_leavesFrom a1.toNatClampNeg a2 q2.2) fun q5 =>
  if q5.1 = 0 then
  some ((0 : Int32), q5.2)
  else
  Option.bind (f_X8_comesTo a3.toNatClampNeg a4 q5.2) fun q6 =>
  if q6.1 = 0 then
  some ((0 : Int32), q6.2)
  else
  chk (gi a2 7) (
  chk (gi a4 7) (
  if (q6.2 36 a1.toNatClampNeg a2.toNatClampNeg) = (q6.2 36 a3.toNatClampNeg a4.toNatClampNeg) then
  chk (gi a2 6) (
  if (q6.2 40 a1.toNatClampNeg a2.toNatClampNeg) = (-1 : Int32) then
  chk (gi a2 6) (bdS (up3 q6.2 40 a1.toNatClampNeg a2.toNatClampNeg a3) fun s11 =>
  chk (gi a2 6) (bdS (up3 s11 41 a1.toNatClampNeg a2.toNatClampNeg a4) fun s13 =>
  bdS (up3 s13 0 0 3 ((s13 0 0 3) + (1 : Int32))) fun s14 =>
  bdS (up3 s14 3 0 2 (1 : Int32)) fun s15 =>
  some ((1 : Int32), s15)))
  else
  some ((0 : Int32), q6.2))
  else
  some ((0 : Int32), q6.2)))))
  else
  some ((0 : Int32), q2.2)
set_option maxRecDepth 4000 in
theorem i_X9_meet (X : Cx) (g : GT) (hF : Fx X g RX9 cX9_meet 7 1 21) (hM : FM X g (some .boolean)) (hI : GI g) (a1 : Int32) (a2 : Int32) (a3 : Int32) (a4 : Int32) (s0 : Sg) : Im X g 7 (Qm X g embI) s0 0 [(0, .ref (g.2.1 9 0)), (1, .int a1), (2, .int a2), (3, .int a3), (4, .int a4)] [] (f_X9_meet a1 a2 a3 a4 s0) := by
  unfold f_X9_meet
  refine im_aload_n hF dX9_meet_0 0 rfl ?_
  refine im_get hF (v := .ref (g.2.1 0 0)) fl_9_10 (by decide) (by decide) rfl dX9_meet_1 ?_
  refine im_iload_n hF dX9_meet_4 1 rfl ?_
  refine im_callVI hF (As := [.int a1]) (rest := []) my_X0_hasVoyage mv_X0_hasVoyage wl_415 (fun l r hr => c_X0_hasVoyage l g hI a1 s0 r hr) ⟨by decide, by decide⟩ (by decide) (by decide) ⟨_, rfl, rfl⟩ rfl rfl (Nat.le_of_ble_eq_true rfl) dX9_meet_5 (fun q1 => ?_)
  refine im_if_eq hF 39 dX9_meet_8 (by decide) (fun _ => ?_) (fun _ => ?_)
  · refine im_iconst hF dX9_meet_39 (v := (0 : Int32)) (by decide) ?_
    exact im_zret hF hM (by decide) dX9_meet_40
  · refine im_aload_n hF dX9_meet_11 0 rfl ?_
    refine im_get hF (v := .ref (g.2.1 0 0)) fl_9_10 (by decide) (by decide) rfl dX9_meet_12 ?_
    refine im_iload_n hF dX9_meet_15 3 rfl ?_
    refine im_callVI hF (As := [.int a3]) (rest := []) my_X0_hasVoyage mv_X0_hasVoyage wl_415 (fun l r hr => c_X0_hasVoyage l g hI a3 q1.2 r hr) ⟨by decide, by decide⟩ (by decide) (by decide) ⟨_, rfl, rfl⟩ rfl rfl (Nat.le_of_ble_eq_true rfl) dX9_meet_16 (fun q2 => ?_)
    refine im_if_eq hF 39 dX9_meet_19 (by decide) (fun _ => ?_) (fun _ => ?_)
    · refine im_iconst hF dX9_meet_39 (v := (0 : Int32)) (by decide) ?_
      exact im_zret hF hM (by decide) dX9_meet_40
    · refine im_iload_n hF dX9_meet_22 1 rfl ?_
      refine im_iload_n hF dX9_meet_23 3 rfl ?_
      refine im_icmp_eq hF 39 dX9_meet_24 (by decide) (fun _ => ?_) (fun _ => ?_)
      · refine im_iconst hF dX9_meet_39 (v := (0 : Int32)) (by decide) ?_
        exact im_zret hF hM (by decide) dX9_meet_40
      · refine im_aload_n hF dX9_meet_27 0 rfl ?_
        refine im_get hF (v := .ref (g.2.1 0 0)) fl_9_10 (by decide) (by decide) rfl dX9_meet_28 ?_
        refine im_get hF (v := .int (q2.2 0 0 3)) fl_9_133 (by decide) (by decide) rfl dX9_meet_31 ?_
        refine im_bipush hF dX9_meet_34 (v := (20 : Int32)) (by decide) ?_
        refine im_icmp_lt hF 41 dX9_meet_36 (by decide) (fun _ => ?_) (fun _ => ?_)
        · refine im_aload_n hF dX9_meet_41 0 rfl ?_
          refine im_get hF (v := .ref (g.2.1 0 0)) fl_9_10 (by decide) (by decide) rfl dX9_meet_42 ?_
          refine im_get hF (v := .ref (g.2.1 11 0)) fl_9_96 (by decide) (by decide) rfl dX9_meet_45 ?_
          refine im_iload_n hF dX9_meet_48 1 rfl ?_
          refine im_aald11 hF dX9_meet_49 (fun h3 => ?_)
          refine im_astore hF dX9_meet_50 (lv' := [(5, .ref (g.2.1 8 a1.toNatClampNeg)), (0, .ref (g.2.1 9 0)), (1, .int a1), (2, .int a2), (3, .int a3), (4, .int a4)]) (by decide) rfl ?_
          refine im_aload_n hF dX9_meet_52 1 rfl ?_
          refine im_get hF (v := .ref (g.2.1 0 0)) fl_9_10 (by decide) (by decide) rfl dX9_meet_53 ?_
          refine im_get hF (v := .ref (g.2.1 11 0)) fl_9_96 (by decide) (by decide) rfl dX9_meet_56 ?_
          refine im_iload_n hF dX9_meet_59 4 rfl ?_
          refine im_aald11 hF dX9_meet_60 (fun h4 => ?_)
          refine im_astore hF dX9_meet_61 (lv' := [(6, .ref (g.2.1 8 a3.toNatClampNeg)), (5, .ref (g.2.1 8 a1.toNatClampNeg)), (0, .ref (g.2.1 9 0)), (1, .int a1), (2, .int a2), (3, .int a3), (4, .int a4)]) (by decide) rfl ?_
          refine im_aload hF dX9_meet_63 1 rfl ?_
          refine im_iload_n hF dX9_meet_65 4 rfl ?_
          refine im_callVI hF (As := [.int a2]) (rest := []) my_X8_leavesFrom mv_X8_leavesFrom wl_439 (fun l r hr => c_X8_leavesFrom l g hI a1.toNatClampNeg a2 (gi_lt h3) q2.2 r hr) ⟨by decide, by decide⟩ (by decide) (gi_lt h3) ⟨_, rfl, rfl⟩ rfl rfl (Nat.le_of_ble_eq_true rfl) dX9_meet_66 (fun q5 => ?_)
          refine im_if_eq hF 100 dX9_meet_69 (by decide) (fun _ => ?_) (fun _ => ?_)
          · refine im_iconst hF dX9_meet_100 (v := (0 : Int32)) (by decide) ?_
            exact im_zret hF hM (by decide) dX9_meet_101
          · refine im_aload hF dX9_meet_72 0 rfl ?_
            refine im_iload hF dX9_meet_74 6 rfl ?_
            refine im_callVI hF (As := [.int a4]) (rest := []) my_X8_comesTo mv_X8_comesTo wl_447 (fun l r hr => c_X8_comesTo l g hI a3.toNatClampNeg a4 (gi_lt h4) q5.2 r hr) ⟨by decide, by decide⟩ (by decide) (gi_lt h4) ⟨_, rfl, rfl⟩ rfl rfl (Nat.le_of_ble_eq_true rfl) dX9_meet_76 (fun q6 => ?_)
            refine im_if_eq hF 100 dX9_meet_79 (by decide) (fun _ => ?_) (fun _ => ?_)
            · refine im_iconst hF dX9_meet_100 (v := (0 : Int32)) (by decide) ?_
              exact im_zret hF hM (by decide) dX9_meet_101
            · refine im_aload hF dX9_meet_82 1 rfl ?_
              refine im_get hF (v := .ref (g.2.1 36 a1.toNatClampNeg)) fl_9_139 (by decide) (gi_lt h3) rfl dX9_meet_84 ?_
              refine im_iload_n hF dX9_meet_87 4 rfl ?_
              refine im_iald hF ar_36 (gi_lt h3) dX9_meet_88 (fun h7 => ?_)
              refine im_aload hF dX9_meet_89 0 rfl ?_
              refine im_get hF (v := .ref (g.2.1 36 a3.toNatClampNeg)) fl_9_139 (by decide) (gi_lt h4) rfl dX9_meet_91 ?_
              refine im_iload hF dX9_meet_94 6 rfl ?_
              refine im_iald hF ar_36 (gi_lt h4) dX9_meet_96 (fun h8 => ?_)
              refine im_icmp_eq hF 102 dX9_meet_97 (by decide) (fun _ => ?_) (fun _ => ?_)
              · refine im_aload hF dX9_meet_102 1 rfl ?_
                refine im_get hF (v := .ref (g.2.1 40 a1.toNatClampNeg)) fl_9_142 (by decide) (gi_lt h3) rfl dX9_meet_104 ?_
                refine im_iload_n hF dX9_meet_107 4 rfl ?_
                refine im_iald hF ar_40 (gi_lt h3) dX9_meet_108 (fun h9 => ?_)
                refine im_iconst hF dX9_meet_109 (v := (-1 : Int32)) (by decide) ?_
                refine im_icmp_eq hF 115 dX9_meet_110 (by decide) (fun _ => ?_) (fun _ => ?_)
                · refine im_aload hF dX9_meet_115 1 rfl ?_
                  refine im_get hF (v := .ref (g.2.1 40 a1.toNatClampNeg)) fl_9_142 (by decide) (gi_lt h3) rfl dX9_meet_117 ?_
                  refine im_iload_n hF dX9_meet_120 4 rfl ?_
                  refine im_iload_n hF dX9_meet_121 5 rfl ?_
                  refine im_iast hF ar_40 (gi_lt h3) dX9_meet_122 (fun h10 => im_bdS (fun s11 => ?_))
                  refine im_aload hF dX9_meet_123 1 rfl ?_
                  refine im_get hF (v := .ref (g.2.1 41 a1.toNatClampNeg)) fl_9_145 (by decide) (gi_lt h3) rfl dX9_meet_125 ?_
                  refine im_iload_n hF dX9_meet_128 4 rfl ?_
                  refine im_iload hF dX9_meet_129 6 rfl ?_
                  refine im_iast hF ar_41 (gi_lt h3) dX9_meet_131 (fun h12 => im_bdS (fun s13 => ?_))
                  refine im_aload_n hF dX9_meet_132 2 rfl ?_
                  refine im_get hF (v := .ref (g.2.1 0 0)) fl_9_10 (by decide) (by decide) rfl dX9_meet_133 ?_
                  refine im_dup hF dX9_meet_136 rfl ?_
                  refine im_get hF (v := .int (s13 0 0 3)) fl_9_133 (by decide) (by decide) rfl dX9_meet_137 ?_
                  refine im_iconst hF dX9_meet_140 (v := (1 : Int32)) (by decide) ?_
                  refine im_iadd hF dX9_meet_141 ?_
                  refine im_put hF ((s13 0 0 3) + (1 : Int32)) fp_9_133 (by decide) (by decide) rfl rfl rfl dX9_meet_142 ?_
                  refine im_bdS (fun s14 => ?_)
                  refine im_aload_n hF dX9_meet_145 2 rfl ?_
                  refine im_get hF (v := .ref (g.2.1 3 0)) fl_9_33 (by decide) (by decide) rfl dX9_meet_146 ?_
                  refine im_iconst hF dX9_meet_149 (v := (1 : Int32)) (by decide) ?_
                  refine im_put hF (1 : Int32) fp_9_83 (by decide) (by decide) rfl rfl rfl dX9_meet_150 ?_
                  refine im_bdS (fun s15 => ?_)
                  refine im_iconst hF dX9_meet_153 (v := (1 : Int32)) (by decide) ?_
                  exact im_zret hF hM (by decide) dX9_meet_154
                · refine im_iconst hF dX9_meet_113 (v := (0 : Int32)) (by decide) ?_
                  exact im_zret hF hM (by decide) dX9_meet_114
              · refine im_iconst hF dX9_meet_100 (v := (0 : Int32)) (by decide) ?_
                exact im_zret hF hM (by decide) dX9_meet_101
        · refine im_iconst hF dX9_meet_39 (v := (0 : Int32)) (by decide) ?_
          exact im_zret hF hM (by decide) dX9_meet_40
theorem c_X9_meet (l : Launch) (g : GT) (hI : GI g) (a1 : Int32) (a2 : Int32) (a3 : Int32) (a4 : Int32) (s0 : Sg) (r : (Int32 × Sg)) (hr : f_X9_meet a1 a2 a3 a4 s0 = some r) : Ct l yX9_meet cX9_meet 7 (some .boolean) 1 21 g [.ref (g.2.1 9 0), .int a1, .int a2, .int a3, .int a4] s0 (embI r) := ct_of (by decide) hI (Nat.le_of_ble_eq_true rfl) (fun X hF hM => i_X9_meet X g hF hM hI a1 a2 a3 a4 s0) r hr
def f_X2_empty (o0 : Nat) (s0 : Sg) : Option Sg :=
  bdS (up3 s0 2 o0 0 (0 : Int32)) fun s1 =>
  bdS (up3 s1 2 o0 1 (0 : Int32)) fun s2 =>
  bdS (up3 s2 2 o0 5 (0 : Int32)) fun s3 =>
  some s3
set_option maxRecDepth 4000 in
theorem i_X2_empty (X : Cx) (g : GT) (hF : Fx X g RX2 cX2_empty 1 0 0) (hM : FM X g none) (hI : GI g) (o0 : Nat) (ho0 : o0 < cnt 2) (s0 : Sg) : Im X g 1 (Qm X g embV) s0 0 [(0, .ref (g.2.1 2 o0))] [] (f_X2_empty o0 s0) := by
  unfold f_X2_empty
  refine im_aload_n hF dX2_empty_0 0 rfl ?_
  refine im_iconst hF dX2_empty_1 (v := (0 : Int32)) (by decide) ?_
  refine im_put hF (0 : Int32) fp_2_30 (by decide) ho0 rfl rfl rfl dX2_empty_2 ?_
  refine im_bdS (fun s1 => ?_)
  refine im_aload_n hF dX2_empty_5 0 rfl ?_
  refine im_iconst hF dX2_empty_6 (v := (0 : Int32)) (by decide) ?_
  refine im_put hF (0 : Int32) fp_2_34 (by decide) ho0 rfl rfl rfl dX2_empty_7 ?_
  refine im_bdS (fun s2 => ?_)
  refine im_aload_n hF dX2_empty_10 0 rfl ?_
  refine im_iconst hF dX2_empty_11 (v := (0 : Int32)) (by decide) ?_
  refine im_put hF (0 : Int32) fp_2_37 (by decide) ho0 rfl rfl rfl dX2_empty_12 ?_
  refine im_bdS (fun s3 => ?_)
  exact im_vret hF hM dX2_empty_15
theorem c_X2_empty (l : Launch) (g : GT) (hI : GI g) (o0 : Nat) (ho0 : o0 < cnt 2) (s0 : Sg) (r : Sg) (hr : f_X2_empty o0 s0 = some r) : Ct l yX2_empty cX2_empty 1 none 0 0 g [.ref (g.2.1 2 o0)] s0 (embV r) := ct_of (by decide) hI (Nat.le_of_ble_eq_true rfl) (fun X hF hM => i_X2_empty X g hF hM hI o0 ho0 s0) r hr
def f_X5_sign (s0 : Sg) : Option (Int32 × Sg) :=
  if s0 5 0 0 = 0 then
  some ((-1 : Int32), s0)
  else
  if (s0 5 0 2) < 0 then
  some ((-1 : Int32), s0)
  else
  if (s0 5 0 1) ≤ (s0 5 0 2) then
  some ((-1 : Int32), s0)
  else
  chk (decide (¬ s0 5 0 0 = 0)) (
  chk (gi (s0 5 0 2) 200) (
  some ((s0 35 0 (s0 5 0 2).toNatClampNeg), s0)))
set_option maxRecDepth 4000 in
theorem i_X5_sign (X : Cx) (g : GT) (hF : Fx X g RX5 cX5_sign 1 0 0) (hM : FM X g (some .int)) (hI : GI g) (s0 : Sg) : Im X g 1 (Qm X g embI) s0 0 [(0, .ref (g.2.1 5 0))] [] (f_X5_sign s0) := by
  unfold f_X5_sign
  refine im_aload_n hF dX5_sign_0 0 rfl ?_
  refine im_get hF (v := (if s0 5 0 0 = 0 then .null else .ref (g.2.1 35 0))) fl_5_18 (by decide) (by decide) rfl dX5_sign_1 ?_
  refine im_ifnull hF 37 dX5_sign_4 (by decide) (fun _ => ?_) (fun _ => ?_)
  · refine im_iconst hF dX5_sign_37 (v := (-1 : Int32)) (by decide) ?_
    exact im_iret hF hM dX5_sign_38
  · refine im_aload_n hF dX5_sign_7 0 rfl ?_
    refine im_get hF (v := .int (s0 5 0 2)) fl_5_31 (by decide) (by decide) rfl dX5_sign_8 ?_
    refine im_if_lt hF 37 dX5_sign_11 (by decide) (fun _ => ?_) (fun _ => ?_)
    · refine im_iconst hF dX5_sign_37 (v := (-1 : Int32)) (by decide) ?_
      exact im_iret hF hM dX5_sign_38
    · refine im_aload_n hF dX5_sign_14 0 rfl ?_
      refine im_get hF (v := .int (s0 5 0 2)) fl_5_31 (by decide) (by decide) rfl dX5_sign_15 ?_
      refine im_aload_n hF dX5_sign_18 0 rfl ?_
      refine im_get hF (v := .int (s0 5 0 1)) fl_5_28 (by decide) (by decide) rfl dX5_sign_19 ?_
      refine im_icmp_ge hF 37 dX5_sign_22 (by decide) (fun _ => ?_) (fun _ => ?_)
      · refine im_iconst hF dX5_sign_37 (v := (-1 : Int32)) (by decide) ?_
        exact im_iret hF hM dX5_sign_38
      · refine im_aload_n hF dX5_sign_25 0 rfl ?_
        refine im_chk (fun h2 => ?_)
        refine im_get hF (v := .ref (g.2.1 35 0)) fl_5_18 (by decide) (by decide) (if_neg (of_decide_eq_true h2)) dX5_sign_26 ?_
        refine im_aload_n hF dX5_sign_29 0 rfl ?_
        refine im_get hF (v := .int (s0 5 0 2)) fl_5_31 (by decide) (by decide) rfl dX5_sign_30 ?_
        refine im_iald hF ar_35 (by decide) dX5_sign_33 (fun h3 => ?_)
        refine im_goto hF 38 dX5_sign_34 (by decide) ?_
        exact im_iret hF hM dX5_sign_38
theorem c_X5_sign (l : Launch) (g : GT) (hI : GI g) (s0 : Sg) (r : (Int32 × Sg)) (hr : f_X5_sign s0 = some r) : Ct l yX5_sign cX5_sign 1 (some .int) 0 0 g [.ref (g.2.1 5 0)] s0 (embI r) := ct_of (by decide) hI (Nat.le_of_ble_eq_true rfl) (fun X hF hM => i_X5_sign X g hF hM hI s0) r hr
def f_X5_refuse (a1 : Int32) (s0 : Sg) : Option (Int32 × Sg) :=
  bdS (up3 s0 5 0 7 a1) fun s1 =>
  bdS (up3 s1 5 0 8 (s1 5 0 2)) fun s2 =>
  some ((0 : Int32), s2)
set_option maxRecDepth 4000 in
theorem i_X5_refuse (X : Cx) (g : GT) (hF : Fx X g RX5 cX5_refuse 2 0 0) (hM : FM X g (some .boolean)) (hI : GI g) (a1 : Int32) (s0 : Sg) : Im X g 2 (Qm X g embI) s0 0 [(0, .ref (g.2.1 5 0)), (1, .int a1)] [] (f_X5_refuse a1 s0) := by
  unfold f_X5_refuse
  refine im_aload_n hF dX5_refuse_0 0 rfl ?_
  refine im_iload_n hF dX5_refuse_1 1 rfl ?_
  refine im_put hF a1 fp_5_9 (by decide) (by decide) rfl rfl rfl dX5_refuse_2 ?_
  refine im_bdS (fun s1 => ?_)
  refine im_aload_n hF dX5_refuse_5 0 rfl ?_
  refine im_aload_n hF dX5_refuse_6 0 rfl ?_
  refine im_get hF (v := .int (s1 5 0 2)) fl_5_31 (by decide) (by decide) rfl dX5_refuse_7 ?_
  refine im_put hF (s1 5 0 2) fp_5_15 (by decide) (by decide) rfl rfl rfl dX5_refuse_10 ?_
  refine im_bdS (fun s2 => ?_)
  refine im_iconst hF dX5_refuse_13 (v := (0 : Int32)) (by decide) ?_
  exact im_zret hF hM (by decide) dX5_refuse_14
theorem c_X5_refuse (l : Launch) (g : GT) (hI : GI g) (a1 : Int32) (s0 : Sg) (r : (Int32 × Sg)) (hr : f_X5_refuse a1 s0 = some r) : Ct l yX5_refuse cX5_refuse 2 (some .boolean) 0 0 g [.ref (g.2.1 5 0), .int a1] s0 (embI r) := ct_of (by decide) hI (Nat.le_of_ble_eq_true rfl) (fun X hF hM => i_X5_refuse X g hF hM hI a1 s0) r hr
def f_X5_isDigit (a0 : Int32) (s0 : Sg) : Option (Int32 × Sg) :=
  if a0 < (48 : Int32) then
  some ((0 : Int32), s0)
  else
  if (57 : Int32) < a0 then
  some ((0 : Int32), s0)
  else
  some ((1 : Int32), s0)
set_option maxRecDepth 4000 in
theorem i_X5_isDigit (X : Cx) (g : GT) (hF : Fx X g RX5 cX5_isDigit 1 0 0) (hM : FM X g (some .boolean)) (hI : GI g) (a0 : Int32) (s0 : Sg) : Im X g 1 (Qm X g embI) s0 0 [(0, .int a0)] [] (f_X5_isDigit a0 s0) := by
  unfold f_X5_isDigit
  refine im_iload_n hF dX5_isDigit_0 0 rfl ?_
  refine im_bipush hF dX5_isDigit_1 (v := (48 : Int32)) (by decide) ?_
  refine im_icmp_lt hF 16 dX5_isDigit_3 (by decide) (fun _ => ?_) (fun _ => ?_)
  · refine im_iconst hF dX5_isDigit_16 (v := (0 : Int32)) (by decide) ?_
    exact im_zret hF hM (by decide) dX5_isDigit_17
  · refine im_iload_n hF dX5_isDigit_6 0 rfl ?_
    refine im_bipush hF dX5_isDigit_7 (v := (57 : Int32)) (by decide) ?_
    refine im_icmp_gt hF 16 dX5_isDigit_9 (by decide) (fun _ => ?_) (fun _ => ?_)
    · refine im_iconst hF dX5_isDigit_16 (v := (0 : Int32)) (by decide) ?_
      exact im_zret hF hM (by decide) dX5_isDigit_17
    · refine im_iconst hF dX5_isDigit_12 (v := (1 : Int32)) (by decide) ?_
      refine im_goto hF 17 dX5_isDigit_13 (by decide) ?_
      exact im_zret hF hM (by decide) dX5_isDigit_17
theorem c_X5_isDigit (l : Launch) (g : GT) (hI : GI g) (a0 : Int32) (s0 : Sg) (r : (Int32 × Sg)) (hr : f_X5_isDigit a0 s0 = some r) : Ct l yX5_isDigit cX5_isDigit 1 (some .boolean) 0 0 g [.int a0] s0 (embI r) := ct_of (by decide) hI (Nat.le_of_ble_eq_true rfl) (fun X hF hM => i_X5_isDigit X g hF hM hI a0 s0) r hr
def f_X5_readNumber_B54 (k54 : Int32 → Int32 → Int32 → Sg → Option (Int32 × Sg)) (k99 : Int32 → Int32 → Sg → Option (Int32 × Sg)) (a2 : Int32) (a3 : Int32) (a4 : Int32) (s0 : Sg) : Option (Int32 × Sg) :=
  if (4 : Int32) ≤ a4 then
  k99 a2 a3 s0
  else
  Option.bind (f_X5_sign s0) fun q1 =>
  Option.bind (f_X5_isDigit q1.1 q1.2) fun q2 =>
  if q2.1 = 0 then
  k99 a2 a3 q2.2
  else
  Option.bind (f_X5_sign q2.2) fun q3 =>
  bdI (((a3 * (10 : Int32)) + q3.1) - (48 : Int32)) fun x4 =>
  bdS (up3 q3.2 5 0 2 ((q3.2 5 0 2) + (1 : Int32))) fun s5 =>
  k54 a2 x4 (a4 + (1 : Int32)) s5
set_option maxRecDepth 4000 in
theorem i_X5_readNumber_B54 (X : Cx) (g : GT) (hF : Fx X g RX5 cX5_readNumber 5 1 21) (hM : FM X g (some .boolean)) (hI : GI g) (k54 : Int32 → Int32 → Int32 → Sg → Option (Int32 × Sg)) (hk54 : ∀ (a2 : Int32) (a3 : Int32) (a4 : Int32) (s0 : Sg), Im X g 5 (Qm X g embI) s0 54 [(0, .ref (g.2.1 5 0)), (2, .int a2), (3, .int a3), (4, .int a4)] [] (k54 a2 a3 a4 s0)) (k99 : Int32 → Int32 → Sg → Option (Int32 × Sg)) (hk99 : ∀ (a2 : Int32) (a3 : Int32) (s0 : Sg), Im X g 5 (Qm X g embI) s0 99 [(0, .ref (g.2.1 5 0)), (2, .int a2), (3, .int a3)] [] (k99 a2 a3 s0)) (a2 : Int32) (a3 : Int32) (a4 : Int32) (s0 : Sg) : Im X g 5 (Qm X g embI) s0 54 [(0, .ref (g.2.1 5 0)), (2, .int a2), (3, .int a3), (4, .int a4)] [] (f_X5_readNumber_B54 k54 k99 a2 a3 a4 s0) := by
  unfold f_X5_readNumber_B54
  refine im_iload hF dX5_readNumber_54 3 rfl ?_
  refine im_iconst hF dX5_readNumber_56 (v := (4 : Int32)) (by decide) ?_
  refine im_icmp_ge hF 99 dX5_readNumber_57 (by decide) (fun _ => ?_) (fun _ => ?_)
  · refine im_sub (lv' := [(0, .ref (g.2.1 5 0)), (2, .int a2), (3, .int a3)]) [0, 1, 2] rfl ?_
    exact hk99 a2 a3 s0
  · refine im_aload_n hF dX5_readNumber_60 0 rfl ?_
    refine im_callVI hF (As := []) (rest := []) my_X5_sign mv_X5_sign wl_470 (fun l r hr => c_X5_sign l g hI  s0 r hr) ⟨by decide, by decide⟩ (by decide) (by decide) ⟨_, rfl, rfl⟩ rfl rfl (Nat.le_of_ble_eq_true rfl) dX5_readNumber_61 (fun q1 => ?_)
    refine im_callSI hF (As := [.int q1.1]) (rest := []) my_X5_isDigit ms_X5_isDigit wl_482 (fun l r hr => c_X5_isDigit l g hI q1.1 q1.2 r hr) ⟨by decide, by decide⟩ rfl rfl (Nat.le_of_ble_eq_true rfl) dX5_readNumber_64 (fun q2 => ?_)
    refine im_if_eq hF 99 dX5_readNumber_67 (by decide) (fun _ => ?_) (fun _ => ?_)
    · refine im_sub (lv' := [(0, .ref (g.2.1 5 0)), (2, .int a2), (3, .int a3)]) [0, 1, 2] rfl ?_
      exact hk99 a2 a3 q2.2
    · refine im_iload_n hF dX5_readNumber_70 2 rfl ?_
      refine im_bipush hF dX5_readNumber_71 (v := (10 : Int32)) (by decide) ?_
      refine im_imul hF dX5_readNumber_73 ?_
      refine im_aload_n hF dX5_readNumber_74 0 rfl ?_
      refine im_callVI hF (As := []) (rest := [.int (a3 * (10 : Int32))]) my_X5_sign mv_X5_sign wl_470 (fun l r hr => c_X5_sign l g hI  q2.2 r hr) ⟨by decide, by decide⟩ (by decide) (by decide) ⟨_, rfl, rfl⟩ rfl rfl (Nat.le_of_ble_eq_true rfl) dX5_readNumber_75 (fun q3 => ?_)
      refine im_iadd hF dX5_readNumber_78 ?_
      refine im_bipush hF dX5_readNumber_79 (v := (48 : Int32)) (by decide) ?_
      refine im_isub hF dX5_readNumber_81 ?_
      refine im_bdI (fun x4 => ?_)
      refine im_istore_n hF dX5_readNumber_82 (lv' := [(3, .int x4), (0, .ref (g.2.1 5 0)), (2, .int a2), (4, .int a4)]) rfl (by decide) rfl ?_
      refine im_aload_n hF dX5_readNumber_83 1 rfl ?_
      refine im_dup hF dX5_readNumber_84 rfl ?_
      refine im_get hF (v := .int (q3.2 5 0 2)) fl_5_31 (by decide) (by decide) rfl dX5_readNumber_85 ?_
      refine im_iconst hF dX5_readNumber_88 (v := (1 : Int32)) (by decide) ?_
      refine im_iadd hF dX5_readNumber_89 ?_
      refine im_put hF ((q3.2 5 0 2) + (1 : Int32)) fp_5_31 (by decide) (by decide) rfl rfl rfl dX5_readNumber_90 ?_
      refine im_bdS (fun s5 => ?_)
      refine im_iinc hF dX5_readNumber_93 (v := (a4 + (1 : Int32))) (lv' := [(4, .int (a4 + (1 : Int32))), (3, .int x4), (0, .ref (g.2.1 5 0)), (2, .int a2)]) 3 rfl rfl (by decide) rfl ?_
      refine im_goto hF 54 dX5_readNumber_96 (by decide) ?_
      refine im_sub (lv' := [(0, .ref (g.2.1 5 0)), (2, .int a2), (3, .int x4), (4, .int (a4 + (1 : Int32)))]) [2, 3, 1, 0] rfl ?_
      exact hk54 a2 x4 (a4 + (1 : Int32)) s5
def f_X5_readNumber_L54 (k99 : Int32 → Int32 → Sg → Option (Int32 × Sg)) : Nat → Int32 → Int32 → Int32 → Sg → Option (Int32 × Sg)
  | 0 => fun _ _ _ _ => none
  | n + 1 => fun a2 a3 a4 s0 => f_X5_readNumber_B54 (f_X5_readNumber_L54 k99 n) k99 a2 a3 a4 s0
theorem i_X5_readNumber_L54 (X : Cx) (g : GT) (hF : Fx X g RX5 cX5_readNumber 5 1 21) (hM : FM X g (some .boolean)) (hI : GI g) (k99 : Int32 → Int32 → Sg → Option (Int32 × Sg)) (hk99 : ∀ (a2 : Int32) (a3 : Int32) (s0 : Sg), Im X g 5 (Qm X g embI) s0 99 [(0, .ref (g.2.1 5 0)), (2, .int a2), (3, .int a3)] [] (k99 a2 a3 s0)) : ∀ (n : Nat) (a2 : Int32) (a3 : Int32) (a4 : Int32) (s0 : Sg), Im X g 5 (Qm X g embI) s0 54 [(0, .ref (g.2.1 5 0)), (2, .int a2), (3, .int a3), (4, .int a4)] [] (f_X5_readNumber_L54 k99 n a2 a3 a4 s0) := by
  intro n
  induction n with
  | zero => intros; exact im_none
  | succ n ih => intro a2 a3 a4 s0; exact i_X5_readNumber_B54 X g hF hM hI (f_X5_readNumber_L54 k99 n) ih k99 hk99 a2 a3 a4 s0
def f_X5_readNumber_B99 (a2 : Int32) (a3 : Int32) (s0 : Sg) : Option (Int32 × Sg) :=
  if a2 = 0 then
  bdS (up3 s0 5 0 6 a3) fun s1 =>
  some ((1 : Int32), s1)
  else
  bdS (up3 s0 5 0 6 (-a3)) fun s2 =>
  some ((1 : Int32), s2)
set_option maxRecDepth 4000 in
theorem i_X5_readNumber_B99 (X : Cx) (g : GT) (hF : Fx X g RX5 cX5_readNumber 5 1 21) (hM : FM X g (some .boolean)) (hI : GI g) (a2 : Int32) (a3 : Int32) (s0 : Sg) : Im X g 5 (Qm X g embI) s0 99 [(0, .ref (g.2.1 5 0)), (2, .int a2), (3, .int a3)] [] (f_X5_readNumber_B99 a2 a3 s0) := by
  unfold f_X5_readNumber_B99
  refine im_aload_n hF dX5_readNumber_99 0 rfl ?_
  refine im_iload_n hF dX5_readNumber_100 1 rfl ?_
  refine im_if_eq hF 109 dX5_readNumber_101 (by decide) (fun _ => ?_) (fun _ => ?_)
  · refine im_iload_n hF dX5_readNumber_109 2 rfl ?_
    refine im_put hF a3 fp_5_57 (by decide) (by decide) rfl rfl rfl dX5_readNumber_110 ?_
    refine im_bdS (fun s1 => ?_)
    refine im_iconst hF dX5_readNumber_113 (v := (1 : Int32)) (by decide) ?_
    exact im_zret hF hM (by decide) dX5_readNumber_114
  · refine im_iload_n hF dX5_readNumber_104 2 rfl ?_
    refine im_ineg hF dX5_readNumber_105 ?_
    refine im_goto hF 110 dX5_readNumber_106 (by decide) ?_
    refine im_put hF (-a3) fp_5_57 (by decide) (by decide) rfl rfl rfl dX5_readNumber_110 ?_
    refine im_bdS (fun s2 => ?_)
    refine im_iconst hF dX5_readNumber_113 (v := (1 : Int32)) (by decide) ?_
    exact im_zret hF hM (by decide) dX5_readNumber_114
def f_X5_readNumber_B33 (a2 : Int32) (s0 : Sg) : Option (Int32 × Sg) :=
  Option.bind (f_X5_sign s0) fun q1 =>
  Option.bind (f_X5_isDigit q1.1 q1.2) fun q2 =>
  if q2.1 = 0 then
  Option.bind (f_X5_refuse (1 : Int32) q2.2) fun q3 =>
  chk (b01 q3.1) (some (q3.1, q3.2))
  else
  (f_X5_readNumber_L54 (f_X5_readNumber_B99) FU) a2 (0 : Int32) (0 : Int32) q2.2
set_option maxRecDepth 4000 in
theorem i_X5_readNumber_B33 (X : Cx) (g : GT) (hF : Fx X g RX5 cX5_readNumber 5 1 21) (hM : FM X g (some .boolean)) (hI : GI g) (a2 : Int32) (s0 : Sg) : Im X g 5 (Qm X g embI) s0 33 [(0, .ref (g.2.1 5 0)), (2, .int a2)] [] (f_X5_readNumber_B33 a2 s0) := by
  unfold f_X5_readNumber_B33
  refine im_aload_n hF dX5_readNumber_33 0 rfl ?_
  refine im_callVI hF (As := []) (rest := []) my_X5_sign mv_X5_sign wl_470 (fun l r hr => c_X5_sign l g hI  s0 r hr) ⟨by decide, by decide⟩ (by decide) (by decide) ⟨_, rfl, rfl⟩ rfl rfl (Nat.le_of_ble_eq_true rfl) dX5_readNumber_34 (fun q1 => ?_)
  refine im_callSI hF (As := [.int q1.1]) (rest := []) my_X5_isDigit ms_X5_isDigit wl_482 (fun l r hr => c_X5_isDigit l g hI q1.1 q1.2 r hr) ⟨by decide, by decide⟩ rfl rfl (Nat.le_of_ble_eq_true rfl) dX5_readNumber_37 (fun q2 => ?_)
  refine im_if_ne hF 49 dX5_readNumber_40 (by decide) (fun _ => ?_) (fun _ => ?_)
  · refine im_aload_n hF dX5_readNumber_43 0 rfl ?_
    refine im_iconst hF dX5_readNumber_44 (v := (1 : Int32)) (by decide) ?_
    refine im_callVI hF (As := [.int (1 : Int32)]) (rest := []) my_X5_refuse mv_X5_refuse wl_474 (fun l r hr => c_X5_refuse l g hI (1 : Int32) q2.2 r hr) ⟨by decide, by decide⟩ (by decide) (by decide) ⟨_, rfl, rfl⟩ rfl rfl (Nat.le_of_ble_eq_true rfl) dX5_readNumber_45 (fun q3 => ?_)
    exact im_chk (fun h4 => im_zret hF hM (b01_or h4) dX5_readNumber_48)
  · refine im_iconst hF dX5_readNumber_49 (v := (0 : Int32)) (by decide) ?_
    refine im_istore_n hF dX5_readNumber_50 (lv' := [(3, .int (0 : Int32)), (0, .ref (g.2.1 5 0)), (2, .int a2)]) rfl (by decide) rfl ?_
    refine im_iconst hF dX5_readNumber_51 (v := (0 : Int32)) (by decide) ?_
    refine im_istore hF dX5_readNumber_52 (lv' := [(4, .int (0 : Int32)), (3, .int (0 : Int32)), (0, .ref (g.2.1 5 0)), (2, .int a2)]) (by decide) rfl ?_
    refine im_sub (lv' := [(0, .ref (g.2.1 5 0)), (2, .int a2), (3, .int (0 : Int32)), (4, .int (0 : Int32))]) [2, 3, 1, 0] rfl ?_
    exact (i_X5_readNumber_L54 X g hF hM hI (f_X5_readNumber_B99) (i_X5_readNumber_B99 X g hF hM hI) FU) a2 (0 : Int32) (0 : Int32) q2.2
def f_X5_readNumber_B18 (as0 : Int32) (s0 : Sg) : Option (Int32 × Sg) :=
  if as0 = 0 then
  (f_X5_readNumber_B33) as0 s0
  else
  bdS (up3 s0 5 0 2 ((s0 5 0 2) + (1 : Int32))) fun s1 =>
  (f_X5_readNumber_B33) as0 s1
set_option maxRecDepth 4000 in
theorem i_X5_readNumber_B18 (X : Cx) (g : GT) (hF : Fx X g RX5 cX5_readNumber 5 1 21) (hM : FM X g (some .boolean)) (hI : GI g) (as0 : Int32) (s0 : Sg) : Im X g 5 (Qm X g embI) s0 18 [(0, .ref (g.2.1 5 0))] [.int as0] (f_X5_readNumber_B18 as0 s0) := by
  unfold f_X5_readNumber_B18
  refine im_istore_n hF dX5_readNumber_18 (lv' := [(2, .int as0), (0, .ref (g.2.1 5 0))]) rfl (by decide) rfl ?_
  refine im_iload_n hF dX5_readNumber_19 0 rfl ?_
  refine im_if_eq hF 33 dX5_readNumber_20 (by decide) (fun _ => ?_) (fun _ => ?_)
  · refine im_sub (lv' := [(0, .ref (g.2.1 5 0)), (2, .int as0)]) [1, 0] rfl ?_
    exact (i_X5_readNumber_B33 X g hF hM hI) as0 s0
  · refine im_aload_n hF dX5_readNumber_23 1 rfl ?_
    refine im_dup hF dX5_readNumber_24 rfl ?_
    refine im_get hF (v := .int (s0 5 0 2)) fl_5_31 (by decide) (by decide) rfl dX5_readNumber_25 ?_
    refine im_iconst hF dX5_readNumber_28 (v := (1 : Int32)) (by decide) ?_
    refine im_iadd hF dX5_readNumber_29 ?_
    refine im_put hF ((s0 5 0 2) + (1 : Int32)) fp_5_31 (by decide) (by decide) rfl rfl rfl dX5_readNumber_30 ?_
    refine im_bdS (fun s1 => ?_)
    refine im_sub (lv' := [(0, .ref (g.2.1 5 0)), (2, .int as0)]) [1, 0] rfl ?_
    exact (i_X5_readNumber_B33 X g hF hM hI) as0 s1
def f_X5_readNumber_B17 (s0 : Sg) : Option (Int32 × Sg) :=
  (f_X5_readNumber_B18) (0 : Int32) s0
set_option maxRecDepth 4000 in
theorem i_X5_readNumber_B17 (X : Cx) (g : GT) (hF : Fx X g RX5 cX5_readNumber 5 1 21) (hM : FM X g (some .boolean)) (hI : GI g) (s0 : Sg) : Im X g 5 (Qm X g embI) s0 17 [(0, .ref (g.2.1 5 0))] [] (f_X5_readNumber_B17 s0) := by
  unfold f_X5_readNumber_B17
  refine im_iconst hF dX5_readNumber_17 (v := (0 : Int32)) (by decide) ?_
  exact (i_X5_readNumber_B18 X g hF hM hI) (0 : Int32) s0
def f_X5_readNumber (a1 : Int32) (s0 : Sg) : Option (Int32 × Sg) :=
  if a1 = 0 then
  (f_X5_readNumber_B17) s0
  else
  Option.bind (f_X5_sign s0) fun q1 =>
  if q1.1 = (45 : Int32) then
  (f_X5_readNumber_B18) (1 : Int32) q1.2
  else
  (f_X5_readNumber_B17) q1.2
set_option maxRecDepth 4000 in
theorem i_X5_readNumber (X : Cx) (g : GT) (hF : Fx X g RX5 cX5_readNumber 5 1 21) (hM : FM X g (some .boolean)) (hI : GI g) (a1 : Int32) (s0 : Sg) : Im X g 5 (Qm X g embI) s0 0 [(0, .ref (g.2.1 5 0)), (1, .int a1)] [] (f_X5_readNumber a1 s0) := by
  unfold f_X5_readNumber
  refine im_iload_n hF dX5_readNumber_0 1 rfl ?_
  refine im_if_eq hF 17 dX5_readNumber_1 (by decide) (fun _ => ?_) (fun _ => ?_)
  · refine im_sub (lv' := [(0, .ref (g.2.1 5 0))]) [0] rfl ?_
    exact (i_X5_readNumber_B17 X g hF hM hI) s0
  · refine im_aload_n hF dX5_readNumber_4 0 rfl ?_
    refine im_callVI hF (As := []) (rest := []) my_X5_sign mv_X5_sign wl_470 (fun l r hr => c_X5_sign l g hI  s0 r hr) ⟨by decide, by decide⟩ (by decide) (by decide) ⟨_, rfl, rfl⟩ rfl rfl (Nat.le_of_ble_eq_true rfl) dX5_readNumber_5 (fun q1 => ?_)
    refine im_bipush hF dX5_readNumber_8 (v := (45 : Int32)) (by decide) ?_
    refine im_icmp_ne hF 17 dX5_readNumber_10 (by decide) (fun _ => ?_) (fun _ => ?_)
    · refine im_iconst hF dX5_readNumber_13 (v := (1 : Int32)) (by decide) ?_
      refine im_goto hF 18 dX5_readNumber_14 (by decide) ?_
      refine im_sub (lv' := [(0, .ref (g.2.1 5 0))]) [0] rfl ?_
      exact (i_X5_readNumber_B18 X g hF hM hI) (1 : Int32) q1.2
    · refine im_sub (lv' := [(0, .ref (g.2.1 5 0))]) [0] rfl ?_
      exact (i_X5_readNumber_B17 X g hF hM hI) q1.2
theorem c_X5_readNumber (l : Launch) (g : GT) (hI : GI g) (a1 : Int32) (s0 : Sg) (r : (Int32 × Sg)) (hr : f_X5_readNumber a1 s0 = some r) : Ct l yX5_readNumber cX5_readNumber 5 (some .boolean) 1 21 g [.ref (g.2.1 5 0), .int a1] s0 (embI r) := ct_of (by decide) hI (Nat.le_of_ble_eq_true rfl) (fun X hF hM => i_X5_readNumber X g hF hM hI a1 s0) r hr
def f_X5_take (a1 : Int32) (s0 : Sg) : Option (Int32 × Sg) :=
  Option.bind (f_X5_sign s0) fun q1 =>
  if q1.1 = a1 then
  bdS (up3 q1.2 5 0 2 ((q1.2 5 0 2) + (1 : Int32))) fun s2 =>
  some ((1 : Int32), s2)
  else
  Option.bind (f_X5_refuse (1 : Int32) q1.2) fun q3 =>
  chk (b01 q3.1) (some (q3.1, q3.2))
set_option maxRecDepth 4000 in
theorem i_X5_take (X : Cx) (g : GT) (hF : Fx X g RX5 cX5_take 2 1 21) (hM : FM X g (some .boolean)) (hI : GI g) (a1 : Int32) (s0 : Sg) : Im X g 2 (Qm X g embI) s0 0 [(0, .ref (g.2.1 5 0)), (1, .int a1)] [] (f_X5_take a1 s0) := by
  unfold f_X5_take
  refine im_aload_n hF dX5_take_0 0 rfl ?_
  refine im_callVI hF (As := []) (rest := []) my_X5_sign mv_X5_sign wl_470 (fun l r hr => c_X5_sign l g hI  s0 r hr) ⟨by decide, by decide⟩ (by decide) (by decide) ⟨_, rfl, rfl⟩ rfl rfl (Nat.le_of_ble_eq_true rfl) dX5_take_1 (fun q1 => ?_)
  refine im_iload_n hF dX5_take_4 1 rfl ?_
  refine im_icmp_eq hF 14 dX5_take_5 (by decide) (fun _ => ?_) (fun _ => ?_)
  · refine im_aload_n hF dX5_take_14 0 rfl ?_
    refine im_dup hF dX5_take_15 rfl ?_
    refine im_get hF (v := .int (q1.2 5 0 2)) fl_5_31 (by decide) (by decide) rfl dX5_take_16 ?_
    refine im_iconst hF dX5_take_19 (v := (1 : Int32)) (by decide) ?_
    refine im_iadd hF dX5_take_20 ?_
    refine im_put hF ((q1.2 5 0 2) + (1 : Int32)) fp_5_31 (by decide) (by decide) rfl rfl rfl dX5_take_21 ?_
    refine im_bdS (fun s2 => ?_)
    refine im_iconst hF dX5_take_24 (v := (1 : Int32)) (by decide) ?_
    exact im_zret hF hM (by decide) dX5_take_25
  · refine im_aload_n hF dX5_take_8 0 rfl ?_
    refine im_iconst hF dX5_take_9 (v := (1 : Int32)) (by decide) ?_
    refine im_callVI hF (As := [.int (1 : Int32)]) (rest := []) my_X5_refuse mv_X5_refuse wl_474 (fun l r hr => c_X5_refuse l g hI (1 : Int32) q1.2 r hr) ⟨by decide, by decide⟩ (by decide) (by decide) ⟨_, rfl, rfl⟩ rfl rfl (Nat.le_of_ble_eq_true rfl) dX5_take_10 (fun q3 => ?_)
    exact im_chk (fun h4 => im_zret hF hM (b01_or h4) dX5_take_13)
theorem c_X5_take (l : Launch) (g : GT) (hI : GI g) (a1 : Int32) (s0 : Sg) (r : (Int32 × Sg)) (hr : f_X5_take a1 s0 = some r) : Ct l yX5_take cX5_take 2 (some .boolean) 1 21 g [.ref (g.2.1 5 0), .int a1] s0 (embI r) := ct_of (by decide) hI (Nat.le_of_ble_eq_true rfl) (fun X hF hM => i_X5_take X g hF hM hI a1 s0) r hr
def f_X2_addStep (o0 : Nat) (a1 : Int32) (a2 : Int32) (a3 : Int32) (s0 : Sg) : Option Sg :=
  if (200 : Int32) ≤ (s0 2 o0 5) then
  some s0
  else
  chk (gi (s0 2 o0 5) 200) (bdS (up3 s0 21 o0 (s0 2 o0 5).toNatClampNeg a1) fun s2 =>
  chk (gi (s2 2 o0 5) 200) (bdS (up3 s2 22 o0 (s2 2 o0 5).toNatClampNeg a2) fun s4 =>
  chk (gi (s4 2 o0 5) 200) (bdS (up3 s4 23 o0 (s4 2 o0 5).toNatClampNeg a3) fun s6 =>
  bdS (up3 s6 2 o0 5 ((s6 2 o0 5) + (1 : Int32))) fun s7 =>
  some s7)))
set_option maxRecDepth 4000 in
theorem i_X2_addStep (X : Cx) (g : GT) (hF : Fx X g RX2 cX2_addStep 4 0 0) (hM : FM X g none) (hI : GI g) (o0 : Nat) (a1 : Int32) (a2 : Int32) (a3 : Int32) (ho0 : o0 < cnt 2) (s0 : Sg) : Im X g 4 (Qm X g embV) s0 0 [(0, .ref (g.2.1 2 o0)), (1, .int a1), (2, .int a2), (3, .int a3)] [] (f_X2_addStep o0 a1 a2 a3 s0) := by
  unfold f_X2_addStep
  refine im_aload_n hF dX2_addStep_0 0 rfl ?_
  refine im_get hF (v := .int (s0 2 o0 5)) fl_2_37 (by decide) ho0 rfl dX2_addStep_1 ?_
  refine im_sipush hF dX2_addStep_4 (v := (200 : Int32)) (by decide) ?_
  refine im_icmp_ge hF 50 dX2_addStep_7 (by decide) (fun _ => ?_) (fun _ => ?_)
  · exact im_vret hF hM dX2_addStep_50
  · refine im_aload_n hF dX2_addStep_10 0 rfl ?_
    refine im_get hF (v := .ref (g.2.1 21 o0)) fl_2_21 (by decide) ho0 rfl dX2_addStep_11 ?_
    refine im_aload_n hF dX2_addStep_14 0 rfl ?_
    refine im_get hF (v := .int (s0 2 o0 5)) fl_2_37 (by decide) ho0 rfl dX2_addStep_15 ?_
    refine im_iload_n hF dX2_addStep_18 1 rfl ?_
    refine im_iast hF ar_21 ho0 dX2_addStep_19 (fun h1 => im_bdS (fun s2 => ?_))
    refine im_aload_n hF dX2_addStep_20 0 rfl ?_
    refine im_get hF (v := .ref (g.2.1 22 o0)) fl_2_24 (by decide) ho0 rfl dX2_addStep_21 ?_
    refine im_aload_n hF dX2_addStep_24 0 rfl ?_
    refine im_get hF (v := .int (s2 2 o0 5)) fl_2_37 (by decide) ho0 rfl dX2_addStep_25 ?_
    refine im_iload_n hF dX2_addStep_28 2 rfl ?_
    refine im_iast hF ar_22 ho0 dX2_addStep_29 (fun h3 => im_bdS (fun s4 => ?_))
    refine im_aload_n hF dX2_addStep_30 0 rfl ?_
    refine im_get hF (v := .ref (g.2.1 23 o0)) fl_2_27 (by decide) ho0 rfl dX2_addStep_31 ?_
    refine im_aload_n hF dX2_addStep_34 0 rfl ?_
    refine im_get hF (v := .int (s4 2 o0 5)) fl_2_37 (by decide) ho0 rfl dX2_addStep_35 ?_
    refine im_iload_n hF dX2_addStep_38 3 rfl ?_
    refine im_iast hF ar_23 ho0 dX2_addStep_39 (fun h5 => im_bdS (fun s6 => ?_))
    refine im_aload_n hF dX2_addStep_40 0 rfl ?_
    refine im_dup hF dX2_addStep_41 rfl ?_
    refine im_get hF (v := .int (s6 2 o0 5)) fl_2_37 (by decide) ho0 rfl dX2_addStep_42 ?_
    refine im_iconst hF dX2_addStep_45 (v := (1 : Int32)) (by decide) ?_
    refine im_iadd hF dX2_addStep_46 ?_
    refine im_put hF ((s6 2 o0 5) + (1 : Int32)) fp_2_37 (by decide) ho0 rfl rfl rfl dX2_addStep_47 ?_
    refine im_bdS (fun s7 => ?_)
    exact im_vret hF hM dX2_addStep_50
theorem c_X2_addStep (l : Launch) (g : GT) (hI : GI g) (o0 : Nat) (a1 : Int32) (a2 : Int32) (a3 : Int32) (ho0 : o0 < cnt 2) (s0 : Sg) (r : Sg) (hr : f_X2_addStep o0 a1 a2 a3 s0 = some r) : Ct l yX2_addStep cX2_addStep 4 none 0 0 g [.ref (g.2.1 2 o0), .int a1, .int a2, .int a3] s0 (embV r) := ct_of (by decide) hI (Nat.le_of_ble_eq_true rfl) (fun X hF hM => i_X2_addStep X g hF hM hI o0 a1 a2 a3 ho0 s0) r hr
def f_X5_readTerm_B12 (F : Int32 → Sg → Option (Int32 × Sg)) (k12 : Int32 → Int32 → Sg → Option (Int32 × Sg)) (a1 : Int32) (a2 : Int32) (s0 : Sg) : Option (Int32 × Sg) :=
  if (200 : Int32) ≤ a2 then
  some ((1 : Int32), s0)
  else
  Option.bind (f_X5_sign s0) fun q1 =>
  if q1.1 = (38 : Int32) then
  bdS (up3 q1.2 5 0 2 ((q1.2 5 0 2) + (1 : Int32))) fun s2 =>
  Option.bind (F a1 s2) fun q3 =>
  if q3.1 = 0 then
  some ((0 : Int32), q3.2)
  else
  chk (decide (¬ q3.2 5 0 3 = 0 ∧ ((q3.2 5 0 3).toNatClampNeg - 1) < 5)) (
  Option.bind (f_X2_addStep ((q3.2 5 0 3).toNatClampNeg - 1) (38 : Int32) (0 : Int32) (0 : Int32) q3.2) fun q5 =>
  k12 a1 (a2 + (1 : Int32)) q5)
  else
  some ((1 : Int32), q1.2)
set_option maxRecDepth 4000 in
theorem i_X5_readTerm_B12 (X : Cx) (g : GT) (F : Int32 → Sg → Option (Int32 × Sg)) (fF lF : Nat) (hCF : ∀ (l : Launch) (a1 : Int32) (s0 : Sg) (r : Int32 × Sg), F a1 s0 = some r → Ct l yX5_readFactor cX5_readFactor 3 (some .boolean) fF lF g [.ref (g.2.1 5 0), .int a1] s0 (embI r)) (hF : Fx X g RX5 cX5_readTerm 3 (fF + 10) (lF + 300)) (hM : FM X g (some .boolean)) (hI : GI g) (k12 : Int32 → Int32 → Sg → Option (Int32 × Sg)) (hk12 : ∀ (a1 : Int32) (a2 : Int32) (s0 : Sg), Im X g 3 (Qm X g embI) s0 12 [(0, .ref (g.2.1 5 0)), (1, .int a1), (2, .int a2)] [] (k12 a1 a2 s0)) (a1 : Int32) (a2 : Int32) (s0 : Sg) : Im X g 3 (Qm X g embI) s0 12 [(0, .ref (g.2.1 5 0)), (1, .int a1), (2, .int a2)] [] (f_X5_readTerm_B12 F k12 a1 a2 s0) := by
  unfold f_X5_readTerm_B12
  refine im_iload_n hF dX5_readTerm_12 2 rfl ?_
  refine im_sipush hF dX5_readTerm_13 (v := (200 : Int32)) (by decide) ?_
  refine im_icmp_ge hF 65 dX5_readTerm_16 (by decide) (fun _ => ?_) (fun _ => ?_)
  · refine im_iconst hF dX5_readTerm_65 (v := (1 : Int32)) (by decide) ?_
    exact im_zret hF hM (by decide) dX5_readTerm_66
  · refine im_aload_n hF dX5_readTerm_19 0 rfl ?_
    refine im_callVI hF (As := []) (rest := []) my_X5_sign mv_X5_sign wl_470 (fun l r hr => c_X5_sign l g hI  s0 r hr) ⟨by omega, by omega⟩ (by decide) (by decide) ⟨_, rfl, rfl⟩ rfl rfl (Nat.le_of_ble_eq_true rfl) dX5_readTerm_20 (fun q1 => ?_)
    refine im_bipush hF dX5_readTerm_23 (v := (38 : Int32)) (by decide) ?_
    refine im_icmp_ne hF 65 dX5_readTerm_25 (by decide) (fun _ => ?_) (fun _ => ?_)
    · refine im_aload_n hF dX5_readTerm_28 0 rfl ?_
      refine im_dup hF dX5_readTerm_29 rfl ?_
      refine im_get hF (v := .int (q1.2 5 0 2)) fl_5_31 (by decide) (by decide) rfl dX5_readTerm_30 ?_
      refine im_iconst hF dX5_readTerm_33 (v := (1 : Int32)) (by decide) ?_
      refine im_iadd hF dX5_readTerm_34 ?_
      refine im_put hF ((q1.2 5 0 2) + (1 : Int32)) fp_5_31 (by decide) (by decide) rfl rfl rfl dX5_readTerm_35 ?_
      refine im_bdS (fun s2 => ?_)
      refine im_aload_n hF dX5_readTerm_38 0 rfl ?_
      refine im_iload_n hF dX5_readTerm_39 1 rfl ?_
      refine im_callVI hF (As := [.int a1]) (rest := []) my_X5_readFactor mv_X5_readFactor wl_497 (fun l r hr => hCF l a1 s2 r hr) ⟨by omega, by omega⟩ (by decide) (by decide) ⟨_, rfl, rfl⟩ rfl rfl (Nat.le_of_ble_eq_true rfl) dX5_readTerm_40 (fun q3 => ?_)
      refine im_if_ne hF 48 dX5_readTerm_43 (by decide) (fun _ => ?_) (fun _ => ?_)
      · refine im_iconst hF dX5_readTerm_46 (v := (0 : Int32)) (by decide) ?_
        exact im_zret hF hM (by decide) dX5_readTerm_47
      · refine im_aload_n hF dX5_readTerm_48 0 rfl ?_
        refine im_chk (fun h4 => ?_)
        refine im_get hF (v := .ref (g.2.1 2 ((q3.2 5 0 3).toNatClampNeg - 1))) fl_5_34 (by decide) (by decide) (if_neg (of_decide_eq_true h4).1) dX5_readTerm_49 ?_
        refine im_bipush hF dX5_readTerm_52 (v := (38 : Int32)) (by decide) ?_
        refine im_iconst hF dX5_readTerm_54 (v := (0 : Int32)) (by decide) ?_
        refine im_iconst hF dX5_readTerm_55 (v := (0 : Int32)) (by decide) ?_
        refine im_callVV hF (As := [.int (38 : Int32), .int (0 : Int32), .int (0 : Int32)]) (rest := []) my_X2_addStep mv_X2_addStep wl_515 (fun l r hr => c_X2_addStep l g hI ((q3.2 5 0 3).toNatClampNeg - 1) (38 : Int32) (0 : Int32) (0 : Int32) (of_decide_eq_true h4).2 q3.2 r hr) ⟨by omega, by omega⟩ (by decide) (of_decide_eq_true h4).2 ⟨_, rfl, rfl⟩ rfl rfl (Nat.le_of_ble_eq_true rfl) dX5_readTerm_56 (fun q5 => ?_)
        refine im_iinc hF dX5_readTerm_59 (v := (a2 + (1 : Int32))) (lv' := [(2, .int (a2 + (1 : Int32))), (0, .ref (g.2.1 5 0)), (1, .int a1)]) 2 rfl rfl (by decide) rfl ?_
        refine im_goto hF 12 dX5_readTerm_62 (by decide) ?_
        refine im_sub (lv' := [(0, .ref (g.2.1 5 0)), (1, .int a1), (2, .int (a2 + (1 : Int32)))]) [1, 2, 0] rfl ?_
        exact hk12 a1 (a2 + (1 : Int32)) q5
    · refine im_iconst hF dX5_readTerm_65 (v := (1 : Int32)) (by decide) ?_
      exact im_zret hF hM (by decide) dX5_readTerm_66
def f_X5_readTerm_L12 (F : Int32 → Sg → Option (Int32 × Sg)) : Nat → Int32 → Int32 → Sg → Option (Int32 × Sg)
  | 0 => fun _ _ _ => none
  | n + 1 => fun a1 a2 s0 => f_X5_readTerm_B12 F (f_X5_readTerm_L12 F n) a1 a2 s0
theorem i_X5_readTerm_L12 (X : Cx) (g : GT) (F : Int32 → Sg → Option (Int32 × Sg)) (fF lF : Nat) (hCF : ∀ (l : Launch) (a1 : Int32) (s0 : Sg) (r : Int32 × Sg), F a1 s0 = some r → Ct l yX5_readFactor cX5_readFactor 3 (some .boolean) fF lF g [.ref (g.2.1 5 0), .int a1] s0 (embI r)) (hF : Fx X g RX5 cX5_readTerm 3 (fF + 10) (lF + 300)) (hM : FM X g (some .boolean)) (hI : GI g) : ∀ (n : Nat) (a1 : Int32) (a2 : Int32) (s0 : Sg), Im X g 3 (Qm X g embI) s0 12 [(0, .ref (g.2.1 5 0)), (1, .int a1), (2, .int a2)] [] (f_X5_readTerm_L12 F n a1 a2 s0) := by
  intro n
  induction n with
  | zero => intros; exact im_none
  | succ n ih => intro a1 a2 s0; exact i_X5_readTerm_B12 X g F fF lF hCF hF hM hI (f_X5_readTerm_L12 F n) ih a1 a2 s0
def f_X5_readTerm (F : Int32 → Sg → Option (Int32 × Sg)) (a1 : Int32) (s0 : Sg) : Option (Int32 × Sg) :=
  Option.bind (F a1 s0) fun q1 =>
  if q1.1 = 0 then
  some ((0 : Int32), q1.2)
  else
  (f_X5_readTerm_L12 F FU) a1 (0 : Int32) q1.2
set_option maxRecDepth 4000 in
theorem i_X5_readTerm (X : Cx) (g : GT) (F : Int32 → Sg → Option (Int32 × Sg)) (fF lF : Nat) (hCF : ∀ (l : Launch) (a1 : Int32) (s0 : Sg) (r : Int32 × Sg), F a1 s0 = some r → Ct l yX5_readFactor cX5_readFactor 3 (some .boolean) fF lF g [.ref (g.2.1 5 0), .int a1] s0 (embI r)) (hF : Fx X g RX5 cX5_readTerm 3 (fF + 10) (lF + 300)) (hM : FM X g (some .boolean)) (hI : GI g) (a1 : Int32) (s0 : Sg) : Im X g 3 (Qm X g embI) s0 0 [(0, .ref (g.2.1 5 0)), (1, .int a1)] [] (f_X5_readTerm F a1 s0) := by
  unfold f_X5_readTerm
  refine im_aload_n hF dX5_readTerm_0 0 rfl ?_
  refine im_iload_n hF dX5_readTerm_1 1 rfl ?_
  refine im_callVI hF (As := [.int a1]) (rest := []) my_X5_readFactor mv_X5_readFactor wl_497 (fun l r hr => hCF l a1 s0 r hr) ⟨by omega, by omega⟩ (by decide) (by decide) ⟨_, rfl, rfl⟩ rfl rfl (Nat.le_of_ble_eq_true rfl) dX5_readTerm_2 (fun q1 => ?_)
  refine im_if_ne hF 10 dX5_readTerm_5 (by decide) (fun _ => ?_) (fun _ => ?_)
  · refine im_iconst hF dX5_readTerm_8 (v := (0 : Int32)) (by decide) ?_
    exact im_zret hF hM (by decide) dX5_readTerm_9
  · refine im_iconst hF dX5_readTerm_10 (v := (0 : Int32)) (by decide) ?_
    refine im_istore_n hF dX5_readTerm_11 (lv' := [(2, .int (0 : Int32)), (0, .ref (g.2.1 5 0)), (1, .int a1)]) rfl (by decide) rfl ?_
    refine im_sub (lv' := [(0, .ref (g.2.1 5 0)), (1, .int a1), (2, .int (0 : Int32))]) [1, 2, 0] rfl ?_
    exact (i_X5_readTerm_L12 X g F fF lF hCF hF hM hI FU) a1 (0 : Int32) q1.2
theorem c_X5_readTerm (l : Launch) (g : GT) (hI : GI g) (F : Int32 → Sg → Option (Int32 × Sg)) (fF lF : Nat) (hCF : ∀ (l : Launch) (a1 : Int32) (s0 : Sg) (r : Int32 × Sg), F a1 s0 = some r → Ct l yX5_readFactor cX5_readFactor 3 (some .boolean) fF lF g [.ref (g.2.1 5 0), .int a1] s0 (embI r)) (a1 : Int32) (s0 : Sg) (r : (Int32 × Sg)) (hr : f_X5_readTerm F a1 s0 = some r) : Ct l yX5_readTerm cX5_readTerm 3 (some .boolean) (fF + 10) (lF + 300) g [.ref (g.2.1 5 0), .int a1] s0 (embI r) := ct_of (by decide) hI (Nat.le_of_ble_eq_true rfl) (fun X hF hM => i_X5_readTerm X g F fF lF hCF hF hM hI a1 s0) r hr
def f_X5_readTest_B12 (F : Int32 → Sg → Option (Int32 × Sg)) (k12 : Int32 → Int32 → Sg → Option (Int32 × Sg)) (a1 : Int32) (a2 : Int32) (s0 : Sg) : Option (Int32 × Sg) :=
  if (200 : Int32) ≤ a2 then
  some ((1 : Int32), s0)
  else
  Option.bind (f_X5_sign s0) fun q1 =>
  if q1.1 = (124 : Int32) then
  bdS (up3 q1.2 5 0 2 ((q1.2 5 0 2) + (1 : Int32))) fun s2 =>
  Option.bind (f_X5_readTerm F a1 s2) fun q3 =>
  if q3.1 = 0 then
  some ((0 : Int32), q3.2)
  else
  chk (decide (¬ q3.2 5 0 3 = 0 ∧ ((q3.2 5 0 3).toNatClampNeg - 1) < 5)) (
  Option.bind (f_X2_addStep ((q3.2 5 0 3).toNatClampNeg - 1) (124 : Int32) (0 : Int32) (0 : Int32) q3.2) fun q5 =>
  k12 a1 (a2 + (1 : Int32)) q5)
  else
  some ((1 : Int32), q1.2)
set_option maxRecDepth 4000 in
theorem i_X5_readTest_B12 (X : Cx) (g : GT) (F : Int32 → Sg → Option (Int32 × Sg)) (fF lF : Nat) (hCF : ∀ (l : Launch) (a1 : Int32) (s0 : Sg) (r : Int32 × Sg), F a1 s0 = some r → Ct l yX5_readFactor cX5_readFactor 3 (some .boolean) fF lF g [.ref (g.2.1 5 0), .int a1] s0 (embI r)) (hF : Fx X g RX5 cX5_readTest 3 (fF + 20) (lF + 600)) (hM : FM X g (some .boolean)) (hI : GI g) (k12 : Int32 → Int32 → Sg → Option (Int32 × Sg)) (hk12 : ∀ (a1 : Int32) (a2 : Int32) (s0 : Sg), Im X g 3 (Qm X g embI) s0 12 [(0, .ref (g.2.1 5 0)), (1, .int a1), (2, .int a2)] [] (k12 a1 a2 s0)) (a1 : Int32) (a2 : Int32) (s0 : Sg) : Im X g 3 (Qm X g embI) s0 12 [(0, .ref (g.2.1 5 0)), (1, .int a1), (2, .int a2)] [] (f_X5_readTest_B12 F k12 a1 a2 s0) := by
  unfold f_X5_readTest_B12
  refine im_iload_n hF dX5_readTest_12 2 rfl ?_
  refine im_sipush hF dX5_readTest_13 (v := (200 : Int32)) (by decide) ?_
  refine im_icmp_ge hF 65 dX5_readTest_16 (by decide) (fun _ => ?_) (fun _ => ?_)
  · refine im_iconst hF dX5_readTest_65 (v := (1 : Int32)) (by decide) ?_
    exact im_zret hF hM (by decide) dX5_readTest_66
  · refine im_aload_n hF dX5_readTest_19 0 rfl ?_
    refine im_callVI hF (As := []) (rest := []) my_X5_sign mv_X5_sign wl_470 (fun l r hr => c_X5_sign l g hI  s0 r hr) ⟨by omega, by omega⟩ (by decide) (by decide) ⟨_, rfl, rfl⟩ rfl rfl (Nat.le_of_ble_eq_true rfl) dX5_readTest_20 (fun q1 => ?_)
    refine im_bipush hF dX5_readTest_23 (v := (124 : Int32)) (by decide) ?_
    refine im_icmp_ne hF 65 dX5_readTest_25 (by decide) (fun _ => ?_) (fun _ => ?_)
    · refine im_aload_n hF dX5_readTest_28 0 rfl ?_
      refine im_dup hF dX5_readTest_29 rfl ?_
      refine im_get hF (v := .int (q1.2 5 0 2)) fl_5_31 (by decide) (by decide) rfl dX5_readTest_30 ?_
      refine im_iconst hF dX5_readTest_33 (v := (1 : Int32)) (by decide) ?_
      refine im_iadd hF dX5_readTest_34 ?_
      refine im_put hF ((q1.2 5 0 2) + (1 : Int32)) fp_5_31 (by decide) (by decide) rfl rfl rfl dX5_readTest_35 ?_
      refine im_bdS (fun s2 => ?_)
      refine im_aload_n hF dX5_readTest_38 0 rfl ?_
      refine im_iload_n hF dX5_readTest_39 1 rfl ?_
      refine im_callVI hF (As := [.int a1]) (rest := []) my_X5_readTerm mv_X5_readTerm wl_493 (fun l r hr => c_X5_readTerm l g hI F fF lF hCF a1 s2 r hr) ⟨by omega, by omega⟩ (by decide) (by decide) ⟨_, rfl, rfl⟩ rfl rfl (Nat.le_of_ble_eq_true rfl) dX5_readTest_40 (fun q3 => ?_)
      refine im_if_ne hF 48 dX5_readTest_43 (by decide) (fun _ => ?_) (fun _ => ?_)
      · refine im_iconst hF dX5_readTest_46 (v := (0 : Int32)) (by decide) ?_
        exact im_zret hF hM (by decide) dX5_readTest_47
      · refine im_aload_n hF dX5_readTest_48 0 rfl ?_
        refine im_chk (fun h4 => ?_)
        refine im_get hF (v := .ref (g.2.1 2 ((q3.2 5 0 3).toNatClampNeg - 1))) fl_5_34 (by decide) (by decide) (if_neg (of_decide_eq_true h4).1) dX5_readTest_49 ?_
        refine im_bipush hF dX5_readTest_52 (v := (124 : Int32)) (by decide) ?_
        refine im_iconst hF dX5_readTest_54 (v := (0 : Int32)) (by decide) ?_
        refine im_iconst hF dX5_readTest_55 (v := (0 : Int32)) (by decide) ?_
        refine im_callVV hF (As := [.int (124 : Int32), .int (0 : Int32), .int (0 : Int32)]) (rest := []) my_X2_addStep mv_X2_addStep wl_515 (fun l r hr => c_X2_addStep l g hI ((q3.2 5 0 3).toNatClampNeg - 1) (124 : Int32) (0 : Int32) (0 : Int32) (of_decide_eq_true h4).2 q3.2 r hr) ⟨by omega, by omega⟩ (by decide) (of_decide_eq_true h4).2 ⟨_, rfl, rfl⟩ rfl rfl (Nat.le_of_ble_eq_true rfl) dX5_readTest_56 (fun q5 => ?_)
        refine im_iinc hF dX5_readTest_59 (v := (a2 + (1 : Int32))) (lv' := [(2, .int (a2 + (1 : Int32))), (0, .ref (g.2.1 5 0)), (1, .int a1)]) 2 rfl rfl (by decide) rfl ?_
        refine im_goto hF 12 dX5_readTest_62 (by decide) ?_
        refine im_sub (lv' := [(0, .ref (g.2.1 5 0)), (1, .int a1), (2, .int (a2 + (1 : Int32)))]) [1, 2, 0] rfl ?_
        exact hk12 a1 (a2 + (1 : Int32)) q5
    · refine im_iconst hF dX5_readTest_65 (v := (1 : Int32)) (by decide) ?_
      exact im_zret hF hM (by decide) dX5_readTest_66
def f_X5_readTest_L12 (F : Int32 → Sg → Option (Int32 × Sg)) : Nat → Int32 → Int32 → Sg → Option (Int32 × Sg)
  | 0 => fun _ _ _ => none
  | n + 1 => fun a1 a2 s0 => f_X5_readTest_B12 F (f_X5_readTest_L12 F n) a1 a2 s0
theorem i_X5_readTest_L12 (X : Cx) (g : GT) (F : Int32 → Sg → Option (Int32 × Sg)) (fF lF : Nat) (hCF : ∀ (l : Launch) (a1 : Int32) (s0 : Sg) (r : Int32 × Sg), F a1 s0 = some r → Ct l yX5_readFactor cX5_readFactor 3 (some .boolean) fF lF g [.ref (g.2.1 5 0), .int a1] s0 (embI r)) (hF : Fx X g RX5 cX5_readTest 3 (fF + 20) (lF + 600)) (hM : FM X g (some .boolean)) (hI : GI g) : ∀ (n : Nat) (a1 : Int32) (a2 : Int32) (s0 : Sg), Im X g 3 (Qm X g embI) s0 12 [(0, .ref (g.2.1 5 0)), (1, .int a1), (2, .int a2)] [] (f_X5_readTest_L12 F n a1 a2 s0) := by
  intro n
  induction n with
  | zero => intros; exact im_none
  | succ n ih => intro a1 a2 s0; exact i_X5_readTest_B12 X g F fF lF hCF hF hM hI (f_X5_readTest_L12 F n) ih a1 a2 s0
def f_X5_readTest (F : Int32 → Sg → Option (Int32 × Sg)) (a1 : Int32) (s0 : Sg) : Option (Int32 × Sg) :=
  Option.bind (f_X5_readTerm F a1 s0) fun q1 =>
  if q1.1 = 0 then
  some ((0 : Int32), q1.2)
  else
  (f_X5_readTest_L12 F FU) a1 (0 : Int32) q1.2
set_option maxRecDepth 4000 in
theorem i_X5_readTest (X : Cx) (g : GT) (F : Int32 → Sg → Option (Int32 × Sg)) (fF lF : Nat) (hCF : ∀ (l : Launch) (a1 : Int32) (s0 : Sg) (r : Int32 × Sg), F a1 s0 = some r → Ct l yX5_readFactor cX5_readFactor 3 (some .boolean) fF lF g [.ref (g.2.1 5 0), .int a1] s0 (embI r)) (hF : Fx X g RX5 cX5_readTest 3 (fF + 20) (lF + 600)) (hM : FM X g (some .boolean)) (hI : GI g) (a1 : Int32) (s0 : Sg) : Im X g 3 (Qm X g embI) s0 0 [(0, .ref (g.2.1 5 0)), (1, .int a1)] [] (f_X5_readTest F a1 s0) := by
  unfold f_X5_readTest
  refine im_aload_n hF dX5_readTest_0 0 rfl ?_
  refine im_iload_n hF dX5_readTest_1 1 rfl ?_
  refine im_callVI hF (As := [.int a1]) (rest := []) my_X5_readTerm mv_X5_readTerm wl_493 (fun l r hr => c_X5_readTerm l g hI F fF lF hCF a1 s0 r hr) ⟨by omega, by omega⟩ (by decide) (by decide) ⟨_, rfl, rfl⟩ rfl rfl (Nat.le_of_ble_eq_true rfl) dX5_readTest_2 (fun q1 => ?_)
  refine im_if_ne hF 10 dX5_readTest_5 (by decide) (fun _ => ?_) (fun _ => ?_)
  · refine im_iconst hF dX5_readTest_8 (v := (0 : Int32)) (by decide) ?_
    exact im_zret hF hM (by decide) dX5_readTest_9
  · refine im_iconst hF dX5_readTest_10 (v := (0 : Int32)) (by decide) ?_
    refine im_istore_n hF dX5_readTest_11 (lv' := [(2, .int (0 : Int32)), (0, .ref (g.2.1 5 0)), (1, .int a1)]) rfl (by decide) rfl ?_
    refine im_sub (lv' := [(0, .ref (g.2.1 5 0)), (1, .int a1), (2, .int (0 : Int32))]) [1, 2, 0] rfl ?_
    exact (i_X5_readTest_L12 X g F fF lF hCF hF hM hI FU) a1 (0 : Int32) q1.2
theorem c_X5_readTest (l : Launch) (g : GT) (hI : GI g) (F : Int32 → Sg → Option (Int32 × Sg)) (fF lF : Nat) (hCF : ∀ (l : Launch) (a1 : Int32) (s0 : Sg) (r : Int32 × Sg), F a1 s0 = some r → Ct l yX5_readFactor cX5_readFactor 3 (some .boolean) fF lF g [.ref (g.2.1 5 0), .int a1] s0 (embI r)) (a1 : Int32) (s0 : Sg) (r : (Int32 × Sg)) (hr : f_X5_readTest F a1 s0 = some r) : Ct l yX5_readTest cX5_readTest 3 (some .boolean) (fF + 20) (lF + 600) g [.ref (g.2.1 5 0), .int a1] s0 (embI r) := ct_of (by decide) hI (Nat.le_of_ble_eq_true rfl) (fun X hF hM => i_X5_readTest X g F fF lF hCF hF hM hI a1 s0) r hr
def f_X5_factOf (a0 : Int32) (s0 : Sg) : Option (Int32 × Sg) :=
  if a0 = (107 : Int32) then
  some ((3 : Int32), s0)
  else
  if a0 = (108 : Int32) then
  some ((0 : Int32), s0)
  else
  if a0 = (109 : Int32) then
  some ((4 : Int32), s0)
  else
  if a0 = (116 : Int32) then
  some ((1 : Int32), s0)
  else
  if a0 = (119 : Int32) then
  some ((2 : Int32), s0)
  else
  some ((-1 : Int32), s0)
set_option maxRecDepth 4000 in
theorem i_X5_factOf (X : Cx) (g : GT) (hF : Fx X g RX5 cX5_factOf 1 0 0) (hM : FM X g (some .int)) (hI : GI g) (a0 : Int32) (s0 : Sg) : Im X g 1 (Qm X g embI) s0 0 [(0, .int a0)] [] (f_X5_factOf a0 s0) := by
  unfold f_X5_factOf
  refine im_iload_n hF dX5_factOf_0 0 rfl ?_
  refine im_ite (fun h1 => ?_) (fun h1 => ?_)
  · refine im_tableIn hF 74 dX5_factOf_1 (by rw [h1]; decide) (by rw [h1]; decide) (by rw [h1]; rfl) (by decide) ?_
    refine im_iconst hF dX5_factOf_74 (v := (3 : Int32)) (by decide) ?_
    exact im_iret hF hM dX5_factOf_75
  · refine im_ite (fun h2 => ?_) (fun h2 => ?_)
    · refine im_tableIn hF 68 dX5_factOf_1 (by rw [h2]; decide) (by rw [h2]; decide) (by rw [h2]; rfl) (by decide) ?_
      refine im_iconst hF dX5_factOf_68 (v := (0 : Int32)) (by decide) ?_
      exact im_iret hF hM dX5_factOf_69
    · refine im_ite (fun h3 => ?_) (fun h3 => ?_)
      · refine im_tableIn hF 76 dX5_factOf_1 (by rw [h3]; decide) (by rw [h3]; decide) (by rw [h3]; rfl) (by decide) ?_
        refine im_iconst hF dX5_factOf_76 (v := (4 : Int32)) (by decide) ?_
        exact im_iret hF hM dX5_factOf_77
      · refine im_ite (fun h4 => ?_) (fun h4 => ?_)
        · refine im_tableIn hF 70 dX5_factOf_1 (by rw [h4]; decide) (by rw [h4]; decide) (by rw [h4]; rfl) (by decide) ?_
          refine im_iconst hF dX5_factOf_70 (v := (1 : Int32)) (by decide) ?_
          exact im_iret hF hM dX5_factOf_71
        · refine im_ite (fun h5 => ?_) (fun h5 => ?_)
          · refine im_tableIn hF 72 dX5_factOf_1 (by rw [h5]; decide) (by rw [h5]; decide) (by rw [h5]; rfl) (by decide) ?_
            refine im_iconst hF dX5_factOf_72 (v := (2 : Int32)) (by decide) ?_
            exact im_iret hF hM dX5_factOf_73
          · by_cases h6 : a0.toInt < 107 ∨ 119 < a0.toInt
            · refine im_tableOut hF 78 dX5_factOf_1 h6 (by decide) ?_
              refine im_iconst hF dX5_factOf_78 (v := (-1 : Int32)) (by decide) ?_
              exact im_iret hF hM dX5_factOf_79
            · rcases (show a0.toInt = 110 ∨ a0.toInt = 111 ∨ a0.toInt = 112 ∨ a0.toInt = 113 ∨ a0.toInt = 114 ∨ a0.toInt = 115 ∨ a0.toInt = 117 ∨ a0.toInt = 118 by have := lv_neT h1 (a := 107) rfl; have := lv_neT h2 (a := 108) rfl; have := lv_neT h3 (a := 109) rfl; have := lv_neT h4 (a := 116) rfl; have := lv_neT h5 (a := 119) rfl; omega) with h7 | h7 | h7 | h7 | h7 | h7 | h7 | h7
              · refine im_tableIn hF 78 dX5_factOf_1 (by rw [h7]; decide) (by rw [h7]; decide) (by rw [h7]; rfl) (by decide) ?_
                refine im_iconst hF dX5_factOf_78 (v := (-1 : Int32)) (by decide) ?_
                exact im_iret hF hM dX5_factOf_79
              · refine im_tableIn hF 78 dX5_factOf_1 (by rw [h7]; decide) (by rw [h7]; decide) (by rw [h7]; rfl) (by decide) ?_
                refine im_iconst hF dX5_factOf_78 (v := (-1 : Int32)) (by decide) ?_
                exact im_iret hF hM dX5_factOf_79
              · refine im_tableIn hF 78 dX5_factOf_1 (by rw [h7]; decide) (by rw [h7]; decide) (by rw [h7]; rfl) (by decide) ?_
                refine im_iconst hF dX5_factOf_78 (v := (-1 : Int32)) (by decide) ?_
                exact im_iret hF hM dX5_factOf_79
              · refine im_tableIn hF 78 dX5_factOf_1 (by rw [h7]; decide) (by rw [h7]; decide) (by rw [h7]; rfl) (by decide) ?_
                refine im_iconst hF dX5_factOf_78 (v := (-1 : Int32)) (by decide) ?_
                exact im_iret hF hM dX5_factOf_79
              · refine im_tableIn hF 78 dX5_factOf_1 (by rw [h7]; decide) (by rw [h7]; decide) (by rw [h7]; rfl) (by decide) ?_
                refine im_iconst hF dX5_factOf_78 (v := (-1 : Int32)) (by decide) ?_
                exact im_iret hF hM dX5_factOf_79
              · refine im_tableIn hF 78 dX5_factOf_1 (by rw [h7]; decide) (by rw [h7]; decide) (by rw [h7]; rfl) (by decide) ?_
                refine im_iconst hF dX5_factOf_78 (v := (-1 : Int32)) (by decide) ?_
                exact im_iret hF hM dX5_factOf_79
              · refine im_tableIn hF 78 dX5_factOf_1 (by rw [h7]; decide) (by rw [h7]; decide) (by rw [h7]; rfl) (by decide) ?_
                refine im_iconst hF dX5_factOf_78 (v := (-1 : Int32)) (by decide) ?_
                exact im_iret hF hM dX5_factOf_79
              · refine im_tableIn hF 78 dX5_factOf_1 (by rw [h7]; decide) (by rw [h7]; decide) (by rw [h7]; rfl) (by decide) ?_
                refine im_iconst hF dX5_factOf_78 (v := (-1 : Int32)) (by decide) ?_
                exact im_iret hF hM dX5_factOf_79
theorem c_X5_factOf (l : Launch) (g : GT) (hI : GI g) (a0 : Int32) (s0 : Sg) (r : (Int32 × Sg)) (hr : f_X5_factOf a0 s0 = some r) : Ct l yX5_factOf cX5_factOf 1 (some .int) 0 0 g [.int a0] s0 (embI r) := ct_of (by decide) hI (Nat.le_of_ble_eq_true rfl) (fun X hF hM => i_X5_factOf X g hF hM hI a0 s0) r hr
def f_X5_readLetter (s0 : Sg) : Option (Int32 × Sg) :=
  Option.bind (f_X5_sign s0) fun q1 =>
  Option.bind (f_X5_factOf q1.1 q1.2) fun q2 =>
  bdS (up3 q2.2 5 0 4 q2.1) fun s3 =>
  if (s3 5 0 4) = (-1 : Int32) then
  Option.bind (f_X5_refuse (1 : Int32) s3) fun q4 =>
  chk (b01 q4.1) (some (q4.1, q4.2))
  else
  bdS (up3 s3 5 0 2 ((s3 5 0 2) + (1 : Int32))) fun s6 =>
  some ((1 : Int32), s6)
set_option maxRecDepth 4000 in
theorem i_X5_readLetter (X : Cx) (g : GT) (hF : Fx X g RX5 cX5_readLetter 1 1 21) (hM : FM X g (some .boolean)) (hI : GI g) (s0 : Sg) : Im X g 1 (Qm X g embI) s0 0 [(0, .ref (g.2.1 5 0))] [] (f_X5_readLetter s0) := by
  unfold f_X5_readLetter
  refine im_aload_n hF dX5_readLetter_0 0 rfl ?_
  refine im_aload_n hF dX5_readLetter_1 0 rfl ?_
  refine im_callVI hF (As := []) (rest := [.ref (g.2.1 5 0)]) my_X5_sign mv_X5_sign wl_470 (fun l r hr => c_X5_sign l g hI  s0 r hr) ⟨by decide, by decide⟩ (by decide) (by decide) ⟨_, rfl, rfl⟩ rfl rfl (Nat.le_of_ble_eq_true rfl) dX5_readLetter_2 (fun q1 => ?_)
  refine im_callSI hF (As := [.int q1.1]) (rest := [.ref (g.2.1 5 0)]) my_X5_factOf ms_X5_factOf wl_505 (fun l r hr => c_X5_factOf l g hI q1.1 q1.2 r hr) ⟨by decide, by decide⟩ rfl rfl (Nat.le_of_ble_eq_true rfl) dX5_readLetter_5 (fun q2 => ?_)
  refine im_put hF q2.1 fp_5_91 (by decide) (by decide) rfl rfl rfl dX5_readLetter_8 ?_
  refine im_bdS (fun s3 => ?_)
  refine im_aload_n hF dX5_readLetter_11 0 rfl ?_
  refine im_get hF (v := .int (s3 5 0 4)) fl_5_91 (by decide) (by decide) rfl dX5_readLetter_12 ?_
  refine im_iconst hF dX5_readLetter_15 (v := (-1 : Int32)) (by decide) ?_
  refine im_icmp_ne hF 25 dX5_readLetter_16 (by decide) (fun _ => ?_) (fun _ => ?_)
  · refine im_aload_n hF dX5_readLetter_19 0 rfl ?_
    refine im_iconst hF dX5_readLetter_20 (v := (1 : Int32)) (by decide) ?_
    refine im_callVI hF (As := [.int (1 : Int32)]) (rest := []) my_X5_refuse mv_X5_refuse wl_474 (fun l r hr => c_X5_refuse l g hI (1 : Int32) s3 r hr) ⟨by decide, by decide⟩ (by decide) (by decide) ⟨_, rfl, rfl⟩ rfl rfl (Nat.le_of_ble_eq_true rfl) dX5_readLetter_21 (fun q4 => ?_)
    exact im_chk (fun h5 => im_zret hF hM (b01_or h5) dX5_readLetter_24)
  · refine im_aload_n hF dX5_readLetter_25 0 rfl ?_
    refine im_dup hF dX5_readLetter_26 rfl ?_
    refine im_get hF (v := .int (s3 5 0 2)) fl_5_31 (by decide) (by decide) rfl dX5_readLetter_27 ?_
    refine im_iconst hF dX5_readLetter_30 (v := (1 : Int32)) (by decide) ?_
    refine im_iadd hF dX5_readLetter_31 ?_
    refine im_put hF ((s3 5 0 2) + (1 : Int32)) fp_5_31 (by decide) (by decide) rfl rfl rfl dX5_readLetter_32 ?_
    refine im_bdS (fun s6 => ?_)
    refine im_iconst hF dX5_readLetter_35 (v := (1 : Int32)) (by decide) ?_
    exact im_zret hF hM (by decide) dX5_readLetter_36
theorem c_X5_readLetter (l : Launch) (g : GT) (hI : GI g) (s0 : Sg) (r : (Int32 × Sg)) (hr : f_X5_readLetter s0 = some r) : Ct l yX5_readLetter cX5_readLetter 1 (some .boolean) 1 21 g [.ref (g.2.1 5 0)] s0 (embI r) := ct_of (by decide) hI (Nat.le_of_ble_eq_true rfl) (fun X hF hM => i_X5_readLetter X g hF hM hI s0) r hr
def f_X2_isComparison (a0 : Int32) (s0 : Sg) : Option (Int32 × Sg) :=
  if a0 = (60 : Int32) then
  some ((1 : Int32), s0)
  else
  if a0 = (61 : Int32) then
  some ((1 : Int32), s0)
  else
  if a0 = (62 : Int32) then
  some ((1 : Int32), s0)
  else
  some ((0 : Int32), s0)
set_option maxRecDepth 4000 in
theorem i_X2_isComparison (X : Cx) (g : GT) (hF : Fx X g RX2 cX2_isComparison 1 0 0) (hM : FM X g (some .boolean)) (hI : GI g) (a0 : Int32) (s0 : Sg) : Im X g 1 (Qm X g embI) s0 0 [(0, .int a0)] [] (f_X2_isComparison a0 s0) := by
  unfold f_X2_isComparison
  refine im_iload_n hF dX2_isComparison_0 0 rfl ?_
  refine im_bipush hF dX2_isComparison_1 (v := (60 : Int32)) (by decide) ?_
  refine im_icmp_eq hF 18 dX2_isComparison_3 (by decide) (fun _ => ?_) (fun _ => ?_)
  · refine im_iconst hF dX2_isComparison_18 (v := (1 : Int32)) (by decide) ?_
    refine im_goto hF 23 dX2_isComparison_19 (by decide) ?_
    exact im_zret hF hM (by decide) dX2_isComparison_23
  · refine im_iload_n hF dX2_isComparison_6 0 rfl ?_
    refine im_bipush hF dX2_isComparison_7 (v := (61 : Int32)) (by decide) ?_
    refine im_icmp_eq hF 18 dX2_isComparison_9 (by decide) (fun _ => ?_) (fun _ => ?_)
    · refine im_iconst hF dX2_isComparison_18 (v := (1 : Int32)) (by decide) ?_
      refine im_goto hF 23 dX2_isComparison_19 (by decide) ?_
      exact im_zret hF hM (by decide) dX2_isComparison_23
    · refine im_iload_n hF dX2_isComparison_12 0 rfl ?_
      refine im_bipush hF dX2_isComparison_13 (v := (62 : Int32)) (by decide) ?_
      refine im_icmp_ne hF 22 dX2_isComparison_15 (by decide) (fun _ => ?_) (fun _ => ?_)
      · refine im_iconst hF dX2_isComparison_18 (v := (1 : Int32)) (by decide) ?_
        refine im_goto hF 23 dX2_isComparison_19 (by decide) ?_
        exact im_zret hF hM (by decide) dX2_isComparison_23
      · refine im_iconst hF dX2_isComparison_22 (v := (0 : Int32)) (by decide) ?_
        exact im_zret hF hM (by decide) dX2_isComparison_23
theorem c_X2_isComparison (l : Launch) (g : GT) (hI : GI g) (a0 : Int32) (s0 : Sg) (r : (Int32 × Sg)) (hr : f_X2_isComparison a0 s0 = some r) : Ct l yX2_isComparison cX2_isComparison 1 (some .boolean) 0 0 g [.int a0] s0 (embI r) := ct_of (by decide) hI (Nat.le_of_ble_eq_true rfl) (fun X hF hM => i_X2_isComparison X g hF hM hI a0 s0) r hr
def f_X5_readComparison (s0 : Sg) : Option (Int32 × Sg) :=
  Option.bind (f_X5_sign s0) fun q1 =>
  bdS (up3 q1.2 5 0 5 q1.1) fun s2 =>
  Option.bind (f_X2_isComparison (s2 5 0 5) s2) fun q3 =>
  if q3.1 = 0 then
  Option.bind (f_X5_refuse (1 : Int32) q3.2) fun q4 =>
  chk (b01 q4.1) (some (q4.1, q4.2))
  else
  bdS (up3 q3.2 5 0 2 ((q3.2 5 0 2) + (1 : Int32))) fun s6 =>
  some ((1 : Int32), s6)
set_option maxRecDepth 4000 in
theorem i_X5_readComparison (X : Cx) (g : GT) (hF : Fx X g RX5 cX5_readComparison 1 1 21) (hM : FM X g (some .boolean)) (hI : GI g) (s0 : Sg) : Im X g 1 (Qm X g embI) s0 0 [(0, .ref (g.2.1 5 0))] [] (f_X5_readComparison s0) := by
  unfold f_X5_readComparison
  refine im_aload_n hF dX5_readComparison_0 0 rfl ?_
  refine im_aload_n hF dX5_readComparison_1 0 rfl ?_
  refine im_callVI hF (As := []) (rest := [.ref (g.2.1 5 0)]) my_X5_sign mv_X5_sign wl_470 (fun l r hr => c_X5_sign l g hI  s0 r hr) ⟨by decide, by decide⟩ (by decide) (by decide) ⟨_, rfl, rfl⟩ rfl rfl (Nat.le_of_ble_eq_true rfl) dX5_readComparison_2 (fun q1 => ?_)
  refine im_put hF q1.1 fp_5_88 (by decide) (by decide) rfl rfl rfl dX5_readComparison_5 ?_
  refine im_bdS (fun s2 => ?_)
  refine im_aload_n hF dX5_readComparison_8 0 rfl ?_
  refine im_get hF (v := .int (s2 5 0 5)) fl_5_88 (by decide) (by decide) rfl dX5_readComparison_9 ?_
  refine im_callNI hF (As := [.int (s2 5 0 5)]) (rest := []) my_X2_isComparison ms_X2_isComparison nest_1 (fun l r hr => c_X2_isComparison l g hI (s2 5 0 5) s2 r hr) ⟨by decide, by decide⟩ rfl rfl (Nat.le_of_ble_eq_true rfl) dX5_readComparison_12 (fun q3 => ?_)
  refine im_if_ne hF 24 dX5_readComparison_15 (by decide) (fun _ => ?_) (fun _ => ?_)
  · refine im_aload_n hF dX5_readComparison_18 0 rfl ?_
    refine im_iconst hF dX5_readComparison_19 (v := (1 : Int32)) (by decide) ?_
    refine im_callVI hF (As := [.int (1 : Int32)]) (rest := []) my_X5_refuse mv_X5_refuse wl_474 (fun l r hr => c_X5_refuse l g hI (1 : Int32) q3.2 r hr) ⟨by decide, by decide⟩ (by decide) (by decide) ⟨_, rfl, rfl⟩ rfl rfl (Nat.le_of_ble_eq_true rfl) dX5_readComparison_20 (fun q4 => ?_)
    exact im_chk (fun h5 => im_zret hF hM (b01_or h5) dX5_readComparison_23)
  · refine im_aload_n hF dX5_readComparison_24 0 rfl ?_
    refine im_dup hF dX5_readComparison_25 rfl ?_
    refine im_get hF (v := .int (q3.2 5 0 2)) fl_5_31 (by decide) (by decide) rfl dX5_readComparison_26 ?_
    refine im_iconst hF dX5_readComparison_29 (v := (1 : Int32)) (by decide) ?_
    refine im_iadd hF dX5_readComparison_30 ?_
    refine im_put hF ((q3.2 5 0 2) + (1 : Int32)) fp_5_31 (by decide) (by decide) rfl rfl rfl dX5_readComparison_31 ?_
    refine im_bdS (fun s6 => ?_)
    refine im_iconst hF dX5_readComparison_34 (v := (1 : Int32)) (by decide) ?_
    exact im_zret hF hM (by decide) dX5_readComparison_35
theorem c_X5_readComparison (l : Launch) (g : GT) (hI : GI g) (s0 : Sg) (r : (Int32 × Sg)) (hr : f_X5_readComparison s0 = some r) : Ct l yX5_readComparison cX5_readComparison 1 (some .boolean) 1 21 g [.ref (g.2.1 5 0)] s0 (embI r) := ct_of (by decide) hI (Nat.le_of_ble_eq_true rfl) (fun X hF hM => i_X5_readComparison X g hF hM hI s0) r hr
def f_X5_readFactor_B62 (F : Int32 → Sg → Option (Int32 × Sg)) (a1 : Int32) (a2 : Int32) (s0 : Sg) : Option (Int32 × Sg) :=
  if a1 < (8 : Int32) then
  bdS (up3 s0 5 0 2 ((s0 5 0 2) + (1 : Int32))) fun s1 =>
  if a2 = (40 : Int32) then
  Option.bind (f_X5_readTest F (a1 + (1 : Int32)) s1) fun q2 =>
  if q2.1 = 0 then
  some ((0 : Int32), q2.2)
  else
  Option.bind (f_X5_take (41 : Int32) q2.2) fun q3 =>
  if q3.1 = 0 then
  some ((0 : Int32), q3.2)
  else
  some ((1 : Int32), q3.2)
  else
  Option.bind (F (a1 + (1 : Int32)) s1) fun q4 =>
  if q4.1 = 0 then
  some ((0 : Int32), q4.2)
  else
  chk (decide (¬ q4.2 5 0 3 = 0 ∧ ((q4.2 5 0 3).toNatClampNeg - 1) < 5)) (
  Option.bind (f_X2_addStep ((q4.2 5 0 3).toNatClampNeg - 1) (33 : Int32) (0 : Int32) (0 : Int32) q4.2) fun q6 =>
  some ((1 : Int32), q6))
  else
  Option.bind (f_X5_refuse (3 : Int32) s0) fun q7 =>
  chk (b01 q7.1) (some (q7.1, q7.2))
set_option maxRecDepth 4000 in
theorem i_X5_readFactor_B62 (X : Cx) (g : GT) (F : Int32 → Sg → Option (Int32 × Sg)) (fF lF : Nat) (hCF : ∀ (l : Launch) (a1 : Int32) (s0 : Sg) (r : Int32 × Sg), F a1 s0 = some r → Ct l yX5_readFactor cX5_readFactor 3 (some .boolean) fF lF g [.ref (g.2.1 5 0), .int a1] s0 (embI r)) (hF : Fx X g RX5 cX5_readFactor 3 (fF + 30) (lF + 900)) (hM : FM X g (some .boolean)) (hI : GI g) (a1 : Int32) (a2 : Int32) (s0 : Sg) : Im X g 3 (Qm X g embI) s0 62 [(0, .ref (g.2.1 5 0)), (1, .int a1), (2, .int a2)] [] (f_X5_readFactor_B62 F a1 a2 s0) := by
  unfold f_X5_readFactor_B62
  refine im_iload_n hF dX5_readFactor_62 1 rfl ?_
  refine im_bipush hF dX5_readFactor_63 (v := (8 : Int32)) (by decide) ?_
  refine im_icmp_lt hF 74 dX5_readFactor_65 (by decide) (fun _ => ?_) (fun _ => ?_)
  · refine im_aload_n hF dX5_readFactor_74 0 rfl ?_
    refine im_dup hF dX5_readFactor_75 rfl ?_
    refine im_get hF (v := .int (s0 5 0 2)) fl_5_31 (by decide) (by decide) rfl dX5_readFactor_76 ?_
    refine im_iconst hF dX5_readFactor_79 (v := (1 : Int32)) (by decide) ?_
    refine im_iadd hF dX5_readFactor_80 ?_
    refine im_put hF ((s0 5 0 2) + (1 : Int32)) fp_5_31 (by decide) (by decide) rfl rfl rfl dX5_readFactor_81 ?_
    refine im_bdS (fun s1 => ?_)
    refine im_iload_n hF dX5_readFactor_84 2 rfl ?_
    refine im_bipush hF dX5_readFactor_85 (v := (40 : Int32)) (by decide) ?_
    refine im_icmp_ne hF 115 dX5_readFactor_87 (by decide) (fun _ => ?_) (fun _ => ?_)
    · refine im_aload_n hF dX5_readFactor_90 0 rfl ?_
      refine im_iload_n hF dX5_readFactor_91 1 rfl ?_
      refine im_iconst hF dX5_readFactor_92 (v := (1 : Int32)) (by decide) ?_
      refine im_iadd hF dX5_readFactor_93 ?_
      refine im_callVI hF (As := [.int (a1 + (1 : Int32))]) (rest := []) my_X5_readTest mv_X5_readTest wl_489 (fun l r hr => c_X5_readTest l g hI F fF lF hCF (a1 + (1 : Int32)) s1 r hr) ⟨by omega, by omega⟩ (by decide) (by decide) ⟨_, rfl, rfl⟩ rfl rfl (Nat.le_of_ble_eq_true rfl) dX5_readFactor_94 (fun q2 => ?_)
      refine im_if_eq hF 113 dX5_readFactor_97 (by decide) (fun _ => ?_) (fun _ => ?_)
      · refine im_iconst hF dX5_readFactor_113 (v := (0 : Int32)) (by decide) ?_
        exact im_zret hF hM (by decide) dX5_readFactor_114
      · refine im_aload_n hF dX5_readFactor_100 0 rfl ?_
        refine im_bipush hF dX5_readFactor_101 (v := (41 : Int32)) (by decide) ?_
        refine im_callVI hF (As := [.int (41 : Int32)]) (rest := []) my_X5_take mv_X5_take wl_485 (fun l r hr => c_X5_take l g hI (41 : Int32) q2.2 r hr) ⟨by omega, by omega⟩ (by decide) (by decide) ⟨_, rfl, rfl⟩ rfl rfl (Nat.le_of_ble_eq_true rfl) dX5_readFactor_103 (fun q3 => ?_)
        refine im_if_eq hF 113 dX5_readFactor_106 (by decide) (fun _ => ?_) (fun _ => ?_)
        · refine im_iconst hF dX5_readFactor_113 (v := (0 : Int32)) (by decide) ?_
          exact im_zret hF hM (by decide) dX5_readFactor_114
        · refine im_iconst hF dX5_readFactor_109 (v := (1 : Int32)) (by decide) ?_
          refine im_goto hF 114 dX5_readFactor_110 (by decide) ?_
          exact im_zret hF hM (by decide) dX5_readFactor_114
    · refine im_aload_n hF dX5_readFactor_115 0 rfl ?_
      refine im_iload_n hF dX5_readFactor_116 1 rfl ?_
      refine im_iconst hF dX5_readFactor_117 (v := (1 : Int32)) (by decide) ?_
      refine im_iadd hF dX5_readFactor_118 ?_
      refine im_callVI hF (As := [.int (a1 + (1 : Int32))]) (rest := []) my_X5_readFactor mv_X5_readFactor wl_497 (fun l r hr => hCF l (a1 + (1 : Int32)) s1 r hr) ⟨by omega, by omega⟩ (by decide) (by decide) ⟨_, rfl, rfl⟩ rfl rfl (Nat.le_of_ble_eq_true rfl) dX5_readFactor_119 (fun q4 => ?_)
      refine im_if_ne hF 127 dX5_readFactor_122 (by decide) (fun _ => ?_) (fun _ => ?_)
      · refine im_iconst hF dX5_readFactor_125 (v := (0 : Int32)) (by decide) ?_
        exact im_zret hF hM (by decide) dX5_readFactor_126
      · refine im_aload_n hF dX5_readFactor_127 0 rfl ?_
        refine im_chk (fun h5 => ?_)
        refine im_get hF (v := .ref (g.2.1 2 ((q4.2 5 0 3).toNatClampNeg - 1))) fl_5_34 (by decide) (by decide) (if_neg (of_decide_eq_true h5).1) dX5_readFactor_128 ?_
        refine im_bipush hF dX5_readFactor_131 (v := (33 : Int32)) (by decide) ?_
        refine im_iconst hF dX5_readFactor_133 (v := (0 : Int32)) (by decide) ?_
        refine im_iconst hF dX5_readFactor_134 (v := (0 : Int32)) (by decide) ?_
        refine im_callVV hF (As := [.int (33 : Int32), .int (0 : Int32), .int (0 : Int32)]) (rest := []) my_X2_addStep mv_X2_addStep wl_515 (fun l r hr => c_X2_addStep l g hI ((q4.2 5 0 3).toNatClampNeg - 1) (33 : Int32) (0 : Int32) (0 : Int32) (of_decide_eq_true h5).2 q4.2 r hr) ⟨by omega, by omega⟩ (by decide) (of_decide_eq_true h5).2 ⟨_, rfl, rfl⟩ rfl rfl (Nat.le_of_ble_eq_true rfl) dX5_readFactor_135 (fun q6 => ?_)
        refine im_iconst hF dX5_readFactor_138 (v := (1 : Int32)) (by decide) ?_
        exact im_zret hF hM (by decide) dX5_readFactor_139
  · refine im_aload_n hF dX5_readFactor_68 0 rfl ?_
    refine im_iconst hF dX5_readFactor_69 (v := (3 : Int32)) (by decide) ?_
    refine im_callVI hF (As := [.int (3 : Int32)]) (rest := []) my_X5_refuse mv_X5_refuse wl_474 (fun l r hr => c_X5_refuse l g hI (3 : Int32) s0 r hr) ⟨by omega, by omega⟩ (by decide) (by decide) ⟨_, rfl, rfl⟩ rfl rfl (Nat.le_of_ble_eq_true rfl) dX5_readFactor_70 (fun q7 => ?_)
    exact im_chk (fun h8 => im_zret hF hM (b01_or h8) dX5_readFactor_73)
def f_X5_readFactor (F : Int32 → Sg → Option (Int32 × Sg)) (a1 : Int32) (s0 : Sg) : Option (Int32 × Sg) :=
  Option.bind (f_X5_sign s0) fun q1 =>
  if q1.1 = (33 : Int32) then
  (f_X5_readFactor_B62 F) a1 q1.1 q1.2
  else
  if q1.1 = (40 : Int32) then
  (f_X5_readFactor_B62 F) a1 q1.1 q1.2
  else
  Option.bind (f_X5_readLetter q1.2) fun q2 =>
  if q2.1 = 0 then
  some ((0 : Int32), q2.2)
  else
  Option.bind (f_X5_readComparison q2.2) fun q3 =>
  if q3.1 = 0 then
  some ((0 : Int32), q3.2)
  else
  Option.bind (f_X5_readNumber (1 : Int32) q3.2) fun q4 =>
  if q4.1 = 0 then
  some ((0 : Int32), q4.2)
  else
  chk (decide (¬ q4.2 5 0 3 = 0 ∧ ((q4.2 5 0 3).toNatClampNeg - 1) < 5)) (
  Option.bind (f_X2_addStep ((q4.2 5 0 3).toNatClampNeg - 1) (q4.2 5 0 5) (q4.2 5 0 4) (q4.2 5 0 6) q4.2) fun q6 =>
  some ((1 : Int32), q6))
set_option maxRecDepth 4000 in
theorem i_X5_readFactor (X : Cx) (g : GT) (F : Int32 → Sg → Option (Int32 × Sg)) (fF lF : Nat) (hCF : ∀ (l : Launch) (a1 : Int32) (s0 : Sg) (r : Int32 × Sg), F a1 s0 = some r → Ct l yX5_readFactor cX5_readFactor 3 (some .boolean) fF lF g [.ref (g.2.1 5 0), .int a1] s0 (embI r)) (hF : Fx X g RX5 cX5_readFactor 3 (fF + 30) (lF + 900)) (hM : FM X g (some .boolean)) (hI : GI g) (a1 : Int32) (s0 : Sg) : Im X g 3 (Qm X g embI) s0 0 [(0, .ref (g.2.1 5 0)), (1, .int a1)] [] (f_X5_readFactor F a1 s0) := by
  unfold f_X5_readFactor
  refine im_aload_n hF dX5_readFactor_0 0 rfl ?_
  refine im_callVI hF (As := []) (rest := []) my_X5_sign mv_X5_sign wl_470 (fun l r hr => c_X5_sign l g hI  s0 r hr) ⟨by omega, by omega⟩ (by decide) (by decide) ⟨_, rfl, rfl⟩ rfl rfl (Nat.le_of_ble_eq_true rfl) dX5_readFactor_1 (fun q1 => ?_)
  refine im_istore_n hF dX5_readFactor_4 (lv' := [(2, .int q1.1), (0, .ref (g.2.1 5 0)), (1, .int a1)]) rfl (by decide) rfl ?_
  refine im_iload_n hF dX5_readFactor_5 0 rfl ?_
  refine im_bipush hF dX5_readFactor_6 (v := (33 : Int32)) (by decide) ?_
  refine im_icmp_eq hF 62 dX5_readFactor_8 (by decide) (fun _ => ?_) (fun _ => ?_)
  · refine im_sub (lv' := [(0, .ref (g.2.1 5 0)), (1, .int a1), (2, .int q1.1)]) [1, 2, 0] rfl ?_
    exact (i_X5_readFactor_B62 X g F fF lF hCF hF hM hI) a1 q1.1 q1.2
  · refine im_iload_n hF dX5_readFactor_11 0 rfl ?_
    refine im_bipush hF dX5_readFactor_12 (v := (40 : Int32)) (by decide) ?_
    refine im_icmp_eq hF 62 dX5_readFactor_14 (by decide) (fun _ => ?_) (fun _ => ?_)
    · refine im_sub (lv' := [(0, .ref (g.2.1 5 0)), (1, .int a1), (2, .int q1.1)]) [1, 2, 0] rfl ?_
      exact (i_X5_readFactor_B62 X g F fF lF hCF hF hM hI) a1 q1.1 q1.2
    · refine im_aload_n hF dX5_readFactor_17 1 rfl ?_
      refine im_callVI hF (As := []) (rest := []) my_X5_readLetter mv_X5_readLetter wl_501 (fun l r hr => c_X5_readLetter l g hI  q1.2 r hr) ⟨by omega, by omega⟩ (by decide) (by decide) ⟨_, rfl, rfl⟩ rfl rfl (Nat.le_of_ble_eq_true rfl) dX5_readFactor_18 (fun q2 => ?_)
      refine im_if_eq hF 39 dX5_readFactor_21 (by decide) (fun _ => ?_) (fun _ => ?_)
      · refine im_iconst hF dX5_readFactor_39 (v := (0 : Int32)) (by decide) ?_
        exact im_zret hF hM (by decide) dX5_readFactor_40
      · refine im_aload_n hF dX5_readFactor_24 1 rfl ?_
        refine im_callVI hF (As := []) (rest := []) my_X5_readComparison mv_X5_readComparison wl_508 (fun l r hr => c_X5_readComparison l g hI  q2.2 r hr) ⟨by omega, by omega⟩ (by decide) (by decide) ⟨_, rfl, rfl⟩ rfl rfl (Nat.le_of_ble_eq_true rfl) dX5_readFactor_25 (fun q3 => ?_)
        refine im_if_eq hF 39 dX5_readFactor_28 (by decide) (fun _ => ?_) (fun _ => ?_)
        · refine im_iconst hF dX5_readFactor_39 (v := (0 : Int32)) (by decide) ?_
          exact im_zret hF hM (by decide) dX5_readFactor_40
        · refine im_aload_n hF dX5_readFactor_31 1 rfl ?_
          refine im_iconst hF dX5_readFactor_32 (v := (1 : Int32)) (by decide) ?_
          refine im_callVI hF (As := [.int (1 : Int32)]) (rest := []) my_X5_readNumber mv_X5_readNumber wl_478 (fun l r hr => c_X5_readNumber l g hI (1 : Int32) q3.2 r hr) ⟨by omega, by omega⟩ (by decide) (by decide) ⟨_, rfl, rfl⟩ rfl rfl (Nat.le_of_ble_eq_true rfl) dX5_readFactor_33 (fun q4 => ?_)
          refine im_if_ne hF 41 dX5_readFactor_36 (by decide) (fun _ => ?_) (fun _ => ?_)
          · refine im_iconst hF dX5_readFactor_39 (v := (0 : Int32)) (by decide) ?_
            exact im_zret hF hM (by decide) dX5_readFactor_40
          · refine im_aload_n hF dX5_readFactor_41 1 rfl ?_
            refine im_chk (fun h5 => ?_)
            refine im_get hF (v := .ref (g.2.1 2 ((q4.2 5 0 3).toNatClampNeg - 1))) fl_5_34 (by decide) (by decide) (if_neg (of_decide_eq_true h5).1) dX5_readFactor_42 ?_
            refine im_aload_n hF dX5_readFactor_45 1 rfl ?_
            refine im_get hF (v := .int (q4.2 5 0 5)) fl_5_88 (by decide) (by decide) rfl dX5_readFactor_46 ?_
            refine im_aload_n hF dX5_readFactor_49 1 rfl ?_
            refine im_get hF (v := .int (q4.2 5 0 4)) fl_5_91 (by decide) (by decide) rfl dX5_readFactor_50 ?_
            refine im_aload_n hF dX5_readFactor_53 1 rfl ?_
            refine im_get hF (v := .int (q4.2 5 0 6)) fl_5_57 (by decide) (by decide) rfl dX5_readFactor_54 ?_
            refine im_callVV hF (As := [.int (q4.2 5 0 5), .int (q4.2 5 0 4), .int (q4.2 5 0 6)]) (rest := []) my_X2_addStep mv_X2_addStep wl_515 (fun l r hr => c_X2_addStep l g hI ((q4.2 5 0 3).toNatClampNeg - 1) (q4.2 5 0 5) (q4.2 5 0 4) (q4.2 5 0 6) (of_decide_eq_true h5).2 q4.2 r hr) ⟨by omega, by omega⟩ (by decide) (of_decide_eq_true h5).2 ⟨_, rfl, rfl⟩ rfl rfl (Nat.le_of_ble_eq_true rfl) dX5_readFactor_57 (fun q6 => ?_)
            refine im_iconst hF dX5_readFactor_60 (v := (1 : Int32)) (by decide) ?_
            exact im_zret hF hM (by decide) dX5_readFactor_61
theorem c_X5_readFactor (l : Launch) (g : GT) (hI : GI g) (F : Int32 → Sg → Option (Int32 × Sg)) (fF lF : Nat) (hCF : ∀ (l : Launch) (a1 : Int32) (s0 : Sg) (r : Int32 × Sg), F a1 s0 = some r → Ct l yX5_readFactor cX5_readFactor 3 (some .boolean) fF lF g [.ref (g.2.1 5 0), .int a1] s0 (embI r)) (a1 : Int32) (s0 : Sg) (r : (Int32 × Sg)) (hr : f_X5_readFactor F a1 s0 = some r) : Ct l yX5_readFactor cX5_readFactor 3 (some .boolean) (fF + 30) (lF + 900) g [.ref (g.2.1 5 0), .int a1] s0 (embI r) := ct_of (by decide) hI (Nat.le_of_ble_eq_true rfl) (fun X hF hM => i_X5_readFactor X g F fF lF hCF hF hM hI a1 s0) r hr
def f_rF : Nat → Int32 → Sg → Option (Int32 × Sg)
  | 0 => fun _ _ => none
  | n + 1 => fun a s => f_X5_readFactor (f_rF n) a s
theorem c_rF (l : Launch) (g : GT) (hI : GI g) : ∀ (n : Nat) (a1 : Int32) (s0 : Sg) (r : Int32 × Sg), f_rF n a1 s0 = some r → Ct l yX5_readFactor cX5_readFactor 3 (some .boolean) (30 * n) (900 * n) g [.ref (g.2.1 5 0), .int a1] s0 (embI r) := by
  intro n
  induction n generalizing l with
  | zero => intro a1 s0 r h; cases h
  | succ n ih => intro a1 s0 r h; exact c_X5_readFactor l g hI (f_rF n) (30 * n) (900 * n) (fun l a1 s0 r h => ih l a1 s0 r h) a1 s0 r h
def f_X2_endClause_B52 (o0 : Nat) (a1 : Int32) (a2 : Int32) (s0 : Sg) : Option Sg :=
  if a1 = (80 : Int32) then
  bdS (up3 s0 2 o0 1 a2) fun s1 =>
  some s1
  else
  some s0
set_option maxRecDepth 4000 in
theorem i_X2_endClause_B52 (X : Cx) (g : GT) (hF : Fx X g RX2 cX2_endClause 3 0 0) (hM : FM X g none) (hI : GI g) (o0 : Nat) (a1 : Int32) (a2 : Int32) (ho0 : o0 < cnt 2) (s0 : Sg) : Im X g 3 (Qm X g embV) s0 52 [(0, .ref (g.2.1 2 o0)), (1, .int a1), (2, .int a2)] [] (f_X2_endClause_B52 o0 a1 a2 s0) := by
  unfold f_X2_endClause_B52
  refine im_iload_n hF dX2_endClause_52 1 rfl ?_
  refine im_bipush hF dX2_endClause_53 (v := (80 : Int32)) (by decide) ?_
  refine im_icmp_ne hF 63 dX2_endClause_55 (by decide) (fun _ => ?_) (fun _ => ?_)
  · refine im_aload_n hF dX2_endClause_58 0 rfl ?_
    refine im_iload_n hF dX2_endClause_59 2 rfl ?_
    refine im_put hF a2 fp_2_34 (by decide) ho0 rfl rfl rfl dX2_endClause_60 ?_
    refine im_bdS (fun s1 => ?_)
    exact im_vret hF hM dX2_endClause_63
  · exact im_vret hF hM dX2_endClause_63
def f_X2_endClause (o0 : Nat) (a1 : Int32) (a2 : Int32) (s0 : Sg) : Option Sg :=
  if (12 : Int32) ≤ (s0 2 o0 0) then
  (f_X2_endClause_B52) o0 a1 a2 s0
  else
  chk (gi (s0 2 o0 0) 12) (bdS (up3 s0 18 o0 (s0 2 o0 0).toNatClampNeg a1) fun s2 =>
  chk (gi (s2 2 o0 0) 12) (bdS (up3 s2 19 o0 (s2 2 o0 0).toNatClampNeg a2) fun s4 =>
  chk (gi (s4 2 o0 0) 12) (bdS (up3 s4 20 o0 (s4 2 o0 0).toNatClampNeg (s4 2 o0 5)) fun s6 =>
  bdS (up3 s6 2 o0 0 ((s6 2 o0 0) + (1 : Int32))) fun s7 =>
  (f_X2_endClause_B52) o0 a1 a2 s7)))
set_option maxRecDepth 4000 in
theorem i_X2_endClause (X : Cx) (g : GT) (hF : Fx X g RX2 cX2_endClause 3 0 0) (hM : FM X g none) (hI : GI g) (o0 : Nat) (a1 : Int32) (a2 : Int32) (ho0 : o0 < cnt 2) (s0 : Sg) : Im X g 3 (Qm X g embV) s0 0 [(0, .ref (g.2.1 2 o0)), (1, .int a1), (2, .int a2)] [] (f_X2_endClause o0 a1 a2 s0) := by
  unfold f_X2_endClause
  refine im_aload_n hF dX2_endClause_0 0 rfl ?_
  refine im_get hF (v := .int (s0 2 o0 0)) fl_2_30 (by decide) ho0 rfl dX2_endClause_1 ?_
  refine im_bipush hF dX2_endClause_4 (v := (12 : Int32)) (by decide) ?_
  refine im_icmp_ge hF 52 dX2_endClause_6 (by decide) (fun _ => ?_) (fun _ => ?_)
  · exact (i_X2_endClause_B52 X g hF hM hI) o0 a1 a2 ho0 s0
  · refine im_aload_n hF dX2_endClause_9 0 rfl ?_
    refine im_get hF (v := .ref (g.2.1 18 o0)) fl_2_9 (by decide) ho0 rfl dX2_endClause_10 ?_
    refine im_aload_n hF dX2_endClause_13 0 rfl ?_
    refine im_get hF (v := .int (s0 2 o0 0)) fl_2_30 (by decide) ho0 rfl dX2_endClause_14 ?_
    refine im_iload_n hF dX2_endClause_17 1 rfl ?_
    refine im_iast hF ar_18 ho0 dX2_endClause_18 (fun h1 => im_bdS (fun s2 => ?_))
    refine im_aload_n hF dX2_endClause_19 0 rfl ?_
    refine im_get hF (v := .ref (g.2.1 19 o0)) fl_2_15 (by decide) ho0 rfl dX2_endClause_20 ?_
    refine im_aload_n hF dX2_endClause_23 0 rfl ?_
    refine im_get hF (v := .int (s2 2 o0 0)) fl_2_30 (by decide) ho0 rfl dX2_endClause_24 ?_
    refine im_iload_n hF dX2_endClause_27 2 rfl ?_
    refine im_iast hF ar_19 ho0 dX2_endClause_28 (fun h3 => im_bdS (fun s4 => ?_))
    refine im_aload_n hF dX2_endClause_29 0 rfl ?_
    refine im_get hF (v := .ref (g.2.1 20 o0)) fl_2_18 (by decide) ho0 rfl dX2_endClause_30 ?_
    refine im_aload_n hF dX2_endClause_33 0 rfl ?_
    refine im_get hF (v := .int (s4 2 o0 0)) fl_2_30 (by decide) ho0 rfl dX2_endClause_34 ?_
    refine im_aload_n hF dX2_endClause_37 0 rfl ?_
    refine im_get hF (v := .int (s4 2 o0 5)) fl_2_37 (by decide) ho0 rfl dX2_endClause_38 ?_
    refine im_iast hF ar_20 ho0 dX2_endClause_41 (fun h5 => im_bdS (fun s6 => ?_))
    refine im_aload_n hF dX2_endClause_42 0 rfl ?_
    refine im_dup hF dX2_endClause_43 rfl ?_
    refine im_get hF (v := .int (s6 2 o0 0)) fl_2_30 (by decide) ho0 rfl dX2_endClause_44 ?_
    refine im_iconst hF dX2_endClause_47 (v := (1 : Int32)) (by decide) ?_
    refine im_iadd hF dX2_endClause_48 ?_
    refine im_put hF ((s6 2 o0 0) + (1 : Int32)) fp_2_30 (by decide) ho0 rfl rfl rfl dX2_endClause_49 ?_
    refine im_bdS (fun s7 => ?_)
    exact (i_X2_endClause_B52 X g hF hM hI) o0 a1 a2 ho0 s7
theorem c_X2_endClause (l : Launch) (g : GT) (hI : GI g) (o0 : Nat) (a1 : Int32) (a2 : Int32) (ho0 : o0 < cnt 2) (s0 : Sg) (r : Sg) (hr : f_X2_endClause o0 a1 a2 s0 = some r) : Ct l yX2_endClause cX2_endClause 3 none 0 0 g [.ref (g.2.1 2 o0), .int a1, .int a2] s0 (embV r) := ct_of (by decide) hI (Nat.le_of_ble_eq_true rfl) (fun X hF hM => i_X2_endClause X g hF hM hI o0 a1 a2 ho0 s0) r hr
def f_X5_readClause_B102 (a2 : Int32) (a3 : Int32) (s0 : Sg) : Option (Int32 × Sg) :=
  chk (decide (¬ s0 5 0 3 = 0 ∧ ((s0 5 0 3).toNatClampNeg - 1) < 5)) (
  Option.bind (f_X2_endClause ((s0 5 0 3).toNatClampNeg - 1) a2 a3 s0) fun q2 =>
  some ((1 : Int32), q2))
set_option maxRecDepth 4000 in
theorem i_X5_readClause_B102 (X : Cx) (g : GT) (hF : Fx X g RX5 cX5_readClause 4 621 18622) (hM : FM X g (some .boolean)) (hI : GI g) (a2 : Int32) (a3 : Int32) (s0 : Sg) : Im X g 4 (Qm X g embI) s0 102 [(0, .ref (g.2.1 5 0)), (2, .int a2), (3, .int a3)] [] (f_X5_readClause_B102 a2 a3 s0) := by
  unfold f_X5_readClause_B102
  refine im_aload_n hF dX5_readClause_102 0 rfl ?_
  refine im_chk (fun h1 => ?_)
  refine im_get hF (v := .ref (g.2.1 2 ((s0 5 0 3).toNatClampNeg - 1))) fl_5_34 (by decide) (by decide) (if_neg (of_decide_eq_true h1).1) dX5_readClause_103 ?_
  refine im_iload_n hF dX5_readClause_106 1 rfl ?_
  refine im_iload_n hF dX5_readClause_107 2 rfl ?_
  refine im_callVV hF (As := [.int a2, .int a3]) (rest := []) my_X2_endClause mv_X2_endClause wl_519 (fun l r hr => c_X2_endClause l g hI ((s0 5 0 3).toNatClampNeg - 1) a2 a3 (of_decide_eq_true h1).2 s0 r hr) ⟨by decide, by decide⟩ (by decide) (of_decide_eq_true h1).2 ⟨_, rfl, rfl⟩ rfl rfl (Nat.le_of_ble_eq_true rfl) dX5_readClause_108 (fun q2 => ?_)
  refine im_iconst hF dX5_readClause_111 (v := (1 : Int32)) (by decide) ?_
  exact im_zret hF hM (by decide) dX5_readClause_112
def f_X5_readClause_B72 (a2 : Int32) (s0 : Sg) : Option (Int32 × Sg) :=
  bdI (s0 5 0 6) fun x1 =>
  if a2 = (80 : Int32) then
  (f_X5_readClause_B102) a2 x1 s0
  else
  Option.bind (f_X5_take (58 : Int32) s0) fun q2 =>
  if q2.1 = 0 then
  some ((0 : Int32), q2.2)
  else
  Option.bind (f_X5_readTest (f_rF 20) (0 : Int32) q2.2) fun q3 =>
  if q3.1 = 0 then
  some ((0 : Int32), q3.2)
  else
  (f_X5_readClause_B102) a2 x1 q3.2
set_option maxRecDepth 4000 in
theorem i_X5_readClause_B72 (X : Cx) (g : GT) (hF : Fx X g RX5 cX5_readClause 4 621 18622) (hM : FM X g (some .boolean)) (hI : GI g) (a2 : Int32) (s0 : Sg) : Im X g 4 (Qm X g embI) s0 72 [(0, .ref (g.2.1 5 0)), (2, .int a2)] [] (f_X5_readClause_B72 a2 s0) := by
  unfold f_X5_readClause_B72
  refine im_aload_n hF dX5_readClause_72 0 rfl ?_
  refine im_get hF (v := .int (s0 5 0 6)) fl_5_57 (by decide) (by decide) rfl dX5_readClause_73 ?_
  refine im_bdI (fun x1 => ?_)
  refine im_istore_n hF dX5_readClause_76 (lv' := [(3, .int x1), (0, .ref (g.2.1 5 0)), (2, .int a2)]) rfl (by decide) rfl ?_
  refine im_iload_n hF dX5_readClause_77 2 rfl ?_
  refine im_bipush hF dX5_readClause_78 (v := (80 : Int32)) (by decide) ?_
  refine im_icmp_eq hF 102 dX5_readClause_80 (by decide) (fun _ => ?_) (fun _ => ?_)
  · refine im_sub (lv' := [(0, .ref (g.2.1 5 0)), (2, .int a2), (3, .int x1)]) [1, 2, 0] rfl ?_
    exact (i_X5_readClause_B102 X g hF hM hI) a2 x1 s0
  · refine im_aload_n hF dX5_readClause_83 1 rfl ?_
    refine im_bipush hF dX5_readClause_84 (v := (58 : Int32)) (by decide) ?_
    refine im_callVI hF (As := [.int (58 : Int32)]) (rest := []) my_X5_take mv_X5_take wl_485 (fun l r hr => c_X5_take l g hI (58 : Int32) s0 r hr) ⟨by decide, by decide⟩ (by decide) (by decide) ⟨_, rfl, rfl⟩ rfl rfl (Nat.le_of_ble_eq_true rfl) dX5_readClause_86 (fun q2 => ?_)
    refine im_if_eq hF 100 dX5_readClause_89 (by decide) (fun _ => ?_) (fun _ => ?_)
    · refine im_iconst hF dX5_readClause_100 (v := (0 : Int32)) (by decide) ?_
      exact im_zret hF hM (by decide) dX5_readClause_101
    · refine im_aload_n hF dX5_readClause_92 1 rfl ?_
      refine im_iconst hF dX5_readClause_93 (v := (0 : Int32)) (by decide) ?_
      refine im_callVI hF (As := [.int (0 : Int32)]) (rest := []) my_X5_readTest mv_X5_readTest wl_489 (fun l r hr => c_X5_readTest l g hI (f_rF 20) 600 18000 (fun l a s r hr => c_rF l g hI 20 a s r hr) (0 : Int32) q2.2 r hr) ⟨by decide, by decide⟩ (by decide) (by decide) ⟨_, rfl, rfl⟩ rfl rfl (Nat.le_of_ble_eq_true rfl) dX5_readClause_94 (fun q3 => ?_)
      refine im_if_ne hF 102 dX5_readClause_97 (by decide) (fun _ => ?_) (fun _ => ?_)
      · refine im_iconst hF dX5_readClause_100 (v := (0 : Int32)) (by decide) ?_
        exact im_zret hF hM (by decide) dX5_readClause_101
      · refine im_sub (lv' := [(0, .ref (g.2.1 5 0)), (2, .int a2), (3, .int x1)]) [1, 2, 0] rfl ?_
        exact (i_X5_readClause_B102 X g hF hM hI) a2 x1 q3.2
def f_X5_readClause_B29 (a1 : Int32) (a2 : Int32) (s0 : Sg) : Option (Int32 × Sg) :=
  if a1 < (12 : Int32) then
  bdS (up3 s0 5 0 2 ((s0 5 0 2) + (1 : Int32))) fun s1 =>
  bdS (up3 s1 5 0 6 (0 : Int32)) fun s2 =>
  if a2 = (88 : Int32) then
  (f_X5_readClause_B72) a2 s2
  else
  Option.bind (f_X5_readNumber (0 : Int32) s2) fun q3 =>
  if q3.1 = 0 then
  some ((0 : Int32), q3.2)
  else
  (f_X5_readClause_B72) a2 q3.2
  else
  Option.bind (f_X5_refuse (2 : Int32) s0) fun q4 =>
  chk (b01 q4.1) (some (q4.1, q4.2))
set_option maxRecDepth 4000 in
theorem i_X5_readClause_B29 (X : Cx) (g : GT) (hF : Fx X g RX5 cX5_readClause 4 621 18622) (hM : FM X g (some .boolean)) (hI : GI g) (a1 : Int32) (a2 : Int32) (s0 : Sg) : Im X g 4 (Qm X g embI) s0 29 [(0, .ref (g.2.1 5 0)), (1, .int a1), (2, .int a2)] [] (f_X5_readClause_B29 a1 a2 s0) := by
  unfold f_X5_readClause_B29
  refine im_iload_n hF dX5_readClause_29 1 rfl ?_
  refine im_bipush hF dX5_readClause_30 (v := (12 : Int32)) (by decide) ?_
  refine im_icmp_lt hF 41 dX5_readClause_32 (by decide) (fun _ => ?_) (fun _ => ?_)
  · refine im_aload_n hF dX5_readClause_41 0 rfl ?_
    refine im_dup hF dX5_readClause_42 rfl ?_
    refine im_get hF (v := .int (s0 5 0 2)) fl_5_31 (by decide) (by decide) rfl dX5_readClause_43 ?_
    refine im_iconst hF dX5_readClause_46 (v := (1 : Int32)) (by decide) ?_
    refine im_iadd hF dX5_readClause_47 ?_
    refine im_put hF ((s0 5 0 2) + (1 : Int32)) fp_5_31 (by decide) (by decide) rfl rfl rfl dX5_readClause_48 ?_
    refine im_bdS (fun s1 => ?_)
    refine im_aload_n hF dX5_readClause_51 0 rfl ?_
    refine im_iconst hF dX5_readClause_52 (v := (0 : Int32)) (by decide) ?_
    refine im_put hF (0 : Int32) fp_5_57 (by decide) (by decide) rfl rfl rfl dX5_readClause_53 ?_
    refine im_bdS (fun s2 => ?_)
    refine im_iload_n hF dX5_readClause_56 2 rfl ?_
    refine im_bipush hF dX5_readClause_57 (v := (88 : Int32)) (by decide) ?_
    refine im_icmp_eq hF 72 dX5_readClause_59 (by decide) (fun _ => ?_) (fun _ => ?_)
    · refine im_sub (lv' := [(0, .ref (g.2.1 5 0)), (2, .int a2)]) [0, 2] rfl ?_
      exact (i_X5_readClause_B72 X g hF hM hI) a2 s2
    · refine im_aload_n hF dX5_readClause_62 0 rfl ?_
      refine im_iconst hF dX5_readClause_63 (v := (0 : Int32)) (by decide) ?_
      refine im_callVI hF (As := [.int (0 : Int32)]) (rest := []) my_X5_readNumber mv_X5_readNumber wl_478 (fun l r hr => c_X5_readNumber l g hI (0 : Int32) s2 r hr) ⟨by decide, by decide⟩ (by decide) (by decide) ⟨_, rfl, rfl⟩ rfl rfl (Nat.le_of_ble_eq_true rfl) dX5_readClause_64 (fun q3 => ?_)
      refine im_if_ne hF 72 dX5_readClause_67 (by decide) (fun _ => ?_) (fun _ => ?_)
      · refine im_iconst hF dX5_readClause_70 (v := (0 : Int32)) (by decide) ?_
        exact im_zret hF hM (by decide) dX5_readClause_71
      · refine im_sub (lv' := [(0, .ref (g.2.1 5 0)), (2, .int a2)]) [0, 2] rfl ?_
        exact (i_X5_readClause_B72 X g hF hM hI) a2 q3.2
  · refine im_aload_n hF dX5_readClause_35 0 rfl ?_
    refine im_iconst hF dX5_readClause_36 (v := (2 : Int32)) (by decide) ?_
    refine im_callVI hF (As := [.int (2 : Int32)]) (rest := []) my_X5_refuse mv_X5_refuse wl_474 (fun l r hr => c_X5_refuse l g hI (2 : Int32) s0 r hr) ⟨by decide, by decide⟩ (by decide) (by decide) ⟨_, rfl, rfl⟩ rfl rfl (Nat.le_of_ble_eq_true rfl) dX5_readClause_37 (fun q4 => ?_)
    exact im_chk (fun h5 => im_zret hF hM (b01_or h5) dX5_readClause_40)
def f_X5_readClause (a1 : Int32) (s0 : Sg) : Option (Int32 × Sg) :=
  Option.bind (f_X5_sign s0) fun q1 =>
  if q1.1 = (87 : Int32) then
  (f_X5_readClause_B29) a1 q1.1 q1.2
  else
  if q1.1 = (88 : Int32) then
  (f_X5_readClause_B29) a1 q1.1 q1.2
  else
  if q1.1 = (80 : Int32) then
  (f_X5_readClause_B29) a1 q1.1 q1.2
  else
  Option.bind (f_X5_refuse (1 : Int32) q1.2) fun q2 =>
  chk (b01 q2.1) (some (q2.1, q2.2))
set_option maxRecDepth 4000 in
theorem i_X5_readClause (X : Cx) (g : GT) (hF : Fx X g RX5 cX5_readClause 4 621 18622) (hM : FM X g (some .boolean)) (hI : GI g) (a1 : Int32) (s0 : Sg) : Im X g 4 (Qm X g embI) s0 0 [(0, .ref (g.2.1 5 0)), (1, .int a1)] [] (f_X5_readClause a1 s0) := by
  unfold f_X5_readClause
  refine im_aload_n hF dX5_readClause_0 0 rfl ?_
  refine im_callVI hF (As := []) (rest := []) my_X5_sign mv_X5_sign wl_470 (fun l r hr => c_X5_sign l g hI  s0 r hr) ⟨by decide, by decide⟩ (by decide) (by decide) ⟨_, rfl, rfl⟩ rfl rfl (Nat.le_of_ble_eq_true rfl) dX5_readClause_1 (fun q1 => ?_)
  refine im_istore_n hF dX5_readClause_4 (lv' := [(2, .int q1.1), (0, .ref (g.2.1 5 0)), (1, .int a1)]) rfl (by decide) rfl ?_
  refine im_iload_n hF dX5_readClause_5 0 rfl ?_
  refine im_bipush hF dX5_readClause_6 (v := (87 : Int32)) (by decide) ?_
  refine im_icmp_eq hF 29 dX5_readClause_8 (by decide) (fun _ => ?_) (fun _ => ?_)
  · refine im_sub (lv' := [(0, .ref (g.2.1 5 0)), (1, .int a1), (2, .int q1.1)]) [1, 2, 0] rfl ?_
    exact (i_X5_readClause_B29 X g hF hM hI) a1 q1.1 q1.2
  · refine im_iload_n hF dX5_readClause_11 0 rfl ?_
    refine im_bipush hF dX5_readClause_12 (v := (88 : Int32)) (by decide) ?_
    refine im_icmp_eq hF 29 dX5_readClause_14 (by decide) (fun _ => ?_) (fun _ => ?_)
    · refine im_sub (lv' := [(0, .ref (g.2.1 5 0)), (1, .int a1), (2, .int q1.1)]) [1, 2, 0] rfl ?_
      exact (i_X5_readClause_B29 X g hF hM hI) a1 q1.1 q1.2
    · refine im_iload_n hF dX5_readClause_17 0 rfl ?_
      refine im_bipush hF dX5_readClause_18 (v := (80 : Int32)) (by decide) ?_
      refine im_icmp_eq hF 29 dX5_readClause_20 (by decide) (fun _ => ?_) (fun _ => ?_)
      · refine im_sub (lv' := [(0, .ref (g.2.1 5 0)), (1, .int a1), (2, .int q1.1)]) [1, 2, 0] rfl ?_
        exact (i_X5_readClause_B29 X g hF hM hI) a1 q1.1 q1.2
      · refine im_aload_n hF dX5_readClause_23 1 rfl ?_
        refine im_iconst hF dX5_readClause_24 (v := (1 : Int32)) (by decide) ?_
        refine im_callVI hF (As := [.int (1 : Int32)]) (rest := []) my_X5_refuse mv_X5_refuse wl_474 (fun l r hr => c_X5_refuse l g hI (1 : Int32) q1.2 r hr) ⟨by decide, by decide⟩ (by decide) (by decide) ⟨_, rfl, rfl⟩ rfl rfl (Nat.le_of_ble_eq_true rfl) dX5_readClause_25 (fun q2 => ?_)
        exact im_chk (fun h3 => im_zret hF hM (b01_or h3) dX5_readClause_28)
theorem c_X5_readClause (l : Launch) (g : GT) (hI : GI g) (a1 : Int32) (s0 : Sg) (r : (Int32 × Sg)) (hr : f_X5_readClause a1 s0 = some r) : Ct l yX5_readClause cX5_readClause 4 (some .boolean) 621 18622 g [.ref (g.2.1 5 0), .int a1] s0 (embI r) := ct_of (by decide) hI (Nat.le_of_ble_eq_true rfl) (fun X hF hM => i_X5_readClause X g hF hM hI a1 s0) r hr
