/-! the calls that tell: feed, passage, wind -/
theorem PF.no {s : Sg} {c : Cf} (h : s 10 0 19 = 0) (h3 : s 3 0 2 = 1) : PF s c := ⟨Or.inl h, fun q => absurd (h.symm.trans q) (by decide), fun q => absurd (h3.symm.trans q) (by decide)⟩
section MUT
variable {s : Sg}
def btX (x : Int32) (i : Nat) : Bool := x.toBitVec.getLsbD i
theorem bx_ext {x y : Int32} (h : ∀ i, i < 32 → btX x i = btX y i) : x = y := Int32.toBitVec_inj.mp (BitVec.eq_of_getLsbD_eq (fun i hi => h i hi))
theorem bx_and (x y : Int32) (i : Nat) : btX (x &&& y) i = (btX x i && btX y i) := by unfold btX; rw [Int32.toBitVec_and, BitVec.getLsbD_and]
theorem bx_255 : ∀ i, i < 32 → btX 255 i = decide (i < 8) := by decide +kernel
theorem sx_l : ∀ n, n < 32 → ((nI n &&& 31).toBitVec.smod 32).toNat = n := by decide +kernel
theorem sx_u : ∀ n, n < 32 → (((nI n).toUInt32 &&& Int32.toUInt32 31).toBitVec % 32).toNat = n := by decide +kernel
theorem bx_ushr (n : Nat) (hn : n < 32) (x : Int32) (i : Nat) : btX ((x.toUInt32 >>> ((nI n).toUInt32 &&& Int32.toUInt32 31)).toInt32) i = btX x (n + i) := by
  show (x.toUInt32 >>> ((nI n).toUInt32 &&& Int32.toUInt32 31)).toBitVec.getLsbD i = x.toUInt32.toBitVec.getLsbD (n + i)
  rw [UInt32.toBitVec_shiftRight]
  show (x.toUInt32.toBitVec >>> (((nI n).toUInt32 &&& Int32.toUInt32 31).toBitVec % 32).toNat).getLsbD i = _
  rw [sx_u n hn, BitVec.getLsbD_ushiftRight]
theorem bx_sshr (n : Nat) (hn : n < 32) (x : Int32) {i : Nat} (hi : i < 32) : btX (x >>> (nI n &&& 31)) i = if n + i < 32 then btX x (n + i) else btX x 31 := by
  unfold btX
  rw [Int32.toBitVec_shiftRight]
  show (x.toBitVec.sshiftRight ((nI n &&& 31).toBitVec.smod 32).toNat).getLsbD i = _
  rw [sx_l n hn, BitVec.getLsbD_sshiftRight, BitVec.msb_eq_getLsbD_last]
  simp [hi]
theorem bx_b (x : Int32) : x.toInt8.toInt32 &&& 255 = x &&& 255 := by
  apply Int32.toBitVec_inj.mp
  rw [Int32.toBitVec_and, Int32.toBitVec_and, Int8.toBitVec_toInt32, Int32.toBitVec_toInt8]
  apply BitVec.eq_of_getLsbD_eq
  intro i hi
  rw [BitVec.getLsbD_and, BitVec.getLsbD_and]
  have hm : ∀ i < 32, 8 ≤ i → (255 : Int32).toBitVec.getLsbD i = false := by decide
  rcases Nat.lt_or_ge i 8 with z | z
  · rw [BitVec.getLsbD_signExtend, BitVec.getLsbD_signExtend, if_pos z, if_pos hi]
    simp only [z, hi, decide_true, Bool.true_and]
  · rw [hm i hi z]; simp
theorem byte_eq (x : Int32) (n : Nat) (hn : n ≤ 24) : vp_nar .byte ((x >>> (nI n &&& 31)).toInt8.toInt32) &&& 255 = ushr x (nI n) &&& 255 := by
  have e : vp_nar .byte ((x >>> (nI n &&& 31)).toInt8.toInt32) = (x >>> (nI n &&& 31)).toInt8.toInt32 := by
    unfold vp_nar
    rw [pk_nb]
  rw [e, bx_b]
  apply bx_ext
  intro i hi
  rw [bx_and, bx_and, bx_255 i hi]
  rcases Nat.lt_or_ge i 8 with z | z
  · rw [bx_sshr n (by omega) x hi, if_pos (by omega), show ushr x (nI n) = (x.toUInt32 >>> ((nI n).toUInt32 &&& Int32.toUInt32 31)).toInt32 from rfl, bx_ushr n (by omega)]
  · rw [decide_eq_false (by omega), Bool.and_false, Bool.and_false]
/-- one byte of the reference -/
theorem m_typ (k : Int32 → Int32 → Sg → Option Sg) {x : Int32} {n q : Nat} (hn : n < 200) (hq : q < 4) (hs : s 10 0 21 = nI n) {P : Sg → Prop} (h : Ok (k x (nI q + (-1)) (up3 (up3 s 60 0 n (vp_nar .byte ((x >>> (nI (8 * q) &&& 31)).toInt8.toInt32))) 10 0 21 (nI (n + 1)))) P) : Ok (f_X10_types_B2 k x (nI q) s) P := by
  unfold f_X10_types_B2
  rw [hs]
  refine ok_neg (nI_pos (by omega)) (ok_gi n rfl hn (ok_S (ok_S ?_)))
  rw [nI_clamp (by omega), up_k (show ¬ (10 : Nat) = 60 by decide), hs, nI_1, L_8, pk_mul]
  exact h
def tapeM (f : Nat → Int32) (n : Nat) (x : Int32) : Nat → Int32 := upd (upd (upd (upd f n (vp_nar .byte ((x >>> (nI 24 &&& 31)).toInt8.toInt32))) (n + 1) (vp_nar .byte ((x >>> (nI 16 &&& 31)).toInt8.toInt32))) (n + 2) (vp_nar .byte ((x >>> (nI 8 &&& 31)).toInt8.toInt32))) (n + 3) (vp_nar .byte ((x >>> (nI 0 &&& 31)).toInt8.toInt32))
theorem m_types {x : Int32} {n : Nat} (hn : n + 4 ≤ 200) (hs : s 10 0 21 = nI n) : Ok (f_X10_types x s) (fun s' => s' 10 0 21 = nI (n + 4) ∧ s' 60 0 = tapeM (s 60 0) n x ∧ Ag [10, 60] s' s ∧ ∀ j, ¬ j = 21 → s' 10 0 j = s 10 0 j) := by
  unfold f_X10_types
  obtain ⟨m, hm⟩ := FUs 5 (by decide)
  rw [hm]
  refine m_typ _ (q := 3) (by omega) (by omega) hs ?_
  refine m_typ _ (q := 2) (n := n + 1) (by omega) (by omega) up_s ?_
  refine m_typ _ (q := 1) (n := n + 2) (by omega) (by omega) up_s ?_
  refine m_typ _ (q := 0) (n := n + 3) (by omega) (by omega) up_s ?_
  show Ok (f_X10_types_B2 _ _ _ _) _
  unfold f_X10_types_B2
  refine ok_pos (by decide) (ok_some ⟨up_s, ?_, ?_, ?_⟩)
  · unfold tapeM
    simp only [up_k (show ¬ (60 : Nat) = 10 by decide), up_row]
  · repeat refine Ag.up ?_ (by decide)
    exact Ag.rfl
  · intro j hj
    simp only [up_j hj, up_k (show ¬ (10 : Nat) = 60 by decide)]
/-- the tapes are alike up to n -/
def TP (s : Sg) (n : Nat) : Prop := ∀ k, k < n → ∃ b, b < 256 ∧ s 35 0 k = nI b ∧ s 60 0 k &&& 255 = nI b
theorem u255 (x : Int32) : ∃ b, b < 256 ∧ x &&& 255 = nI b := by
  obtain ⟨j, j1, j2⟩ := pk_andE x (m := 255) 8 (by decide)
  exact ⟨j, by omega, j2⟩
theorem tape_4 {f g : Nat → Int32} {n : Nat} {x : Int32} (h : ∀ k, k < n → ∃ b, b < 256 ∧ f k = nI b ∧ g k &&& 255 = nI b) : ∀ k, k < n + 4 → ∃ b, b < 256 ∧ tapeW f n x k = nI b ∧ tapeM g n x k &&& 255 = nI b := by
  intro k hk
  have w : ∀ q : Nat, q ≤ 24 → ∃ b, b < 256 ∧ ushr x (nI q) &&& 255 = nI b ∧ vp_nar .byte ((x >>> (nI q &&& 31)).toInt8.toInt32) &&& 255 = nI b := by
    intro q hq
    obtain ⟨b, b1, b2⟩ := u255 (ushr x (nI q))
    exact ⟨b, b1, b2, by rw [byte_eq x q hq]; exact b2⟩
  unfold tapeW tapeM upd
  by_cases e3 : k = n + 3
  · simp only [if_pos e3]; exact w 0 (by omega)
  · simp only [if_neg e3]
    by_cases e2 : k = n + 2
    · simp only [if_pos e2]; exact w 8 (by omega)
    · simp only [if_neg e2]
      by_cases e1 : k = n + 1
      · simp only [if_pos e1]; exact w 16 (by omega)
      · simp only [if_neg e1]
        by_cases e0 : k = n
        · simp only [if_pos e0]; exact w 24 (by omega)
        · simp only [if_neg e0]; exact h k (by omega)
theorem q_feed (R : Rel s) (a1 a2 a3 a4 a5 : Int32) : Bo (f_X9_feed a1 a2 a3 a4 a5) (f_X10_feed a1 a2 a3 a4 a5) s := by
  obtain ⟨c, np, n, nm, K, o, B, hc, ⟨m, u1, u2, u3, u4⟩, R8, R9, hP⟩ := id R
  have e20 : nI m + 20 = nI (m + 20) := by rw [show (20 : Int32) = nI 20 from rfl, nI_add]
  by_cases h : m + 20 ≤ 200
  · have c1 : nI (m + 20) ≤ 200 := by rw [L_200, nI_leI (by omega) (by omega)]; exact h
    unfold Bo f_X9_feed
    rw [u2, e20]
    refine ok_pos c1 ?_
    refine ok_bind (e_addBytes s a1 m (by omega) u2) ?_
    rintro s1 ⟨x1, y1, z1⟩
    refine ok_bind (e_addBytes s1 a2 (m + 4) (by omega) x1) ?_
    rintro s2 ⟨x2, y2, z2⟩
    refine ok_bind (e_addBytes s2 a3 (m + 4 + 4) (by omega) x2) ?_
    rintro s3 ⟨x3, y3, z3⟩
    refine ok_bind (e_addBytes s3 a4 (m + 4 + 4 + 4) (by omega) x3) ?_
    rintro s4 ⟨x4, y4, z4⟩
    refine ok_bind (e_addBytes s4 a5 (m + 4 + 4 + 4 + 4) (by omega) x4) ?_
    rintro s5 ⟨x5, y5, z5⟩
    have z : Ag [7, 35] s5 s := (((z5.tr z4 (m := [7, 35]) (by decide) (by decide)).tr z3 (m := [7, 35]) (by decide) (by decide)).tr z2 (m := [7, 35]) (by decide) (by decide)).tr z1 (by decide) (by decide)
    rw [y4, y3, y2, y1] at y5
    refine ok_some ?_
    dsimp only
    rw [x5]
    have v0 : s5 10 0 21 = nI m := by rw [z 10 (by decide)]; exact u3
    unfold f_X10_feed
    rw [v0, e20]
    refine ok_pos c1 ?_
    refine ok_bind (m_types (by omega) v0) ?_
    rintro t1 ⟨p1, q1, r1, w1⟩
    refine ok_bind (m_types (by omega) p1) ?_
    rintro t2 ⟨p2, q2, r2, w2⟩
    refine ok_bind (m_types (by omega) p2) ?_
    rintro t3 ⟨p3, q3, r3, w3⟩
    refine ok_bind (m_types (by omega) p3) ?_
    rintro t4 ⟨p4, q4, r4, w4⟩
    refine ok_bind (m_types (by omega) p4) ?_
    rintro t5 ⟨p5, q5, r5, w5⟩
    have r : Ag [10, 60] t5 s5 := (((r5.tr r4 (m := [10, 60]) (by decide) (by decide)).tr r3 (m := [10, 60]) (by decide) (by decide)).tr r2 (m := [10, 60]) (by decide) (by decide)).tr r1 (by decide) (by decide)
    have w : ∀ j, ¬ j = 21 → t5 10 0 j = s 10 0 j := fun j hj => by rw [w5 j hj, w4 j hj, w3 j hj, w2 j hj, w1 j hj, z 10 (by decide)]
    rw [q4, q3, q2, q1, z 60 (by decide)] at q5
    have A : Ag [7, 35, 10, 60] t5 s := r.tr z (by decide) (by decide)
    refine ok_some ?_
    dsimp only
    refine ⟨p5.symm, cfg t5 K, np, n, nm, K, o, BK_of (fun k hk => A k (by revert k; decide)) (w 0 (by decide)) (w 1 (by decide)) (w 2 (by decide)) B, rfl, ⟨_, by omega, ?_, p5, ?_⟩, P8_of (fun k hk => A k (by revert k; decide)) (by rw [A 4 (by decide)]) (w 55 (by decide)) R8, P9_of (A 5 (by decide)) (w 22 (by decide)) (w 23 (by decide)) R9, ?_⟩
    · rw [r 7 (by decide)]; exact x5
    · rw [r 35 (by decide), y5, q5]
      exact tape_4 (tape_4 (tape_4 (tape_4 (tape_4 u4))))
    · rw [cfg_of (s := s) (fun k hk => A k (by revert k; decide)), ← hc]
      refine ⟨by rw [w 19 (by decide)]; exact hP.1, ?_, ?_⟩
      · rw [w 19 (by decide)]
        exact fun q u hu => MSv_k (fun k hk => A k (by revert k; decide)) (hP.2.1 q u hu)
      · rw [A 3 (by decide)]
        exact fun q => RX_of (fun k hk => A k (by revert k; decide)) (hP.2.2 q)
  · have c1 : ¬ nI (m + 20) ≤ 200 := by rw [L_200, nI_leI (by omega) (by omega)]; exact h
    refine bo_eq (r := -1) R ?_ ?_
    · unfold f_X9_feed; rw [u2, e20, if_neg c1]
    · unfold f_X10_feed; rw [u3, e20, if_neg c1]
end MUT
