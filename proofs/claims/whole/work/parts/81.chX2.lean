section CHX2
variable {N : Nt} {b H p t left : Nat}
def GC (N : Nt) (p t b H : Nat) (f : Nat → Option Nat) (v i j : Nat) : Prop := ∃ g c, Rd N v i j g c ∧ nP N v i = p ∧ t ≤ g ∧ Gd N b H f v j c
theorem rd_lX {v i j g c : Nat} (r : Rd N v i j g c) : lX N v i = some g ∧ cX N v j = some c := by
  have h1 := r.2.1
  have h2 := r.2.2.1
  unfold lX cX
  rw [if_pos (by omega), if_neg (by omega)]
  exact ⟨r.2.2.2.1, r.2.2.2.2⟩
theorem e_fR24 (k3 : Int32 → Int32 → Int32 → Int32 → Int32 → Int32 → Sg → Option (Int32 × Sg)) {s : Sg} {f : Nat → Option Nat} {v k : Nat} {P : Int32 × Sg → Prop} (HN : NX s N) (hp : p < 8) (ht : t ≤ 1000000) (hb : b < 8) (hH : H ≤ 1000000) (hl : left ≤ 10) (hk : k < 10) (hs : s 4 0 6 = nI k) (hR : RR s left f) (hbd : ∀ q, q < 8 → bdO (f q)) (hv : v < nN N) (hK : (∀ v' i' j', Dl (v + 1) 0 0 v' i' j' → ¬ GC N p t b H f v' i' j') → Ok (k3 (nI p) (nI t) (nI left) (nI b) (nI H) (nI (v + 1)) s) P) (hF : ∀ i j, GC N p t b H f v i j → (∀ v' i' j', Dl v i j v' i' j' → ¬ GC N p t b H f v' i' j') → P (1, noted s k v i j)) : ∀ (d i n : Nat), i + d = nG N v → d < n → (∀ v' i' j', Dl v i 0 v' i' j' → ¬ GC N p t b H f v' i' j') → Ok (f_X4_findRide_L24 k3 n (nI p) (nI t) (nI left) (nI b) (nI H) (nI v) v (nI i) s) P := by
  have K := HN.1
  have B3 := HN.2.2
  have hv10 := K.1
  have hG := K.2.1 v hv
  intro d
  induction d with
  | zero =>
    intro i n h1 h2 h3
    obtain ⟨n, rfl⟩ : ∃ m, n = m + 1 := ⟨n - 1, by omega⟩
    show Ok (f_X4_findRide_B24 _ _ _ _ _ _ _ _ _ _ _) _
    unfold f_X4_findRide_B24
    rw [(B3 v hv).1]
    refine ok_pos (by rw [nI_leI (by omega) (by omega)]; omega) ?_
    rw [nI_1]
    refine hK (fun v' i' j' hd hg => h3 v' i' j' ?_ hg)
    obtain ⟨g, c, r, -⟩ := hg
    have r1 := r.2.1
    have r2 := r.2.2.1
    unfold Dl at hd ⊢
    by_cases e : v' = v
    · subst e; omega
    · omega
  | succ d ih =>
    intro i n h1 h2 h3
    obtain ⟨n, rfl⟩ : ∃ m, n = m + 1 := ⟨n - 1, by omega⟩
    have hi : i ≤ nG N v := by omega
    obtain ⟨C1, C2, C3, C4, C5⟩ := (B3 v hv).2 i hi
    have hpi := K.2.2.1 v i hv hi
    have e1 : nI v * 7 + nI i = nI (7 * v + i) := by rw [L_7, pk_mul, nI_add, Nat.mul_comm]
    have go : (∀ j, ¬ GC N p t b H f v i j) → Ok (f_X4_findRide_L24 k3 n (nI p) (nI t) (nI left) (nI b) (nI H) (nI v) v (nI i + 1) s) P := by
      intro hn
      rw [nI_1]
      refine ih (i + 1) n (by omega) (by omega) (fun v' i' j' hd hg => ?_)
      by_cases e : v' = v ∧ i' = i
      · obtain ⟨rfl, rfl⟩ := e
        exact hn j' hg
      · refine h3 v' i' j' ?_ hg
        unfold Dl at hd ⊢
        omega
    show Ok (f_X4_findRide_B24 _ _ _ _ _ _ _ _ _ _ _) _
    unfold f_X4_findRide_B24
    rw [(B3 v hv).1]
    refine ok_neg (by rw [nI_leI (by omega) (by omega)]; omega) (ok_gi i rfl (by omega) ?_)
    rw [nI_clamp (by omega), C1]
    refine ok_ite (fun q => ?_) (fun q => ?_)
    · rw [nI_eq (by omega) (by omega)] at q
      rw [e1]
      refine ok_gi _ rfl (by omega) ?_
      rw [nI_clamp (by omega), C3]
      refine ok_ite (fun q2 => ?_) (fun q2 => ?_)
      · rw [oI_lt C5 ht] at q2
        refine go (fun j hg => ?_)
        obtain ⟨g, c, r, -, x3, -⟩ := hg
        exact q2 ⟨g, (rd_lX r).1, x3⟩
      · rw [oI_lt C5 ht] at q2
        obtain ⟨g, g1, g2⟩ := Classical.not_not.mp q2
        obtain ⟨l1, l2⟩ := lX_some g1
        obtain ⟨w, w1, w2⟩ := e_fA (i := i) HN hb hH hl hR hbd hv (nG N v - i) (i + 1) FU (by omega) (by unfold FU; omega) (by omega) (fun j' c a1 a2 => absurd a2 (by omega))
        have hA : f_X4_findAshore v (nI v) (nI i) (nI left) (nI b) (nI H) s = some (w, s) := by
          unfold f_X4_findAshore bdI
          rw [nI_1]
          exact w1
        refine ok_call hA ?_
        dsimp only
        rcases w2 with ⟨z1, z2⟩ | ⟨j0, c, z1, z2, z3, z4, z5, z6⟩
        · refine ok_pos z1 (go (fun j hg => ?_))
          obtain ⟨g', c, r, -, -, x4⟩ := hg
          exact z2 j c r.2.1 r.2.2.1 (rd_lX r).2 x4
        · subst z1
          refine ok_neg (nIm1 (by omega)) ?_
          refine ok_call (e_note hk hs) (ok_some (hF i j0 ⟨g, c, ⟨hv, z2, z3, l2, (cX_some z4).2⟩, q, g2, z5⟩ (fun v' i' j' hd hg => ?_)))
          by_cases e : v' = v ∧ i' = i
          · obtain ⟨rfl, rfl⟩ := e
            obtain ⟨g', c', r, -, -, x4⟩ := hg
            refine z6 j' c' r.2.1 ?_ (rd_lX r).2 x4
            unfold Dl at hd
            omega
          · refine h3 v' i' j' ?_ hg
            unfold Dl at hd ⊢
            omega
    · rw [nI_eq (by omega) (by omega)] at q
      refine go (fun j hg => ?_)
      obtain ⟨g, c, -, x2, -⟩ := hg
      exact q x2
theorem e_fR3 {s : Sg} {f : Nat → Option Nat} {k : Nat} (HN : NX s N) (hp : p < 8) (ht : t ≤ 1000000) (hb : b < 8) (hH : H ≤ 1000000) (hl : left ≤ 10) (hk : k < 10) (hs : s 4 0 6 = nI k) (hR : RR s left f) (hbd : ∀ q, q < 8 → bdO (f q)) (hex : ∃ v i j, GC N p t b H f v i j) : ∀ (d v n : Nat), v + d = nN N → d < n → (∀ v' i' j', Dl v 0 0 v' i' j' → ¬ GC N p t b H f v' i' j') → Ok (f_X4_findRide_L3 n (nI p) (nI t) (nI left) (nI b) (nI H) (nI v) s) (fun w => ∃ v i j, w = (1, noted s k v i j) ∧ GC N p t b H f v i j ∧ ∀ v' i' j', Dl v i j v' i' j' → ¬ GC N p t b H f v' i' j') := by
  have K := HN.1
  have hv10 := K.1
  intro d
  induction d with
  | zero =>
    intro v n h1 h2 h3
    obtain ⟨v', i', j', hg⟩ := hex
    have r := hg
    obtain ⟨g, c, r, -⟩ := r
    refine absurd hg (h3 v' i' j' ?_)
    have := r.1
    unfold Dl
    omega
  | succ d ih =>
    intro v n h1 h2 h3
    obtain ⟨n, rfl⟩ : ∃ m, n = m + 1 := ⟨n - 1, by omega⟩
    show Ok (f_X4_findRide_B3 _ _ _ _ _ _ _ _) _
    unfold f_X4_findRide_B3
    rw [HN.2.1]
    refine ok_neg (by rw [nI_leI (by omega) (by omega)]; omega) (ok_gi v rfl (by omega) ?_)
    rw [nI_clamp (by omega)]
    have hG := K.2.1 v (by omega)
    exact e_fR24 _ HN hp ht hb hH hl hk hs hR hbd (by omega) (fun h => ih (v + 1) n (by omega) (by omega) h) (fun i j a1 a2 => ⟨v, i, j, rfl, a1, a2⟩) (nG N v) 0 FU (by omega) (by unfold FU; omega) h3
theorem e_findRide {s : Sg} {f : Nat → Option Nat} {k go : Nat} (HN : NX s N) (hp : p < 8) (ht : t ≤ 1000000) (hb : b < 8) (hH : go ≤ 1000000) (hl : left ≤ 10) (hk : k < 10) (hs : s 4 0 6 = nI k) (hR : RR s left f) (hW : RowR N b go left f) (O : Opt N p t b go left) : Ok (f_X4_findRide (nI p) (nI t) (nI left) (nI b) (nI go) s) (fun w => ∃ v i j, w = (1, noted s k v i j) ∧ Lst N p t b go left v i j) := by
  have K := HN.1
  have hv10 := K.1
  unfold f_X4_findRide
  refine Ok.mono (e_fR3 HN hp ht hb hH hl hk hs hR (fun q hq => hW.bd hq) ?_ (nN N) 0 FU (by omega) (by unfold FU; omega) ?_) ?_
  · obtain ⟨v, i, j, h⟩ := gr_ex O
    exact ⟨v, i, j, (gr_class K O hW).mp h⟩
  · intro v' i' j' hd
    unfold Dl at hd
    omega
  · rintro q ⟨v, i, j, h1, h2, h3⟩
    exact ⟨v, i, j, h1, (gr_class K O hW).mpr h2, fun v' i' j' hd hg => h3 v' i' j' hd ((gr_class K O hW).mp hg)⟩
/-- the rides as they are kept in the class -/
def SR (s : Sg) : Nat → List (Nat × Nat × Nat) → Prop
  | _, [] => True
  | m, x :: r => (s 29 0 (3 * m) = nI x.1 ∧ s 29 0 (3 * m + 1) = nI x.2.1 ∧ s 29 0 (3 * m + 2) = nI x.2.2) ∧ SR s (m + 1) r
def OptN (N : Nt) (b go : Nat) : Nat → Nat → Nat → Prop
  | 0, _, _ => True
  | n + 1, p, t => Opt N p t b go n
def cAg (s' s : Sg) (k : Nat) : Prop := Ag [4, 29] s' s ∧ (∀ j, ¬ j = 6 → s' 4 0 j = s 4 0 j) ∧ ∀ m, m < 3 * k → s' 29 0 m = s 29 0 m
theorem gr_next {l v i j c go : Nat} (O : Opt N p t b go l) (h : GR N p t b go l v i j) (hc : nC N v j = some c) : OptN N b go l (nP N v j) (c + 1) := by
  obtain ⟨g, c', r, h2, h3, h4⟩ := h
  have := r.2.2.2.2
  rw [hc] at this
  have := Option.some.inj this
  subst this
  cases l with
  | zero => trivial
  | succ l =>
    rcases h4 with ⟨e, -⟩ | ⟨-, e⟩
    · omega
    · exact opt_next O r h2 h3 e
theorem e_ch48 {s0 : Sg} {go R : Nat} {L : Nat → Nat → Option Nat} (hb : b < 8) (hgo : go ≤ 100000) (HN : NX s0 N) (hRK : ∀ r, r ≤ R → RR s0 r (L r) ∧ RowR N b go r (L r)) (hR10 : R ≤ 10) : ∀ (n p t k fu : Nat) (s : Sg), n ≤ R → n + k ≤ 10 → n < fu → p < 8 → t ≤ 1000000 → OptN N b go n p t → cAg s s0 0 → s 4 0 6 = nI k → Ok (f_X4_chooseRides_L48 fu (nI b) (nI go) (nI p) (nI t) (nI n + (-1)) s) (fun s' => ∃ l, RdL N b go n p t l ∧ SR s' k l ∧ s' 4 0 6 = nI (k + n) ∧ cAg s' s k) := by
  have K := HN.1
  have hv10 := K.1
  intro n
  induction n with
  | zero =>
    intro p t k fu s h0 h1 h2 h3 h4 h5 h6 h7
    obtain ⟨fu, rfl⟩ : ∃ m, fu = m + 1 := ⟨fu - 1, by omega⟩
    show Ok (f_X4_chooseRides_B48 _ _ _ _ _ _ _) _
    unfold f_X4_chooseRides_B48
    exact ok_pos (by decide) (ok_some ⟨[], rfl, trivial, h7, Ag.rfl, fun _ _ => rfl, fun _ _ => rfl⟩)
  | succ n ih =>
    intro p t k fu s h0 h1 h2 h3 h4 h5 h6 h7
    obtain ⟨fu, rfl⟩ : ∃ m, fu = m + 1 := ⟨fu - 1, by omega⟩
    have HS : NX s N := HN.of (h6.1.sub (by decide))
    obtain ⟨r1, r2⟩ := hRK n (by omega)
    have r1' : RR s n (L n) := fun q hq => by rw [h6.1 28 (by decide)]; exact r1 q hq
    have O : Opt N p t b go n := h5
    rw [m1I]
    show Ok (f_X4_chooseRides_B48 _ _ _ _ _ _ _) _
    unfold f_X4_chooseRides_B48
    refine ok_neg (nI_pos (by omega)) ?_
    refine ok_bind (e_findRide HS h3 h4 hb (by omega) (by omega) (by omega) h7 r1' r2 O) ?_
    rintro ⟨w, s1⟩ ⟨v, i, j, e, hL⟩
    have e1 : w = 1 := congrArg Prod.fst e
    have e2 : s1 = noted s k v i j := congrArg Prod.snd e
    subst e1; subst e2
    obtain ⟨g, c, r, -⟩ := id hL.1
    have hv := r.1
    have hj := r.2.2.1
    have hG := K.2.1 v hv
    obtain ⟨C1, C2, -, C4, -⟩ := (HS.2.2 v hv).2 j hj
    have hcX := (rd_lX r).2
    have hcb := C4 c hcX
    have a0 : noted s k v i j 4 0 6 = nI k := by unfold noted; rw [up_k (by decide), up_k (by decide), up_k (by decide)]; exact h7
    have a1 : noted s k v i j 29 0 (3 * k) = nI v := by unfold noted; rw [up_j (by omega), up_j (by omega), up_s]
    have a3 : noted s k v i j 29 0 (3 * k + 2) = nI j := by unfold noted; rw [up_s]
    have a2 : noted s k v i j 29 0 (3 * k + 1) = nI i := by unfold noted; rw [up_j (by omega), up_s]
    have a4 : noted s k v i j 36 = s 36 := by unfold noted; rw [up_k (by decide), up_k (by decide), up_k (by decide)]
    have a5 : noted s k v i j 25 = s 25 := by unfold noted; rw [up_k (by decide), up_k (by decide), up_k (by decide)]
    have a6 : ∀ m, m < 3 * k → noted s k v i j 29 0 m = s 29 0 m := fun m hm => by unfold noted; rw [up_j (by omega), up_j (by omega), up_j (by omega)]
    have a7 : Ag [4, 29] (noted s k v i j) s := by
      unfold noted
      repeat refine Ag.up ?_ (by decide)
      exact Ag.rfl
    have a8 : noted s k v i j 4 = s 4 := by unfold noted; rw [up_k (by decide), up_k (by decide), up_k (by decide)]
    generalize noted s k v i j = s1 at a0 a1 a2 a3 a4 a5 a6 a7 a8 ⊢
    dsimp only
    have x0 : nI k * 3 = nI (3 * k) := by rw [L_3, pk_mul, Nat.mul_comm]
    have x2 : nI (3 * k) + 2 = nI (3 * k + 2) := by rw [L_2, nI_add]
    have x3 : nI v * 7 + nI j = nI (7 * v + j) := by rw [L_7, pk_mul, nI_add, Nat.mul_comm]
    refine ok_neg (by decide) ?_
    rw [a0, x0]
    refine ok_gi _ rfl (by omega) (ok_I ?_)
    rw [x2]
    refine ok_gi _ rfl (by omega) (ok_I ?_)
    rw [nI_clamp (show 3 * k < 2 ^ 31 by omega), nI_clamp (show 3 * k + 2 < 2 ^ 31 by omega), a1, a3]
    refine ok_gi v rfl (by omega) (ok_gi j rfl (by omega) (ok_I ?_))
    rw [x3]
    refine ok_gi _ rfl (by omega) (ok_I (ok_S ?_))
    rw [nI_clamp (show v < 2 ^ 31 by omega), nI_clamp (show j < 2 ^ 31 by omega), nI_clamp (show 7 * v + j < 2 ^ 31 by omega), a4, a5, C1, C2, hcX]
    show Ok (f_X4_chooseRides_L48 fu (nI b) (nI go) (nI (nP N v j)) (nI c + 1) (nI n + (-1)) (up3 s1 4 0 6 (nI k + 1))) _
    rw [nI_1, nI_1]
    have hcA : cAg (up3 s1 4 0 6 (nI (k + 1))) s k := ⟨a7.up (by decide), fun j hj => by rw [up_j hj, a8], fun m hm => by rw [up_k (by decide)]; exact a6 m hm⟩
    refine Ok.mono (ih (nP N v j) (c + 1) (k + 1) fu _ (by omega) (by omega) (by omega) (K.2.2.1 v j hv hj) (by omega) (gr_next O hL.1 r.2.2.2.2) ⟨?_, fun j hj => ?_, fun m hm => absurd hm (by omega)⟩ up_s) ?_
    · exact hcA.1.trans h6.1 _ (fun k hk => ⟨hk, hk⟩)
    · rw [hcA.2.1 j hj, h6.2.1 j hj]
    · rintro s' ⟨l, b1, b2, b3, b4⟩
      have b5 : ∀ m, m < 3 * (k + 1) → s' 29 0 m = s1 29 0 m := fun m hm => by rw [b4.2.2 m hm, up_k (by decide)]
      refine ⟨(v, i, j) :: l, ⟨v, i, j, c, l, rfl, hL, r.2.2.2.2, b1⟩, ⟨⟨?_, ?_, ?_⟩, b2⟩, ?_, ?_, ?_, ?_⟩
      · rw [b5 _ (by omega)]; exact a1
      · rw [b5 _ (by omega)]; exact a2
      · rw [b5 _ (by omega)]; exact a3
      · rw [b3]; congr 1; omega
      · exact b4.1.trans hcA.1 _ (fun k hk => ⟨hk, hk⟩)
      · intro z hz; rw [b4.2.1 z hz, hcA.2.1 z hz]
      · intro m hm; rw [b5 m (by omega)]; exact a6 m hm
theorem e_ch3 {s : Sg} {a h go R : Nat} {L : Nat → Nat → Option Nat} (HN : NX s N) (ha : a < 8) (hb : b < 8) (hab : ¬ a = b) (hh : h ≤ 20000) (hgo : go ≤ 100000) (hRK : RK s N b go R L) (hmin : ∀ r c, Re N r a h b c → go ≤ c) (hre : ∃ r, Re N r a h b go) : ∀ (d n fu : Nat), n + d = R → d < fu → 1 ≤ n → ¬ Re N (n - 1) a h b go → Ok (f_X4_chooseRides_L3 f_X4_chooseRides_B30 fu (nI a) (nI b) (nI h) (nI go) (nI n) s) (fun s' => ∃ n l, n ≤ 10 ∧ Opt N a h b go n ∧ RdL N b go (n + 1) a h l ∧ SR s' 0 l ∧ s' 4 0 6 = nI (n + 1) ∧ cAg s' s 0) := by
  obtain ⟨q1, q2, q3, q4, q5⟩ := hRK
  have fin : ∀ n, 1 ≤ n → n ≤ R → Re N n a h b go → ¬ Re N (n - 1) a h b go → Ok (f_X4_chooseRides_B30 (nI a) (nI b) (nI h) (nI go) (nI n) s) (fun s' => ∃ n l, n ≤ 10 ∧ Opt N a h b go n ∧ RdL N b go (n + 1) a h l ∧ SR s' 0 l ∧ s' 4 0 6 = nI (n + 1) ∧ cAg s' s 0) := by
    intro n h1 h2 h3 h4
    obtain ⟨n, rfl⟩ : ∃ m, n = m + 1 := ⟨n - 1, by omega⟩
    have O : Opt N a h b go n := ⟨h3, hmin, h4⟩
    unfold f_X4_chooseRides_B30
    refine ok_S (ok_I ?_)
    have e : nI (n + 1) - 1 = nI (n + 1) + (-1) := by rw [m1I, ← nI_1, Int32.add_sub_cancel]
    rw [e]
    have hA : cAg (up3 s 4 0 6 0) s 0 := ⟨Ag.rfl.up (by decide), fun j hj => up_j hj, fun m hm => absurd hm (by omega)⟩
    refine Ok.mono (e_ch48 hb hgo HN q4 q3 (n + 1) a h 0 FU _ h2 (by omega) (by unfold FU; omega) ha (by omega) O hA up_s) ?_
    rintro s' ⟨l, b1, b2, b3, b4⟩
    exact ⟨n, l, by omega, O, b1, b2, by rw [b3]; congr 1; omega, b4.1.trans hA.1 _ (fun k hk => ⟨hk, hk⟩), fun z hz => by rw [b4.2.1 z hz, hA.2.1 z hz], fun m hm => absurd hm (by omega)⟩
  have row : ∀ n, n ≤ R → geO (L n a) h → Re N n a h b go := by
    rintro n hn ⟨m, m1, m2⟩
    obtain ⟨-, c, y1, y2⟩ := (q4 n hn).2.1 a ha m m1
    have r1 := re_t y2 m2
    have := hmin _ _ r1
    have : c = go := by omega
    subst this
    exact r1
  intro d
  induction d with
  | zero =>
    intro n fu h1 h2 h3 h4
    obtain ⟨fu, rfl⟩ : ∃ m, fu = m + 1 := ⟨fu - 1, by omega⟩
    have : n = R := by omega
    subst this
    show Ok (f_X4_chooseRides_B3 _ _ _ _ _ _ _ _) _
    unfold f_X4_chooseRides_B3
    rw [q1]
    refine ok_pos (Int32.le_refl _) (fin n h3 (Nat.le_refl _) (row n (Nat.le_refl _) ?_) h4)
    obtain ⟨r, hr⟩ := hre
    exact q5 a h go r ha hab (Nat.le_refl _) hr
  | succ d ih =>
    intro n fu h1 h2 h3 h4
    obtain ⟨fu, rfl⟩ : ∃ m, fu = m + 1 := ⟨fu - 1, by omega⟩
    have hn : n ≤ R := by omega
    obtain ⟨w1, w2⟩ := q4 n hn
    have e1 : nI n * 8 + nI a = nI (8 * n + a) := by rw [L_8, pk_mul, nI_add, Nat.mul_comm]
    have hlf : f_X4_latestFrom (nI a) (nI n) s = some (oI (L n a), s) := by
      unfold f_X4_latestFrom
      rw [e1]
      simp only [chk, gi_nI (show 8 * n + a < 88 by omega) (by decide), if_true, nI_clamp (show 8 * n + a < 2 ^ 31 by omega), w1 a ha]
    show Ok (f_X4_chooseRides_B3 _ _ _ _ _ _ _ _) _
    unfold f_X4_chooseRides_B3
    rw [q1]
    refine ok_neg (by rw [nI_leI (by omega) (by omega)]; omega) (ok_call hlf ?_)
    dsimp only
    have hlt := oI_lt (o := L n a) (g := h) (w2.bd ha) (by omega)
    refine ok_ite (fun q => ?_) (fun q => ?_)
    · have : ¬ oI (L n a) < nI h := Int32.not_lt.mpr q
      rw [hlt, Classical.not_not] at this
      exact fin n h3 hn (row n hn this) h4
    · have hx : oI (L n a) < nI h := Int32.not_le.mp q
      rw [hlt] at hx
      rw [nI_1]
      refine ih (n + 1) fu (by omega) (by omega) (by omega) (fun hr => hx ?_)
      exact w2.2 a h go ha (Nat.le_refl _) hr
theorem e_chooseRides {s : Sg} {a h go R : Nat} {L : Nat → Nat → Option Nat} (HN : NX s N) (ha : a < 8) (hb : b < 8) (hab : ¬ a = b) (hh : h ≤ 20000) (hgo : go ≤ 100000) (hRK : RK s N b go R L) (hmin : ∀ r c, Re N r a h b c → go ≤ c) (hre : ∃ r, Re N r a h b go) : Ok (f_X4_chooseRides (nI a) (nI b) (nI h) (nI go) s) (fun s' => ∃ n l, n ≤ 10 ∧ Opt N a h b go n ∧ RdL N b go (n + 1) a h l ∧ SR s' 0 l ∧ s' 4 0 6 = nI (n + 1) ∧ cAg s' s 0) := by
  have hR := hRK.2.2.1
  have hR1 := hRK.2.1
  unfold f_X4_chooseRides
  exact e_ch3 HN ha hb hab hh hgo hRK hmin hre (R - 1) 1 FU (by omega) (by unfold FU; omega) (by omega) re_0
end CHX2
