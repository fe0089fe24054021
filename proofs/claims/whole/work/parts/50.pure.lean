/-! pure tools: numbers, guards, updates, the judgement Ok -/
theorem L_0 : (0 : Int32) = nI 0 := rfl
theorem L_1 : (1 : Int32) = nI 1 := rfl
theorem L_2 : (2 : Int32) = nI 2 := rfl
theorem L_3 : (3 : Int32) = nI 3 := rfl
theorem L_4 : (4 : Int32) = nI 4 := rfl
theorem L_5 : (5 : Int32) = nI 5 := rfl
theorem L_6 : (6 : Int32) = nI 6 := rfl
theorem L_7 : (7 : Int32) = nI 7 := rfl
theorem L_8 : (8 : Int32) = nI 8 := rfl
theorem L_9 : (9 : Int32) = nI 9 := rfl
theorem L_10 : (10 : Int32) = nI 10 := rfl
theorem L_11 : (11 : Int32) = nI 11 := rfl
theorem L_12 : (12 : Int32) = nI 12 := rfl
theorem L_13 : (13 : Int32) = nI 13 := rfl
theorem L_14 : (14 : Int32) = nI 14 := rfl
theorem L_15 : (15 : Int32) = nI 15 := rfl
theorem L_16 : (16 : Int32) = nI 16 := rfl
theorem L_17 : (17 : Int32) = nI 17 := rfl
theorem L_20 : (20 : Int32) = nI 20 := rfl
theorem L_24 : (24 : Int32) = nI 24 := rfl
theorem L_30 : (30 : Int32) = nI 30 := rfl
theorem L_31 : (31 : Int32) = nI 31 := rfl
theorem L_33 : (33 : Int32) = nI 33 := rfl
theorem L_38 : (38 : Int32) = nI 38 := rfl
theorem L_40 : (40 : Int32) = nI 40 := rfl
theorem L_41 : (41 : Int32) = nI 41 := rfl
theorem L_45 : (45 : Int32) = nI 45 := rfl
theorem L_48 : (48 : Int32) = nI 48 := rfl
theorem L_57 : (57 : Int32) = nI 57 := rfl
theorem L_58 : (58 : Int32) = nI 58 := rfl
theorem L_59 : (59 : Int32) = nI 59 := rfl
theorem L_60 : (60 : Int32) = nI 60 := rfl
theorem L_61 : (61 : Int32) = nI 61 := rfl
theorem L_62 : (62 : Int32) = nI 62 := rfl
theorem L_80 : (80 : Int32) = nI 80 := rfl
theorem L_87 : (87 : Int32) = nI 87 := rfl
theorem L_88 : (88 : Int32) = nI 88 := rfl
theorem L_100 : (100 : Int32) = nI 100 := rfl
theorem L_107 : (107 : Int32) = nI 107 := rfl
theorem L_108 : (108 : Int32) = nI 108 := rfl
theorem L_109 : (109 : Int32) = nI 109 := rfl
theorem L_116 : (116 : Int32) = nI 116 := rfl
theorem L_119 : (119 : Int32) = nI 119 := rfl
theorem L_124 : (124 : Int32) = nI 124 := rfl
theorem L_200 : (200 : Int32) = nI 200 := rfl
theorem L_255 : (255 : Int32) = nI 255 := rfl
theorem L_500 : (500 : Int32) = nI 500 := rfl
theorem L_720 : (720 : Int32) = nI 720 := rfl
theorem L_800 : (800 : Int32) = nI 800 := rfl
theorem L_1000 : (1000 : Int32) = nI 1000 := rfl
theorem L_5000 : (5000 : Int32) = nI 5000 := rfl
theorem L_9999 : (9999 : Int32) = nI 9999 := rfl
theorem L_20000 : (20000 : Int32) = nI 20000 := rfl
theorem L_1000000 : (1000000 : Int32) = nI 1000000 := rfl

theorem gi_nI {j n : Nat} (h : j < n) (hn : n < 2 ^ 31) : gi (nI j) n = true := by
  unfold gi
  rw [nI_clamp (by omega)]
  simp [nI_pos (show j < 2 ^ 31 by omega), h]
theorem up_k {σ : Sg} {k i j k' : Nat} {x : Int32} (h : ¬ k' = k) : up3 σ k i j x k' = σ k' := by
  funext a b
  unfold up3
  rw [if_neg (fun q => h q.1)]
theorem up_i {σ : Sg} {k i j i' : Nat} {x : Int32} (h : ¬ i' = i) : up3 σ k i j x k i' = σ k i' := by
  funext b
  unfold up3
  rw [if_neg (fun q => h q.2.1)]
theorem up_s {σ : Sg} {k i j : Nat} {x : Int32} : up3 σ k i j x k i j = x := by
  unfold up3
  rw [if_pos ⟨rfl, rfl, rfl⟩]
theorem up_j {σ : Sg} {k i j j' : Nat} {x : Int32} (h : ¬ j' = j) : up3 σ k i j x k i j' = σ k i j' := by
  unfold up3
  rw [if_neg (fun q => h q.2.2)]
theorem up_at {σ : Sg} {k i j j' : Nat} {x : Int32} : up3 σ k i j x k i j' = if j' = j then x else σ k i j' := by
  by_cases h : j' = j
  · subst h; rw [if_pos rfl, up_s]
  · rw [if_neg h, up_j h]
theorem up_at2 {σ : Sg} {k i j i' j' : Nat} {x : Int32} : up3 σ k i j x k i' j' = if i' = i ∧ j' = j then x else σ k i' j' := by
  unfold up3
  by_cases h : i' = i ∧ j' = j
  · rw [if_pos ⟨rfl, h.1, h.2⟩, if_pos h]
  · rw [if_neg (fun q => h q.2), if_neg h]
theorem up_row {σ : Sg} {k i j : Nat} {x : Int32} : up3 σ k i j x k i = upd (σ k i) j x := by
  funext b
  unfold up3 upd
  by_cases h : b = j
  · rw [if_pos ⟨rfl, rfl, h⟩, if_pos h]
  · rw [if_neg (fun q => h q.2.2), if_neg h]
def Ok {ρ : Type} (o : Option ρ) (P : ρ → Prop) : Prop := ∃ q, o = some q ∧ P q
theorem ok_pos {ρ : Type} {c : Prop} [Decidable c] {a b : Option ρ} {P : ρ → Prop} (h : c) (k : Ok a P) : Ok (if c then a else b) P := by rw [if_pos h]; exact k
theorem ok_neg {ρ : Type} {c : Prop} [Decidable c] {a b : Option ρ} {P : ρ → Prop} (h : ¬ c) (k : Ok b P) : Ok (if c then a else b) P := by rw [if_neg h]; exact k
theorem ok_ite {ρ : Type} {c : Prop} [Decidable c] {a b : Option ρ} {P : ρ → Prop} (k1 : c → Ok a P) (k2 : ¬ c → Ok b P) : Ok (if c then a else b) P := by
  by_cases h : c
  · exact ok_pos h (k1 h)
  · exact ok_neg h (k2 h)
theorem ok_chk {ρ : Type} {b : Bool} {o : Option ρ} {P : ρ → Prop} (h : b = true) (k : Ok o P) : Ok (chk b o) P := by unfold chk; rw [if_pos h]; exact k
theorem ok_gi {ρ : Type} {x : Int32} {n : Nat} {o : Option ρ} {P : ρ → Prop} (j : Nat) (hx : x = nI j) (hj : j < n) (k : Ok o P) (hn : n < 2 ^ 31 := by decide) : Ok (chk (gi x n) o) P := ok_chk (by rw [hx]; exact gi_nI hj hn) k
theorem ok_d {ρ : Type} {p : Prop} [Decidable p] {o : Option ρ} {P : ρ → Prop} (h : p) (k : Ok o P) : Ok (chk (decide p) o) P := ok_chk (decide_eq_true h) k
theorem ok_some {ρ : Type} {q : ρ} {P : ρ → Prop} (h : P q) : Ok (some q) P := ⟨q, rfl, h⟩
theorem ok_bind {ρ ρ' : Type} {f : Option ρ'} {ko : ρ' → Option ρ} {P : ρ → Prop} {Q : ρ' → Prop} (h : Ok f Q) (k : ∀ q, Q q → Ok (ko q) P) : Ok (Option.bind f ko) P := by
  obtain ⟨q, h1, h2⟩ := h
  rw [h1]
  exact k q h2
theorem ok_call {ρ ρ' : Type} {f : Option ρ'} {ko : ρ' → Option ρ} {P : ρ → Prop} {q : ρ'} (h : f = some q) (k : Ok (ko q) P) : Ok (Option.bind f ko) P := by
  rw [h]
  exact k
theorem ok_S {ρ : Type} {e : Sg} {b : Sg → Option ρ} {P : ρ → Prop} (k : Ok (b e) P) : Ok (bdS e b) P := k
theorem ok_I {ρ : Type} {e : Int32} {b : Int32 → Option ρ} {P : ρ → Prop} (k : Ok (b e) P) : Ok (bdI e b) P := k
theorem ok_L {ρ : Type} {e : Int64} {b : Int64 → Option ρ} {P : ρ → Prop} (k : Ok (b e) P) : Ok (bdL e b) P := k
theorem Ok.mono {ρ : Type} {o : Option ρ} {P Q : ρ → Prop} (h : Ok o P) (k : ∀ q, P q → Q q) : Ok o Q := by
  obtain ⟨q, h1, h2⟩ := h
  exact ⟨q, h1, k q h2⟩
theorem ok_eq {ρ : Type} {o : Option ρ} {q : ρ} (h : o = some q) : Ok o (fun x => x = q) := ⟨q, h, rfl⟩
theorem FUs (n : Nat) (h : n ≤ 1000000) : ∃ m, FU = m + n := ⟨1000000 - n, by unfold FU; omega⟩
theorem n_b (x : Int32) : x < 0 ∨ ∃ j : Nat, j < 2 ^ 31 ∧ x = nI j := by
  by_cases h : x < 0
  · exact Or.inl h
  · exact Or.inr (nI_of h)
/-- the two states agree but for the kinds named -/
def Ag (l : List Nat) (a b : Sg) : Prop := ∀ k, k ∉ l → a k = b k
theorem Ag.rfl {l : List Nat} {a : Sg} : Ag l a a := fun _ _ => Eq.refl _
theorem Ag.trans {l l' : List Nat} {a b c : Sg} (h : Ag l a b) (h' : Ag l' b c) (m : List Nat) (hm : ∀ k, k ∉ m → k ∉ l ∧ k ∉ l') : Ag m a c := fun k hk => (h k (hm k hk).1).trans (h' k (hm k hk).2)
theorem Ag.sub {l m : List Nat} {a b : Sg} (h : Ag l a b) (hm : ∀ k, k ∈ l → k ∈ m) : Ag m a b := fun k hk => h k (fun q => hk (hm k q))
theorem Ag.up {l : List Nat} {a b : Sg} {k i j : Nat} {x : Int32} (h : Ag l a b) (hk : k ∈ l) : Ag l (up3 a k i j x) b := fun q hq => by
  rw [up_k (k' := q) (k := k) (fun e => hq (by rw [e]; exact hk))]
  exact h q hq
/-! the tape -/
def tapeW (f : Nat → Int32) (n : Nat) (x : Int32) : Nat → Int32 := upd (upd (upd (upd f n (ushr x 24 &&& 255)) (n + 1) (ushr x 16 &&& 255)) (n + 2) (ushr x 8 &&& 255)) (n + 3) (ushr x 0 &&& 255)
theorem e_addB (k : Int32 → Int32 → Sg → Option Sg) (σ : Sg) (x : Int32) (n sh : Nat) (hn : n < 200) (hsh : sh < 32) (hs : σ 7 0 1 = nI n) {P : Sg → Prop} (h : Ok (k x (nI sh + (-8)) (up3 (up3 σ 35 0 n (ushr x (nI sh) &&& 255)) 7 0 1 (nI (n + 1)))) P) : Ok (f_X7_addBytes_B3 k x (nI sh) σ) P := by
  unfold f_X7_addBytes_B3
  rw [hs]
  refine ok_neg (nI_pos (by omega)) (ok_neg (by rw [L_200, nI_leI (by omega) (by omega)]; omega) (ok_gi n rfl hn (ok_S (ok_S ?_))))
  rw [nI_clamp (by omega), up_k (by decide), hs, nI_1]
  exact h
theorem e_addBytes (σ : Sg) (x : Int32) (n : Nat) (hn : n + 4 ≤ 200) (hs : σ 7 0 1 = nI n) : Ok (f_X7_addBytes x σ) (fun σ' => σ' 7 0 1 = nI (n + 4) ∧ σ' 35 0 = tapeW (σ 35 0) n x ∧ Ag [7, 35] σ' σ) := by
  unfold f_X7_addBytes
  obtain ⟨m, hm⟩ := FUs 5 (by decide)
  rw [hm]
  refine e_addB _ σ x n 24 (by omega) (by omega) hs ?_
  refine e_addB _ _ x (n + 1) 16 (by omega) (by omega) up_s ?_
  refine e_addB _ _ x (n + 2) 8 (by omega) (by omega) up_s ?_
  refine e_addB _ _ x (n + 3) 0 (by omega) (by omega) up_s ?_
  show Ok (f_X7_addBytes_B3 _ _ _ _) _
  unfold f_X7_addBytes_B3
  refine ok_pos (by decide) (ok_some ⟨up_s, ?_, ?_⟩)
  · unfold tapeW
    simp only [up_k (show ¬ (35 : Nat) = 7 by decide), up_row]
    rfl
  · repeat refine Ag.up ?_ (by decide)
    exact Ag.rfl
