/-! what a configuration is, without arrays: voyages, legs, meetings, contracts; the truth of it, hour by hour -/
abbrev It : Type := Int32 × Int32 × Int32
abbrev Cl : Type := Int32 × Int32 × List It
abbrev Cf : Type := Nat × (Nat → Nat) × (Nat → Nat) × (Nat → Nat → Nat) × (Nat → Nat → Nat) × (Nat → Nat → Nat → Int32) × (Nat → Nat → Option (Nat × Nat)) × (Nat → List Cl)
abbrev nv (c : Cf) : Nat := c.1
abbrev lg (c : Cf) (v : Nat) : Nat := c.2.1 v
abbrev ln (c : Cf) (v : Nat) : Nat := c.2.2.1 v
abbrev pg (c : Cf) (v i : Nat) : Nat := c.2.2.2.1 v i
abbrev pt (c : Cf) (v i : Nat) : Nat := c.2.2.2.2.1 v i
abbrev dt (c : Cf) (k v i : Nat) : Int32 := c.2.2.2.2.2.1 k v i
abbrev mt (c : Cf) (v i : Nat) : Option (Nat × Nat) := c.2.2.2.2.2.2.1 v i
abbrev ct (c : Cf) (l : Nat) : List Cl := c.2.2.2.2.2.2.2 l
/-- data: 0 table hours, 1 break hours, 2 due coming, 3 due leaving, 4 stay, 5 start, 10 + m wind, 30 + m hours of the leg -/
abbrev th (c : Cf) (v i : Nat) : Int32 := dt c 0 v i
abbrev bk (c : Cf) (v i : Nat) : Int32 := dt c 1 v i
abbrev dC (c : Cf) (v i : Nat) : Int32 := dt c 2 v i
abbrev dL (c : Cf) (v i : Nat) : Int32 := dt c 3 v i
abbrev sy (c : Cf) (v : Nat) : Int32 := dt c 4 v 0
abbrev sa (c : Cf) (v : Nat) : Int32 := dt c 5 v 0
abbrev wd (c : Cf) (m v i : Nat) : Int32 := dt c (10 + m) v i
abbrev lh (c : Cf) (m v i : Nat) : Int32 := dt c (30 + m) v i
def bI (b : Bool) : Int32 := if b then 1 else 0
def mon (h : Nat) : Nat := h / 720 % 12
def cmpI (it : It) (x : Nat → Int32) : Bool := if it.1 = 60 then decide (x it.2.1.toNatClampNeg < it.2.2) else if it.1 = 62 then decide (it.2.2 < x it.2.1.toNatClampNeg) else decide (x it.2.1.toNatClampNeg = it.2.2)
/-- one step of a test on a stack of truths, its top ahead -/
def ev1 (x : Nat → Int32) (it : It) (st : List Bool) : List Bool :=
  if it.1 = 33 then match st with
    | b :: r => (!b) :: r
    | [] => []
  else if it.1 = 38 then match st with
    | b :: a :: r => (a && b) :: r
    | r => r
  else if it.1 = 124 then match st with
    | b :: a :: r => (a || b) :: r
    | r => r
  else cmpI it x :: st
def evs (x : Nat → Int32) : List It → List Bool → List Bool
  | [], st => st
  | it :: r, st => evs x r (ev1 x it st)
def hol (x : Nat → Int32) (l : List It) : Bool := (evs x l []).headD false
/-- how deep the stack is behind it; none if it would be too small or above 31 -/
def dp1 (it : It) (k : Nat) : Option Nat := if it.1 = 33 then (if 1 ≤ k then some k else none) else if it.1 = 38 ∨ it.1 = 124 then (if 2 ≤ k then some (k - 1) else none) else if (it.1 = 60 ∨ it.1 = 61 ∨ it.1 = 62) ∧ it.2.1.toNatClampNeg < 5 ∧ ¬ it.2.1 < 0 ∧ k < 31 ∧ -10000 < it.2.2.toInt ∧ it.2.2.toInt < 10000 then some (k + 1) else none
def dps : List It → Nat → Option Nat
  | [], k => some k
  | it :: r, k => (dp1 it k).bind (dps r)
theorem dps_app (a b : List It) (k : Nat) : dps (a ++ b) k = (dps a k).bind (dps b) := by
  induction a generalizing k with
  | nil => rfl
  | cons i r ih =>
    show (dp1 i k).bind (dps (r ++ b)) = ((dp1 i k).bind (dps r)).bind (dps b)
    cases dp1 i k with
    | none => rfl
    | some q => exact ih q
theorem dp1_len {x : Nat → Int32} {it : It} {st : List Bool} {k : Nat} (h : dp1 it st.length = some k) : (ev1 x it st).length = k := by
  unfold dp1 at h
  unfold ev1
  by_cases h1 : it.1 = 33
  · rw [if_pos h1] at h ⊢
    cases st with
    | nil => simp at h
    | cons b r => simp at h ⊢; omega
  · rw [if_neg h1] at h ⊢
    by_cases h2 : it.1 = 38
    · rw [if_pos (Or.inl h2)] at h
      rw [if_pos h2]
      match st, h with
      | [], h => simp at h
      | [a], h => simp at h
      | a :: b :: r, h => simp at h ⊢; omega
    · by_cases h3 : it.1 = 124
      · rw [if_pos (Or.inr h3)] at h
        rw [if_neg h2, if_pos h3]
        match st, h with
        | [], h => simp at h
        | [a], h => simp at h
        | a :: b :: r, h => simp at h ⊢; omega
      · rw [if_neg (by rintro (q | q) <;> contradiction)] at h
        rw [if_neg h2, if_neg h3]
        split at h
        · simp at h ⊢; omega
        · cases h
theorem evs_len {x : Nat → Int32} : ∀ {l : List It} {st : List Bool} {k : Nat}, dps l st.length = some k → (evs x l st).length = k := by
  intro l
  induction l with
  | nil => intro st k h; simpa [dps, evs] using h
  | cons i r ih =>
    intro st k h
    obtain ⟨q, h1, h2⟩ := Option.bind_eq_some_iff.mp (show (dp1 i st.length).bind (dps r) = some k from h)
    show (evs x r (ev1 x i st)).length = k
    exact ih (by rw [dp1_len h1]; exact h2)
/-- a clause is in order: its test leaves one truth -/
def clok (q : Cl) : Prop := (q.1 = 87 ∨ q.1 = 88 → dps q.2.2 0 = some 1) ∧ (q.1 = 87 ∨ q.1 = 88 ∨ q.1 = 80) ∧ q.2.2.length ≤ 200
def waC (x : Nat → Int32) (l : List Cl) : Bool := l.any (fun q => decide (q.1 = 87) && decide (x 1 < q.2.1) && hol x q.2.2)
def exC (x : Nat → Int32) (l : List Cl) : Bool := l.any (fun q => decide (q.1 = 88) && hol x q.2.2)
/-- what the configuration keeps to -/
def Cok (c : Cf) : Prop := nv c ≤ 10 ∧ (∀ v, v < nv c → lg c v ≤ 6 ∧ ln c v < 4 ∧ (1 ≤ (sy c v).toInt ∧ (sy c v).toInt ≤ 48) ∧ (0 ≤ (sa c v).toInt ∧ (sa c v).toInt ≤ 5000) ∧ dL c v 0 = sa c v ∧ (∀ i, i ≤ lg c v → pt c v i < 8) ∧
    ∀ i, i < lg c v → pg c v i < 12 ∧ dC c v (i + 1) = dL c v i + th c v i ∧ dL c v (i + 1) = dC c v (i + 1) + sy c v ∧ (1 ≤ (th c v i).toInt ∧ (th c v i).toInt ≤ 9999) ∧ (0 ≤ (bk c v i).toInt ∧ (bk c v i).toInt ≤ 500) ∧ (∀ m, m < 12 → (-50 ≤ (wd c m v i).toInt ∧ (wd c m v i).toInt ≤ 50) ∧ 1 ≤ (lh c m v i).toInt ∧ (lh c m v i).toInt ≤ 20000) ∧
      ∀ u j, mt c v i = some (u, j) → u < nv c ∧ 1 ≤ j ∧ j ≤ lg c u) ∧ ∀ l, l < 4 → (ct c l).length ≤ 12 ∧ ∀ q ∈ ct c l, clok q
/-! the run: Y 0 v 0 place, 1 ready, 2 at sea, 3 comes next; Y 1 comings, 2 leavings, 3 waited, 4 nobody's, 5 + l a line's -/
def pl (Y : Sg) (v : Nat) : Nat := (Y 0 v 0).toNatClampNeg
def fW (c : Cf) (Y : Sg) (h v u j : Nat) : Nat → Int32 := fun k => match k with
  | 0 => nI h - dC c u j
  | 1 => nI h - Y 0 v 1
  | 2 => wd c (mon h) v (pl Y v)
  | 3 => bk c v (pl Y v)
  | _ => nI (mon h)
def wai (c : Cf) (h v : Nat) (Y : Sg) : Bool := match mt c v (pl Y v) with
  | none => false
  | some (u, j) => decide (Y 1 u j = -1) && waC (fW c Y h v u j) (ct c (ln c v))
def dpY (c : Cf) (h v : Nat) (Y : Sg) : Sg :=
  if Y 0 v 2 = 0 ∧ pl Y v < lg c v ∧ Y 0 v 1 ≤ nI h ∧ wai c h v Y = false then
    up3 (up3 (up3 (up3 Y 2 v (pl Y v) (nI h)) 3 v (pl Y v) (nI h - Y 0 v 1)) 0 v 2 1) 0 v 3 (nI h + lh c (mon h) v (pl Y v) + bk c v (pl Y v))
  else Y
def fX (c : Cf) (Y : Sg) (h v : Nat) : Nat → Int32 := fun k => match k with
  | 0 => if 0 < nI h - dC c v (pl Y v + 1) then nI h - dC c v (pl Y v + 1) else 0
  | 1 => Y 3 v (pl Y v)
  | 2 => wd c (mon (Y 2 v (pl Y v)).toNatClampNeg) v (pl Y v)
  | 3 => bk c v (pl Y v)
  | _ => nI (mon h)
/-- shares: of nobody (0) and of the lines (1 + l); so many hours are taken from one of them: what is left to take -/
def mn (a b : Int32) : Int32 := if b < a then b else a
def tk (S : (Nat → Int32) × Int32) (k : Nat) : (Nat → Int32) × Int32 := (upd S.1 k (S.1 k - mn (S.1 k) S.2), S.2 - mn (S.1 k) S.2)
def mkup (S : Nat → Int32) (less : Int32) (own : Nat) : Nat → Int32 := (tk (tk (tk (tk (tk (tk (S, less) 0) (1 + own)) 1) 2) 3) 4).1
def wS (S0 : Nat → Int32) (w : Int32) (ml : Option Nat) : Nat → Int32 := match ml with
  | none => S0
  | some q => upd S0 (1 + q) (S0 (1 + q) + w)
def mS (S1 : Nat → Int32) (more : Int32) (exc : Bool) (own : Nat) : Nat → Int32 := if 0 < more then (if exc then upd S1 0 (S1 0 + more) else upd S1 (1 + own) (S1 (1 + own) + more)) else mkup S1 (-more) own
def shF (S0 : Nat → Int32) (w more : Int32) (ml : Option Nat) (exc : Bool) (own : Nat) : Nat → Int32 := mS (wS S0 w ml) more exc own
def mlin (c : Cf) (v p : Nat) : Option Nat := (mt c v p).map (fun q => ln c q.1)
/-- the shares as it comes to the place behind p -/
def shs (c : Cf) (h v : Nat) (Y : Sg) : Nat → Int32 := shF (fun k => Y (4 + k) v (pl Y v)) (Y 3 v (pl Y v)) (nI h - Y 2 v (pl Y v) - th c v (pl Y v)) (mlin c v (pl Y v)) (exC (fX c Y h v) (ct c (ln c v))) (ln c v)
def arY (c : Cf) (h v : Nat) (Y : Sg) : Sg :=
  if Y 0 v 2 = 1 ∧ Y 0 v 3 = nI h then
    let i := pl Y v + 1
    let S := shs c h v Y
    up3 (up3 (up3 (up3 (up3 (up3 (up3 (up3 (up3 Y 4 v i (S 0)) 5 v i (S 1)) 6 v i (S 2)) 7 v i (S 3)) 8 v i (S 4)) 1 v i (nI h)) 0 v 0 (nI i)) 0 v 2 0) 0 v 1 (if i < lg c v ∧ nI h + sy c v < dL c v i then dL c v i else nI h + sy c v)
  else Y
def fol (f : Nat → Sg → Sg) : Nat → Sg → Sg
  | 0, Y => Y
  | n + 1, Y => f n (fol f n Y)
def hrY (c : Cf) (h : Nat) (Y : Sg) : Sg := fol (dpY c h) (nv c) (fol (arY c h) (nv c) Y)
def Y0 (c : Cf) : Sg := fun k v i => if k = 0 then (if i = 1 then sa c v else 0) else if k = 1 ∨ k = 2 then -1 else 0
def runY (c : Cf) : Nat → Sg
  | 0 => Y0 c
  | h + 1 => hrY c h (runY c h)
/-- the truth -/
def Tr (c : Cf) : Sg := runY c 20001
