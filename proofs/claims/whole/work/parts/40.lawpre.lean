/-! the law: its end, its start behind the constructors; the skeleton's head -/
/-! THE CLAIM OUT OF ONE WALK OF THE LAW'S BODY. Your part is whole_start (and what it stands on); all else here is the same for every law, but numbers. -/
def R_law : String := "OceanMailLaw"
def lw_P (b : Addr) (xs : List Int32) (args : Array Value) (s : State) : Prop := args = #[.ref b] ∧ s.IntsAt b xs ∧ xs.length ≤ 3072 ∧ (Jvm.Cond.and given_1 narrow_1).before args s = true
def lw_Q (_ : Array Value) (s : State) (o : Outcome) (t : State) : Prop := o = .returned (some (.int 1)) ∧ Framed s o t [] 600000 7302250
def lw_Z (below : List Frame) (a : Array Value) (s : State) : State → Prop := fun t => ∃ o, t.status = .running ∧ Ended t below o ∧ lw_Q a s o t
/-- the law's own end, with 1 on the stack, nothing written that was there before, its room as the claim has it -/
theorem lw_ret {p : Program} {l : Launch} {e : Env} {s : State} {m : MethodId} {below : List Frame} {meth : Method} {c : Code} {b : Nat} (hx : p.tables.exec = Jvm.exec) (hb : c.code = code) (hr : meth.sig.returnType = ret) (hlocks : meth.locks = false) {pc : Nat} {H : Heap} {ls : Array Slot} (hdg : decode code pc = .ok (.ireturn, 1)) : W p l e room_1 s m #[Value.ref b] below meth c H [] 600000 7302250 (lw_Z below #[Value.ref b] s) (F0 m pc ls [.int 1]) := by
  intro T hT X
  obtain ⟨fs, hret, hrun, hended, hW, hframe⟩ := X.leave (v := some (.int 1)) (hlocks := hlocks) (fun h => by rw [hr] at h; cases h)
  have hmeth' : T.vm.method? m = some meth := X.method'
  refine ⟨T.setFrames fs, ?_, .returned (some (.int 1)), hrun, hended, rfl, ⟨_, rfl⟩, hW, hframe⟩
  jvm_step X.here [X.here.top, hx, hb, hdg, hmeth', hr, ret, narrow_b1]
  (try refine ⟨rfl, ?_⟩); (try refine ⟨rfl, ?_⟩)
  first | (intro acts; rw [hret _ acts rfl rfl rfl]) | rw [hret _ _ rfl rfl rfl]
  exact Steps.refl _
/-- what holds at the law's entry: the machine, the code, the tables' words (any of lw_tbl by 'hts w (by decide +kernel)'), the script of L ints xs at the cell b, what the Statement gives of the start (any of its parts by flat_of_before) -/
def lw_At (p : Program) (s : State) (m : MethodId) (meth : Method) (c : Code) (b L : Nat) (xs : Nat → Int32) : Prop :=
  p.tables.exec = Jvm.exec ∧ c.code = code ∧ meth.sig.returnType = ret ∧ c.maxLocals = 4 ∧ s.vm.findClass R_law = some m.cls ∧ (∀ w ∈ lw_tbl, w.before #[Value.ref b] s = true) ∧ va_X b L xs s s.heap ∧ b < s.heap.size ∧ meth.locks = false ∧ (Jvm.Cond.and given_1 narrow_1).before #[Value.ref b] s = true
def QL (X : Cx) (b : Nat) : Int32 × Sg → State → Prop := match X with
  | (_, _, _, _, s, _, _, below, _, _, _, _, _) => fun r t => r.1 = 1 → lw_Z below #[Value.ref b] s t
def LM (X : Cx) (b : Nat) : Prop := match X with
  | (_, _, _, R, s, _, args, _, meth, _, A, cells, slots) => R = room_1 ∧ args = #[Value.ref b] ∧ meth.sig.returnType = ret ∧ meth.locks = false ∧ cells = 600000 ∧ slots = 7302250 ∧ A = (fun q => s.heap.size ≤ q)
theorem im_lawret {X : Cx} {g : GT} {fr lo b : Nat} {σ : Sg} {pc : Nat} {lv : List (Nat × Value)} {v : Int32} (hF : Fx X g RL cL_law 4 fr lo) (hM : LM X b) (d : decode cL_law pc = .ok (.ireturn, 1)) : Im X g 4 (QL X b) σ pc lv [.int v] (some (v, σ)) := by
  obtain ⟨p, l, e, R, s, m, args, below, meth, c, A, cells, slots⟩ := X
  obtain ⟨⟨hx, hb, hml, hown, hts⟩, hR, hI, hA, hK, hN⟩ := hF
  obtain ⟨rfl, rfl, hret, hlocks, rfl, rfl, rfl⟩ := hM
  intro r hr H locs ls hP hS hl
  cases hr
  by_cases hv : v = 1
  · subst hv
    refine va_forget (fun q hq => hS.2.2 q hq) ?_
    intro T hT X
    obtain ⟨t, h1, h2⟩ := lw_ret (H := H) (ls := ls) hx hb hret hlocks d T hT X
    exact ⟨t, h1, fun _ => h2⟩
  · intro T hT X
    exact ⟨_, Steps.refl _, fun h => absurd h hv⟩
theorem im_sld2 {ρ : Type} {X : Cx} {g : GT} {own : String} {cc : ByteArray} {nL fr lo : Nat} {Qz : ρ → State → Prop} {σ : Sg} {pc : Nat} {lv : List (Nat × Value)} {st : List Value} {o : Option ρ} (hF : Fx X g own cc nL fr lo) {b L : Nat} {xs : Nat → Int32} (hX : SX X b L xs) {x : Int32} (d : decode cc pc = .ok (.iaload, 1)) (kk : gi x L = true → Im X g nL Qz σ (pc + 1) lv (.int (xs x.toNatClampNeg) :: st) o) : Im X g nL Qz σ pc lv (.int x :: .ref b :: st) (chk (gi x L) o) := im_sld hF hX d kk
