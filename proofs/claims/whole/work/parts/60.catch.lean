/-! Methods with a table: what is thrown below is caught by name. -/
theorem Met_ofH {l : Launch} {y : MethodName} {ws ws' : List Cond} {rm : Room} {Pc : Array Value → State → Prop} {Qc : Array Value → State → Outcome → State → Prop} {mc ms : Nat} {free : Addr → Prop} {cc : ByteArray} {maxL : Nat} {ret : Option FieldType} {hh : List (Nat × Nat × Nat × Nat)}
    (hy : plainName y.cls = true) (hw : ws = Cond.codeWith y cc maxL ret hh :: ws')
    (body : ∀ p e s m args below meth c s₁, BodyLoose p l y (headSpec ws rm) cc maxL ret e s m args below meth c s₁ → c.maxLocals = maxL → c.exceptionTable.toList.map (fun h => (h.startPc, h.endPc, h.handlerPc, h.catchType)) = hh → Pc args s →
      W p l e (headSpec ws rm).room s m args below meth c s.heap [] 0 0 (MQ below Qc args s mc ms free) (entryFrame m args maxL)) : Met l y ws rm Pc Qc mc ms free := by
  refine MetFree.of_bodyS (code := cc) (maxLocals := maxL) (ret := ret) hy ?_ ?_
  · intro args s m h hn
    obtain ⟨m9, meth, c, hn9, h1, h2, h3, h4, -, h5, h6, -⟩ := Cond.codeWith_spec (atoms_spec (ws := ws) h _ (by rw [hw]; exact List.mem_cons_self))
    cases hn.symm.trans hn9
    exact ⟨meth, c, h1, h2, h3, h4, h5, h6⟩
  · intro p e s m args below meth c s₁ B hml hP _
    have hh0 : s₁.heap = s.heap := by rw [B.state]; rfl
    obtain ⟨m9, meth9, c9, hn9, h1, h2, -, -, h6, -, -, -⟩ := Cond.codeWith_spec (atoms_spec (ws := ws) B.pre _ (by rw [hw]; exact List.mem_cons_self))
    cases Option.some.inj (hn9.symm.trans B.named)
    cases Option.some.inj (h1.symm.trans B.method)
    cases Option.some.inj (h2.symm.trans (Stand.of_body B).code)
    obtain ⟨t, a1, o, b1, b2, b3⟩ := body p e s m args below meth c s₁ B hml h6 hP s₁ hh0 (Stand.of_body B)
    exact ⟨t, o, a1, b1, b2, b3⟩
section XG
variable {e : Env} {s : State} {f : JFrame} {q : Addr} {ce : Cell}
/-- one row that covers the pc; its class may still have to be resolved: then that is noted, and nothing else -/
theorem xg_row {S : State} {z : ExceptionTableEntry} {t : List ExceptionTableEntry} {k : ClassId} {Q : Handler → Pre} {E : CtlPost} {d : Bool} {acts : List Action} {ka kb : Class} (hz : covers z f.pc = true) (h0 : z.catchType ≠ 0)
    (hl : S.vm.ClassLinks e.platform f.method.cls z.catchType k) (hcell : S.heap[q]? = some ce) (hv : ce.vm = .none)
    (ha : (S.vm.noted f.method.cls z.catchType (.cls k)).classes[ce.cls]? = some ka) (hb : (S.vm.noted f.method.cls z.catchType (.cls k)).classes[k]? = some kb) :
    wp (findHandler.go f q (z :: t)) Q E e d acts S ↔ if (S.vm.noted f.method.cls z.catchType (.cls k)).assignable ce.cls k = true then Q (.found z.handlerPc) d acts (S.setVm (S.vm.noted f.method.cls z.catchType (.cls k))) else wp (findHandler.go f q t) Q E e d acts (S.setVm (S.vm.noted f.method.cls z.catchType (.cls k))) := by
  obtain ⟨h1, h2⟩ := (resolveClass_links e.toSetting hl).op (op := VmOp.resolveClass f.method.cls z.catchType) rfl
  have h3 : ((VmOp.resolveClass f.method.cls z.catchType).tables e S.vm).classes.size ≤ S.vm.classes.size := by
    rw [h2]; simp [Vm.noted]
  have h9 : (VmOp.resolveClass f.method.cls z.catchType).lands e S = .done (S.setVm (S.vm.noted f.method.cls z.catchType (.cls k))) := by
    rw [VmOp.lands_same h3, h2]
  have h4 : z.startPc ≤ f.pc ∧ f.pc < z.endPc := by simpa [covers] using hz
  clear h2 h3 hl
  generalize S.vm.noted f.method.cls z.catchType (.cls k) = vm' at ha hb h9 ⊢
  have h6 : (S.setVm vm').heap[q]? = some ce := hcell
  have h7 : (S.setVm vm').vm = vm' := rfl
  cases h8 : vm'.assignable ce.cls k <;> simp [findHandler.go, h4, h0, h9, h1, h6, hcell, hv, ha, hb, h7, h8, VmOp.dirties, VmOp.acts]
/-- the rows ahead are passed, the row x takes it; behind the search the tables are warmer -/
theorem xg_rows {x : ExceptionTableEntry} {kx : ClassId} (suf : List ExceptionTableEntry) (hx : covers x f.pc = true) (h0 : x.catchType ≠ 0) (hlx : s.vm.ClassLinks e.platform f.method.cls x.catchType kx) (hfit : s.vm.assignable ce.cls kx = true) (hv : ce.vm = .none) (hce : ∃ k, s.vm.classes[ce.cls]? = some k) (pre : List ExceptionTableEntry) :
    (∀ z ∈ pre, z.catchType ≠ 0 ∧ ∃ k, s.vm.ClassLinks e.platform f.method.cls z.catchType k ∧ s.vm.assignable ce.cls k = false) → ∀ S : State, s.WarmedH S.vm → S.heap[q]? = some ce →
      ∃ vm', s.WarmedH vm' ∧ ∀ (Q : Handler → Pre) (E : CtlPost) (d : Bool) (acts : List Action), wp (findHandler.go f q (pre ++ x :: suf)) Q E e d acts S ↔ Q (.found x.handlerPc) d acts (S.setVm vm') := by
  have one : ∀ (z : ExceptionTableEntry) (k : ClassId) (S : State), s.vm.ClassLinks e.platform f.method.cls z.catchType k → s.WarmedH S.vm →
      s.WarmedH (S.vm.noted f.method.cls z.catchType (.cls k)) ∧ S.vm.ClassLinks e.platform f.method.cls z.catchType k ∧ (∃ ka, (S.vm.noted f.method.cls z.catchType (.cls k)).classes[ce.cls]? = some ka) ∧ ∃ kb, (S.vm.noted f.method.cls z.catchType (.cls k)).classes[k]? = some kb := by
    intro z k S hl hW
    obtain ⟨dk, _, _, kt, hd, _, _, _, _, hkt, _, hopen⟩ := hl.here
    have hW' := hW.noted hd hopen (State.rightAt_cls hl)
    obtain ⟨k0, hk0⟩ := hce
    obtain ⟨ka, hka, -⟩ := hW'.alike.2.2 _ _ hk0
    obtain ⟨kb, hkb, -⟩ := hW'.alike.2.2 _ _ hkt
    exact ⟨hW', hW.classLinks hl, ⟨ka, hka⟩, ⟨kb, hkb⟩⟩
  induction pre with
  | nil =>
    intro _ S hW hcell
    obtain ⟨hW', hl, ⟨ka, ha⟩, ⟨kb, hb⟩⟩ := one x kx S hlx hW
    refine ⟨_, hW', fun Q E d acts => ?_⟩
    rw [List.nil_append, xg_row hx h0 hl hcell hv ha hb, if_pos (by rw [hW'.alike.assignable]; exact hfit)]
  | cons z t ih =>
    intro hp S hW hcell
    have hp' := fun y hy => hp y (List.mem_cons_of_mem z hy)
    obtain ⟨z0, k, hl0, hno⟩ := hp z List.mem_cons_self
    cases hz : covers z f.pc with
    | false =>
      obtain ⟨vm', hW', h⟩ := ih hp' S hW hcell
      exact ⟨vm', hW', fun Q E d acts => by rw [List.cons_append, Jvm.W.findHandler_go_skip hz]; exact h Q E d acts⟩
    | true =>
      obtain ⟨hW1, hl, ⟨ka, ha⟩, ⟨kb, hb⟩⟩ := one z k S hl0 hW
      obtain ⟨vm', hW', h⟩ := ih hp' (S.setVm (S.vm.noted f.method.cls z.catchType (.cls k))) hW1 hcell
      refine ⟨vm', hW', fun Q E d acts => ?_⟩
      rw [List.cons_append, xg_row hz z0 hl hcell hv ha hb, if_neg (by rw [hW1.alike.assignable, hno]; decide)]
      exact h Q E d acts
/-- the step from the note to the handler, where the search has left warmer tables -/
theorem xg_step {tb : Tables} {T : State} {g : JFrame} {c : Code} {below : List Frame} {pc : Nat} {vm' : Vm} (h : At T g.method c below)
    (hfind : ∀ (Q : Handler → Pre) (E : CtlPost) (d : Bool) (acts : List Action), wp (findHandler g q) Q E e d acts ((T.setTop g).pushFrame (.throwing q)) ↔ Q (.found pc) d acts (((T.setTop g).pushFrame (.throwing q)).setVm vm')) :
    Steps tb e below ((T.setTop g).pushFrame (.throwing q)) ((T.setVm vm').setTop { g with pc := pc, stack := [.ref q] }) := by
  obtain ⟨hgo, hw⟩ := h.throwing q
  have hone : (stepThrowing e ((T.setTop g).pushFrame (.throwing q)) q (.java g :: T.frames.tail)).1 = (((T.setTop g).pushFrame (.throwing q)).setFrames (.java { g with pc := pc, stack := [.ref q] } :: T.frames.tail)).setVm vm' := by
    simp only [stepThrowing, searchFrame, vmDo]
    generalize hr : Sem.go _ e false [] ((T.setTop g).pushFrame (.throwing q)) = res
    obtain ⟨as, rfl, -⟩ := Sem.eq_ok_of hr (a := Handler.found pc) (s' := ((T.setTop g).pushFrame (.throwing q)).setVm vm') (acts' := []) (by simp [hfind _ _ _ _])
    rfl
  obtain ⟨g0, hg0⟩ := Option.isSome_iff_exists.mp h.top
  obtain ⟨r, hr⟩ := State.topJava?_eq_some.mp hg0
  have hr' : (T.setVm vm').frames = .java g0 :: r := hr
  refine Steps.head hgo hw ?_
  rw [stepThread_throwing (frames_entered h.top _), hone, State.pushFrame, State.setFrames_setFrames, State.setTop_of_frames _ hr, State.setFrames_setFrames, State.setTop_of_frames _ hr', hr]
  exact Steps.refl _
end XG
section XH
variable {p : Program} {l : Launch} {e : Env} {R : Room} {s : State} {m : MethodId} {args : Array Value} {below : List Frame} {meth : Method} {c : Code} {H : Heap} {locs : List Loc} {cells slots : Nat} {Q : State → Prop} {pc : Nat} {ls : Array Slot} {st0 rest : List Value}
/-- the frame g with q thrown over it -/
def XW (p : Program) (l : Launch) (e : Env) (R : Room) (s : State) (m : MethodId) (args : Array Value) (below : List Frame) (meth : Method) (c : Code) (H : Heap) (locs : List Loc) (cells slots : Nat) (Q : State → Prop) (g : JFrame) (q : Addr) : Prop :=
  ∀ T : State, T.heap = H → Stand p l e R s m args below meth c T locs cells slots → ∃ t, Steps p.tables e below ((T.setTop g).pushFrame (.throwing q)) t ∧ Q t
theorem x_caught {own name E : String} {ce : Cell} {q : Addr} {tgt : Nat} (hown : s.vm.findClass own = some m.cls) (pre : List ExceptionTableEntry) (x : ExceptionTableEntry) (suf : List ExceptionTableEntry) (hsplit : c.exceptionTable.toList = pre ++ x :: suf)
    (hpass : ∀ z ∈ pre, z.catchType ≠ 0 ∧ ∃ nm : String, (Cond.classLink own z.catchType nm).before args s = true ∧ va_Nc E nm s) (hx : covers x pc = true) (h0 : x.catchType ≠ 0)
    (hlink : (Cond.classLink own x.catchType name).before args s = true) (hcast : va_Nw (.castable E name) s) (hcell : H[q]? = some ce) (hv : ce.vm = .none) (hcl : s.vm.findClass E = some ce.cls) (htgt : x.handlerPc = tgt)
    (k : W p l e R s m args below meth c H locs cells slots Q (F0 m tgt ls [.ref q])) : XW p l e R s m args below meth c H locs cells slots Q (F0 m pc ls rest) q := by
  intro T hT X
  subst htgt
  have hpl : e.platform.magicAccessors = ({} : Platform).magicAccessors := by rw [X.admits.platform]
  obtain ⟨c3, c4, hc3, hc4, hasg⟩ := Cond.castable_spec hcast
  cases Option.some.inj (hc3.symm.trans hcl)
  obtain ⟨c5, hc5, hcl5⟩ := Cond.classLink_spec hown hlink e.platform hpl
  cases Option.some.inj (hc4.symm.trans hc5)
  obtain ⟨vm', hW', hfind⟩ := xg_rows (e := e) (s := s) (f := F0 m pc ls rest) (q := q) (ce := ce) suf hx h0 hcl5 hasg hv (by obtain ⟨k9, h9, -⟩ := Vm.findClass_spec hcl; exact ⟨k9, h9⟩) pre
    (fun z hz => by
      obtain ⟨hz0, nm, hl1, hn1⟩ := hpass z hz
      obtain ⟨c6, hc6, hcl6⟩ := Cond.classLink_spec hown hl1 e.platform hpl
      obtain ⟨a8, b8, h1, h2, h3⟩ := hn1
      cases Option.some.inj (h1.symm.trans hcl)
      cases Option.some.inj (h2.symm.trans hc6)
      exact ⟨hz0, _, hcl6, h3⟩) ((T.setTop (F0 m pc ls rest)).pushFrame (.throwing q)) (by rw [Stand.throwing_vm]; exact X.warmed) (by rw [Stand.throwing_heap, hT]; exact hcell)
  have h9 := X.here.code
  rw [State.code?_eq] at h9
  cases hm9 : T.vm.method? m with
  | none => rw [hm9] at h9; cases h9
  | some meth9 =>
    rw [hm9] at h9
    have hc9 : meth9.code = some c := h9
    obtain ⟨t, a1, b1⟩ := k (T.setVm vm') hT (X.noted hW')
    exact ⟨t, (xg_step (g := F0 m pc ls rest) X.here (fun Q E d acts => (Jvm.W.findHandler_eq (by rw [Stand.throwing_vm]; exact hm9) hc9).trans (by rw [hsplit]; exact hfind Q E d acts))).trans a1, b1⟩
theorem x_tryI {a : Array Value} {S : Type} {post : Int32 → S → Prop} {B : S → State → Prop} {A0 A1 : Nat → Prop} {EX : String → Prop} {free : Addr → Prop} {H0 : Heap}
    (hr : XRun p l e R s m args below meth c H locs cells slots (F0 m pc ls st0) rest (va_Qi post B A1 a) EX free) (hS : va_S A0 H0 H locs) (hA : ∀ q, q < H.size → A1 q → A0 q) (hf : ∀ q, free q → A0 q)
    (kr : ∀ (r : Int32) (u : S) (t : State) (H1 : Heap) (locs1 : List Loc), t.heap = H1 → s.vm.Alike t.vm → post r u → B u t → H.size ≤ H1.size → (∀ q : Nat, q < H.size → ¬ A1 q → H1[q]? = H[q]?) → va_S A0 H0 H1 locs1 → W p l e R s m args below meth c H1 locs1 cells slots Q (F0 m (pc + 3) ls (.int r :: rest)))
    (kx : ∀ (E : String) (q : Addr) (ce : Cell) (H1 : Heap), EX E → H.size ≤ H1.size → (∀ i : Nat, i < H.size → H1[i]? = H[i]?) → H1[q]? = some ce → ce.vm = .none → s.vm.findClass E = some ce.cls → XW p l e R s m args below meth c H1 locs (cells + 1) (slots + 6) Q (F0 m pc ls rest) q) : W p l e R s m args below meth c H locs cells slots Q (F0 m pc ls st0) := by
  intro T hT X
  rcases hr T hT X with ⟨v, st₀, t, T', L, h0, X', hL, e1, e2, ⟨⟨r, u, hv, hp, hb⟩, hz, hk⟩, st⟩ | ⟨q, E, ce, T', hE0, X', k1, k2, k3, k4, k5, st⟩
  · cases hv
    rw [h0] at hz hk
    obtain ⟨t2, a1, b1⟩ := kr r u t T'.heap (locs ++ L) e1.symm (by rw [← e2]; exact X'.warmed.alike) hp hb (by rw [e1]; exact hz) (fun q h1 h2 => by rw [e1]; exact hk q h1 h2)
      ⟨Nat.le_trans hS.1 (by rw [e1]; exact hz), fun q h1 h2 => by rw [e1, hk q (Nat.lt_of_lt_of_le h1 hS.1) (fun z => h2 (hA q (Nat.lt_of_lt_of_le h1 hS.1) z))]; exact hS.2.1 q h1 h2, fun q hq => by
        rcases List.mem_append.mp hq with h | h
        · exact hS.2.2 q h
        · exact hf _ (hL q h)⟩ T' rfl X'
    exact ⟨t2, st.trans a1, b1⟩
  · obtain ⟨t2, a1, b1⟩ := kx E q ce T'.heap hE0 k1 k2 k3 k4 k5 T' rfl X'
    exact ⟨t2, st.trans a1, b1⟩
theorem tab1 {c : Code} {a1 a2 a3 a4 : Nat} (h : c.exceptionTable.toList.map (fun h => (h.startPc, h.endPc, h.handlerPc, h.catchType)) = [(a1, a2, a3, a4)]) : ∃ x : ExceptionTableEntry, c.exceptionTable.toList = [] ++ x :: [] ∧ (∀ pc, a1 ≤ pc → pc < a2 → covers x pc = true) ∧ x.handlerPc = a3 ∧ x.catchType = a4 := by
  generalize c.exceptionTable.toList = L at h
  match L, h with
  | [x], h =>
    simp only [List.map_cons, List.map_nil, List.cons.injEq, Prod.mk.injEq, and_true] at h
    obtain ⟨h1, h2, h3, h4⟩ := h
    exact ⟨x, rfl, fun pc p1 p2 => by simp [covers, h1, h2, p1, p2], h3, h4⟩
theorem tab2 {c : Code} {a1 a2 a3 a4 b1 b2 b3 b4 : Nat} (h : c.exceptionTable.toList.map (fun h => (h.startPc, h.endPc, h.handlerPc, h.catchType)) = [(a1, a2, a3, a4), (b1, b2, b3, b4)]) : ∃ x y : ExceptionTableEntry, c.exceptionTable.toList = [x, y] ∧ (∀ pc, a1 ≤ pc → pc < a2 → covers x pc = true) ∧ x.handlerPc = a3 ∧ x.catchType = a4 ∧ (∀ pc, b1 ≤ pc → pc < b2 → covers y pc = true) ∧ y.handlerPc = b3 ∧ y.catchType = b4 := by
  generalize c.exceptionTable.toList = L at h
  match L, h with
  | [x, y], h =>
    simp only [List.map_cons, List.map_nil, List.cons.injEq, Prod.mk.injEq, and_true] at h
    obtain ⟨⟨h1, h2, h3, h4⟩, g1, g2, g3, g4⟩ := h
    exact ⟨x, y, rfl, fun pc p1 p2 => by simp [covers, h1, h2, p1, p2], h3, h4, fun pc p1 p2 => by simp [covers, g1, g2, p1, p2], g3, g4⟩
end XH
/-- the start of the law's own methods that catch -/
abbrev PPH (dC : Nat → ClassId) (dI : Nat → Nat → Nat) (tys : List (ClassId × FieldType)) (av : List Value) (sz : Nat) (ws : va_W) : Array Value → State → Prop := va_Pc av (fun U => U.heap.size = sz ∧ va_P (dC, dI) vwCl ws U.heap ∧ va_K (dC, dI) vwCl tys U ∧ va_D (fun _ => True) ws ∧ NX U ∧ TX (va_A ws sz) U U.heap ∧ va_Nc xIS xIA U)
theorem PPH_blind {dC : Nat → ClassId} {dI : Nat → Nat → Nat} {tys : List (ClassId × FieldType)} {av : List Value} {sz : Nat} {ws : va_W} : FrameBlind (PPH dC dI tys av sz ws) := fun a U g mk q => by
  obtain ⟨q0, q1, qP, qK, qD, qN, qX, qC⟩ := q
  exact ⟨q0, q1, qP, va_K.moved (u := U) (U := U.calling g mk a) (Vm.Alike.refl U.vm) qK, qD, NX.same (s := U) rfl qN, qX.calling, va_Nc.moved (u := U) (U := U.calling g mk a) (Vm.Alike.refl U.vm) qC⟩
theorem PPH_at {s U : State} {H : Heap} {A : Nat → Prop} {locs : List Loc} {dC : Nat → ClassId} {dI : Nat → Nat → Nat} {tys : List (ClassId × FieldType)} {av : List Value} {wc : va_W} (hK : va_K (dC, dI) vwCl tys s) (hN : NX s) (hX : TX A s s.heap) (hC : va_Nc xIS xIA s) (hS : va_S A s.heap H locs) (hPc : va_P (dC, dI) vwCl wc H) (hDc : va_D A wc) (hFc : ∀ q, va_A wc H.size q → A q) (hU : U.heap = H) (hW : s.WarmedH U.vm) : PPH dC dI tys av H.size wc av.toArray U := ⟨rfl, by rw [hU], by rw [hU]; exact hPc, va_K.moved hW.alike hK, hDc.weaken (fun _ _ _ _ => trivial), hN.warm hW, hX.at hW hU (fun q h1 h2 => hS.2.1 q h1 h2) hFc, hC.moved hW.alike⟩
