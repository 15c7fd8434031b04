/-! What a throw needs beside the good words: words of the tables that stay as they warm (declares, castable), the texts, Throwable's two statics (a reference or null, in a cell that nobody writes). -/
abbrev xIA : String := "java/lang/IllegalArgumentException"
abbrev xIS : String := "java/lang/IllegalStateException"
abbrev xup : List String := ["java/lang/RuntimeException", "java/lang/Exception"]
abbrev xT : String := "java/lang/Throwable"
abbrev xsd : String := "[Ljava/lang/StackTraceElement;"
abbrev xld : String := "Ljava/util/List;"
def xk (E : String) : Nat := if E = "java/lang/IllegalArgumentException" then 1 else if E = "java/lang/IllegalStateException" then 2 else 0
def xside : List Cond := [.declares ⟨"java/lang/RuntimeException", "<init>", "(Ljava/lang/String;)V"⟩, .declares ⟨"java/lang/Exception", "<init>", "(Ljava/lang/String;)V"⟩, .declares ⟨"java/lang/Throwable", "<init>", "(Ljava/lang/String;)V"⟩, .castable "java/lang/IllegalArgumentException" "java/lang/IllegalArgumentException", .castable "java/lang/IllegalStateException" "java/lang/IllegalStateException"]
def xtext : List (Nat × String) := [(294, "a point is out of 0 .. 500"), (290, "a number is out of its bounds"), (90, "the thickness is odd"), (95, "both ends are one, or the line stands askew"), (102, "there are 20 lines"), (296, "there is no such line"), (146, "from is not below to"), (151, "the line has 6 doors"), (157, "there were 100 runs"), (304, "there was no run since the lines came or were moved"), (298, "there is no such space"), (302, "there is no such ring"), (249, "k is below 0"), (265, "there is no such loose end"), (282, "old is below 0")]
def zL (n d : String) (A : Nat → Prop) (U : State) (H : Heap) : Prop := ∃ (c : ClassId) (k : Class) (i : Nat) (f : Field) (a : Nat) (cell : Cell), U.vm.findClass xT = some c ∧ U.fieldFound? xT n d = some (c, k, i, f) ∧ f.isStatic = true ∧ k.statics = some a ∧ H[a]? = some cell ∧ cell.vm.isStatics = true ∧ cell.cls = c ∧ f.slot < cell.slots.size ∧ k.staticTypes[f.slot]? = some f.type ∧ ¬ A a
def TX (A : Nat → Prop) (U : State) (H : Heap) : Prop :=
  (∀ w ∈ xside, va_Nw w U) ∧ (∀ q ∈ xtext, ∃ sa, vk_R "SpaceCycles" q.1 q.2 sa U) ∧ (va_Zq xT "UNASSIGNED_STACK" xsd A U H ∧ zL "UNASSIGNED_STACK" xsd A U H) ∧ (va_Zq xT "SUPPRESSED_SENTINEL" xld A U H ∧ zL "SUPPRESSED_SENTINEL" xld A U H)
theorem zL.moved {n d : String} {A : Nat → Prop} {u U : State} {H : Heap} (hvm : u.vm.Alike U.vm) (h : zL n d A u H) : zL n d A U H := by
  obtain ⟨c, k, i, f, a, cell, h1, h2, h3, h4, h5, h6, h7, h8, h9, h10⟩ := h
  obtain ⟨k', hi', he⟩ := State.fieldFound?_setVm hvm h2
  exact ⟨c, k', i, f, a, cell, by rw [hvm.findClass]; exact h1, hi', h3, by rw [he]; exact h4, h5, h6, h7, h8, by rw [he]; exact h9, h10⟩
theorem zL.kept {n d : String} {A : Nat → Prop} {U : State} {H H1 : Heap} (h : zL n d A U H) (hq : ∀ a : Nat, a < H.size → ¬ A a → H1[a]? = H[a]?) : zL n d A U H1 := by
  obtain ⟨c, k, i, f, a, cell, h1, h2, h3, h4, h5, h6, h7, h8, h9, h10⟩ := h
  exact ⟨c, k, i, f, a, cell, h1, h2, h3, h4, by rw [hq a (Array.getElem?_eq_some_iff.mp h5).1 h10]; exact h5, h6, h7, h8, h9, h10⟩
theorem zL.narrow {n d : String} {A B : Nat → Prop} {U : State} {H : Heap} (h : zL n d A U H) (hAB : ∀ q, B q → A q) : zL n d B U H := by
  obtain ⟨c, k, i, f, a, cell, h1, h2, h3, h4, h5, h6, h7, h8, h9, h10⟩ := h
  exact ⟨c, k, i, f, a, cell, h1, h2, h3, h4, h5, h6, h7, h8, h9, fun z => h10 (hAB _ z)⟩
theorem xside_on : ∀ w ∈ xside, w.onTables = true ∧ ((∃ x, w = Cond.declares x) ∨ ∃ a b, w = Cond.castable a b) := by
  intro w hw
  simp only [xside, List.mem_cons, List.not_mem_nil, or_false] at hw
  rcases hw with rfl | rfl | rfl | rfl | rfl
  · exact ⟨rfl, Or.inl ⟨_, rfl⟩⟩
  · exact ⟨rfl, Or.inl ⟨_, rfl⟩⟩
  · exact ⟨rfl, Or.inl ⟨_, rfl⟩⟩
  · exact ⟨rfl, Or.inr ⟨_, _, rfl⟩⟩
  · exact ⟨rfl, Or.inr ⟨_, _, rfl⟩⟩
/-- to a callee's entry: the tables warmer, the heap other in A alone, the callee's cells among A's -/
theorem TX.at {A B : Nat → Prop} {s U : State} {H : Heap} (h : TX A s s.heap) (hW : s.WarmedH U.vm) (hU : U.heap = H) (hq : ∀ a : Nat, a < s.heap.size → ¬ A a → H[a]? = s.heap[a]?) (hAB : ∀ q, B q → A q) : TX B U U.heap := by
  obtain ⟨h1, h2, ⟨h3, h4⟩, h5, h6⟩ := h
  rw [hU]
  refine ⟨fun w hw => ?_, fun q hq => ?_, ⟨((va_Zq.moved hW.alike h3).kept hq).narrow hAB, ((zL.moved hW.alike h4).kept hq).narrow hAB⟩, ((va_Zq.moved hW.alike h5).kept hq).narrow hAB, ((zL.moved hW.alike h6).kept hq).narrow hAB⟩
  · rcases (xside_on w hw).2 with ⟨x, rfl⟩ | ⟨a, b, rfl⟩
    · exact va_Nw.warmD hW (h1 _ hw)
    · exact va_Nw.warmC hW (h1 _ hw)
  · obtain ⟨sa, h⟩ := h2 q hq
    exact ⟨sa, h.warm hW⟩
theorem TX.calling {A : Nat → Prop} {U : State} {g : JFrame} {mk : MethodId} {a : Array Value} (h : TX A U U.heap) : TX A (U.calling g mk a) (U.calling g mk a).heap := by
  obtain ⟨h1, h2, ⟨h3, h4⟩, h5, h6⟩ := h
  refine ⟨fun w hw => va_Nw.same (u := U) (xside_on w hw).1 rfl (h1 w hw), fun q hq => ?_, ⟨va_Zq.moved (u := U) (U := U.calling g mk a) (Vm.Alike.refl U.vm) h3, zL.moved (u := U) (U := U.calling g mk a) (Vm.Alike.refl U.vm) h4⟩, va_Zq.moved (u := U) (U := U.calling g mk a) (Vm.Alike.refl U.vm) h5, zL.moved (u := U) (U := U.calling g mk a) (Vm.Alike.refl U.vm) h6⟩
  obtain ⟨sa, h⟩ := h2 q hq
  exact ⟨sa, vk_R.same (u := U) rfl h⟩
theorem zL.word {n d : String} {A : Nat → Prop} {s : State} {args : Array Value} (h : zL n d A s s.heap) : (Cond.laysStatic xT n d).before args s = true := by
  obtain ⟨c, k, i, f, a, cell, h1, h2, h3, h4, h5, h6, h7, h8, h9, -⟩ := h
  show (Cond.laysStatic xT n d).holds args s none s [] = true
  exact Cond.laysStatic_of h1 h2 h3 h4 h5 h6 h7 h8 h9
theorem zq_ref {C n d : String} {A : Nat → Prop} {s : State} {args : Array Value} (h : va_Zq C n d A s s.heap) : (Cond.isRef (.static C n d)).before args s = true := by
  rcases h with h | ⟨t, h⟩
  · obtain ⟨cf, kf, fi, f, a, cell, h1, h2, h3, h4, h5, h6, h7, -⟩ := h
    have he : (Term.static C n d).eval args s none [] s = some .null := by simp [Term.eval, State.fieldNamed?, h1, h2, h4, h5, h6, h7]
    simp [Cond.before, Cond.holds, Cond.value, he, Value.isRef]
  · obtain ⟨cf, kf, fi, f, a, cell, h1, h2, h3, h4, h5, h6, h7, -⟩ := h
    have he : (Term.static C n d).eval args s none [] s = some (.ref t) := by simp [Term.eval, State.fieldNamed?, h1, h2, h4, h5, h6, h7]
    simp [Cond.before, Cond.holds, Cond.value, he, Value.isRef]
def xrest : List Cond := [.laysStatic xT "UNASSIGNED_STACK" xsd, .laysStatic xT "SUPPRESSED_SENTINEL" xld, .isRef (.static xT "UNASSIGNED_STACK" xsd), .isRef (.static xT "SUPPRESSED_SENTINEL" xld)]
theorem TX.atoms {A : Nat → Prop} {s : State} {args : Array Value} {T : Cond} {L : List Cond} (hts : ∀ w ∈ T :: gl, w.before args s = true) (hX : TX A s s.heap) (hL : L.all (fun w => decide (w ∈ xside) || (decide (w ∈ xrest) || decide (w ∈ gl))) = true) : ∀ w ∈ L, w.before args s = true := by
  intro w hw
  have h := List.all_eq_true.mp hL w hw
  simp only [Bool.or_eq_true, decide_eq_true_eq] at h
  obtain ⟨h1, -, ⟨h3, h4⟩, h5, h6⟩ := hX
  rcases h with h | h | h
  · exact va_Nw.use (xside_on w h).1 (h1 w h)
  · simp only [xrest, List.mem_cons, List.not_mem_nil, or_false] at h
    rcases h with rfl | rfl | rfl | rfl
    · exact h4.word
    · exact h6.word
    · exact zq_ref h3
    · exact zq_ref h5
  · exact hts w (List.mem_cons_of_mem _ h)
theorem atoms_IA : (Bundle.ownAtoms "SpaceCycles" 92 xIA xup).all (fun w => decide (w ∈ xside) || (decide (w ∈ xrest) || decide (w ∈ gl))) = true := by decide +kernel
theorem atoms_IS : (Bundle.ownAtoms "SpaceCycles" 104 xIS xup).all (fun w => decide (w ∈ xside) || (decide (w ∈ xrest) || decide (w ∈ gl))) = true := by decide +kernel
theorem fit_IA : Bundle.fit xIA = true := by decide +kernel
theorem fit_IS : Bundle.fit xIS = true := by decide +kernel
theorem fit_up : ∀ n ∈ xup, Bundle.fit n = true := by decide +kernel
theorem TX.text {A : Nat → Prop} {s : State} (hX : TX A s s.heap) (k : Nat) {i : Nat} {t : String} (h : xtext[k]? = some (i, t)) : ∃ sa, vk_R "SpaceCycles" i t sa s := hX.2.1 (i, t) (List.mem_of_getElem? h)
/-- the start of a method that may throw -/
abbrev PPX (dC : Nat → ClassId) (dI : Nat → Nat → Nat) (tys : List (ClassId × FieldType)) (av : List Value) (sz : Nat) (ws : va_W) : Array Value → State → Prop := va_Pc av (fun U => U.heap.size = sz ∧ va_P (dC, dI) vwCl ws U.heap ∧ va_K (dC, dI) vwCl tys U ∧ va_D (fun _ => True) ws ∧ NX U ∧ TX (va_A ws sz) U U.heap)
theorem PPX_blind {dC : Nat → ClassId} {dI : Nat → Nat → Nat} {tys : List (ClassId × FieldType)} {av : List Value} {sz : Nat} {ws : va_W} : FrameBlind (PPX dC dI tys av sz ws) := fun a U g mk q => by
  obtain ⟨q0, q1, qP, qK, qD, qN, qX⟩ := q
  exact ⟨q0, q1, qP, va_K.moved (u := U) (U := U.calling g mk a) (Vm.Alike.refl U.vm) qK, qD, NX.same (s := U) rfl qN, qX.calling⟩
theorem PPX_at {s U : State} {A : Nat → Prop} {dC : Nat → ClassId} {dI : Nat → Nat → Nat} {tys : List (ClassId × FieldType)} {av : List Value} {wc : va_W} (hK : va_K (dC, dI) vwCl tys s) (hN : NX s) (hX : TX A s s.heap) (hPc : va_P (dC, dI) vwCl wc s.heap) (hDc : va_D A wc) (hFc : ∀ q, va_A wc s.heap.size q → A q) (hU : U.heap = s.heap) (hW : s.WarmedH U.vm) : PPX dC dI tys av s.heap.size wc av.toArray U := ⟨rfl, by rw [hU], by rw [hU]; exact hPc, va_K.moved hW.alike hK, hDc.weaken (fun _ _ _ _ => trivial), hN.warm hW, hX.at hW hU (fun _ _ _ => rfl) hFc⟩
