/-! What the start gives. -/
theorem sw_K {s : State} {args : Array Value} (hts : ∀ w ∈ lw_tbl, w.before args s = true) : ∃ (dC : Nat → ClassId) (dI : Nat → Nat → Nat) (cI cZ cJ : ClassId), va_K (dC, dI) vwCl [(cI, .int), (cZ, .boolean), (cJ, .long)] s := by
  obtain ⟨c0, i0, h0⟩ := u_known (C := "SpaceCycles") (T := F_Sp) (N := 12) (n := 12) hts (fun w h => gl_tbl (i_Sp w h)) (hts (.instantiable "SpaceCycles" 12) (by decide +kernel))
  obtain ⟨c1, i1, h1⟩ := u_known (C := "SpaceCycles$Lines") (T := F_Li) (N := 9) (n := 9) hts (fun w h => gl_tbl (i_Li w h)) (hts (.instantiable "SpaceCycles$Lines" 9) (by decide +kernel))
  obtain ⟨c2, i2, h2⟩ := u_known (C := "SpaceCycles$Flood") (T := F_Fl) (N := 3) (n := 3) hts (fun w h => gl_tbl (i_Fl w h)) (hts (.instantiable "SpaceCycles$Flood" 3) (by decide +kernel))
  obtain ⟨c3, i3, h3⟩ := u_known (C := "SpaceCycles$Net") (T := F_Ne) (N := 13) (n := 13) hts (fun w h => gl_tbl (i_Ne w h)) (hts (.instantiable "SpaceCycles$Net" 13) (by decide +kernel))
  obtain ⟨c4, i4, h4⟩ := u_known (C := "SpaceCycles$Rings") (T := F_Ri) (N := 6) (n := 6) hts (fun w h => gl_tbl (i_Ri w h)) (hts (.instantiable "SpaceCycles$Rings" 6) (by decide +kernel))
  obtain ⟨c5, i5, h5⟩ := u_known (C := "SpaceCycles$Common") (T := F_Co) (N := 4) (n := 4) hts (fun w h => gl_tbl (i_Co w h)) (hts (.instantiable "SpaceCycles$Common" 4) (by decide +kernel))
  obtain ⟨c6, i6, h6⟩ := u_known (C := "SpaceCycles$Names") (T := F_Na) (N := 3) (n := 3) hts (fun w h => gl_tbl (i_Na w h)) (hts (.instantiable "SpaceCycles$Names" 3) (by decide +kernel))
  obtain ⟨c7, i7, h7⟩ := u_known (C := "SpaceCycles$Ways") (T := F_Wa) (N := 3) (n := 3) hts (fun w h => gl_tbl (i_Wa w h)) (hts (.instantiable "SpaceCycles$Ways" 3) (by decide +kernel))
  obtain ⟨c8, i8, h8⟩ := u_known (C := "SpaceCycles$Grid") (T := F_Gr) (N := 4) (n := 4) hts (fun w h => gl_tbl (i_Gr w h)) (hts (.instantiable "SpaceCycles$Grid" 4) (by decide +kernel))
  obtain ⟨c9, i9, h9⟩ := u_known (C := "SpaceCycles$Cuts") (T := F_Cu) (N := 2) (n := 2) hts (fun w h => gl_tbl (i_Cu w h)) (hts (.instantiable "SpaceCycles$Cuts" 2) (by decide +kernel))
  obtain ⟨c10, i10, h10⟩ := u_known (C := "SpaceCycles$Strips") (T := F_St) (N := 4) (n := 4) hts (fun w h => gl_tbl (i_St w h)) (hts (.instantiable "SpaceCycles$Strips" 4) (by decide +kernel))
  obtain ⟨c11, i11, h11⟩ := u_known (C := "SpaceCyclesModel") (T := F_Mo) (N := 54) (n := 54) hts (fun w h => gl_tbl (i_Mo w h)) (hts (.instantiable "SpaceCyclesModel" 54) (by decide +kernel))
  obtain ⟨cI, kI, pI, f1, f2, f3⟩ := Cond.arrayClass_spec (hts (.arrayClass .int) (by decide +kernel))
  obtain ⟨cZ, kZ, pZ, g1, g2, g3⟩ := Cond.arrayClass_spec (hts (.arrayClass .boolean) (by decide +kernel))
  obtain ⟨cJ, kJ, pJ, e1, e2, e3⟩ := Cond.arrayClass_spec (hts (.arrayClass .long) (by decide +kernel))
  refine ⟨fun k => if k = 0 then c0 else if k = 1 then c1 else if k = 2 then c2 else if k = 3 then c3 else if k = 4 then c4 else if k = 5 then c5 else if k = 6 then c6 else if k = 7 then c7 else if k = 8 then c8 else if k = 9 then c9 else if k = 10 then c10 else c11, fun k => if k = 0 then i0 else if k = 1 then i1 else if k = 2 then i2 else if k = 3 then i3 else if k = 4 then i4 else if k = 5 then i5 else if k = 6 then i6 else if k = 7 then i7 else if k = 8 then i8 else if k = 9 then i9 else if k = 10 then i10 else i11, cI, cZ, cJ, ?_, ?_⟩
  · intro k q hq
    match k, hq with
    | 0, hq => cases hq; exact h0
    | 1, hq => cases hq; exact h1
    | 2, hq => cases hq; exact h2
    | 3, hq => cases hq; exact h3
    | 4, hq => cases hq; exact h4
    | 5, hq => cases hq; exact h5
    | 6, hq => cases hq; exact h6
    | 7, hq => cases hq; exact h7
    | 8, hq => cases hq; exact h8
    | 9, hq => cases hq; exact h9
    | 10, hq => cases hq; exact h10
    | 11, hq => cases hq; exact h11
    | k + 12, hq => simp [vwCl] at hq
  · intro k q hq
    match k, hq with
    | 0, hq => cases hq; exact ⟨fun n z => ⟨fun k h => (by cases h), kI, f2, pI, f3⟩, f1⟩
    | 1, hq => cases hq; exact ⟨fun n z => ⟨fun k h => (by cases h), kZ, g2, pZ, g3⟩, g1⟩
    | 2, hq => cases hq; exact ⟨fun n z => ⟨fun k h => (by cases h), kJ, e2, pJ, e3⟩, e1⟩
    | k + 3, hq => simp at hq
theorem sw_N {s : State} {args : Array Value} (hts : ∀ w ∈ lw_tbl, w.before args s = true) : NX s := by
  intro w hw
  exact va_tabs (nests_on w hw).1 rfl (hts w ((by decide +kernel : ∀ w ∈ nests, w ∈ lw_tbl) w hw))
theorem sw_C {s : State} {args : Array Value} (hgv : (Jvm.Cond.and given_1 narrow_1).before args s = true) : va_Nc xIS xIA s := va_Nc.of (flat_of_before _ hgv (Cond.not (.castable xIS xIA)) (by decide +kernel))
theorem sw_Z {s : State} {args : Array Value} {n d : String} (h : (Cond.laysStatic xT n d).before args s = true) : zL n d (fun q : Nat => s.heap.size ≤ q) s s.heap := by
  obtain ⟨c, k, i, f, a, cell, h1, h2, h3, h4, h5, h6, h7, h8, h9⟩ := Cond.laysStatic_spec h
  exact ⟨c, k, i, f, a, cell, h1, h2, h3, h4, h5, h6, h7, h8, h9, Nat.not_le.mpr (Array.getElem?_eq_some_iff.mp h5).1⟩
theorem sw_T {s : State} {args : Array Value} (hts : ∀ w ∈ lw_tbl, w.before args s = true) (hgv : (Jvm.Cond.and given_1 narrow_1).before args s = true) : TX (fun q : Nat => s.heap.size ≤ q) s s.heap := by
  have hf := flat_of_before _ hgv
  have hA : ∀ a : Nat, a < s.heap.size → ¬ (fun q : Nat => s.heap.size ≤ q) a := fun a h => Nat.not_le.mpr h
  refine ⟨fun w hw => va_tabs (xside_on w hw).1 rfl (hts w ((by decide +kernel : ∀ w ∈ xside, w ∈ lw_tbl) w hw)), fun q hq => ?_, ⟨va_Zqof (hts _ (by decide +kernel : Cond.laysStatic xT "UNASSIGNED_STACK" xsd ∈ lw_tbl)) (hts _ (by decide +kernel : Cond.initialized xT ∈ lw_tbl)) (hf _ (by decide +kernel)) hA, sw_Z (hts _ (by decide +kernel : Cond.laysStatic xT "UNASSIGNED_STACK" xsd ∈ lw_tbl))⟩, va_Zqof (hts _ (by decide +kernel : Cond.laysStatic xT "SUPPRESSED_SENTINEL" xld ∈ lw_tbl)) (hts _ (by decide +kernel : Cond.initialized xT ∈ lw_tbl)) (hf _ (by decide +kernel)) hA, sw_Z (hts _ (by decide +kernel : Cond.laysStatic xT "SUPPRESSED_SENTINEL" xld ∈ lw_tbl))⟩
  have hw := hts (.stringRef "SpaceCycles" q.1 q.2) ((by decide +kernel : ∀ q ∈ xtext, Cond.stringRef "SpaceCycles" q.1 q.2 ∈ lw_tbl) q hq)
  obtain ⟨cur, k, hcur, -⟩ := Cond.instantiable_spec (hts (.instantiable "SpaceCycles" 12) (by decide +kernel))
  obtain ⟨_, _, _, a, -, -, -, -, -, ha⟩ := Cond.stringRef_spec hcur hw
  exact ⟨a, vk_R.of (A := args) hw ha⟩
