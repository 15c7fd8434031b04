-- SpaceCyclesModel.directionOf(I)I
abbrev b_Mo_directionOf : ByteArray := prog_13_method_20_code
abbrev y_Mo_directionOf : MethodName := ⟨"SpaceCyclesModel", "directionOf", "(I)I"⟩
abbrev w_Mo_directionOf : List Cond := Cond.code y_Mo_directionOf b_Mo_directionOf 2 (some .int) :: gl
abbrev rm_Mo_directionOf : Room := { frames := 0, cells := 0, slots := 0, locals := 0 }
theorem d_Mo_directionOf_0 : decode b_Mo_directionOf 0 = .ok (.aload_n 0, 1) := by decide +kernel
theorem d_Mo_directionOf_1 : decode b_Mo_directionOf 1 = .ok (.getfield 7, 3) := by decide +kernel
theorem d_Mo_directionOf_4 : decode b_Mo_directionOf 4 = .ok (.aload_n 0, 1) := by decide +kernel
theorem d_Mo_directionOf_5 : decode b_Mo_directionOf 5 = .ok (.getfield 78, 3) := by decide +kernel
theorem d_Mo_directionOf_8 : decode b_Mo_directionOf 8 = .ok (.iload_n 1, 1) := by decide +kernel
theorem d_Mo_directionOf_9 : decode b_Mo_directionOf 9 = .ok (.iconst 2, 1) := by decide +kernel
theorem d_Mo_directionOf_10 : decode b_Mo_directionOf 10 = .ok (.idiv, 1) := by decide +kernel
theorem d_Mo_directionOf_11 : decode b_Mo_directionOf 11 = .ok (.iaload, 1) := by decide +kernel
theorem d_Mo_directionOf_12 : decode b_Mo_directionOf 12 = .ok (.baload, 1) := by decide +kernel
theorem d_Mo_directionOf_13 : decode b_Mo_directionOf 13 = .ok (.ifCond .eq 7, 3) := by decide +kernel
theorem d_Mo_directionOf_16 : decode b_Mo_directionOf 16 = .ok (.iconst 0, 1) := by decide +kernel
theorem d_Mo_directionOf_17 : decode b_Mo_directionOf 17 = .ok (.goto 4, 3) := by decide +kernel
theorem d_Mo_directionOf_20 : decode b_Mo_directionOf 20 = .ok (.iconst 1, 1) := by decide +kernel
theorem d_Mo_directionOf_21 : decode b_Mo_directionOf 21 = .ok (.iload_n 1, 1) := by decide +kernel
theorem d_Mo_directionOf_22 : decode b_Mo_directionOf 22 = .ok (.iconst 2, 1) := by decide +kernel
theorem d_Mo_directionOf_23 : decode b_Mo_directionOf 23 = .ok (.irem, 1) := by decide +kernel
theorem d_Mo_directionOf_24 : decode b_Mo_directionOf 24 = .ok (.ifCond .ne 7, 3) := by decide +kernel
theorem d_Mo_directionOf_27 : decode b_Mo_directionOf 27 = .ok (.iconst 0, 1) := by decide +kernel
theorem d_Mo_directionOf_28 : decode b_Mo_directionOf 28 = .ok (.goto 4, 3) := by decide +kernel
theorem d_Mo_directionOf_31 : decode b_Mo_directionOf 31 = .ok (.iconst 2, 1) := by decide +kernel
theorem d_Mo_directionOf_32 : decode b_Mo_directionOf 32 = .ok (.iadd, 1) := by decide +kernel
theorem d_Mo_directionOf_33 : decode b_Mo_directionOf 33 = .ok (.ireturn, 1) := by decide +kernel
abbrev wl_Mo_directionOf (a_0 : Nat) (a_0_isFlat : Nat) (a_0_pieceLines : Nat) (b_0_across : Nat) (b_0_lows : Nat) (b_0_highs : Nat) (b_0_thick : Nat) (b_0_doorCounts : Nat) (b_0_doorFrom : Nat) (b_0_doorTo : Nat) (b_0_xs : Nat) (b_0_ys : Nat) (b_0_labels : Nat) (b_0_oldXs : Nat) (b_0_oldYs : Nat) (b_0_oldLabels : Nat) (b_0_names : Nat) (b_0_oldNames : Nat) (b_0_wanted : Nat) (b_0_common : Nat) (b_0_flatEdges : Nat) (b_0_upEdges : Nat) (b_0_isPoint : Nat) (b_0_stack : Nat) (b_0_pieceBegins : Nat) (b_0_pieceEnds : Nat) (b_0_pieceLeft : Nat) (b_0_pieceRight : Nat) (b_0_outs : Nat) (b_0_isSeen : Nat) (b_0_ringSpaces : Nat) (b_0_ringStarts : Nat) (b_0_ringSizes : Nat) (b_0_ringLeast : Nat) (b_0_looseLines : Nat) (b_0_looseXs : Nat) (b_0_looseYs : Nat) (b_0_looseReaches : Nat) (b_0_far : Nat) (cZ : ClassId) (cI : ClassId) (v_0_code : Int32) (v_0_lines : Int32) (v_0_isFresh : Int32) (v_0_hasRun : Int32) (v_0_runs : Int32) (v_0_nx : Int32) (v_0_ny : Int32) (v_0_spaces : Int32) (v_0_oldNx : Int32) (v_0_oldNy : Int32) (v_0_oldSpaces : Int32) (v_0_points : Int32) (v_0_pieces : Int32) (v_0_rings : Int32) (v_0_outsideSides : Int32) (v_0_looseCount : Int32) (f_0_isFlat : Nat → Int32) (f_0_pieceLines : Nat → Int32) : va_W := [(a_0, .inr (11, [.int v_0_code, .ref a_0_isFlat, .ref b_0_across, .ref b_0_lows, .ref b_0_highs, .ref b_0_thick, .int v_0_lines, .ref b_0_doorCounts, .ref b_0_doorFrom, .ref b_0_doorTo, .int v_0_isFresh, .int v_0_hasRun, .int v_0_runs, .ref b_0_xs, .ref b_0_ys, .int v_0_nx, .int v_0_ny, .ref b_0_labels, .int v_0_spaces, .ref b_0_oldXs, .ref b_0_oldYs, .int v_0_oldNx, .int v_0_oldNy, .ref b_0_oldLabels, .int v_0_oldSpaces, .ref b_0_names, .ref b_0_oldNames, .ref b_0_wanted, .ref b_0_common, .ref b_0_flatEdges, .ref b_0_upEdges, .ref b_0_isPoint, .int v_0_points, .ref b_0_stack, .ref a_0_pieceLines, .ref b_0_pieceBegins, .ref b_0_pieceEnds, .ref b_0_pieceLeft, .ref b_0_pieceRight, .int v_0_pieces, .ref b_0_outs, .ref b_0_isSeen, .ref b_0_ringSpaces, .ref b_0_ringStarts, .ref b_0_ringSizes, .ref b_0_ringLeast, .int v_0_rings, .int v_0_outsideSides, .ref b_0_looseLines, .ref b_0_looseXs, .ref b_0_looseYs, .ref b_0_looseReaches, .int v_0_looseCount, .ref b_0_far])), (a_0_isFlat, .inl (cZ, 20, .inl f_0_isFlat)), (a_0_pieceLines, .inl (cI, 900, .inl f_0_pieceLines))]
def m_Mo_directionOf (p1 : Int32) (f_0_isFlat : Nat → Int32) (f_0_pieceLines : Nat → Int32) : Option (Int32) :=
  gI (p1 / 2) 900 <|
  gI (f_0_pieceLines (p1 / 2).toNatClampNeg) 20 <|
  bd1 (
    if (f_0_isFlat (f_0_pieceLines (p1 / 2).toNatClampNeg).toNatClampNeg) = 0 then (
    some 1)
  else (
    some 0))
  fun (x6 : Int32) =>
  bd1 (
      if (p1 - p1 / 2 * 2) = 0 then (
      some 0)
    else (
      some 2))
    fun (x11 : Int32) =>
    some (x6 + x11)

set_option maxHeartbeats 4000000 in
set_option maxRecDepth 100000 in
theorem t_Mo_directionOf {p : Program} {l : Launch} {e : Env} {s : State} {m : MethodId} {args : Array Value} {below : List Frame} {meth : Method} {c : Code} {A : Nat → Prop} {Q : State → Prop} {dC : Nat → ClassId} {dI : Nat → Nat → Nat} {cI cZ cJ : ClassId} (a_0 a_0_isFlat a_0_pieceLines b_0_across b_0_lows b_0_highs b_0_thick b_0_doorCounts b_0_doorFrom b_0_doorTo b_0_xs b_0_ys b_0_labels b_0_oldXs b_0_oldYs b_0_oldLabels b_0_names b_0_oldNames b_0_wanted b_0_common b_0_flatEdges b_0_upEdges b_0_isPoint b_0_stack b_0_pieceBegins b_0_pieceEnds b_0_pieceLeft b_0_pieceRight b_0_outs b_0_isSeen b_0_ringSpaces b_0_ringStarts b_0_ringSizes b_0_ringLeast b_0_looseLines b_0_looseXs b_0_looseYs b_0_looseReaches b_0_far : Nat) (v_0_code : Int32) (v_0_lines : Int32) (v_0_isFresh : Int32) (v_0_hasRun : Int32) (v_0_runs : Int32) (v_0_nx : Int32) (v_0_ny : Int32) (v_0_spaces : Int32) (v_0_oldNx : Int32) (v_0_oldNy : Int32) (v_0_oldSpaces : Int32) (v_0_points : Int32) (v_0_pieces : Int32) (v_0_rings : Int32) (v_0_outsideSides : Int32) (v_0_looseCount : Int32) (f_0_isFlat : Nat → Int32) (f_0_pieceLines : Nat → Int32) (p1 : Int32) (R0 : Int32) (hx : p.tables.exec = Jvm.exec) (hb : c.code = b_Mo_directionOf) (hml : c.maxLocals = 2) (hown : s.vm.findClass "SpaceCyclesModel" = some m.cls) (hts : ∀ w ∈ w_Mo_directionOf, w.before args s = true) (hK : va_K (dC, dI) vwCl [(cI, .int), (cZ, .boolean), (cJ, .long)] s) (hN : NX s) (hA : ∀ q : Nat, s.heap.size ≤ q → A q)
    (hret : ∀ (pc : Nat) (H : Heap) (locs : List Loc) (ls : Array Slot), decode b_Mo_directionOf pc = .ok (.ireturn, 1) → va_P (dC, dI) vwCl (wl_Mo_directionOf a_0 a_0_isFlat a_0_pieceLines b_0_across b_0_lows b_0_highs b_0_thick b_0_doorCounts b_0_doorFrom b_0_doorTo b_0_xs b_0_ys b_0_labels b_0_oldXs b_0_oldYs b_0_oldLabels b_0_names b_0_oldNames b_0_wanted b_0_common b_0_flatEdges b_0_upEdges b_0_isPoint b_0_stack b_0_pieceBegins b_0_pieceEnds b_0_pieceLeft b_0_pieceRight b_0_outs b_0_isSeen b_0_ringSpaces b_0_ringStarts b_0_ringSizes b_0_ringLeast b_0_looseLines b_0_looseXs b_0_looseYs b_0_looseReaches b_0_far cZ cI v_0_code v_0_lines v_0_isFresh v_0_hasRun v_0_runs v_0_nx v_0_ny v_0_spaces v_0_oldNx v_0_oldNy v_0_oldSpaces v_0_points v_0_pieces v_0_rings v_0_outsideSides v_0_looseCount f_0_isFlat f_0_pieceLines) H → va_D A (wl_Mo_directionOf a_0 a_0_isFlat a_0_pieceLines b_0_across b_0_lows b_0_highs b_0_thick b_0_doorCounts b_0_doorFrom b_0_doorTo b_0_xs b_0_ys b_0_labels b_0_oldXs b_0_oldYs b_0_oldLabels b_0_names b_0_oldNames b_0_wanted b_0_common b_0_flatEdges b_0_upEdges b_0_isPoint b_0_stack b_0_pieceBegins b_0_pieceEnds b_0_pieceLeft b_0_pieceRight b_0_outs b_0_isSeen b_0_ringSpaces b_0_ringStarts b_0_ringSizes b_0_ringLeast b_0_looseLines b_0_looseXs b_0_looseYs b_0_looseReaches b_0_far cZ cI v_0_code v_0_lines v_0_isFresh v_0_hasRun v_0_runs v_0_nx v_0_ny v_0_spaces v_0_oldNx v_0_oldNy v_0_oldSpaces v_0_points v_0_pieces v_0_rings v_0_outsideSides v_0_looseCount f_0_isFlat f_0_pieceLines) → va_S A s.heap H locs → W p l e rm_Mo_directionOf s m args below meth c H locs 0 0 Q (F0 m pc ls [.int R0]))
    (hm : m_Mo_directionOf p1 f_0_isFlat f_0_pieceLines = some R0) : ∀ (H : Heap) (locs : List Loc) (ls : Array Slot), va_P (dC, dI) vwCl (wl_Mo_directionOf a_0 a_0_isFlat a_0_pieceLines b_0_across b_0_lows b_0_highs b_0_thick b_0_doorCounts b_0_doorFrom b_0_doorTo b_0_xs b_0_ys b_0_labels b_0_oldXs b_0_oldYs b_0_oldLabels b_0_names b_0_oldNames b_0_wanted b_0_common b_0_flatEdges b_0_upEdges b_0_isPoint b_0_stack b_0_pieceBegins b_0_pieceEnds b_0_pieceLeft b_0_pieceRight b_0_outs b_0_isSeen b_0_ringSpaces b_0_ringStarts b_0_ringSizes b_0_ringLeast b_0_looseLines b_0_looseXs b_0_looseYs b_0_looseReaches b_0_far cZ cI v_0_code v_0_lines v_0_isFresh v_0_hasRun v_0_runs v_0_nx v_0_ny v_0_spaces v_0_oldNx v_0_oldNy v_0_oldSpaces v_0_points v_0_pieces v_0_rings v_0_outsideSides v_0_looseCount f_0_isFlat f_0_pieceLines) H → va_D A (wl_Mo_directionOf a_0 a_0_isFlat a_0_pieceLines b_0_across b_0_lows b_0_highs b_0_thick b_0_doorCounts b_0_doorFrom b_0_doorTo b_0_xs b_0_ys b_0_labels b_0_oldXs b_0_oldYs b_0_oldLabels b_0_names b_0_oldNames b_0_wanted b_0_common b_0_flatEdges b_0_upEdges b_0_isPoint b_0_stack b_0_pieceBegins b_0_pieceEnds b_0_pieceLeft b_0_pieceRight b_0_outs b_0_isSeen b_0_ringSpaces b_0_ringStarts b_0_ringSizes b_0_ringLeast b_0_looseLines b_0_looseXs b_0_looseYs b_0_looseReaches b_0_far cZ cI v_0_code v_0_lines v_0_isFresh v_0_hasRun v_0_runs v_0_nx v_0_ny v_0_spaces v_0_oldNx v_0_oldNy v_0_oldSpaces v_0_points v_0_pieces v_0_rings v_0_outsideSides v_0_looseCount f_0_isFlat f_0_pieceLines) → va_S A s.heap H locs → lv_has ls 2 [(0, .ref a_0), (1, .int p1)] → W p l e rm_Mo_directionOf s m args below meth c H locs 0 0 Q (F0 m 0 ls []) := by
  intro H locs ls hP hD hS hl
  unfold m_Mo_directionOf at hm
  refine lv_aload_n hx hb d_Mo_directionOf_0 rfl (lv_at hl 0 rfl) ?_
  refine va_get (D := (dC, dI)) (ci := 11) (v := .ref a_0_isFlat) (C := "SpaceCyclesModel") (T := F_Mo) (N := 54) hx hb hts (in_F i_Mo) hown hK hP 0 rfl rfl 1 (by decide) (hts _ (in_c k_279)) (fun _ h9 => h9) rfl d_Mo_directionOf_1 ?_
  refine lv_aload_n hx hb d_Mo_directionOf_4 rfl (lv_at hl 0 rfl) ?_
  refine va_get (D := (dC, dI)) (ci := 11) (v := .ref a_0_pieceLines) (C := "SpaceCyclesModel") (T := F_Mo) (N := 54) hx hb hts (in_F i_Mo) hown hK hP 0 rfl rfl 34 (by decide) (hts _ (in_c k_331)) (fun _ h9 => h9) rfl d_Mo_directionOf_5 ?_
  refine lv_iload_n hx hb d_Mo_directionOf_8 rfl (lv_at hl 1 rfl) ?_
  refine lv_iconst (v := 2) hx hb d_Mo_directionOf_9 (by decide) ?_
  refine lv_idiv hx hb d_Mo_directionOf_10 (by decide) ?_
  obtain ⟨hi1, hm⟩ := gI_e hm
  refine va_iald hx hb hK hP 2 0 rfl rfl hi1 d_Mo_directionOf_11 ?_
  obtain ⟨hi2, hm⟩ := gI_e hm
  refine va_zald hx hb hK hP 1 1 rfl rfl hi2 d_Mo_directionOf_12 ?_
  obtain ⟨x6, hb4, hm⟩ := bd1_e hm
  have K3 : ∀ (H : Heap) (locs : List Loc) (ls : Array Slot), va_P (dC, dI) vwCl (wl_Mo_directionOf a_0 a_0_isFlat a_0_pieceLines b_0_across b_0_lows b_0_highs b_0_thick b_0_doorCounts b_0_doorFrom b_0_doorTo b_0_xs b_0_ys b_0_labels b_0_oldXs b_0_oldYs b_0_oldLabels b_0_names b_0_oldNames b_0_wanted b_0_common b_0_flatEdges b_0_upEdges b_0_isPoint b_0_stack b_0_pieceBegins b_0_pieceEnds b_0_pieceLeft b_0_pieceRight b_0_outs b_0_isSeen b_0_ringSpaces b_0_ringStarts b_0_ringSizes b_0_ringLeast b_0_looseLines b_0_looseXs b_0_looseYs b_0_looseReaches b_0_far cZ cI v_0_code v_0_lines v_0_isFresh v_0_hasRun v_0_runs v_0_nx v_0_ny v_0_spaces v_0_oldNx v_0_oldNy v_0_oldSpaces v_0_points v_0_pieces v_0_rings v_0_outsideSides v_0_looseCount f_0_isFlat f_0_pieceLines) H → va_D A (wl_Mo_directionOf a_0 a_0_isFlat a_0_pieceLines b_0_across b_0_lows b_0_highs b_0_thick b_0_doorCounts b_0_doorFrom b_0_doorTo b_0_xs b_0_ys b_0_labels b_0_oldXs b_0_oldYs b_0_oldLabels b_0_names b_0_oldNames b_0_wanted b_0_common b_0_flatEdges b_0_upEdges b_0_isPoint b_0_stack b_0_pieceBegins b_0_pieceEnds b_0_pieceLeft b_0_pieceRight b_0_outs b_0_isSeen b_0_ringSpaces b_0_ringStarts b_0_ringSizes b_0_ringLeast b_0_looseLines b_0_looseXs b_0_looseYs b_0_looseReaches b_0_far cZ cI v_0_code v_0_lines v_0_isFresh v_0_hasRun v_0_runs v_0_nx v_0_ny v_0_spaces v_0_oldNx v_0_oldNy v_0_oldSpaces v_0_points v_0_pieces v_0_rings v_0_outsideSides v_0_looseCount f_0_isFlat f_0_pieceLines) → va_S A s.heap H locs → lv_has ls 2 [(1, .int p1)] → W p l e rm_Mo_directionOf s m args below meth c H locs 0 0 Q (F0 m 21 ls [.int x6]) := by
    intro H locs ls hP hD hS hl
    refine lv_iload_n hx hb d_Mo_directionOf_21 rfl (lv_at hl 0 rfl) ?_
    refine lv_iconst (v := 2) hx hb d_Mo_directionOf_22 (by decide) ?_
    refine lv_irem hx hb d_Mo_directionOf_23 (by decide) ?_
    obtain ⟨x11, hb9, hm⟩ := bd1_e hm
    have K8 : ∀ (H : Heap) (locs : List Loc) (ls : Array Slot), va_P (dC, dI) vwCl (wl_Mo_directionOf a_0 a_0_isFlat a_0_pieceLines b_0_across b_0_lows b_0_highs b_0_thick b_0_doorCounts b_0_doorFrom b_0_doorTo b_0_xs b_0_ys b_0_labels b_0_oldXs b_0_oldYs b_0_oldLabels b_0_names b_0_oldNames b_0_wanted b_0_common b_0_flatEdges b_0_upEdges b_0_isPoint b_0_stack b_0_pieceBegins b_0_pieceEnds b_0_pieceLeft b_0_pieceRight b_0_outs b_0_isSeen b_0_ringSpaces b_0_ringStarts b_0_ringSizes b_0_ringLeast b_0_looseLines b_0_looseXs b_0_looseYs b_0_looseReaches b_0_far cZ cI v_0_code v_0_lines v_0_isFresh v_0_hasRun v_0_runs v_0_nx v_0_ny v_0_spaces v_0_oldNx v_0_oldNy v_0_oldSpaces v_0_points v_0_pieces v_0_rings v_0_outsideSides v_0_looseCount f_0_isFlat f_0_pieceLines) H → va_D A (wl_Mo_directionOf a_0 a_0_isFlat a_0_pieceLines b_0_across b_0_lows b_0_highs b_0_thick b_0_doorCounts b_0_doorFrom b_0_doorTo b_0_xs b_0_ys b_0_labels b_0_oldXs b_0_oldYs b_0_oldLabels b_0_names b_0_oldNames b_0_wanted b_0_common b_0_flatEdges b_0_upEdges b_0_isPoint b_0_stack b_0_pieceBegins b_0_pieceEnds b_0_pieceLeft b_0_pieceRight b_0_outs b_0_isSeen b_0_ringSpaces b_0_ringStarts b_0_ringSizes b_0_ringLeast b_0_looseLines b_0_looseXs b_0_looseYs b_0_looseReaches b_0_far cZ cI v_0_code v_0_lines v_0_isFresh v_0_hasRun v_0_runs v_0_nx v_0_ny v_0_spaces v_0_oldNx v_0_oldNy v_0_oldSpaces v_0_points v_0_pieces v_0_rings v_0_outsideSides v_0_looseCount f_0_isFlat f_0_pieceLines) → va_S A s.heap H locs → lv_has ls 2 [] → W p l e rm_Mo_directionOf s m args below meth c H locs 0 0 Q (F0 m 32 ls [.int x11, .int x6]) := by
      intro H locs ls hP hD hS hl
      refine lv_iadd hx hb d_Mo_directionOf_32 ?_
      cases hm
      exact hret _ H locs ls d_Mo_directionOf_33 hP hD hS
    replace hm := hb9
    refine lv_if_ne (tgt := 31) hx hb d_Mo_directionOf_24 (by decide) (fun c12 => ?_) (fun c12 => ?_)
    · replace hm := if_f hm c12
      refine lv_iconst (v := 2) hx hb d_Mo_directionOf_31 (by decide) ?_
      cases hm
      exact K8 H locs ls hP hD hS (lv_sub hl [] rfl)
    · replace hm := if_t hm c12
      refine lv_iconst (v := 0) hx hb d_Mo_directionOf_27 (by decide) ?_
      refine lv_goto (tgt := 32) hx hb d_Mo_directionOf_28 (by decide) ?_
      cases hm
      exact K8 H locs ls hP hD hS (lv_sub hl [] rfl)
  replace hm := hb4
  refine lv_if_eq (tgt := 20) hx hb d_Mo_directionOf_13 (by decide) (fun c7 => ?_) (fun c7 => ?_)
  · replace hm := if_t hm c7
    refine lv_iconst (v := 1) hx hb d_Mo_directionOf_20 (by decide) ?_
    cases hm
    exact K3 H locs ls hP hD hS (lv_sub hl [1] rfl)
  · replace hm := if_f hm c7
    refine lv_iconst (v := 0) hx hb d_Mo_directionOf_16 (by decide) ?_
    refine lv_goto (tgt := 21) hx hb d_Mo_directionOf_17 (by decide) ?_
    cases hm
    exact K3 H locs ls hP hD hS (lv_sub hl [1] rfl)
set_option maxHeartbeats 4000000 in
set_option maxRecDepth 100000 in
theorem c_Mo_directionOf (l : Launch) (dC : Nat → ClassId) (dI : Nat → Nat → Nat) {cI cZ cJ : ClassId} (a_0 a_0_isFlat a_0_pieceLines b_0_across b_0_lows b_0_highs b_0_thick b_0_doorCounts b_0_doorFrom b_0_doorTo b_0_xs b_0_ys b_0_labels b_0_oldXs b_0_oldYs b_0_oldLabels b_0_names b_0_oldNames b_0_wanted b_0_common b_0_flatEdges b_0_upEdges b_0_isPoint b_0_stack b_0_pieceBegins b_0_pieceEnds b_0_pieceLeft b_0_pieceRight b_0_outs b_0_isSeen b_0_ringSpaces b_0_ringStarts b_0_ringSizes b_0_ringLeast b_0_looseLines b_0_looseXs b_0_looseYs b_0_looseReaches b_0_far : Nat) (sz : Nat) (v_0_code : Int32) (v_0_lines : Int32) (v_0_isFresh : Int32) (v_0_hasRun : Int32) (v_0_runs : Int32) (v_0_nx : Int32) (v_0_ny : Int32) (v_0_spaces : Int32) (v_0_oldNx : Int32) (v_0_oldNy : Int32) (v_0_oldSpaces : Int32) (v_0_points : Int32) (v_0_pieces : Int32) (v_0_rings : Int32) (v_0_outsideSides : Int32) (v_0_looseCount : Int32) (f_0_isFlat : Nat → Int32) (f_0_pieceLines : Nat → Int32) (p1 : Int32) (R0 : Int32) (hm : m_Mo_directionOf p1 f_0_isFlat f_0_pieceLines = some R0) : Met l y_Mo_directionOf w_Mo_directionOf rm_Mo_directionOf (PP dC dI [(cI, .int), (cZ, .boolean), (cJ, .long)] [.ref a_0, .int p1] sz (wl_Mo_directionOf a_0 a_0_isFlat a_0_pieceLines b_0_across b_0_lows b_0_highs b_0_thick b_0_doorCounts b_0_doorFrom b_0_doorTo b_0_xs b_0_ys b_0_labels b_0_oldXs b_0_oldYs b_0_oldLabels b_0_names b_0_oldNames b_0_wanted b_0_common b_0_flatEdges b_0_upEdges b_0_isPoint b_0_stack b_0_pieceBegins b_0_pieceEnds b_0_pieceLeft b_0_pieceRight b_0_outs b_0_isSeen b_0_ringSpaces b_0_ringStarts b_0_ringSizes b_0_ringLeast b_0_looseLines b_0_looseXs b_0_looseYs b_0_looseReaches b_0_far cZ cI v_0_code v_0_lines v_0_isFresh v_0_hasRun v_0_runs v_0_nx v_0_ny v_0_spaces v_0_oldNx v_0_oldNy v_0_oldSpaces v_0_points v_0_pieces v_0_rings v_0_outsideSides v_0_looseCount f_0_isFlat f_0_pieceLines)) (QI dC dI [(cI, .int), (cZ, .boolean), (cJ, .long)] sz (wl_Mo_directionOf a_0 a_0_isFlat a_0_pieceLines b_0_across b_0_lows b_0_highs b_0_thick b_0_doorCounts b_0_doorFrom b_0_doorTo b_0_xs b_0_ys b_0_labels b_0_oldXs b_0_oldYs b_0_oldLabels b_0_names b_0_oldNames b_0_wanted b_0_common b_0_flatEdges b_0_upEdges b_0_isPoint b_0_stack b_0_pieceBegins b_0_pieceEnds b_0_pieceLeft b_0_pieceRight b_0_outs b_0_isSeen b_0_ringSpaces b_0_ringStarts b_0_ringSizes b_0_ringLeast b_0_looseLines b_0_looseXs b_0_looseYs b_0_looseReaches b_0_far cZ cI v_0_code v_0_lines v_0_isFresh v_0_hasRun v_0_runs v_0_nx v_0_ny v_0_spaces v_0_oldNx v_0_oldNy v_0_oldSpaces v_0_points v_0_pieces v_0_rings v_0_outsideSides v_0_looseCount f_0_isFlat f_0_pieceLines) (wl_Mo_directionOf a_0 a_0_isFlat a_0_pieceLines b_0_across b_0_lows b_0_highs b_0_thick b_0_doorCounts b_0_doorFrom b_0_doorTo b_0_xs b_0_ys b_0_labels b_0_oldXs b_0_oldYs b_0_oldLabels b_0_names b_0_oldNames b_0_wanted b_0_common b_0_flatEdges b_0_upEdges b_0_isPoint b_0_stack b_0_pieceBegins b_0_pieceEnds b_0_pieceLeft b_0_pieceRight b_0_outs b_0_isSeen b_0_ringSpaces b_0_ringStarts b_0_ringSizes b_0_ringLeast b_0_looseLines b_0_looseXs b_0_looseYs b_0_looseReaches b_0_far cZ cI v_0_code v_0_lines v_0_isFresh v_0_hasRun v_0_runs v_0_nx v_0_ny v_0_spaces v_0_oldNx v_0_oldNy v_0_oldSpaces v_0_points v_0_pieces v_0_rings v_0_outsideSides v_0_looseCount f_0_isFlat f_0_pieceLines) R0) 0 0 (va_A (wl_Mo_directionOf a_0 a_0_isFlat a_0_pieceLines b_0_across b_0_lows b_0_highs b_0_thick b_0_doorCounts b_0_doorFrom b_0_doorTo b_0_xs b_0_ys b_0_labels b_0_oldXs b_0_oldYs b_0_oldLabels b_0_names b_0_oldNames b_0_wanted b_0_common b_0_flatEdges b_0_upEdges b_0_isPoint b_0_stack b_0_pieceBegins b_0_pieceEnds b_0_pieceLeft b_0_pieceRight b_0_outs b_0_isSeen b_0_ringSpaces b_0_ringStarts b_0_ringSizes b_0_ringLeast b_0_looseLines b_0_looseXs b_0_looseYs b_0_looseReaches b_0_far cZ cI v_0_code v_0_lines v_0_isFresh v_0_hasRun v_0_runs v_0_nx v_0_ny v_0_spaces v_0_oldNx v_0_oldNy v_0_oldSpaces v_0_points v_0_pieces v_0_rings v_0_outsideSides v_0_looseCount f_0_isFlat f_0_pieceLines) sz) := by
  refine Met.ofW (cc := b_Mo_directionOf) (maxL := 2) (ret := (some .int)) (by decide) rfl ?_
  intro p e s m args below meth c s₁ B hml hv
  obtain ⟨rfl, hsz, hP, hK, hD0, hN⟩ := hv
  subst hsz
  have hl := lv_entry ([.ref a_0, .int p1]) (n := 2) (Nat.le_of_ble_eq_true rfl)
  rw [lg_entry_eq]
  generalize (lg_sl ([.ref a_0, .int p1]) ++ List.replicate (2 - (lg_sl ([.ref a_0, .int p1])).length) Slot.unset).toArray = ls at hl ⊢
  exact t_Mo_directionOf a_0 a_0_isFlat a_0_pieceLines b_0_across b_0_lows b_0_highs b_0_thick b_0_doorCounts b_0_doorFrom b_0_doorTo b_0_xs b_0_ys b_0_labels b_0_oldXs b_0_oldYs b_0_oldLabels b_0_names b_0_oldNames b_0_wanted b_0_common b_0_flatEdges b_0_upEdges b_0_isPoint b_0_stack b_0_pieceBegins b_0_pieceEnds b_0_pieceLeft b_0_pieceRight b_0_outs b_0_isSeen b_0_ringSpaces b_0_ringStarts b_0_ringSizes b_0_ringLeast b_0_looseLines b_0_looseXs b_0_looseYs b_0_looseReaches b_0_far v_0_code v_0_lines v_0_isFresh v_0_hasRun v_0_runs v_0_nx v_0_ny v_0_spaces v_0_oldNx v_0_oldNy v_0_oldSpaces v_0_points v_0_pieces v_0_rings v_0_outsideSides v_0_looseCount f_0_isFlat f_0_pieceLines p1 R0 B.exec B.bytes hml (findClass_of_methodNamed B.named) (atoms_spec (ws := w_Mo_directionOf) B.pre) hK hN (fun q h => Or.inr h) (fun pc H locs ls hd hP9 hD9 hS => W.iret B.exec B.bytes B.returns (fun t ht hW => ⟨⟨_, (), rfl, rfl, by rw [ht]; exact hP9, va_K.moved hW.alike hK, hD9⟩, hS.F ht⟩) hS.2.2 hd) hm s.heap [] ls hP hD0.self va_S.rf hl

-- SpaceCyclesModel.lengthOf(I)I
abbrev b_Mo_lengthOf : ByteArray := prog_13_method_21_code
abbrev y_Mo_lengthOf : MethodName := ⟨"SpaceCyclesModel", "lengthOf", "(I)I"⟩
abbrev w_Mo_lengthOf : List Cond := Cond.code y_Mo_lengthOf b_Mo_lengthOf 4 (some .int) :: gl
abbrev rm_Mo_lengthOf : Room := { frames := 0, cells := 0, slots := 0, locals := 0 }
theorem d_Mo_lengthOf_0 : decode b_Mo_lengthOf 0 = .ok (.aload_n 0, 1) := by decide +kernel
theorem d_Mo_lengthOf_1 : decode b_Mo_lengthOf 1 = .ok (.getfield 81, 3) := by decide +kernel
theorem d_Mo_lengthOf_4 : decode b_Mo_lengthOf 4 = .ok (.iload_n 1, 1) := by decide +kernel
theorem d_Mo_lengthOf_5 : decode b_Mo_lengthOf 5 = .ok (.iaload, 1) := by decide +kernel
theorem d_Mo_lengthOf_6 : decode b_Mo_lengthOf 6 = .ok (.istore_n 2, 1) := by decide +kernel
theorem d_Mo_lengthOf_7 : decode b_Mo_lengthOf 7 = .ok (.aload_n 0, 1) := by decide +kernel
theorem d_Mo_lengthOf_8 : decode b_Mo_lengthOf 8 = .ok (.getfield 84, 3) := by decide +kernel
theorem d_Mo_lengthOf_11 : decode b_Mo_lengthOf 11 = .ok (.iload_n 1, 1) := by decide +kernel
theorem d_Mo_lengthOf_12 : decode b_Mo_lengthOf 12 = .ok (.iaload, 1) := by decide +kernel
theorem d_Mo_lengthOf_13 : decode b_Mo_lengthOf 13 = .ok (.istore_n 3, 1) := by decide +kernel
theorem d_Mo_lengthOf_14 : decode b_Mo_lengthOf 14 = .ok (.aload_n 0, 1) := by decide +kernel
theorem d_Mo_lengthOf_15 : decode b_Mo_lengthOf 15 = .ok (.getfield 35, 3) := by decide +kernel
theorem d_Mo_lengthOf_18 : decode b_Mo_lengthOf 18 = .ok (.iload_n 3, 1) := by decide +kernel
theorem d_Mo_lengthOf_19 : decode b_Mo_lengthOf 19 = .ok (.bipush 42, 2) := by decide +kernel
theorem d_Mo_lengthOf_21 : decode b_Mo_lengthOf 21 = .ok (.idiv, 1) := by decide +kernel
theorem d_Mo_lengthOf_22 : decode b_Mo_lengthOf 22 = .ok (.iaload, 1) := by decide +kernel
theorem d_Mo_lengthOf_23 : decode b_Mo_lengthOf 23 = .ok (.aload_n 0, 1) := by decide +kernel
theorem d_Mo_lengthOf_24 : decode b_Mo_lengthOf 24 = .ok (.getfield 35, 3) := by decide +kernel
theorem d_Mo_lengthOf_27 : decode b_Mo_lengthOf 27 = .ok (.iload_n 2, 1) := by decide +kernel
theorem d_Mo_lengthOf_28 : decode b_Mo_lengthOf 28 = .ok (.bipush 42, 2) := by decide +kernel
theorem d_Mo_lengthOf_30 : decode b_Mo_lengthOf 30 = .ok (.idiv, 1) := by decide +kernel
theorem d_Mo_lengthOf_31 : decode b_Mo_lengthOf 31 = .ok (.iaload, 1) := by decide +kernel
theorem d_Mo_lengthOf_32 : decode b_Mo_lengthOf 32 = .ok (.isub, 1) := by decide +kernel
theorem d_Mo_lengthOf_33 : decode b_Mo_lengthOf 33 = .ok (.aload_n 0, 1) := by decide +kernel
theorem d_Mo_lengthOf_34 : decode b_Mo_lengthOf 34 = .ok (.getfield 38, 3) := by decide +kernel
theorem d_Mo_lengthOf_37 : decode b_Mo_lengthOf 37 = .ok (.iload_n 3, 1) := by decide +kernel
theorem d_Mo_lengthOf_38 : decode b_Mo_lengthOf 38 = .ok (.bipush 42, 2) := by decide +kernel
theorem d_Mo_lengthOf_40 : decode b_Mo_lengthOf 40 = .ok (.irem, 1) := by decide +kernel
theorem d_Mo_lengthOf_41 : decode b_Mo_lengthOf 41 = .ok (.iaload, 1) := by decide +kernel
theorem d_Mo_lengthOf_42 : decode b_Mo_lengthOf 42 = .ok (.iadd, 1) := by decide +kernel
theorem d_Mo_lengthOf_43 : decode b_Mo_lengthOf 43 = .ok (.aload_n 0, 1) := by decide +kernel
theorem d_Mo_lengthOf_44 : decode b_Mo_lengthOf 44 = .ok (.getfield 38, 3) := by decide +kernel
theorem d_Mo_lengthOf_47 : decode b_Mo_lengthOf 47 = .ok (.iload_n 2, 1) := by decide +kernel
theorem d_Mo_lengthOf_48 : decode b_Mo_lengthOf 48 = .ok (.bipush 42, 2) := by decide +kernel
theorem d_Mo_lengthOf_50 : decode b_Mo_lengthOf 50 = .ok (.irem, 1) := by decide +kernel
theorem d_Mo_lengthOf_51 : decode b_Mo_lengthOf 51 = .ok (.iaload, 1) := by decide +kernel
theorem d_Mo_lengthOf_52 : decode b_Mo_lengthOf 52 = .ok (.isub, 1) := by decide +kernel
theorem d_Mo_lengthOf_53 : decode b_Mo_lengthOf 53 = .ok (.ireturn, 1) := by decide +kernel
abbrev wl_Mo_lengthOf (a_0 : Nat) (a_0_xs : Nat) (a_0_ys : Nat) (a_0_pieceBegins : Nat) (a_0_pieceEnds : Nat) (b_0_isFlat : Nat) (b_0_across : Nat) (b_0_lows : Nat) (b_0_highs : Nat) (b_0_thick : Nat) (b_0_doorCounts : Nat) (b_0_doorFrom : Nat) (b_0_doorTo : Nat) (b_0_labels : Nat) (b_0_oldXs : Nat) (b_0_oldYs : Nat) (b_0_oldLabels : Nat) (b_0_names : Nat) (b_0_oldNames : Nat) (b_0_wanted : Nat) (b_0_common : Nat) (b_0_flatEdges : Nat) (b_0_upEdges : Nat) (b_0_isPoint : Nat) (b_0_stack : Nat) (b_0_pieceLines : Nat) (b_0_pieceLeft : Nat) (b_0_pieceRight : Nat) (b_0_outs : Nat) (b_0_isSeen : Nat) (b_0_ringSpaces : Nat) (b_0_ringStarts : Nat) (b_0_ringSizes : Nat) (b_0_ringLeast : Nat) (b_0_looseLines : Nat) (b_0_looseXs : Nat) (b_0_looseYs : Nat) (b_0_looseReaches : Nat) (b_0_far : Nat) (cI : ClassId) (v_0_code : Int32) (v_0_lines : Int32) (v_0_isFresh : Int32) (v_0_hasRun : Int32) (v_0_runs : Int32) (v_0_nx : Int32) (v_0_ny : Int32) (v_0_spaces : Int32) (v_0_oldNx : Int32) (v_0_oldNy : Int32) (v_0_oldSpaces : Int32) (v_0_points : Int32) (v_0_pieces : Int32) (v_0_rings : Int32) (v_0_outsideSides : Int32) (v_0_looseCount : Int32) (f_0_xs : Nat → Int32) (f_0_ys : Nat → Int32) (f_0_pieceBegins : Nat → Int32) (f_0_pieceEnds : Nat → Int32) : va_W := [(a_0, .inr (11, [.int v_0_code, .ref b_0_isFlat, .ref b_0_across, .ref b_0_lows, .ref b_0_highs, .ref b_0_thick, .int v_0_lines, .ref b_0_doorCounts, .ref b_0_doorFrom, .ref b_0_doorTo, .int v_0_isFresh, .int v_0_hasRun, .int v_0_runs, .ref a_0_xs, .ref a_0_ys, .int v_0_nx, .int v_0_ny, .ref b_0_labels, .int v_0_spaces, .ref b_0_oldXs, .ref b_0_oldYs, .int v_0_oldNx, .int v_0_oldNy, .ref b_0_oldLabels, .int v_0_oldSpaces, .ref b_0_names, .ref b_0_oldNames, .ref b_0_wanted, .ref b_0_common, .ref b_0_flatEdges, .ref b_0_upEdges, .ref b_0_isPoint, .int v_0_points, .ref b_0_stack, .ref b_0_pieceLines, .ref a_0_pieceBegins, .ref a_0_pieceEnds, .ref b_0_pieceLeft, .ref b_0_pieceRight, .int v_0_pieces, .ref b_0_outs, .ref b_0_isSeen, .ref b_0_ringSpaces, .ref b_0_ringStarts, .ref b_0_ringSizes, .ref b_0_ringLeast, .int v_0_rings, .int v_0_outsideSides, .ref b_0_looseLines, .ref b_0_looseXs, .ref b_0_looseYs, .ref b_0_looseReaches, .int v_0_looseCount, .ref b_0_far])), (a_0_xs, .inl (cI, 42, .inl f_0_xs)), (a_0_ys, .inl (cI, 42, .inl f_0_ys)), (a_0_pieceBegins, .inl (cI, 900, .inl f_0_pieceBegins)), (a_0_pieceEnds, .inl (cI, 900, .inl f_0_pieceEnds))]
def m_Mo_lengthOf (p1 : Int32) (f_0_xs : Nat → Int32) (f_0_ys : Nat → Int32) (f_0_pieceBegins : Nat → Int32) (f_0_pieceEnds : Nat → Int32) : Option (Int32) :=
  gI p1 900 <|
  lt_ (f_0_pieceBegins p1.toNatClampNeg) fun x2 =>
  gI p1 900 <|
  lt_ (f_0_pieceEnds p1.toNatClampNeg) fun x4 =>
  gI (x4 / 42) 42 <|
  gI (x2 / 42) 42 <|
  gI (x4 - x4 / 42 * 42) 42 <|
  gI (x2 - x2 / 42 * 42) 42 <|
  some ((((f_0_xs (x4 / 42).toNatClampNeg) - (f_0_xs (x2 / 42).toNatClampNeg)) + (f_0_ys (x4 - x4 / 42 * 42).toNatClampNeg)) - (f_0_ys (x2 - x2 / 42 * 42).toNatClampNeg))

set_option maxHeartbeats 4000000 in
set_option maxRecDepth 100000 in
theorem t_Mo_lengthOf {p : Program} {l : Launch} {e : Env} {s : State} {m : MethodId} {args : Array Value} {below : List Frame} {meth : Method} {c : Code} {A : Nat → Prop} {Q : State → Prop} {dC : Nat → ClassId} {dI : Nat → Nat → Nat} {cI cZ cJ : ClassId} (a_0 a_0_xs a_0_ys a_0_pieceBegins a_0_pieceEnds b_0_isFlat b_0_across b_0_lows b_0_highs b_0_thick b_0_doorCounts b_0_doorFrom b_0_doorTo b_0_labels b_0_oldXs b_0_oldYs b_0_oldLabels b_0_names b_0_oldNames b_0_wanted b_0_common b_0_flatEdges b_0_upEdges b_0_isPoint b_0_stack b_0_pieceLines b_0_pieceLeft b_0_pieceRight b_0_outs b_0_isSeen b_0_ringSpaces b_0_ringStarts b_0_ringSizes b_0_ringLeast b_0_looseLines b_0_looseXs b_0_looseYs b_0_looseReaches b_0_far : Nat) (v_0_code : Int32) (v_0_lines : Int32) (v_0_isFresh : Int32) (v_0_hasRun : Int32) (v_0_runs : Int32) (v_0_nx : Int32) (v_0_ny : Int32) (v_0_spaces : Int32) (v_0_oldNx : Int32) (v_0_oldNy : Int32) (v_0_oldSpaces : Int32) (v_0_points : Int32) (v_0_pieces : Int32) (v_0_rings : Int32) (v_0_outsideSides : Int32) (v_0_looseCount : Int32) (f_0_xs : Nat → Int32) (f_0_ys : Nat → Int32) (f_0_pieceBegins : Nat → Int32) (f_0_pieceEnds : Nat → Int32) (p1 : Int32) (R0 : Int32) (hx : p.tables.exec = Jvm.exec) (hb : c.code = b_Mo_lengthOf) (hml : c.maxLocals = 4) (hown : s.vm.findClass "SpaceCyclesModel" = some m.cls) (hts : ∀ w ∈ w_Mo_lengthOf, w.before args s = true) (hK : va_K (dC, dI) vwCl [(cI, .int), (cZ, .boolean), (cJ, .long)] s) (hN : NX s) (hA : ∀ q : Nat, s.heap.size ≤ q → A q)
    (hret : ∀ (pc : Nat) (H : Heap) (locs : List Loc) (ls : Array Slot), decode b_Mo_lengthOf pc = .ok (.ireturn, 1) → va_P (dC, dI) vwCl (wl_Mo_lengthOf a_0 a_0_xs a_0_ys a_0_pieceBegins a_0_pieceEnds b_0_isFlat b_0_across b_0_lows b_0_highs b_0_thick b_0_doorCounts b_0_doorFrom b_0_doorTo b_0_labels b_0_oldXs b_0_oldYs b_0_oldLabels b_0_names b_0_oldNames b_0_wanted b_0_common b_0_flatEdges b_0_upEdges b_0_isPoint b_0_stack b_0_pieceLines b_0_pieceLeft b_0_pieceRight b_0_outs b_0_isSeen b_0_ringSpaces b_0_ringStarts b_0_ringSizes b_0_ringLeast b_0_looseLines b_0_looseXs b_0_looseYs b_0_looseReaches b_0_far cI v_0_code v_0_lines v_0_isFresh v_0_hasRun v_0_runs v_0_nx v_0_ny v_0_spaces v_0_oldNx v_0_oldNy v_0_oldSpaces v_0_points v_0_pieces v_0_rings v_0_outsideSides v_0_looseCount f_0_xs f_0_ys f_0_pieceBegins f_0_pieceEnds) H → va_D A (wl_Mo_lengthOf a_0 a_0_xs a_0_ys a_0_pieceBegins a_0_pieceEnds b_0_isFlat b_0_across b_0_lows b_0_highs b_0_thick b_0_doorCounts b_0_doorFrom b_0_doorTo b_0_labels b_0_oldXs b_0_oldYs b_0_oldLabels b_0_names b_0_oldNames b_0_wanted b_0_common b_0_flatEdges b_0_upEdges b_0_isPoint b_0_stack b_0_pieceLines b_0_pieceLeft b_0_pieceRight b_0_outs b_0_isSeen b_0_ringSpaces b_0_ringStarts b_0_ringSizes b_0_ringLeast b_0_looseLines b_0_looseXs b_0_looseYs b_0_looseReaches b_0_far cI v_0_code v_0_lines v_0_isFresh v_0_hasRun v_0_runs v_0_nx v_0_ny v_0_spaces v_0_oldNx v_0_oldNy v_0_oldSpaces v_0_points v_0_pieces v_0_rings v_0_outsideSides v_0_looseCount f_0_xs f_0_ys f_0_pieceBegins f_0_pieceEnds) → va_S A s.heap H locs → W p l e rm_Mo_lengthOf s m args below meth c H locs 0 0 Q (F0 m pc ls [.int R0]))
    (hm : m_Mo_lengthOf p1 f_0_xs f_0_ys f_0_pieceBegins f_0_pieceEnds = some R0) : ∀ (H : Heap) (locs : List Loc) (ls : Array Slot), va_P (dC, dI) vwCl (wl_Mo_lengthOf a_0 a_0_xs a_0_ys a_0_pieceBegins a_0_pieceEnds b_0_isFlat b_0_across b_0_lows b_0_highs b_0_thick b_0_doorCounts b_0_doorFrom b_0_doorTo b_0_labels b_0_oldXs b_0_oldYs b_0_oldLabels b_0_names b_0_oldNames b_0_wanted b_0_common b_0_flatEdges b_0_upEdges b_0_isPoint b_0_stack b_0_pieceLines b_0_pieceLeft b_0_pieceRight b_0_outs b_0_isSeen b_0_ringSpaces b_0_ringStarts b_0_ringSizes b_0_ringLeast b_0_looseLines b_0_looseXs b_0_looseYs b_0_looseReaches b_0_far cI v_0_code v_0_lines v_0_isFresh v_0_hasRun v_0_runs v_0_nx v_0_ny v_0_spaces v_0_oldNx v_0_oldNy v_0_oldSpaces v_0_points v_0_pieces v_0_rings v_0_outsideSides v_0_looseCount f_0_xs f_0_ys f_0_pieceBegins f_0_pieceEnds) H → va_D A (wl_Mo_lengthOf a_0 a_0_xs a_0_ys a_0_pieceBegins a_0_pieceEnds b_0_isFlat b_0_across b_0_lows b_0_highs b_0_thick b_0_doorCounts b_0_doorFrom b_0_doorTo b_0_labels b_0_oldXs b_0_oldYs b_0_oldLabels b_0_names b_0_oldNames b_0_wanted b_0_common b_0_flatEdges b_0_upEdges b_0_isPoint b_0_stack b_0_pieceLines b_0_pieceLeft b_0_pieceRight b_0_outs b_0_isSeen b_0_ringSpaces b_0_ringStarts b_0_ringSizes b_0_ringLeast b_0_looseLines b_0_looseXs b_0_looseYs b_0_looseReaches b_0_far cI v_0_code v_0_lines v_0_isFresh v_0_hasRun v_0_runs v_0_nx v_0_ny v_0_spaces v_0_oldNx v_0_oldNy v_0_oldSpaces v_0_points v_0_pieces v_0_rings v_0_outsideSides v_0_looseCount f_0_xs f_0_ys f_0_pieceBegins f_0_pieceEnds) → va_S A s.heap H locs → lv_has ls 4 [(0, .ref a_0), (1, .int p1)] → W p l e rm_Mo_lengthOf s m args below meth c H locs 0 0 Q (F0 m 0 ls []) := by
  intro H locs ls hP hD hS hl
  unfold m_Mo_lengthOf at hm
  refine lv_aload_n hx hb d_Mo_lengthOf_0 rfl (lv_at hl 0 rfl) ?_
  refine va_get (D := (dC, dI)) (ci := 11) (v := .ref a_0_pieceBegins) (C := "SpaceCyclesModel") (T := F_Mo) (N := 54) hx hb hts (in_F i_Mo) hown hK hP 0 rfl rfl 35 (by decide) (hts _ (in_c k_332)) (fun _ h9 => h9) rfl d_Mo_lengthOf_1 ?_
  refine lv_iload_n hx hb d_Mo_lengthOf_4 rfl (lv_at hl 1 rfl) ?_
  obtain ⟨hi1, hm⟩ := gI_e hm
  refine va_iald hx hb hK hP 3 0 rfl rfl hi1 d_Mo_lengthOf_5 ?_
  refine lv_topi (fun x2 ex2 => ?_)
  replace hm := lt_el hm ex2
  refine lv_istore_n (lv' := [(2, .int x2), (0, .ref a_0), (1, .int p1)]) hx hb d_Mo_lengthOf_6 rfl hl (by decide) rfl (fun ls hl => ?_)
  refine lv_aload_n hx hb d_Mo_lengthOf_7 rfl (lv_at hl 1 rfl) ?_
  refine va_get (D := (dC, dI)) (ci := 11) (v := .ref a_0_pieceEnds) (C := "SpaceCyclesModel") (T := F_Mo) (N := 54) hx hb hts (in_F i_Mo) hown hK hP 0 rfl rfl 36 (by decide) (hts _ (in_c k_333)) (fun _ h9 => h9) rfl d_Mo_lengthOf_8 ?_
  refine lv_iload_n hx hb d_Mo_lengthOf_11 rfl (lv_at hl 2 rfl) ?_
  obtain ⟨hi3, hm⟩ := gI_e hm
  refine va_iald hx hb hK hP 4 0 rfl rfl hi3 d_Mo_lengthOf_12 ?_
  refine lv_topi (fun x4 ex4 => ?_)
  replace hm := lt_el hm ex4
  refine lv_istore_n (lv' := [(3, .int x4), (2, .int x2), (0, .ref a_0), (1, .int p1)]) hx hb d_Mo_lengthOf_13 rfl hl (by decide) rfl (fun ls hl => ?_)
  refine lv_aload_n hx hb d_Mo_lengthOf_14 rfl (lv_at hl 2 rfl) ?_
  refine va_get (D := (dC, dI)) (ci := 11) (v := .ref a_0_xs) (C := "SpaceCyclesModel") (T := F_Mo) (N := 54) hx hb hts (in_F i_Mo) hown hK hP 0 rfl rfl 13 (by decide) (hts _ (in_c k_302)) (fun _ h9 => h9) rfl d_Mo_lengthOf_15 ?_
  refine lv_iload_n hx hb d_Mo_lengthOf_18 rfl (lv_at hl 0 rfl) ?_
  refine lv_bipush (v := 42) hx hb d_Mo_lengthOf_19 (by decide) ?_
  refine lv_idiv hx hb d_Mo_lengthOf_21 (by decide) ?_
  obtain ⟨hi5, hm⟩ := gI_e hm
  refine va_iald hx hb hK hP 1 0 rfl rfl hi5 d_Mo_lengthOf_22 ?_
  refine lv_aload_n hx hb d_Mo_lengthOf_23 rfl (lv_at hl 2 rfl) ?_
  refine va_get (D := (dC, dI)) (ci := 11) (v := .ref a_0_xs) (C := "SpaceCyclesModel") (T := F_Mo) (N := 54) hx hb hts (in_F i_Mo) hown hK hP 0 rfl rfl 13 (by decide) (hts _ (in_c k_302)) (fun _ h9 => h9) rfl d_Mo_lengthOf_24 ?_
  refine lv_iload_n hx hb d_Mo_lengthOf_27 rfl (lv_at hl 1 rfl) ?_
  refine lv_bipush (v := 42) hx hb d_Mo_lengthOf_28 (by decide) ?_
  refine lv_idiv hx hb d_Mo_lengthOf_30 (by decide) ?_
  obtain ⟨hi6, hm⟩ := gI_e hm
  refine va_iald hx hb hK hP 1 0 rfl rfl hi6 d_Mo_lengthOf_31 ?_
  refine lv_isub hx hb d_Mo_lengthOf_32 ?_
  refine lv_aload_n hx hb d_Mo_lengthOf_33 rfl (lv_at hl 2 rfl) ?_
  refine va_get (D := (dC, dI)) (ci := 11) (v := .ref a_0_ys) (C := "SpaceCyclesModel") (T := F_Mo) (N := 54) hx hb hts (in_F i_Mo) hown hK hP 0 rfl rfl 14 (by decide) (hts _ (in_c k_306)) (fun _ h9 => h9) rfl d_Mo_lengthOf_34 ?_
  refine lv_iload_n hx hb d_Mo_lengthOf_37 rfl (lv_at hl 0 rfl) ?_
  refine lv_bipush (v := 42) hx hb d_Mo_lengthOf_38 (by decide) ?_
  refine lv_irem hx hb d_Mo_lengthOf_40 (by decide) ?_
  obtain ⟨hi7, hm⟩ := gI_e hm
  refine va_iald hx hb hK hP 2 0 rfl rfl hi7 d_Mo_lengthOf_41 ?_
  refine lv_iadd hx hb d_Mo_lengthOf_42 ?_
  refine lv_aload_n hx hb d_Mo_lengthOf_43 rfl (lv_at hl 2 rfl) ?_
  refine va_get (D := (dC, dI)) (ci := 11) (v := .ref a_0_ys) (C := "SpaceCyclesModel") (T := F_Mo) (N := 54) hx hb hts (in_F i_Mo) hown hK hP 0 rfl rfl 14 (by decide) (hts _ (in_c k_306)) (fun _ h9 => h9) rfl d_Mo_lengthOf_44 ?_
  refine lv_iload_n hx hb d_Mo_lengthOf_47 rfl (lv_at hl 1 rfl) ?_
  refine lv_bipush (v := 42) hx hb d_Mo_lengthOf_48 (by decide) ?_
  refine lv_irem hx hb d_Mo_lengthOf_50 (by decide) ?_
  obtain ⟨hi8, hm⟩ := gI_e hm
  refine va_iald hx hb hK hP 2 0 rfl rfl hi8 d_Mo_lengthOf_51 ?_
  refine lv_isub hx hb d_Mo_lengthOf_52 ?_
  cases hm
  exact hret _ H locs ls d_Mo_lengthOf_53 hP hD hS
set_option maxHeartbeats 4000000 in
set_option maxRecDepth 100000 in
theorem c_Mo_lengthOf (l : Launch) (dC : Nat → ClassId) (dI : Nat → Nat → Nat) {cI cZ cJ : ClassId} (a_0 a_0_xs a_0_ys a_0_pieceBegins a_0_pieceEnds b_0_isFlat b_0_across b_0_lows b_0_highs b_0_thick b_0_doorCounts b_0_doorFrom b_0_doorTo b_0_labels b_0_oldXs b_0_oldYs b_0_oldLabels b_0_names b_0_oldNames b_0_wanted b_0_common b_0_flatEdges b_0_upEdges b_0_isPoint b_0_stack b_0_pieceLines b_0_pieceLeft b_0_pieceRight b_0_outs b_0_isSeen b_0_ringSpaces b_0_ringStarts b_0_ringSizes b_0_ringLeast b_0_looseLines b_0_looseXs b_0_looseYs b_0_looseReaches b_0_far : Nat) (sz : Nat) (v_0_code : Int32) (v_0_lines : Int32) (v_0_isFresh : Int32) (v_0_hasRun : Int32) (v_0_runs : Int32) (v_0_nx : Int32) (v_0_ny : Int32) (v_0_spaces : Int32) (v_0_oldNx : Int32) (v_0_oldNy : Int32) (v_0_oldSpaces : Int32) (v_0_points : Int32) (v_0_pieces : Int32) (v_0_rings : Int32) (v_0_outsideSides : Int32) (v_0_looseCount : Int32) (f_0_xs : Nat → Int32) (f_0_ys : Nat → Int32) (f_0_pieceBegins : Nat → Int32) (f_0_pieceEnds : Nat → Int32) (p1 : Int32) (R0 : Int32) (hm : m_Mo_lengthOf p1 f_0_xs f_0_ys f_0_pieceBegins f_0_pieceEnds = some R0) : Met l y_Mo_lengthOf w_Mo_lengthOf rm_Mo_lengthOf (PP dC dI [(cI, .int), (cZ, .boolean), (cJ, .long)] [.ref a_0, .int p1] sz (wl_Mo_lengthOf a_0 a_0_xs a_0_ys a_0_pieceBegins a_0_pieceEnds b_0_isFlat b_0_across b_0_lows b_0_highs b_0_thick b_0_doorCounts b_0_doorFrom b_0_doorTo b_0_labels b_0_oldXs b_0_oldYs b_0_oldLabels b_0_names b_0_oldNames b_0_wanted b_0_common b_0_flatEdges b_0_upEdges b_0_isPoint b_0_stack b_0_pieceLines b_0_pieceLeft b_0_pieceRight b_0_outs b_0_isSeen b_0_ringSpaces b_0_ringStarts b_0_ringSizes b_0_ringLeast b_0_looseLines b_0_looseXs b_0_looseYs b_0_looseReaches b_0_far cI v_0_code v_0_lines v_0_isFresh v_0_hasRun v_0_runs v_0_nx v_0_ny v_0_spaces v_0_oldNx v_0_oldNy v_0_oldSpaces v_0_points v_0_pieces v_0_rings v_0_outsideSides v_0_looseCount f_0_xs f_0_ys f_0_pieceBegins f_0_pieceEnds)) (QI dC dI [(cI, .int), (cZ, .boolean), (cJ, .long)] sz (wl_Mo_lengthOf a_0 a_0_xs a_0_ys a_0_pieceBegins a_0_pieceEnds b_0_isFlat b_0_across b_0_lows b_0_highs b_0_thick b_0_doorCounts b_0_doorFrom b_0_doorTo b_0_labels b_0_oldXs b_0_oldYs b_0_oldLabels b_0_names b_0_oldNames b_0_wanted b_0_common b_0_flatEdges b_0_upEdges b_0_isPoint b_0_stack b_0_pieceLines b_0_pieceLeft b_0_pieceRight b_0_outs b_0_isSeen b_0_ringSpaces b_0_ringStarts b_0_ringSizes b_0_ringLeast b_0_looseLines b_0_looseXs b_0_looseYs b_0_looseReaches b_0_far cI v_0_code v_0_lines v_0_isFresh v_0_hasRun v_0_runs v_0_nx v_0_ny v_0_spaces v_0_oldNx v_0_oldNy v_0_oldSpaces v_0_points v_0_pieces v_0_rings v_0_outsideSides v_0_looseCount f_0_xs f_0_ys f_0_pieceBegins f_0_pieceEnds) (wl_Mo_lengthOf a_0 a_0_xs a_0_ys a_0_pieceBegins a_0_pieceEnds b_0_isFlat b_0_across b_0_lows b_0_highs b_0_thick b_0_doorCounts b_0_doorFrom b_0_doorTo b_0_labels b_0_oldXs b_0_oldYs b_0_oldLabels b_0_names b_0_oldNames b_0_wanted b_0_common b_0_flatEdges b_0_upEdges b_0_isPoint b_0_stack b_0_pieceLines b_0_pieceLeft b_0_pieceRight b_0_outs b_0_isSeen b_0_ringSpaces b_0_ringStarts b_0_ringSizes b_0_ringLeast b_0_looseLines b_0_looseXs b_0_looseYs b_0_looseReaches b_0_far cI v_0_code v_0_lines v_0_isFresh v_0_hasRun v_0_runs v_0_nx v_0_ny v_0_spaces v_0_oldNx v_0_oldNy v_0_oldSpaces v_0_points v_0_pieces v_0_rings v_0_outsideSides v_0_looseCount f_0_xs f_0_ys f_0_pieceBegins f_0_pieceEnds) R0) 0 0 (va_A (wl_Mo_lengthOf a_0 a_0_xs a_0_ys a_0_pieceBegins a_0_pieceEnds b_0_isFlat b_0_across b_0_lows b_0_highs b_0_thick b_0_doorCounts b_0_doorFrom b_0_doorTo b_0_labels b_0_oldXs b_0_oldYs b_0_oldLabels b_0_names b_0_oldNames b_0_wanted b_0_common b_0_flatEdges b_0_upEdges b_0_isPoint b_0_stack b_0_pieceLines b_0_pieceLeft b_0_pieceRight b_0_outs b_0_isSeen b_0_ringSpaces b_0_ringStarts b_0_ringSizes b_0_ringLeast b_0_looseLines b_0_looseXs b_0_looseYs b_0_looseReaches b_0_far cI v_0_code v_0_lines v_0_isFresh v_0_hasRun v_0_runs v_0_nx v_0_ny v_0_spaces v_0_oldNx v_0_oldNy v_0_oldSpaces v_0_points v_0_pieces v_0_rings v_0_outsideSides v_0_looseCount f_0_xs f_0_ys f_0_pieceBegins f_0_pieceEnds) sz) := by
  refine Met.ofW (cc := b_Mo_lengthOf) (maxL := 4) (ret := (some .int)) (by decide) rfl ?_
  intro p e s m args below meth c s₁ B hml hv
  obtain ⟨rfl, hsz, hP, hK, hD0, hN⟩ := hv
  subst hsz
  have hl := lv_entry ([.ref a_0, .int p1]) (n := 4) (Nat.le_of_ble_eq_true rfl)
  rw [lg_entry_eq]
  generalize (lg_sl ([.ref a_0, .int p1]) ++ List.replicate (4 - (lg_sl ([.ref a_0, .int p1])).length) Slot.unset).toArray = ls at hl ⊢
  exact t_Mo_lengthOf a_0 a_0_xs a_0_ys a_0_pieceBegins a_0_pieceEnds b_0_isFlat b_0_across b_0_lows b_0_highs b_0_thick b_0_doorCounts b_0_doorFrom b_0_doorTo b_0_labels b_0_oldXs b_0_oldYs b_0_oldLabels b_0_names b_0_oldNames b_0_wanted b_0_common b_0_flatEdges b_0_upEdges b_0_isPoint b_0_stack b_0_pieceLines b_0_pieceLeft b_0_pieceRight b_0_outs b_0_isSeen b_0_ringSpaces b_0_ringStarts b_0_ringSizes b_0_ringLeast b_0_looseLines b_0_looseXs b_0_looseYs b_0_looseReaches b_0_far v_0_code v_0_lines v_0_isFresh v_0_hasRun v_0_runs v_0_nx v_0_ny v_0_spaces v_0_oldNx v_0_oldNy v_0_oldSpaces v_0_points v_0_pieces v_0_rings v_0_outsideSides v_0_looseCount f_0_xs f_0_ys f_0_pieceBegins f_0_pieceEnds p1 R0 B.exec B.bytes hml (findClass_of_methodNamed B.named) (atoms_spec (ws := w_Mo_lengthOf) B.pre) hK hN (fun q h => Or.inr h) (fun pc H locs ls hd hP9 hD9 hS => W.iret B.exec B.bytes B.returns (fun t ht hW => ⟨⟨_, (), rfl, rfl, by rw [ht]; exact hP9, va_K.moved hW.alike hK, hD9⟩, hS.F ht⟩) hS.2.2 hd) hm s.heap [] ls hP hD0.self va_S.rf hl

theorem k_336 : ((.code ⟨"SpaceCyclesModel", "directionOf", "(I)I"⟩ prog_13_method_20_code 2 (some .int)) : Cond) ∈ gl := gl_i 1366 (by decide +kernel) (by decide +kernel)
theorem k_337 : ((.selects "SpaceCyclesModel" ⟨"SpaceCyclesModel", "directionOf", "(I)I"⟩ ⟨"SpaceCyclesModel", "directionOf", "(I)I"⟩) : Cond) ∈ gl := gl_s (by decide +kernel) (by decide +kernel)
theorem k_338 : ((.instanceMethod ⟨"SpaceCyclesModel", "directionOf", "(I)I"⟩) : Cond) ∈ gl := gl_i 1365 (by decide +kernel) (by decide +kernel)
theorem k_339 : ((.methodLink "SpaceCyclesModel" 191 ⟨"SpaceCyclesModel", "directionOf", "(I)I"⟩) : Cond) ∈ gl := gl_i 1363 (by decide +kernel) (by decide +kernel)
theorem k_340 : ((.code ⟨"SpaceCyclesModel", "beginOf", "(I)I"⟩ prog_13_method_19_code 2 (some .int)) : Cond) ∈ gl := gl_i 1362 (by decide +kernel) (by decide +kernel)
theorem k_341 : ((.selects "SpaceCyclesModel" ⟨"SpaceCyclesModel", "beginOf", "(I)I"⟩ ⟨"SpaceCyclesModel", "beginOf", "(I)I"⟩) : Cond) ∈ gl := gl_s (by decide +kernel) (by decide +kernel)
theorem k_342 : ((.instanceMethod ⟨"SpaceCyclesModel", "beginOf", "(I)I"⟩) : Cond) ∈ gl := gl_i 1361 (by decide +kernel) (by decide +kernel)
theorem k_343 : ((.methodLink "SpaceCyclesModel" 195 ⟨"SpaceCyclesModel", "beginOf", "(I)I"⟩) : Cond) ∈ gl := gl_i 1359 (by decide +kernel) (by decide +kernel)
-- SpaceCyclesModel.next(I)I
abbrev b_Mo_next : ByteArray := prog_13_method_22_code
abbrev y_Mo_next : MethodName := ⟨"SpaceCyclesModel", "next", "(I)I"⟩
abbrev w_Mo_next : List Cond := Cond.code y_Mo_next b_Mo_next 7 (some .int) :: gl
abbrev rm_Mo_next : Room := { frames := 1, cells := 0, slots := 0, locals := 21 }
theorem d_Mo_next_0 : decode b_Mo_next 0 = .ok (.aload_n 0, 1) := by decide +kernel
theorem d_Mo_next_1 : decode b_Mo_next 1 = .ok (.iload_n 1, 1) := by decide +kernel
theorem d_Mo_next_2 : decode b_Mo_next 2 = .ok (.invokevirtual 191, 3) := by decide +kernel
theorem d_Mo_next_5 : decode b_Mo_next 5 = .ok (.istore_n 2, 1) := by decide +kernel
theorem d_Mo_next_6 : decode b_Mo_next 6 = .ok (.aload_n 0, 1) := by decide +kernel
theorem d_Mo_next_7 : decode b_Mo_next 7 = .ok (.iload_n 1, 1) := by decide +kernel
theorem d_Mo_next_8 : decode b_Mo_next 8 = .ok (.iconst 2, 1) := by decide +kernel
theorem d_Mo_next_9 : decode b_Mo_next 9 = .ok (.irem, 1) := by decide +kernel
theorem d_Mo_next_10 : decode b_Mo_next 10 = .ok (.ifCond .ne 9, 3) := by decide +kernel
theorem d_Mo_next_13 : decode b_Mo_next 13 = .ok (.iload_n 1, 1) := by decide +kernel
theorem d_Mo_next_14 : decode b_Mo_next 14 = .ok (.iconst 1, 1) := by decide +kernel
theorem d_Mo_next_15 : decode b_Mo_next 15 = .ok (.iadd, 1) := by decide +kernel
theorem d_Mo_next_16 : decode b_Mo_next 16 = .ok (.goto 6, 3) := by decide +kernel
theorem d_Mo_next_19 : decode b_Mo_next 19 = .ok (.iload_n 1, 1) := by decide +kernel
theorem d_Mo_next_20 : decode b_Mo_next 20 = .ok (.iconst 1, 1) := by decide +kernel
theorem d_Mo_next_21 : decode b_Mo_next 21 = .ok (.isub, 1) := by decide +kernel
theorem d_Mo_next_22 : decode b_Mo_next 22 = .ok (.invokevirtual 195, 3) := by decide +kernel
theorem d_Mo_next_25 : decode b_Mo_next 25 = .ok (.istore_n 3, 1) := by decide +kernel
theorem d_Mo_next_26 : decode b_Mo_next 26 = .ok (.aload_n 0, 1) := by decide +kernel
theorem d_Mo_next_27 : decode b_Mo_next 27 = .ok (.getfield 93, 3) := by decide +kernel
theorem d_Mo_next_30 : decode b_Mo_next 30 = .ok (.iconst 4, 1) := by decide +kernel
theorem d_Mo_next_31 : decode b_Mo_next 31 = .ok (.iload_n 3, 1) := by decide +kernel
theorem d_Mo_next_32 : decode b_Mo_next 32 = .ok (.imul, 1) := by decide +kernel
theorem d_Mo_next_33 : decode b_Mo_next 33 = .ok (.iload_n 2, 1) := by decide +kernel
theorem d_Mo_next_34 : decode b_Mo_next 34 = .ok (.iconst 1, 1) := by decide +kernel
theorem d_Mo_next_35 : decode b_Mo_next 35 = .ok (.iadd, 1) := by decide +kernel
theorem d_Mo_next_36 : decode b_Mo_next 36 = .ok (.iconst 4, 1) := by decide +kernel
theorem d_Mo_next_37 : decode b_Mo_next 37 = .ok (.irem, 1) := by decide +kernel
theorem d_Mo_next_38 : decode b_Mo_next 38 = .ok (.iadd, 1) := by decide +kernel
theorem d_Mo_next_39 : decode b_Mo_next 39 = .ok (.iaload, 1) := by decide +kernel
theorem d_Mo_next_40 : decode b_Mo_next 40 = .ok (.istore 4, 2) := by decide +kernel
theorem d_Mo_next_42 : decode b_Mo_next 42 = .ok (.aload_n 0, 1) := by decide +kernel
theorem d_Mo_next_43 : decode b_Mo_next 43 = .ok (.getfield 93, 3) := by decide +kernel
theorem d_Mo_next_46 : decode b_Mo_next 46 = .ok (.iconst 4, 1) := by decide +kernel
theorem d_Mo_next_47 : decode b_Mo_next 47 = .ok (.iload_n 3, 1) := by decide +kernel
theorem d_Mo_next_48 : decode b_Mo_next 48 = .ok (.imul, 1) := by decide +kernel
theorem d_Mo_next_49 : decode b_Mo_next 49 = .ok (.iload_n 2, 1) := by decide +kernel
theorem d_Mo_next_50 : decode b_Mo_next 50 = .ok (.iadd, 1) := by decide +kernel
theorem d_Mo_next_51 : decode b_Mo_next 51 = .ok (.iaload, 1) := by decide +kernel
theorem d_Mo_next_52 : decode b_Mo_next 52 = .ok (.istore 5, 2) := by decide +kernel
theorem d_Mo_next_54 : decode b_Mo_next 54 = .ok (.aload_n 0, 1) := by decide +kernel
theorem d_Mo_next_55 : decode b_Mo_next 55 = .ok (.getfield 93, 3) := by decide +kernel
theorem d_Mo_next_58 : decode b_Mo_next 58 = .ok (.iconst 4, 1) := by decide +kernel
theorem d_Mo_next_59 : decode b_Mo_next 59 = .ok (.iload_n 3, 1) := by decide +kernel
theorem d_Mo_next_60 : decode b_Mo_next 60 = .ok (.imul, 1) := by decide +kernel
theorem d_Mo_next_61 : decode b_Mo_next 61 = .ok (.iload_n 2, 1) := by decide +kernel
theorem d_Mo_next_62 : decode b_Mo_next 62 = .ok (.iconst 3, 1) := by decide +kernel
theorem d_Mo_next_63 : decode b_Mo_next 63 = .ok (.iadd, 1) := by decide +kernel
theorem d_Mo_next_64 : decode b_Mo_next 64 = .ok (.iconst 4, 1) := by decide +kernel
theorem d_Mo_next_65 : decode b_Mo_next 65 = .ok (.irem, 1) := by decide +kernel
theorem d_Mo_next_66 : decode b_Mo_next 66 = .ok (.iadd, 1) := by decide +kernel
theorem d_Mo_next_67 : decode b_Mo_next 67 = .ok (.iaload, 1) := by decide +kernel
theorem d_Mo_next_68 : decode b_Mo_next 68 = .ok (.istore 6, 2) := by decide +kernel
theorem d_Mo_next_70 : decode b_Mo_next 70 = .ok (.iload 4, 2) := by decide +kernel
theorem d_Mo_next_72 : decode b_Mo_next 72 = .ok (.ifCond .lt 8, 3) := by decide +kernel
theorem d_Mo_next_75 : decode b_Mo_next 75 = .ok (.iload 4, 2) := by decide +kernel
theorem d_Mo_next_77 : decode b_Mo_next 77 = .ok (.goto 37, 3) := by decide +kernel
theorem d_Mo_next_80 : decode b_Mo_next 80 = .ok (.iload 5, 2) := by decide +kernel
theorem d_Mo_next_82 : decode b_Mo_next 82 = .ok (.ifCond .lt 8, 3) := by decide +kernel
theorem d_Mo_next_85 : decode b_Mo_next 85 = .ok (.iload 5, 2) := by decide +kernel
theorem d_Mo_next_87 : decode b_Mo_next 87 = .ok (.goto 27, 3) := by decide +kernel
theorem d_Mo_next_90 : decode b_Mo_next 90 = .ok (.iload 6, 2) := by decide +kernel
theorem d_Mo_next_92 : decode b_Mo_next 92 = .ok (.ifCond .lt 8, 3) := by decide +kernel
theorem d_Mo_next_95 : decode b_Mo_next 95 = .ok (.iload 6, 2) := by decide +kernel
theorem d_Mo_next_97 : decode b_Mo_next 97 = .ok (.goto 17, 3) := by decide +kernel
theorem d_Mo_next_100 : decode b_Mo_next 100 = .ok (.aload_n 0, 1) := by decide +kernel
theorem d_Mo_next_101 : decode b_Mo_next 101 = .ok (.getfield 93, 3) := by decide +kernel
theorem d_Mo_next_104 : decode b_Mo_next 104 = .ok (.iconst 4, 1) := by decide +kernel
theorem d_Mo_next_105 : decode b_Mo_next 105 = .ok (.iload_n 3, 1) := by decide +kernel
theorem d_Mo_next_106 : decode b_Mo_next 106 = .ok (.imul, 1) := by decide +kernel
theorem d_Mo_next_107 : decode b_Mo_next 107 = .ok (.iload_n 2, 1) := by decide +kernel
theorem d_Mo_next_108 : decode b_Mo_next 108 = .ok (.iconst 2, 1) := by decide +kernel
theorem d_Mo_next_109 : decode b_Mo_next 109 = .ok (.iadd, 1) := by decide +kernel
theorem d_Mo_next_110 : decode b_Mo_next 110 = .ok (.iconst 4, 1) := by decide +kernel
theorem d_Mo_next_111 : decode b_Mo_next 111 = .ok (.irem, 1) := by decide +kernel
theorem d_Mo_next_112 : decode b_Mo_next 112 = .ok (.iadd, 1) := by decide +kernel
theorem d_Mo_next_113 : decode b_Mo_next 113 = .ok (.iaload, 1) := by decide +kernel
theorem d_Mo_next_114 : decode b_Mo_next 114 = .ok (.ireturn, 1) := by decide +kernel
abbrev wl_Mo_next (a_0 : Nat) (a_0_isFlat : Nat) (a_0_pieceLines : Nat) (a_0_pieceBegins : Nat) (a_0_pieceEnds : Nat) (a_0_outs : Nat) (b_0_across : Nat) (b_0_lows : Nat) (b_0_highs : Nat) (b_0_thick : Nat) (b_0_doorCounts : Nat) (b_0_doorFrom : Nat) (b_0_doorTo : Nat) (b_0_xs : Nat) (b_0_ys : Nat) (b_0_labels : Nat) (b_0_oldXs : Nat) (b_0_oldYs : Nat) (b_0_oldLabels : Nat) (b_0_names : Nat) (b_0_oldNames : Nat) (b_0_wanted : Nat) (b_0_common : Nat) (b_0_flatEdges : Nat) (b_0_upEdges : Nat) (b_0_isPoint : Nat) (b_0_stack : Nat) (b_0_pieceLeft : Nat) (b_0_pieceRight : Nat) (b_0_isSeen : Nat) (b_0_ringSpaces : Nat) (b_0_ringStarts : Nat) (b_0_ringSizes : Nat) (b_0_ringLeast : Nat) (b_0_looseLines : Nat) (b_0_looseXs : Nat) (b_0_looseYs : Nat) (b_0_looseReaches : Nat) (b_0_far : Nat) (cZ : ClassId) (cI : ClassId) (v_0_code : Int32) (v_0_lines : Int32) (v_0_isFresh : Int32) (v_0_hasRun : Int32) (v_0_runs : Int32) (v_0_nx : Int32) (v_0_ny : Int32) (v_0_spaces : Int32) (v_0_oldNx : Int32) (v_0_oldNy : Int32) (v_0_oldSpaces : Int32) (v_0_points : Int32) (v_0_pieces : Int32) (v_0_rings : Int32) (v_0_outsideSides : Int32) (v_0_looseCount : Int32) (f_0_isFlat : Nat → Int32) (f_0_pieceLines : Nat → Int32) (f_0_pieceBegins : Nat → Int32) (f_0_pieceEnds : Nat → Int32) (f_0_outs : Nat → Int32) : va_W := [(a_0, .inr (11, [.int v_0_code, .ref a_0_isFlat, .ref b_0_across, .ref b_0_lows, .ref b_0_highs, .ref b_0_thick, .int v_0_lines, .ref b_0_doorCounts, .ref b_0_doorFrom, .ref b_0_doorTo, .int v_0_isFresh, .int v_0_hasRun, .int v_0_runs, .ref b_0_xs, .ref b_0_ys, .int v_0_nx, .int v_0_ny, .ref b_0_labels, .int v_0_spaces, .ref b_0_oldXs, .ref b_0_oldYs, .int v_0_oldNx, .int v_0_oldNy, .ref b_0_oldLabels, .int v_0_oldSpaces, .ref b_0_names, .ref b_0_oldNames, .ref b_0_wanted, .ref b_0_common, .ref b_0_flatEdges, .ref b_0_upEdges, .ref b_0_isPoint, .int v_0_points, .ref b_0_stack, .ref a_0_pieceLines, .ref a_0_pieceBegins, .ref a_0_pieceEnds, .ref b_0_pieceLeft, .ref b_0_pieceRight, .int v_0_pieces, .ref a_0_outs, .ref b_0_isSeen, .ref b_0_ringSpaces, .ref b_0_ringStarts, .ref b_0_ringSizes, .ref b_0_ringLeast, .int v_0_rings, .int v_0_outsideSides, .ref b_0_looseLines, .ref b_0_looseXs, .ref b_0_looseYs, .ref b_0_looseReaches, .int v_0_looseCount, .ref b_0_far])), (a_0_isFlat, .inl (cZ, 20, .inl f_0_isFlat)), (a_0_pieceLines, .inl (cI, 900, .inl f_0_pieceLines)), (a_0_pieceBegins, .inl (cI, 900, .inl f_0_pieceBegins)), (a_0_pieceEnds, .inl (cI, 900, .inl f_0_pieceEnds)), (a_0_outs, .inl (cI, 7056, .inl f_0_outs))]
def m_Mo_next (p1 : Int32) (f_0_isFlat : Nat → Int32) (f_0_pieceLines : Nat → Int32) (f_0_pieceBegins : Nat → Int32) (f_0_pieceEnds : Nat → Int32) (f_0_outs : Nat → Int32) : Option (Int32) :=
  bd1 (m_Mo_directionOf p1 f_0_isFlat f_0_pieceLines) fun r1 =>
  bd1 (
    if (p1 - p1 / 2 * 2) = 0 then (
    some (p1 + 1))
  else (
    some (p1 - 1)))
  fun (x6 : Int32) =>
  bd1 (m_Mo_beginOf x6 f_0_pieceBegins f_0_pieceEnds) fun r8 =>
    gI ((4 * r8) + ((r1 + 1) - (r1 + 1) / 4 * 4)) 7056 <|
    lt_ (f_0_outs ((4 * r8) + ((r1 + 1) - (r1 + 1) / 4 * 4)).toNatClampNeg) fun x11 =>
    gI ((4 * r8) + r1) 7056 <|
    lt_ (f_0_outs ((4 * r8) + r1).toNatClampNeg) fun x13 =>
    gI ((4 * r8) + ((r1 + 3) - (r1 + 3) / 4 * 4)) 7056 <|
    lt_ (f_0_outs ((4 * r8) + ((r1 + 3) - (r1 + 3) / 4 * 4)).toNatClampNeg) fun x15 =>
    bd1 (
      if x11 < 0 then (
      if x13 < 0 then (
        if x15 < 0 then (
          gI ((4 * r8) + ((r1 + 2) - (r1 + 2) / 4 * 4)) 7056 <|
          some (f_0_outs ((4 * r8) + ((r1 + 2) - (r1 + 2) / 4 * 4)).toNatClampNeg))
        else (
          some x15))
      else (
        some x13))
    else (
      some x11))
    fun (x19 : Int32) =>
    some x19

set_option maxHeartbeats 4000000 in
set_option maxRecDepth 100000 in
theorem t_Mo_next {p : Program} {l : Launch} {e : Env} {s : State} {m : MethodId} {args : Array Value} {below : List Frame} {meth : Method} {c : Code} {A : Nat → Prop} {Q : State → Prop} {dC : Nat → ClassId} {dI : Nat → Nat → Nat} {cI cZ cJ : ClassId} (a_0 a_0_isFlat a_0_pieceLines a_0_pieceBegins a_0_pieceEnds a_0_outs b_0_across b_0_lows b_0_highs b_0_thick b_0_doorCounts b_0_doorFrom b_0_doorTo b_0_xs b_0_ys b_0_labels b_0_oldXs b_0_oldYs b_0_oldLabels b_0_names b_0_oldNames b_0_wanted b_0_common b_0_flatEdges b_0_upEdges b_0_isPoint b_0_stack b_0_pieceLeft b_0_pieceRight b_0_isSeen b_0_ringSpaces b_0_ringStarts b_0_ringSizes b_0_ringLeast b_0_looseLines b_0_looseXs b_0_looseYs b_0_looseReaches b_0_far : Nat) (v_0_code : Int32) (v_0_lines : Int32) (v_0_isFresh : Int32) (v_0_hasRun : Int32) (v_0_runs : Int32) (v_0_nx : Int32) (v_0_ny : Int32) (v_0_spaces : Int32) (v_0_oldNx : Int32) (v_0_oldNy : Int32) (v_0_oldSpaces : Int32) (v_0_points : Int32) (v_0_pieces : Int32) (v_0_rings : Int32) (v_0_outsideSides : Int32) (v_0_looseCount : Int32) (f_0_isFlat : Nat → Int32) (f_0_pieceLines : Nat → Int32) (f_0_pieceBegins : Nat → Int32) (f_0_pieceEnds : Nat → Int32) (f_0_outs : Nat → Int32) (p1 : Int32) (R0 : Int32) (hx : p.tables.exec = Jvm.exec) (hb : c.code = b_Mo_next) (hml : c.maxLocals = 7) (hown : s.vm.findClass "SpaceCyclesModel" = some m.cls) (hts : ∀ w ∈ w_Mo_next, w.before args s = true) (hK : va_K (dC, dI) vwCl [(cI, .int), (cZ, .boolean), (cJ, .long)] s) (hN : NX s) (hA : ∀ q : Nat, s.heap.size ≤ q → A q)
    (hret : ∀ (pc : Nat) (H : Heap) (locs : List Loc) (ls : Array Slot), decode b_Mo_next pc = .ok (.ireturn, 1) → va_P (dC, dI) vwCl (wl_Mo_next a_0 a_0_isFlat a_0_pieceLines a_0_pieceBegins a_0_pieceEnds a_0_outs b_0_across b_0_lows b_0_highs b_0_thick b_0_doorCounts b_0_doorFrom b_0_doorTo b_0_xs b_0_ys b_0_labels b_0_oldXs b_0_oldYs b_0_oldLabels b_0_names b_0_oldNames b_0_wanted b_0_common b_0_flatEdges b_0_upEdges b_0_isPoint b_0_stack b_0_pieceLeft b_0_pieceRight b_0_isSeen b_0_ringSpaces b_0_ringStarts b_0_ringSizes b_0_ringLeast b_0_looseLines b_0_looseXs b_0_looseYs b_0_looseReaches b_0_far cZ cI v_0_code v_0_lines v_0_isFresh v_0_hasRun v_0_runs v_0_nx v_0_ny v_0_spaces v_0_oldNx v_0_oldNy v_0_oldSpaces v_0_points v_0_pieces v_0_rings v_0_outsideSides v_0_looseCount f_0_isFlat f_0_pieceLines f_0_pieceBegins f_0_pieceEnds f_0_outs) H → va_D A (wl_Mo_next a_0 a_0_isFlat a_0_pieceLines a_0_pieceBegins a_0_pieceEnds a_0_outs b_0_across b_0_lows b_0_highs b_0_thick b_0_doorCounts b_0_doorFrom b_0_doorTo b_0_xs b_0_ys b_0_labels b_0_oldXs b_0_oldYs b_0_oldLabels b_0_names b_0_oldNames b_0_wanted b_0_common b_0_flatEdges b_0_upEdges b_0_isPoint b_0_stack b_0_pieceLeft b_0_pieceRight b_0_isSeen b_0_ringSpaces b_0_ringStarts b_0_ringSizes b_0_ringLeast b_0_looseLines b_0_looseXs b_0_looseYs b_0_looseReaches b_0_far cZ cI v_0_code v_0_lines v_0_isFresh v_0_hasRun v_0_runs v_0_nx v_0_ny v_0_spaces v_0_oldNx v_0_oldNy v_0_oldSpaces v_0_points v_0_pieces v_0_rings v_0_outsideSides v_0_looseCount f_0_isFlat f_0_pieceLines f_0_pieceBegins f_0_pieceEnds f_0_outs) → va_S A s.heap H locs → W p l e rm_Mo_next s m args below meth c H locs 0 0 Q (F0 m pc ls [.int R0]))
    (hm : m_Mo_next p1 f_0_isFlat f_0_pieceLines f_0_pieceBegins f_0_pieceEnds f_0_outs = some R0) : ∀ (H : Heap) (locs : List Loc) (ls : Array Slot), va_P (dC, dI) vwCl (wl_Mo_next a_0 a_0_isFlat a_0_pieceLines a_0_pieceBegins a_0_pieceEnds a_0_outs b_0_across b_0_lows b_0_highs b_0_thick b_0_doorCounts b_0_doorFrom b_0_doorTo b_0_xs b_0_ys b_0_labels b_0_oldXs b_0_oldYs b_0_oldLabels b_0_names b_0_oldNames b_0_wanted b_0_common b_0_flatEdges b_0_upEdges b_0_isPoint b_0_stack b_0_pieceLeft b_0_pieceRight b_0_isSeen b_0_ringSpaces b_0_ringStarts b_0_ringSizes b_0_ringLeast b_0_looseLines b_0_looseXs b_0_looseYs b_0_looseReaches b_0_far cZ cI v_0_code v_0_lines v_0_isFresh v_0_hasRun v_0_runs v_0_nx v_0_ny v_0_spaces v_0_oldNx v_0_oldNy v_0_oldSpaces v_0_points v_0_pieces v_0_rings v_0_outsideSides v_0_looseCount f_0_isFlat f_0_pieceLines f_0_pieceBegins f_0_pieceEnds f_0_outs) H → va_D A (wl_Mo_next a_0 a_0_isFlat a_0_pieceLines a_0_pieceBegins a_0_pieceEnds a_0_outs b_0_across b_0_lows b_0_highs b_0_thick b_0_doorCounts b_0_doorFrom b_0_doorTo b_0_xs b_0_ys b_0_labels b_0_oldXs b_0_oldYs b_0_oldLabels b_0_names b_0_oldNames b_0_wanted b_0_common b_0_flatEdges b_0_upEdges b_0_isPoint b_0_stack b_0_pieceLeft b_0_pieceRight b_0_isSeen b_0_ringSpaces b_0_ringStarts b_0_ringSizes b_0_ringLeast b_0_looseLines b_0_looseXs b_0_looseYs b_0_looseReaches b_0_far cZ cI v_0_code v_0_lines v_0_isFresh v_0_hasRun v_0_runs v_0_nx v_0_ny v_0_spaces v_0_oldNx v_0_oldNy v_0_oldSpaces v_0_points v_0_pieces v_0_rings v_0_outsideSides v_0_looseCount f_0_isFlat f_0_pieceLines f_0_pieceBegins f_0_pieceEnds f_0_outs) → va_S A s.heap H locs → lv_has ls 7 [(0, .ref a_0), (1, .int p1)] → W p l e rm_Mo_next s m args below meth c H locs 0 0 Q (F0 m 0 ls []) := by
  intro H locs ls hP hD hS hl
  unfold m_Mo_next at hm
  refine lv_aload_n hx hb d_Mo_next_0 rfl (lv_at hl 0 rfl) ?_
  refine lv_iload_n hx hb d_Mo_next_1 rfl (lv_at hl 1 rfl) ?_
  obtain ⟨r1, hb2, hm⟩ := bd1_e hm
  have hPc := hP.sub (ws' := (wl_Mo_directionOf a_0 a_0_isFlat a_0_pieceLines b_0_across b_0_lows b_0_highs b_0_thick b_0_doorCounts b_0_doorFrom b_0_doorTo b_0_xs b_0_ys b_0_labels b_0_oldXs b_0_oldYs b_0_oldLabels b_0_names b_0_oldNames b_0_wanted b_0_common b_0_flatEdges b_0_upEdges b_0_isPoint b_0_stack a_0_pieceBegins a_0_pieceEnds b_0_pieceLeft b_0_pieceRight a_0_outs b_0_isSeen b_0_ringSpaces b_0_ringStarts b_0_ringSizes b_0_ringLeast b_0_looseLines b_0_looseXs b_0_looseYs b_0_looseReaches b_0_far cZ cI v_0_code v_0_lines v_0_isFresh v_0_hasRun v_0_runs v_0_nx v_0_ny v_0_spaces v_0_oldNx v_0_oldNy v_0_oldSpaces v_0_points v_0_pieces v_0_rings v_0_outsideSides v_0_looseCount f_0_isFlat f_0_pieceLines)) [0, 1, 2] rfl
  have hDc := hD.sub (ws' := (wl_Mo_directionOf a_0 a_0_isFlat a_0_pieceLines b_0_across b_0_lows b_0_highs b_0_thick b_0_doorCounts b_0_doorFrom b_0_doorTo b_0_xs b_0_ys b_0_labels b_0_oldXs b_0_oldYs b_0_oldLabels b_0_names b_0_oldNames b_0_wanted b_0_common b_0_flatEdges b_0_upEdges b_0_isPoint b_0_stack a_0_pieceBegins a_0_pieceEnds b_0_pieceLeft b_0_pieceRight a_0_outs b_0_isSeen b_0_ringSpaces b_0_ringStarts b_0_ringSizes b_0_ringLeast b_0_looseLines b_0_looseXs b_0_looseYs b_0_looseReaches b_0_far cZ cI v_0_code v_0_lines v_0_isFresh v_0_hasRun v_0_runs v_0_nx v_0_ny v_0_spaces v_0_oldNx v_0_oldNy v_0_oldSpaces v_0_points v_0_pieces v_0_rings v_0_outsideSides v_0_looseCount f_0_isFlat f_0_pieceLines)) [0, 1, 2] (by decide) rfl
  refine cl_i (wc' := (wl_Mo_directionOf a_0 a_0_isFlat a_0_pieceLines b_0_across b_0_lows b_0_highs b_0_thick b_0_doorCounts b_0_doorFrom b_0_doorTo b_0_xs b_0_ys b_0_labels b_0_oldXs b_0_oldYs b_0_oldLabels b_0_names b_0_oldNames b_0_wanted b_0_common b_0_flatEdges b_0_upEdges b_0_isPoint b_0_stack a_0_pieceBegins a_0_pieceEnds b_0_pieceLeft b_0_pieceRight a_0_outs b_0_isSeen b_0_ringSpaces b_0_ringStarts b_0_ringSizes b_0_ringLeast b_0_looseLines b_0_looseXs b_0_looseYs b_0_looseReaches b_0_far cZ cI v_0_code v_0_lines v_0_isFresh v_0_hasRun v_0_runs v_0_nx v_0_ny v_0_spaces v_0_oldNx v_0_oldNy v_0_oldSpaces v_0_points v_0_pieces v_0_rings v_0_outsideSides v_0_looseCount f_0_isFlat f_0_pieceLines)) (va_runV (As := [.int p1]) (rest := []) ⟨hx, hb, hml, hown, hts⟩ (c_Mo_directionOf l dC dI (cI := cI) (cZ := cZ) (cJ := cJ) a_0 a_0_isFlat a_0_pieceLines b_0_across b_0_lows b_0_highs b_0_thick b_0_doorCounts b_0_doorFrom b_0_doorTo b_0_xs b_0_ys b_0_labels b_0_oldXs b_0_oldYs b_0_oldLabels b_0_names b_0_oldNames b_0_wanted b_0_common b_0_flatEdges b_0_upEdges b_0_isPoint b_0_stack a_0_pieceBegins a_0_pieceEnds b_0_pieceLeft b_0_pieceRight a_0_outs b_0_isSeen b_0_ringSpaces b_0_ringStarts b_0_ringSizes b_0_ringLeast b_0_looseLines b_0_looseXs b_0_looseYs b_0_looseReaches b_0_far H.size v_0_code v_0_lines v_0_isFresh v_0_hasRun v_0_runs v_0_nx v_0_ny v_0_spaces v_0_oldNx v_0_oldNy v_0_oldSpaces v_0_points v_0_pieces v_0_rings v_0_outsideSides v_0_looseCount f_0_isFlat f_0_pieceLines p1 r1 hb2) (cwV 1 hts (gl_V k_339 k_338 k_337 k_277 k_336) rfl rfl rfl (by decide +kernel) ⟨Nat.le_of_ble_eq_true rfl, Nat.le_of_ble_eq_true rfl⟩) ⟨PP_blind, va_recv hK hPc (ci := 11) (q0 := 0) rfl rfl, fun U hU hW => PP_at hK hN hPc hDc hU hW⟩ rfl rfl hl.1 rfl (lv_room (Nat.le_of_ble_eq_true rfl)) d_Mo_next_2 ⟨Nat.zero_le _, Nat.zero_le _⟩) hP hD hS hA [0, 1, 2] [3, 4, 5] rfl rfl (by decide) (by decide) (fun H locs hP hD hS => ?_)
  have hP : va_P (dC, dI) vwCl (wl_Mo_next a_0 a_0_isFlat a_0_pieceLines a_0_pieceBegins a_0_pieceEnds a_0_outs b_0_across b_0_lows b_0_highs b_0_thick b_0_doorCounts b_0_doorFrom b_0_doorTo b_0_xs b_0_ys b_0_labels b_0_oldXs b_0_oldYs b_0_oldLabels b_0_names b_0_oldNames b_0_wanted b_0_common b_0_flatEdges b_0_upEdges b_0_isPoint b_0_stack b_0_pieceLeft b_0_pieceRight b_0_isSeen b_0_ringSpaces b_0_ringStarts b_0_ringSizes b_0_ringLeast b_0_looseLines b_0_looseXs b_0_looseYs b_0_looseReaches b_0_far cZ cI v_0_code v_0_lines v_0_isFresh v_0_hasRun v_0_runs v_0_nx v_0_ny v_0_spaces v_0_oldNx v_0_oldNy v_0_oldSpaces v_0_points v_0_pieces v_0_rings v_0_outsideSides v_0_looseCount f_0_isFlat f_0_pieceLines f_0_pieceBegins f_0_pieceEnds f_0_outs) H := hP.sub [3, 4, 5, 0, 1, 2] rfl
  have hD : va_D A (wl_Mo_next a_0 a_0_isFlat a_0_pieceLines a_0_pieceBegins a_0_pieceEnds a_0_outs b_0_across b_0_lows b_0_highs b_0_thick b_0_doorCounts b_0_doorFrom b_0_doorTo b_0_xs b_0_ys b_0_labels b_0_oldXs b_0_oldYs b_0_oldLabels b_0_names b_0_oldNames b_0_wanted b_0_common b_0_flatEdges b_0_upEdges b_0_isPoint b_0_stack b_0_pieceLeft b_0_pieceRight b_0_isSeen b_0_ringSpaces b_0_ringStarts b_0_ringSizes b_0_ringLeast b_0_looseLines b_0_looseXs b_0_looseYs b_0_looseReaches b_0_far cZ cI v_0_code v_0_lines v_0_isFresh v_0_hasRun v_0_runs v_0_nx v_0_ny v_0_spaces v_0_oldNx v_0_oldNy v_0_oldSpaces v_0_points v_0_pieces v_0_rings v_0_outsideSides v_0_looseCount f_0_isFlat f_0_pieceLines f_0_pieceBegins f_0_pieceEnds f_0_outs) := hD.sub [3, 4, 5, 0, 1, 2] (by decide) rfl
  refine lv_istore_n (lv' := [(2, .int r1), (0, .ref a_0), (1, .int p1)]) hx hb d_Mo_next_5 rfl hl (by decide) rfl (fun ls hl => ?_)
  refine lv_aload_n hx hb d_Mo_next_6 rfl (lv_at hl 1 rfl) ?_
  refine lv_iload_n hx hb d_Mo_next_7 rfl (lv_at hl 2 rfl) ?_
  refine lv_iconst (v := 2) hx hb d_Mo_next_8 (by decide) ?_
  refine lv_irem hx hb d_Mo_next_9 (by decide) ?_
  obtain ⟨x6, hb4, hm⟩ := bd1_e hm
  have K3 : ∀ (H : Heap) (locs : List Loc) (ls : Array Slot), va_P (dC, dI) vwCl (wl_Mo_next a_0 a_0_isFlat a_0_pieceLines a_0_pieceBegins a_0_pieceEnds a_0_outs b_0_across b_0_lows b_0_highs b_0_thick b_0_doorCounts b_0_doorFrom b_0_doorTo b_0_xs b_0_ys b_0_labels b_0_oldXs b_0_oldYs b_0_oldLabels b_0_names b_0_oldNames b_0_wanted b_0_common b_0_flatEdges b_0_upEdges b_0_isPoint b_0_stack b_0_pieceLeft b_0_pieceRight b_0_isSeen b_0_ringSpaces b_0_ringStarts b_0_ringSizes b_0_ringLeast b_0_looseLines b_0_looseXs b_0_looseYs b_0_looseReaches b_0_far cZ cI v_0_code v_0_lines v_0_isFresh v_0_hasRun v_0_runs v_0_nx v_0_ny v_0_spaces v_0_oldNx v_0_oldNy v_0_oldSpaces v_0_points v_0_pieces v_0_rings v_0_outsideSides v_0_looseCount f_0_isFlat f_0_pieceLines f_0_pieceBegins f_0_pieceEnds f_0_outs) H → va_D A (wl_Mo_next a_0 a_0_isFlat a_0_pieceLines a_0_pieceBegins a_0_pieceEnds a_0_outs b_0_across b_0_lows b_0_highs b_0_thick b_0_doorCounts b_0_doorFrom b_0_doorTo b_0_xs b_0_ys b_0_labels b_0_oldXs b_0_oldYs b_0_oldLabels b_0_names b_0_oldNames b_0_wanted b_0_common b_0_flatEdges b_0_upEdges b_0_isPoint b_0_stack b_0_pieceLeft b_0_pieceRight b_0_isSeen b_0_ringSpaces b_0_ringStarts b_0_ringSizes b_0_ringLeast b_0_looseLines b_0_looseXs b_0_looseYs b_0_looseReaches b_0_far cZ cI v_0_code v_0_lines v_0_isFresh v_0_hasRun v_0_runs v_0_nx v_0_ny v_0_spaces v_0_oldNx v_0_oldNy v_0_oldSpaces v_0_points v_0_pieces v_0_rings v_0_outsideSides v_0_looseCount f_0_isFlat f_0_pieceLines f_0_pieceBegins f_0_pieceEnds f_0_outs) → va_S A s.heap H locs → lv_has ls 7 [(0, .ref a_0), (2, .int r1)] → W p l e rm_Mo_next s m args below meth c H locs 0 0 Q (F0 m 22 ls [.int x6, .ref a_0]) := by
    intro H locs ls hP hD hS hl
    obtain ⟨r8, hb9, hm⟩ := bd1_e hm
    have hPc := hP.sub (ws' := (wl_Mo_beginOf a_0 a_0_pieceBegins a_0_pieceEnds a_0_isFlat b_0_across b_0_lows b_0_highs b_0_thick b_0_doorCounts b_0_doorFrom b_0_doorTo b_0_xs b_0_ys b_0_labels b_0_oldXs b_0_oldYs b_0_oldLabels b_0_names b_0_oldNames b_0_wanted b_0_common b_0_flatEdges b_0_upEdges b_0_isPoint b_0_stack a_0_pieceLines b_0_pieceLeft b_0_pieceRight a_0_outs b_0_isSeen b_0_ringSpaces b_0_ringStarts b_0_ringSizes b_0_ringLeast b_0_looseLines b_0_looseXs b_0_looseYs b_0_looseReaches b_0_far cI v_0_code v_0_lines v_0_isFresh v_0_hasRun v_0_runs v_0_nx v_0_ny v_0_spaces v_0_oldNx v_0_oldNy v_0_oldSpaces v_0_points v_0_pieces v_0_rings v_0_outsideSides v_0_looseCount f_0_pieceBegins f_0_pieceEnds)) [0, 3, 4] rfl
    have hDc := hD.sub (ws' := (wl_Mo_beginOf a_0 a_0_pieceBegins a_0_pieceEnds a_0_isFlat b_0_across b_0_lows b_0_highs b_0_thick b_0_doorCounts b_0_doorFrom b_0_doorTo b_0_xs b_0_ys b_0_labels b_0_oldXs b_0_oldYs b_0_oldLabels b_0_names b_0_oldNames b_0_wanted b_0_common b_0_flatEdges b_0_upEdges b_0_isPoint b_0_stack a_0_pieceLines b_0_pieceLeft b_0_pieceRight a_0_outs b_0_isSeen b_0_ringSpaces b_0_ringStarts b_0_ringSizes b_0_ringLeast b_0_looseLines b_0_looseXs b_0_looseYs b_0_looseReaches b_0_far cI v_0_code v_0_lines v_0_isFresh v_0_hasRun v_0_runs v_0_nx v_0_ny v_0_spaces v_0_oldNx v_0_oldNy v_0_oldSpaces v_0_points v_0_pieces v_0_rings v_0_outsideSides v_0_looseCount f_0_pieceBegins f_0_pieceEnds)) [0, 3, 4] (by decide) rfl
    refine cl_i (wc' := (wl_Mo_beginOf a_0 a_0_pieceBegins a_0_pieceEnds a_0_isFlat b_0_across b_0_lows b_0_highs b_0_thick b_0_doorCounts b_0_doorFrom b_0_doorTo b_0_xs b_0_ys b_0_labels b_0_oldXs b_0_oldYs b_0_oldLabels b_0_names b_0_oldNames b_0_wanted b_0_common b_0_flatEdges b_0_upEdges b_0_isPoint b_0_stack a_0_pieceLines b_0_pieceLeft b_0_pieceRight a_0_outs b_0_isSeen b_0_ringSpaces b_0_ringStarts b_0_ringSizes b_0_ringLeast b_0_looseLines b_0_looseXs b_0_looseYs b_0_looseReaches b_0_far cI v_0_code v_0_lines v_0_isFresh v_0_hasRun v_0_runs v_0_nx v_0_ny v_0_spaces v_0_oldNx v_0_oldNy v_0_oldSpaces v_0_points v_0_pieces v_0_rings v_0_outsideSides v_0_looseCount f_0_pieceBegins f_0_pieceEnds)) (va_runV (As := [.int x6]) (rest := []) ⟨hx, hb, hml, hown, hts⟩ (c_Mo_beginOf l dC dI (cI := cI) (cZ := cZ) (cJ := cJ) a_0 a_0_pieceBegins a_0_pieceEnds a_0_isFlat b_0_across b_0_lows b_0_highs b_0_thick b_0_doorCounts b_0_doorFrom b_0_doorTo b_0_xs b_0_ys b_0_labels b_0_oldXs b_0_oldYs b_0_oldLabels b_0_names b_0_oldNames b_0_wanted b_0_common b_0_flatEdges b_0_upEdges b_0_isPoint b_0_stack a_0_pieceLines b_0_pieceLeft b_0_pieceRight a_0_outs b_0_isSeen b_0_ringSpaces b_0_ringStarts b_0_ringSizes b_0_ringLeast b_0_looseLines b_0_looseXs b_0_looseYs b_0_looseReaches b_0_far H.size v_0_code v_0_lines v_0_isFresh v_0_hasRun v_0_runs v_0_nx v_0_ny v_0_spaces v_0_oldNx v_0_oldNy v_0_oldSpaces v_0_points v_0_pieces v_0_rings v_0_outsideSides v_0_looseCount f_0_pieceBegins f_0_pieceEnds x6 r8 hb9) (cwV 1 hts (gl_V k_343 k_342 k_341 k_277 k_340) rfl rfl rfl (by decide +kernel) ⟨Nat.le_of_ble_eq_true rfl, Nat.le_of_ble_eq_true rfl⟩) ⟨PP_blind, va_recv hK hPc (ci := 11) (q0 := 0) rfl rfl, fun U hU hW => PP_at hK hN hPc hDc hU hW⟩ rfl rfl hl.1 rfl (lv_room (Nat.le_of_ble_eq_true rfl)) d_Mo_next_22 ⟨Nat.zero_le _, Nat.zero_le _⟩) hP hD hS hA [0, 3, 4] [1, 2, 5] rfl rfl (by decide) (by decide) (fun H locs hP hD hS => ?_)
    have hP : va_P (dC, dI) vwCl (wl_Mo_next a_0 a_0_isFlat a_0_pieceLines a_0_pieceBegins a_0_pieceEnds a_0_outs b_0_across b_0_lows b_0_highs b_0_thick b_0_doorCounts b_0_doorFrom b_0_doorTo b_0_xs b_0_ys b_0_labels b_0_oldXs b_0_oldYs b_0_oldLabels b_0_names b_0_oldNames b_0_wanted b_0_common b_0_flatEdges b_0_upEdges b_0_isPoint b_0_stack b_0_pieceLeft b_0_pieceRight b_0_isSeen b_0_ringSpaces b_0_ringStarts b_0_ringSizes b_0_ringLeast b_0_looseLines b_0_looseXs b_0_looseYs b_0_looseReaches b_0_far cZ cI v_0_code v_0_lines v_0_isFresh v_0_hasRun v_0_runs v_0_nx v_0_ny v_0_spaces v_0_oldNx v_0_oldNy v_0_oldSpaces v_0_points v_0_pieces v_0_rings v_0_outsideSides v_0_looseCount f_0_isFlat f_0_pieceLines f_0_pieceBegins f_0_pieceEnds f_0_outs) H := hP.sub [3, 0, 1, 4, 5, 2] rfl
    have hD : va_D A (wl_Mo_next a_0 a_0_isFlat a_0_pieceLines a_0_pieceBegins a_0_pieceEnds a_0_outs b_0_across b_0_lows b_0_highs b_0_thick b_0_doorCounts b_0_doorFrom b_0_doorTo b_0_xs b_0_ys b_0_labels b_0_oldXs b_0_oldYs b_0_oldLabels b_0_names b_0_oldNames b_0_wanted b_0_common b_0_flatEdges b_0_upEdges b_0_isPoint b_0_stack b_0_pieceLeft b_0_pieceRight b_0_isSeen b_0_ringSpaces b_0_ringStarts b_0_ringSizes b_0_ringLeast b_0_looseLines b_0_looseXs b_0_looseYs b_0_looseReaches b_0_far cZ cI v_0_code v_0_lines v_0_isFresh v_0_hasRun v_0_runs v_0_nx v_0_ny v_0_spaces v_0_oldNx v_0_oldNy v_0_oldSpaces v_0_points v_0_pieces v_0_rings v_0_outsideSides v_0_looseCount f_0_isFlat f_0_pieceLines f_0_pieceBegins f_0_pieceEnds f_0_outs) := hD.sub [3, 0, 1, 4, 5, 2] (by decide) rfl
    refine lv_istore_n (lv' := [(3, .int r8), (0, .ref a_0), (2, .int r1)]) hx hb d_Mo_next_25 rfl hl (by decide) rfl (fun ls hl => ?_)
    refine lv_aload_n hx hb d_Mo_next_26 rfl (lv_at hl 1 rfl) ?_
    refine va_get (D := (dC, dI)) (ci := 11) (v := .ref a_0_outs) (C := "SpaceCyclesModel") (T := F_Mo) (N := 54) hx hb hts (in_F i_Mo) hown hK hP 0 rfl rfl 40 (by decide) (hts _ (in_c k_330)) (fun _ h9 => h9) rfl d_Mo_next_27 ?_
    refine lv_iconst (v := 4) hx hb d_Mo_next_30 (by decide) ?_
    refine lv_iload_n hx hb d_Mo_next_31 rfl (lv_at hl 0 rfl) ?_
    refine lv_imul hx hb d_Mo_next_32 ?_
    refine lv_iload_n hx hb d_Mo_next_33 rfl (lv_at hl 2 rfl) ?_
    refine lv_iconst (v := 1) hx hb d_Mo_next_34 (by decide) ?_
    refine lv_iadd hx hb d_Mo_next_35 ?_
    refine lv_iconst (v := 4) hx hb d_Mo_next_36 (by decide) ?_
    refine lv_irem hx hb d_Mo_next_37 (by decide) ?_
    refine lv_iadd hx hb d_Mo_next_38 ?_
    obtain ⟨hi10, hm⟩ := gI_e hm
    refine va_iald hx hb hK hP 5 0 rfl rfl hi10 d_Mo_next_39 ?_
    refine lv_topi (fun x11 ex11 => ?_)
    replace hm := lt_el hm ex11
    refine lv_istore (lv' := [(4, .int x11), (3, .int r8), (0, .ref a_0), (2, .int r1)]) hx hb d_Mo_next_40 hl (by decide) rfl (fun ls hl => ?_)
    refine lv_aload_n hx hb d_Mo_next_42 rfl (lv_at hl 2 rfl) ?_
    refine va_get (D := (dC, dI)) (ci := 11) (v := .ref a_0_outs) (C := "SpaceCyclesModel") (T := F_Mo) (N := 54) hx hb hts (in_F i_Mo) hown hK hP 0 rfl rfl 40 (by decide) (hts _ (in_c k_330)) (fun _ h9 => h9) rfl d_Mo_next_43 ?_
    refine lv_iconst (v := 4) hx hb d_Mo_next_46 (by decide) ?_
    refine lv_iload_n hx hb d_Mo_next_47 rfl (lv_at hl 1 rfl) ?_
    refine lv_imul hx hb d_Mo_next_48 ?_
    refine lv_iload_n hx hb d_Mo_next_49 rfl (lv_at hl 3 rfl) ?_
    refine lv_iadd hx hb d_Mo_next_50 ?_
    obtain ⟨hi12, hm⟩ := gI_e hm
    refine va_iald hx hb hK hP 5 0 rfl rfl hi12 d_Mo_next_51 ?_
    refine lv_topi (fun x13 ex13 => ?_)
    replace hm := lt_el hm ex13
    refine lv_istore (lv' := [(5, .int x13), (4, .int x11), (3, .int r8), (0, .ref a_0), (2, .int r1)]) hx hb d_Mo_next_52 hl (by decide) rfl (fun ls hl => ?_)
    refine lv_aload_n hx hb d_Mo_next_54 rfl (lv_at hl 3 rfl) ?_
    refine va_get (D := (dC, dI)) (ci := 11) (v := .ref a_0_outs) (C := "SpaceCyclesModel") (T := F_Mo) (N := 54) hx hb hts (in_F i_Mo) hown hK hP 0 rfl rfl 40 (by decide) (hts _ (in_c k_330)) (fun _ h9 => h9) rfl d_Mo_next_55 ?_
    refine lv_iconst (v := 4) hx hb d_Mo_next_58 (by decide) ?_
    refine lv_iload_n hx hb d_Mo_next_59 rfl (lv_at hl 2 rfl) ?_
    refine lv_imul hx hb d_Mo_next_60 ?_
    refine lv_iload_n hx hb d_Mo_next_61 rfl (lv_at hl 4 rfl) ?_
    refine lv_iconst (v := 3) hx hb d_Mo_next_62 (by decide) ?_
    refine lv_iadd hx hb d_Mo_next_63 ?_
    refine lv_iconst (v := 4) hx hb d_Mo_next_64 (by decide) ?_
    refine lv_irem hx hb d_Mo_next_65 (by decide) ?_
    refine lv_iadd hx hb d_Mo_next_66 ?_
    obtain ⟨hi14, hm⟩ := gI_e hm
    refine va_iald hx hb hK hP 5 0 rfl rfl hi14 d_Mo_next_67 ?_
    refine lv_topi (fun x15 ex15 => ?_)
    replace hm := lt_el hm ex15
    refine lv_istore (lv' := [(6, .int x15), (5, .int x13), (4, .int x11), (3, .int r8), (0, .ref a_0), (2, .int r1)]) hx hb d_Mo_next_68 hl (by decide) rfl (fun ls hl => ?_)
    refine lv_iload hx hb d_Mo_next_70 (lv_at hl 2 rfl) ?_
    obtain ⟨x19, hb17, hm⟩ := bd1_e hm
    have K16 : ∀ (H : Heap) (locs : List Loc) (ls : Array Slot), va_P (dC, dI) vwCl (wl_Mo_next a_0 a_0_isFlat a_0_pieceLines a_0_pieceBegins a_0_pieceEnds a_0_outs b_0_across b_0_lows b_0_highs b_0_thick b_0_doorCounts b_0_doorFrom b_0_doorTo b_0_xs b_0_ys b_0_labels b_0_oldXs b_0_oldYs b_0_oldLabels b_0_names b_0_oldNames b_0_wanted b_0_common b_0_flatEdges b_0_upEdges b_0_isPoint b_0_stack b_0_pieceLeft b_0_pieceRight b_0_isSeen b_0_ringSpaces b_0_ringStarts b_0_ringSizes b_0_ringLeast b_0_looseLines b_0_looseXs b_0_looseYs b_0_looseReaches b_0_far cZ cI v_0_code v_0_lines v_0_isFresh v_0_hasRun v_0_runs v_0_nx v_0_ny v_0_spaces v_0_oldNx v_0_oldNy v_0_oldSpaces v_0_points v_0_pieces v_0_rings v_0_outsideSides v_0_looseCount f_0_isFlat f_0_pieceLines f_0_pieceBegins f_0_pieceEnds f_0_outs) H → va_D A (wl_Mo_next a_0 a_0_isFlat a_0_pieceLines a_0_pieceBegins a_0_pieceEnds a_0_outs b_0_across b_0_lows b_0_highs b_0_thick b_0_doorCounts b_0_doorFrom b_0_doorTo b_0_xs b_0_ys b_0_labels b_0_oldXs b_0_oldYs b_0_oldLabels b_0_names b_0_oldNames b_0_wanted b_0_common b_0_flatEdges b_0_upEdges b_0_isPoint b_0_stack b_0_pieceLeft b_0_pieceRight b_0_isSeen b_0_ringSpaces b_0_ringStarts b_0_ringSizes b_0_ringLeast b_0_looseLines b_0_looseXs b_0_looseYs b_0_looseReaches b_0_far cZ cI v_0_code v_0_lines v_0_isFresh v_0_hasRun v_0_runs v_0_nx v_0_ny v_0_spaces v_0_oldNx v_0_oldNy v_0_oldSpaces v_0_points v_0_pieces v_0_rings v_0_outsideSides v_0_looseCount f_0_isFlat f_0_pieceLines f_0_pieceBegins f_0_pieceEnds f_0_outs) → va_S A s.heap H locs → lv_has ls 7 [] → W p l e rm_Mo_next s m args below meth c H locs 0 0 Q (F0 m 114 ls [.int x19]) := by
      intro H locs ls hP hD hS hl
      cases hm
      exact hret _ H locs ls d_Mo_next_114 hP hD hS
    replace hm := hb17
    refine lv_if_lt (tgt := 80) hx hb d_Mo_next_72 (by decide) (fun c20 => ?_) (fun c20 => ?_)
    · replace hm := if_t hm c20
      refine lv_iload hx hb d_Mo_next_80 (lv_at hl 1 rfl) ?_
      refine lv_if_lt (tgt := 90) hx hb d_Mo_next_82 (by decide) (fun c21 => ?_) (fun c21 => ?_)
      · replace hm := if_t hm c21
        refine lv_iload hx hb d_Mo_next_90 (lv_at hl 0 rfl) ?_
        refine lv_if_lt (tgt := 100) hx hb d_Mo_next_92 (by decide) (fun c22 => ?_) (fun c22 => ?_)
        · replace hm := if_t hm c22
          refine lv_aload_n hx hb d_Mo_next_100 rfl (lv_at hl 4 rfl) ?_
          refine va_get (D := (dC, dI)) (ci := 11) (v := .ref a_0_outs) (C := "SpaceCyclesModel") (T := F_Mo) (N := 54) hx hb hts (in_F i_Mo) hown hK hP 0 rfl rfl 40 (by decide) (hts _ (in_c k_330)) (fun _ h9 => h9) rfl d_Mo_next_101 ?_
          refine lv_iconst (v := 4) hx hb d_Mo_next_104 (by decide) ?_
          refine lv_iload_n hx hb d_Mo_next_105 rfl (lv_at hl 3 rfl) ?_
          refine lv_imul hx hb d_Mo_next_106 ?_
          refine lv_iload_n hx hb d_Mo_next_107 rfl (lv_at hl 5 rfl) ?_
          refine lv_iconst (v := 2) hx hb d_Mo_next_108 (by decide) ?_
          refine lv_iadd hx hb d_Mo_next_109 ?_
          refine lv_iconst (v := 4) hx hb d_Mo_next_110 (by decide) ?_
          refine lv_irem hx hb d_Mo_next_111 (by decide) ?_
          refine lv_iadd hx hb d_Mo_next_112 ?_
          obtain ⟨hi23, hm⟩ := gI_e hm
          refine va_iald hx hb hK hP 5 0 rfl rfl hi23 d_Mo_next_113 ?_
          cases hm
          exact K16 H locs ls hP hD hS (lv_sub hl [] rfl)
        · replace hm := if_f hm c22
          refine lv_iload hx hb d_Mo_next_95 (lv_at hl 0 rfl) ?_
          refine lv_goto (tgt := 114) hx hb d_Mo_next_97 (by decide) ?_
          cases hm
          exact K16 H locs ls hP hD hS (lv_sub hl [] rfl)
      · replace hm := if_f hm c21
        refine lv_iload hx hb d_Mo_next_85 (lv_at hl 1 rfl) ?_
        refine lv_goto (tgt := 114) hx hb d_Mo_next_87 (by decide) ?_
        cases hm
        exact K16 H locs ls hP hD hS (lv_sub hl [] rfl)
    · replace hm := if_f hm c20
      refine lv_iload hx hb d_Mo_next_75 (lv_at hl 2 rfl) ?_
      refine lv_goto (tgt := 114) hx hb d_Mo_next_77 (by decide) ?_
      cases hm
      exact K16 H locs ls hP hD hS (lv_sub hl [] rfl)
  replace hm := hb4
  refine lv_if_ne (tgt := 19) hx hb d_Mo_next_10 (by decide) (fun c7 => ?_) (fun c7 => ?_)
  · replace hm := if_f hm c7
    refine lv_iload_n hx hb d_Mo_next_19 rfl (lv_at hl 2 rfl) ?_
    refine lv_iconst (v := 1) hx hb d_Mo_next_20 (by decide) ?_
    refine lv_isub hx hb d_Mo_next_21 ?_
    cases hm
    exact K3 H locs ls hP hD hS (lv_sub hl [1, 0] rfl)
  · replace hm := if_t hm c7
    refine lv_iload_n hx hb d_Mo_next_13 rfl (lv_at hl 2 rfl) ?_
    refine lv_iconst (v := 1) hx hb d_Mo_next_14 (by decide) ?_
    refine lv_iadd hx hb d_Mo_next_15 ?_
    refine lv_goto (tgt := 22) hx hb d_Mo_next_16 (by decide) ?_
    cases hm
    exact K3 H locs ls hP hD hS (lv_sub hl [1, 0] rfl)
set_option maxHeartbeats 4000000 in
set_option maxRecDepth 100000 in
theorem c_Mo_next (l : Launch) (dC : Nat → ClassId) (dI : Nat → Nat → Nat) {cI cZ cJ : ClassId} (a_0 a_0_isFlat a_0_pieceLines a_0_pieceBegins a_0_pieceEnds a_0_outs b_0_across b_0_lows b_0_highs b_0_thick b_0_doorCounts b_0_doorFrom b_0_doorTo b_0_xs b_0_ys b_0_labels b_0_oldXs b_0_oldYs b_0_oldLabels b_0_names b_0_oldNames b_0_wanted b_0_common b_0_flatEdges b_0_upEdges b_0_isPoint b_0_stack b_0_pieceLeft b_0_pieceRight b_0_isSeen b_0_ringSpaces b_0_ringStarts b_0_ringSizes b_0_ringLeast b_0_looseLines b_0_looseXs b_0_looseYs b_0_looseReaches b_0_far : Nat) (sz : Nat) (v_0_code : Int32) (v_0_lines : Int32) (v_0_isFresh : Int32) (v_0_hasRun : Int32) (v_0_runs : Int32) (v_0_nx : Int32) (v_0_ny : Int32) (v_0_spaces : Int32) (v_0_oldNx : Int32) (v_0_oldNy : Int32) (v_0_oldSpaces : Int32) (v_0_points : Int32) (v_0_pieces : Int32) (v_0_rings : Int32) (v_0_outsideSides : Int32) (v_0_looseCount : Int32) (f_0_isFlat : Nat → Int32) (f_0_pieceLines : Nat → Int32) (f_0_pieceBegins : Nat → Int32) (f_0_pieceEnds : Nat → Int32) (f_0_outs : Nat → Int32) (p1 : Int32) (R0 : Int32) (hm : m_Mo_next p1 f_0_isFlat f_0_pieceLines f_0_pieceBegins f_0_pieceEnds f_0_outs = some R0) : Met l y_Mo_next w_Mo_next rm_Mo_next (PP dC dI [(cI, .int), (cZ, .boolean), (cJ, .long)] [.ref a_0, .int p1] sz (wl_Mo_next a_0 a_0_isFlat a_0_pieceLines a_0_pieceBegins a_0_pieceEnds a_0_outs b_0_across b_0_lows b_0_highs b_0_thick b_0_doorCounts b_0_doorFrom b_0_doorTo b_0_xs b_0_ys b_0_labels b_0_oldXs b_0_oldYs b_0_oldLabels b_0_names b_0_oldNames b_0_wanted b_0_common b_0_flatEdges b_0_upEdges b_0_isPoint b_0_stack b_0_pieceLeft b_0_pieceRight b_0_isSeen b_0_ringSpaces b_0_ringStarts b_0_ringSizes b_0_ringLeast b_0_looseLines b_0_looseXs b_0_looseYs b_0_looseReaches b_0_far cZ cI v_0_code v_0_lines v_0_isFresh v_0_hasRun v_0_runs v_0_nx v_0_ny v_0_spaces v_0_oldNx v_0_oldNy v_0_oldSpaces v_0_points v_0_pieces v_0_rings v_0_outsideSides v_0_looseCount f_0_isFlat f_0_pieceLines f_0_pieceBegins f_0_pieceEnds f_0_outs)) (QI dC dI [(cI, .int), (cZ, .boolean), (cJ, .long)] sz (wl_Mo_next a_0 a_0_isFlat a_0_pieceLines a_0_pieceBegins a_0_pieceEnds a_0_outs b_0_across b_0_lows b_0_highs b_0_thick b_0_doorCounts b_0_doorFrom b_0_doorTo b_0_xs b_0_ys b_0_labels b_0_oldXs b_0_oldYs b_0_oldLabels b_0_names b_0_oldNames b_0_wanted b_0_common b_0_flatEdges b_0_upEdges b_0_isPoint b_0_stack b_0_pieceLeft b_0_pieceRight b_0_isSeen b_0_ringSpaces b_0_ringStarts b_0_ringSizes b_0_ringLeast b_0_looseLines b_0_looseXs b_0_looseYs b_0_looseReaches b_0_far cZ cI v_0_code v_0_lines v_0_isFresh v_0_hasRun v_0_runs v_0_nx v_0_ny v_0_spaces v_0_oldNx v_0_oldNy v_0_oldSpaces v_0_points v_0_pieces v_0_rings v_0_outsideSides v_0_looseCount f_0_isFlat f_0_pieceLines f_0_pieceBegins f_0_pieceEnds f_0_outs) (wl_Mo_next a_0 a_0_isFlat a_0_pieceLines a_0_pieceBegins a_0_pieceEnds a_0_outs b_0_across b_0_lows b_0_highs b_0_thick b_0_doorCounts b_0_doorFrom b_0_doorTo b_0_xs b_0_ys b_0_labels b_0_oldXs b_0_oldYs b_0_oldLabels b_0_names b_0_oldNames b_0_wanted b_0_common b_0_flatEdges b_0_upEdges b_0_isPoint b_0_stack b_0_pieceLeft b_0_pieceRight b_0_isSeen b_0_ringSpaces b_0_ringStarts b_0_ringSizes b_0_ringLeast b_0_looseLines b_0_looseXs b_0_looseYs b_0_looseReaches b_0_far cZ cI v_0_code v_0_lines v_0_isFresh v_0_hasRun v_0_runs v_0_nx v_0_ny v_0_spaces v_0_oldNx v_0_oldNy v_0_oldSpaces v_0_points v_0_pieces v_0_rings v_0_outsideSides v_0_looseCount f_0_isFlat f_0_pieceLines f_0_pieceBegins f_0_pieceEnds f_0_outs) R0) 0 0 (va_A (wl_Mo_next a_0 a_0_isFlat a_0_pieceLines a_0_pieceBegins a_0_pieceEnds a_0_outs b_0_across b_0_lows b_0_highs b_0_thick b_0_doorCounts b_0_doorFrom b_0_doorTo b_0_xs b_0_ys b_0_labels b_0_oldXs b_0_oldYs b_0_oldLabels b_0_names b_0_oldNames b_0_wanted b_0_common b_0_flatEdges b_0_upEdges b_0_isPoint b_0_stack b_0_pieceLeft b_0_pieceRight b_0_isSeen b_0_ringSpaces b_0_ringStarts b_0_ringSizes b_0_ringLeast b_0_looseLines b_0_looseXs b_0_looseYs b_0_looseReaches b_0_far cZ cI v_0_code v_0_lines v_0_isFresh v_0_hasRun v_0_runs v_0_nx v_0_ny v_0_spaces v_0_oldNx v_0_oldNy v_0_oldSpaces v_0_points v_0_pieces v_0_rings v_0_outsideSides v_0_looseCount f_0_isFlat f_0_pieceLines f_0_pieceBegins f_0_pieceEnds f_0_outs) sz) := by
  refine Met.ofW (cc := b_Mo_next) (maxL := 7) (ret := (some .int)) (by decide) rfl ?_
  intro p e s m args below meth c s₁ B hml hv
  obtain ⟨rfl, hsz, hP, hK, hD0, hN⟩ := hv
  subst hsz
  have hl := lv_entry ([.ref a_0, .int p1]) (n := 7) (Nat.le_of_ble_eq_true rfl)
  rw [lg_entry_eq]
  generalize (lg_sl ([.ref a_0, .int p1]) ++ List.replicate (7 - (lg_sl ([.ref a_0, .int p1])).length) Slot.unset).toArray = ls at hl ⊢
  exact t_Mo_next a_0 a_0_isFlat a_0_pieceLines a_0_pieceBegins a_0_pieceEnds a_0_outs b_0_across b_0_lows b_0_highs b_0_thick b_0_doorCounts b_0_doorFrom b_0_doorTo b_0_xs b_0_ys b_0_labels b_0_oldXs b_0_oldYs b_0_oldLabels b_0_names b_0_oldNames b_0_wanted b_0_common b_0_flatEdges b_0_upEdges b_0_isPoint b_0_stack b_0_pieceLeft b_0_pieceRight b_0_isSeen b_0_ringSpaces b_0_ringStarts b_0_ringSizes b_0_ringLeast b_0_looseLines b_0_looseXs b_0_looseYs b_0_looseReaches b_0_far v_0_code v_0_lines v_0_isFresh v_0_hasRun v_0_runs v_0_nx v_0_ny v_0_spaces v_0_oldNx v_0_oldNy v_0_oldSpaces v_0_points v_0_pieces v_0_rings v_0_outsideSides v_0_looseCount f_0_isFlat f_0_pieceLines f_0_pieceBegins f_0_pieceEnds f_0_outs p1 R0 B.exec B.bytes hml (findClass_of_methodNamed B.named) (atoms_spec (ws := w_Mo_next) B.pre) hK hN (fun q h => Or.inr h) (fun pc H locs ls hd hP9 hD9 hS => W.iret B.exec B.bytes B.returns (fun t ht hW => ⟨⟨_, (), rfl, rfl, by rw [ht]; exact hP9, va_K.moved hW.alike hK, hD9⟩, hS.F ht⟩) hS.2.2 hd) hm s.heap [] ls hP hD0.self va_S.rf hl

theorem k_344 : ((.fieldLink "SpaceCyclesModel" 198 "SpaceCyclesModel" "rings" "I") : Cond) ∈ gl := gl_i 1167 (by decide +kernel) (by decide +kernel)
theorem k_345 : ((.fieldLink "SpaceCyclesModel" 99 "SpaceCyclesModel" "ringSpaces" "[I") : Cond) ∈ gl := gl_i 1163 (by decide +kernel) (by decide +kernel)
theorem k_346 : ((.fieldLink "SpaceCyclesModel" 102 "SpaceCyclesModel" "ringStarts" "[I") : Cond) ∈ gl := gl_i 1164 (by decide +kernel) (by decide +kernel)
theorem k_347 : ((.fieldLink "SpaceCyclesModel" 105 "SpaceCyclesModel" "ringSizes" "[I") : Cond) ∈ gl := gl_i 1165 (by decide +kernel) (by decide +kernel)
theorem k_348 : ((.fieldLink "SpaceCyclesModel" 108 "SpaceCyclesModel" "ringLeast" "[I") : Cond) ∈ gl := gl_i 1166 (by decide +kernel) (by decide +kernel)
-- SpaceCyclesModel.addRing(IIII)V
abbrev b_Mo_addRing : ByteArray := prog_13_method_23_code
abbrev y_Mo_addRing : MethodName := ⟨"SpaceCyclesModel", "addRing", "(IIII)V"⟩
abbrev w_Mo_addRing : List Cond := Cond.code y_Mo_addRing b_Mo_addRing 6 none :: gl
abbrev rm_Mo_addRing : Room := { frames := 0, cells := 0, slots := 0, locals := 0 }
theorem d_Mo_addRing_0 : decode b_Mo_addRing 0 = .ok (.aload_n 0, 1) := by decide +kernel
theorem d_Mo_addRing_1 : decode b_Mo_addRing 1 = .ok (.getfield 198, 3) := by decide +kernel
theorem d_Mo_addRing_4 : decode b_Mo_addRing 4 = .ok (.istore 5, 2) := by decide +kernel
theorem d_Mo_addRing_6 : decode b_Mo_addRing 6 = .ok (.iload 5, 2) := by decide +kernel
theorem d_Mo_addRing_8 : decode b_Mo_addRing 8 = .ok (.ifCond .le 113, 3) := by decide +kernel
theorem d_Mo_addRing_11 : decode b_Mo_addRing 11 = .ok (.aload_n 0, 1) := by decide +kernel
theorem d_Mo_addRing_12 : decode b_Mo_addRing 12 = .ok (.getfield 99, 3) := by decide +kernel
theorem d_Mo_addRing_15 : decode b_Mo_addRing 15 = .ok (.iload 5, 2) := by decide +kernel
theorem d_Mo_addRing_17 : decode b_Mo_addRing 17 = .ok (.iconst 1, 1) := by decide +kernel
theorem d_Mo_addRing_18 : decode b_Mo_addRing 18 = .ok (.isub, 1) := by decide +kernel
theorem d_Mo_addRing_19 : decode b_Mo_addRing 19 = .ok (.iaload, 1) := by decide +kernel
theorem d_Mo_addRing_20 : decode b_Mo_addRing 20 = .ok (.iload_n 1, 1) := by decide +kernel
theorem d_Mo_addRing_21 : decode b_Mo_addRing 21 = .ok (.if_icmp .gt 30, 3) := by decide +kernel
theorem d_Mo_addRing_24 : decode b_Mo_addRing 24 = .ok (.aload_n 0, 1) := by decide +kernel
theorem d_Mo_addRing_25 : decode b_Mo_addRing 25 = .ok (.getfield 99, 3) := by decide +kernel
theorem d_Mo_addRing_28 : decode b_Mo_addRing 28 = .ok (.iload 5, 2) := by decide +kernel
theorem d_Mo_addRing_30 : decode b_Mo_addRing 30 = .ok (.iconst 1, 1) := by decide +kernel
theorem d_Mo_addRing_31 : decode b_Mo_addRing 31 = .ok (.isub, 1) := by decide +kernel
theorem d_Mo_addRing_32 : decode b_Mo_addRing 32 = .ok (.iaload, 1) := by decide +kernel
theorem d_Mo_addRing_33 : decode b_Mo_addRing 33 = .ok (.iload_n 1, 1) := by decide +kernel
theorem d_Mo_addRing_34 : decode b_Mo_addRing 34 = .ok (.if_icmp .ne 87, 3) := by decide +kernel
theorem d_Mo_addRing_37 : decode b_Mo_addRing 37 = .ok (.aload_n 0, 1) := by decide +kernel
theorem d_Mo_addRing_38 : decode b_Mo_addRing 38 = .ok (.getfield 108, 3) := by decide +kernel
theorem d_Mo_addRing_41 : decode b_Mo_addRing 41 = .ok (.iload 5, 2) := by decide +kernel
theorem d_Mo_addRing_43 : decode b_Mo_addRing 43 = .ok (.iconst 1, 1) := by decide +kernel
theorem d_Mo_addRing_44 : decode b_Mo_addRing 44 = .ok (.isub, 1) := by decide +kernel
theorem d_Mo_addRing_45 : decode b_Mo_addRing 45 = .ok (.iaload, 1) := by decide +kernel
theorem d_Mo_addRing_46 : decode b_Mo_addRing 46 = .ok (.iload 4, 2) := by decide +kernel
theorem d_Mo_addRing_48 : decode b_Mo_addRing 48 = .ok (.if_icmp .le 73, 3) := by decide +kernel
theorem d_Mo_addRing_51 : decode b_Mo_addRing 51 = .ok (.aload_n 0, 1) := by decide +kernel
theorem d_Mo_addRing_52 : decode b_Mo_addRing 52 = .ok (.getfield 99, 3) := by decide +kernel
theorem d_Mo_addRing_55 : decode b_Mo_addRing 55 = .ok (.iload 5, 2) := by decide +kernel
theorem d_Mo_addRing_57 : decode b_Mo_addRing 57 = .ok (.aload_n 0, 1) := by decide +kernel
theorem d_Mo_addRing_58 : decode b_Mo_addRing 58 = .ok (.getfield 99, 3) := by decide +kernel
theorem d_Mo_addRing_61 : decode b_Mo_addRing 61 = .ok (.iload 5, 2) := by decide +kernel
theorem d_Mo_addRing_63 : decode b_Mo_addRing 63 = .ok (.iconst 1, 1) := by decide +kernel
theorem d_Mo_addRing_64 : decode b_Mo_addRing 64 = .ok (.isub, 1) := by decide +kernel
theorem d_Mo_addRing_65 : decode b_Mo_addRing 65 = .ok (.iaload, 1) := by decide +kernel
theorem d_Mo_addRing_66 : decode b_Mo_addRing 66 = .ok (.iastore, 1) := by decide +kernel
theorem d_Mo_addRing_67 : decode b_Mo_addRing 67 = .ok (.aload_n 0, 1) := by decide +kernel
theorem d_Mo_addRing_68 : decode b_Mo_addRing 68 = .ok (.getfield 102, 3) := by decide +kernel
theorem d_Mo_addRing_71 : decode b_Mo_addRing 71 = .ok (.iload 5, 2) := by decide +kernel
theorem d_Mo_addRing_73 : decode b_Mo_addRing 73 = .ok (.aload_n 0, 1) := by decide +kernel
theorem d_Mo_addRing_74 : decode b_Mo_addRing 74 = .ok (.getfield 102, 3) := by decide +kernel
theorem d_Mo_addRing_77 : decode b_Mo_addRing 77 = .ok (.iload 5, 2) := by decide +kernel
theorem d_Mo_addRing_79 : decode b_Mo_addRing 79 = .ok (.iconst 1, 1) := by decide +kernel
theorem d_Mo_addRing_80 : decode b_Mo_addRing 80 = .ok (.isub, 1) := by decide +kernel
theorem d_Mo_addRing_81 : decode b_Mo_addRing 81 = .ok (.iaload, 1) := by decide +kernel
theorem d_Mo_addRing_82 : decode b_Mo_addRing 82 = .ok (.iastore, 1) := by decide +kernel
theorem d_Mo_addRing_83 : decode b_Mo_addRing 83 = .ok (.aload_n 0, 1) := by decide +kernel
theorem d_Mo_addRing_84 : decode b_Mo_addRing 84 = .ok (.getfield 105, 3) := by decide +kernel
theorem d_Mo_addRing_87 : decode b_Mo_addRing 87 = .ok (.iload 5, 2) := by decide +kernel
theorem d_Mo_addRing_89 : decode b_Mo_addRing 89 = .ok (.aload_n 0, 1) := by decide +kernel
theorem d_Mo_addRing_90 : decode b_Mo_addRing 90 = .ok (.getfield 105, 3) := by decide +kernel
theorem d_Mo_addRing_93 : decode b_Mo_addRing 93 = .ok (.iload 5, 2) := by decide +kernel
theorem d_Mo_addRing_95 : decode b_Mo_addRing 95 = .ok (.iconst 1, 1) := by decide +kernel
theorem d_Mo_addRing_96 : decode b_Mo_addRing 96 = .ok (.isub, 1) := by decide +kernel
theorem d_Mo_addRing_97 : decode b_Mo_addRing 97 = .ok (.iaload, 1) := by decide +kernel
theorem d_Mo_addRing_98 : decode b_Mo_addRing 98 = .ok (.iastore, 1) := by decide +kernel
theorem d_Mo_addRing_99 : decode b_Mo_addRing 99 = .ok (.aload_n 0, 1) := by decide +kernel
theorem d_Mo_addRing_100 : decode b_Mo_addRing 100 = .ok (.getfield 108, 3) := by decide +kernel
theorem d_Mo_addRing_103 : decode b_Mo_addRing 103 = .ok (.iload 5, 2) := by decide +kernel
theorem d_Mo_addRing_105 : decode b_Mo_addRing 105 = .ok (.aload_n 0, 1) := by decide +kernel
theorem d_Mo_addRing_106 : decode b_Mo_addRing 106 = .ok (.getfield 108, 3) := by decide +kernel
theorem d_Mo_addRing_109 : decode b_Mo_addRing 109 = .ok (.iload 5, 2) := by decide +kernel
theorem d_Mo_addRing_111 : decode b_Mo_addRing 111 = .ok (.iconst 1, 1) := by decide +kernel
theorem d_Mo_addRing_112 : decode b_Mo_addRing 112 = .ok (.isub, 1) := by decide +kernel
theorem d_Mo_addRing_113 : decode b_Mo_addRing 113 = .ok (.iaload, 1) := by decide +kernel
theorem d_Mo_addRing_114 : decode b_Mo_addRing 114 = .ok (.iastore, 1) := by decide +kernel
theorem d_Mo_addRing_115 : decode b_Mo_addRing 115 = .ok (.iinc 5 (-1), 3) := by decide +kernel
theorem d_Mo_addRing_118 : decode b_Mo_addRing 118 = .ok (.goto (-112), 3) := by decide +kernel
theorem d_Mo_addRing_121 : decode b_Mo_addRing 121 = .ok (.aload_n 0, 1) := by decide +kernel
theorem d_Mo_addRing_122 : decode b_Mo_addRing 122 = .ok (.getfield 99, 3) := by decide +kernel
theorem d_Mo_addRing_125 : decode b_Mo_addRing 125 = .ok (.iload 5, 2) := by decide +kernel
theorem d_Mo_addRing_127 : decode b_Mo_addRing 127 = .ok (.iload_n 1, 1) := by decide +kernel
theorem d_Mo_addRing_128 : decode b_Mo_addRing 128 = .ok (.iastore, 1) := by decide +kernel
theorem d_Mo_addRing_129 : decode b_Mo_addRing 129 = .ok (.aload_n 0, 1) := by decide +kernel
theorem d_Mo_addRing_130 : decode b_Mo_addRing 130 = .ok (.getfield 102, 3) := by decide +kernel
theorem d_Mo_addRing_133 : decode b_Mo_addRing 133 = .ok (.iload 5, 2) := by decide +kernel
theorem d_Mo_addRing_135 : decode b_Mo_addRing 135 = .ok (.iload_n 2, 1) := by decide +kernel
theorem d_Mo_addRing_136 : decode b_Mo_addRing 136 = .ok (.iastore, 1) := by decide +kernel
theorem d_Mo_addRing_137 : decode b_Mo_addRing 137 = .ok (.aload_n 0, 1) := by decide +kernel
theorem d_Mo_addRing_138 : decode b_Mo_addRing 138 = .ok (.getfield 105, 3) := by decide +kernel
theorem d_Mo_addRing_141 : decode b_Mo_addRing 141 = .ok (.iload 5, 2) := by decide +kernel
theorem d_Mo_addRing_143 : decode b_Mo_addRing 143 = .ok (.iload_n 3, 1) := by decide +kernel
theorem d_Mo_addRing_144 : decode b_Mo_addRing 144 = .ok (.iastore, 1) := by decide +kernel
theorem d_Mo_addRing_145 : decode b_Mo_addRing 145 = .ok (.aload_n 0, 1) := by decide +kernel
theorem d_Mo_addRing_146 : decode b_Mo_addRing 146 = .ok (.getfield 108, 3) := by decide +kernel
theorem d_Mo_addRing_149 : decode b_Mo_addRing 149 = .ok (.iload 5, 2) := by decide +kernel
theorem d_Mo_addRing_151 : decode b_Mo_addRing 151 = .ok (.iload 4, 2) := by decide +kernel
theorem d_Mo_addRing_153 : decode b_Mo_addRing 153 = .ok (.iastore, 1) := by decide +kernel
theorem d_Mo_addRing_154 : decode b_Mo_addRing 154 = .ok (.aload_n 0, 1) := by decide +kernel
theorem d_Mo_addRing_155 : decode b_Mo_addRing 155 = .ok (.dup, 1) := by decide +kernel
theorem d_Mo_addRing_156 : decode b_Mo_addRing 156 = .ok (.getfield 198, 3) := by decide +kernel
theorem d_Mo_addRing_159 : decode b_Mo_addRing 159 = .ok (.iconst 1, 1) := by decide +kernel
theorem d_Mo_addRing_160 : decode b_Mo_addRing 160 = .ok (.iadd, 1) := by decide +kernel
theorem d_Mo_addRing_161 : decode b_Mo_addRing 161 = .ok (.putfield 198, 3) := by decide +kernel
theorem d_Mo_addRing_164 : decode b_Mo_addRing 164 = .ok (.return_, 1) := by decide +kernel
abbrev wl_Mo_addRing (a_0 : Nat) (a_0_ringSpaces : Nat) (a_0_ringStarts : Nat) (a_0_ringSizes : Nat) (a_0_ringLeast : Nat) (b_0_isFlat : Nat) (b_0_across : Nat) (b_0_lows : Nat) (b_0_highs : Nat) (b_0_thick : Nat) (b_0_doorCounts : Nat) (b_0_doorFrom : Nat) (b_0_doorTo : Nat) (b_0_xs : Nat) (b_0_ys : Nat) (b_0_labels : Nat) (b_0_oldXs : Nat) (b_0_oldYs : Nat) (b_0_oldLabels : Nat) (b_0_names : Nat) (b_0_oldNames : Nat) (b_0_wanted : Nat) (b_0_common : Nat) (b_0_flatEdges : Nat) (b_0_upEdges : Nat) (b_0_isPoint : Nat) (b_0_stack : Nat) (b_0_pieceLines : Nat) (b_0_pieceBegins : Nat) (b_0_pieceEnds : Nat) (b_0_pieceLeft : Nat) (b_0_pieceRight : Nat) (b_0_outs : Nat) (b_0_isSeen : Nat) (b_0_looseLines : Nat) (b_0_looseXs : Nat) (b_0_looseYs : Nat) (b_0_looseReaches : Nat) (b_0_far : Nat) (cI : ClassId) (v_0_code : Int32) (v_0_lines : Int32) (v_0_isFresh : Int32) (v_0_hasRun : Int32) (v_0_runs : Int32) (v_0_nx : Int32) (v_0_ny : Int32) (v_0_spaces : Int32) (v_0_oldNx : Int32) (v_0_oldNy : Int32) (v_0_oldSpaces : Int32) (v_0_points : Int32) (v_0_pieces : Int32) (v_0_rings : Int32) (v_0_outsideSides : Int32) (v_0_looseCount : Int32) (f_0_ringSpaces : Nat → Int32) (f_0_ringStarts : Nat → Int32) (f_0_ringSizes : Nat → Int32) (f_0_ringLeast : Nat → Int32) : va_W := [(a_0, .inr (11, [.int v_0_code, .ref b_0_isFlat, .ref b_0_across, .ref b_0_lows, .ref b_0_highs, .ref b_0_thick, .int v_0_lines, .ref b_0_doorCounts, .ref b_0_doorFrom, .ref b_0_doorTo, .int v_0_isFresh, .int v_0_hasRun, .int v_0_runs, .ref b_0_xs, .ref b_0_ys, .int v_0_nx, .int v_0_ny, .ref b_0_labels, .int v_0_spaces, .ref b_0_oldXs, .ref b_0_oldYs, .int v_0_oldNx, .int v_0_oldNy, .ref b_0_oldLabels, .int v_0_oldSpaces, .ref b_0_names, .ref b_0_oldNames, .ref b_0_wanted, .ref b_0_common, .ref b_0_flatEdges, .ref b_0_upEdges, .ref b_0_isPoint, .int v_0_points, .ref b_0_stack, .ref b_0_pieceLines, .ref b_0_pieceBegins, .ref b_0_pieceEnds, .ref b_0_pieceLeft, .ref b_0_pieceRight, .int v_0_pieces, .ref b_0_outs, .ref b_0_isSeen, .ref a_0_ringSpaces, .ref a_0_ringStarts, .ref a_0_ringSizes, .ref a_0_ringLeast, .int v_0_rings, .int v_0_outsideSides, .ref b_0_looseLines, .ref b_0_looseXs, .ref b_0_looseYs, .ref b_0_looseReaches, .int v_0_looseCount, .ref b_0_far])), (a_0_ringSpaces, .inl (cI, 900, .inl f_0_ringSpaces)), (a_0_ringStarts, .inl (cI, 900, .inl f_0_ringStarts)), (a_0_ringSizes, .inl (cI, 900, .inl f_0_ringSizes)), (a_0_ringLeast, .inl (cI, 900, .inl f_0_ringLeast))]
def m_Mo_addRing_L6 (l1 : Int32) (l4 : Int32) : Nat → Int32 → (Nat → Int32) → (Nat → Int32) → (Nat → Int32) → (Nat → Int32) → Option (Int32 × (Nat → Int32) × (Nat → Int32) × (Nat → Int32) × (Nat → Int32))
  | 0, _, _, _, _, _ => none
  | n + 1, l5, f_0_ringSpaces, f_0_ringStarts, f_0_ringSizes, f_0_ringLeast =>
    if l5 ≤ 0 then (
      some (l5, f_0_ringSpaces, f_0_ringStarts, f_0_ringSizes, f_0_ringLeast))
    else (
      gI (l5 - 1) 900 <|
      if l1 < (f_0_ringSpaces (l5 - 1).toNatClampNeg) then (
        gI (l5 - 1) 900 <|
        gI l5 900 <|
        lt_ (upd f_0_ringSpaces l5.toNatClampNeg (f_0_ringSpaces (l5 - 1).toNatClampNeg)) fun f6 =>
        gI (l5 - 1) 900 <|
        gI l5 900 <|
        lt_ (upd f_0_ringStarts l5.toNatClampNeg (f_0_ringStarts (l5 - 1).toNatClampNeg)) fun f9 =>
        gI (l5 - 1) 900 <|
        gI l5 900 <|
        lt_ (upd f_0_ringSizes l5.toNatClampNeg (f_0_ringSizes (l5 - 1).toNatClampNeg)) fun f12 =>
        gI (l5 - 1) 900 <|
        gI l5 900 <|
        lt_ (upd f_0_ringLeast l5.toNatClampNeg (f_0_ringLeast (l5 - 1).toNatClampNeg)) fun f15 =>
        lt_ (l5 + (-1)) fun x16 =>
        m_Mo_addRing_L6 l1 l4 n x16 f6 f9 f12 f15)
      else (
        gI (l5 - 1) 900 <|
        if (f_0_ringSpaces (l5 - 1).toNatClampNeg) = l1 then (
          gI (l5 - 1) 900 <|
          if (f_0_ringLeast (l5 - 1).toNatClampNeg) ≤ l4 then (
            some (l5, f_0_ringSpaces, f_0_ringStarts, f_0_ringSizes, f_0_ringLeast))
          else (
            gI (l5 - 1) 900 <|
            gI l5 900 <|
            lt_ (upd f_0_ringSpaces l5.toNatClampNeg (f_0_ringSpaces (l5 - 1).toNatClampNeg)) fun f23 =>
            gI (l5 - 1) 900 <|
            gI l5 900 <|
            lt_ (upd f_0_ringStarts l5.toNatClampNeg (f_0_ringStarts (l5 - 1).toNatClampNeg)) fun f26 =>
            gI (l5 - 1) 900 <|
            gI l5 900 <|
            lt_ (upd f_0_ringSizes l5.toNatClampNeg (f_0_ringSizes (l5 - 1).toNatClampNeg)) fun f29 =>
            gI (l5 - 1) 900 <|
            gI l5 900 <|
            lt_ (upd f_0_ringLeast l5.toNatClampNeg (f_0_ringLeast (l5 - 1).toNatClampNeg)) fun f32 =>
            lt_ (l5 + (-1)) fun x33 =>
            m_Mo_addRing_L6 l1 l4 n x33 f23 f26 f29 f32))
        else (
          some (l5, f_0_ringSpaces, f_0_ringStarts, f_0_ringSizes, f_0_ringLeast))))
def m_Mo_addRing (p1 : Int32) (p2 : Int32) (p3 : Int32) (p4 : Int32) (v_0_rings : Int32) (f_0_ringSpaces : Nat → Int32) (f_0_ringStarts : Nat → Int32) (f_0_ringSizes : Nat → Int32) (f_0_ringLeast : Nat → Int32) : Option ((Int32) × (Nat → Int32) × (Nat → Int32) × (Nat → Int32) × (Nat → Int32)) :=
  bd5 (m_Mo_addRing_L6 p1 p4 fu v_0_rings f_0_ringSpaces f_0_ringStarts f_0_ringSizes f_0_ringLeast) fun x6 f7 f8 f9 f10 =>
  gI x6 900 <|
  lt_ (upd f7 x6.toNatClampNeg p1) fun f47 =>
  gI x6 900 <|
  lt_ (upd f8 x6.toNatClampNeg p2) fun f49 =>
  gI x6 900 <|
  lt_ (upd f9 x6.toNatClampNeg p3) fun f51 =>
  gI x6 900 <|
  lt_ (upd f10 x6.toNatClampNeg p4) fun f53 =>
  lt_ (v_0_rings + 1) fun x54 =>
  some (x54, f47, f49, f51, f53)

set_option maxHeartbeats 4000000 in
set_option maxRecDepth 100000 in
theorem t_Mo_addRing {p : Program} {l : Launch} {e : Env} {s : State} {m : MethodId} {args : Array Value} {below : List Frame} {meth : Method} {c : Code} {A : Nat → Prop} {Q : State → Prop} {dC : Nat → ClassId} {dI : Nat → Nat → Nat} {cI cZ cJ : ClassId} (a_0 a_0_ringSpaces a_0_ringStarts a_0_ringSizes a_0_ringLeast b_0_isFlat b_0_across b_0_lows b_0_highs b_0_thick b_0_doorCounts b_0_doorFrom b_0_doorTo b_0_xs b_0_ys b_0_labels b_0_oldXs b_0_oldYs b_0_oldLabels b_0_names b_0_oldNames b_0_wanted b_0_common b_0_flatEdges b_0_upEdges b_0_isPoint b_0_stack b_0_pieceLines b_0_pieceBegins b_0_pieceEnds b_0_pieceLeft b_0_pieceRight b_0_outs b_0_isSeen b_0_looseLines b_0_looseXs b_0_looseYs b_0_looseReaches b_0_far : Nat) (v_0_code : Int32) (v_0_lines : Int32) (v_0_isFresh : Int32) (v_0_hasRun : Int32) (v_0_runs : Int32) (v_0_nx : Int32) (v_0_ny : Int32) (v_0_spaces : Int32) (v_0_oldNx : Int32) (v_0_oldNy : Int32) (v_0_oldSpaces : Int32) (v_0_points : Int32) (v_0_pieces : Int32) (v_0_rings : Int32) (v_0_outsideSides : Int32) (v_0_looseCount : Int32) (f_0_ringSpaces : Nat → Int32) (f_0_ringStarts : Nat → Int32) (f_0_ringSizes : Nat → Int32) (f_0_ringLeast : Nat → Int32) (p1 : Int32) (p2 : Int32) (p3 : Int32) (p4 : Int32) (ov_0_rings : Int32) (of_0_ringSpaces : Nat → Int32) (of_0_ringStarts : Nat → Int32) (of_0_ringSizes : Nat → Int32) (of_0_ringLeast : Nat → Int32) (hx : p.tables.exec = Jvm.exec) (hb : c.code = b_Mo_addRing) (hml : c.maxLocals = 6) (hown : s.vm.findClass "SpaceCyclesModel" = some m.cls) (hts : ∀ w ∈ w_Mo_addRing, w.before args s = true) (hK : va_K (dC, dI) vwCl [(cI, .int), (cZ, .boolean), (cJ, .long)] s) (hN : NX s) (hA : ∀ q : Nat, s.heap.size ≤ q → A q)
    (hret : ∀ (pc : Nat) (H : Heap) (locs : List Loc) (ls : Array Slot), decode b_Mo_addRing pc = .ok (.return_, 1) → va_P (dC, dI) vwCl (wl_Mo_addRing a_0 a_0_ringSpaces a_0_ringStarts a_0_ringSizes a_0_ringLeast b_0_isFlat b_0_across b_0_lows b_0_highs b_0_thick b_0_doorCounts b_0_doorFrom b_0_doorTo b_0_xs b_0_ys b_0_labels b_0_oldXs b_0_oldYs b_0_oldLabels b_0_names b_0_oldNames b_0_wanted b_0_common b_0_flatEdges b_0_upEdges b_0_isPoint b_0_stack b_0_pieceLines b_0_pieceBegins b_0_pieceEnds b_0_pieceLeft b_0_pieceRight b_0_outs b_0_isSeen b_0_looseLines b_0_looseXs b_0_looseYs b_0_looseReaches b_0_far cI v_0_code v_0_lines v_0_isFresh v_0_hasRun v_0_runs v_0_nx v_0_ny v_0_spaces v_0_oldNx v_0_oldNy v_0_oldSpaces v_0_points v_0_pieces ov_0_rings v_0_outsideSides v_0_looseCount of_0_ringSpaces of_0_ringStarts of_0_ringSizes of_0_ringLeast) H → va_D A (wl_Mo_addRing a_0 a_0_ringSpaces a_0_ringStarts a_0_ringSizes a_0_ringLeast b_0_isFlat b_0_across b_0_lows b_0_highs b_0_thick b_0_doorCounts b_0_doorFrom b_0_doorTo b_0_xs b_0_ys b_0_labels b_0_oldXs b_0_oldYs b_0_oldLabels b_0_names b_0_oldNames b_0_wanted b_0_common b_0_flatEdges b_0_upEdges b_0_isPoint b_0_stack b_0_pieceLines b_0_pieceBegins b_0_pieceEnds b_0_pieceLeft b_0_pieceRight b_0_outs b_0_isSeen b_0_looseLines b_0_looseXs b_0_looseYs b_0_looseReaches b_0_far cI v_0_code v_0_lines v_0_isFresh v_0_hasRun v_0_runs v_0_nx v_0_ny v_0_spaces v_0_oldNx v_0_oldNy v_0_oldSpaces v_0_points v_0_pieces ov_0_rings v_0_outsideSides v_0_looseCount of_0_ringSpaces of_0_ringStarts of_0_ringSizes of_0_ringLeast) → va_S A s.heap H locs → W p l e rm_Mo_addRing s m args below meth c H locs 0 0 Q (F0 m pc ls []))
    (hm : m_Mo_addRing p1 p2 p3 p4 v_0_rings f_0_ringSpaces f_0_ringStarts f_0_ringSizes f_0_ringLeast = some (ov_0_rings, of_0_ringSpaces, of_0_ringStarts, of_0_ringSizes, of_0_ringLeast)) : ∀ (H : Heap) (locs : List Loc) (ls : Array Slot), va_P (dC, dI) vwCl (wl_Mo_addRing a_0 a_0_ringSpaces a_0_ringStarts a_0_ringSizes a_0_ringLeast b_0_isFlat b_0_across b_0_lows b_0_highs b_0_thick b_0_doorCounts b_0_doorFrom b_0_doorTo b_0_xs b_0_ys b_0_labels b_0_oldXs b_0_oldYs b_0_oldLabels b_0_names b_0_oldNames b_0_wanted b_0_common b_0_flatEdges b_0_upEdges b_0_isPoint b_0_stack b_0_pieceLines b_0_pieceBegins b_0_pieceEnds b_0_pieceLeft b_0_pieceRight b_0_outs b_0_isSeen b_0_looseLines b_0_looseXs b_0_looseYs b_0_looseReaches b_0_far cI v_0_code v_0_lines v_0_isFresh v_0_hasRun v_0_runs v_0_nx v_0_ny v_0_spaces v_0_oldNx v_0_oldNy v_0_oldSpaces v_0_points v_0_pieces v_0_rings v_0_outsideSides v_0_looseCount f_0_ringSpaces f_0_ringStarts f_0_ringSizes f_0_ringLeast) H → va_D A (wl_Mo_addRing a_0 a_0_ringSpaces a_0_ringStarts a_0_ringSizes a_0_ringLeast b_0_isFlat b_0_across b_0_lows b_0_highs b_0_thick b_0_doorCounts b_0_doorFrom b_0_doorTo b_0_xs b_0_ys b_0_labels b_0_oldXs b_0_oldYs b_0_oldLabels b_0_names b_0_oldNames b_0_wanted b_0_common b_0_flatEdges b_0_upEdges b_0_isPoint b_0_stack b_0_pieceLines b_0_pieceBegins b_0_pieceEnds b_0_pieceLeft b_0_pieceRight b_0_outs b_0_isSeen b_0_looseLines b_0_looseXs b_0_looseYs b_0_looseReaches b_0_far cI v_0_code v_0_lines v_0_isFresh v_0_hasRun v_0_runs v_0_nx v_0_ny v_0_spaces v_0_oldNx v_0_oldNy v_0_oldSpaces v_0_points v_0_pieces v_0_rings v_0_outsideSides v_0_looseCount f_0_ringSpaces f_0_ringStarts f_0_ringSizes f_0_ringLeast) → va_S A s.heap H locs → lv_has ls 6 [(0, .ref a_0), (1, .int p1), (2, .int p2), (3, .int p3), (4, .int p4)] → W p l e rm_Mo_addRing s m args below meth c H locs 0 0 Q (F0 m 0 ls []) := by
  intro H locs ls hP hD hS hl
  unfold m_Mo_addRing at hm
  refine lv_aload_n hx hb d_Mo_addRing_0 rfl (lv_at hl 0 rfl) ?_
  refine va_get (D := (dC, dI)) (ci := 11) (v := .int v_0_rings) (C := "SpaceCyclesModel") (T := F_Mo) (N := 54) hx hb hts (in_F i_Mo) hown hK hP 0 rfl rfl 46 (by decide) (hts _ (in_c k_344)) (fun _ h9 => h9) rfl d_Mo_addRing_1 ?_
  refine lv_istore (lv' := [(5, .int v_0_rings), (0, .ref a_0), (1, .int p1), (2, .int p2), (3, .int p3), (4, .int p4)]) hx hb d_Mo_addRing_4 hl (by decide) rfl (fun ls hl => ?_)
  have L6_11 : ∀ (n : Nat) (x1 : Int32) (f2 : Nat → Int32) (f3 : Nat → Int32) (f4 : Nat → Int32) (f5 : Nat → Int32) (x6 : Int32) (f7 : Nat → Int32) (f8 : Nat → Int32) (f9 : Nat → Int32) (f10 : Nat → Int32), m_Mo_addRing_L6 p1 p4 n x1 f2 f3 f4 f5 = some (x6, f7, f8, f9, f10) → (∀ (H : Heap) (locs : List Loc) (ls : Array Slot), va_P (dC, dI) vwCl (wl_Mo_addRing a_0 a_0_ringSpaces a_0_ringStarts a_0_ringSizes a_0_ringLeast b_0_isFlat b_0_across b_0_lows b_0_highs b_0_thick b_0_doorCounts b_0_doorFrom b_0_doorTo b_0_xs b_0_ys b_0_labels b_0_oldXs b_0_oldYs b_0_oldLabels b_0_names b_0_oldNames b_0_wanted b_0_common b_0_flatEdges b_0_upEdges b_0_isPoint b_0_stack b_0_pieceLines b_0_pieceBegins b_0_pieceEnds b_0_pieceLeft b_0_pieceRight b_0_outs b_0_isSeen b_0_looseLines b_0_looseXs b_0_looseYs b_0_looseReaches b_0_far cI v_0_code v_0_lines v_0_isFresh v_0_hasRun v_0_runs v_0_nx v_0_ny v_0_spaces v_0_oldNx v_0_oldNy v_0_oldSpaces v_0_points v_0_pieces v_0_rings v_0_outsideSides v_0_looseCount f7 f8 f9 f10) H → va_D A (wl_Mo_addRing a_0 a_0_ringSpaces a_0_ringStarts a_0_ringSizes a_0_ringLeast b_0_isFlat b_0_across b_0_lows b_0_highs b_0_thick b_0_doorCounts b_0_doorFrom b_0_doorTo b_0_xs b_0_ys b_0_labels b_0_oldXs b_0_oldYs b_0_oldLabels b_0_names b_0_oldNames b_0_wanted b_0_common b_0_flatEdges b_0_upEdges b_0_isPoint b_0_stack b_0_pieceLines b_0_pieceBegins b_0_pieceEnds b_0_pieceLeft b_0_pieceRight b_0_outs b_0_isSeen b_0_looseLines b_0_looseXs b_0_looseYs b_0_looseReaches b_0_far cI v_0_code v_0_lines v_0_isFresh v_0_hasRun v_0_runs v_0_nx v_0_ny v_0_spaces v_0_oldNx v_0_oldNy v_0_oldSpaces v_0_points v_0_pieces v_0_rings v_0_outsideSides v_0_looseCount f7 f8 f9 f10) → va_S A s.heap H locs → lv_has ls 6 [(0, .ref a_0), (1, .int p1), (2, .int p2), (3, .int p3), (4, .int p4), (5, .int x6)] → W p l e rm_Mo_addRing s m args below meth c H locs 0 0 Q (F0 m 121 ls [])) → ∀ (H : Heap) (locs : List Loc) (ls : Array Slot), va_P (dC, dI) vwCl (wl_Mo_addRing a_0 a_0_ringSpaces a_0_ringStarts a_0_ringSizes a_0_ringLeast b_0_isFlat b_0_across b_0_lows b_0_highs b_0_thick b_0_doorCounts b_0_doorFrom b_0_doorTo b_0_xs b_0_ys b_0_labels b_0_oldXs b_0_oldYs b_0_oldLabels b_0_names b_0_oldNames b_0_wanted b_0_common b_0_flatEdges b_0_upEdges b_0_isPoint b_0_stack b_0_pieceLines b_0_pieceBegins b_0_pieceEnds b_0_pieceLeft b_0_pieceRight b_0_outs b_0_isSeen b_0_looseLines b_0_looseXs b_0_looseYs b_0_looseReaches b_0_far cI v_0_code v_0_lines v_0_isFresh v_0_hasRun v_0_runs v_0_nx v_0_ny v_0_spaces v_0_oldNx v_0_oldNy v_0_oldSpaces v_0_points v_0_pieces v_0_rings v_0_outsideSides v_0_looseCount f2 f3 f4 f5) H → va_D A (wl_Mo_addRing a_0 a_0_ringSpaces a_0_ringStarts a_0_ringSizes a_0_ringLeast b_0_isFlat b_0_across b_0_lows b_0_highs b_0_thick b_0_doorCounts b_0_doorFrom b_0_doorTo b_0_xs b_0_ys b_0_labels b_0_oldXs b_0_oldYs b_0_oldLabels b_0_names b_0_oldNames b_0_wanted b_0_common b_0_flatEdges b_0_upEdges b_0_isPoint b_0_stack b_0_pieceLines b_0_pieceBegins b_0_pieceEnds b_0_pieceLeft b_0_pieceRight b_0_outs b_0_isSeen b_0_looseLines b_0_looseXs b_0_looseYs b_0_looseReaches b_0_far cI v_0_code v_0_lines v_0_isFresh v_0_hasRun v_0_runs v_0_nx v_0_ny v_0_spaces v_0_oldNx v_0_oldNy v_0_oldSpaces v_0_points v_0_pieces v_0_rings v_0_outsideSides v_0_looseCount f2 f3 f4 f5) → va_S A s.heap H locs → lv_has ls 6 [(0, .ref a_0), (1, .int p1), (2, .int p2), (3, .int p3), (4, .int p4), (5, .int x1)] → W p l e rm_Mo_addRing s m args below meth c H locs 0 0 Q (F0 m 6 ls []) := by
    intro n
    induction n with
    | zero => intro x1 f2 f3 f4 f5 x6 f7 f8 f9 f10 hm; simp [m_Mo_addRing_L6] at hm
    | succ n ih =>
      intro x1 f2 f3 f4 f5 x6 f7 f8 f9 f10 hm KE H locs ls hP hD hS hl
      rw [m_Mo_addRing_L6] at hm
      refine lv_iload hx hb d_Mo_addRing_6 (lv_at hl 5 rfl) ?_
      refine lv_if_le (tgt := 121) hx hb d_Mo_addRing_8 (by decide) (fun c12 => ?_) (fun c12 => ?_)
      · replace hm := if_t hm c12
        cases hm
        exact KE H locs ls hP hD hS (lv_sub hl [0, 1, 2, 3, 4, 5] rfl)
      · replace hm := if_f hm c12
        refine lv_aload_n hx hb d_Mo_addRing_11 rfl (lv_at hl 0 rfl) ?_
        refine va_get (D := (dC, dI)) (ci := 11) (v := .ref a_0_ringSpaces) (C := "SpaceCyclesModel") (T := F_Mo) (N := 54) hx hb hts (in_F i_Mo) hown hK hP 0 rfl rfl 42 (by decide) (hts _ (in_c k_345)) (fun _ h9 => h9) rfl d_Mo_addRing_12 ?_
        refine lv_iload hx hb d_Mo_addRing_15 (lv_at hl 5 rfl) ?_
        refine lv_iconst (v := 1) hx hb d_Mo_addRing_17 (by decide) ?_
        refine lv_isub hx hb d_Mo_addRing_18 ?_
        obtain ⟨hi13, hm⟩ := gI_e hm
        refine va_iald hx hb hK hP 1 0 rfl rfl hi13 d_Mo_addRing_19 ?_
        refine lv_iload_n hx hb d_Mo_addRing_20 rfl (lv_at hl 1 rfl) ?_
        refine lv_icmp_gt (tgt := 51) hx hb d_Mo_addRing_21 (by decide) (fun c14 => ?_) (fun c14 => ?_)
        · replace hm := if_t hm c14
          refine lv_aload_n hx hb d_Mo_addRing_51 rfl (lv_at hl 0 rfl) ?_
          refine va_get (D := (dC, dI)) (ci := 11) (v := .ref a_0_ringSpaces) (C := "SpaceCyclesModel") (T := F_Mo) (N := 54) hx hb hts (in_F i_Mo) hown hK hP 0 rfl rfl 42 (by decide) (hts _ (in_c k_345)) (fun _ h9 => h9) rfl d_Mo_addRing_52 ?_
          refine lv_iload hx hb d_Mo_addRing_55 (lv_at hl 5 rfl) ?_
          refine lv_aload_n hx hb d_Mo_addRing_57 rfl (lv_at hl 0 rfl) ?_
          refine va_get (D := (dC, dI)) (ci := 11) (v := .ref a_0_ringSpaces) (C := "SpaceCyclesModel") (T := F_Mo) (N := 54) hx hb hts (in_F i_Mo) hown hK hP 0 rfl rfl 42 (by decide) (hts _ (in_c k_345)) (fun _ h9 => h9) rfl d_Mo_addRing_58 ?_
          refine lv_iload hx hb d_Mo_addRing_61 (lv_at hl 5 rfl) ?_
          refine lv_iconst (v := 1) hx hb d_Mo_addRing_63 (by decide) ?_
          refine lv_isub hx hb d_Mo_addRing_64 ?_
          obtain ⟨hi15, hm⟩ := gI_e hm
          refine va_iald hx hb hK hP 1 0 rfl rfl hi15 d_Mo_addRing_65 ?_
          obtain ⟨hi16, hm⟩ := gI_e hm
          obtain ⟨f17, ef17⟩ : ∃ y : Nat → Int32, y = upd f2 x1.toNatClampNeg (f2 (x1 - 1).toNatClampNeg) := ⟨_, rfl⟩
          replace hm := lt_el hm ef17
          refine va_iast hx hb hK hP hD hS 1 0 rfl rfl hi16 d_Mo_addRing_66 (fun H locs hP hD hS => ?_)
          rw [← ef17] at hP hD
          have hP : va_P (dC, dI) vwCl (wl_Mo_addRing a_0 a_0_ringSpaces a_0_ringStarts a_0_ringSizes a_0_ringLeast b_0_isFlat b_0_across b_0_lows b_0_highs b_0_thick b_0_doorCounts b_0_doorFrom b_0_doorTo b_0_xs b_0_ys b_0_labels b_0_oldXs b_0_oldYs b_0_oldLabels b_0_names b_0_oldNames b_0_wanted b_0_common b_0_flatEdges b_0_upEdges b_0_isPoint b_0_stack b_0_pieceLines b_0_pieceBegins b_0_pieceEnds b_0_pieceLeft b_0_pieceRight b_0_outs b_0_isSeen b_0_looseLines b_0_looseXs b_0_looseYs b_0_looseReaches b_0_far cI v_0_code v_0_lines v_0_isFresh v_0_hasRun v_0_runs v_0_nx v_0_ny v_0_spaces v_0_oldNx v_0_oldNy v_0_oldSpaces v_0_points v_0_pieces v_0_rings v_0_outsideSides v_0_looseCount f17 f3 f4 f5) H := hP
          have hD : va_D A (wl_Mo_addRing a_0 a_0_ringSpaces a_0_ringStarts a_0_ringSizes a_0_ringLeast b_0_isFlat b_0_across b_0_lows b_0_highs b_0_thick b_0_doorCounts b_0_doorFrom b_0_doorTo b_0_xs b_0_ys b_0_labels b_0_oldXs b_0_oldYs b_0_oldLabels b_0_names b_0_oldNames b_0_wanted b_0_common b_0_flatEdges b_0_upEdges b_0_isPoint b_0_stack b_0_pieceLines b_0_pieceBegins b_0_pieceEnds b_0_pieceLeft b_0_pieceRight b_0_outs b_0_isSeen b_0_looseLines b_0_looseXs b_0_looseYs b_0_looseReaches b_0_far cI v_0_code v_0_lines v_0_isFresh v_0_hasRun v_0_runs v_0_nx v_0_ny v_0_spaces v_0_oldNx v_0_oldNy v_0_oldSpaces v_0_points v_0_pieces v_0_rings v_0_outsideSides v_0_looseCount f17 f3 f4 f5) := hD
          refine lv_aload_n hx hb d_Mo_addRing_67 rfl (lv_at hl 0 rfl) ?_
          refine va_get (D := (dC, dI)) (ci := 11) (v := .ref a_0_ringStarts) (C := "SpaceCyclesModel") (T := F_Mo) (N := 54) hx hb hts (in_F i_Mo) hown hK hP 0 rfl rfl 43 (by decide) (hts _ (in_c k_346)) (fun _ h9 => h9) rfl d_Mo_addRing_68 ?_
          refine lv_iload hx hb d_Mo_addRing_71 (lv_at hl 5 rfl) ?_
          refine lv_aload_n hx hb d_Mo_addRing_73 rfl (lv_at hl 0 rfl) ?_
          refine va_get (D := (dC, dI)) (ci := 11) (v := .ref a_0_ringStarts) (C := "SpaceCyclesModel") (T := F_Mo) (N := 54) hx hb hts (in_F i_Mo) hown hK hP 0 rfl rfl 43 (by decide) (hts _ (in_c k_346)) (fun _ h9 => h9) rfl d_Mo_addRing_74 ?_
          refine lv_iload hx hb d_Mo_addRing_77 (lv_at hl 5 rfl) ?_
          refine lv_iconst (v := 1) hx hb d_Mo_addRing_79 (by decide) ?_
          refine lv_isub hx hb d_Mo_addRing_80 ?_
          obtain ⟨hi18, hm⟩ := gI_e hm
          refine va_iald hx hb hK hP 2 0 rfl rfl hi18 d_Mo_addRing_81 ?_
          obtain ⟨hi19, hm⟩ := gI_e hm
          obtain ⟨f20, ef20⟩ : ∃ y : Nat → Int32, y = upd f3 x1.toNatClampNeg (f3 (x1 - 1).toNatClampNeg) := ⟨_, rfl⟩
          replace hm := lt_el hm ef20
          refine va_iast hx hb hK hP hD hS 2 0 rfl rfl hi19 d_Mo_addRing_82 (fun H locs hP hD hS => ?_)
          rw [← ef20] at hP hD
          have hP : va_P (dC, dI) vwCl (wl_Mo_addRing a_0 a_0_ringSpaces a_0_ringStarts a_0_ringSizes a_0_ringLeast b_0_isFlat b_0_across b_0_lows b_0_highs b_0_thick b_0_doorCounts b_0_doorFrom b_0_doorTo b_0_xs b_0_ys b_0_labels b_0_oldXs b_0_oldYs b_0_oldLabels b_0_names b_0_oldNames b_0_wanted b_0_common b_0_flatEdges b_0_upEdges b_0_isPoint b_0_stack b_0_pieceLines b_0_pieceBegins b_0_pieceEnds b_0_pieceLeft b_0_pieceRight b_0_outs b_0_isSeen b_0_looseLines b_0_looseXs b_0_looseYs b_0_looseReaches b_0_far cI v_0_code v_0_lines v_0_isFresh v_0_hasRun v_0_runs v_0_nx v_0_ny v_0_spaces v_0_oldNx v_0_oldNy v_0_oldSpaces v_0_points v_0_pieces v_0_rings v_0_outsideSides v_0_looseCount f17 f20 f4 f5) H := hP
          have hD : va_D A (wl_Mo_addRing a_0 a_0_ringSpaces a_0_ringStarts a_0_ringSizes a_0_ringLeast b_0_isFlat b_0_across b_0_lows b_0_highs b_0_thick b_0_doorCounts b_0_doorFrom b_0_doorTo b_0_xs b_0_ys b_0_labels b_0_oldXs b_0_oldYs b_0_oldLabels b_0_names b_0_oldNames b_0_wanted b_0_common b_0_flatEdges b_0_upEdges b_0_isPoint b_0_stack b_0_pieceLines b_0_pieceBegins b_0_pieceEnds b_0_pieceLeft b_0_pieceRight b_0_outs b_0_isSeen b_0_looseLines b_0_looseXs b_0_looseYs b_0_looseReaches b_0_far cI v_0_code v_0_lines v_0_isFresh v_0_hasRun v_0_runs v_0_nx v_0_ny v_0_spaces v_0_oldNx v_0_oldNy v_0_oldSpaces v_0_points v_0_pieces v_0_rings v_0_outsideSides v_0_looseCount f17 f20 f4 f5) := hD
          refine lv_aload_n hx hb d_Mo_addRing_83 rfl (lv_at hl 0 rfl) ?_
          refine va_get (D := (dC, dI)) (ci := 11) (v := .ref a_0_ringSizes) (C := "SpaceCyclesModel") (T := F_Mo) (N := 54) hx hb hts (in_F i_Mo) hown hK hP 0 rfl rfl 44 (by decide) (hts _ (in_c k_347)) (fun _ h9 => h9) rfl d_Mo_addRing_84 ?_
          refine lv_iload hx hb d_Mo_addRing_87 (lv_at hl 5 rfl) ?_
          refine lv_aload_n hx hb d_Mo_addRing_89 rfl (lv_at hl 0 rfl) ?_
          refine va_get (D := (dC, dI)) (ci := 11) (v := .ref a_0_ringSizes) (C := "SpaceCyclesModel") (T := F_Mo) (N := 54) hx hb hts (in_F i_Mo) hown hK hP 0 rfl rfl 44 (by decide) (hts _ (in_c k_347)) (fun _ h9 => h9) rfl d_Mo_addRing_90 ?_
          refine lv_iload hx hb d_Mo_addRing_93 (lv_at hl 5 rfl) ?_
          refine lv_iconst (v := 1) hx hb d_Mo_addRing_95 (by decide) ?_
          refine lv_isub hx hb d_Mo_addRing_96 ?_
          obtain ⟨hi21, hm⟩ := gI_e hm
          refine va_iald hx hb hK hP 3 0 rfl rfl hi21 d_Mo_addRing_97 ?_
          obtain ⟨hi22, hm⟩ := gI_e hm
          obtain ⟨f23, ef23⟩ : ∃ y : Nat → Int32, y = upd f4 x1.toNatClampNeg (f4 (x1 - 1).toNatClampNeg) := ⟨_, rfl⟩
          replace hm := lt_el hm ef23
          refine va_iast hx hb hK hP hD hS 3 0 rfl rfl hi22 d_Mo_addRing_98 (fun H locs hP hD hS => ?_)
          rw [← ef23] at hP hD
          have hP : va_P (dC, dI) vwCl (wl_Mo_addRing a_0 a_0_ringSpaces a_0_ringStarts a_0_ringSizes a_0_ringLeast b_0_isFlat b_0_across b_0_lows b_0_highs b_0_thick b_0_doorCounts b_0_doorFrom b_0_doorTo b_0_xs b_0_ys b_0_labels b_0_oldXs b_0_oldYs b_0_oldLabels b_0_names b_0_oldNames b_0_wanted b_0_common b_0_flatEdges b_0_upEdges b_0_isPoint b_0_stack b_0_pieceLines b_0_pieceBegins b_0_pieceEnds b_0_pieceLeft b_0_pieceRight b_0_outs b_0_isSeen b_0_looseLines b_0_looseXs b_0_looseYs b_0_looseReaches b_0_far cI v_0_code v_0_lines v_0_isFresh v_0_hasRun v_0_runs v_0_nx v_0_ny v_0_spaces v_0_oldNx v_0_oldNy v_0_oldSpaces v_0_points v_0_pieces v_0_rings v_0_outsideSides v_0_looseCount f17 f20 f23 f5) H := hP
          have hD : va_D A (wl_Mo_addRing a_0 a_0_ringSpaces a_0_ringStarts a_0_ringSizes a_0_ringLeast b_0_isFlat b_0_across b_0_lows b_0_highs b_0_thick b_0_doorCounts b_0_doorFrom b_0_doorTo b_0_xs b_0_ys b_0_labels b_0_oldXs b_0_oldYs b_0_oldLabels b_0_names b_0_oldNames b_0_wanted b_0_common b_0_flatEdges b_0_upEdges b_0_isPoint b_0_stack b_0_pieceLines b_0_pieceBegins b_0_pieceEnds b_0_pieceLeft b_0_pieceRight b_0_outs b_0_isSeen b_0_looseLines b_0_looseXs b_0_looseYs b_0_looseReaches b_0_far cI v_0_code v_0_lines v_0_isFresh v_0_hasRun v_0_runs v_0_nx v_0_ny v_0_spaces v_0_oldNx v_0_oldNy v_0_oldSpaces v_0_points v_0_pieces v_0_rings v_0_outsideSides v_0_looseCount f17 f20 f23 f5) := hD
          refine lv_aload_n hx hb d_Mo_addRing_99 rfl (lv_at hl 0 rfl) ?_
          refine va_get (D := (dC, dI)) (ci := 11) (v := .ref a_0_ringLeast) (C := "SpaceCyclesModel") (T := F_Mo) (N := 54) hx hb hts (in_F i_Mo) hown hK hP 0 rfl rfl 45 (by decide) (hts _ (in_c k_348)) (fun _ h9 => h9) rfl d_Mo_addRing_100 ?_
          refine lv_iload hx hb d_Mo_addRing_103 (lv_at hl 5 rfl) ?_
          refine lv_aload_n hx hb d_Mo_addRing_105 rfl (lv_at hl 0 rfl) ?_
          refine va_get (D := (dC, dI)) (ci := 11) (v := .ref a_0_ringLeast) (C := "SpaceCyclesModel") (T := F_Mo) (N := 54) hx hb hts (in_F i_Mo) hown hK hP 0 rfl rfl 45 (by decide) (hts _ (in_c k_348)) (fun _ h9 => h9) rfl d_Mo_addRing_106 ?_
          refine lv_iload hx hb d_Mo_addRing_109 (lv_at hl 5 rfl) ?_
          refine lv_iconst (v := 1) hx hb d_Mo_addRing_111 (by decide) ?_
          refine lv_isub hx hb d_Mo_addRing_112 ?_
          obtain ⟨hi24, hm⟩ := gI_e hm
          refine va_iald hx hb hK hP 4 0 rfl rfl hi24 d_Mo_addRing_113 ?_
          obtain ⟨hi25, hm⟩ := gI_e hm
          obtain ⟨f26, ef26⟩ : ∃ y : Nat → Int32, y = upd f5 x1.toNatClampNeg (f5 (x1 - 1).toNatClampNeg) := ⟨_, rfl⟩
          replace hm := lt_el hm ef26
          refine va_iast hx hb hK hP hD hS 4 0 rfl rfl hi25 d_Mo_addRing_114 (fun H locs hP hD hS => ?_)
          rw [← ef26] at hP hD
          have hP : va_P (dC, dI) vwCl (wl_Mo_addRing a_0 a_0_ringSpaces a_0_ringStarts a_0_ringSizes a_0_ringLeast b_0_isFlat b_0_across b_0_lows b_0_highs b_0_thick b_0_doorCounts b_0_doorFrom b_0_doorTo b_0_xs b_0_ys b_0_labels b_0_oldXs b_0_oldYs b_0_oldLabels b_0_names b_0_oldNames b_0_wanted b_0_common b_0_flatEdges b_0_upEdges b_0_isPoint b_0_stack b_0_pieceLines b_0_pieceBegins b_0_pieceEnds b_0_pieceLeft b_0_pieceRight b_0_outs b_0_isSeen b_0_looseLines b_0_looseXs b_0_looseYs b_0_looseReaches b_0_far cI v_0_code v_0_lines v_0_isFresh v_0_hasRun v_0_runs v_0_nx v_0_ny v_0_spaces v_0_oldNx v_0_oldNy v_0_oldSpaces v_0_points v_0_pieces v_0_rings v_0_outsideSides v_0_looseCount f17 f20 f23 f26) H := hP
          have hD : va_D A (wl_Mo_addRing a_0 a_0_ringSpaces a_0_ringStarts a_0_ringSizes a_0_ringLeast b_0_isFlat b_0_across b_0_lows b_0_highs b_0_thick b_0_doorCounts b_0_doorFrom b_0_doorTo b_0_xs b_0_ys b_0_labels b_0_oldXs b_0_oldYs b_0_oldLabels b_0_names b_0_oldNames b_0_wanted b_0_common b_0_flatEdges b_0_upEdges b_0_isPoint b_0_stack b_0_pieceLines b_0_pieceBegins b_0_pieceEnds b_0_pieceLeft b_0_pieceRight b_0_outs b_0_isSeen b_0_looseLines b_0_looseXs b_0_looseYs b_0_looseReaches b_0_far cI v_0_code v_0_lines v_0_isFresh v_0_hasRun v_0_runs v_0_nx v_0_ny v_0_spaces v_0_oldNx v_0_oldNy v_0_oldSpaces v_0_points v_0_pieces v_0_rings v_0_outsideSides v_0_looseCount f17 f20 f23 f26) := hD
          obtain ⟨x27, ex27⟩ : ∃ y : Int32, y = x1 + (-1) := ⟨_, rfl⟩
          replace hm := lt_el hm ex27
          refine lv_iinc (v := x27) (lv' := [(5, .int x27), (0, .ref a_0), (1, .int p1), (2, .int p2), (3, .int p3), (4, .int p4)]) hx hb d_Mo_addRing_115 hl (k := 5) rfl (by rw [ex27]; rfl) (by decide) rfl (fun ls hl => ?_)
          refine lv_goto (tgt := 6) hx hb d_Mo_addRing_118 (by decide) ?_
          exact ih _ _ _ _ _ _ _ _ _ _ hm KE H locs ls hP hD hS (lv_sub hl [1, 2, 3, 4, 5, 0] rfl)
        · replace hm := if_f hm c14
          refine lv_aload_n hx hb d_Mo_addRing_24 rfl (lv_at hl 0 rfl) ?_
          refine va_get (D := (dC, dI)) (ci := 11) (v := .ref a_0_ringSpaces) (C := "SpaceCyclesModel") (T := F_Mo) (N := 54) hx hb hts (in_F i_Mo) hown hK hP 0 rfl rfl 42 (by decide) (hts _ (in_c k_345)) (fun _ h9 => h9) rfl d_Mo_addRing_25 ?_
          refine lv_iload hx hb d_Mo_addRing_28 (lv_at hl 5 rfl) ?_
          refine lv_iconst (v := 1) hx hb d_Mo_addRing_30 (by decide) ?_
          refine lv_isub hx hb d_Mo_addRing_31 ?_
          obtain ⟨hi28, hm⟩ := gI_e hm
          refine va_iald hx hb hK hP 1 0 rfl rfl hi28 d_Mo_addRing_32 ?_
          refine lv_iload_n hx hb d_Mo_addRing_33 rfl (lv_at hl 1 rfl) ?_
          refine lv_icmp_ne (tgt := 121) hx hb d_Mo_addRing_34 (by decide) (fun c29 => ?_) (fun c29 => ?_)
          · replace hm := if_f hm c29
            cases hm
            exact KE H locs ls hP hD hS (lv_sub hl [0, 1, 2, 3, 4, 5] rfl)
          · replace hm := if_t hm c29
            refine lv_aload_n hx hb d_Mo_addRing_37 rfl (lv_at hl 0 rfl) ?_
            refine va_get (D := (dC, dI)) (ci := 11) (v := .ref a_0_ringLeast) (C := "SpaceCyclesModel") (T := F_Mo) (N := 54) hx hb hts (in_F i_Mo) hown hK hP 0 rfl rfl 45 (by decide) (hts _ (in_c k_348)) (fun _ h9 => h9) rfl d_Mo_addRing_38 ?_
            refine lv_iload hx hb d_Mo_addRing_41 (lv_at hl 5 rfl) ?_
            refine lv_iconst (v := 1) hx hb d_Mo_addRing_43 (by decide) ?_
            refine lv_isub hx hb d_Mo_addRing_44 ?_
            obtain ⟨hi30, hm⟩ := gI_e hm
            refine va_iald hx hb hK hP 4 0 rfl rfl hi30 d_Mo_addRing_45 ?_
            refine lv_iload hx hb d_Mo_addRing_46 (lv_at hl 4 rfl) ?_
            refine lv_icmp_le (tgt := 121) hx hb d_Mo_addRing_48 (by decide) (fun c31 => ?_) (fun c31 => ?_)
            · replace hm := if_t hm c31
              cases hm
              exact KE H locs ls hP hD hS (lv_sub hl [0, 1, 2, 3, 4, 5] rfl)
            · replace hm := if_f hm c31
              refine lv_aload_n hx hb d_Mo_addRing_51 rfl (lv_at hl 0 rfl) ?_
              refine va_get (D := (dC, dI)) (ci := 11) (v := .ref a_0_ringSpaces) (C := "SpaceCyclesModel") (T := F_Mo) (N := 54) hx hb hts (in_F i_Mo) hown hK hP 0 rfl rfl 42 (by decide) (hts _ (in_c k_345)) (fun _ h9 => h9) rfl d_Mo_addRing_52 ?_
              refine lv_iload hx hb d_Mo_addRing_55 (lv_at hl 5 rfl) ?_
              refine lv_aload_n hx hb d_Mo_addRing_57 rfl (lv_at hl 0 rfl) ?_
              refine va_get (D := (dC, dI)) (ci := 11) (v := .ref a_0_ringSpaces) (C := "SpaceCyclesModel") (T := F_Mo) (N := 54) hx hb hts (in_F i_Mo) hown hK hP 0 rfl rfl 42 (by decide) (hts _ (in_c k_345)) (fun _ h9 => h9) rfl d_Mo_addRing_58 ?_
              refine lv_iload hx hb d_Mo_addRing_61 (lv_at hl 5 rfl) ?_
              refine lv_iconst (v := 1) hx hb d_Mo_addRing_63 (by decide) ?_
              refine lv_isub hx hb d_Mo_addRing_64 ?_
              obtain ⟨hi32, hm⟩ := gI_e hm
              refine va_iald hx hb hK hP 1 0 rfl rfl hi32 d_Mo_addRing_65 ?_
              obtain ⟨hi33, hm⟩ := gI_e hm
              obtain ⟨f34, ef34⟩ : ∃ y : Nat → Int32, y = upd f2 x1.toNatClampNeg (f2 (x1 - 1).toNatClampNeg) := ⟨_, rfl⟩
              replace hm := lt_el hm ef34
              refine va_iast hx hb hK hP hD hS 1 0 rfl rfl hi33 d_Mo_addRing_66 (fun H locs hP hD hS => ?_)
              rw [← ef34] at hP hD
              have hP : va_P (dC, dI) vwCl (wl_Mo_addRing a_0 a_0_ringSpaces a_0_ringStarts a_0_ringSizes a_0_ringLeast b_0_isFlat b_0_across b_0_lows b_0_highs b_0_thick b_0_doorCounts b_0_doorFrom b_0_doorTo b_0_xs b_0_ys b_0_labels b_0_oldXs b_0_oldYs b_0_oldLabels b_0_names b_0_oldNames b_0_wanted b_0_common b_0_flatEdges b_0_upEdges b_0_isPoint b_0_stack b_0_pieceLines b_0_pieceBegins b_0_pieceEnds b_0_pieceLeft b_0_pieceRight b_0_outs b_0_isSeen b_0_looseLines b_0_looseXs b_0_looseYs b_0_looseReaches b_0_far cI v_0_code v_0_lines v_0_isFresh v_0_hasRun v_0_runs v_0_nx v_0_ny v_0_spaces v_0_oldNx v_0_oldNy v_0_oldSpaces v_0_points v_0_pieces v_0_rings v_0_outsideSides v_0_looseCount f34 f3 f4 f5) H := hP
              have hD : va_D A (wl_Mo_addRing a_0 a_0_ringSpaces a_0_ringStarts a_0_ringSizes a_0_ringLeast b_0_isFlat b_0_across b_0_lows b_0_highs b_0_thick b_0_doorCounts b_0_doorFrom b_0_doorTo b_0_xs b_0_ys b_0_labels b_0_oldXs b_0_oldYs b_0_oldLabels b_0_names b_0_oldNames b_0_wanted b_0_common b_0_flatEdges b_0_upEdges b_0_isPoint b_0_stack b_0_pieceLines b_0_pieceBegins b_0_pieceEnds b_0_pieceLeft b_0_pieceRight b_0_outs b_0_isSeen b_0_looseLines b_0_looseXs b_0_looseYs b_0_looseReaches b_0_far cI v_0_code v_0_lines v_0_isFresh v_0_hasRun v_0_runs v_0_nx v_0_ny v_0_spaces v_0_oldNx v_0_oldNy v_0_oldSpaces v_0_points v_0_pieces v_0_rings v_0_outsideSides v_0_looseCount f34 f3 f4 f5) := hD
              refine lv_aload_n hx hb d_Mo_addRing_67 rfl (lv_at hl 0 rfl) ?_
              refine va_get (D := (dC, dI)) (ci := 11) (v := .ref a_0_ringStarts) (C := "SpaceCyclesModel") (T := F_Mo) (N := 54) hx hb hts (in_F i_Mo) hown hK hP 0 rfl rfl 43 (by decide) (hts _ (in_c k_346)) (fun _ h9 => h9) rfl d_Mo_addRing_68 ?_
              refine lv_iload hx hb d_Mo_addRing_71 (lv_at hl 5 rfl) ?_
              refine lv_aload_n hx hb d_Mo_addRing_73 rfl (lv_at hl 0 rfl) ?_
              refine va_get (D := (dC, dI)) (ci := 11) (v := .ref a_0_ringStarts) (C := "SpaceCyclesModel") (T := F_Mo) (N := 54) hx hb hts (in_F i_Mo) hown hK hP 0 rfl rfl 43 (by decide) (hts _ (in_c k_346)) (fun _ h9 => h9) rfl d_Mo_addRing_74 ?_
              refine lv_iload hx hb d_Mo_addRing_77 (lv_at hl 5 rfl) ?_
              refine lv_iconst (v := 1) hx hb d_Mo_addRing_79 (by decide) ?_
              refine lv_isub hx hb d_Mo_addRing_80 ?_
              obtain ⟨hi35, hm⟩ := gI_e hm
              refine va_iald hx hb hK hP 2 0 rfl rfl hi35 d_Mo_addRing_81 ?_
              obtain ⟨hi36, hm⟩ := gI_e hm
              obtain ⟨f37, ef37⟩ : ∃ y : Nat → Int32, y = upd f3 x1.toNatClampNeg (f3 (x1 - 1).toNatClampNeg) := ⟨_, rfl⟩
              replace hm := lt_el hm ef37
              refine va_iast hx hb hK hP hD hS 2 0 rfl rfl hi36 d_Mo_addRing_82 (fun H locs hP hD hS => ?_)
              rw [← ef37] at hP hD
              have hP : va_P (dC, dI) vwCl (wl_Mo_addRing a_0 a_0_ringSpaces a_0_ringStarts a_0_ringSizes a_0_ringLeast b_0_isFlat b_0_across b_0_lows b_0_highs b_0_thick b_0_doorCounts b_0_doorFrom b_0_doorTo b_0_xs b_0_ys b_0_labels b_0_oldXs b_0_oldYs b_0_oldLabels b_0_names b_0_oldNames b_0_wanted b_0_common b_0_flatEdges b_0_upEdges b_0_isPoint b_0_stack b_0_pieceLines b_0_pieceBegins b_0_pieceEnds b_0_pieceLeft b_0_pieceRight b_0_outs b_0_isSeen b_0_looseLines b_0_looseXs b_0_looseYs b_0_looseReaches b_0_far cI v_0_code v_0_lines v_0_isFresh v_0_hasRun v_0_runs v_0_nx v_0_ny v_0_spaces v_0_oldNx v_0_oldNy v_0_oldSpaces v_0_points v_0_pieces v_0_rings v_0_outsideSides v_0_looseCount f34 f37 f4 f5) H := hP
              have hD : va_D A (wl_Mo_addRing a_0 a_0_ringSpaces a_0_ringStarts a_0_ringSizes a_0_ringLeast b_0_isFlat b_0_across b_0_lows b_0_highs b_0_thick b_0_doorCounts b_0_doorFrom b_0_doorTo b_0_xs b_0_ys b_0_labels b_0_oldXs b_0_oldYs b_0_oldLabels b_0_names b_0_oldNames b_0_wanted b_0_common b_0_flatEdges b_0_upEdges b_0_isPoint b_0_stack b_0_pieceLines b_0_pieceBegins b_0_pieceEnds b_0_pieceLeft b_0_pieceRight b_0_outs b_0_isSeen b_0_looseLines b_0_looseXs b_0_looseYs b_0_looseReaches b_0_far cI v_0_code v_0_lines v_0_isFresh v_0_hasRun v_0_runs v_0_nx v_0_ny v_0_spaces v_0_oldNx v_0_oldNy v_0_oldSpaces v_0_points v_0_pieces v_0_rings v_0_outsideSides v_0_looseCount f34 f37 f4 f5) := hD
              refine lv_aload_n hx hb d_Mo_addRing_83 rfl (lv_at hl 0 rfl) ?_
              refine va_get (D := (dC, dI)) (ci := 11) (v := .ref a_0_ringSizes) (C := "SpaceCyclesModel") (T := F_Mo) (N := 54) hx hb hts (in_F i_Mo) hown hK hP 0 rfl rfl 44 (by decide) (hts _ (in_c k_347)) (fun _ h9 => h9) rfl d_Mo_addRing_84 ?_
              refine lv_iload hx hb d_Mo_addRing_87 (lv_at hl 5 rfl) ?_
              refine lv_aload_n hx hb d_Mo_addRing_89 rfl (lv_at hl 0 rfl) ?_
              refine va_get (D := (dC, dI)) (ci := 11) (v := .ref a_0_ringSizes) (C := "SpaceCyclesModel") (T := F_Mo) (N := 54) hx hb hts (in_F i_Mo) hown hK hP 0 rfl rfl 44 (by decide) (hts _ (in_c k_347)) (fun _ h9 => h9) rfl d_Mo_addRing_90 ?_
              refine lv_iload hx hb d_Mo_addRing_93 (lv_at hl 5 rfl) ?_
              refine lv_iconst (v := 1) hx hb d_Mo_addRing_95 (by decide) ?_
              refine lv_isub hx hb d_Mo_addRing_96 ?_
              obtain ⟨hi38, hm⟩ := gI_e hm
              refine va_iald hx hb hK hP 3 0 rfl rfl hi38 d_Mo_addRing_97 ?_
              obtain ⟨hi39, hm⟩ := gI_e hm
              obtain ⟨f40, ef40⟩ : ∃ y : Nat → Int32, y = upd f4 x1.toNatClampNeg (f4 (x1 - 1).toNatClampNeg) := ⟨_, rfl⟩
              replace hm := lt_el hm ef40
              refine va_iast hx hb hK hP hD hS 3 0 rfl rfl hi39 d_Mo_addRing_98 (fun H locs hP hD hS => ?_)
              rw [← ef40] at hP hD
              have hP : va_P (dC, dI) vwCl (wl_Mo_addRing a_0 a_0_ringSpaces a_0_ringStarts a_0_ringSizes a_0_ringLeast b_0_isFlat b_0_across b_0_lows b_0_highs b_0_thick b_0_doorCounts b_0_doorFrom b_0_doorTo b_0_xs b_0_ys b_0_labels b_0_oldXs b_0_oldYs b_0_oldLabels b_0_names b_0_oldNames b_0_wanted b_0_common b_0_flatEdges b_0_upEdges b_0_isPoint b_0_stack b_0_pieceLines b_0_pieceBegins b_0_pieceEnds b_0_pieceLeft b_0_pieceRight b_0_outs b_0_isSeen b_0_looseLines b_0_looseXs b_0_looseYs b_0_looseReaches b_0_far cI v_0_code v_0_lines v_0_isFresh v_0_hasRun v_0_runs v_0_nx v_0_ny v_0_spaces v_0_oldNx v_0_oldNy v_0_oldSpaces v_0_points v_0_pieces v_0_rings v_0_outsideSides v_0_looseCount f34 f37 f40 f5) H := hP
              have hD : va_D A (wl_Mo_addRing a_0 a_0_ringSpaces a_0_ringStarts a_0_ringSizes a_0_ringLeast b_0_isFlat b_0_across b_0_lows b_0_highs b_0_thick b_0_doorCounts b_0_doorFrom b_0_doorTo b_0_xs b_0_ys b_0_labels b_0_oldXs b_0_oldYs b_0_oldLabels b_0_names b_0_oldNames b_0_wanted b_0_common b_0_flatEdges b_0_upEdges b_0_isPoint b_0_stack b_0_pieceLines b_0_pieceBegins b_0_pieceEnds b_0_pieceLeft b_0_pieceRight b_0_outs b_0_isSeen b_0_looseLines b_0_looseXs b_0_looseYs b_0_looseReaches b_0_far cI v_0_code v_0_lines v_0_isFresh v_0_hasRun v_0_runs v_0_nx v_0_ny v_0_spaces v_0_oldNx v_0_oldNy v_0_oldSpaces v_0_points v_0_pieces v_0_rings v_0_outsideSides v_0_looseCount f34 f37 f40 f5) := hD
              refine lv_aload_n hx hb d_Mo_addRing_99 rfl (lv_at hl 0 rfl) ?_
              refine va_get (D := (dC, dI)) (ci := 11) (v := .ref a_0_ringLeast) (C := "SpaceCyclesModel") (T := F_Mo) (N := 54) hx hb hts (in_F i_Mo) hown hK hP 0 rfl rfl 45 (by decide) (hts _ (in_c k_348)) (fun _ h9 => h9) rfl d_Mo_addRing_100 ?_
              refine lv_iload hx hb d_Mo_addRing_103 (lv_at hl 5 rfl) ?_
              refine lv_aload_n hx hb d_Mo_addRing_105 rfl (lv_at hl 0 rfl) ?_
              refine va_get (D := (dC, dI)) (ci := 11) (v := .ref a_0_ringLeast) (C := "SpaceCyclesModel") (T := F_Mo) (N := 54) hx hb hts (in_F i_Mo) hown hK hP 0 rfl rfl 45 (by decide) (hts _ (in_c k_348)) (fun _ h9 => h9) rfl d_Mo_addRing_106 ?_
              refine lv_iload hx hb d_Mo_addRing_109 (lv_at hl 5 rfl) ?_
              refine lv_iconst (v := 1) hx hb d_Mo_addRing_111 (by decide) ?_
              refine lv_isub hx hb d_Mo_addRing_112 ?_
              obtain ⟨hi41, hm⟩ := gI_e hm
              refine va_iald hx hb hK hP 4 0 rfl rfl hi41 d_Mo_addRing_113 ?_
              obtain ⟨hi42, hm⟩ := gI_e hm
              obtain ⟨f43, ef43⟩ : ∃ y : Nat → Int32, y = upd f5 x1.toNatClampNeg (f5 (x1 - 1).toNatClampNeg) := ⟨_, rfl⟩
              replace hm := lt_el hm ef43
              refine va_iast hx hb hK hP hD hS 4 0 rfl rfl hi42 d_Mo_addRing_114 (fun H locs hP hD hS => ?_)
              rw [← ef43] at hP hD
              have hP : va_P (dC, dI) vwCl (wl_Mo_addRing a_0 a_0_ringSpaces a_0_ringStarts a_0_ringSizes a_0_ringLeast b_0_isFlat b_0_across b_0_lows b_0_highs b_0_thick b_0_doorCounts b_0_doorFrom b_0_doorTo b_0_xs b_0_ys b_0_labels b_0_oldXs b_0_oldYs b_0_oldLabels b_0_names b_0_oldNames b_0_wanted b_0_common b_0_flatEdges b_0_upEdges b_0_isPoint b_0_stack b_0_pieceLines b_0_pieceBegins b_0_pieceEnds b_0_pieceLeft b_0_pieceRight b_0_outs b_0_isSeen b_0_looseLines b_0_looseXs b_0_looseYs b_0_looseReaches b_0_far cI v_0_code v_0_lines v_0_isFresh v_0_hasRun v_0_runs v_0_nx v_0_ny v_0_spaces v_0_oldNx v_0_oldNy v_0_oldSpaces v_0_points v_0_pieces v_0_rings v_0_outsideSides v_0_looseCount f34 f37 f40 f43) H := hP
              have hD : va_D A (wl_Mo_addRing a_0 a_0_ringSpaces a_0_ringStarts a_0_ringSizes a_0_ringLeast b_0_isFlat b_0_across b_0_lows b_0_highs b_0_thick b_0_doorCounts b_0_doorFrom b_0_doorTo b_0_xs b_0_ys b_0_labels b_0_oldXs b_0_oldYs b_0_oldLabels b_0_names b_0_oldNames b_0_wanted b_0_common b_0_flatEdges b_0_upEdges b_0_isPoint b_0_stack b_0_pieceLines b_0_pieceBegins b_0_pieceEnds b_0_pieceLeft b_0_pieceRight b_0_outs b_0_isSeen b_0_looseLines b_0_looseXs b_0_looseYs b_0_looseReaches b_0_far cI v_0_code v_0_lines v_0_isFresh v_0_hasRun v_0_runs v_0_nx v_0_ny v_0_spaces v_0_oldNx v_0_oldNy v_0_oldSpaces v_0_points v_0_pieces v_0_rings v_0_outsideSides v_0_looseCount f34 f37 f40 f43) := hD
              obtain ⟨x44, ex44⟩ : ∃ y : Int32, y = x1 + (-1) := ⟨_, rfl⟩
              replace hm := lt_el hm ex44
              refine lv_iinc (v := x44) (lv' := [(5, .int x44), (0, .ref a_0), (1, .int p1), (2, .int p2), (3, .int p3), (4, .int p4)]) hx hb d_Mo_addRing_115 hl (k := 5) rfl (by rw [ex44]; rfl) (by decide) rfl (fun ls hl => ?_)
              refine lv_goto (tgt := 6) hx hb d_Mo_addRing_118 (by decide) ?_
              exact ih _ _ _ _ _ _ _ _ _ _ hm KE H locs ls hP hD hS (lv_sub hl [1, 2, 3, 4, 5, 0] rfl)
  obtain ⟨x6, f7, f8, f9, f10, hb45, hm⟩ := bd5_e hm
  refine L6_11 fu _ _ _ _ _ _ _ _ _ _ hb45 (fun H locs ls hP hD hS hl => ?_) H locs ls hP hD hS (lv_sub hl [1, 2, 3, 4, 5, 0] rfl)
  refine lv_aload_n hx hb d_Mo_addRing_121 rfl (lv_at hl 0 rfl) ?_
  refine va_get (D := (dC, dI)) (ci := 11) (v := .ref a_0_ringSpaces) (C := "SpaceCyclesModel") (T := F_Mo) (N := 54) hx hb hts (in_F i_Mo) hown hK hP 0 rfl rfl 42 (by decide) (hts _ (in_c k_345)) (fun _ h9 => h9) rfl d_Mo_addRing_122 ?_
  refine lv_iload hx hb d_Mo_addRing_125 (lv_at hl 5 rfl) ?_
  refine lv_iload_n hx hb d_Mo_addRing_127 rfl (lv_at hl 1 rfl) ?_
  obtain ⟨hi46, hm⟩ := gI_e hm
  obtain ⟨f47, ef47⟩ : ∃ y : Nat → Int32, y = upd f7 x6.toNatClampNeg p1 := ⟨_, rfl⟩
  replace hm := lt_el hm ef47
  refine va_iast hx hb hK hP hD hS 1 0 rfl rfl hi46 d_Mo_addRing_128 (fun H locs hP hD hS => ?_)
  rw [← ef47] at hP hD
  have hP : va_P (dC, dI) vwCl (wl_Mo_addRing a_0 a_0_ringSpaces a_0_ringStarts a_0_ringSizes a_0_ringLeast b_0_isFlat b_0_across b_0_lows b_0_highs b_0_thick b_0_doorCounts b_0_doorFrom b_0_doorTo b_0_xs b_0_ys b_0_labels b_0_oldXs b_0_oldYs b_0_oldLabels b_0_names b_0_oldNames b_0_wanted b_0_common b_0_flatEdges b_0_upEdges b_0_isPoint b_0_stack b_0_pieceLines b_0_pieceBegins b_0_pieceEnds b_0_pieceLeft b_0_pieceRight b_0_outs b_0_isSeen b_0_looseLines b_0_looseXs b_0_looseYs b_0_looseReaches b_0_far cI v_0_code v_0_lines v_0_isFresh v_0_hasRun v_0_runs v_0_nx v_0_ny v_0_spaces v_0_oldNx v_0_oldNy v_0_oldSpaces v_0_points v_0_pieces v_0_rings v_0_outsideSides v_0_looseCount f47 f8 f9 f10) H := hP
  have hD : va_D A (wl_Mo_addRing a_0 a_0_ringSpaces a_0_ringStarts a_0_ringSizes a_0_ringLeast b_0_isFlat b_0_across b_0_lows b_0_highs b_0_thick b_0_doorCounts b_0_doorFrom b_0_doorTo b_0_xs b_0_ys b_0_labels b_0_oldXs b_0_oldYs b_0_oldLabels b_0_names b_0_oldNames b_0_wanted b_0_common b_0_flatEdges b_0_upEdges b_0_isPoint b_0_stack b_0_pieceLines b_0_pieceBegins b_0_pieceEnds b_0_pieceLeft b_0_pieceRight b_0_outs b_0_isSeen b_0_looseLines b_0_looseXs b_0_looseYs b_0_looseReaches b_0_far cI v_0_code v_0_lines v_0_isFresh v_0_hasRun v_0_runs v_0_nx v_0_ny v_0_spaces v_0_oldNx v_0_oldNy v_0_oldSpaces v_0_points v_0_pieces v_0_rings v_0_outsideSides v_0_looseCount f47 f8 f9 f10) := hD
  refine lv_aload_n hx hb d_Mo_addRing_129 rfl (lv_at hl 0 rfl) ?_
  refine va_get (D := (dC, dI)) (ci := 11) (v := .ref a_0_ringStarts) (C := "SpaceCyclesModel") (T := F_Mo) (N := 54) hx hb hts (in_F i_Mo) hown hK hP 0 rfl rfl 43 (by decide) (hts _ (in_c k_346)) (fun _ h9 => h9) rfl d_Mo_addRing_130 ?_
  refine lv_iload hx hb d_Mo_addRing_133 (lv_at hl 5 rfl) ?_
  refine lv_iload_n hx hb d_Mo_addRing_135 rfl (lv_at hl 2 rfl) ?_
  obtain ⟨hi48, hm⟩ := gI_e hm
  obtain ⟨f49, ef49⟩ : ∃ y : Nat → Int32, y = upd f8 x6.toNatClampNeg p2 := ⟨_, rfl⟩
  replace hm := lt_el hm ef49
  refine va_iast hx hb hK hP hD hS 2 0 rfl rfl hi48 d_Mo_addRing_136 (fun H locs hP hD hS => ?_)
  rw [← ef49] at hP hD
  have hP : va_P (dC, dI) vwCl (wl_Mo_addRing a_0 a_0_ringSpaces a_0_ringStarts a_0_ringSizes a_0_ringLeast b_0_isFlat b_0_across b_0_lows b_0_highs b_0_thick b_0_doorCounts b_0_doorFrom b_0_doorTo b_0_xs b_0_ys b_0_labels b_0_oldXs b_0_oldYs b_0_oldLabels b_0_names b_0_oldNames b_0_wanted b_0_common b_0_flatEdges b_0_upEdges b_0_isPoint b_0_stack b_0_pieceLines b_0_pieceBegins b_0_pieceEnds b_0_pieceLeft b_0_pieceRight b_0_outs b_0_isSeen b_0_looseLines b_0_looseXs b_0_looseYs b_0_looseReaches b_0_far cI v_0_code v_0_lines v_0_isFresh v_0_hasRun v_0_runs v_0_nx v_0_ny v_0_spaces v_0_oldNx v_0_oldNy v_0_oldSpaces v_0_points v_0_pieces v_0_rings v_0_outsideSides v_0_looseCount f47 f49 f9 f10) H := hP
  have hD : va_D A (wl_Mo_addRing a_0 a_0_ringSpaces a_0_ringStarts a_0_ringSizes a_0_ringLeast b_0_isFlat b_0_across b_0_lows b_0_highs b_0_thick b_0_doorCounts b_0_doorFrom b_0_doorTo b_0_xs b_0_ys b_0_labels b_0_oldXs b_0_oldYs b_0_oldLabels b_0_names b_0_oldNames b_0_wanted b_0_common b_0_flatEdges b_0_upEdges b_0_isPoint b_0_stack b_0_pieceLines b_0_pieceBegins b_0_pieceEnds b_0_pieceLeft b_0_pieceRight b_0_outs b_0_isSeen b_0_looseLines b_0_looseXs b_0_looseYs b_0_looseReaches b_0_far cI v_0_code v_0_lines v_0_isFresh v_0_hasRun v_0_runs v_0_nx v_0_ny v_0_spaces v_0_oldNx v_0_oldNy v_0_oldSpaces v_0_points v_0_pieces v_0_rings v_0_outsideSides v_0_looseCount f47 f49 f9 f10) := hD
  refine lv_aload_n hx hb d_Mo_addRing_137 rfl (lv_at hl 0 rfl) ?_
  refine va_get (D := (dC, dI)) (ci := 11) (v := .ref a_0_ringSizes) (C := "SpaceCyclesModel") (T := F_Mo) (N := 54) hx hb hts (in_F i_Mo) hown hK hP 0 rfl rfl 44 (by decide) (hts _ (in_c k_347)) (fun _ h9 => h9) rfl d_Mo_addRing_138 ?_
  refine lv_iload hx hb d_Mo_addRing_141 (lv_at hl 5 rfl) ?_
  refine lv_iload_n hx hb d_Mo_addRing_143 rfl (lv_at hl 3 rfl) ?_
  obtain ⟨hi50, hm⟩ := gI_e hm
  obtain ⟨f51, ef51⟩ : ∃ y : Nat → Int32, y = upd f9 x6.toNatClampNeg p3 := ⟨_, rfl⟩
  replace hm := lt_el hm ef51
  refine va_iast hx hb hK hP hD hS 3 0 rfl rfl hi50 d_Mo_addRing_144 (fun H locs hP hD hS => ?_)
  rw [← ef51] at hP hD
  have hP : va_P (dC, dI) vwCl (wl_Mo_addRing a_0 a_0_ringSpaces a_0_ringStarts a_0_ringSizes a_0_ringLeast b_0_isFlat b_0_across b_0_lows b_0_highs b_0_thick b_0_doorCounts b_0_doorFrom b_0_doorTo b_0_xs b_0_ys b_0_labels b_0_oldXs b_0_oldYs b_0_oldLabels b_0_names b_0_oldNames b_0_wanted b_0_common b_0_flatEdges b_0_upEdges b_0_isPoint b_0_stack b_0_pieceLines b_0_pieceBegins b_0_pieceEnds b_0_pieceLeft b_0_pieceRight b_0_outs b_0_isSeen b_0_looseLines b_0_looseXs b_0_looseYs b_0_looseReaches b_0_far cI v_0_code v_0_lines v_0_isFresh v_0_hasRun v_0_runs v_0_nx v_0_ny v_0_spaces v_0_oldNx v_0_oldNy v_0_oldSpaces v_0_points v_0_pieces v_0_rings v_0_outsideSides v_0_looseCount f47 f49 f51 f10) H := hP
  have hD : va_D A (wl_Mo_addRing a_0 a_0_ringSpaces a_0_ringStarts a_0_ringSizes a_0_ringLeast b_0_isFlat b_0_across b_0_lows b_0_highs b_0_thick b_0_doorCounts b_0_doorFrom b_0_doorTo b_0_xs b_0_ys b_0_labels b_0_oldXs b_0_oldYs b_0_oldLabels b_0_names b_0_oldNames b_0_wanted b_0_common b_0_flatEdges b_0_upEdges b_0_isPoint b_0_stack b_0_pieceLines b_0_pieceBegins b_0_pieceEnds b_0_pieceLeft b_0_pieceRight b_0_outs b_0_isSeen b_0_looseLines b_0_looseXs b_0_looseYs b_0_looseReaches b_0_far cI v_0_code v_0_lines v_0_isFresh v_0_hasRun v_0_runs v_0_nx v_0_ny v_0_spaces v_0_oldNx v_0_oldNy v_0_oldSpaces v_0_points v_0_pieces v_0_rings v_0_outsideSides v_0_looseCount f47 f49 f51 f10) := hD
  refine lv_aload_n hx hb d_Mo_addRing_145 rfl (lv_at hl 0 rfl) ?_
  refine va_get (D := (dC, dI)) (ci := 11) (v := .ref a_0_ringLeast) (C := "SpaceCyclesModel") (T := F_Mo) (N := 54) hx hb hts (in_F i_Mo) hown hK hP 0 rfl rfl 45 (by decide) (hts _ (in_c k_348)) (fun _ h9 => h9) rfl d_Mo_addRing_146 ?_
  refine lv_iload hx hb d_Mo_addRing_149 (lv_at hl 5 rfl) ?_
  refine lv_iload hx hb d_Mo_addRing_151 (lv_at hl 4 rfl) ?_
  obtain ⟨hi52, hm⟩ := gI_e hm
  obtain ⟨f53, ef53⟩ : ∃ y : Nat → Int32, y = upd f10 x6.toNatClampNeg p4 := ⟨_, rfl⟩
  replace hm := lt_el hm ef53
  refine va_iast hx hb hK hP hD hS 4 0 rfl rfl hi52 d_Mo_addRing_153 (fun H locs hP hD hS => ?_)
  rw [← ef53] at hP hD
  have hP : va_P (dC, dI) vwCl (wl_Mo_addRing a_0 a_0_ringSpaces a_0_ringStarts a_0_ringSizes a_0_ringLeast b_0_isFlat b_0_across b_0_lows b_0_highs b_0_thick b_0_doorCounts b_0_doorFrom b_0_doorTo b_0_xs b_0_ys b_0_labels b_0_oldXs b_0_oldYs b_0_oldLabels b_0_names b_0_oldNames b_0_wanted b_0_common b_0_flatEdges b_0_upEdges b_0_isPoint b_0_stack b_0_pieceLines b_0_pieceBegins b_0_pieceEnds b_0_pieceLeft b_0_pieceRight b_0_outs b_0_isSeen b_0_looseLines b_0_looseXs b_0_looseYs b_0_looseReaches b_0_far cI v_0_code v_0_lines v_0_isFresh v_0_hasRun v_0_runs v_0_nx v_0_ny v_0_spaces v_0_oldNx v_0_oldNy v_0_oldSpaces v_0_points v_0_pieces v_0_rings v_0_outsideSides v_0_looseCount f47 f49 f51 f53) H := hP
  have hD : va_D A (wl_Mo_addRing a_0 a_0_ringSpaces a_0_ringStarts a_0_ringSizes a_0_ringLeast b_0_isFlat b_0_across b_0_lows b_0_highs b_0_thick b_0_doorCounts b_0_doorFrom b_0_doorTo b_0_xs b_0_ys b_0_labels b_0_oldXs b_0_oldYs b_0_oldLabels b_0_names b_0_oldNames b_0_wanted b_0_common b_0_flatEdges b_0_upEdges b_0_isPoint b_0_stack b_0_pieceLines b_0_pieceBegins b_0_pieceEnds b_0_pieceLeft b_0_pieceRight b_0_outs b_0_isSeen b_0_looseLines b_0_looseXs b_0_looseYs b_0_looseReaches b_0_far cI v_0_code v_0_lines v_0_isFresh v_0_hasRun v_0_runs v_0_nx v_0_ny v_0_spaces v_0_oldNx v_0_oldNy v_0_oldSpaces v_0_points v_0_pieces v_0_rings v_0_outsideSides v_0_looseCount f47 f49 f51 f53) := hD
  refine lv_aload_n hx hb d_Mo_addRing_154 rfl (lv_at hl 0 rfl) ?_
  refine lv_dup hx hb d_Mo_addRing_155 rfl ?_
  refine va_get (D := (dC, dI)) (ci := 11) (v := .int v_0_rings) (C := "SpaceCyclesModel") (T := F_Mo) (N := 54) hx hb hts (in_F i_Mo) hown hK hP 0 rfl rfl 46 (by decide) (hts _ (in_c k_344)) (fun _ h9 => h9) rfl d_Mo_addRing_156 ?_
  refine lv_iconst (v := 1) hx hb d_Mo_addRing_159 (by decide) ?_
  refine lv_iadd hx hb d_Mo_addRing_160 ?_
  refine lv_topi (fun x54 ex54 => ?_)
  replace hm := lt_el hm ex54
  refine va_put (D := (dC, dI)) (ci := 11) (v := .int x54) (ty := .int) (C := "SpaceCyclesModel") (T := F_Mo) (N := 54) hx hb hts (in_F i_Mo) t_Mo t_Mo_ok n_Mo hown hK hP hD hS 0 rfl rfl 46 (by decide) (hts _ (in_c k_344)) (fun _ h9 => h9) rfl (by decide +kernel) rfl rfl (Nat.le_of_ble_eq_true rfl) d_Mo_addRing_161 (fun H locs hP hD hS => ?_)
  have hP : va_P (dC, dI) vwCl (wl_Mo_addRing a_0 a_0_ringSpaces a_0_ringStarts a_0_ringSizes a_0_ringLeast b_0_isFlat b_0_across b_0_lows b_0_highs b_0_thick b_0_doorCounts b_0_doorFrom b_0_doorTo b_0_xs b_0_ys b_0_labels b_0_oldXs b_0_oldYs b_0_oldLabels b_0_names b_0_oldNames b_0_wanted b_0_common b_0_flatEdges b_0_upEdges b_0_isPoint b_0_stack b_0_pieceLines b_0_pieceBegins b_0_pieceEnds b_0_pieceLeft b_0_pieceRight b_0_outs b_0_isSeen b_0_looseLines b_0_looseXs b_0_looseYs b_0_looseReaches b_0_far cI v_0_code v_0_lines v_0_isFresh v_0_hasRun v_0_runs v_0_nx v_0_ny v_0_spaces v_0_oldNx v_0_oldNy v_0_oldSpaces v_0_points v_0_pieces x54 v_0_outsideSides v_0_looseCount f47 f49 f51 f53) H := hP
  have hD : va_D A (wl_Mo_addRing a_0 a_0_ringSpaces a_0_ringStarts a_0_ringSizes a_0_ringLeast b_0_isFlat b_0_across b_0_lows b_0_highs b_0_thick b_0_doorCounts b_0_doorFrom b_0_doorTo b_0_xs b_0_ys b_0_labels b_0_oldXs b_0_oldYs b_0_oldLabels b_0_names b_0_oldNames b_0_wanted b_0_common b_0_flatEdges b_0_upEdges b_0_isPoint b_0_stack b_0_pieceLines b_0_pieceBegins b_0_pieceEnds b_0_pieceLeft b_0_pieceRight b_0_outs b_0_isSeen b_0_looseLines b_0_looseXs b_0_looseYs b_0_looseReaches b_0_far cI v_0_code v_0_lines v_0_isFresh v_0_hasRun v_0_runs v_0_nx v_0_ny v_0_spaces v_0_oldNx v_0_oldNy v_0_oldSpaces v_0_points v_0_pieces x54 v_0_outsideSides v_0_looseCount f47 f49 f51 f53) := hD
  cases hm
  exact hret _ H locs ls d_Mo_addRing_164 hP hD hS
set_option maxHeartbeats 4000000 in
set_option maxRecDepth 100000 in
theorem c_Mo_addRing (l : Launch) (dC : Nat → ClassId) (dI : Nat → Nat → Nat) {cI cZ cJ : ClassId} (a_0 a_0_ringSpaces a_0_ringStarts a_0_ringSizes a_0_ringLeast b_0_isFlat b_0_across b_0_lows b_0_highs b_0_thick b_0_doorCounts b_0_doorFrom b_0_doorTo b_0_xs b_0_ys b_0_labels b_0_oldXs b_0_oldYs b_0_oldLabels b_0_names b_0_oldNames b_0_wanted b_0_common b_0_flatEdges b_0_upEdges b_0_isPoint b_0_stack b_0_pieceLines b_0_pieceBegins b_0_pieceEnds b_0_pieceLeft b_0_pieceRight b_0_outs b_0_isSeen b_0_looseLines b_0_looseXs b_0_looseYs b_0_looseReaches b_0_far : Nat) (sz : Nat) (v_0_code : Int32) (v_0_lines : Int32) (v_0_isFresh : Int32) (v_0_hasRun : Int32) (v_0_runs : Int32) (v_0_nx : Int32) (v_0_ny : Int32) (v_0_spaces : Int32) (v_0_oldNx : Int32) (v_0_oldNy : Int32) (v_0_oldSpaces : Int32) (v_0_points : Int32) (v_0_pieces : Int32) (v_0_rings : Int32) (v_0_outsideSides : Int32) (v_0_looseCount : Int32) (f_0_ringSpaces : Nat → Int32) (f_0_ringStarts : Nat → Int32) (f_0_ringSizes : Nat → Int32) (f_0_ringLeast : Nat → Int32) (p1 : Int32) (p2 : Int32) (p3 : Int32) (p4 : Int32) (ov_0_rings : Int32) (of_0_ringSpaces : Nat → Int32) (of_0_ringStarts : Nat → Int32) (of_0_ringSizes : Nat → Int32) (of_0_ringLeast : Nat → Int32) (hm : m_Mo_addRing p1 p2 p3 p4 v_0_rings f_0_ringSpaces f_0_ringStarts f_0_ringSizes f_0_ringLeast = some (ov_0_rings, of_0_ringSpaces, of_0_ringStarts, of_0_ringSizes, of_0_ringLeast)) : Met l y_Mo_addRing w_Mo_addRing rm_Mo_addRing (PP dC dI [(cI, .int), (cZ, .boolean), (cJ, .long)] [.ref a_0, .int p1, .int p2, .int p3, .int p4] sz (wl_Mo_addRing a_0 a_0_ringSpaces a_0_ringStarts a_0_ringSizes a_0_ringLeast b_0_isFlat b_0_across b_0_lows b_0_highs b_0_thick b_0_doorCounts b_0_doorFrom b_0_doorTo b_0_xs b_0_ys b_0_labels b_0_oldXs b_0_oldYs b_0_oldLabels b_0_names b_0_oldNames b_0_wanted b_0_common b_0_flatEdges b_0_upEdges b_0_isPoint b_0_stack b_0_pieceLines b_0_pieceBegins b_0_pieceEnds b_0_pieceLeft b_0_pieceRight b_0_outs b_0_isSeen b_0_looseLines b_0_looseXs b_0_looseYs b_0_looseReaches b_0_far cI v_0_code v_0_lines v_0_isFresh v_0_hasRun v_0_runs v_0_nx v_0_ny v_0_spaces v_0_oldNx v_0_oldNy v_0_oldSpaces v_0_points v_0_pieces v_0_rings v_0_outsideSides v_0_looseCount f_0_ringSpaces f_0_ringStarts f_0_ringSizes f_0_ringLeast)) (QV dC dI [(cI, .int), (cZ, .boolean), (cJ, .long)] sz (wl_Mo_addRing a_0 a_0_ringSpaces a_0_ringStarts a_0_ringSizes a_0_ringLeast b_0_isFlat b_0_across b_0_lows b_0_highs b_0_thick b_0_doorCounts b_0_doorFrom b_0_doorTo b_0_xs b_0_ys b_0_labels b_0_oldXs b_0_oldYs b_0_oldLabels b_0_names b_0_oldNames b_0_wanted b_0_common b_0_flatEdges b_0_upEdges b_0_isPoint b_0_stack b_0_pieceLines b_0_pieceBegins b_0_pieceEnds b_0_pieceLeft b_0_pieceRight b_0_outs b_0_isSeen b_0_looseLines b_0_looseXs b_0_looseYs b_0_looseReaches b_0_far cI v_0_code v_0_lines v_0_isFresh v_0_hasRun v_0_runs v_0_nx v_0_ny v_0_spaces v_0_oldNx v_0_oldNy v_0_oldSpaces v_0_points v_0_pieces v_0_rings v_0_outsideSides v_0_looseCount f_0_ringSpaces f_0_ringStarts f_0_ringSizes f_0_ringLeast) (wl_Mo_addRing a_0 a_0_ringSpaces a_0_ringStarts a_0_ringSizes a_0_ringLeast b_0_isFlat b_0_across b_0_lows b_0_highs b_0_thick b_0_doorCounts b_0_doorFrom b_0_doorTo b_0_xs b_0_ys b_0_labels b_0_oldXs b_0_oldYs b_0_oldLabels b_0_names b_0_oldNames b_0_wanted b_0_common b_0_flatEdges b_0_upEdges b_0_isPoint b_0_stack b_0_pieceLines b_0_pieceBegins b_0_pieceEnds b_0_pieceLeft b_0_pieceRight b_0_outs b_0_isSeen b_0_looseLines b_0_looseXs b_0_looseYs b_0_looseReaches b_0_far cI v_0_code v_0_lines v_0_isFresh v_0_hasRun v_0_runs v_0_nx v_0_ny v_0_spaces v_0_oldNx v_0_oldNy v_0_oldSpaces v_0_points v_0_pieces ov_0_rings v_0_outsideSides v_0_looseCount of_0_ringSpaces of_0_ringStarts of_0_ringSizes of_0_ringLeast)) 0 0 (va_A (wl_Mo_addRing a_0 a_0_ringSpaces a_0_ringStarts a_0_ringSizes a_0_ringLeast b_0_isFlat b_0_across b_0_lows b_0_highs b_0_thick b_0_doorCounts b_0_doorFrom b_0_doorTo b_0_xs b_0_ys b_0_labels b_0_oldXs b_0_oldYs b_0_oldLabels b_0_names b_0_oldNames b_0_wanted b_0_common b_0_flatEdges b_0_upEdges b_0_isPoint b_0_stack b_0_pieceLines b_0_pieceBegins b_0_pieceEnds b_0_pieceLeft b_0_pieceRight b_0_outs b_0_isSeen b_0_looseLines b_0_looseXs b_0_looseYs b_0_looseReaches b_0_far cI v_0_code v_0_lines v_0_isFresh v_0_hasRun v_0_runs v_0_nx v_0_ny v_0_spaces v_0_oldNx v_0_oldNy v_0_oldSpaces v_0_points v_0_pieces v_0_rings v_0_outsideSides v_0_looseCount f_0_ringSpaces f_0_ringStarts f_0_ringSizes f_0_ringLeast) sz) := by
  refine Met.ofW (cc := b_Mo_addRing) (maxL := 6) (ret := none) (by decide) rfl ?_
  intro p e s m args below meth c s₁ B hml hv
  obtain ⟨rfl, hsz, hP, hK, hD0, hN⟩ := hv
  subst hsz
  have hl := lv_entry ([.ref a_0, .int p1, .int p2, .int p3, .int p4]) (n := 6) (Nat.le_of_ble_eq_true rfl)
  rw [lg_entry_eq]
  generalize (lg_sl ([.ref a_0, .int p1, .int p2, .int p3, .int p4]) ++ List.replicate (6 - (lg_sl ([.ref a_0, .int p1, .int p2, .int p3, .int p4])).length) Slot.unset).toArray = ls at hl ⊢
  exact t_Mo_addRing a_0 a_0_ringSpaces a_0_ringStarts a_0_ringSizes a_0_ringLeast b_0_isFlat b_0_across b_0_lows b_0_highs b_0_thick b_0_doorCounts b_0_doorFrom b_0_doorTo b_0_xs b_0_ys b_0_labels b_0_oldXs b_0_oldYs b_0_oldLabels b_0_names b_0_oldNames b_0_wanted b_0_common b_0_flatEdges b_0_upEdges b_0_isPoint b_0_stack b_0_pieceLines b_0_pieceBegins b_0_pieceEnds b_0_pieceLeft b_0_pieceRight b_0_outs b_0_isSeen b_0_looseLines b_0_looseXs b_0_looseYs b_0_looseReaches b_0_far v_0_code v_0_lines v_0_isFresh v_0_hasRun v_0_runs v_0_nx v_0_ny v_0_spaces v_0_oldNx v_0_oldNy v_0_oldSpaces v_0_points v_0_pieces v_0_rings v_0_outsideSides v_0_looseCount f_0_ringSpaces f_0_ringStarts f_0_ringSizes f_0_ringLeast p1 p2 p3 p4 ov_0_rings of_0_ringSpaces of_0_ringStarts of_0_ringSizes of_0_ringLeast B.exec B.bytes hml (findClass_of_methodNamed B.named) (atoms_spec (ws := w_Mo_addRing) B.pre) hK hN (fun q h => Or.inr h) (fun pc H locs ls hd hP9 hD9 hS => W.vret B.exec B.bytes B.returns (fun t ht hW => ⟨⟨(), rfl, trivial, by rw [ht]; exact hP9, va_K.moved hW.alike hK, hD9⟩, hS.F ht⟩) hS.2.2 hd) hm s.heap [] ls hP hD0.self va_S.rf hl

theorem k_349 : ((.fieldLink "SpaceCyclesModel" 201 "SpaceCyclesModel" "outsideSides" "I") : Cond) ∈ gl := gl_i 1168 (by decide +kernel) (by decide +kernel)
theorem k_350 : ((.fieldLink "SpaceCyclesModel" 96 "SpaceCyclesModel" "isSeen" "[Z") : Cond) ∈ gl := gl_i 1162 (by decide +kernel) (by decide +kernel)
theorem k_351 : ((.code ⟨"SpaceCyclesModel", "next", "(I)I"⟩ prog_13_method_22_code 7 (some .int)) : Cond) ∈ gl := gl_i 1370 (by decide +kernel) (by decide +kernel)
theorem k_352 : ((.selects "SpaceCyclesModel" ⟨"SpaceCyclesModel", "next", "(I)I"⟩ ⟨"SpaceCyclesModel", "next", "(I)I"⟩) : Cond) ∈ gl := gl_s (by decide +kernel) (by decide +kernel)
theorem k_353 : ((.instanceMethod ⟨"SpaceCyclesModel", "next", "(I)I"⟩) : Cond) ∈ gl := gl_i 1369 (by decide +kernel) (by decide +kernel)
theorem k_354 : ((.methodLink "SpaceCyclesModel" 204 ⟨"SpaceCyclesModel", "next", "(I)I"⟩) : Cond) ∈ gl := gl_i 1367 (by decide +kernel) (by decide +kernel)
theorem k_355 : ((.code ⟨"SpaceCyclesModel", "leftOf", "(I)I"⟩ prog_13_method_18_code 2 (some .int)) : Cond) ∈ gl := gl_i 1374 (by decide +kernel) (by decide +kernel)
theorem k_356 : ((.selects "SpaceCyclesModel" ⟨"SpaceCyclesModel", "leftOf", "(I)I"⟩ ⟨"SpaceCyclesModel", "leftOf", "(I)I"⟩) : Cond) ∈ gl := gl_s (by decide +kernel) (by decide +kernel)
theorem k_357 : ((.instanceMethod ⟨"SpaceCyclesModel", "leftOf", "(I)I"⟩) : Cond) ∈ gl := gl_i 1373 (by decide +kernel) (by decide +kernel)
theorem k_358 : ((.methodLink "SpaceCyclesModel" 207 ⟨"SpaceCyclesModel", "leftOf", "(I)I"⟩) : Cond) ∈ gl := gl_i 1371 (by decide +kernel) (by decide +kernel)
theorem k_359 : ((.code ⟨"SpaceCyclesModel", "addRing", "(IIII)V"⟩ prog_13_method_23_code 6 none) : Cond) ∈ gl := gl_i 1378 (by decide +kernel) (by decide +kernel)
theorem k_360 : ((.selects "SpaceCyclesModel" ⟨"SpaceCyclesModel", "addRing", "(IIII)V"⟩ ⟨"SpaceCyclesModel", "addRing", "(IIII)V"⟩) : Cond) ∈ gl := gl_s (by decide +kernel) (by decide +kernel)
theorem k_361 : ((.instanceMethod ⟨"SpaceCyclesModel", "addRing", "(IIII)V"⟩) : Cond) ∈ gl := gl_i 1377 (by decide +kernel) (by decide +kernel)
theorem k_362 : ((.methodLink "SpaceCyclesModel" 210 ⟨"SpaceCyclesModel", "addRing", "(IIII)V"⟩) : Cond) ∈ gl := gl_i 1375 (by decide +kernel) (by decide +kernel)
-- SpaceCyclesModel.findRings()V
abbrev b_Mo_findRings : ByteArray := prog_13_method_24_code
abbrev y_Mo_findRings : MethodName := ⟨"SpaceCyclesModel", "findRings", "()V"⟩
abbrev w_Mo_findRings : List Cond := Cond.code y_Mo_findRings b_Mo_findRings 6 none :: gl
abbrev rm_Mo_findRings : Room := { frames := 2, cells := 0, slots := 0, locals := 47 }
theorem d_Mo_findRings_0 : decode b_Mo_findRings 0 = .ok (.aload_n 0, 1) := by decide +kernel
theorem d_Mo_findRings_1 : decode b_Mo_findRings 1 = .ok (.iconst 0, 1) := by decide +kernel
theorem d_Mo_findRings_2 : decode b_Mo_findRings 2 = .ok (.putfield 198, 3) := by decide +kernel
theorem d_Mo_findRings_5 : decode b_Mo_findRings 5 = .ok (.aload_n 0, 1) := by decide +kernel
theorem d_Mo_findRings_6 : decode b_Mo_findRings 6 = .ok (.iconst 0, 1) := by decide +kernel
theorem d_Mo_findRings_7 : decode b_Mo_findRings 7 = .ok (.putfield 201, 3) := by decide +kernel
theorem d_Mo_findRings_10 : decode b_Mo_findRings 10 = .ok (.iconst 0, 1) := by decide +kernel
theorem d_Mo_findRings_11 : decode b_Mo_findRings 11 = .ok (.istore_n 1, 1) := by decide +kernel
theorem d_Mo_findRings_12 : decode b_Mo_findRings 12 = .ok (.iload_n 1, 1) := by decide +kernel
theorem d_Mo_findRings_13 : decode b_Mo_findRings 13 = .ok (.iconst 2, 1) := by decide +kernel
theorem d_Mo_findRings_14 : decode b_Mo_findRings 14 = .ok (.aload_n 0, 1) := by decide +kernel
theorem d_Mo_findRings_15 : decode b_Mo_findRings 15 = .ok (.getfield 188, 3) := by decide +kernel
theorem d_Mo_findRings_18 : decode b_Mo_findRings 18 = .ok (.imul, 1) := by decide +kernel
theorem d_Mo_findRings_19 : decode b_Mo_findRings 19 = .ok (.if_icmp .ge 16, 3) := by decide +kernel
theorem d_Mo_findRings_22 : decode b_Mo_findRings 22 = .ok (.aload_n 0, 1) := by decide +kernel
theorem d_Mo_findRings_23 : decode b_Mo_findRings 23 = .ok (.getfield 96, 3) := by decide +kernel
theorem d_Mo_findRings_26 : decode b_Mo_findRings 26 = .ok (.iload_n 1, 1) := by decide +kernel
theorem d_Mo_findRings_27 : decode b_Mo_findRings 27 = .ok (.iconst 0, 1) := by decide +kernel
theorem d_Mo_findRings_28 : decode b_Mo_findRings 28 = .ok (.bastore, 1) := by decide +kernel
theorem d_Mo_findRings_29 : decode b_Mo_findRings 29 = .ok (.iinc 1 1, 3) := by decide +kernel
theorem d_Mo_findRings_32 : decode b_Mo_findRings 32 = .ok (.goto (-20), 3) := by decide +kernel
theorem d_Mo_findRings_35 : decode b_Mo_findRings 35 = .ok (.iconst 0, 1) := by decide +kernel
theorem d_Mo_findRings_36 : decode b_Mo_findRings 36 = .ok (.istore_n 1, 1) := by decide +kernel
theorem d_Mo_findRings_37 : decode b_Mo_findRings 37 = .ok (.iload_n 1, 1) := by decide +kernel
theorem d_Mo_findRings_38 : decode b_Mo_findRings 38 = .ok (.iconst 2, 1) := by decide +kernel
theorem d_Mo_findRings_39 : decode b_Mo_findRings 39 = .ok (.aload_n 0, 1) := by decide +kernel
theorem d_Mo_findRings_40 : decode b_Mo_findRings 40 = .ok (.getfield 188, 3) := by decide +kernel
theorem d_Mo_findRings_43 : decode b_Mo_findRings 43 = .ok (.imul, 1) := by decide +kernel
theorem d_Mo_findRings_44 : decode b_Mo_findRings 44 = .ok (.if_icmp .ge 150, 3) := by decide +kernel
theorem d_Mo_findRings_47 : decode b_Mo_findRings 47 = .ok (.aload_n 0, 1) := by decide +kernel
theorem d_Mo_findRings_48 : decode b_Mo_findRings 48 = .ok (.getfield 96, 3) := by decide +kernel
theorem d_Mo_findRings_51 : decode b_Mo_findRings 51 = .ok (.iload_n 1, 1) := by decide +kernel
theorem d_Mo_findRings_52 : decode b_Mo_findRings 52 = .ok (.baload, 1) := by decide +kernel
theorem d_Mo_findRings_53 : decode b_Mo_findRings 53 = .ok (.ifCond .ne 135, 3) := by decide +kernel
theorem d_Mo_findRings_56 : decode b_Mo_findRings 56 = .ok (.iload_n 1, 1) := by decide +kernel
theorem d_Mo_findRings_57 : decode b_Mo_findRings 57 = .ok (.istore_n 2, 1) := by decide +kernel
theorem d_Mo_findRings_58 : decode b_Mo_findRings 58 = .ok (.iconst 0, 1) := by decide +kernel
theorem d_Mo_findRings_59 : decode b_Mo_findRings 59 = .ok (.istore_n 3, 1) := by decide +kernel
theorem d_Mo_findRings_60 : decode b_Mo_findRings 60 = .ok (.iload_n 1, 1) := by decide +kernel
theorem d_Mo_findRings_61 : decode b_Mo_findRings 61 = .ok (.istore 4, 2) := by decide +kernel
theorem d_Mo_findRings_63 : decode b_Mo_findRings 63 = .ok (.aload_n 0, 1) := by decide +kernel
theorem d_Mo_findRings_64 : decode b_Mo_findRings 64 = .ok (.getfield 96, 3) := by decide +kernel
theorem d_Mo_findRings_67 : decode b_Mo_findRings 67 = .ok (.iload 4, 2) := by decide +kernel
theorem d_Mo_findRings_69 : decode b_Mo_findRings 69 = .ok (.iconst 1, 1) := by decide +kernel
theorem d_Mo_findRings_70 : decode b_Mo_findRings 70 = .ok (.bastore, 1) := by decide +kernel
theorem d_Mo_findRings_71 : decode b_Mo_findRings 71 = .ok (.iinc 3 1, 3) := by decide +kernel
theorem d_Mo_findRings_74 : decode b_Mo_findRings 74 = .ok (.aload_n 0, 1) := by decide +kernel
theorem d_Mo_findRings_75 : decode b_Mo_findRings 75 = .ok (.iload 4, 2) := by decide +kernel
theorem d_Mo_findRings_77 : decode b_Mo_findRings 77 = .ok (.invokevirtual 195, 3) := by decide +kernel
theorem d_Mo_findRings_80 : decode b_Mo_findRings 80 = .ok (.aload_n 0, 1) := by decide +kernel
theorem d_Mo_findRings_81 : decode b_Mo_findRings 81 = .ok (.iload_n 2, 1) := by decide +kernel
theorem d_Mo_findRings_82 : decode b_Mo_findRings 82 = .ok (.invokevirtual 195, 3) := by decide +kernel
theorem d_Mo_findRings_85 : decode b_Mo_findRings 85 = .ok (.if_icmp .lt 31, 3) := by decide +kernel
theorem d_Mo_findRings_88 : decode b_Mo_findRings 88 = .ok (.aload_n 0, 1) := by decide +kernel
theorem d_Mo_findRings_89 : decode b_Mo_findRings 89 = .ok (.iload 4, 2) := by decide +kernel
theorem d_Mo_findRings_91 : decode b_Mo_findRings 91 = .ok (.invokevirtual 195, 3) := by decide +kernel
theorem d_Mo_findRings_94 : decode b_Mo_findRings 94 = .ok (.aload_n 0, 1) := by decide +kernel
theorem d_Mo_findRings_95 : decode b_Mo_findRings 95 = .ok (.iload_n 2, 1) := by decide +kernel
theorem d_Mo_findRings_96 : decode b_Mo_findRings 96 = .ok (.invokevirtual 195, 3) := by decide +kernel
theorem d_Mo_findRings_99 : decode b_Mo_findRings 99 = .ok (.if_icmp .ne 21, 3) := by decide +kernel
theorem d_Mo_findRings_102 : decode b_Mo_findRings 102 = .ok (.aload_n 0, 1) := by decide +kernel
theorem d_Mo_findRings_103 : decode b_Mo_findRings 103 = .ok (.iload 4, 2) := by decide +kernel
theorem d_Mo_findRings_105 : decode b_Mo_findRings 105 = .ok (.invokevirtual 191, 3) := by decide +kernel
theorem d_Mo_findRings_108 : decode b_Mo_findRings 108 = .ok (.aload_n 0, 1) := by decide +kernel
theorem d_Mo_findRings_109 : decode b_Mo_findRings 109 = .ok (.iload_n 2, 1) := by decide +kernel
theorem d_Mo_findRings_110 : decode b_Mo_findRings 110 = .ok (.invokevirtual 191, 3) := by decide +kernel
theorem d_Mo_findRings_113 : decode b_Mo_findRings 113 = .ok (.if_icmp .ge 7, 3) := by decide +kernel
theorem d_Mo_findRings_116 : decode b_Mo_findRings 116 = .ok (.iconst 1, 1) := by decide +kernel
theorem d_Mo_findRings_117 : decode b_Mo_findRings 117 = .ok (.goto 4, 3) := by decide +kernel
theorem d_Mo_findRings_120 : decode b_Mo_findRings 120 = .ok (.iconst 0, 1) := by decide +kernel
theorem d_Mo_findRings_121 : decode b_Mo_findRings 121 = .ok (.istore 5, 2) := by decide +kernel
theorem d_Mo_findRings_123 : decode b_Mo_findRings 123 = .ok (.iload 5, 2) := by decide +kernel
theorem d_Mo_findRings_125 : decode b_Mo_findRings 125 = .ok (.ifCond .eq 8, 3) := by decide +kernel
theorem d_Mo_findRings_128 : decode b_Mo_findRings 128 = .ok (.iload 4, 2) := by decide +kernel
theorem d_Mo_findRings_130 : decode b_Mo_findRings 130 = .ok (.goto 4, 3) := by decide +kernel
theorem d_Mo_findRings_133 : decode b_Mo_findRings 133 = .ok (.iload_n 2, 1) := by decide +kernel
theorem d_Mo_findRings_134 : decode b_Mo_findRings 134 = .ok (.istore_n 2, 1) := by decide +kernel
theorem d_Mo_findRings_135 : decode b_Mo_findRings 135 = .ok (.aload_n 0, 1) := by decide +kernel
theorem d_Mo_findRings_136 : decode b_Mo_findRings 136 = .ok (.iload 4, 2) := by decide +kernel
theorem d_Mo_findRings_138 : decode b_Mo_findRings 138 = .ok (.invokevirtual 204, 3) := by decide +kernel
theorem d_Mo_findRings_141 : decode b_Mo_findRings 141 = .ok (.istore 4, 2) := by decide +kernel
theorem d_Mo_findRings_143 : decode b_Mo_findRings 143 = .ok (.iload 4, 2) := by decide +kernel
theorem d_Mo_findRings_145 : decode b_Mo_findRings 145 = .ok (.iload_n 1, 1) := by decide +kernel
theorem d_Mo_findRings_146 : decode b_Mo_findRings 146 = .ok (.if_icmp .ne (-83), 3) := by decide +kernel
theorem d_Mo_findRings_149 : decode b_Mo_findRings 149 = .ok (.aload_n 0, 1) := by decide +kernel
theorem d_Mo_findRings_150 : decode b_Mo_findRings 150 = .ok (.dup, 1) := by decide +kernel
theorem d_Mo_findRings_151 : decode b_Mo_findRings 151 = .ok (.getfield 201, 3) := by decide +kernel
theorem d_Mo_findRings_154 : decode b_Mo_findRings 154 = .ok (.aload_n 0, 1) := by decide +kernel
theorem d_Mo_findRings_155 : decode b_Mo_findRings 155 = .ok (.iload_n 1, 1) := by decide +kernel
theorem d_Mo_findRings_156 : decode b_Mo_findRings 156 = .ok (.invokevirtual 207, 3) := by decide +kernel
theorem d_Mo_findRings_159 : decode b_Mo_findRings 159 = .ok (.iconst (-1), 1) := by decide +kernel
theorem d_Mo_findRings_160 : decode b_Mo_findRings 160 = .ok (.if_icmp .ne 7, 3) := by decide +kernel
theorem d_Mo_findRings_163 : decode b_Mo_findRings 163 = .ok (.iload_n 3, 1) := by decide +kernel
theorem d_Mo_findRings_164 : decode b_Mo_findRings 164 = .ok (.goto 4, 3) := by decide +kernel
theorem d_Mo_findRings_167 : decode b_Mo_findRings 167 = .ok (.iconst 0, 1) := by decide +kernel
theorem d_Mo_findRings_168 : decode b_Mo_findRings 168 = .ok (.iadd, 1) := by decide +kernel
theorem d_Mo_findRings_169 : decode b_Mo_findRings 169 = .ok (.putfield 201, 3) := by decide +kernel
theorem d_Mo_findRings_172 : decode b_Mo_findRings 172 = .ok (.aload_n 0, 1) := by decide +kernel
theorem d_Mo_findRings_173 : decode b_Mo_findRings 173 = .ok (.aload_n 0, 1) := by decide +kernel
theorem d_Mo_findRings_174 : decode b_Mo_findRings 174 = .ok (.iload_n 1, 1) := by decide +kernel
theorem d_Mo_findRings_175 : decode b_Mo_findRings 175 = .ok (.invokevirtual 207, 3) := by decide +kernel
theorem d_Mo_findRings_178 : decode b_Mo_findRings 178 = .ok (.iload_n 2, 1) := by decide +kernel
theorem d_Mo_findRings_179 : decode b_Mo_findRings 179 = .ok (.iload_n 3, 1) := by decide +kernel
theorem d_Mo_findRings_180 : decode b_Mo_findRings 180 = .ok (.aload_n 0, 1) := by decide +kernel
theorem d_Mo_findRings_181 : decode b_Mo_findRings 181 = .ok (.iload_n 2, 1) := by decide +kernel
theorem d_Mo_findRings_182 : decode b_Mo_findRings 182 = .ok (.invokevirtual 195, 3) := by decide +kernel
theorem d_Mo_findRings_185 : decode b_Mo_findRings 185 = .ok (.invokevirtual 210, 3) := by decide +kernel
theorem d_Mo_findRings_188 : decode b_Mo_findRings 188 = .ok (.iinc 1 1, 3) := by decide +kernel
theorem d_Mo_findRings_191 : decode b_Mo_findRings 191 = .ok (.goto (-154), 3) := by decide +kernel
theorem d_Mo_findRings_194 : decode b_Mo_findRings 194 = .ok (.return_, 1) := by decide +kernel
abbrev wl_Mo_findRings (a_0 : Nat) (a_0_isFlat : Nat) (a_0_pieceLines : Nat) (a_0_pieceBegins : Nat) (a_0_pieceEnds : Nat) (a_0_pieceLeft : Nat) (a_0_pieceRight : Nat) (a_0_outs : Nat) (a_0_isSeen : Nat) (a_0_ringSpaces : Nat) (a_0_ringStarts : Nat) (a_0_ringSizes : Nat) (a_0_ringLeast : Nat) (b_0_across : Nat) (b_0_lows : Nat) (b_0_highs : Nat) (b_0_thick : Nat) (b_0_doorCounts : Nat) (b_0_doorFrom : Nat) (b_0_doorTo : Nat) (b_0_xs : Nat) (b_0_ys : Nat) (b_0_labels : Nat) (b_0_oldXs : Nat) (b_0_oldYs : Nat) (b_0_oldLabels : Nat) (b_0_names : Nat) (b_0_oldNames : Nat) (b_0_wanted : Nat) (b_0_common : Nat) (b_0_flatEdges : Nat) (b_0_upEdges : Nat) (b_0_isPoint : Nat) (b_0_stack : Nat) (b_0_looseLines : Nat) (b_0_looseXs : Nat) (b_0_looseYs : Nat) (b_0_looseReaches : Nat) (b_0_far : Nat) (cZ : ClassId) (cI : ClassId) (v_0_code : Int32) (v_0_lines : Int32) (v_0_isFresh : Int32) (v_0_hasRun : Int32) (v_0_runs : Int32) (v_0_nx : Int32) (v_0_ny : Int32) (v_0_spaces : Int32) (v_0_oldNx : Int32) (v_0_oldNy : Int32) (v_0_oldSpaces : Int32) (v_0_points : Int32) (v_0_pieces : Int32) (v_0_rings : Int32) (v_0_outsideSides : Int32) (v_0_looseCount : Int32) (f_0_isFlat : Nat → Int32) (f_0_pieceLines : Nat → Int32) (f_0_pieceBegins : Nat → Int32) (f_0_pieceEnds : Nat → Int32) (f_0_pieceLeft : Nat → Int32) (f_0_pieceRight : Nat → Int32) (f_0_outs : Nat → Int32) (f_0_isSeen : Nat → Int32) (f_0_ringSpaces : Nat → Int32) (f_0_ringStarts : Nat → Int32) (f_0_ringSizes : Nat → Int32) (f_0_ringLeast : Nat → Int32) : va_W := [(a_0, .inr (11, [.int v_0_code, .ref a_0_isFlat, .ref b_0_across, .ref b_0_lows, .ref b_0_highs, .ref b_0_thick, .int v_0_lines, .ref b_0_doorCounts, .ref b_0_doorFrom, .ref b_0_doorTo, .int v_0_isFresh, .int v_0_hasRun, .int v_0_runs, .ref b_0_xs, .ref b_0_ys, .int v_0_nx, .int v_0_ny, .ref b_0_labels, .int v_0_spaces, .ref b_0_oldXs, .ref b_0_oldYs, .int v_0_oldNx, .int v_0_oldNy, .ref b_0_oldLabels, .int v_0_oldSpaces, .ref b_0_names, .ref b_0_oldNames, .ref b_0_wanted, .ref b_0_common, .ref b_0_flatEdges, .ref b_0_upEdges, .ref b_0_isPoint, .int v_0_points, .ref b_0_stack, .ref a_0_pieceLines, .ref a_0_pieceBegins, .ref a_0_pieceEnds, .ref a_0_pieceLeft, .ref a_0_pieceRight, .int v_0_pieces, .ref a_0_outs, .ref a_0_isSeen, .ref a_0_ringSpaces, .ref a_0_ringStarts, .ref a_0_ringSizes, .ref a_0_ringLeast, .int v_0_rings, .int v_0_outsideSides, .ref b_0_looseLines, .ref b_0_looseXs, .ref b_0_looseYs, .ref b_0_looseReaches, .int v_0_looseCount, .ref b_0_far])), (a_0_isFlat, .inl (cZ, 20, .inl f_0_isFlat)), (a_0_pieceLines, .inl (cI, 900, .inl f_0_pieceLines)), (a_0_pieceBegins, .inl (cI, 900, .inl f_0_pieceBegins)), (a_0_pieceEnds, .inl (cI, 900, .inl f_0_pieceEnds)), (a_0_pieceLeft, .inl (cI, 900, .inl f_0_pieceLeft)), (a_0_pieceRight, .inl (cI, 900, .inl f_0_pieceRight)), (a_0_outs, .inl (cI, 7056, .inl f_0_outs)), (a_0_isSeen, .inl (cZ, 1800, .inl f_0_isSeen)), (a_0_ringSpaces, .inl (cI, 900, .inl f_0_ringSpaces)), (a_0_ringStarts, .inl (cI, 900, .inl f_0_ringStarts)), (a_0_ringSizes, .inl (cI, 900, .inl f_0_ringSizes)), (a_0_ringLeast, .inl (cI, 900, .inl f_0_ringLeast))]
def m_Mo_findRings_L12 (v_0_pieces : Int32) : Nat → Int32 → (Nat → Int32) → Option ((Nat → Int32))
  | 0, _, _ => none
  | n + 1, l1, f_0_isSeen =>
    if (2 * v_0_pieces) ≤ l1 then (
      some f_0_isSeen)
    else (
      gI l1 1800 <|
      lt_ (upd f_0_isSeen l1.toNatClampNeg (vp_nar .boolean 0)) fun f3 =>
      lt_ (l1 + 1) fun x4 =>
      m_Mo_findRings_L12 v_0_pieces n x4 f3)

def m_Mo_findRings_L63 (l1 : Int32) (f_0_isFlat : Nat → Int32) (f_0_pieceLines : Nat → Int32) (f_0_pieceBegins : Nat → Int32) (f_0_pieceEnds : Nat → Int32) (f_0_outs : Nat → Int32) : Nat → Int32 → Int32 → Int32 → (Nat → Int32) → Option (Int32 × Int32 × (Nat → Int32))
  | 0, _, _, _, _ => none
  | n + 1, l2, l3, l4, f_0_isSeen =>
    gI l4 1800 <|
    lt_ (upd f_0_isSeen l4.toNatClampNeg (vp_nar .boolean 1)) fun f24 =>
    lt_ (l3 + 1) fun x25 =>
    bd1 (m_Mo_beginOf l4 f_0_pieceBegins f_0_pieceEnds) fun r26 =>
    bd1 (m_Mo_beginOf l2 f_0_pieceBegins f_0_pieceEnds) fun r28 =>
    bd1 (
      if r26 < r28 then (
      some 1)
    else (
      bd1 (m_Mo_beginOf l4 f_0_pieceBegins f_0_pieceEnds) fun r35 =>
      bd1 (m_Mo_beginOf l2 f_0_pieceBegins f_0_pieceEnds) fun r37 =>
      if r35 = r37 then (
        bd1 (m_Mo_directionOf l4 f_0_isFlat f_0_pieceLines) fun r40 =>
        bd1 (m_Mo_directionOf l2 f_0_isFlat f_0_pieceLines) fun r42 =>
        if r42 ≤ r40 then (
          some 0)
        else (
          some 1))
      else (
        some 0)))
    fun (x33 : Int32) =>
    bd1 (
        if x33 = 0 then (
        some l2)
      else (
        some l4))
      fun (x48 : Int32) =>
      bd1 (m_Mo_next l4 f_0_isFlat f_0_pieceLines f_0_pieceBegins f_0_pieceEnds f_0_outs) fun r50 =>
        if r50 = l1 then (
          some (x48, x25, f24))
        else (
          m_Mo_findRings_L63 l1 f_0_isFlat f_0_pieceLines f_0_pieceBegins f_0_pieceEnds f_0_outs n x48 x25 r50 f24)

def m_Mo_findRings_L37 (v_0_pieces : Int32) (f_0_isFlat : Nat → Int32) (f_0_pieceLines : Nat → Int32) (f_0_pieceBegins : Nat → Int32) (f_0_pieceEnds : Nat → Int32) (f_0_pieceLeft : Nat → Int32) (f_0_pieceRight : Nat → Int32) (f_0_outs : Nat → Int32) : Nat → Int32 → Int32 → Int32 → (Nat → Int32) → (Nat → Int32) → (Nat → Int32) → (Nat → Int32) → (Nat → Int32) → Option ((Int32) × (Int32) × (Nat → Int32) × (Nat → Int32) × (Nat → Int32) × (Nat → Int32) × (Nat → Int32))
  | 0, _, _, _, _, _, _, _, _ => none
  | n + 1, l1, v_0_rings, v_0_outsideSides, f_0_isSeen, f_0_ringSpaces, f_0_ringStarts, f_0_ringSizes, f_0_ringLeast =>
    if (2 * v_0_pieces) ≤ l1 then (
      some (v_0_rings, v_0_outsideSides, f_0_isSeen, f_0_ringSpaces, f_0_ringStarts, f_0_ringSizes, f_0_ringLeast))
    else (
      gI l1 1800 <|
      bd7 (
        if (f_0_isSeen l1.toNatClampNeg) = 0 then (
        bd3 (m_Mo_findRings_L63 l1 f_0_isFlat f_0_pieceLines f_0_pieceBegins f_0_pieceEnds f_0_outs fu l1 0 l1 f_0_isSeen) fun x27 x28 f29 =>
        bd1 (m_Mo_leftOf l1 f_0_pieceLeft f_0_pieceRight) fun r62 =>
        bd1 (
          if r62 = (-1) then (
          some x28)
        else (
          some 0))
        fun (x67 : Int32) =>
        lt_ (v_0_outsideSides + x67) fun x69 =>
          bd1 (m_Mo_leftOf l1 f_0_pieceLeft f_0_pieceRight) fun r70 =>
          bd1 (m_Mo_beginOf x27 f_0_pieceBegins f_0_pieceEnds) fun r72 =>
          bd5 (m_Mo_addRing r70 x27 x28 r72 v_0_rings f_0_ringSpaces f_0_ringStarts f_0_ringSizes f_0_ringLeast) fun x74 f75 f76 f77 f78 =>
          some (x74, x69, f29, f75, f76, f77, f78))
      else (
        some (v_0_rings, v_0_outsideSides, f_0_isSeen, f_0_ringSpaces, f_0_ringStarts, f_0_ringSizes, f_0_ringLeast)))
      fun (x15 : Int32) (x16 : Int32) (f17 : Nat → Int32) (f18 : Nat → Int32) (f19 : Nat → Int32) (f20 : Nat → Int32) (f21 : Nat → Int32) =>
      lt_ (l1 + 1) fun x80 =>
        m_Mo_findRings_L37 v_0_pieces f_0_isFlat f_0_pieceLines f_0_pieceBegins f_0_pieceEnds f_0_pieceLeft f_0_pieceRight f_0_outs n x80 x15 x16 f17 f18 f19 f20 f21)
def m_Mo_findRings (v_0_pieces : Int32) (v_0_rings : Int32) (v_0_outsideSides : Int32) (f_0_isFlat : Nat → Int32) (f_0_pieceLines : Nat → Int32) (f_0_pieceBegins : Nat → Int32) (f_0_pieceEnds : Nat → Int32) (f_0_pieceLeft : Nat → Int32) (f_0_pieceRight : Nat → Int32) (f_0_outs : Nat → Int32) (f_0_isSeen : Nat → Int32) (f_0_ringSpaces : Nat → Int32) (f_0_ringStarts : Nat → Int32) (f_0_ringSizes : Nat → Int32) (f_0_ringLeast : Nat → Int32) : Option ((Int32) × (Int32) × (Nat → Int32) × (Nat → Int32) × (Nat → Int32) × (Nat → Int32) × (Nat → Int32)) :=
  bd1 (m_Mo_findRings_L12 v_0_pieces fu 0 f_0_isSeen) fun f3 =>
  bd7 (m_Mo_findRings_L37 v_0_pieces f_0_isFlat f_0_pieceLines f_0_pieceBegins f_0_pieceEnds f_0_pieceLeft f_0_pieceRight f_0_outs fu 0 0 0 f3 f_0_ringSpaces f_0_ringStarts f_0_ringSizes f_0_ringLeast) fun x18 x19 f20 f21 f22 f23 f24 =>
  some (x18, x19, f20, f21, f22, f23, f24)

set_option maxHeartbeats 4000000 in
set_option maxRecDepth 100000 in
theorem t_Mo_findRings {p : Program} {l : Launch} {e : Env} {s : State} {m : MethodId} {args : Array Value} {below : List Frame} {meth : Method} {c : Code} {A : Nat → Prop} {Q : State → Prop} {dC : Nat → ClassId} {dI : Nat → Nat → Nat} {cI cZ cJ : ClassId} (a_0 a_0_isFlat a_0_pieceLines a_0_pieceBegins a_0_pieceEnds a_0_pieceLeft a_0_pieceRight a_0_outs a_0_isSeen a_0_ringSpaces a_0_ringStarts a_0_ringSizes a_0_ringLeast b_0_across b_0_lows b_0_highs b_0_thick b_0_doorCounts b_0_doorFrom b_0_doorTo b_0_xs b_0_ys b_0_labels b_0_oldXs b_0_oldYs b_0_oldLabels b_0_names b_0_oldNames b_0_wanted b_0_common b_0_flatEdges b_0_upEdges b_0_isPoint b_0_stack b_0_looseLines b_0_looseXs b_0_looseYs b_0_looseReaches b_0_far : Nat) (v_0_code : Int32) (v_0_lines : Int32) (v_0_isFresh : Int32) (v_0_hasRun : Int32) (v_0_runs : Int32) (v_0_nx : Int32) (v_0_ny : Int32) (v_0_spaces : Int32) (v_0_oldNx : Int32) (v_0_oldNy : Int32) (v_0_oldSpaces : Int32) (v_0_points : Int32) (v_0_pieces : Int32) (v_0_rings : Int32) (v_0_outsideSides : Int32) (v_0_looseCount : Int32) (f_0_isFlat : Nat → Int32) (f_0_pieceLines : Nat → Int32) (f_0_pieceBegins : Nat → Int32) (f_0_pieceEnds : Nat → Int32) (f_0_pieceLeft : Nat → Int32) (f_0_pieceRight : Nat → Int32) (f_0_outs : Nat → Int32) (f_0_isSeen : Nat → Int32) (f_0_ringSpaces : Nat → Int32) (f_0_ringStarts : Nat → Int32) (f_0_ringSizes : Nat → Int32) (f_0_ringLeast : Nat → Int32)  (ov_0_rings : Int32) (ov_0_outsideSides : Int32) (of_0_isSeen : Nat → Int32) (of_0_ringSpaces : Nat → Int32) (of_0_ringStarts : Nat → Int32) (of_0_ringSizes : Nat → Int32) (of_0_ringLeast : Nat → Int32) (hx : p.tables.exec = Jvm.exec) (hb : c.code = b_Mo_findRings) (hml : c.maxLocals = 6) (hown : s.vm.findClass "SpaceCyclesModel" = some m.cls) (hts : ∀ w ∈ w_Mo_findRings, w.before args s = true) (hK : va_K (dC, dI) vwCl [(cI, .int), (cZ, .boolean), (cJ, .long)] s) (hN : NX s) (hA : ∀ q : Nat, s.heap.size ≤ q → A q)
    (hret : ∀ (pc : Nat) (H : Heap) (locs : List Loc) (ls : Array Slot), decode b_Mo_findRings pc = .ok (.return_, 1) → va_P (dC, dI) vwCl (wl_Mo_findRings a_0 a_0_isFlat a_0_pieceLines a_0_pieceBegins a_0_pieceEnds a_0_pieceLeft a_0_pieceRight a_0_outs a_0_isSeen a_0_ringSpaces a_0_ringStarts a_0_ringSizes a_0_ringLeast b_0_across b_0_lows b_0_highs b_0_thick b_0_doorCounts b_0_doorFrom b_0_doorTo b_0_xs b_0_ys b_0_labels b_0_oldXs b_0_oldYs b_0_oldLabels b_0_names b_0_oldNames b_0_wanted b_0_common b_0_flatEdges b_0_upEdges b_0_isPoint b_0_stack b_0_looseLines b_0_looseXs b_0_looseYs b_0_looseReaches b_0_far cZ cI v_0_code v_0_lines v_0_isFresh v_0_hasRun v_0_runs v_0_nx v_0_ny v_0_spaces v_0_oldNx v_0_oldNy v_0_oldSpaces v_0_points v_0_pieces ov_0_rings ov_0_outsideSides v_0_looseCount f_0_isFlat f_0_pieceLines f_0_pieceBegins f_0_pieceEnds f_0_pieceLeft f_0_pieceRight f_0_outs of_0_isSeen of_0_ringSpaces of_0_ringStarts of_0_ringSizes of_0_ringLeast) H → va_D A (wl_Mo_findRings a_0 a_0_isFlat a_0_pieceLines a_0_pieceBegins a_0_pieceEnds a_0_pieceLeft a_0_pieceRight a_0_outs a_0_isSeen a_0_ringSpaces a_0_ringStarts a_0_ringSizes a_0_ringLeast b_0_across b_0_lows b_0_highs b_0_thick b_0_doorCounts b_0_doorFrom b_0_doorTo b_0_xs b_0_ys b_0_labels b_0_oldXs b_0_oldYs b_0_oldLabels b_0_names b_0_oldNames b_0_wanted b_0_common b_0_flatEdges b_0_upEdges b_0_isPoint b_0_stack b_0_looseLines b_0_looseXs b_0_looseYs b_0_looseReaches b_0_far cZ cI v_0_code v_0_lines v_0_isFresh v_0_hasRun v_0_runs v_0_nx v_0_ny v_0_spaces v_0_oldNx v_0_oldNy v_0_oldSpaces v_0_points v_0_pieces ov_0_rings ov_0_outsideSides v_0_looseCount f_0_isFlat f_0_pieceLines f_0_pieceBegins f_0_pieceEnds f_0_pieceLeft f_0_pieceRight f_0_outs of_0_isSeen of_0_ringSpaces of_0_ringStarts of_0_ringSizes of_0_ringLeast) → va_S A s.heap H locs → W p l e rm_Mo_findRings s m args below meth c H locs 0 0 Q (F0 m pc ls []))
    (hm : m_Mo_findRings v_0_pieces v_0_rings v_0_outsideSides f_0_isFlat f_0_pieceLines f_0_pieceBegins f_0_pieceEnds f_0_pieceLeft f_0_pieceRight f_0_outs f_0_isSeen f_0_ringSpaces f_0_ringStarts f_0_ringSizes f_0_ringLeast = some (ov_0_rings, ov_0_outsideSides, of_0_isSeen, of_0_ringSpaces, of_0_ringStarts, of_0_ringSizes, of_0_ringLeast)) : ∀ (H : Heap) (locs : List Loc) (ls : Array Slot), va_P (dC, dI) vwCl (wl_Mo_findRings a_0 a_0_isFlat a_0_pieceLines a_0_pieceBegins a_0_pieceEnds a_0_pieceLeft a_0_pieceRight a_0_outs a_0_isSeen a_0_ringSpaces a_0_ringStarts a_0_ringSizes a_0_ringLeast b_0_across b_0_lows b_0_highs b_0_thick b_0_doorCounts b_0_doorFrom b_0_doorTo b_0_xs b_0_ys b_0_labels b_0_oldXs b_0_oldYs b_0_oldLabels b_0_names b_0_oldNames b_0_wanted b_0_common b_0_flatEdges b_0_upEdges b_0_isPoint b_0_stack b_0_looseLines b_0_looseXs b_0_looseYs b_0_looseReaches b_0_far cZ cI v_0_code v_0_lines v_0_isFresh v_0_hasRun v_0_runs v_0_nx v_0_ny v_0_spaces v_0_oldNx v_0_oldNy v_0_oldSpaces v_0_points v_0_pieces v_0_rings v_0_outsideSides v_0_looseCount f_0_isFlat f_0_pieceLines f_0_pieceBegins f_0_pieceEnds f_0_pieceLeft f_0_pieceRight f_0_outs f_0_isSeen f_0_ringSpaces f_0_ringStarts f_0_ringSizes f_0_ringLeast) H → va_D A (wl_Mo_findRings a_0 a_0_isFlat a_0_pieceLines a_0_pieceBegins a_0_pieceEnds a_0_pieceLeft a_0_pieceRight a_0_outs a_0_isSeen a_0_ringSpaces a_0_ringStarts a_0_ringSizes a_0_ringLeast b_0_across b_0_lows b_0_highs b_0_thick b_0_doorCounts b_0_doorFrom b_0_doorTo b_0_xs b_0_ys b_0_labels b_0_oldXs b_0_oldYs b_0_oldLabels b_0_names b_0_oldNames b_0_wanted b_0_common b_0_flatEdges b_0_upEdges b_0_isPoint b_0_stack b_0_looseLines b_0_looseXs b_0_looseYs b_0_looseReaches b_0_far cZ cI v_0_code v_0_lines v_0_isFresh v_0_hasRun v_0_runs v_0_nx v_0_ny v_0_spaces v_0_oldNx v_0_oldNy v_0_oldSpaces v_0_points v_0_pieces v_0_rings v_0_outsideSides v_0_looseCount f_0_isFlat f_0_pieceLines f_0_pieceBegins f_0_pieceEnds f_0_pieceLeft f_0_pieceRight f_0_outs f_0_isSeen f_0_ringSpaces f_0_ringStarts f_0_ringSizes f_0_ringLeast) → va_S A s.heap H locs → lv_has ls 6 [(0, .ref a_0)] → W p l e rm_Mo_findRings s m args below meth c H locs 0 0 Q (F0 m 0 ls []) := by
  intro H locs ls hP hD hS hl
  unfold m_Mo_findRings at hm
  refine lv_aload_n hx hb d_Mo_findRings_0 rfl (lv_at hl 0 rfl) ?_
  refine lv_iconst (v := 0) hx hb d_Mo_findRings_1 (by decide) ?_
  refine va_put (D := (dC, dI)) (ci := 11) (v := .int 0) (ty := .int) (C := "SpaceCyclesModel") (T := F_Mo) (N := 54) hx hb hts (in_F i_Mo) t_Mo t_Mo_ok n_Mo hown hK hP hD hS 0 rfl rfl 46 (by decide) (hts _ (in_c k_344)) (fun _ h9 => h9) rfl (by decide +kernel) rfl rfl (Nat.le_of_ble_eq_true rfl) d_Mo_findRings_2 (fun H locs hP hD hS => ?_)
  have hP : va_P (dC, dI) vwCl (wl_Mo_findRings a_0 a_0_isFlat a_0_pieceLines a_0_pieceBegins a_0_pieceEnds a_0_pieceLeft a_0_pieceRight a_0_outs a_0_isSeen a_0_ringSpaces a_0_ringStarts a_0_ringSizes a_0_ringLeast b_0_across b_0_lows b_0_highs b_0_thick b_0_doorCounts b_0_doorFrom b_0_doorTo b_0_xs b_0_ys b_0_labels b_0_oldXs b_0_oldYs b_0_oldLabels b_0_names b_0_oldNames b_0_wanted b_0_common b_0_flatEdges b_0_upEdges b_0_isPoint b_0_stack b_0_looseLines b_0_looseXs b_0_looseYs b_0_looseReaches b_0_far cZ cI v_0_code v_0_lines v_0_isFresh v_0_hasRun v_0_runs v_0_nx v_0_ny v_0_spaces v_0_oldNx v_0_oldNy v_0_oldSpaces v_0_points v_0_pieces 0 v_0_outsideSides v_0_looseCount f_0_isFlat f_0_pieceLines f_0_pieceBegins f_0_pieceEnds f_0_pieceLeft f_0_pieceRight f_0_outs f_0_isSeen f_0_ringSpaces f_0_ringStarts f_0_ringSizes f_0_ringLeast) H := hP
  have hD : va_D A (wl_Mo_findRings a_0 a_0_isFlat a_0_pieceLines a_0_pieceBegins a_0_pieceEnds a_0_pieceLeft a_0_pieceRight a_0_outs a_0_isSeen a_0_ringSpaces a_0_ringStarts a_0_ringSizes a_0_ringLeast b_0_across b_0_lows b_0_highs b_0_thick b_0_doorCounts b_0_doorFrom b_0_doorTo b_0_xs b_0_ys b_0_labels b_0_oldXs b_0_oldYs b_0_oldLabels b_0_names b_0_oldNames b_0_wanted b_0_common b_0_flatEdges b_0_upEdges b_0_isPoint b_0_stack b_0_looseLines b_0_looseXs b_0_looseYs b_0_looseReaches b_0_far cZ cI v_0_code v_0_lines v_0_isFresh v_0_hasRun v_0_runs v_0_nx v_0_ny v_0_spaces v_0_oldNx v_0_oldNy v_0_oldSpaces v_0_points v_0_pieces 0 v_0_outsideSides v_0_looseCount f_0_isFlat f_0_pieceLines f_0_pieceBegins f_0_pieceEnds f_0_pieceLeft f_0_pieceRight f_0_outs f_0_isSeen f_0_ringSpaces f_0_ringStarts f_0_ringSizes f_0_ringLeast) := hD
  refine lv_aload_n hx hb d_Mo_findRings_5 rfl (lv_at hl 0 rfl) ?_
  refine lv_iconst (v := 0) hx hb d_Mo_findRings_6 (by decide) ?_
  refine va_put (D := (dC, dI)) (ci := 11) (v := .int 0) (ty := .int) (C := "SpaceCyclesModel") (T := F_Mo) (N := 54) hx hb hts (in_F i_Mo) t_Mo t_Mo_ok n_Mo hown hK hP hD hS 0 rfl rfl 47 (by decide) (hts _ (in_c k_349)) (fun _ h9 => h9) rfl (by decide +kernel) rfl rfl (Nat.le_of_ble_eq_true rfl) d_Mo_findRings_7 (fun H locs hP hD hS => ?_)
  have hP : va_P (dC, dI) vwCl (wl_Mo_findRings a_0 a_0_isFlat a_0_pieceLines a_0_pieceBegins a_0_pieceEnds a_0_pieceLeft a_0_pieceRight a_0_outs a_0_isSeen a_0_ringSpaces a_0_ringStarts a_0_ringSizes a_0_ringLeast b_0_across b_0_lows b_0_highs b_0_thick b_0_doorCounts b_0_doorFrom b_0_doorTo b_0_xs b_0_ys b_0_labels b_0_oldXs b_0_oldYs b_0_oldLabels b_0_names b_0_oldNames b_0_wanted b_0_common b_0_flatEdges b_0_upEdges b_0_isPoint b_0_stack b_0_looseLines b_0_looseXs b_0_looseYs b_0_looseReaches b_0_far cZ cI v_0_code v_0_lines v_0_isFresh v_0_hasRun v_0_runs v_0_nx v_0_ny v_0_spaces v_0_oldNx v_0_oldNy v_0_oldSpaces v_0_points v_0_pieces 0 0 v_0_looseCount f_0_isFlat f_0_pieceLines f_0_pieceBegins f_0_pieceEnds f_0_pieceLeft f_0_pieceRight f_0_outs f_0_isSeen f_0_ringSpaces f_0_ringStarts f_0_ringSizes f_0_ringLeast) H := hP
  have hD : va_D A (wl_Mo_findRings a_0 a_0_isFlat a_0_pieceLines a_0_pieceBegins a_0_pieceEnds a_0_pieceLeft a_0_pieceRight a_0_outs a_0_isSeen a_0_ringSpaces a_0_ringStarts a_0_ringSizes a_0_ringLeast b_0_across b_0_lows b_0_highs b_0_thick b_0_doorCounts b_0_doorFrom b_0_doorTo b_0_xs b_0_ys b_0_labels b_0_oldXs b_0_oldYs b_0_oldLabels b_0_names b_0_oldNames b_0_wanted b_0_common b_0_flatEdges b_0_upEdges b_0_isPoint b_0_stack b_0_looseLines b_0_looseXs b_0_looseYs b_0_looseReaches b_0_far cZ cI v_0_code v_0_lines v_0_isFresh v_0_hasRun v_0_runs v_0_nx v_0_ny v_0_spaces v_0_oldNx v_0_oldNy v_0_oldSpaces v_0_points v_0_pieces 0 0 v_0_looseCount f_0_isFlat f_0_pieceLines f_0_pieceBegins f_0_pieceEnds f_0_pieceLeft f_0_pieceRight f_0_outs f_0_isSeen f_0_ringSpaces f_0_ringStarts f_0_ringSizes f_0_ringLeast) := hD
  refine lv_iconst (v := 0) hx hb d_Mo_findRings_10 (by decide) ?_
  refine lv_istore_n (lv' := [(1, .int 0), (0, .ref a_0)]) hx hb d_Mo_findRings_11 rfl hl (by decide) rfl (fun ls hl => ?_)
  have L12_4 : ∀ (n : Nat) (x1 : Int32) (f2 : Nat → Int32) (f3 : Nat → Int32), m_Mo_findRings_L12 v_0_pieces n x1 f2 = some f3 → (∀ (H : Heap) (locs : List Loc) (ls : Array Slot), va_P (dC, dI) vwCl (wl_Mo_findRings a_0 a_0_isFlat a_0_pieceLines a_0_pieceBegins a_0_pieceEnds a_0_pieceLeft a_0_pieceRight a_0_outs a_0_isSeen a_0_ringSpaces a_0_ringStarts a_0_ringSizes a_0_ringLeast b_0_across b_0_lows b_0_highs b_0_thick b_0_doorCounts b_0_doorFrom b_0_doorTo b_0_xs b_0_ys b_0_labels b_0_oldXs b_0_oldYs b_0_oldLabels b_0_names b_0_oldNames b_0_wanted b_0_common b_0_flatEdges b_0_upEdges b_0_isPoint b_0_stack b_0_looseLines b_0_looseXs b_0_looseYs b_0_looseReaches b_0_far cZ cI v_0_code v_0_lines v_0_isFresh v_0_hasRun v_0_runs v_0_nx v_0_ny v_0_spaces v_0_oldNx v_0_oldNy v_0_oldSpaces v_0_points v_0_pieces 0 0 v_0_looseCount f_0_isFlat f_0_pieceLines f_0_pieceBegins f_0_pieceEnds f_0_pieceLeft f_0_pieceRight f_0_outs f3 f_0_ringSpaces f_0_ringStarts f_0_ringSizes f_0_ringLeast) H → va_D A (wl_Mo_findRings a_0 a_0_isFlat a_0_pieceLines a_0_pieceBegins a_0_pieceEnds a_0_pieceLeft a_0_pieceRight a_0_outs a_0_isSeen a_0_ringSpaces a_0_ringStarts a_0_ringSizes a_0_ringLeast b_0_across b_0_lows b_0_highs b_0_thick b_0_doorCounts b_0_doorFrom b_0_doorTo b_0_xs b_0_ys b_0_labels b_0_oldXs b_0_oldYs b_0_oldLabels b_0_names b_0_oldNames b_0_wanted b_0_common b_0_flatEdges b_0_upEdges b_0_isPoint b_0_stack b_0_looseLines b_0_looseXs b_0_looseYs b_0_looseReaches b_0_far cZ cI v_0_code v_0_lines v_0_isFresh v_0_hasRun v_0_runs v_0_nx v_0_ny v_0_spaces v_0_oldNx v_0_oldNy v_0_oldSpaces v_0_points v_0_pieces 0 0 v_0_looseCount f_0_isFlat f_0_pieceLines f_0_pieceBegins f_0_pieceEnds f_0_pieceLeft f_0_pieceRight f_0_outs f3 f_0_ringSpaces f_0_ringStarts f_0_ringSizes f_0_ringLeast) → va_S A s.heap H locs → lv_has ls 6 [(0, .ref a_0)] → W p l e rm_Mo_findRings s m args below meth c H locs 0 0 Q (F0 m 35 ls [])) → ∀ (H : Heap) (locs : List Loc) (ls : Array Slot), va_P (dC, dI) vwCl (wl_Mo_findRings a_0 a_0_isFlat a_0_pieceLines a_0_pieceBegins a_0_pieceEnds a_0_pieceLeft a_0_pieceRight a_0_outs a_0_isSeen a_0_ringSpaces a_0_ringStarts a_0_ringSizes a_0_ringLeast b_0_across b_0_lows b_0_highs b_0_thick b_0_doorCounts b_0_doorFrom b_0_doorTo b_0_xs b_0_ys b_0_labels b_0_oldXs b_0_oldYs b_0_oldLabels b_0_names b_0_oldNames b_0_wanted b_0_common b_0_flatEdges b_0_upEdges b_0_isPoint b_0_stack b_0_looseLines b_0_looseXs b_0_looseYs b_0_looseReaches b_0_far cZ cI v_0_code v_0_lines v_0_isFresh v_0_hasRun v_0_runs v_0_nx v_0_ny v_0_spaces v_0_oldNx v_0_oldNy v_0_oldSpaces v_0_points v_0_pieces 0 0 v_0_looseCount f_0_isFlat f_0_pieceLines f_0_pieceBegins f_0_pieceEnds f_0_pieceLeft f_0_pieceRight f_0_outs f2 f_0_ringSpaces f_0_ringStarts f_0_ringSizes f_0_ringLeast) H → va_D A (wl_Mo_findRings a_0 a_0_isFlat a_0_pieceLines a_0_pieceBegins a_0_pieceEnds a_0_pieceLeft a_0_pieceRight a_0_outs a_0_isSeen a_0_ringSpaces a_0_ringStarts a_0_ringSizes a_0_ringLeast b_0_across b_0_lows b_0_highs b_0_thick b_0_doorCounts b_0_doorFrom b_0_doorTo b_0_xs b_0_ys b_0_labels b_0_oldXs b_0_oldYs b_0_oldLabels b_0_names b_0_oldNames b_0_wanted b_0_common b_0_flatEdges b_0_upEdges b_0_isPoint b_0_stack b_0_looseLines b_0_looseXs b_0_looseYs b_0_looseReaches b_0_far cZ cI v_0_code v_0_lines v_0_isFresh v_0_hasRun v_0_runs v_0_nx v_0_ny v_0_spaces v_0_oldNx v_0_oldNy v_0_oldSpaces v_0_points v_0_pieces 0 0 v_0_looseCount f_0_isFlat f_0_pieceLines f_0_pieceBegins f_0_pieceEnds f_0_pieceLeft f_0_pieceRight f_0_outs f2 f_0_ringSpaces f_0_ringStarts f_0_ringSizes f_0_ringLeast) → va_S A s.heap H locs → lv_has ls 6 [(0, .ref a_0), (1, .int x1)] → W p l e rm_Mo_findRings s m args below meth c H locs 0 0 Q (F0 m 12 ls []) := by
    intro n
    induction n with
    | zero => intro x1 f2 f3 hm; simp [m_Mo_findRings_L12] at hm
    | succ n ih =>
      intro x1 f2 f3 hm KE H locs ls hP hD hS hl
      rw [m_Mo_findRings_L12] at hm
      refine lv_iload_n hx hb d_Mo_findRings_12 rfl (lv_at hl 1 rfl) ?_
      refine lv_iconst (v := 2) hx hb d_Mo_findRings_13 (by decide) ?_
      refine lv_aload_n hx hb d_Mo_findRings_14 rfl (lv_at hl 0 rfl) ?_
      refine va_get (D := (dC, dI)) (ci := 11) (v := .int v_0_pieces) (C := "SpaceCyclesModel") (T := F_Mo) (N := 54) hx hb hts (in_F i_Mo) hown hK hP 0 rfl rfl 39 (by decide) (hts _ (in_c k_329)) (fun _ h9 => h9) rfl d_Mo_findRings_15 ?_
      refine lv_imul hx hb d_Mo_findRings_18 ?_
      refine lv_icmp_ge (tgt := 35) hx hb d_Mo_findRings_19 (by decide) (fun c5 => ?_) (fun c5 => ?_)
      · replace hm := if_t hm c5
        cases hm
        exact KE H locs ls hP hD hS (lv_sub hl [0] rfl)
      · replace hm := if_f hm c5
        refine lv_aload_n hx hb d_Mo_findRings_22 rfl (lv_at hl 0 rfl) ?_
        refine va_get (D := (dC, dI)) (ci := 11) (v := .ref a_0_isSeen) (C := "SpaceCyclesModel") (T := F_Mo) (N := 54) hx hb hts (in_F i_Mo) hown hK hP 0 rfl rfl 41 (by decide) (hts _ (in_c k_350)) (fun _ h9 => h9) rfl d_Mo_findRings_23 ?_
        refine lv_iload_n hx hb d_Mo_findRings_26 rfl (lv_at hl 1 rfl) ?_
        refine lv_iconst (v := 0) hx hb d_Mo_findRings_27 (by decide) ?_
        obtain ⟨hi6, hm⟩ := gI_e hm
        obtain ⟨f7, ef7⟩ : ∃ y : Nat → Int32, y = upd f2 x1.toNatClampNeg (vp_nar .boolean 0) := ⟨_, rfl⟩
        replace hm := lt_el hm ef7
        refine va_zast hx hb hK hP hD hS 8 1 rfl rfl hi6 d_Mo_findRings_28 (fun H locs hP hD hS => ?_)
        rw [← ef7] at hP hD
        have hP : va_P (dC, dI) vwCl (wl_Mo_findRings a_0 a_0_isFlat a_0_pieceLines a_0_pieceBegins a_0_pieceEnds a_0_pieceLeft a_0_pieceRight a_0_outs a_0_isSeen a_0_ringSpaces a_0_ringStarts a_0_ringSizes a_0_ringLeast b_0_across b_0_lows b_0_highs b_0_thick b_0_doorCounts b_0_doorFrom b_0_doorTo b_0_xs b_0_ys b_0_labels b_0_oldXs b_0_oldYs b_0_oldLabels b_0_names b_0_oldNames b_0_wanted b_0_common b_0_flatEdges b_0_upEdges b_0_isPoint b_0_stack b_0_looseLines b_0_looseXs b_0_looseYs b_0_looseReaches b_0_far cZ cI v_0_code v_0_lines v_0_isFresh v_0_hasRun v_0_runs v_0_nx v_0_ny v_0_spaces v_0_oldNx v_0_oldNy v_0_oldSpaces v_0_points v_0_pieces 0 0 v_0_looseCount f_0_isFlat f_0_pieceLines f_0_pieceBegins f_0_pieceEnds f_0_pieceLeft f_0_pieceRight f_0_outs f7 f_0_ringSpaces f_0_ringStarts f_0_ringSizes f_0_ringLeast) H := hP
        have hD : va_D A (wl_Mo_findRings a_0 a_0_isFlat a_0_pieceLines a_0_pieceBegins a_0_pieceEnds a_0_pieceLeft a_0_pieceRight a_0_outs a_0_isSeen a_0_ringSpaces a_0_ringStarts a_0_ringSizes a_0_ringLeast b_0_across b_0_lows b_0_highs b_0_thick b_0_doorCounts b_0_doorFrom b_0_doorTo b_0_xs b_0_ys b_0_labels b_0_oldXs b_0_oldYs b_0_oldLabels b_0_names b_0_oldNames b_0_wanted b_0_common b_0_flatEdges b_0_upEdges b_0_isPoint b_0_stack b_0_looseLines b_0_looseXs b_0_looseYs b_0_looseReaches b_0_far cZ cI v_0_code v_0_lines v_0_isFresh v_0_hasRun v_0_runs v_0_nx v_0_ny v_0_spaces v_0_oldNx v_0_oldNy v_0_oldSpaces v_0_points v_0_pieces 0 0 v_0_looseCount f_0_isFlat f_0_pieceLines f_0_pieceBegins f_0_pieceEnds f_0_pieceLeft f_0_pieceRight f_0_outs f7 f_0_ringSpaces f_0_ringStarts f_0_ringSizes f_0_ringLeast) := hD
        obtain ⟨x8, ex8⟩ : ∃ y : Int32, y = x1 + 1 := ⟨_, rfl⟩
        replace hm := lt_el hm ex8
        refine lv_iinc (v := x8) (lv' := [(1, .int x8), (0, .ref a_0)]) hx hb d_Mo_findRings_29 hl (k := 1) rfl (by rw [ex8]; rfl) (by decide) rfl (fun ls hl => ?_)
        refine lv_goto (tgt := 12) hx hb d_Mo_findRings_32 (by decide) ?_
        exact ih _ _ _ hm KE H locs ls hP hD hS (lv_sub hl [1, 0] rfl)
  obtain ⟨f3, hb9, hm⟩ := bd1_e hm
  refine L12_4 fu _ _ _ hb9 (fun H locs ls hP hD hS hl => ?_) H locs ls hP hD hS (lv_sub hl [1, 0] rfl)
  refine lv_iconst (v := 0) hx hb d_Mo_findRings_35 (by decide) ?_
  refine lv_istore_n (lv' := [(1, .int 0), (0, .ref a_0)]) hx hb d_Mo_findRings_36 rfl hl (by decide) rfl (fun ls hl => ?_)
  have L37_25 : ∀ (n : Nat) (x10 : Int32) (x11 : Int32) (x12 : Int32) (f13 : Nat → Int32) (f14 : Nat → Int32) (f15 : Nat → Int32) (f16 : Nat → Int32) (f17 : Nat → Int32) (x18 : Int32) (x19 : Int32) (f20 : Nat → Int32) (f21 : Nat → Int32) (f22 : Nat → Int32) (f23 : Nat → Int32) (f24 : Nat → Int32), m_Mo_findRings_L37 v_0_pieces f_0_isFlat f_0_pieceLines f_0_pieceBegins f_0_pieceEnds f_0_pieceLeft f_0_pieceRight f_0_outs n x10 x11 x12 f13 f14 f15 f16 f17 = some (x18, x19, f20, f21, f22, f23, f24) → (∀ (H : Heap) (locs : List Loc) (ls : Array Slot), va_P (dC, dI) vwCl (wl_Mo_findRings a_0 a_0_isFlat a_0_pieceLines a_0_pieceBegins a_0_pieceEnds a_0_pieceLeft a_0_pieceRight a_0_outs a_0_isSeen a_0_ringSpaces a_0_ringStarts a_0_ringSizes a_0_ringLeast b_0_across b_0_lows b_0_highs b_0_thick b_0_doorCounts b_0_doorFrom b_0_doorTo b_0_xs b_0_ys b_0_labels b_0_oldXs b_0_oldYs b_0_oldLabels b_0_names b_0_oldNames b_0_wanted b_0_common b_0_flatEdges b_0_upEdges b_0_isPoint b_0_stack b_0_looseLines b_0_looseXs b_0_looseYs b_0_looseReaches b_0_far cZ cI v_0_code v_0_lines v_0_isFresh v_0_hasRun v_0_runs v_0_nx v_0_ny v_0_spaces v_0_oldNx v_0_oldNy v_0_oldSpaces v_0_points v_0_pieces x18 x19 v_0_looseCount f_0_isFlat f_0_pieceLines f_0_pieceBegins f_0_pieceEnds f_0_pieceLeft f_0_pieceRight f_0_outs f20 f21 f22 f23 f24) H → va_D A (wl_Mo_findRings a_0 a_0_isFlat a_0_pieceLines a_0_pieceBegins a_0_pieceEnds a_0_pieceLeft a_0_pieceRight a_0_outs a_0_isSeen a_0_ringSpaces a_0_ringStarts a_0_ringSizes a_0_ringLeast b_0_across b_0_lows b_0_highs b_0_thick b_0_doorCounts b_0_doorFrom b_0_doorTo b_0_xs b_0_ys b_0_labels b_0_oldXs b_0_oldYs b_0_oldLabels b_0_names b_0_oldNames b_0_wanted b_0_common b_0_flatEdges b_0_upEdges b_0_isPoint b_0_stack b_0_looseLines b_0_looseXs b_0_looseYs b_0_looseReaches b_0_far cZ cI v_0_code v_0_lines v_0_isFresh v_0_hasRun v_0_runs v_0_nx v_0_ny v_0_spaces v_0_oldNx v_0_oldNy v_0_oldSpaces v_0_points v_0_pieces x18 x19 v_0_looseCount f_0_isFlat f_0_pieceLines f_0_pieceBegins f_0_pieceEnds f_0_pieceLeft f_0_pieceRight f_0_outs f20 f21 f22 f23 f24) → va_S A s.heap H locs → lv_has ls 6 [] → W p l e rm_Mo_findRings s m args below meth c H locs 0 0 Q (F0 m 194 ls [])) → ∀ (H : Heap) (locs : List Loc) (ls : Array Slot), va_P (dC, dI) vwCl (wl_Mo_findRings a_0 a_0_isFlat a_0_pieceLines a_0_pieceBegins a_0_pieceEnds a_0_pieceLeft a_0_pieceRight a_0_outs a_0_isSeen a_0_ringSpaces a_0_ringStarts a_0_ringSizes a_0_ringLeast b_0_across b_0_lows b_0_highs b_0_thick b_0_doorCounts b_0_doorFrom b_0_doorTo b_0_xs b_0_ys b_0_labels b_0_oldXs b_0_oldYs b_0_oldLabels b_0_names b_0_oldNames b_0_wanted b_0_common b_0_flatEdges b_0_upEdges b_0_isPoint b_0_stack b_0_looseLines b_0_looseXs b_0_looseYs b_0_looseReaches b_0_far cZ cI v_0_code v_0_lines v_0_isFresh v_0_hasRun v_0_runs v_0_nx v_0_ny v_0_spaces v_0_oldNx v_0_oldNy v_0_oldSpaces v_0_points v_0_pieces x11 x12 v_0_looseCount f_0_isFlat f_0_pieceLines f_0_pieceBegins f_0_pieceEnds f_0_pieceLeft f_0_pieceRight f_0_outs f13 f14 f15 f16 f17) H → va_D A (wl_Mo_findRings a_0 a_0_isFlat a_0_pieceLines a_0_pieceBegins a_0_pieceEnds a_0_pieceLeft a_0_pieceRight a_0_outs a_0_isSeen a_0_ringSpaces a_0_ringStarts a_0_ringSizes a_0_ringLeast b_0_across b_0_lows b_0_highs b_0_thick b_0_doorCounts b_0_doorFrom b_0_doorTo b_0_xs b_0_ys b_0_labels b_0_oldXs b_0_oldYs b_0_oldLabels b_0_names b_0_oldNames b_0_wanted b_0_common b_0_flatEdges b_0_upEdges b_0_isPoint b_0_stack b_0_looseLines b_0_looseXs b_0_looseYs b_0_looseReaches b_0_far cZ cI v_0_code v_0_lines v_0_isFresh v_0_hasRun v_0_runs v_0_nx v_0_ny v_0_spaces v_0_oldNx v_0_oldNy v_0_oldSpaces v_0_points v_0_pieces x11 x12 v_0_looseCount f_0_isFlat f_0_pieceLines f_0_pieceBegins f_0_pieceEnds f_0_pieceLeft f_0_pieceRight f_0_outs f13 f14 f15 f16 f17) → va_S A s.heap H locs → lv_has ls 6 [(0, .ref a_0), (1, .int x10)] → W p l e rm_Mo_findRings s m args below meth c H locs 0 0 Q (F0 m 37 ls []) := by
    intro n
    induction n with
    | zero => intro x10 x11 x12 f13 f14 f15 f16 f17 x18 x19 f20 f21 f22 f23 f24 hm; simp [m_Mo_findRings_L37] at hm
    | succ n ih =>
      intro x10 x11 x12 f13 f14 f15 f16 f17 x18 x19 f20 f21 f22 f23 f24 hm KE H locs ls hP hD hS hl
      rw [m_Mo_findRings_L37] at hm
      refine lv_iload_n hx hb d_Mo_findRings_37 rfl (lv_at hl 1 rfl) ?_
      refine lv_iconst (v := 2) hx hb d_Mo_findRings_38 (by decide) ?_
      refine lv_aload_n hx hb d_Mo_findRings_39 rfl (lv_at hl 0 rfl) ?_
      refine va_get (D := (dC, dI)) (ci := 11) (v := .int v_0_pieces) (C := "SpaceCyclesModel") (T := F_Mo) (N := 54) hx hb hts (in_F i_Mo) hown hK hP 0 rfl rfl 39 (by decide) (hts _ (in_c k_329)) (fun _ h9 => h9) rfl d_Mo_findRings_40 ?_
      refine lv_imul hx hb d_Mo_findRings_43 ?_
      refine lv_icmp_ge (tgt := 194) hx hb d_Mo_findRings_44 (by decide) (fun c26 => ?_) (fun c26 => ?_)
      · replace hm := if_t hm c26
        cases hm
        exact KE H locs ls hP hD hS (lv_sub hl [] rfl)
      · replace hm := if_f hm c26
        refine lv_aload_n hx hb d_Mo_findRings_47 rfl (lv_at hl 0 rfl) ?_
        refine va_get (D := (dC, dI)) (ci := 11) (v := .ref a_0_isSeen) (C := "SpaceCyclesModel") (T := F_Mo) (N := 54) hx hb hts (in_F i_Mo) hown hK hP 0 rfl rfl 41 (by decide) (hts _ (in_c k_350)) (fun _ h9 => h9) rfl d_Mo_findRings_48 ?_
        refine lv_iload_n hx hb d_Mo_findRings_51 rfl (lv_at hl 1 rfl) ?_
        obtain ⟨hi27, hm⟩ := gI_e hm
        refine va_zald hx hb hK hP 8 1 rfl rfl hi27 d_Mo_findRings_52 ?_
        obtain ⟨x31, x32, f33, f34, f35, f36, f37, hb29, hm⟩ := bd7_e hm
        have K28 : ∀ (H : Heap) (locs : List Loc) (ls : Array Slot), va_P (dC, dI) vwCl (wl_Mo_findRings a_0 a_0_isFlat a_0_pieceLines a_0_pieceBegins a_0_pieceEnds a_0_pieceLeft a_0_pieceRight a_0_outs a_0_isSeen a_0_ringSpaces a_0_ringStarts a_0_ringSizes a_0_ringLeast b_0_across b_0_lows b_0_highs b_0_thick b_0_doorCounts b_0_doorFrom b_0_doorTo b_0_xs b_0_ys b_0_labels b_0_oldXs b_0_oldYs b_0_oldLabels b_0_names b_0_oldNames b_0_wanted b_0_common b_0_flatEdges b_0_upEdges b_0_isPoint b_0_stack b_0_looseLines b_0_looseXs b_0_looseYs b_0_looseReaches b_0_far cZ cI v_0_code v_0_lines v_0_isFresh v_0_hasRun v_0_runs v_0_nx v_0_ny v_0_spaces v_0_oldNx v_0_oldNy v_0_oldSpaces v_0_points v_0_pieces x31 x32 v_0_looseCount f_0_isFlat f_0_pieceLines f_0_pieceBegins f_0_pieceEnds f_0_pieceLeft f_0_pieceRight f_0_outs f33 f34 f35 f36 f37) H → va_D A (wl_Mo_findRings a_0 a_0_isFlat a_0_pieceLines a_0_pieceBegins a_0_pieceEnds a_0_pieceLeft a_0_pieceRight a_0_outs a_0_isSeen a_0_ringSpaces a_0_ringStarts a_0_ringSizes a_0_ringLeast b_0_across b_0_lows b_0_highs b_0_thick b_0_doorCounts b_0_doorFrom b_0_doorTo b_0_xs b_0_ys b_0_labels b_0_oldXs b_0_oldYs b_0_oldLabels b_0_names b_0_oldNames b_0_wanted b_0_common b_0_flatEdges b_0_upEdges b_0_isPoint b_0_stack b_0_looseLines b_0_looseXs b_0_looseYs b_0_looseReaches b_0_far cZ cI v_0_code v_0_lines v_0_isFresh v_0_hasRun v_0_runs v_0_nx v_0_ny v_0_spaces v_0_oldNx v_0_oldNy v_0_oldSpaces v_0_points v_0_pieces x31 x32 v_0_looseCount f_0_isFlat f_0_pieceLines f_0_pieceBegins f_0_pieceEnds f_0_pieceLeft f_0_pieceRight f_0_outs f33 f34 f35 f36 f37) → va_S A s.heap H locs → lv_has ls 6 [(0, .ref a_0), (1, .int x10)] → W p l e rm_Mo_findRings s m args below meth c H locs 0 0 Q (F0 m 188 ls []) := by
          intro H locs ls hP hD hS hl
          obtain ⟨x96, ex96⟩ : ∃ y : Int32, y = x10 + 1 := ⟨_, rfl⟩
          replace hm := lt_el hm ex96
          refine lv_iinc (v := x96) (lv' := [(1, .int x96), (0, .ref a_0)]) hx hb d_Mo_findRings_188 hl (k := 1) rfl (by rw [ex96]; rfl) (by decide) rfl (fun ls hl => ?_)
          refine lv_goto (tgt := 37) hx hb d_Mo_findRings_191 (by decide) ?_
          exact ih _ _ _ _ _ _ _ _ _ _ _ _ _ _ _ hm KE H locs ls hP hD hS (lv_sub hl [1, 0] rfl)
        replace hm := hb29
        refine lv_if_ne (tgt := 188) hx hb d_Mo_findRings_53 (by decide) (fun c38 => ?_) (fun c38 => ?_)
        · replace hm := if_f hm c38
          cases hm
          exact K28 H locs ls hP hD hS (lv_sub hl [0, 1] rfl)
        · replace hm := if_t hm c38
          refine lv_iload_n hx hb d_Mo_findRings_56 rfl (lv_at hl 1 rfl) ?_
          refine lv_istore_n (lv' := [(2, .int x10), (0, .ref a_0), (1, .int x10)]) hx hb d_Mo_findRings_57 rfl hl (by decide) rfl (fun ls hl => ?_)
          refine lv_iconst (v := 0) hx hb d_Mo_findRings_58 (by decide) ?_
          refine lv_istore_n (lv' := [(3, .int 0), (2, .int x10), (0, .ref a_0), (1, .int x10)]) hx hb d_Mo_findRings_59 rfl hl (by decide) rfl (fun ls hl => ?_)
          refine lv_iload_n hx hb d_Mo_findRings_60 rfl (lv_at hl 3 rfl) ?_
          refine lv_istore (lv' := [(4, .int x10), (3, .int 0), (2, .int x10), (0, .ref a_0), (1, .int x10)]) hx hb d_Mo_findRings_61 hl (by decide) rfl (fun ls hl => ?_)
          have L63_46 : ∀ (n : Nat) (x39 : Int32) (x40 : Int32) (x41 : Int32) (f42 : Nat → Int32) (x43 : Int32) (x44 : Int32) (f45 : Nat → Int32), m_Mo_findRings_L63 x10 f_0_isFlat f_0_pieceLines f_0_pieceBegins f_0_pieceEnds f_0_outs n x39 x40 x41 f42 = some (x43, x44, f45) → (∀ (H : Heap) (locs : List Loc) (ls : Array Slot), va_P (dC, dI) vwCl (wl_Mo_findRings a_0 a_0_isFlat a_0_pieceLines a_0_pieceBegins a_0_pieceEnds a_0_pieceLeft a_0_pieceRight a_0_outs a_0_isSeen a_0_ringSpaces a_0_ringStarts a_0_ringSizes a_0_ringLeast b_0_across b_0_lows b_0_highs b_0_thick b_0_doorCounts b_0_doorFrom b_0_doorTo b_0_xs b_0_ys b_0_labels b_0_oldXs b_0_oldYs b_0_oldLabels b_0_names b_0_oldNames b_0_wanted b_0_common b_0_flatEdges b_0_upEdges b_0_isPoint b_0_stack b_0_looseLines b_0_looseXs b_0_looseYs b_0_looseReaches b_0_far cZ cI v_0_code v_0_lines v_0_isFresh v_0_hasRun v_0_runs v_0_nx v_0_ny v_0_spaces v_0_oldNx v_0_oldNy v_0_oldSpaces v_0_points v_0_pieces x11 x12 v_0_looseCount f_0_isFlat f_0_pieceLines f_0_pieceBegins f_0_pieceEnds f_0_pieceLeft f_0_pieceRight f_0_outs f45 f14 f15 f16 f17) H → va_D A (wl_Mo_findRings a_0 a_0_isFlat a_0_pieceLines a_0_pieceBegins a_0_pieceEnds a_0_pieceLeft a_0_pieceRight a_0_outs a_0_isSeen a_0_ringSpaces a_0_ringStarts a_0_ringSizes a_0_ringLeast b_0_across b_0_lows b_0_highs b_0_thick b_0_doorCounts b_0_doorFrom b_0_doorTo b_0_xs b_0_ys b_0_labels b_0_oldXs b_0_oldYs b_0_oldLabels b_0_names b_0_oldNames b_0_wanted b_0_common b_0_flatEdges b_0_upEdges b_0_isPoint b_0_stack b_0_looseLines b_0_looseXs b_0_looseYs b_0_looseReaches b_0_far cZ cI v_0_code v_0_lines v_0_isFresh v_0_hasRun v_0_runs v_0_nx v_0_ny v_0_spaces v_0_oldNx v_0_oldNy v_0_oldSpaces v_0_points v_0_pieces x11 x12 v_0_looseCount f_0_isFlat f_0_pieceLines f_0_pieceBegins f_0_pieceEnds f_0_pieceLeft f_0_pieceRight f_0_outs f45 f14 f15 f16 f17) → va_S A s.heap H locs → lv_has ls 6 [(0, .ref a_0), (1, .int x10), (2, .int x43), (3, .int x44)] → W p l e rm_Mo_findRings s m args below meth c H locs 0 0 Q (F0 m 149 ls [])) → ∀ (H : Heap) (locs : List Loc) (ls : Array Slot), va_P (dC, dI) vwCl (wl_Mo_findRings a_0 a_0_isFlat a_0_pieceLines a_0_pieceBegins a_0_pieceEnds a_0_pieceLeft a_0_pieceRight a_0_outs a_0_isSeen a_0_ringSpaces a_0_ringStarts a_0_ringSizes a_0_ringLeast b_0_across b_0_lows b_0_highs b_0_thick b_0_doorCounts b_0_doorFrom b_0_doorTo b_0_xs b_0_ys b_0_labels b_0_oldXs b_0_oldYs b_0_oldLabels b_0_names b_0_oldNames b_0_wanted b_0_common b_0_flatEdges b_0_upEdges b_0_isPoint b_0_stack b_0_looseLines b_0_looseXs b_0_looseYs b_0_looseReaches b_0_far cZ cI v_0_code v_0_lines v_0_isFresh v_0_hasRun v_0_runs v_0_nx v_0_ny v_0_spaces v_0_oldNx v_0_oldNy v_0_oldSpaces v_0_points v_0_pieces x11 x12 v_0_looseCount f_0_isFlat f_0_pieceLines f_0_pieceBegins f_0_pieceEnds f_0_pieceLeft f_0_pieceRight f_0_outs f42 f14 f15 f16 f17) H → va_D A (wl_Mo_findRings a_0 a_0_isFlat a_0_pieceLines a_0_pieceBegins a_0_pieceEnds a_0_pieceLeft a_0_pieceRight a_0_outs a_0_isSeen a_0_ringSpaces a_0_ringStarts a_0_ringSizes a_0_ringLeast b_0_across b_0_lows b_0_highs b_0_thick b_0_doorCounts b_0_doorFrom b_0_doorTo b_0_xs b_0_ys b_0_labels b_0_oldXs b_0_oldYs b_0_oldLabels b_0_names b_0_oldNames b_0_wanted b_0_common b_0_flatEdges b_0_upEdges b_0_isPoint b_0_stack b_0_looseLines b_0_looseXs b_0_looseYs b_0_looseReaches b_0_far cZ cI v_0_code v_0_lines v_0_isFresh v_0_hasRun v_0_runs v_0_nx v_0_ny v_0_spaces v_0_oldNx v_0_oldNy v_0_oldSpaces v_0_points v_0_pieces x11 x12 v_0_looseCount f_0_isFlat f_0_pieceLines f_0_pieceBegins f_0_pieceEnds f_0_pieceLeft f_0_pieceRight f_0_outs f42 f14 f15 f16 f17) → va_S A s.heap H locs → lv_has ls 6 [(0, .ref a_0), (1, .int x10), (2, .int x39), (3, .int x40), (4, .int x41)] → W p l e rm_Mo_findRings s m args below meth c H locs 0 0 Q (F0 m 63 ls []) := by
            intro n
            induction n with
            | zero => intro x39 x40 x41 f42 x43 x44 f45 hm; simp [m_Mo_findRings_L63] at hm
            | succ n ih =>
              intro x39 x40 x41 f42 x43 x44 f45 hm KE H locs ls hP hD hS hl
              rw [m_Mo_findRings_L63] at hm
              refine lv_aload_n hx hb d_Mo_findRings_63 rfl (lv_at hl 0 rfl) ?_
              refine va_get (D := (dC, dI)) (ci := 11) (v := .ref a_0_isSeen) (C := "SpaceCyclesModel") (T := F_Mo) (N := 54) hx hb hts (in_F i_Mo) hown hK hP 0 rfl rfl 41 (by decide) (hts _ (in_c k_350)) (fun _ h9 => h9) rfl d_Mo_findRings_64 ?_
              refine lv_iload hx hb d_Mo_findRings_67 (lv_at hl 4 rfl) ?_
              refine lv_iconst (v := 1) hx hb d_Mo_findRings_69 (by decide) ?_
              obtain ⟨hi47, hm⟩ := gI_e hm
              obtain ⟨f48, ef48⟩ : ∃ y : Nat → Int32, y = upd f42 x41.toNatClampNeg (vp_nar .boolean 1) := ⟨_, rfl⟩
              replace hm := lt_el hm ef48
              refine va_zast hx hb hK hP hD hS 8 1 rfl rfl hi47 d_Mo_findRings_70 (fun H locs hP hD hS => ?_)
              rw [← ef48] at hP hD
              have hP : va_P (dC, dI) vwCl (wl_Mo_findRings a_0 a_0_isFlat a_0_pieceLines a_0_pieceBegins a_0_pieceEnds a_0_pieceLeft a_0_pieceRight a_0_outs a_0_isSeen a_0_ringSpaces a_0_ringStarts a_0_ringSizes a_0_ringLeast b_0_across b_0_lows b_0_highs b_0_thick b_0_doorCounts b_0_doorFrom b_0_doorTo b_0_xs b_0_ys b_0_labels b_0_oldXs b_0_oldYs b_0_oldLabels b_0_names b_0_oldNames b_0_wanted b_0_common b_0_flatEdges b_0_upEdges b_0_isPoint b_0_stack b_0_looseLines b_0_looseXs b_0_looseYs b_0_looseReaches b_0_far cZ cI v_0_code v_0_lines v_0_isFresh v_0_hasRun v_0_runs v_0_nx v_0_ny v_0_spaces v_0_oldNx v_0_oldNy v_0_oldSpaces v_0_points v_0_pieces x11 x12 v_0_looseCount f_0_isFlat f_0_pieceLines f_0_pieceBegins f_0_pieceEnds f_0_pieceLeft f_0_pieceRight f_0_outs f48 f14 f15 f16 f17) H := hP
              have hD : va_D A (wl_Mo_findRings a_0 a_0_isFlat a_0_pieceLines a_0_pieceBegins a_0_pieceEnds a_0_pieceLeft a_0_pieceRight a_0_outs a_0_isSeen a_0_ringSpaces a_0_ringStarts a_0_ringSizes a_0_ringLeast b_0_across b_0_lows b_0_highs b_0_thick b_0_doorCounts b_0_doorFrom b_0_doorTo b_0_xs b_0_ys b_0_labels b_0_oldXs b_0_oldYs b_0_oldLabels b_0_names b_0_oldNames b_0_wanted b_0_common b_0_flatEdges b_0_upEdges b_0_isPoint b_0_stack b_0_looseLines b_0_looseXs b_0_looseYs b_0_looseReaches b_0_far cZ cI v_0_code v_0_lines v_0_isFresh v_0_hasRun v_0_runs v_0_nx v_0_ny v_0_spaces v_0_oldNx v_0_oldNy v_0_oldSpaces v_0_points v_0_pieces x11 x12 v_0_looseCount f_0_isFlat f_0_pieceLines f_0_pieceBegins f_0_pieceEnds f_0_pieceLeft f_0_pieceRight f_0_outs f48 f14 f15 f16 f17) := hD
              obtain ⟨x49, ex49⟩ : ∃ y : Int32, y = x40 + 1 := ⟨_, rfl⟩
              replace hm := lt_el hm ex49
              refine lv_iinc (v := x49) (lv' := [(3, .int x49), (0, .ref a_0), (1, .int x10), (2, .int x39), (4, .int x41)]) hx hb d_Mo_findRings_71 hl (k := 3) rfl (by rw [ex49]; rfl) (by decide) rfl (fun ls hl => ?_)
              refine lv_aload_n hx hb d_Mo_findRings_74 rfl (lv_at hl 1 rfl) ?_
              refine lv_iload hx hb d_Mo_findRings_75 (lv_at hl 4 rfl) ?_
              obtain ⟨r50, hb51, hm⟩ := bd1_e hm
              have hPc := hP.sub (ws' := (wl_Mo_beginOf a_0 a_0_pieceBegins a_0_pieceEnds a_0_isFlat b_0_across b_0_lows b_0_highs b_0_thick b_0_doorCounts b_0_doorFrom b_0_doorTo b_0_xs b_0_ys b_0_labels b_0_oldXs b_0_oldYs b_0_oldLabels b_0_names b_0_oldNames b_0_wanted b_0_common b_0_flatEdges b_0_upEdges b_0_isPoint b_0_stack a_0_pieceLines a_0_pieceLeft a_0_pieceRight a_0_outs a_0_isSeen a_0_ringSpaces a_0_ringStarts a_0_ringSizes a_0_ringLeast b_0_looseLines b_0_looseXs b_0_looseYs b_0_looseReaches b_0_far cI v_0_code v_0_lines v_0_isFresh v_0_hasRun v_0_runs v_0_nx v_0_ny v_0_spaces v_0_oldNx v_0_oldNy v_0_oldSpaces v_0_points v_0_pieces x11 x12 v_0_looseCount f_0_pieceBegins f_0_pieceEnds)) [0, 3, 4] rfl
              have hDc := hD.sub (ws' := (wl_Mo_beginOf a_0 a_0_pieceBegins a_0_pieceEnds a_0_isFlat b_0_across b_0_lows b_0_highs b_0_thick b_0_doorCounts b_0_doorFrom b_0_doorTo b_0_xs b_0_ys b_0_labels b_0_oldXs b_0_oldYs b_0_oldLabels b_0_names b_0_oldNames b_0_wanted b_0_common b_0_flatEdges b_0_upEdges b_0_isPoint b_0_stack a_0_pieceLines a_0_pieceLeft a_0_pieceRight a_0_outs a_0_isSeen a_0_ringSpaces a_0_ringStarts a_0_ringSizes a_0_ringLeast b_0_looseLines b_0_looseXs b_0_looseYs b_0_looseReaches b_0_far cI v_0_code v_0_lines v_0_isFresh v_0_hasRun v_0_runs v_0_nx v_0_ny v_0_spaces v_0_oldNx v_0_oldNy v_0_oldSpaces v_0_points v_0_pieces x11 x12 v_0_looseCount f_0_pieceBegins f_0_pieceEnds)) [0, 3, 4] (by decide) rfl
              refine cl_i (wc' := (wl_Mo_beginOf a_0 a_0_pieceBegins a_0_pieceEnds a_0_isFlat b_0_across b_0_lows b_0_highs b_0_thick b_0_doorCounts b_0_doorFrom b_0_doorTo b_0_xs b_0_ys b_0_labels b_0_oldXs b_0_oldYs b_0_oldLabels b_0_names b_0_oldNames b_0_wanted b_0_common b_0_flatEdges b_0_upEdges b_0_isPoint b_0_stack a_0_pieceLines a_0_pieceLeft a_0_pieceRight a_0_outs a_0_isSeen a_0_ringSpaces a_0_ringStarts a_0_ringSizes a_0_ringLeast b_0_looseLines b_0_looseXs b_0_looseYs b_0_looseReaches b_0_far cI v_0_code v_0_lines v_0_isFresh v_0_hasRun v_0_runs v_0_nx v_0_ny v_0_spaces v_0_oldNx v_0_oldNy v_0_oldSpaces v_0_points v_0_pieces x11 x12 v_0_looseCount f_0_pieceBegins f_0_pieceEnds)) (va_runV (As := [.int x41]) (rest := []) ⟨hx, hb, hml, hown, hts⟩ (c_Mo_beginOf l dC dI (cI := cI) (cZ := cZ) (cJ := cJ) a_0 a_0_pieceBegins a_0_pieceEnds a_0_isFlat b_0_across b_0_lows b_0_highs b_0_thick b_0_doorCounts b_0_doorFrom b_0_doorTo b_0_xs b_0_ys b_0_labels b_0_oldXs b_0_oldYs b_0_oldLabels b_0_names b_0_oldNames b_0_wanted b_0_common b_0_flatEdges b_0_upEdges b_0_isPoint b_0_stack a_0_pieceLines a_0_pieceLeft a_0_pieceRight a_0_outs a_0_isSeen a_0_ringSpaces a_0_ringStarts a_0_ringSizes a_0_ringLeast b_0_looseLines b_0_looseXs b_0_looseYs b_0_looseReaches b_0_far H.size v_0_code v_0_lines v_0_isFresh v_0_hasRun v_0_runs v_0_nx v_0_ny v_0_spaces v_0_oldNx v_0_oldNy v_0_oldSpaces v_0_points v_0_pieces x11 x12 v_0_looseCount f_0_pieceBegins f_0_pieceEnds x41 r50 hb51) (cwV 1 hts (gl_V k_343 k_342 k_341 k_277 k_340) rfl rfl rfl (by decide +kernel) ⟨Nat.le_of_ble_eq_true rfl, Nat.le_of_ble_eq_true rfl⟩) ⟨PP_blind, va_recv hK hPc (ci := 11) (q0 := 0) rfl rfl, fun U hU hW => PP_at hK hN hPc hDc hU hW⟩ rfl rfl hl.1 rfl (lv_room (Nat.le_of_ble_eq_true rfl)) d_Mo_findRings_77 ⟨Nat.zero_le _, Nat.zero_le _⟩) hP hD hS hA [0, 3, 4] [1, 2, 5, 6, 7, 8, 9, 10, 11, 12] rfl rfl (by decide) (by decide) (fun H locs hP hD hS => ?_)
              have hP : va_P (dC, dI) vwCl (wl_Mo_findRings a_0 a_0_isFlat a_0_pieceLines a_0_pieceBegins a_0_pieceEnds a_0_pieceLeft a_0_pieceRight a_0_outs a_0_isSeen a_0_ringSpaces a_0_ringStarts a_0_ringSizes a_0_ringLeast b_0_across b_0_lows b_0_highs b_0_thick b_0_doorCounts b_0_doorFrom b_0_doorTo b_0_xs b_0_ys b_0_labels b_0_oldXs b_0_oldYs b_0_oldLabels b_0_names b_0_oldNames b_0_wanted b_0_common b_0_flatEdges b_0_upEdges b_0_isPoint b_0_stack b_0_looseLines b_0_looseXs b_0_looseYs b_0_looseReaches b_0_far cZ cI v_0_code v_0_lines v_0_isFresh v_0_hasRun v_0_runs v_0_nx v_0_ny v_0_spaces v_0_oldNx v_0_oldNy v_0_oldSpaces v_0_points v_0_pieces x11 x12 v_0_looseCount f_0_isFlat f_0_pieceLines f_0_pieceBegins f_0_pieceEnds f_0_pieceLeft f_0_pieceRight f_0_outs f48 f14 f15 f16 f17) H := hP.sub [10, 0, 1, 11, 12, 2, 3, 4, 5, 6, 7, 8, 9] rfl
              have hD : va_D A (wl_Mo_findRings a_0 a_0_isFlat a_0_pieceLines a_0_pieceBegins a_0_pieceEnds a_0_pieceLeft a_0_pieceRight a_0_outs a_0_isSeen a_0_ringSpaces a_0_ringStarts a_0_ringSizes a_0_ringLeast b_0_across b_0_lows b_0_highs b_0_thick b_0_doorCounts b_0_doorFrom b_0_doorTo b_0_xs b_0_ys b_0_labels b_0_oldXs b_0_oldYs b_0_oldLabels b_0_names b_0_oldNames b_0_wanted b_0_common b_0_flatEdges b_0_upEdges b_0_isPoint b_0_stack b_0_looseLines b_0_looseXs b_0_looseYs b_0_looseReaches b_0_far cZ cI v_0_code v_0_lines v_0_isFresh v_0_hasRun v_0_runs v_0_nx v_0_ny v_0_spaces v_0_oldNx v_0_oldNy v_0_oldSpaces v_0_points v_0_pieces x11 x12 v_0_looseCount f_0_isFlat f_0_pieceLines f_0_pieceBegins f_0_pieceEnds f_0_pieceLeft f_0_pieceRight f_0_outs f48 f14 f15 f16 f17) := hD.sub [10, 0, 1, 11, 12, 2, 3, 4, 5, 6, 7, 8, 9] (by decide) rfl
              refine lv_aload_n hx hb d_Mo_findRings_80 rfl (lv_at hl 1 rfl) ?_
              refine lv_iload_n hx hb d_Mo_findRings_81 rfl (lv_at hl 3 rfl) ?_
              obtain ⟨r52, hb53, hm⟩ := bd1_e hm
              have hPc := hP.sub (ws' := (wl_Mo_beginOf a_0 a_0_pieceBegins a_0_pieceEnds a_0_isFlat b_0_across b_0_lows b_0_highs b_0_thick b_0_doorCounts b_0_doorFrom b_0_doorTo b_0_xs b_0_ys b_0_labels b_0_oldXs b_0_oldYs b_0_oldLabels b_0_names b_0_oldNames b_0_wanted b_0_common b_0_flatEdges b_0_upEdges b_0_isPoint b_0_stack a_0_pieceLines a_0_pieceLeft a_0_pieceRight a_0_outs a_0_isSeen a_0_ringSpaces a_0_ringStarts a_0_ringSizes a_0_ringLeast b_0_looseLines b_0_looseXs b_0_looseYs b_0_looseReaches b_0_far cI v_0_code v_0_lines v_0_isFresh v_0_hasRun v_0_runs v_0_nx v_0_ny v_0_spaces v_0_oldNx v_0_oldNy v_0_oldSpaces v_0_points v_0_pieces x11 x12 v_0_looseCount f_0_pieceBegins f_0_pieceEnds)) [0, 3, 4] rfl
              have hDc := hD.sub (ws' := (wl_Mo_beginOf a_0 a_0_pieceBegins a_0_pieceEnds a_0_isFlat b_0_across b_0_lows b_0_highs b_0_thick b_0_doorCounts b_0_doorFrom b_0_doorTo b_0_xs b_0_ys b_0_labels b_0_oldXs b_0_oldYs b_0_oldLabels b_0_names b_0_oldNames b_0_wanted b_0_common b_0_flatEdges b_0_upEdges b_0_isPoint b_0_stack a_0_pieceLines a_0_pieceLeft a_0_pieceRight a_0_outs a_0_isSeen a_0_ringSpaces a_0_ringStarts a_0_ringSizes a_0_ringLeast b_0_looseLines b_0_looseXs b_0_looseYs b_0_looseReaches b_0_far cI v_0_code v_0_lines v_0_isFresh v_0_hasRun v_0_runs v_0_nx v_0_ny v_0_spaces v_0_oldNx v_0_oldNy v_0_oldSpaces v_0_points v_0_pieces x11 x12 v_0_looseCount f_0_pieceBegins f_0_pieceEnds)) [0, 3, 4] (by decide) rfl
              refine cl_i (wc' := (wl_Mo_beginOf a_0 a_0_pieceBegins a_0_pieceEnds a_0_isFlat b_0_across b_0_lows b_0_highs b_0_thick b_0_doorCounts b_0_doorFrom b_0_doorTo b_0_xs b_0_ys b_0_labels b_0_oldXs b_0_oldYs b_0_oldLabels b_0_names b_0_oldNames b_0_wanted b_0_common b_0_flatEdges b_0_upEdges b_0_isPoint b_0_stack a_0_pieceLines a_0_pieceLeft a_0_pieceRight a_0_outs a_0_isSeen a_0_ringSpaces a_0_ringStarts a_0_ringSizes a_0_ringLeast b_0_looseLines b_0_looseXs b_0_looseYs b_0_looseReaches b_0_far cI v_0_code v_0_lines v_0_isFresh v_0_hasRun v_0_runs v_0_nx v_0_ny v_0_spaces v_0_oldNx v_0_oldNy v_0_oldSpaces v_0_points v_0_pieces x11 x12 v_0_looseCount f_0_pieceBegins f_0_pieceEnds)) (va_runV (As := [.int x39]) (rest := [.int r50]) ⟨hx, hb, hml, hown, hts⟩ (c_Mo_beginOf l dC dI (cI := cI) (cZ := cZ) (cJ := cJ) a_0 a_0_pieceBegins a_0_pieceEnds a_0_isFlat b_0_across b_0_lows b_0_highs b_0_thick b_0_doorCounts b_0_doorFrom b_0_doorTo b_0_xs b_0_ys b_0_labels b_0_oldXs b_0_oldYs b_0_oldLabels b_0_names b_0_oldNames b_0_wanted b_0_common b_0_flatEdges b_0_upEdges b_0_isPoint b_0_stack a_0_pieceLines a_0_pieceLeft a_0_pieceRight a_0_outs a_0_isSeen a_0_ringSpaces a_0_ringStarts a_0_ringSizes a_0_ringLeast b_0_looseLines b_0_looseXs b_0_looseYs b_0_looseReaches b_0_far H.size v_0_code v_0_lines v_0_isFresh v_0_hasRun v_0_runs v_0_nx v_0_ny v_0_spaces v_0_oldNx v_0_oldNy v_0_oldSpaces v_0_points v_0_pieces x11 x12 v_0_looseCount f_0_pieceBegins f_0_pieceEnds x39 r52 hb53) (cwV 1 hts (gl_V k_343 k_342 k_341 k_277 k_340) rfl rfl rfl (by decide +kernel) ⟨Nat.le_of_ble_eq_true rfl, Nat.le_of_ble_eq_true rfl⟩) ⟨PP_blind, va_recv hK hPc (ci := 11) (q0 := 0) rfl rfl, fun U hU hW => PP_at hK hN hPc hDc hU hW⟩ rfl rfl hl.1 rfl (lv_room (Nat.le_of_ble_eq_true rfl)) d_Mo_findRings_82 ⟨Nat.zero_le _, Nat.zero_le _⟩) hP hD hS hA [0, 3, 4] [1, 2, 5, 6, 7, 8, 9, 10, 11, 12] rfl rfl (by decide) (by decide) (fun H locs hP hD hS => ?_)
              have hP : va_P (dC, dI) vwCl (wl_Mo_findRings a_0 a_0_isFlat a_0_pieceLines a_0_pieceBegins a_0_pieceEnds a_0_pieceLeft a_0_pieceRight a_0_outs a_0_isSeen a_0_ringSpaces a_0_ringStarts a_0_ringSizes a_0_ringLeast b_0_across b_0_lows b_0_highs b_0_thick b_0_doorCounts b_0_doorFrom b_0_doorTo b_0_xs b_0_ys b_0_labels b_0_oldXs b_0_oldYs b_0_oldLabels b_0_names b_0_oldNames b_0_wanted b_0_common b_0_flatEdges b_0_upEdges b_0_isPoint b_0_stack b_0_looseLines b_0_looseXs b_0_looseYs b_0_looseReaches b_0_far cZ cI v_0_code v_0_lines v_0_isFresh v_0_hasRun v_0_runs v_0_nx v_0_ny v_0_spaces v_0_oldNx v_0_oldNy v_0_oldSpaces v_0_points v_0_pieces x11 x12 v_0_looseCount f_0_isFlat f_0_pieceLines f_0_pieceBegins f_0_pieceEnds f_0_pieceLeft f_0_pieceRight f_0_outs f48 f14 f15 f16 f17) H := hP.sub [10, 0, 1, 11, 12, 2, 3, 4, 5, 6, 7, 8, 9] rfl
              have hD : va_D A (wl_Mo_findRings a_0 a_0_isFlat a_0_pieceLines a_0_pieceBegins a_0_pieceEnds a_0_pieceLeft a_0_pieceRight a_0_outs a_0_isSeen a_0_ringSpaces a_0_ringStarts a_0_ringSizes a_0_ringLeast b_0_across b_0_lows b_0_highs b_0_thick b_0_doorCounts b_0_doorFrom b_0_doorTo b_0_xs b_0_ys b_0_labels b_0_oldXs b_0_oldYs b_0_oldLabels b_0_names b_0_oldNames b_0_wanted b_0_common b_0_flatEdges b_0_upEdges b_0_isPoint b_0_stack b_0_looseLines b_0_looseXs b_0_looseYs b_0_looseReaches b_0_far cZ cI v_0_code v_0_lines v_0_isFresh v_0_hasRun v_0_runs v_0_nx v_0_ny v_0_spaces v_0_oldNx v_0_oldNy v_0_oldSpaces v_0_points v_0_pieces x11 x12 v_0_looseCount f_0_isFlat f_0_pieceLines f_0_pieceBegins f_0_pieceEnds f_0_pieceLeft f_0_pieceRight f_0_outs f48 f14 f15 f16 f17) := hD.sub [10, 0, 1, 11, 12, 2, 3, 4, 5, 6, 7, 8, 9] (by decide) rfl
              obtain ⟨x57, hb55, hm⟩ := bd1_e hm
              have K54 : ∀ (H : Heap) (locs : List Loc) (ls : Array Slot), va_P (dC, dI) vwCl (wl_Mo_findRings a_0 a_0_isFlat a_0_pieceLines a_0_pieceBegins a_0_pieceEnds a_0_pieceLeft a_0_pieceRight a_0_outs a_0_isSeen a_0_ringSpaces a_0_ringStarts a_0_ringSizes a_0_ringLeast b_0_across b_0_lows b_0_highs b_0_thick b_0_doorCounts b_0_doorFrom b_0_doorTo b_0_xs b_0_ys b_0_labels b_0_oldXs b_0_oldYs b_0_oldLabels b_0_names b_0_oldNames b_0_wanted b_0_common b_0_flatEdges b_0_upEdges b_0_isPoint b_0_stack b_0_looseLines b_0_looseXs b_0_looseYs b_0_looseReaches b_0_far cZ cI v_0_code v_0_lines v_0_isFresh v_0_hasRun v_0_runs v_0_nx v_0_ny v_0_spaces v_0_oldNx v_0_oldNy v_0_oldSpaces v_0_points v_0_pieces x11 x12 v_0_looseCount f_0_isFlat f_0_pieceLines f_0_pieceBegins f_0_pieceEnds f_0_pieceLeft f_0_pieceRight f_0_outs f48 f14 f15 f16 f17) H → va_D A (wl_Mo_findRings a_0 a_0_isFlat a_0_pieceLines a_0_pieceBegins a_0_pieceEnds a_0_pieceLeft a_0_pieceRight a_0_outs a_0_isSeen a_0_ringSpaces a_0_ringStarts a_0_ringSizes a_0_ringLeast b_0_across b_0_lows b_0_highs b_0_thick b_0_doorCounts b_0_doorFrom b_0_doorTo b_0_xs b_0_ys b_0_labels b_0_oldXs b_0_oldYs b_0_oldLabels b_0_names b_0_oldNames b_0_wanted b_0_common b_0_flatEdges b_0_upEdges b_0_isPoint b_0_stack b_0_looseLines b_0_looseXs b_0_looseYs b_0_looseReaches b_0_far cZ cI v_0_code v_0_lines v_0_isFresh v_0_hasRun v_0_runs v_0_nx v_0_ny v_0_spaces v_0_oldNx v_0_oldNy v_0_oldSpaces v_0_points v_0_pieces x11 x12 v_0_looseCount f_0_isFlat f_0_pieceLines f_0_pieceBegins f_0_pieceEnds f_0_pieceLeft f_0_pieceRight f_0_outs f48 f14 f15 f16 f17) → va_S A s.heap H locs → lv_has ls 6 [(0, .ref a_0), (1, .int x10), (2, .int x39), (3, .int x49), (4, .int x41)] → W p l e rm_Mo_findRings s m args below meth c H locs 0 0 Q (F0 m 121 ls [.int x57]) := by
                intro H locs ls hP hD hS hl
                refine lv_istore (lv' := [(5, .int x57), (0, .ref a_0), (1, .int x10), (2, .int x39), (3, .int x49), (4, .int x41)]) hx hb d_Mo_findRings_121 hl (by decide) rfl (fun ls hl => ?_)
                refine lv_iload hx hb d_Mo_findRings_123 (lv_at hl 0 rfl) ?_
                obtain ⟨x72, hb70, hm⟩ := bd1_e hm
                have K69 : ∀ (H : Heap) (locs : List Loc) (ls : Array Slot), va_P (dC, dI) vwCl (wl_Mo_findRings a_0 a_0_isFlat a_0_pieceLines a_0_pieceBegins a_0_pieceEnds a_0_pieceLeft a_0_pieceRight a_0_outs a_0_isSeen a_0_ringSpaces a_0_ringStarts a_0_ringSizes a_0_ringLeast b_0_across b_0_lows b_0_highs b_0_thick b_0_doorCounts b_0_doorFrom b_0_doorTo b_0_xs b_0_ys b_0_labels b_0_oldXs b_0_oldYs b_0_oldLabels b_0_names b_0_oldNames b_0_wanted b_0_common b_0_flatEdges b_0_upEdges b_0_isPoint b_0_stack b_0_looseLines b_0_looseXs b_0_looseYs b_0_looseReaches b_0_far cZ cI v_0_code v_0_lines v_0_isFresh v_0_hasRun v_0_runs v_0_nx v_0_ny v_0_spaces v_0_oldNx v_0_oldNy v_0_oldSpaces v_0_points v_0_pieces x11 x12 v_0_looseCount f_0_isFlat f_0_pieceLines f_0_pieceBegins f_0_pieceEnds f_0_pieceLeft f_0_pieceRight f_0_outs f48 f14 f15 f16 f17) H → va_D A (wl_Mo_findRings a_0 a_0_isFlat a_0_pieceLines a_0_pieceBegins a_0_pieceEnds a_0_pieceLeft a_0_pieceRight a_0_outs a_0_isSeen a_0_ringSpaces a_0_ringStarts a_0_ringSizes a_0_ringLeast b_0_across b_0_lows b_0_highs b_0_thick b_0_doorCounts b_0_doorFrom b_0_doorTo b_0_xs b_0_ys b_0_labels b_0_oldXs b_0_oldYs b_0_oldLabels b_0_names b_0_oldNames b_0_wanted b_0_common b_0_flatEdges b_0_upEdges b_0_isPoint b_0_stack b_0_looseLines b_0_looseXs b_0_looseYs b_0_looseReaches b_0_far cZ cI v_0_code v_0_lines v_0_isFresh v_0_hasRun v_0_runs v_0_nx v_0_ny v_0_spaces v_0_oldNx v_0_oldNy v_0_oldSpaces v_0_points v_0_pieces x11 x12 v_0_looseCount f_0_isFlat f_0_pieceLines f_0_pieceBegins f_0_pieceEnds f_0_pieceLeft f_0_pieceRight f_0_outs f48 f14 f15 f16 f17) → va_S A s.heap H locs → lv_has ls 6 [(0, .ref a_0), (1, .int x10), (3, .int x49), (4, .int x41)] → W p l e rm_Mo_findRings s m args below meth c H locs 0 0 Q (F0 m 134 ls [.int x72]) := by
                  intro H locs ls hP hD hS hl
                  refine lv_istore_n (lv' := [(2, .int x72), (0, .ref a_0), (1, .int x10), (3, .int x49), (4, .int x41)]) hx hb d_Mo_findRings_134 rfl hl (by decide) rfl (fun ls hl => ?_)
                  refine lv_aload_n hx hb d_Mo_findRings_135 rfl (lv_at hl 1 rfl) ?_
                  refine lv_iload hx hb d_Mo_findRings_136 (lv_at hl 4 rfl) ?_
                  obtain ⟨r74, hb75, hm⟩ := bd1_e hm
                  have hPc := hP.sub (ws' := (wl_Mo_next a_0 a_0_isFlat a_0_pieceLines a_0_pieceBegins a_0_pieceEnds a_0_outs b_0_across b_0_lows b_0_highs b_0_thick b_0_doorCounts b_0_doorFrom b_0_doorTo b_0_xs b_0_ys b_0_labels b_0_oldXs b_0_oldYs b_0_oldLabels b_0_names b_0_oldNames b_0_wanted b_0_common b_0_flatEdges b_0_upEdges b_0_isPoint b_0_stack a_0_pieceLeft a_0_pieceRight a_0_isSeen a_0_ringSpaces a_0_ringStarts a_0_ringSizes a_0_ringLeast b_0_looseLines b_0_looseXs b_0_looseYs b_0_looseReaches b_0_far cZ cI v_0_code v_0_lines v_0_isFresh v_0_hasRun v_0_runs v_0_nx v_0_ny v_0_spaces v_0_oldNx v_0_oldNy v_0_oldSpaces v_0_points v_0_pieces x11 x12 v_0_looseCount f_0_isFlat f_0_pieceLines f_0_pieceBegins f_0_pieceEnds f_0_outs)) [0, 1, 2, 3, 4, 7] rfl
                  have hDc := hD.sub (ws' := (wl_Mo_next a_0 a_0_isFlat a_0_pieceLines a_0_pieceBegins a_0_pieceEnds a_0_outs b_0_across b_0_lows b_0_highs b_0_thick b_0_doorCounts b_0_doorFrom b_0_doorTo b_0_xs b_0_ys b_0_labels b_0_oldXs b_0_oldYs b_0_oldLabels b_0_names b_0_oldNames b_0_wanted b_0_common b_0_flatEdges b_0_upEdges b_0_isPoint b_0_stack a_0_pieceLeft a_0_pieceRight a_0_isSeen a_0_ringSpaces a_0_ringStarts a_0_ringSizes a_0_ringLeast b_0_looseLines b_0_looseXs b_0_looseYs b_0_looseReaches b_0_far cZ cI v_0_code v_0_lines v_0_isFresh v_0_hasRun v_0_runs v_0_nx v_0_ny v_0_spaces v_0_oldNx v_0_oldNy v_0_oldSpaces v_0_points v_0_pieces x11 x12 v_0_looseCount f_0_isFlat f_0_pieceLines f_0_pieceBegins f_0_pieceEnds f_0_outs)) [0, 1, 2, 3, 4, 7] (by decide) rfl
                  refine cl_i (wc' := (wl_Mo_next a_0 a_0_isFlat a_0_pieceLines a_0_pieceBegins a_0_pieceEnds a_0_outs b_0_across b_0_lows b_0_highs b_0_thick b_0_doorCounts b_0_doorFrom b_0_doorTo b_0_xs b_0_ys b_0_labels b_0_oldXs b_0_oldYs b_0_oldLabels b_0_names b_0_oldNames b_0_wanted b_0_common b_0_flatEdges b_0_upEdges b_0_isPoint b_0_stack a_0_pieceLeft a_0_pieceRight a_0_isSeen a_0_ringSpaces a_0_ringStarts a_0_ringSizes a_0_ringLeast b_0_looseLines b_0_looseXs b_0_looseYs b_0_looseReaches b_0_far cZ cI v_0_code v_0_lines v_0_isFresh v_0_hasRun v_0_runs v_0_nx v_0_ny v_0_spaces v_0_oldNx v_0_oldNy v_0_oldSpaces v_0_points v_0_pieces x11 x12 v_0_looseCount f_0_isFlat f_0_pieceLines f_0_pieceBegins f_0_pieceEnds f_0_outs)) (va_runV (As := [.int x41]) (rest := []) ⟨hx, hb, hml, hown, hts⟩ (c_Mo_next l dC dI (cI := cI) (cZ := cZ) (cJ := cJ) a_0 a_0_isFlat a_0_pieceLines a_0_pieceBegins a_0_pieceEnds a_0_outs b_0_across b_0_lows b_0_highs b_0_thick b_0_doorCounts b_0_doorFrom b_0_doorTo b_0_xs b_0_ys b_0_labels b_0_oldXs b_0_oldYs b_0_oldLabels b_0_names b_0_oldNames b_0_wanted b_0_common b_0_flatEdges b_0_upEdges b_0_isPoint b_0_stack a_0_pieceLeft a_0_pieceRight a_0_isSeen a_0_ringSpaces a_0_ringStarts a_0_ringSizes a_0_ringLeast b_0_looseLines b_0_looseXs b_0_looseYs b_0_looseReaches b_0_far H.size v_0_code v_0_lines v_0_isFresh v_0_hasRun v_0_runs v_0_nx v_0_ny v_0_spaces v_0_oldNx v_0_oldNy v_0_oldSpaces v_0_points v_0_pieces x11 x12 v_0_looseCount f_0_isFlat f_0_pieceLines f_0_pieceBegins f_0_pieceEnds f_0_outs x41 r74 hb75) (cwV 1 hts (gl_V k_354 k_353 k_352 k_277 k_351) rfl rfl rfl (by decide +kernel) ⟨Nat.le_of_ble_eq_true rfl, Nat.le_of_ble_eq_true rfl⟩) ⟨PP_blind, va_recv hK hPc (ci := 11) (q0 := 0) rfl rfl, fun U hU hW => PP_at hK hN hPc hDc hU hW⟩ rfl rfl hl.1 rfl (lv_room (Nat.le_of_ble_eq_true rfl)) d_Mo_findRings_138 ⟨Nat.zero_le _, Nat.zero_le _⟩) hP hD hS hA [0, 1, 2, 3, 4, 7] [5, 6, 8, 9, 10, 11, 12] rfl rfl (by decide) (by decide) (fun H locs hP hD hS => ?_)
                  have hP : va_P (dC, dI) vwCl (wl_Mo_findRings a_0 a_0_isFlat a_0_pieceLines a_0_pieceBegins a_0_pieceEnds a_0_pieceLeft a_0_pieceRight a_0_outs a_0_isSeen a_0_ringSpaces a_0_ringStarts a_0_ringSizes a_0_ringLeast b_0_across b_0_lows b_0_highs b_0_thick b_0_doorCounts b_0_doorFrom b_0_doorTo b_0_xs b_0_ys b_0_labels b_0_oldXs b_0_oldYs b_0_oldLabels b_0_names b_0_oldNames b_0_wanted b_0_common b_0_flatEdges b_0_upEdges b_0_isPoint b_0_stack b_0_looseLines b_0_looseXs b_0_looseYs b_0_looseReaches b_0_far cZ cI v_0_code v_0_lines v_0_isFresh v_0_hasRun v_0_runs v_0_nx v_0_ny v_0_spaces v_0_oldNx v_0_oldNy v_0_oldSpaces v_0_points v_0_pieces x11 x12 v_0_looseCount f_0_isFlat f_0_pieceLines f_0_pieceBegins f_0_pieceEnds f_0_pieceLeft f_0_pieceRight f_0_outs f48 f14 f15 f16 f17) H := hP.sub [7, 8, 9, 10, 11, 0, 1, 12, 2, 3, 4, 5, 6] rfl
                  have hD : va_D A (wl_Mo_findRings a_0 a_0_isFlat a_0_pieceLines a_0_pieceBegins a_0_pieceEnds a_0_pieceLeft a_0_pieceRight a_0_outs a_0_isSeen a_0_ringSpaces a_0_ringStarts a_0_ringSizes a_0_ringLeast b_0_across b_0_lows b_0_highs b_0_thick b_0_doorCounts b_0_doorFrom b_0_doorTo b_0_xs b_0_ys b_0_labels b_0_oldXs b_0_oldYs b_0_oldLabels b_0_names b_0_oldNames b_0_wanted b_0_common b_0_flatEdges b_0_upEdges b_0_isPoint b_0_stack b_0_looseLines b_0_looseXs b_0_looseYs b_0_looseReaches b_0_far cZ cI v_0_code v_0_lines v_0_isFresh v_0_hasRun v_0_runs v_0_nx v_0_ny v_0_spaces v_0_oldNx v_0_oldNy v_0_oldSpaces v_0_points v_0_pieces x11 x12 v_0_looseCount f_0_isFlat f_0_pieceLines f_0_pieceBegins f_0_pieceEnds f_0_pieceLeft f_0_pieceRight f_0_outs f48 f14 f15 f16 f17) := hD.sub [7, 8, 9, 10, 11, 0, 1, 12, 2, 3, 4, 5, 6] (by decide) rfl
                  refine lv_istore (lv' := [(4, .int r74), (2, .int x72), (0, .ref a_0), (1, .int x10), (3, .int x49)]) hx hb d_Mo_findRings_141 hl (by decide) rfl (fun ls hl => ?_)
                  refine lv_iload hx hb d_Mo_findRings_143 (lv_at hl 0 rfl) ?_
                  refine lv_iload_n hx hb d_Mo_findRings_145 rfl (lv_at hl 3 rfl) ?_
                  refine lv_icmp_ne (tgt := 63) hx hb d_Mo_findRings_146 (by decide) (fun c76 => ?_) (fun c76 => ?_)
                  · replace hm := if_f hm c76
                    exact ih _ _ _ _ _ _ _ hm KE H locs ls hP hD hS (lv_sub hl [2, 3, 1, 4, 0] rfl)
                  · replace hm := if_t hm c76
                    cases hm
                    exact KE H locs ls hP hD hS (lv_sub hl [2, 3, 1, 4] rfl)
                replace hm := hb70
                refine lv_if_eq (tgt := 133) hx hb d_Mo_findRings_125 (by decide) (fun c73 => ?_) (fun c73 => ?_)
                · replace hm := if_t hm c73
                  refine lv_iload_n hx hb d_Mo_findRings_133 rfl (lv_at hl 3 rfl) ?_
                  cases hm
                  exact K69 H locs ls hP hD hS (lv_sub hl [1, 2, 4, 5] rfl)
                · replace hm := if_f hm c73
                  refine lv_iload hx hb d_Mo_findRings_128 (lv_at hl 5 rfl) ?_
                  refine lv_goto (tgt := 134) hx hb d_Mo_findRings_130 (by decide) ?_
                  cases hm
                  exact K69 H locs ls hP hD hS (lv_sub hl [1, 2, 4, 5] rfl)
              replace hm := hb55
              refine lv_icmp_lt (tgt := 116) hx hb d_Mo_findRings_85 (by decide) (fun c58 => ?_) (fun c58 => ?_)
              · replace hm := if_t hm c58
                refine lv_iconst (v := 1) hx hb d_Mo_findRings_116 (by decide) ?_
                refine lv_goto (tgt := 121) hx hb d_Mo_findRings_117 (by decide) ?_
                cases hm
                exact K54 H locs ls hP hD hS (lv_sub hl [1, 2, 3, 0, 4] rfl)
              · replace hm := if_f hm c58
                refine lv_aload_n hx hb d_Mo_findRings_88 rfl (lv_at hl 1 rfl) ?_
                refine lv_iload hx hb d_Mo_findRings_89 (lv_at hl 4 rfl) ?_
                obtain ⟨r59, hb60, hm⟩ := bd1_e hm
                have hPc := hP.sub (ws' := (wl_Mo_beginOf a_0 a_0_pieceBegins a_0_pieceEnds a_0_isFlat b_0_across b_0_lows b_0_highs b_0_thick b_0_doorCounts b_0_doorFrom b_0_doorTo b_0_xs b_0_ys b_0_labels b_0_oldXs b_0_oldYs b_0_oldLabels b_0_names b_0_oldNames b_0_wanted b_0_common b_0_flatEdges b_0_upEdges b_0_isPoint b_0_stack a_0_pieceLines a_0_pieceLeft a_0_pieceRight a_0_outs a_0_isSeen a_0_ringSpaces a_0_ringStarts a_0_ringSizes a_0_ringLeast b_0_looseLines b_0_looseXs b_0_looseYs b_0_looseReaches b_0_far cI v_0_code v_0_lines v_0_isFresh v_0_hasRun v_0_runs v_0_nx v_0_ny v_0_spaces v_0_oldNx v_0_oldNy v_0_oldSpaces v_0_points v_0_pieces x11 x12 v_0_looseCount f_0_pieceBegins f_0_pieceEnds)) [0, 3, 4] rfl
                have hDc := hD.sub (ws' := (wl_Mo_beginOf a_0 a_0_pieceBegins a_0_pieceEnds a_0_isFlat b_0_across b_0_lows b_0_highs b_0_thick b_0_doorCounts b_0_doorFrom b_0_doorTo b_0_xs b_0_ys b_0_labels b_0_oldXs b_0_oldYs b_0_oldLabels b_0_names b_0_oldNames b_0_wanted b_0_common b_0_flatEdges b_0_upEdges b_0_isPoint b_0_stack a_0_pieceLines a_0_pieceLeft a_0_pieceRight a_0_outs a_0_isSeen a_0_ringSpaces a_0_ringStarts a_0_ringSizes a_0_ringLeast b_0_looseLines b_0_looseXs b_0_looseYs b_0_looseReaches b_0_far cI v_0_code v_0_lines v_0_isFresh v_0_hasRun v_0_runs v_0_nx v_0_ny v_0_spaces v_0_oldNx v_0_oldNy v_0_oldSpaces v_0_points v_0_pieces x11 x12 v_0_looseCount f_0_pieceBegins f_0_pieceEnds)) [0, 3, 4] (by decide) rfl
                refine cl_i (wc' := (wl_Mo_beginOf a_0 a_0_pieceBegins a_0_pieceEnds a_0_isFlat b_0_across b_0_lows b_0_highs b_0_thick b_0_doorCounts b_0_doorFrom b_0_doorTo b_0_xs b_0_ys b_0_labels b_0_oldXs b_0_oldYs b_0_oldLabels b_0_names b_0_oldNames b_0_wanted b_0_common b_0_flatEdges b_0_upEdges b_0_isPoint b_0_stack a_0_pieceLines a_0_pieceLeft a_0_pieceRight a_0_outs a_0_isSeen a_0_ringSpaces a_0_ringStarts a_0_ringSizes a_0_ringLeast b_0_looseLines b_0_looseXs b_0_looseYs b_0_looseReaches b_0_far cI v_0_code v_0_lines v_0_isFresh v_0_hasRun v_0_runs v_0_nx v_0_ny v_0_spaces v_0_oldNx v_0_oldNy v_0_oldSpaces v_0_points v_0_pieces x11 x12 v_0_looseCount f_0_pieceBegins f_0_pieceEnds)) (va_runV (As := [.int x41]) (rest := []) ⟨hx, hb, hml, hown, hts⟩ (c_Mo_beginOf l dC dI (cI := cI) (cZ := cZ) (cJ := cJ) a_0 a_0_pieceBegins a_0_pieceEnds a_0_isFlat b_0_across b_0_lows b_0_highs b_0_thick b_0_doorCounts b_0_doorFrom b_0_doorTo b_0_xs b_0_ys b_0_labels b_0_oldXs b_0_oldYs b_0_oldLabels b_0_names b_0_oldNames b_0_wanted b_0_common b_0_flatEdges b_0_upEdges b_0_isPoint b_0_stack a_0_pieceLines a_0_pieceLeft a_0_pieceRight a_0_outs a_0_isSeen a_0_ringSpaces a_0_ringStarts a_0_ringSizes a_0_ringLeast b_0_looseLines b_0_looseXs b_0_looseYs b_0_looseReaches b_0_far H.size v_0_code v_0_lines v_0_isFresh v_0_hasRun v_0_runs v_0_nx v_0_ny v_0_spaces v_0_oldNx v_0_oldNy v_0_oldSpaces v_0_points v_0_pieces x11 x12 v_0_looseCount f_0_pieceBegins f_0_pieceEnds x41 r59 hb60) (cwV 1 hts (gl_V k_343 k_342 k_341 k_277 k_340) rfl rfl rfl (by decide +kernel) ⟨Nat.le_of_ble_eq_true rfl, Nat.le_of_ble_eq_true rfl⟩) ⟨PP_blind, va_recv hK hPc (ci := 11) (q0 := 0) rfl rfl, fun U hU hW => PP_at hK hN hPc hDc hU hW⟩ rfl rfl hl.1 rfl (lv_room (Nat.le_of_ble_eq_true rfl)) d_Mo_findRings_91 ⟨Nat.zero_le _, Nat.zero_le _⟩) hP hD hS hA [0, 3, 4] [1, 2, 5, 6, 7, 8, 9, 10, 11, 12] rfl rfl (by decide) (by decide) (fun H locs hP hD hS => ?_)
                have hP : va_P (dC, dI) vwCl (wl_Mo_findRings a_0 a_0_isFlat a_0_pieceLines a_0_pieceBegins a_0_pieceEnds a_0_pieceLeft a_0_pieceRight a_0_outs a_0_isSeen a_0_ringSpaces a_0_ringStarts a_0_ringSizes a_0_ringLeast b_0_across b_0_lows b_0_highs b_0_thick b_0_doorCounts b_0_doorFrom b_0_doorTo b_0_xs b_0_ys b_0_labels b_0_oldXs b_0_oldYs b_0_oldLabels b_0_names b_0_oldNames b_0_wanted b_0_common b_0_flatEdges b_0_upEdges b_0_isPoint b_0_stack b_0_looseLines b_0_looseXs b_0_looseYs b_0_looseReaches b_0_far cZ cI v_0_code v_0_lines v_0_isFresh v_0_hasRun v_0_runs v_0_nx v_0_ny v_0_spaces v_0_oldNx v_0_oldNy v_0_oldSpaces v_0_points v_0_pieces x11 x12 v_0_looseCount f_0_isFlat f_0_pieceLines f_0_pieceBegins f_0_pieceEnds f_0_pieceLeft f_0_pieceRight f_0_outs f48 f14 f15 f16 f17) H := hP.sub [10, 0, 1, 11, 12, 2, 3, 4, 5, 6, 7, 8, 9] rfl
                have hD : va_D A (wl_Mo_findRings a_0 a_0_isFlat a_0_pieceLines a_0_pieceBegins a_0_pieceEnds a_0_pieceLeft a_0_pieceRight a_0_outs a_0_isSeen a_0_ringSpaces a_0_ringStarts a_0_ringSizes a_0_ringLeast b_0_across b_0_lows b_0_highs b_0_thick b_0_doorCounts b_0_doorFrom b_0_doorTo b_0_xs b_0_ys b_0_labels b_0_oldXs b_0_oldYs b_0_oldLabels b_0_names b_0_oldNames b_0_wanted b_0_common b_0_flatEdges b_0_upEdges b_0_isPoint b_0_stack b_0_looseLines b_0_looseXs b_0_looseYs b_0_looseReaches b_0_far cZ cI v_0_code v_0_lines v_0_isFresh v_0_hasRun v_0_runs v_0_nx v_0_ny v_0_spaces v_0_oldNx v_0_oldNy v_0_oldSpaces v_0_points v_0_pieces x11 x12 v_0_looseCount f_0_isFlat f_0_pieceLines f_0_pieceBegins f_0_pieceEnds f_0_pieceLeft f_0_pieceRight f_0_outs f48 f14 f15 f16 f17) := hD.sub [10, 0, 1, 11, 12, 2, 3, 4, 5, 6, 7, 8, 9] (by decide) rfl
                refine lv_aload_n hx hb d_Mo_findRings_94 rfl (lv_at hl 1 rfl) ?_
                refine lv_iload_n hx hb d_Mo_findRings_95 rfl (lv_at hl 3 rfl) ?_
                obtain ⟨r61, hb62, hm⟩ := bd1_e hm
                have hPc := hP.sub (ws' := (wl_Mo_beginOf a_0 a_0_pieceBegins a_0_pieceEnds a_0_isFlat b_0_across b_0_lows b_0_highs b_0_thick b_0_doorCounts b_0_doorFrom b_0_doorTo b_0_xs b_0_ys b_0_labels b_0_oldXs b_0_oldYs b_0_oldLabels b_0_names b_0_oldNames b_0_wanted b_0_common b_0_flatEdges b_0_upEdges b_0_isPoint b_0_stack a_0_pieceLines a_0_pieceLeft a_0_pieceRight a_0_outs a_0_isSeen a_0_ringSpaces a_0_ringStarts a_0_ringSizes a_0_ringLeast b_0_looseLines b_0_looseXs b_0_looseYs b_0_looseReaches b_0_far cI v_0_code v_0_lines v_0_isFresh v_0_hasRun v_0_runs v_0_nx v_0_ny v_0_spaces v_0_oldNx v_0_oldNy v_0_oldSpaces v_0_points v_0_pieces x11 x12 v_0_looseCount f_0_pieceBegins f_0_pieceEnds)) [0, 3, 4] rfl
                have hDc := hD.sub (ws' := (wl_Mo_beginOf a_0 a_0_pieceBegins a_0_pieceEnds a_0_isFlat b_0_across b_0_lows b_0_highs b_0_thick b_0_doorCounts b_0_doorFrom b_0_doorTo b_0_xs b_0_ys b_0_labels b_0_oldXs b_0_oldYs b_0_oldLabels b_0_names b_0_oldNames b_0_wanted b_0_common b_0_flatEdges b_0_upEdges b_0_isPoint b_0_stack a_0_pieceLines a_0_pieceLeft a_0_pieceRight a_0_outs a_0_isSeen a_0_ringSpaces a_0_ringStarts a_0_ringSizes a_0_ringLeast b_0_looseLines b_0_looseXs b_0_looseYs b_0_looseReaches b_0_far cI v_0_code v_0_lines v_0_isFresh v_0_hasRun v_0_runs v_0_nx v_0_ny v_0_spaces v_0_oldNx v_0_oldNy v_0_oldSpaces v_0_points v_0_pieces x11 x12 v_0_looseCount f_0_pieceBegins f_0_pieceEnds)) [0, 3, 4] (by decide) rfl
                refine cl_i (wc' := (wl_Mo_beginOf a_0 a_0_pieceBegins a_0_pieceEnds a_0_isFlat b_0_across b_0_lows b_0_highs b_0_thick b_0_doorCounts b_0_doorFrom b_0_doorTo b_0_xs b_0_ys b_0_labels b_0_oldXs b_0_oldYs b_0_oldLabels b_0_names b_0_oldNames b_0_wanted b_0_common b_0_flatEdges b_0_upEdges b_0_isPoint b_0_stack a_0_pieceLines a_0_pieceLeft a_0_pieceRight a_0_outs a_0_isSeen a_0_ringSpaces a_0_ringStarts a_0_ringSizes a_0_ringLeast b_0_looseLines b_0_looseXs b_0_looseYs b_0_looseReaches b_0_far cI v_0_code v_0_lines v_0_isFresh v_0_hasRun v_0_runs v_0_nx v_0_ny v_0_spaces v_0_oldNx v_0_oldNy v_0_oldSpaces v_0_points v_0_pieces x11 x12 v_0_looseCount f_0_pieceBegins f_0_pieceEnds)) (va_runV (As := [.int x39]) (rest := [.int r59]) ⟨hx, hb, hml, hown, hts⟩ (c_Mo_beginOf l dC dI (cI := cI) (cZ := cZ) (cJ := cJ) a_0 a_0_pieceBegins a_0_pieceEnds a_0_isFlat b_0_across b_0_lows b_0_highs b_0_thick b_0_doorCounts b_0_doorFrom b_0_doorTo b_0_xs b_0_ys b_0_labels b_0_oldXs b_0_oldYs b_0_oldLabels b_0_names b_0_oldNames b_0_wanted b_0_common b_0_flatEdges b_0_upEdges b_0_isPoint b_0_stack a_0_pieceLines a_0_pieceLeft a_0_pieceRight a_0_outs a_0_isSeen a_0_ringSpaces a_0_ringStarts a_0_ringSizes a_0_ringLeast b_0_looseLines b_0_looseXs b_0_looseYs b_0_looseReaches b_0_far H.size v_0_code v_0_lines v_0_isFresh v_0_hasRun v_0_runs v_0_nx v_0_ny v_0_spaces v_0_oldNx v_0_oldNy v_0_oldSpaces v_0_points v_0_pieces x11 x12 v_0_looseCount f_0_pieceBegins f_0_pieceEnds x39 r61 hb62) (cwV 1 hts (gl_V k_343 k_342 k_341 k_277 k_340) rfl rfl rfl (by decide +kernel) ⟨Nat.le_of_ble_eq_true rfl, Nat.le_of_ble_eq_true rfl⟩) ⟨PP_blind, va_recv hK hPc (ci := 11) (q0 := 0) rfl rfl, fun U hU hW => PP_at hK hN hPc hDc hU hW⟩ rfl rfl hl.1 rfl (lv_room (Nat.le_of_ble_eq_true rfl)) d_Mo_findRings_96 ⟨Nat.zero_le _, Nat.zero_le _⟩) hP hD hS hA [0, 3, 4] [1, 2, 5, 6, 7, 8, 9, 10, 11, 12] rfl rfl (by decide) (by decide) (fun H locs hP hD hS => ?_)
                have hP : va_P (dC, dI) vwCl (wl_Mo_findRings a_0 a_0_isFlat a_0_pieceLines a_0_pieceBegins a_0_pieceEnds a_0_pieceLeft a_0_pieceRight a_0_outs a_0_isSeen a_0_ringSpaces a_0_ringStarts a_0_ringSizes a_0_ringLeast b_0_across b_0_lows b_0_highs b_0_thick b_0_doorCounts b_0_doorFrom b_0_doorTo b_0_xs b_0_ys b_0_labels b_0_oldXs b_0_oldYs b_0_oldLabels b_0_names b_0_oldNames b_0_wanted b_0_common b_0_flatEdges b_0_upEdges b_0_isPoint b_0_stack b_0_looseLines b_0_looseXs b_0_looseYs b_0_looseReaches b_0_far cZ cI v_0_code v_0_lines v_0_isFresh v_0_hasRun v_0_runs v_0_nx v_0_ny v_0_spaces v_0_oldNx v_0_oldNy v_0_oldSpaces v_0_points v_0_pieces x11 x12 v_0_looseCount f_0_isFlat f_0_pieceLines f_0_pieceBegins f_0_pieceEnds f_0_pieceLeft f_0_pieceRight f_0_outs f48 f14 f15 f16 f17) H := hP.sub [10, 0, 1, 11, 12, 2, 3, 4, 5, 6, 7, 8, 9] rfl
                have hD : va_D A (wl_Mo_findRings a_0 a_0_isFlat a_0_pieceLines a_0_pieceBegins a_0_pieceEnds a_0_pieceLeft a_0_pieceRight a_0_outs a_0_isSeen a_0_ringSpaces a_0_ringStarts a_0_ringSizes a_0_ringLeast b_0_across b_0_lows b_0_highs b_0_thick b_0_doorCounts b_0_doorFrom b_0_doorTo b_0_xs b_0_ys b_0_labels b_0_oldXs b_0_oldYs b_0_oldLabels b_0_names b_0_oldNames b_0_wanted b_0_common b_0_flatEdges b_0_upEdges b_0_isPoint b_0_stack b_0_looseLines b_0_looseXs b_0_looseYs b_0_looseReaches b_0_far cZ cI v_0_code v_0_lines v_0_isFresh v_0_hasRun v_0_runs v_0_nx v_0_ny v_0_spaces v_0_oldNx v_0_oldNy v_0_oldSpaces v_0_points v_0_pieces x11 x12 v_0_looseCount f_0_isFlat f_0_pieceLines f_0_pieceBegins f_0_pieceEnds f_0_pieceLeft f_0_pieceRight f_0_outs f48 f14 f15 f16 f17) := hD.sub [10, 0, 1, 11, 12, 2, 3, 4, 5, 6, 7, 8, 9] (by decide) rfl
                refine lv_icmp_ne (tgt := 120) hx hb d_Mo_findRings_99 (by decide) (fun c63 => ?_) (fun c63 => ?_)
                · replace hm := if_f hm c63
                  refine lv_iconst (v := 0) hx hb d_Mo_findRings_120 (by decide) ?_
                  cases hm
                  exact K54 H locs ls hP hD hS (lv_sub hl [1, 2, 3, 0, 4] rfl)
                · replace hm := if_t hm c63
                  refine lv_aload_n hx hb d_Mo_findRings_102 rfl (lv_at hl 1 rfl) ?_
                  refine lv_iload hx hb d_Mo_findRings_103 (lv_at hl 4 rfl) ?_
                  obtain ⟨r64, hb65, hm⟩ := bd1_e hm
                  have hPc := hP.sub (ws' := (wl_Mo_directionOf a_0 a_0_isFlat a_0_pieceLines b_0_across b_0_lows b_0_highs b_0_thick b_0_doorCounts b_0_doorFrom b_0_doorTo b_0_xs b_0_ys b_0_labels b_0_oldXs b_0_oldYs b_0_oldLabels b_0_names b_0_oldNames b_0_wanted b_0_common b_0_flatEdges b_0_upEdges b_0_isPoint b_0_stack a_0_pieceBegins a_0_pieceEnds a_0_pieceLeft a_0_pieceRight a_0_outs a_0_isSeen a_0_ringSpaces a_0_ringStarts a_0_ringSizes a_0_ringLeast b_0_looseLines b_0_looseXs b_0_looseYs b_0_looseReaches b_0_far cZ cI v_0_code v_0_lines v_0_isFresh v_0_hasRun v_0_runs v_0_nx v_0_ny v_0_spaces v_0_oldNx v_0_oldNy v_0_oldSpaces v_0_points v_0_pieces x11 x12 v_0_looseCount f_0_isFlat f_0_pieceLines)) [0, 1, 2] rfl
                  have hDc := hD.sub (ws' := (wl_Mo_directionOf a_0 a_0_isFlat a_0_pieceLines b_0_across b_0_lows b_0_highs b_0_thick b_0_doorCounts b_0_doorFrom b_0_doorTo b_0_xs b_0_ys b_0_labels b_0_oldXs b_0_oldYs b_0_oldLabels b_0_names b_0_oldNames b_0_wanted b_0_common b_0_flatEdges b_0_upEdges b_0_isPoint b_0_stack a_0_pieceBegins a_0_pieceEnds a_0_pieceLeft a_0_pieceRight a_0_outs a_0_isSeen a_0_ringSpaces a_0_ringStarts a_0_ringSizes a_0_ringLeast b_0_looseLines b_0_looseXs b_0_looseYs b_0_looseReaches b_0_far cZ cI v_0_code v_0_lines v_0_isFresh v_0_hasRun v_0_runs v_0_nx v_0_ny v_0_spaces v_0_oldNx v_0_oldNy v_0_oldSpaces v_0_points v_0_pieces x11 x12 v_0_looseCount f_0_isFlat f_0_pieceLines)) [0, 1, 2] (by decide) rfl
                  refine cl_i (wc' := (wl_Mo_directionOf a_0 a_0_isFlat a_0_pieceLines b_0_across b_0_lows b_0_highs b_0_thick b_0_doorCounts b_0_doorFrom b_0_doorTo b_0_xs b_0_ys b_0_labels b_0_oldXs b_0_oldYs b_0_oldLabels b_0_names b_0_oldNames b_0_wanted b_0_common b_0_flatEdges b_0_upEdges b_0_isPoint b_0_stack a_0_pieceBegins a_0_pieceEnds a_0_pieceLeft a_0_pieceRight a_0_outs a_0_isSeen a_0_ringSpaces a_0_ringStarts a_0_ringSizes a_0_ringLeast b_0_looseLines b_0_looseXs b_0_looseYs b_0_looseReaches b_0_far cZ cI v_0_code v_0_lines v_0_isFresh v_0_hasRun v_0_runs v_0_nx v_0_ny v_0_spaces v_0_oldNx v_0_oldNy v_0_oldSpaces v_0_points v_0_pieces x11 x12 v_0_looseCount f_0_isFlat f_0_pieceLines)) (va_runV (As := [.int x41]) (rest := []) ⟨hx, hb, hml, hown, hts⟩ (c_Mo_directionOf l dC dI (cI := cI) (cZ := cZ) (cJ := cJ) a_0 a_0_isFlat a_0_pieceLines b_0_across b_0_lows b_0_highs b_0_thick b_0_doorCounts b_0_doorFrom b_0_doorTo b_0_xs b_0_ys b_0_labels b_0_oldXs b_0_oldYs b_0_oldLabels b_0_names b_0_oldNames b_0_wanted b_0_common b_0_flatEdges b_0_upEdges b_0_isPoint b_0_stack a_0_pieceBegins a_0_pieceEnds a_0_pieceLeft a_0_pieceRight a_0_outs a_0_isSeen a_0_ringSpaces a_0_ringStarts a_0_ringSizes a_0_ringLeast b_0_looseLines b_0_looseXs b_0_looseYs b_0_looseReaches b_0_far H.size v_0_code v_0_lines v_0_isFresh v_0_hasRun v_0_runs v_0_nx v_0_ny v_0_spaces v_0_oldNx v_0_oldNy v_0_oldSpaces v_0_points v_0_pieces x11 x12 v_0_looseCount f_0_isFlat f_0_pieceLines x41 r64 hb65) (cwV 1 hts (gl_V k_339 k_338 k_337 k_277 k_336) rfl rfl rfl (by decide +kernel) ⟨Nat.le_of_ble_eq_true rfl, Nat.le_of_ble_eq_true rfl⟩) ⟨PP_blind, va_recv hK hPc (ci := 11) (q0 := 0) rfl rfl, fun U hU hW => PP_at hK hN hPc hDc hU hW⟩ rfl rfl hl.1 rfl (lv_room (Nat.le_of_ble_eq_true rfl)) d_Mo_findRings_105 ⟨Nat.zero_le _, Nat.zero_le _⟩) hP hD hS hA [0, 1, 2] [3, 4, 5, 6, 7, 8, 9, 10, 11, 12] rfl rfl (by decide) (by decide) (fun H locs hP hD hS => ?_)
                  have hP : va_P (dC, dI) vwCl (wl_Mo_findRings a_0 a_0_isFlat a_0_pieceLines a_0_pieceBegins a_0_pieceEnds a_0_pieceLeft a_0_pieceRight a_0_outs a_0_isSeen a_0_ringSpaces a_0_ringStarts a_0_ringSizes a_0_ringLeast b_0_across b_0_lows b_0_highs b_0_thick b_0_doorCounts b_0_doorFrom b_0_doorTo b_0_xs b_0_ys b_0_labels b_0_oldXs b_0_oldYs b_0_oldLabels b_0_names b_0_oldNames b_0_wanted b_0_common b_0_flatEdges b_0_upEdges b_0_isPoint b_0_stack b_0_looseLines b_0_looseXs b_0_looseYs b_0_looseReaches b_0_far cZ cI v_0_code v_0_lines v_0_isFresh v_0_hasRun v_0_runs v_0_nx v_0_ny v_0_spaces v_0_oldNx v_0_oldNy v_0_oldSpaces v_0_points v_0_pieces x11 x12 v_0_looseCount f_0_isFlat f_0_pieceLines f_0_pieceBegins f_0_pieceEnds f_0_pieceLeft f_0_pieceRight f_0_outs f48 f14 f15 f16 f17) H := hP.sub [10, 11, 12, 0, 1, 2, 3, 4, 5, 6, 7, 8, 9] rfl
                  have hD : va_D A (wl_Mo_findRings a_0 a_0_isFlat a_0_pieceLines a_0_pieceBegins a_0_pieceEnds a_0_pieceLeft a_0_pieceRight a_0_outs a_0_isSeen a_0_ringSpaces a_0_ringStarts a_0_ringSizes a_0_ringLeast b_0_across b_0_lows b_0_highs b_0_thick b_0_doorCounts b_0_doorFrom b_0_doorTo b_0_xs b_0_ys b_0_labels b_0_oldXs b_0_oldYs b_0_oldLabels b_0_names b_0_oldNames b_0_wanted b_0_common b_0_flatEdges b_0_upEdges b_0_isPoint b_0_stack b_0_looseLines b_0_looseXs b_0_looseYs b_0_looseReaches b_0_far cZ cI v_0_code v_0_lines v_0_isFresh v_0_hasRun v_0_runs v_0_nx v_0_ny v_0_spaces v_0_oldNx v_0_oldNy v_0_oldSpaces v_0_points v_0_pieces x11 x12 v_0_looseCount f_0_isFlat f_0_pieceLines f_0_pieceBegins f_0_pieceEnds f_0_pieceLeft f_0_pieceRight f_0_outs f48 f14 f15 f16 f17) := hD.sub [10, 11, 12, 0, 1, 2, 3, 4, 5, 6, 7, 8, 9] (by decide) rfl
                  refine lv_aload_n hx hb d_Mo_findRings_108 rfl (lv_at hl 1 rfl) ?_
                  refine lv_iload_n hx hb d_Mo_findRings_109 rfl (lv_at hl 3 rfl) ?_
                  obtain ⟨r66, hb67, hm⟩ := bd1_e hm
                  have hPc := hP.sub (ws' := (wl_Mo_directionOf a_0 a_0_isFlat a_0_pieceLines b_0_across b_0_lows b_0_highs b_0_thick b_0_doorCounts b_0_doorFrom b_0_doorTo b_0_xs b_0_ys b_0_labels b_0_oldXs b_0_oldYs b_0_oldLabels b_0_names b_0_oldNames b_0_wanted b_0_common b_0_flatEdges b_0_upEdges b_0_isPoint b_0_stack a_0_pieceBegins a_0_pieceEnds a_0_pieceLeft a_0_pieceRight a_0_outs a_0_isSeen a_0_ringSpaces a_0_ringStarts a_0_ringSizes a_0_ringLeast b_0_looseLines b_0_looseXs b_0_looseYs b_0_looseReaches b_0_far cZ cI v_0_code v_0_lines v_0_isFresh v_0_hasRun v_0_runs v_0_nx v_0_ny v_0_spaces v_0_oldNx v_0_oldNy v_0_oldSpaces v_0_points v_0_pieces x11 x12 v_0_looseCount f_0_isFlat f_0_pieceLines)) [0, 1, 2] rfl
                  have hDc := hD.sub (ws' := (wl_Mo_directionOf a_0 a_0_isFlat a_0_pieceLines b_0_across b_0_lows b_0_highs b_0_thick b_0_doorCounts b_0_doorFrom b_0_doorTo b_0_xs b_0_ys b_0_labels b_0_oldXs b_0_oldYs b_0_oldLabels b_0_names b_0_oldNames b_0_wanted b_0_common b_0_flatEdges b_0_upEdges b_0_isPoint b_0_stack a_0_pieceBegins a_0_pieceEnds a_0_pieceLeft a_0_pieceRight a_0_outs a_0_isSeen a_0_ringSpaces a_0_ringStarts a_0_ringSizes a_0_ringLeast b_0_looseLines b_0_looseXs b_0_looseYs b_0_looseReaches b_0_far cZ cI v_0_code v_0_lines v_0_isFresh v_0_hasRun v_0_runs v_0_nx v_0_ny v_0_spaces v_0_oldNx v_0_oldNy v_0_oldSpaces v_0_points v_0_pieces x11 x12 v_0_looseCount f_0_isFlat f_0_pieceLines)) [0, 1, 2] (by decide) rfl
                  refine cl_i (wc' := (wl_Mo_directionOf a_0 a_0_isFlat a_0_pieceLines b_0_across b_0_lows b_0_highs b_0_thick b_0_doorCounts b_0_doorFrom b_0_doorTo b_0_xs b_0_ys b_0_labels b_0_oldXs b_0_oldYs b_0_oldLabels b_0_names b_0_oldNames b_0_wanted b_0_common b_0_flatEdges b_0_upEdges b_0_isPoint b_0_stack a_0_pieceBegins a_0_pieceEnds a_0_pieceLeft a_0_pieceRight a_0_outs a_0_isSeen a_0_ringSpaces a_0_ringStarts a_0_ringSizes a_0_ringLeast b_0_looseLines b_0_looseXs b_0_looseYs b_0_looseReaches b_0_far cZ cI v_0_code v_0_lines v_0_isFresh v_0_hasRun v_0_runs v_0_nx v_0_ny v_0_spaces v_0_oldNx v_0_oldNy v_0_oldSpaces v_0_points v_0_pieces x11 x12 v_0_looseCount f_0_isFlat f_0_pieceLines)) (va_runV (As := [.int x39]) (rest := [.int r64]) ⟨hx, hb, hml, hown, hts⟩ (c_Mo_directionOf l dC dI (cI := cI) (cZ := cZ) (cJ := cJ) a_0 a_0_isFlat a_0_pieceLines b_0_across b_0_lows b_0_highs b_0_thick b_0_doorCounts b_0_doorFrom b_0_doorTo b_0_xs b_0_ys b_0_labels b_0_oldXs b_0_oldYs b_0_oldLabels b_0_names b_0_oldNames b_0_wanted b_0_common b_0_flatEdges b_0_upEdges b_0_isPoint b_0_stack a_0_pieceBegins a_0_pieceEnds a_0_pieceLeft a_0_pieceRight a_0_outs a_0_isSeen a_0_ringSpaces a_0_ringStarts a_0_ringSizes a_0_ringLeast b_0_looseLines b_0_looseXs b_0_looseYs b_0_looseReaches b_0_far H.size v_0_code v_0_lines v_0_isFresh v_0_hasRun v_0_runs v_0_nx v_0_ny v_0_spaces v_0_oldNx v_0_oldNy v_0_oldSpaces v_0_points v_0_pieces x11 x12 v_0_looseCount f_0_isFlat f_0_pieceLines x39 r66 hb67) (cwV 1 hts (gl_V k_339 k_338 k_337 k_277 k_336) rfl rfl rfl (by decide +kernel) ⟨Nat.le_of_ble_eq_true rfl, Nat.le_of_ble_eq_true rfl⟩) ⟨PP_blind, va_recv hK hPc (ci := 11) (q0 := 0) rfl rfl, fun U hU hW => PP_at hK hN hPc hDc hU hW⟩ rfl rfl hl.1 rfl (lv_room (Nat.le_of_ble_eq_true rfl)) d_Mo_findRings_110 ⟨Nat.zero_le _, Nat.zero_le _⟩) hP hD hS hA [0, 1, 2] [3, 4, 5, 6, 7, 8, 9, 10, 11, 12] rfl rfl (by decide) (by decide) (fun H locs hP hD hS => ?_)
                  have hP : va_P (dC, dI) vwCl (wl_Mo_findRings a_0 a_0_isFlat a_0_pieceLines a_0_pieceBegins a_0_pieceEnds a_0_pieceLeft a_0_pieceRight a_0_outs a_0_isSeen a_0_ringSpaces a_0_ringStarts a_0_ringSizes a_0_ringLeast b_0_across b_0_lows b_0_highs b_0_thick b_0_doorCounts b_0_doorFrom b_0_doorTo b_0_xs b_0_ys b_0_labels b_0_oldXs b_0_oldYs b_0_oldLabels b_0_names b_0_oldNames b_0_wanted b_0_common b_0_flatEdges b_0_upEdges b_0_isPoint b_0_stack b_0_looseLines b_0_looseXs b_0_looseYs b_0_looseReaches b_0_far cZ cI v_0_code v_0_lines v_0_isFresh v_0_hasRun v_0_runs v_0_nx v_0_ny v_0_spaces v_0_oldNx v_0_oldNy v_0_oldSpaces v_0_points v_0_pieces x11 x12 v_0_looseCount f_0_isFlat f_0_pieceLines f_0_pieceBegins f_0_pieceEnds f_0_pieceLeft f_0_pieceRight f_0_outs f48 f14 f15 f16 f17) H := hP.sub [10, 11, 12, 0, 1, 2, 3, 4, 5, 6, 7, 8, 9] rfl
                  have hD : va_D A (wl_Mo_findRings a_0 a_0_isFlat a_0_pieceLines a_0_pieceBegins a_0_pieceEnds a_0_pieceLeft a_0_pieceRight a_0_outs a_0_isSeen a_0_ringSpaces a_0_ringStarts a_0_ringSizes a_0_ringLeast b_0_across b_0_lows b_0_highs b_0_thick b_0_doorCounts b_0_doorFrom b_0_doorTo b_0_xs b_0_ys b_0_labels b_0_oldXs b_0_oldYs b_0_oldLabels b_0_names b_0_oldNames b_0_wanted b_0_common b_0_flatEdges b_0_upEdges b_0_isPoint b_0_stack b_0_looseLines b_0_looseXs b_0_looseYs b_0_looseReaches b_0_far cZ cI v_0_code v_0_lines v_0_isFresh v_0_hasRun v_0_runs v_0_nx v_0_ny v_0_spaces v_0_oldNx v_0_oldNy v_0_oldSpaces v_0_points v_0_pieces x11 x12 v_0_looseCount f_0_isFlat f_0_pieceLines f_0_pieceBegins f_0_pieceEnds f_0_pieceLeft f_0_pieceRight f_0_outs f48 f14 f15 f16 f17) := hD.sub [10, 11, 12, 0, 1, 2, 3, 4, 5, 6, 7, 8, 9] (by decide) rfl
                  refine lv_icmp_ge (tgt := 120) hx hb d_Mo_findRings_113 (by decide) (fun c68 => ?_) (fun c68 => ?_)
                  · replace hm := if_t hm c68
                    refine lv_iconst (v := 0) hx hb d_Mo_findRings_120 (by decide) ?_
                    cases hm
                    exact K54 H locs ls hP hD hS (lv_sub hl [1, 2, 3, 0, 4] rfl)
                  · replace hm := if_f hm c68
                    refine lv_iconst (v := 1) hx hb d_Mo_findRings_116 (by decide) ?_
                    refine lv_goto (tgt := 121) hx hb d_Mo_findRings_117 (by decide) ?_
                    cases hm
                    exact K54 H locs ls hP hD hS (lv_sub hl [1, 2, 3, 0, 4] rfl)
          obtain ⟨x43, x44, f45, hb77, hm⟩ := bd3_e hm
          refine L63_46 fu _ _ _ _ _ _ _ hb77 (fun H locs ls hP hD hS hl => ?_) H locs ls hP hD hS (lv_sub hl [3, 4, 2, 1, 0] rfl)
          refine lv_aload_n hx hb d_Mo_findRings_149 rfl (lv_at hl 0 rfl) ?_
          refine lv_dup hx hb d_Mo_findRings_150 rfl ?_
          refine va_get (D := (dC, dI)) (ci := 11) (v := .int x12) (C := "SpaceCyclesModel") (T := F_Mo) (N := 54) hx hb hts (in_F i_Mo) hown hK hP 0 rfl rfl 47 (by decide) (hts _ (in_c k_349)) (fun _ h9 => h9) rfl d_Mo_findRings_151 ?_
          refine lv_aload_n hx hb d_Mo_findRings_154 rfl (lv_at hl 0 rfl) ?_
          refine lv_iload_n hx hb d_Mo_findRings_155 rfl (lv_at hl 1 rfl) ?_
          obtain ⟨r78, hb79, hm⟩ := bd1_e hm
          have hPc := hP.sub (ws' := (wl_Mo_leftOf a_0 a_0_pieceLeft a_0_pieceRight a_0_isFlat b_0_across b_0_lows b_0_highs b_0_thick b_0_doorCounts b_0_doorFrom b_0_doorTo b_0_xs b_0_ys b_0_labels b_0_oldXs b_0_oldYs b_0_oldLabels b_0_names b_0_oldNames b_0_wanted b_0_common b_0_flatEdges b_0_upEdges b_0_isPoint b_0_stack a_0_pieceLines a_0_pieceBegins a_0_pieceEnds a_0_outs a_0_isSeen a_0_ringSpaces a_0_ringStarts a_0_ringSizes a_0_ringLeast b_0_looseLines b_0_looseXs b_0_looseYs b_0_looseReaches b_0_far cI v_0_code v_0_lines v_0_isFresh v_0_hasRun v_0_runs v_0_nx v_0_ny v_0_spaces v_0_oldNx v_0_oldNy v_0_oldSpaces v_0_points v_0_pieces x11 x12 v_0_looseCount f_0_pieceLeft f_0_pieceRight)) [0, 5, 6] rfl
          have hDc := hD.sub (ws' := (wl_Mo_leftOf a_0 a_0_pieceLeft a_0_pieceRight a_0_isFlat b_0_across b_0_lows b_0_highs b_0_thick b_0_doorCounts b_0_doorFrom b_0_doorTo b_0_xs b_0_ys b_0_labels b_0_oldXs b_0_oldYs b_0_oldLabels b_0_names b_0_oldNames b_0_wanted b_0_common b_0_flatEdges b_0_upEdges b_0_isPoint b_0_stack a_0_pieceLines a_0_pieceBegins a_0_pieceEnds a_0_outs a_0_isSeen a_0_ringSpaces a_0_ringStarts a_0_ringSizes a_0_ringLeast b_0_looseLines b_0_looseXs b_0_looseYs b_0_looseReaches b_0_far cI v_0_code v_0_lines v_0_isFresh v_0_hasRun v_0_runs v_0_nx v_0_ny v_0_spaces v_0_oldNx v_0_oldNy v_0_oldSpaces v_0_points v_0_pieces x11 x12 v_0_looseCount f_0_pieceLeft f_0_pieceRight)) [0, 5, 6] (by decide) rfl
          refine cl_i (wc' := (wl_Mo_leftOf a_0 a_0_pieceLeft a_0_pieceRight a_0_isFlat b_0_across b_0_lows b_0_highs b_0_thick b_0_doorCounts b_0_doorFrom b_0_doorTo b_0_xs b_0_ys b_0_labels b_0_oldXs b_0_oldYs b_0_oldLabels b_0_names b_0_oldNames b_0_wanted b_0_common b_0_flatEdges b_0_upEdges b_0_isPoint b_0_stack a_0_pieceLines a_0_pieceBegins a_0_pieceEnds a_0_outs a_0_isSeen a_0_ringSpaces a_0_ringStarts a_0_ringSizes a_0_ringLeast b_0_looseLines b_0_looseXs b_0_looseYs b_0_looseReaches b_0_far cI v_0_code v_0_lines v_0_isFresh v_0_hasRun v_0_runs v_0_nx v_0_ny v_0_spaces v_0_oldNx v_0_oldNy v_0_oldSpaces v_0_points v_0_pieces x11 x12 v_0_looseCount f_0_pieceLeft f_0_pieceRight)) (va_runV (As := [.int x10]) (rest := [.int x12, .ref a_0]) ⟨hx, hb, hml, hown, hts⟩ (c_Mo_leftOf l dC dI (cI := cI) (cZ := cZ) (cJ := cJ) a_0 a_0_pieceLeft a_0_pieceRight a_0_isFlat b_0_across b_0_lows b_0_highs b_0_thick b_0_doorCounts b_0_doorFrom b_0_doorTo b_0_xs b_0_ys b_0_labels b_0_oldXs b_0_oldYs b_0_oldLabels b_0_names b_0_oldNames b_0_wanted b_0_common b_0_flatEdges b_0_upEdges b_0_isPoint b_0_stack a_0_pieceLines a_0_pieceBegins a_0_pieceEnds a_0_outs a_0_isSeen a_0_ringSpaces a_0_ringStarts a_0_ringSizes a_0_ringLeast b_0_looseLines b_0_looseXs b_0_looseYs b_0_looseReaches b_0_far H.size v_0_code v_0_lines v_0_isFresh v_0_hasRun v_0_runs v_0_nx v_0_ny v_0_spaces v_0_oldNx v_0_oldNy v_0_oldSpaces v_0_points v_0_pieces x11 x12 v_0_looseCount f_0_pieceLeft f_0_pieceRight x10 r78 hb79) (cwV 1 hts (gl_V k_358 k_357 k_356 k_277 k_355) rfl rfl rfl (by decide +kernel) ⟨Nat.le_of_ble_eq_true rfl, Nat.le_of_ble_eq_true rfl⟩) ⟨PP_blind, va_recv hK hPc (ci := 11) (q0 := 0) rfl rfl, fun U hU hW => PP_at hK hN hPc hDc hU hW⟩ rfl rfl hl.1 rfl (lv_room (Nat.le_of_ble_eq_true rfl)) d_Mo_findRings_156 ⟨Nat.zero_le _, Nat.zero_le _⟩) hP hD hS hA [0, 5, 6] [1, 2, 3, 4, 7, 8, 9, 10, 11, 12] rfl rfl (by decide) (by decide) (fun H locs hP hD hS => ?_)
          have hP : va_P (dC, dI) vwCl (wl_Mo_findRings a_0 a_0_isFlat a_0_pieceLines a_0_pieceBegins a_0_pieceEnds a_0_pieceLeft a_0_pieceRight a_0_outs a_0_isSeen a_0_ringSpaces a_0_ringStarts a_0_ringSizes a_0_ringLeast b_0_across b_0_lows b_0_highs b_0_thick b_0_doorCounts b_0_doorFrom b_0_doorTo b_0_xs b_0_ys b_0_labels b_0_oldXs b_0_oldYs b_0_oldLabels b_0_names b_0_oldNames b_0_wanted b_0_common b_0_flatEdges b_0_upEdges b_0_isPoint b_0_stack b_0_looseLines b_0_looseXs b_0_looseYs b_0_looseReaches b_0_far cZ cI v_0_code v_0_lines v_0_isFresh v_0_hasRun v_0_runs v_0_nx v_0_ny v_0_spaces v_0_oldNx v_0_oldNy v_0_oldSpaces v_0_points v_0_pieces x11 x12 v_0_looseCount f_0_isFlat f_0_pieceLines f_0_pieceBegins f_0_pieceEnds f_0_pieceLeft f_0_pieceRight f_0_outs f45 f14 f15 f16 f17) H := hP.sub [10, 0, 1, 2, 3, 11, 12, 4, 5, 6, 7, 8, 9] rfl
          have hD : va_D A (wl_Mo_findRings a_0 a_0_isFlat a_0_pieceLines a_0_pieceBegins a_0_pieceEnds a_0_pieceLeft a_0_pieceRight a_0_outs a_0_isSeen a_0_ringSpaces a_0_ringStarts a_0_ringSizes a_0_ringLeast b_0_across b_0_lows b_0_highs b_0_thick b_0_doorCounts b_0_doorFrom b_0_doorTo b_0_xs b_0_ys b_0_labels b_0_oldXs b_0_oldYs b_0_oldLabels b_0_names b_0_oldNames b_0_wanted b_0_common b_0_flatEdges b_0_upEdges b_0_isPoint b_0_stack b_0_looseLines b_0_looseXs b_0_looseYs b_0_looseReaches b_0_far cZ cI v_0_code v_0_lines v_0_isFresh v_0_hasRun v_0_runs v_0_nx v_0_ny v_0_spaces v_0_oldNx v_0_oldNy v_0_oldSpaces v_0_points v_0_pieces x11 x12 v_0_looseCount f_0_isFlat f_0_pieceLines f_0_pieceBegins f_0_pieceEnds f_0_pieceLeft f_0_pieceRight f_0_outs f45 f14 f15 f16 f17) := hD.sub [10, 0, 1, 2, 3, 11, 12, 4, 5, 6, 7, 8, 9] (by decide) rfl
          refine lv_iconst (v := (-1)) hx hb d_Mo_findRings_159 (by decide) ?_
          obtain ⟨x83, hb81, hm⟩ := bd1_e hm
          have K80 : ∀ (H : Heap) (locs : List Loc) (ls : Array Slot), va_P (dC, dI) vwCl (wl_Mo_findRings a_0 a_0_isFlat a_0_pieceLines a_0_pieceBegins a_0_pieceEnds a_0_pieceLeft a_0_pieceRight a_0_outs a_0_isSeen a_0_ringSpaces a_0_ringStarts a_0_ringSizes a_0_ringLeast b_0_across b_0_lows b_0_highs b_0_thick b_0_doorCounts b_0_doorFrom b_0_doorTo b_0_xs b_0_ys b_0_labels b_0_oldXs b_0_oldYs b_0_oldLabels b_0_names b_0_oldNames b_0_wanted b_0_common b_0_flatEdges b_0_upEdges b_0_isPoint b_0_stack b_0_looseLines b_0_looseXs b_0_looseYs b_0_looseReaches b_0_far cZ cI v_0_code v_0_lines v_0_isFresh v_0_hasRun v_0_runs v_0_nx v_0_ny v_0_spaces v_0_oldNx v_0_oldNy v_0_oldSpaces v_0_points v_0_pieces x11 x12 v_0_looseCount f_0_isFlat f_0_pieceLines f_0_pieceBegins f_0_pieceEnds f_0_pieceLeft f_0_pieceRight f_0_outs f45 f14 f15 f16 f17) H → va_D A (wl_Mo_findRings a_0 a_0_isFlat a_0_pieceLines a_0_pieceBegins a_0_pieceEnds a_0_pieceLeft a_0_pieceRight a_0_outs a_0_isSeen a_0_ringSpaces a_0_ringStarts a_0_ringSizes a_0_ringLeast b_0_across b_0_lows b_0_highs b_0_thick b_0_doorCounts b_0_doorFrom b_0_doorTo b_0_xs b_0_ys b_0_labels b_0_oldXs b_0_oldYs b_0_oldLabels b_0_names b_0_oldNames b_0_wanted b_0_common b_0_flatEdges b_0_upEdges b_0_isPoint b_0_stack b_0_looseLines b_0_looseXs b_0_looseYs b_0_looseReaches b_0_far cZ cI v_0_code v_0_lines v_0_isFresh v_0_hasRun v_0_runs v_0_nx v_0_ny v_0_spaces v_0_oldNx v_0_oldNy v_0_oldSpaces v_0_points v_0_pieces x11 x12 v_0_looseCount f_0_isFlat f_0_pieceLines f_0_pieceBegins f_0_pieceEnds f_0_pieceLeft f_0_pieceRight f_0_outs f45 f14 f15 f16 f17) → va_S A s.heap H locs → lv_has ls 6 [(0, .ref a_0), (1, .int x10), (2, .int x43), (3, .int x44)] → W p l e rm_Mo_findRings s m args below meth c H locs 0 0 Q (F0 m 168 ls [.int x83, .int x12, .ref a_0]) := by
            intro H locs ls hP hD hS hl
            refine lv_iadd hx hb d_Mo_findRings_168 ?_
            refine lv_topi (fun x85 ex85 => ?_)
            replace hm := lt_el hm ex85
            refine va_put (D := (dC, dI)) (ci := 11) (v := .int x85) (ty := .int) (C := "SpaceCyclesModel") (T := F_Mo) (N := 54) hx hb hts (in_F i_Mo) t_Mo t_Mo_ok n_Mo hown hK hP hD hS 0 rfl rfl 47 (by decide) (hts _ (in_c k_349)) (fun _ h9 => h9) rfl (by decide +kernel) rfl rfl (Nat.le_of_ble_eq_true rfl) d_Mo_findRings_169 (fun H locs hP hD hS => ?_)
            have hP : va_P (dC, dI) vwCl (wl_Mo_findRings a_0 a_0_isFlat a_0_pieceLines a_0_pieceBegins a_0_pieceEnds a_0_pieceLeft a_0_pieceRight a_0_outs a_0_isSeen a_0_ringSpaces a_0_ringStarts a_0_ringSizes a_0_ringLeast b_0_across b_0_lows b_0_highs b_0_thick b_0_doorCounts b_0_doorFrom b_0_doorTo b_0_xs b_0_ys b_0_labels b_0_oldXs b_0_oldYs b_0_oldLabels b_0_names b_0_oldNames b_0_wanted b_0_common b_0_flatEdges b_0_upEdges b_0_isPoint b_0_stack b_0_looseLines b_0_looseXs b_0_looseYs b_0_looseReaches b_0_far cZ cI v_0_code v_0_lines v_0_isFresh v_0_hasRun v_0_runs v_0_nx v_0_ny v_0_spaces v_0_oldNx v_0_oldNy v_0_oldSpaces v_0_points v_0_pieces x11 x85 v_0_looseCount f_0_isFlat f_0_pieceLines f_0_pieceBegins f_0_pieceEnds f_0_pieceLeft f_0_pieceRight f_0_outs f45 f14 f15 f16 f17) H := hP
            have hD : va_D A (wl_Mo_findRings a_0 a_0_isFlat a_0_pieceLines a_0_pieceBegins a_0_pieceEnds a_0_pieceLeft a_0_pieceRight a_0_outs a_0_isSeen a_0_ringSpaces a_0_ringStarts a_0_ringSizes a_0_ringLeast b_0_across b_0_lows b_0_highs b_0_thick b_0_doorCounts b_0_doorFrom b_0_doorTo b_0_xs b_0_ys b_0_labels b_0_oldXs b_0_oldYs b_0_oldLabels b_0_names b_0_oldNames b_0_wanted b_0_common b_0_flatEdges b_0_upEdges b_0_isPoint b_0_stack b_0_looseLines b_0_looseXs b_0_looseYs b_0_looseReaches b_0_far cZ cI v_0_code v_0_lines v_0_isFresh v_0_hasRun v_0_runs v_0_nx v_0_ny v_0_spaces v_0_oldNx v_0_oldNy v_0_oldSpaces v_0_points v_0_pieces x11 x85 v_0_looseCount f_0_isFlat f_0_pieceLines f_0_pieceBegins f_0_pieceEnds f_0_pieceLeft f_0_pieceRight f_0_outs f45 f14 f15 f16 f17) := hD
            refine lv_aload_n hx hb d_Mo_findRings_172 rfl (lv_at hl 0 rfl) ?_
            refine lv_aload_n hx hb d_Mo_findRings_173 rfl (lv_at hl 0 rfl) ?_
            refine lv_iload_n hx hb d_Mo_findRings_174 rfl (lv_at hl 1 rfl) ?_
            obtain ⟨r86, hb87, hm⟩ := bd1_e hm
            have hPc := hP.sub (ws' := (wl_Mo_leftOf a_0 a_0_pieceLeft a_0_pieceRight a_0_isFlat b_0_across b_0_lows b_0_highs b_0_thick b_0_doorCounts b_0_doorFrom b_0_doorTo b_0_xs b_0_ys b_0_labels b_0_oldXs b_0_oldYs b_0_oldLabels b_0_names b_0_oldNames b_0_wanted b_0_common b_0_flatEdges b_0_upEdges b_0_isPoint b_0_stack a_0_pieceLines a_0_pieceBegins a_0_pieceEnds a_0_outs a_0_isSeen a_0_ringSpaces a_0_ringStarts a_0_ringSizes a_0_ringLeast b_0_looseLines b_0_looseXs b_0_looseYs b_0_looseReaches b_0_far cI v_0_code v_0_lines v_0_isFresh v_0_hasRun v_0_runs v_0_nx v_0_ny v_0_spaces v_0_oldNx v_0_oldNy v_0_oldSpaces v_0_points v_0_pieces x11 x85 v_0_looseCount f_0_pieceLeft f_0_pieceRight)) [0, 5, 6] rfl
            have hDc := hD.sub (ws' := (wl_Mo_leftOf a_0 a_0_pieceLeft a_0_pieceRight a_0_isFlat b_0_across b_0_lows b_0_highs b_0_thick b_0_doorCounts b_0_doorFrom b_0_doorTo b_0_xs b_0_ys b_0_labels b_0_oldXs b_0_oldYs b_0_oldLabels b_0_names b_0_oldNames b_0_wanted b_0_common b_0_flatEdges b_0_upEdges b_0_isPoint b_0_stack a_0_pieceLines a_0_pieceBegins a_0_pieceEnds a_0_outs a_0_isSeen a_0_ringSpaces a_0_ringStarts a_0_ringSizes a_0_ringLeast b_0_looseLines b_0_looseXs b_0_looseYs b_0_looseReaches b_0_far cI v_0_code v_0_lines v_0_isFresh v_0_hasRun v_0_runs v_0_nx v_0_ny v_0_spaces v_0_oldNx v_0_oldNy v_0_oldSpaces v_0_points v_0_pieces x11 x85 v_0_looseCount f_0_pieceLeft f_0_pieceRight)) [0, 5, 6] (by decide) rfl
            refine cl_i (wc' := (wl_Mo_leftOf a_0 a_0_pieceLeft a_0_pieceRight a_0_isFlat b_0_across b_0_lows b_0_highs b_0_thick b_0_doorCounts b_0_doorFrom b_0_doorTo b_0_xs b_0_ys b_0_labels b_0_oldXs b_0_oldYs b_0_oldLabels b_0_names b_0_oldNames b_0_wanted b_0_common b_0_flatEdges b_0_upEdges b_0_isPoint b_0_stack a_0_pieceLines a_0_pieceBegins a_0_pieceEnds a_0_outs a_0_isSeen a_0_ringSpaces a_0_ringStarts a_0_ringSizes a_0_ringLeast b_0_looseLines b_0_looseXs b_0_looseYs b_0_looseReaches b_0_far cI v_0_code v_0_lines v_0_isFresh v_0_hasRun v_0_runs v_0_nx v_0_ny v_0_spaces v_0_oldNx v_0_oldNy v_0_oldSpaces v_0_points v_0_pieces x11 x85 v_0_looseCount f_0_pieceLeft f_0_pieceRight)) (va_runV (As := [.int x10]) (rest := [.ref a_0]) ⟨hx, hb, hml, hown, hts⟩ (c_Mo_leftOf l dC dI (cI := cI) (cZ := cZ) (cJ := cJ) a_0 a_0_pieceLeft a_0_pieceRight a_0_isFlat b_0_across b_0_lows b_0_highs b_0_thick b_0_doorCounts b_0_doorFrom b_0_doorTo b_0_xs b_0_ys b_0_labels b_0_oldXs b_0_oldYs b_0_oldLabels b_0_names b_0_oldNames b_0_wanted b_0_common b_0_flatEdges b_0_upEdges b_0_isPoint b_0_stack a_0_pieceLines a_0_pieceBegins a_0_pieceEnds a_0_outs a_0_isSeen a_0_ringSpaces a_0_ringStarts a_0_ringSizes a_0_ringLeast b_0_looseLines b_0_looseXs b_0_looseYs b_0_looseReaches b_0_far H.size v_0_code v_0_lines v_0_isFresh v_0_hasRun v_0_runs v_0_nx v_0_ny v_0_spaces v_0_oldNx v_0_oldNy v_0_oldSpaces v_0_points v_0_pieces x11 x85 v_0_looseCount f_0_pieceLeft f_0_pieceRight x10 r86 hb87) (cwV 1 hts (gl_V k_358 k_357 k_356 k_277 k_355) rfl rfl rfl (by decide +kernel) ⟨Nat.le_of_ble_eq_true rfl, Nat.le_of_ble_eq_true rfl⟩) ⟨PP_blind, va_recv hK hPc (ci := 11) (q0 := 0) rfl rfl, fun U hU hW => PP_at hK hN hPc hDc hU hW⟩ rfl rfl hl.1 rfl (lv_room (Nat.le_of_ble_eq_true rfl)) d_Mo_findRings_175 ⟨Nat.zero_le _, Nat.zero_le _⟩) hP hD hS hA [0, 5, 6] [1, 2, 3, 4, 7, 8, 9, 10, 11, 12] rfl rfl (by decide) (by decide) (fun H locs hP hD hS => ?_)
            have hP : va_P (dC, dI) vwCl (wl_Mo_findRings a_0 a_0_isFlat a_0_pieceLines a_0_pieceBegins a_0_pieceEnds a_0_pieceLeft a_0_pieceRight a_0_outs a_0_isSeen a_0_ringSpaces a_0_ringStarts a_0_ringSizes a_0_ringLeast b_0_across b_0_lows b_0_highs b_0_thick b_0_doorCounts b_0_doorFrom b_0_doorTo b_0_xs b_0_ys b_0_labels b_0_oldXs b_0_oldYs b_0_oldLabels b_0_names b_0_oldNames b_0_wanted b_0_common b_0_flatEdges b_0_upEdges b_0_isPoint b_0_stack b_0_looseLines b_0_looseXs b_0_looseYs b_0_looseReaches b_0_far cZ cI v_0_code v_0_lines v_0_isFresh v_0_hasRun v_0_runs v_0_nx v_0_ny v_0_spaces v_0_oldNx v_0_oldNy v_0_oldSpaces v_0_points v_0_pieces x11 x85 v_0_looseCount f_0_isFlat f_0_pieceLines f_0_pieceBegins f_0_pieceEnds f_0_pieceLeft f_0_pieceRight f_0_outs f45 f14 f15 f16 f17) H := hP.sub [10, 0, 1, 2, 3, 11, 12, 4, 5, 6, 7, 8, 9] rfl
            have hD : va_D A (wl_Mo_findRings a_0 a_0_isFlat a_0_pieceLines a_0_pieceBegins a_0_pieceEnds a_0_pieceLeft a_0_pieceRight a_0_outs a_0_isSeen a_0_ringSpaces a_0_ringStarts a_0_ringSizes a_0_ringLeast b_0_across b_0_lows b_0_highs b_0_thick b_0_doorCounts b_0_doorFrom b_0_doorTo b_0_xs b_0_ys b_0_labels b_0_oldXs b_0_oldYs b_0_oldLabels b_0_names b_0_oldNames b_0_wanted b_0_common b_0_flatEdges b_0_upEdges b_0_isPoint b_0_stack b_0_looseLines b_0_looseXs b_0_looseYs b_0_looseReaches b_0_far cZ cI v_0_code v_0_lines v_0_isFresh v_0_hasRun v_0_runs v_0_nx v_0_ny v_0_spaces v_0_oldNx v_0_oldNy v_0_oldSpaces v_0_points v_0_pieces x11 x85 v_0_looseCount f_0_isFlat f_0_pieceLines f_0_pieceBegins f_0_pieceEnds f_0_pieceLeft f_0_pieceRight f_0_outs f45 f14 f15 f16 f17) := hD.sub [10, 0, 1, 2, 3, 11, 12, 4, 5, 6, 7, 8, 9] (by decide) rfl
            refine lv_iload_n hx hb d_Mo_findRings_178 rfl (lv_at hl 2 rfl) ?_
            refine lv_iload_n hx hb d_Mo_findRings_179 rfl (lv_at hl 3 rfl) ?_
            refine lv_aload_n hx hb d_Mo_findRings_180 rfl (lv_at hl 0 rfl) ?_
            refine lv_iload_n hx hb d_Mo_findRings_181 rfl (lv_at hl 2 rfl) ?_
            obtain ⟨r88, hb89, hm⟩ := bd1_e hm
            have hPc := hP.sub (ws' := (wl_Mo_beginOf a_0 a_0_pieceBegins a_0_pieceEnds a_0_isFlat b_0_across b_0_lows b_0_highs b_0_thick b_0_doorCounts b_0_doorFrom b_0_doorTo b_0_xs b_0_ys b_0_labels b_0_oldXs b_0_oldYs b_0_oldLabels b_0_names b_0_oldNames b_0_wanted b_0_common b_0_flatEdges b_0_upEdges b_0_isPoint b_0_stack a_0_pieceLines a_0_pieceLeft a_0_pieceRight a_0_outs a_0_isSeen a_0_ringSpaces a_0_ringStarts a_0_ringSizes a_0_ringLeast b_0_looseLines b_0_looseXs b_0_looseYs b_0_looseReaches b_0_far cI v_0_code v_0_lines v_0_isFresh v_0_hasRun v_0_runs v_0_nx v_0_ny v_0_spaces v_0_oldNx v_0_oldNy v_0_oldSpaces v_0_points v_0_pieces x11 x85 v_0_looseCount f_0_pieceBegins f_0_pieceEnds)) [0, 3, 4] rfl
            have hDc := hD.sub (ws' := (wl_Mo_beginOf a_0 a_0_pieceBegins a_0_pieceEnds a_0_isFlat b_0_across b_0_lows b_0_highs b_0_thick b_0_doorCounts b_0_doorFrom b_0_doorTo b_0_xs b_0_ys b_0_labels b_0_oldXs b_0_oldYs b_0_oldLabels b_0_names b_0_oldNames b_0_wanted b_0_common b_0_flatEdges b_0_upEdges b_0_isPoint b_0_stack a_0_pieceLines a_0_pieceLeft a_0_pieceRight a_0_outs a_0_isSeen a_0_ringSpaces a_0_ringStarts a_0_ringSizes a_0_ringLeast b_0_looseLines b_0_looseXs b_0_looseYs b_0_looseReaches b_0_far cI v_0_code v_0_lines v_0_isFresh v_0_hasRun v_0_runs v_0_nx v_0_ny v_0_spaces v_0_oldNx v_0_oldNy v_0_oldSpaces v_0_points v_0_pieces x11 x85 v_0_looseCount f_0_pieceBegins f_0_pieceEnds)) [0, 3, 4] (by decide) rfl
            refine cl_i (wc' := (wl_Mo_beginOf a_0 a_0_pieceBegins a_0_pieceEnds a_0_isFlat b_0_across b_0_lows b_0_highs b_0_thick b_0_doorCounts b_0_doorFrom b_0_doorTo b_0_xs b_0_ys b_0_labels b_0_oldXs b_0_oldYs b_0_oldLabels b_0_names b_0_oldNames b_0_wanted b_0_common b_0_flatEdges b_0_upEdges b_0_isPoint b_0_stack a_0_pieceLines a_0_pieceLeft a_0_pieceRight a_0_outs a_0_isSeen a_0_ringSpaces a_0_ringStarts a_0_ringSizes a_0_ringLeast b_0_looseLines b_0_looseXs b_0_looseYs b_0_looseReaches b_0_far cI v_0_code v_0_lines v_0_isFresh v_0_hasRun v_0_runs v_0_nx v_0_ny v_0_spaces v_0_oldNx v_0_oldNy v_0_oldSpaces v_0_points v_0_pieces x11 x85 v_0_looseCount f_0_pieceBegins f_0_pieceEnds)) (va_runV (As := [.int x43]) (rest := [.int x44, .int x43, .int r86, .ref a_0]) ⟨hx, hb, hml, hown, hts⟩ (c_Mo_beginOf l dC dI (cI := cI) (cZ := cZ) (cJ := cJ) a_0 a_0_pieceBegins a_0_pieceEnds a_0_isFlat b_0_across b_0_lows b_0_highs b_0_thick b_0_doorCounts b_0_doorFrom b_0_doorTo b_0_xs b_0_ys b_0_labels b_0_oldXs b_0_oldYs b_0_oldLabels b_0_names b_0_oldNames b_0_wanted b_0_common b_0_flatEdges b_0_upEdges b_0_isPoint b_0_stack a_0_pieceLines a_0_pieceLeft a_0_pieceRight a_0_outs a_0_isSeen a_0_ringSpaces a_0_ringStarts a_0_ringSizes a_0_ringLeast b_0_looseLines b_0_looseXs b_0_looseYs b_0_looseReaches b_0_far H.size v_0_code v_0_lines v_0_isFresh v_0_hasRun v_0_runs v_0_nx v_0_ny v_0_spaces v_0_oldNx v_0_oldNy v_0_oldSpaces v_0_points v_0_pieces x11 x85 v_0_looseCount f_0_pieceBegins f_0_pieceEnds x43 r88 hb89) (cwV 1 hts (gl_V k_343 k_342 k_341 k_277 k_340) rfl rfl rfl (by decide +kernel) ⟨Nat.le_of_ble_eq_true rfl, Nat.le_of_ble_eq_true rfl⟩) ⟨PP_blind, va_recv hK hPc (ci := 11) (q0 := 0) rfl rfl, fun U hU hW => PP_at hK hN hPc hDc hU hW⟩ rfl rfl hl.1 rfl (lv_room (Nat.le_of_ble_eq_true rfl)) d_Mo_findRings_182 ⟨Nat.zero_le _, Nat.zero_le _⟩) hP hD hS hA [0, 3, 4] [1, 2, 5, 6, 7, 8, 9, 10, 11, 12] rfl rfl (by decide) (by decide) (fun H locs hP hD hS => ?_)
            have hP : va_P (dC, dI) vwCl (wl_Mo_findRings a_0 a_0_isFlat a_0_pieceLines a_0_pieceBegins a_0_pieceEnds a_0_pieceLeft a_0_pieceRight a_0_outs a_0_isSeen a_0_ringSpaces a_0_ringStarts a_0_ringSizes a_0_ringLeast b_0_across b_0_lows b_0_highs b_0_thick b_0_doorCounts b_0_doorFrom b_0_doorTo b_0_xs b_0_ys b_0_labels b_0_oldXs b_0_oldYs b_0_oldLabels b_0_names b_0_oldNames b_0_wanted b_0_common b_0_flatEdges b_0_upEdges b_0_isPoint b_0_stack b_0_looseLines b_0_looseXs b_0_looseYs b_0_looseReaches b_0_far cZ cI v_0_code v_0_lines v_0_isFresh v_0_hasRun v_0_runs v_0_nx v_0_ny v_0_spaces v_0_oldNx v_0_oldNy v_0_oldSpaces v_0_points v_0_pieces x11 x85 v_0_looseCount f_0_isFlat f_0_pieceLines f_0_pieceBegins f_0_pieceEnds f_0_pieceLeft f_0_pieceRight f_0_outs f45 f14 f15 f16 f17) H := hP.sub [10, 0, 1, 11, 12, 2, 3, 4, 5, 6, 7, 8, 9] rfl
            have hD : va_D A (wl_Mo_findRings a_0 a_0_isFlat a_0_pieceLines a_0_pieceBegins a_0_pieceEnds a_0_pieceLeft a_0_pieceRight a_0_outs a_0_isSeen a_0_ringSpaces a_0_ringStarts a_0_ringSizes a_0_ringLeast b_0_across b_0_lows b_0_highs b_0_thick b_0_doorCounts b_0_doorFrom b_0_doorTo b_0_xs b_0_ys b_0_labels b_0_oldXs b_0_oldYs b_0_oldLabels b_0_names b_0_oldNames b_0_wanted b_0_common b_0_flatEdges b_0_upEdges b_0_isPoint b_0_stack b_0_looseLines b_0_looseXs b_0_looseYs b_0_looseReaches b_0_far cZ cI v_0_code v_0_lines v_0_isFresh v_0_hasRun v_0_runs v_0_nx v_0_ny v_0_spaces v_0_oldNx v_0_oldNy v_0_oldSpaces v_0_points v_0_pieces x11 x85 v_0_looseCount f_0_isFlat f_0_pieceLines f_0_pieceBegins f_0_pieceEnds f_0_pieceLeft f_0_pieceRight f_0_outs f45 f14 f15 f16 f17) := hD.sub [10, 0, 1, 11, 12, 2, 3, 4, 5, 6, 7, 8, 9] (by decide) rfl
            obtain ⟨x90, f91, f92, f93, f94, hb95, hm⟩ := bd5_e hm
            have hPc := hP.sub (ws' := (wl_Mo_addRing a_0 a_0_ringSpaces a_0_ringStarts a_0_ringSizes a_0_ringLeast a_0_isFlat b_0_across b_0_lows b_0_highs b_0_thick b_0_doorCounts b_0_doorFrom b_0_doorTo b_0_xs b_0_ys b_0_labels b_0_oldXs b_0_oldYs b_0_oldLabels b_0_names b_0_oldNames b_0_wanted b_0_common b_0_flatEdges b_0_upEdges b_0_isPoint b_0_stack a_0_pieceLines a_0_pieceBegins a_0_pieceEnds a_0_pieceLeft a_0_pieceRight a_0_outs a_0_isSeen b_0_looseLines b_0_looseXs b_0_looseYs b_0_looseReaches b_0_far cI v_0_code v_0_lines v_0_isFresh v_0_hasRun v_0_runs v_0_nx v_0_ny v_0_spaces v_0_oldNx v_0_oldNy v_0_oldSpaces v_0_points v_0_pieces x11 x85 v_0_looseCount f14 f15 f16 f17)) [0, 9, 10, 11, 12] rfl
            have hDc := hD.sub (ws' := (wl_Mo_addRing a_0 a_0_ringSpaces a_0_ringStarts a_0_ringSizes a_0_ringLeast a_0_isFlat b_0_across b_0_lows b_0_highs b_0_thick b_0_doorCounts b_0_doorFrom b_0_doorTo b_0_xs b_0_ys b_0_labels b_0_oldXs b_0_oldYs b_0_oldLabels b_0_names b_0_oldNames b_0_wanted b_0_common b_0_flatEdges b_0_upEdges b_0_isPoint b_0_stack a_0_pieceLines a_0_pieceBegins a_0_pieceEnds a_0_pieceLeft a_0_pieceRight a_0_outs a_0_isSeen b_0_looseLines b_0_looseXs b_0_looseYs b_0_looseReaches b_0_far cI v_0_code v_0_lines v_0_isFresh v_0_hasRun v_0_runs v_0_nx v_0_ny v_0_spaces v_0_oldNx v_0_oldNy v_0_oldSpaces v_0_points v_0_pieces x11 x85 v_0_looseCount f14 f15 f16 f17)) [0, 9, 10, 11, 12] (by decide) rfl
            refine cl_v (wc' := (wl_Mo_addRing a_0 a_0_ringSpaces a_0_ringStarts a_0_ringSizes a_0_ringLeast a_0_isFlat b_0_across b_0_lows b_0_highs b_0_thick b_0_doorCounts b_0_doorFrom b_0_doorTo b_0_xs b_0_ys b_0_labels b_0_oldXs b_0_oldYs b_0_oldLabels b_0_names b_0_oldNames b_0_wanted b_0_common b_0_flatEdges b_0_upEdges b_0_isPoint b_0_stack a_0_pieceLines a_0_pieceBegins a_0_pieceEnds a_0_pieceLeft a_0_pieceRight a_0_outs a_0_isSeen b_0_looseLines b_0_looseXs b_0_looseYs b_0_looseReaches b_0_far cI v_0_code v_0_lines v_0_isFresh v_0_hasRun v_0_runs v_0_nx v_0_ny v_0_spaces v_0_oldNx v_0_oldNy v_0_oldSpaces v_0_points v_0_pieces x90 x85 v_0_looseCount f91 f92 f93 f94)) (va_runV (As := [.int r86, .int x43, .int x44, .int r88]) (rest := []) ⟨hx, hb, hml, hown, hts⟩ (c_Mo_addRing l dC dI (cI := cI) (cZ := cZ) (cJ := cJ) a_0 a_0_ringSpaces a_0_ringStarts a_0_ringSizes a_0_ringLeast a_0_isFlat b_0_across b_0_lows b_0_highs b_0_thick b_0_doorCounts b_0_doorFrom b_0_doorTo b_0_xs b_0_ys b_0_labels b_0_oldXs b_0_oldYs b_0_oldLabels b_0_names b_0_oldNames b_0_wanted b_0_common b_0_flatEdges b_0_upEdges b_0_isPoint b_0_stack a_0_pieceLines a_0_pieceBegins a_0_pieceEnds a_0_pieceLeft a_0_pieceRight a_0_outs a_0_isSeen b_0_looseLines b_0_looseXs b_0_looseYs b_0_looseReaches b_0_far H.size v_0_code v_0_lines v_0_isFresh v_0_hasRun v_0_runs v_0_nx v_0_ny v_0_spaces v_0_oldNx v_0_oldNy v_0_oldSpaces v_0_points v_0_pieces x11 x85 v_0_looseCount f14 f15 f16 f17 r86 x43 x44 r88 x90 f91 f92 f93 f94 hb95) (cwV 4 hts (gl_V k_362 k_361 k_360 k_277 k_359) rfl rfl rfl (by decide +kernel) ⟨Nat.le_of_ble_eq_true rfl, Nat.le_of_ble_eq_true rfl⟩) ⟨PP_blind, va_recv hK hPc (ci := 11) (q0 := 0) rfl rfl, fun U hU hW => PP_at hK hN hPc hDc hU hW⟩ rfl rfl hl.1 rfl (lv_room (Nat.le_of_ble_eq_true rfl)) d_Mo_findRings_185 ⟨Nat.zero_le _, Nat.zero_le _⟩) hP hD hS hA [0, 9, 10, 11, 12] [1, 2, 3, 4, 5, 6, 7, 8] rfl rfl (by decide) (by decide) (fun H locs hP hD hS => ?_)
            have hP : va_P (dC, dI) vwCl (wl_Mo_findRings a_0 a_0_isFlat a_0_pieceLines a_0_pieceBegins a_0_pieceEnds a_0_pieceLeft a_0_pieceRight a_0_outs a_0_isSeen a_0_ringSpaces a_0_ringStarts a_0_ringSizes a_0_ringLeast b_0_across b_0_lows b_0_highs b_0_thick b_0_doorCounts b_0_doorFrom b_0_doorTo b_0_xs b_0_ys b_0_labels b_0_oldXs b_0_oldYs b_0_oldLabels b_0_names b_0_oldNames b_0_wanted b_0_common b_0_flatEdges b_0_upEdges b_0_isPoint b_0_stack b_0_looseLines b_0_looseXs b_0_looseYs b_0_looseReaches b_0_far cZ cI v_0_code v_0_lines v_0_isFresh v_0_hasRun v_0_runs v_0_nx v_0_ny v_0_spaces v_0_oldNx v_0_oldNy v_0_oldSpaces v_0_points v_0_pieces x90 x85 v_0_looseCount f_0_isFlat f_0_pieceLines f_0_pieceBegins f_0_pieceEnds f_0_pieceLeft f_0_pieceRight f_0_outs f45 f91 f92 f93 f94) H := hP.sub [8, 0, 1, 2, 3, 4, 5, 6, 7, 9, 10, 11, 12] rfl
            have hD : va_D A (wl_Mo_findRings a_0 a_0_isFlat a_0_pieceLines a_0_pieceBegins a_0_pieceEnds a_0_pieceLeft a_0_pieceRight a_0_outs a_0_isSeen a_0_ringSpaces a_0_ringStarts a_0_ringSizes a_0_ringLeast b_0_across b_0_lows b_0_highs b_0_thick b_0_doorCounts b_0_doorFrom b_0_doorTo b_0_xs b_0_ys b_0_labels b_0_oldXs b_0_oldYs b_0_oldLabels b_0_names b_0_oldNames b_0_wanted b_0_common b_0_flatEdges b_0_upEdges b_0_isPoint b_0_stack b_0_looseLines b_0_looseXs b_0_looseYs b_0_looseReaches b_0_far cZ cI v_0_code v_0_lines v_0_isFresh v_0_hasRun v_0_runs v_0_nx v_0_ny v_0_spaces v_0_oldNx v_0_oldNy v_0_oldSpaces v_0_points v_0_pieces x90 x85 v_0_looseCount f_0_isFlat f_0_pieceLines f_0_pieceBegins f_0_pieceEnds f_0_pieceLeft f_0_pieceRight f_0_outs f45 f91 f92 f93 f94) := hD.sub [8, 0, 1, 2, 3, 4, 5, 6, 7, 9, 10, 11, 12] (by decide) rfl
            cases hm
            exact K28 H locs ls hP hD hS (lv_sub hl [0, 1] rfl)
          replace hm := hb81
          refine lv_icmp_ne (tgt := 167) hx hb d_Mo_findRings_160 (by decide) (fun c84 => ?_) (fun c84 => ?_)
          · replace hm := if_f hm c84
            refine lv_iconst (v := 0) hx hb d_Mo_findRings_167 (by decide) ?_
            cases hm
            exact K80 H locs ls hP hD hS (lv_sub hl [0, 1, 2, 3] rfl)
          · replace hm := if_t hm c84
            refine lv_iload_n hx hb d_Mo_findRings_163 rfl (lv_at hl 3 rfl) ?_
            refine lv_goto (tgt := 168) hx hb d_Mo_findRings_164 (by decide) ?_
            cases hm
            exact K80 H locs ls hP hD hS (lv_sub hl [0, 1, 2, 3] rfl)
  obtain ⟨x18, x19, f20, f21, f22, f23, f24, hb97, hm⟩ := bd7_e hm
  refine L37_25 fu _ _ _ _ _ _ _ _ _ _ _ _ _ _ _ hb97 (fun H locs ls hP hD hS hl => ?_) H locs ls hP hD hS (lv_sub hl [1, 0] rfl)
  cases hm
  exact hret _ H locs ls d_Mo_findRings_194 hP hD hS
set_option maxHeartbeats 4000000 in
set_option maxRecDepth 100000 in
theorem c_Mo_findRings (l : Launch) (dC : Nat → ClassId) (dI : Nat → Nat → Nat) {cI cZ cJ : ClassId} (a_0 a_0_isFlat a_0_pieceLines a_0_pieceBegins a_0_pieceEnds a_0_pieceLeft a_0_pieceRight a_0_outs a_0_isSeen a_0_ringSpaces a_0_ringStarts a_0_ringSizes a_0_ringLeast b_0_across b_0_lows b_0_highs b_0_thick b_0_doorCounts b_0_doorFrom b_0_doorTo b_0_xs b_0_ys b_0_labels b_0_oldXs b_0_oldYs b_0_oldLabels b_0_names b_0_oldNames b_0_wanted b_0_common b_0_flatEdges b_0_upEdges b_0_isPoint b_0_stack b_0_looseLines b_0_looseXs b_0_looseYs b_0_looseReaches b_0_far : Nat) (sz : Nat) (v_0_code : Int32) (v_0_lines : Int32) (v_0_isFresh : Int32) (v_0_hasRun : Int32) (v_0_runs : Int32) (v_0_nx : Int32) (v_0_ny : Int32) (v_0_spaces : Int32) (v_0_oldNx : Int32) (v_0_oldNy : Int32) (v_0_oldSpaces : Int32) (v_0_points : Int32) (v_0_pieces : Int32) (v_0_rings : Int32) (v_0_outsideSides : Int32) (v_0_looseCount : Int32) (f_0_isFlat : Nat → Int32) (f_0_pieceLines : Nat → Int32) (f_0_pieceBegins : Nat → Int32) (f_0_pieceEnds : Nat → Int32) (f_0_pieceLeft : Nat → Int32) (f_0_pieceRight : Nat → Int32) (f_0_outs : Nat → Int32) (f_0_isSeen : Nat → Int32) (f_0_ringSpaces : Nat → Int32) (f_0_ringStarts : Nat → Int32) (f_0_ringSizes : Nat → Int32) (f_0_ringLeast : Nat → Int32)  (ov_0_rings : Int32) (ov_0_outsideSides : Int32) (of_0_isSeen : Nat → Int32) (of_0_ringSpaces : Nat → Int32) (of_0_ringStarts : Nat → Int32) (of_0_ringSizes : Nat → Int32) (of_0_ringLeast : Nat → Int32) (hm : m_Mo_findRings v_0_pieces v_0_rings v_0_outsideSides f_0_isFlat f_0_pieceLines f_0_pieceBegins f_0_pieceEnds f_0_pieceLeft f_0_pieceRight f_0_outs f_0_isSeen f_0_ringSpaces f_0_ringStarts f_0_ringSizes f_0_ringLeast = some (ov_0_rings, ov_0_outsideSides, of_0_isSeen, of_0_ringSpaces, of_0_ringStarts, of_0_ringSizes, of_0_ringLeast)) : Met l y_Mo_findRings w_Mo_findRings rm_Mo_findRings (PP dC dI [(cI, .int), (cZ, .boolean), (cJ, .long)] [.ref a_0] sz (wl_Mo_findRings a_0 a_0_isFlat a_0_pieceLines a_0_pieceBegins a_0_pieceEnds a_0_pieceLeft a_0_pieceRight a_0_outs a_0_isSeen a_0_ringSpaces a_0_ringStarts a_0_ringSizes a_0_ringLeast b_0_across b_0_lows b_0_highs b_0_thick b_0_doorCounts b_0_doorFrom b_0_doorTo b_0_xs b_0_ys b_0_labels b_0_oldXs b_0_oldYs b_0_oldLabels b_0_names b_0_oldNames b_0_wanted b_0_common b_0_flatEdges b_0_upEdges b_0_isPoint b_0_stack b_0_looseLines b_0_looseXs b_0_looseYs b_0_looseReaches b_0_far cZ cI v_0_code v_0_lines v_0_isFresh v_0_hasRun v_0_runs v_0_nx v_0_ny v_0_spaces v_0_oldNx v_0_oldNy v_0_oldSpaces v_0_points v_0_pieces v_0_rings v_0_outsideSides v_0_looseCount f_0_isFlat f_0_pieceLines f_0_pieceBegins f_0_pieceEnds f_0_pieceLeft f_0_pieceRight f_0_outs f_0_isSeen f_0_ringSpaces f_0_ringStarts f_0_ringSizes f_0_ringLeast)) (QV dC dI [(cI, .int), (cZ, .boolean), (cJ, .long)] sz (wl_Mo_findRings a_0 a_0_isFlat a_0_pieceLines a_0_pieceBegins a_0_pieceEnds a_0_pieceLeft a_0_pieceRight a_0_outs a_0_isSeen a_0_ringSpaces a_0_ringStarts a_0_ringSizes a_0_ringLeast b_0_across b_0_lows b_0_highs b_0_thick b_0_doorCounts b_0_doorFrom b_0_doorTo b_0_xs b_0_ys b_0_labels b_0_oldXs b_0_oldYs b_0_oldLabels b_0_names b_0_oldNames b_0_wanted b_0_common b_0_flatEdges b_0_upEdges b_0_isPoint b_0_stack b_0_looseLines b_0_looseXs b_0_looseYs b_0_looseReaches b_0_far cZ cI v_0_code v_0_lines v_0_isFresh v_0_hasRun v_0_runs v_0_nx v_0_ny v_0_spaces v_0_oldNx v_0_oldNy v_0_oldSpaces v_0_points v_0_pieces v_0_rings v_0_outsideSides v_0_looseCount f_0_isFlat f_0_pieceLines f_0_pieceBegins f_0_pieceEnds f_0_pieceLeft f_0_pieceRight f_0_outs f_0_isSeen f_0_ringSpaces f_0_ringStarts f_0_ringSizes f_0_ringLeast) (wl_Mo_findRings a_0 a_0_isFlat a_0_pieceLines a_0_pieceBegins a_0_pieceEnds a_0_pieceLeft a_0_pieceRight a_0_outs a_0_isSeen a_0_ringSpaces a_0_ringStarts a_0_ringSizes a_0_ringLeast b_0_across b_0_lows b_0_highs b_0_thick b_0_doorCounts b_0_doorFrom b_0_doorTo b_0_xs b_0_ys b_0_labels b_0_oldXs b_0_oldYs b_0_oldLabels b_0_names b_0_oldNames b_0_wanted b_0_common b_0_flatEdges b_0_upEdges b_0_isPoint b_0_stack b_0_looseLines b_0_looseXs b_0_looseYs b_0_looseReaches b_0_far cZ cI v_0_code v_0_lines v_0_isFresh v_0_hasRun v_0_runs v_0_nx v_0_ny v_0_spaces v_0_oldNx v_0_oldNy v_0_oldSpaces v_0_points v_0_pieces ov_0_rings ov_0_outsideSides v_0_looseCount f_0_isFlat f_0_pieceLines f_0_pieceBegins f_0_pieceEnds f_0_pieceLeft f_0_pieceRight f_0_outs of_0_isSeen of_0_ringSpaces of_0_ringStarts of_0_ringSizes of_0_ringLeast)) 0 0 (va_A (wl_Mo_findRings a_0 a_0_isFlat a_0_pieceLines a_0_pieceBegins a_0_pieceEnds a_0_pieceLeft a_0_pieceRight a_0_outs a_0_isSeen a_0_ringSpaces a_0_ringStarts a_0_ringSizes a_0_ringLeast b_0_across b_0_lows b_0_highs b_0_thick b_0_doorCounts b_0_doorFrom b_0_doorTo b_0_xs b_0_ys b_0_labels b_0_oldXs b_0_oldYs b_0_oldLabels b_0_names b_0_oldNames b_0_wanted b_0_common b_0_flatEdges b_0_upEdges b_0_isPoint b_0_stack b_0_looseLines b_0_looseXs b_0_looseYs b_0_looseReaches b_0_far cZ cI v_0_code v_0_lines v_0_isFresh v_0_hasRun v_0_runs v_0_nx v_0_ny v_0_spaces v_0_oldNx v_0_oldNy v_0_oldSpaces v_0_points v_0_pieces v_0_rings v_0_outsideSides v_0_looseCount f_0_isFlat f_0_pieceLines f_0_pieceBegins f_0_pieceEnds f_0_pieceLeft f_0_pieceRight f_0_outs f_0_isSeen f_0_ringSpaces f_0_ringStarts f_0_ringSizes f_0_ringLeast) sz) := by
  refine Met.ofW (cc := b_Mo_findRings) (maxL := 6) (ret := none) (by decide) rfl ?_
  intro p e s m args below meth c s₁ B hml hv
  obtain ⟨rfl, hsz, hP, hK, hD0, hN⟩ := hv
  subst hsz
  have hl := lv_entry ([.ref a_0]) (n := 6) (Nat.le_of_ble_eq_true rfl)
  rw [lg_entry_eq]
  generalize (lg_sl ([.ref a_0]) ++ List.replicate (6 - (lg_sl ([.ref a_0])).length) Slot.unset).toArray = ls at hl ⊢
  exact t_Mo_findRings a_0 a_0_isFlat a_0_pieceLines a_0_pieceBegins a_0_pieceEnds a_0_pieceLeft a_0_pieceRight a_0_outs a_0_isSeen a_0_ringSpaces a_0_ringStarts a_0_ringSizes a_0_ringLeast b_0_across b_0_lows b_0_highs b_0_thick b_0_doorCounts b_0_doorFrom b_0_doorTo b_0_xs b_0_ys b_0_labels b_0_oldXs b_0_oldYs b_0_oldLabels b_0_names b_0_oldNames b_0_wanted b_0_common b_0_flatEdges b_0_upEdges b_0_isPoint b_0_stack b_0_looseLines b_0_looseXs b_0_looseYs b_0_looseReaches b_0_far v_0_code v_0_lines v_0_isFresh v_0_hasRun v_0_runs v_0_nx v_0_ny v_0_spaces v_0_oldNx v_0_oldNy v_0_oldSpaces v_0_points v_0_pieces v_0_rings v_0_outsideSides v_0_looseCount f_0_isFlat f_0_pieceLines f_0_pieceBegins f_0_pieceEnds f_0_pieceLeft f_0_pieceRight f_0_outs f_0_isSeen f_0_ringSpaces f_0_ringStarts f_0_ringSizes f_0_ringLeast ov_0_rings ov_0_outsideSides of_0_isSeen of_0_ringSpaces of_0_ringStarts of_0_ringSizes of_0_ringLeast B.exec B.bytes hml (findClass_of_methodNamed B.named) (atoms_spec (ws := w_Mo_findRings) B.pre) hK hN (fun q h => Or.inr h) (fun pc H locs ls hd hP9 hD9 hS => W.vret B.exec B.bytes B.returns (fun t ht hW => ⟨⟨(), rfl, trivial, by rw [ht]; exact hP9, va_K.moved hW.alike hK, hD9⟩, hS.F ht⟩) hS.2.2 hd) hm s.heap [] ls hP hD0.self va_S.rf hl

-- SpaceCyclesModel.reach(IZ)I
abbrev b_Mo_reach : ByteArray := prog_13_method_25_code
abbrev y_Mo_reach : MethodName := ⟨"SpaceCyclesModel", "reach", "(IZ)I"⟩
abbrev w_Mo_reach : List Cond := Cond.code y_Mo_reach b_Mo_reach 7 (some .int) :: gl
abbrev rm_Mo_reach : Room := { frames := 1, cells := 0, slots := 0, locals := 25 }
theorem d_Mo_reach_0 : decode b_Mo_reach 0 = .ok (.iload_n 2, 1) := by decide +kernel
theorem d_Mo_reach_1 : decode b_Mo_reach 1 = .ok (.ifCond .eq 12, 3) := by decide +kernel
theorem d_Mo_reach_4 : decode b_Mo_reach 4 = .ok (.aload_n 0, 1) := by decide +kernel
theorem d_Mo_reach_5 : decode b_Mo_reach 5 = .ok (.getfield 20, 3) := by decide +kernel
theorem d_Mo_reach_8 : decode b_Mo_reach 8 = .ok (.iload_n 1, 1) := by decide +kernel
theorem d_Mo_reach_9 : decode b_Mo_reach 9 = .ok (.iaload, 1) := by decide +kernel
theorem d_Mo_reach_10 : decode b_Mo_reach 10 = .ok (.goto 9, 3) := by decide +kernel
theorem d_Mo_reach_13 : decode b_Mo_reach 13 = .ok (.aload_n 0, 1) := by decide +kernel
theorem d_Mo_reach_14 : decode b_Mo_reach 14 = .ok (.getfield 17, 3) := by decide +kernel
theorem d_Mo_reach_17 : decode b_Mo_reach 17 = .ok (.iload_n 1, 1) := by decide +kernel
theorem d_Mo_reach_18 : decode b_Mo_reach 18 = .ok (.iaload, 1) := by decide +kernel
theorem d_Mo_reach_19 : decode b_Mo_reach 19 = .ok (.istore_n 3, 1) := by decide +kernel
theorem d_Mo_reach_20 : decode b_Mo_reach 20 = .ok (.iconst (-1), 1) := by decide +kernel
theorem d_Mo_reach_21 : decode b_Mo_reach 21 = .ok (.istore 4, 2) := by decide +kernel
theorem d_Mo_reach_23 : decode b_Mo_reach 23 = .ok (.iconst 0, 1) := by decide +kernel
theorem d_Mo_reach_24 : decode b_Mo_reach 24 = .ok (.istore 5, 2) := by decide +kernel
theorem d_Mo_reach_26 : decode b_Mo_reach 26 = .ok (.iload 5, 2) := by decide +kernel
theorem d_Mo_reach_28 : decode b_Mo_reach 28 = .ok (.aload_n 0, 1) := by decide +kernel
theorem d_Mo_reach_29 : decode b_Mo_reach 29 = .ok (.getfield 130, 3) := by decide +kernel
theorem d_Mo_reach_32 : decode b_Mo_reach 32 = .ok (.if_icmp .ge 179, 3) := by decide +kernel
theorem d_Mo_reach_35 : decode b_Mo_reach 35 = .ok (.iconst (-1), 1) := by decide +kernel
theorem d_Mo_reach_36 : decode b_Mo_reach 36 = .ok (.istore 6, 2) := by decide +kernel
theorem d_Mo_reach_38 : decode b_Mo_reach 38 = .ok (.iload 5, 2) := by decide +kernel
theorem d_Mo_reach_40 : decode b_Mo_reach 40 = .ok (.iload_n 1, 1) := by decide +kernel
theorem d_Mo_reach_41 : decode b_Mo_reach 41 = .ok (.if_icmp .eq 65, 3) := by decide +kernel
theorem d_Mo_reach_44 : decode b_Mo_reach 44 = .ok (.aload_n 0, 1) := by decide +kernel
theorem d_Mo_reach_45 : decode b_Mo_reach 45 = .ok (.getfield 7, 3) := by decide +kernel
theorem d_Mo_reach_48 : decode b_Mo_reach 48 = .ok (.iload 5, 2) := by decide +kernel
theorem d_Mo_reach_50 : decode b_Mo_reach 50 = .ok (.baload, 1) := by decide +kernel
theorem d_Mo_reach_51 : decode b_Mo_reach 51 = .ok (.aload_n 0, 1) := by decide +kernel
theorem d_Mo_reach_52 : decode b_Mo_reach 52 = .ok (.getfield 7, 3) := by decide +kernel
theorem d_Mo_reach_55 : decode b_Mo_reach 55 = .ok (.iload_n 1, 1) := by decide +kernel
theorem d_Mo_reach_56 : decode b_Mo_reach 56 = .ok (.baload, 1) := by decide +kernel
theorem d_Mo_reach_57 : decode b_Mo_reach 57 = .ok (.if_icmp .ne 49, 3) := by decide +kernel
theorem d_Mo_reach_60 : decode b_Mo_reach 60 = .ok (.aload_n 0, 1) := by decide +kernel
theorem d_Mo_reach_61 : decode b_Mo_reach 61 = .ok (.getfield 13, 3) := by decide +kernel
theorem d_Mo_reach_64 : decode b_Mo_reach 64 = .ok (.iload 5, 2) := by decide +kernel
theorem d_Mo_reach_66 : decode b_Mo_reach 66 = .ok (.iaload, 1) := by decide +kernel
theorem d_Mo_reach_67 : decode b_Mo_reach 67 = .ok (.aload_n 0, 1) := by decide +kernel
theorem d_Mo_reach_68 : decode b_Mo_reach 68 = .ok (.getfield 13, 3) := by decide +kernel
theorem d_Mo_reach_71 : decode b_Mo_reach 71 = .ok (.iload_n 1, 1) := by decide +kernel
theorem d_Mo_reach_72 : decode b_Mo_reach 72 = .ok (.iaload, 1) := by decide +kernel
theorem d_Mo_reach_73 : decode b_Mo_reach 73 = .ok (.if_icmp .ne 33, 3) := by decide +kernel
theorem d_Mo_reach_76 : decode b_Mo_reach 76 = .ok (.iload_n 2, 1) := by decide +kernel
theorem d_Mo_reach_77 : decode b_Mo_reach 77 = .ok (.ifCond .eq 15, 3) := by decide +kernel
theorem d_Mo_reach_80 : decode b_Mo_reach 80 = .ok (.aload_n 0, 1) := by decide +kernel
theorem d_Mo_reach_81 : decode b_Mo_reach 81 = .ok (.getfield 17, 3) := by decide +kernel
theorem d_Mo_reach_84 : decode b_Mo_reach 84 = .ok (.iload 5, 2) := by decide +kernel
theorem d_Mo_reach_86 : decode b_Mo_reach 86 = .ok (.iaload, 1) := by decide +kernel
theorem d_Mo_reach_87 : decode b_Mo_reach 87 = .ok (.iload_n 3, 1) := by decide +kernel
theorem d_Mo_reach_88 : decode b_Mo_reach 88 = .ok (.isub, 1) := by decide +kernel
theorem d_Mo_reach_89 : decode b_Mo_reach 89 = .ok (.goto 12, 3) := by decide +kernel
theorem d_Mo_reach_92 : decode b_Mo_reach 92 = .ok (.iload_n 3, 1) := by decide +kernel
theorem d_Mo_reach_93 : decode b_Mo_reach 93 = .ok (.aload_n 0, 1) := by decide +kernel
theorem d_Mo_reach_94 : decode b_Mo_reach 94 = .ok (.getfield 20, 3) := by decide +kernel
theorem d_Mo_reach_97 : decode b_Mo_reach 97 = .ok (.iload 5, 2) := by decide +kernel
theorem d_Mo_reach_99 : decode b_Mo_reach 99 = .ok (.iaload, 1) := by decide +kernel
theorem d_Mo_reach_100 : decode b_Mo_reach 100 = .ok (.isub, 1) := by decide +kernel
theorem d_Mo_reach_101 : decode b_Mo_reach 101 = .ok (.istore 6, 2) := by decide +kernel
theorem d_Mo_reach_103 : decode b_Mo_reach 103 = .ok (.goto 75, 3) := by decide +kernel
theorem d_Mo_reach_106 : decode b_Mo_reach 106 = .ok (.aload_n 0, 1) := by decide +kernel
theorem d_Mo_reach_107 : decode b_Mo_reach 107 = .ok (.getfield 7, 3) := by decide +kernel
theorem d_Mo_reach_110 : decode b_Mo_reach 110 = .ok (.iload 5, 2) := by decide +kernel
theorem d_Mo_reach_112 : decode b_Mo_reach 112 = .ok (.baload, 1) := by decide +kernel
theorem d_Mo_reach_113 : decode b_Mo_reach 113 = .ok (.aload_n 0, 1) := by decide +kernel
theorem d_Mo_reach_114 : decode b_Mo_reach 114 = .ok (.getfield 7, 3) := by decide +kernel
theorem d_Mo_reach_117 : decode b_Mo_reach 117 = .ok (.iload_n 1, 1) := by decide +kernel
theorem d_Mo_reach_118 : decode b_Mo_reach 118 = .ok (.baload, 1) := by decide +kernel
theorem d_Mo_reach_119 : decode b_Mo_reach 119 = .ok (.if_icmp .eq 59, 3) := by decide +kernel
theorem d_Mo_reach_122 : decode b_Mo_reach 122 = .ok (.aload_n 0, 1) := by decide +kernel
theorem d_Mo_reach_123 : decode b_Mo_reach 123 = .ok (.getfield 13, 3) := by decide +kernel
theorem d_Mo_reach_126 : decode b_Mo_reach 126 = .ok (.iload_n 1, 1) := by decide +kernel
theorem d_Mo_reach_127 : decode b_Mo_reach 127 = .ok (.iaload, 1) := by decide +kernel
theorem d_Mo_reach_128 : decode b_Mo_reach 128 = .ok (.i2l, 1) := by decide +kernel
theorem d_Mo_reach_129 : decode b_Mo_reach 129 = .ok (.aload_n 0, 1) := by decide +kernel
theorem d_Mo_reach_130 : decode b_Mo_reach 130 = .ok (.getfield 17, 3) := by decide +kernel
theorem d_Mo_reach_133 : decode b_Mo_reach 133 = .ok (.iload 5, 2) := by decide +kernel
theorem d_Mo_reach_135 : decode b_Mo_reach 135 = .ok (.iaload, 1) := by decide +kernel
theorem d_Mo_reach_136 : decode b_Mo_reach 136 = .ok (.i2l, 1) := by decide +kernel
theorem d_Mo_reach_137 : decode b_Mo_reach 137 = .ok (.aload_n 0, 1) := by decide +kernel
theorem d_Mo_reach_138 : decode b_Mo_reach 138 = .ok (.getfield 20, 3) := by decide +kernel
theorem d_Mo_reach_141 : decode b_Mo_reach 141 = .ok (.iload 5, 2) := by decide +kernel
theorem d_Mo_reach_143 : decode b_Mo_reach 143 = .ok (.iaload, 1) := by decide +kernel
theorem d_Mo_reach_144 : decode b_Mo_reach 144 = .ok (.i2l, 1) := by decide +kernel
theorem d_Mo_reach_145 : decode b_Mo_reach 145 = .ok (.invokestatic 133, 3) := by decide +kernel
theorem d_Mo_reach_148 : decode b_Mo_reach 148 = .ok (.ifCond .eq 30, 3) := by decide +kernel
theorem d_Mo_reach_151 : decode b_Mo_reach 151 = .ok (.iload_n 2, 1) := by decide +kernel
theorem d_Mo_reach_152 : decode b_Mo_reach 152 = .ok (.ifCond .eq 15, 3) := by decide +kernel
theorem d_Mo_reach_155 : decode b_Mo_reach 155 = .ok (.aload_n 0, 1) := by decide +kernel
theorem d_Mo_reach_156 : decode b_Mo_reach 156 = .ok (.getfield 13, 3) := by decide +kernel
theorem d_Mo_reach_159 : decode b_Mo_reach 159 = .ok (.iload 5, 2) := by decide +kernel
theorem d_Mo_reach_161 : decode b_Mo_reach 161 = .ok (.iaload, 1) := by decide +kernel
theorem d_Mo_reach_162 : decode b_Mo_reach 162 = .ok (.iload_n 3, 1) := by decide +kernel
theorem d_Mo_reach_163 : decode b_Mo_reach 163 = .ok (.isub, 1) := by decide +kernel
theorem d_Mo_reach_164 : decode b_Mo_reach 164 = .ok (.goto 12, 3) := by decide +kernel
theorem d_Mo_reach_167 : decode b_Mo_reach 167 = .ok (.iload_n 3, 1) := by decide +kernel
theorem d_Mo_reach_168 : decode b_Mo_reach 168 = .ok (.aload_n 0, 1) := by decide +kernel
theorem d_Mo_reach_169 : decode b_Mo_reach 169 = .ok (.getfield 13, 3) := by decide +kernel
theorem d_Mo_reach_172 : decode b_Mo_reach 172 = .ok (.iload 5, 2) := by decide +kernel
theorem d_Mo_reach_174 : decode b_Mo_reach 174 = .ok (.iaload, 1) := by decide +kernel
theorem d_Mo_reach_175 : decode b_Mo_reach 175 = .ok (.isub, 1) := by decide +kernel
theorem d_Mo_reach_176 : decode b_Mo_reach 176 = .ok (.istore 6, 2) := by decide +kernel
theorem d_Mo_reach_178 : decode b_Mo_reach 178 = .ok (.iload 6, 2) := by decide +kernel
theorem d_Mo_reach_180 : decode b_Mo_reach 180 = .ok (.ifCond .le 21, 3) := by decide +kernel
theorem d_Mo_reach_183 : decode b_Mo_reach 183 = .ok (.iload 4, 2) := by decide +kernel
theorem d_Mo_reach_185 : decode b_Mo_reach 185 = .ok (.iconst (-1), 1) := by decide +kernel
theorem d_Mo_reach_186 : decode b_Mo_reach 186 = .ok (.if_icmp .eq 10, 3) := by decide +kernel
theorem d_Mo_reach_189 : decode b_Mo_reach 189 = .ok (.iload 6, 2) := by decide +kernel
theorem d_Mo_reach_191 : decode b_Mo_reach 191 = .ok (.iload 4, 2) := by decide +kernel
theorem d_Mo_reach_193 : decode b_Mo_reach 193 = .ok (.if_icmp .ge 8, 3) := by decide +kernel
theorem d_Mo_reach_196 : decode b_Mo_reach 196 = .ok (.iload 6, 2) := by decide +kernel
theorem d_Mo_reach_198 : decode b_Mo_reach 198 = .ok (.goto 5, 3) := by decide +kernel
theorem d_Mo_reach_201 : decode b_Mo_reach 201 = .ok (.iload 4, 2) := by decide +kernel
theorem d_Mo_reach_203 : decode b_Mo_reach 203 = .ok (.istore 4, 2) := by decide +kernel
theorem d_Mo_reach_205 : decode b_Mo_reach 205 = .ok (.iinc 5 1, 3) := by decide +kernel
theorem d_Mo_reach_208 : decode b_Mo_reach 208 = .ok (.goto (-182), 3) := by decide +kernel
theorem d_Mo_reach_211 : decode b_Mo_reach 211 = .ok (.iload 4, 2) := by decide +kernel
theorem d_Mo_reach_213 : decode b_Mo_reach 213 = .ok (.ireturn, 1) := by decide +kernel
abbrev wl_Mo_reach (a_0 : Nat) (a_0_isFlat : Nat) (a_0_across : Nat) (a_0_lows : Nat) (a_0_highs : Nat) (b_0_thick : Nat) (b_0_doorCounts : Nat) (b_0_doorFrom : Nat) (b_0_doorTo : Nat) (b_0_xs : Nat) (b_0_ys : Nat) (b_0_labels : Nat) (b_0_oldXs : Nat) (b_0_oldYs : Nat) (b_0_oldLabels : Nat) (b_0_names : Nat) (b_0_oldNames : Nat) (b_0_wanted : Nat) (b_0_common : Nat) (b_0_flatEdges : Nat) (b_0_upEdges : Nat) (b_0_isPoint : Nat) (b_0_stack : Nat) (b_0_pieceLines : Nat) (b_0_pieceBegins : Nat) (b_0_pieceEnds : Nat) (b_0_pieceLeft : Nat) (b_0_pieceRight : Nat) (b_0_outs : Nat) (b_0_isSeen : Nat) (b_0_ringSpaces : Nat) (b_0_ringStarts : Nat) (b_0_ringSizes : Nat) (b_0_ringLeast : Nat) (b_0_looseLines : Nat) (b_0_looseXs : Nat) (b_0_looseYs : Nat) (b_0_looseReaches : Nat) (b_0_far : Nat) (cZ : ClassId) (cI : ClassId) (v_0_code : Int32) (v_0_lines : Int32) (v_0_isFresh : Int32) (v_0_hasRun : Int32) (v_0_runs : Int32) (v_0_nx : Int32) (v_0_ny : Int32) (v_0_spaces : Int32) (v_0_oldNx : Int32) (v_0_oldNy : Int32) (v_0_oldSpaces : Int32) (v_0_points : Int32) (v_0_pieces : Int32) (v_0_rings : Int32) (v_0_outsideSides : Int32) (v_0_looseCount : Int32) (f_0_isFlat : Nat → Int32) (f_0_across : Nat → Int32) (f_0_lows : Nat → Int32) (f_0_highs : Nat → Int32) : va_W := [(a_0, .inr (11, [.int v_0_code, .ref a_0_isFlat, .ref a_0_across, .ref a_0_lows, .ref a_0_highs, .ref b_0_thick, .int v_0_lines, .ref b_0_doorCounts, .ref b_0_doorFrom, .ref b_0_doorTo, .int v_0_isFresh, .int v_0_hasRun, .int v_0_runs, .ref b_0_xs, .ref b_0_ys, .int v_0_nx, .int v_0_ny, .ref b_0_labels, .int v_0_spaces, .ref b_0_oldXs, .ref b_0_oldYs, .int v_0_oldNx, .int v_0_oldNy, .ref b_0_oldLabels, .int v_0_oldSpaces, .ref b_0_names, .ref b_0_oldNames, .ref b_0_wanted, .ref b_0_common, .ref b_0_flatEdges, .ref b_0_upEdges, .ref b_0_isPoint, .int v_0_points, .ref b_0_stack, .ref b_0_pieceLines, .ref b_0_pieceBegins, .ref b_0_pieceEnds, .ref b_0_pieceLeft, .ref b_0_pieceRight, .int v_0_pieces, .ref b_0_outs, .ref b_0_isSeen, .ref b_0_ringSpaces, .ref b_0_ringStarts, .ref b_0_ringSizes, .ref b_0_ringLeast, .int v_0_rings, .int v_0_outsideSides, .ref b_0_looseLines, .ref b_0_looseXs, .ref b_0_looseYs, .ref b_0_looseReaches, .int v_0_looseCount, .ref b_0_far])), (a_0_isFlat, .inl (cZ, 20, .inl f_0_isFlat)), (a_0_across, .inl (cI, 20, .inl f_0_across)), (a_0_lows, .inl (cI, 20, .inl f_0_lows)), (a_0_highs, .inl (cI, 20, .inl f_0_highs))]
def m_Mo_reach_L26 (l1 : Int32) (l2 : Int32) (l3 : Int32) (v_0_lines : Int32) (f_0_isFlat : Nat → Int32) (f_0_across : Nat → Int32) (f_0_lows : Nat → Int32) (f_0_highs : Nat → Int32) : Nat → Int32 → Int32 → Option (Int32)
  | 0, _, _ => none
  | n + 1, l4, l5 =>
    if v_0_lines ≤ l5 then (
      some l4)
    else (
      bd1 (
        if l5 = l1 then (
        gI l5 20 <|
        gI l1 20 <|
        if (f_0_isFlat l5.toNatClampNeg) = (f_0_isFlat l1.toNatClampNeg) then (
          some (-1))
        else (
          gI l1 20 <|
          gI l5 20 <|
          gI l5 20 <|
          bd1 (m_Mo_isIn (Int32.toInt64 (f_0_across l1.toNatClampNeg)) (Int32.toInt64 (f_0_lows l5.toNatClampNeg)) (Int32.toInt64 (f_0_highs l5.toNatClampNeg))) fun r20 =>
          if r20 = 0 then (
            some (-1))
          else (
            bd1 (
              if l2 = 0 then (
              gI l5 20 <|
              some (l3 - (f_0_across l5.toNatClampNeg)))
            else (
              gI l5 20 <|
              some ((f_0_across l5.toNatClampNeg) - l3)))
            fun (x26 : Int32) =>
            some x26)))
      else (
        gI l5 20 <|
        gI l1 20 <|
        if (f_0_isFlat l5.toNatClampNeg) = (f_0_isFlat l1.toNatClampNeg) then (
          gI l5 20 <|
          gI l1 20 <|
          if (f_0_across l5.toNatClampNeg) = (f_0_across l1.toNatClampNeg) then (
            bd1 (
              if l2 = 0 then (
              gI l5 20 <|
              some (l3 - (f_0_highs l5.toNatClampNeg)))
            else (
              gI l5 20 <|
              some ((f_0_lows l5.toNatClampNeg) - l3)))
            fun (x71 : Int32) =>
            some x71)
          else (
            gI l5 20 <|
            gI l1 20 <|
            if (f_0_isFlat l5.toNatClampNeg) = (f_0_isFlat l1.toNatClampNeg) then (
              some (-1))
            else (
              gI l1 20 <|
              gI l5 20 <|
              gI l5 20 <|
              bd1 (m_Mo_isIn (Int32.toInt64 (f_0_across l1.toNatClampNeg)) (Int32.toInt64 (f_0_lows l5.toNatClampNeg)) (Int32.toInt64 (f_0_highs l5.toNatClampNeg))) fun r58 =>
              if r58 = 0 then (
                some (-1))
              else (
                bd1 (
                  if l2 = 0 then (
                  gI l5 20 <|
                  some (l3 - (f_0_across l5.toNatClampNeg)))
                else (
                  gI l5 20 <|
                  some ((f_0_across l5.toNatClampNeg) - l3)))
                fun (x64 : Int32) =>
                some x64))))
        else (
          gI l5 20 <|
          gI l1 20 <|
          if (f_0_isFlat l5.toNatClampNeg) = (f_0_isFlat l1.toNatClampNeg) then (
            some (-1))
          else (
            gI l1 20 <|
            gI l5 20 <|
            gI l5 20 <|
            bd1 (m_Mo_isIn (Int32.toInt64 (f_0_across l1.toNatClampNeg)) (Int32.toInt64 (f_0_lows l5.toNatClampNeg)) (Int32.toInt64 (f_0_highs l5.toNatClampNeg))) fun r39 =>
            if r39 = 0 then (
              some (-1))
            else (
              bd1 (
                if l2 = 0 then (
                gI l5 20 <|
                some (l3 - (f_0_across l5.toNatClampNeg)))
              else (
                gI l5 20 <|
                some ((f_0_across l5.toNatClampNeg) - l3)))
              fun (x45 : Int32) =>
              some x45)))))
      fun (x12 : Int32) =>
      bd1 (
          if x12 ≤ 0 then (
          some l4)
        else (
          if l4 = (-1) then (
            some x12)
          else (
            if l4 ≤ x12 then (
              some l4)
            else (
              some x12))))
        fun (x78 : Int32) =>
        lt_ (l5 + 1) fun x82 =>
          m_Mo_reach_L26 l1 l2 l3 v_0_lines f_0_isFlat f_0_across f_0_lows f_0_highs n x78 x82)
def m_Mo_reach (p1 : Int32) (p2 : Int32) (v_0_lines : Int32) (f_0_isFlat : Nat → Int32) (f_0_across : Nat → Int32) (f_0_lows : Nat → Int32) (f_0_highs : Nat → Int32) : Option (Int32) :=
  bd1 (
    if p2 = 0 then (
    gI p1 20 <|
    some (f_0_lows p1.toNatClampNeg))
  else (
    gI p1 20 <|
    some (f_0_highs p1.toNatClampNeg)))
  fun (x4 : Int32) =>
  bd1 (m_Mo_reach_L26 p1 p2 x4 v_0_lines f_0_isFlat f_0_across f_0_lows f_0_highs fu (-1) 0) fun x10 =>
    some x10

set_option maxHeartbeats 4000000 in
set_option maxRecDepth 100000 in
theorem t_Mo_reach {p : Program} {l : Launch} {e : Env} {s : State} {m : MethodId} {args : Array Value} {below : List Frame} {meth : Method} {c : Code} {A : Nat → Prop} {Q : State → Prop} {dC : Nat → ClassId} {dI : Nat → Nat → Nat} {cI cZ cJ : ClassId} (a_0 a_0_isFlat a_0_across a_0_lows a_0_highs b_0_thick b_0_doorCounts b_0_doorFrom b_0_doorTo b_0_xs b_0_ys b_0_labels b_0_oldXs b_0_oldYs b_0_oldLabels b_0_names b_0_oldNames b_0_wanted b_0_common b_0_flatEdges b_0_upEdges b_0_isPoint b_0_stack b_0_pieceLines b_0_pieceBegins b_0_pieceEnds b_0_pieceLeft b_0_pieceRight b_0_outs b_0_isSeen b_0_ringSpaces b_0_ringStarts b_0_ringSizes b_0_ringLeast b_0_looseLines b_0_looseXs b_0_looseYs b_0_looseReaches b_0_far : Nat) (v_0_code : Int32) (v_0_lines : Int32) (v_0_isFresh : Int32) (v_0_hasRun : Int32) (v_0_runs : Int32) (v_0_nx : Int32) (v_0_ny : Int32) (v_0_spaces : Int32) (v_0_oldNx : Int32) (v_0_oldNy : Int32) (v_0_oldSpaces : Int32) (v_0_points : Int32) (v_0_pieces : Int32) (v_0_rings : Int32) (v_0_outsideSides : Int32) (v_0_looseCount : Int32) (f_0_isFlat : Nat → Int32) (f_0_across : Nat → Int32) (f_0_lows : Nat → Int32) (f_0_highs : Nat → Int32) (p1 : Int32) (p2 : Int32) (R0 : Int32) (hx : p.tables.exec = Jvm.exec) (hb : c.code = b_Mo_reach) (hml : c.maxLocals = 7) (hown : s.vm.findClass "SpaceCyclesModel" = some m.cls) (hts : ∀ w ∈ w_Mo_reach, w.before args s = true) (hK : va_K (dC, dI) vwCl [(cI, .int), (cZ, .boolean), (cJ, .long)] s) (hN : NX s) (hA : ∀ q : Nat, s.heap.size ≤ q → A q)
    (hret : ∀ (pc : Nat) (H : Heap) (locs : List Loc) (ls : Array Slot), decode b_Mo_reach pc = .ok (.ireturn, 1) → va_P (dC, dI) vwCl (wl_Mo_reach a_0 a_0_isFlat a_0_across a_0_lows a_0_highs b_0_thick b_0_doorCounts b_0_doorFrom b_0_doorTo b_0_xs b_0_ys b_0_labels b_0_oldXs b_0_oldYs b_0_oldLabels b_0_names b_0_oldNames b_0_wanted b_0_common b_0_flatEdges b_0_upEdges b_0_isPoint b_0_stack b_0_pieceLines b_0_pieceBegins b_0_pieceEnds b_0_pieceLeft b_0_pieceRight b_0_outs b_0_isSeen b_0_ringSpaces b_0_ringStarts b_0_ringSizes b_0_ringLeast b_0_looseLines b_0_looseXs b_0_looseYs b_0_looseReaches b_0_far cZ cI v_0_code v_0_lines v_0_isFresh v_0_hasRun v_0_runs v_0_nx v_0_ny v_0_spaces v_0_oldNx v_0_oldNy v_0_oldSpaces v_0_points v_0_pieces v_0_rings v_0_outsideSides v_0_looseCount f_0_isFlat f_0_across f_0_lows f_0_highs) H → va_D A (wl_Mo_reach a_0 a_0_isFlat a_0_across a_0_lows a_0_highs b_0_thick b_0_doorCounts b_0_doorFrom b_0_doorTo b_0_xs b_0_ys b_0_labels b_0_oldXs b_0_oldYs b_0_oldLabels b_0_names b_0_oldNames b_0_wanted b_0_common b_0_flatEdges b_0_upEdges b_0_isPoint b_0_stack b_0_pieceLines b_0_pieceBegins b_0_pieceEnds b_0_pieceLeft b_0_pieceRight b_0_outs b_0_isSeen b_0_ringSpaces b_0_ringStarts b_0_ringSizes b_0_ringLeast b_0_looseLines b_0_looseXs b_0_looseYs b_0_looseReaches b_0_far cZ cI v_0_code v_0_lines v_0_isFresh v_0_hasRun v_0_runs v_0_nx v_0_ny v_0_spaces v_0_oldNx v_0_oldNy v_0_oldSpaces v_0_points v_0_pieces v_0_rings v_0_outsideSides v_0_looseCount f_0_isFlat f_0_across f_0_lows f_0_highs) → va_S A s.heap H locs → W p l e rm_Mo_reach s m args below meth c H locs 0 0 Q (F0 m pc ls [.int R0]))
    (hm : m_Mo_reach p1 p2 v_0_lines f_0_isFlat f_0_across f_0_lows f_0_highs = some R0) : ∀ (H : Heap) (locs : List Loc) (ls : Array Slot), va_P (dC, dI) vwCl (wl_Mo_reach a_0 a_0_isFlat a_0_across a_0_lows a_0_highs b_0_thick b_0_doorCounts b_0_doorFrom b_0_doorTo b_0_xs b_0_ys b_0_labels b_0_oldXs b_0_oldYs b_0_oldLabels b_0_names b_0_oldNames b_0_wanted b_0_common b_0_flatEdges b_0_upEdges b_0_isPoint b_0_stack b_0_pieceLines b_0_pieceBegins b_0_pieceEnds b_0_pieceLeft b_0_pieceRight b_0_outs b_0_isSeen b_0_ringSpaces b_0_ringStarts b_0_ringSizes b_0_ringLeast b_0_looseLines b_0_looseXs b_0_looseYs b_0_looseReaches b_0_far cZ cI v_0_code v_0_lines v_0_isFresh v_0_hasRun v_0_runs v_0_nx v_0_ny v_0_spaces v_0_oldNx v_0_oldNy v_0_oldSpaces v_0_points v_0_pieces v_0_rings v_0_outsideSides v_0_looseCount f_0_isFlat f_0_across f_0_lows f_0_highs) H → va_D A (wl_Mo_reach a_0 a_0_isFlat a_0_across a_0_lows a_0_highs b_0_thick b_0_doorCounts b_0_doorFrom b_0_doorTo b_0_xs b_0_ys b_0_labels b_0_oldXs b_0_oldYs b_0_oldLabels b_0_names b_0_oldNames b_0_wanted b_0_common b_0_flatEdges b_0_upEdges b_0_isPoint b_0_stack b_0_pieceLines b_0_pieceBegins b_0_pieceEnds b_0_pieceLeft b_0_pieceRight b_0_outs b_0_isSeen b_0_ringSpaces b_0_ringStarts b_0_ringSizes b_0_ringLeast b_0_looseLines b_0_looseXs b_0_looseYs b_0_looseReaches b_0_far cZ cI v_0_code v_0_lines v_0_isFresh v_0_hasRun v_0_runs v_0_nx v_0_ny v_0_spaces v_0_oldNx v_0_oldNy v_0_oldSpaces v_0_points v_0_pieces v_0_rings v_0_outsideSides v_0_looseCount f_0_isFlat f_0_across f_0_lows f_0_highs) → va_S A s.heap H locs → lv_has ls 7 [(0, .ref a_0), (1, .int p1), (2, .int p2)] → W p l e rm_Mo_reach s m args below meth c H locs 0 0 Q (F0 m 0 ls []) := by
  intro H locs ls hP hD hS hl
  unfold m_Mo_reach at hm
  refine lv_iload_n hx hb d_Mo_reach_0 rfl (lv_at hl 2 rfl) ?_
  obtain ⟨x4, hb2, hm⟩ := bd1_e hm
  have K1 : ∀ (H : Heap) (locs : List Loc) (ls : Array Slot), va_P (dC, dI) vwCl (wl_Mo_reach a_0 a_0_isFlat a_0_across a_0_lows a_0_highs b_0_thick b_0_doorCounts b_0_doorFrom b_0_doorTo b_0_xs b_0_ys b_0_labels b_0_oldXs b_0_oldYs b_0_oldLabels b_0_names b_0_oldNames b_0_wanted b_0_common b_0_flatEdges b_0_upEdges b_0_isPoint b_0_stack b_0_pieceLines b_0_pieceBegins b_0_pieceEnds b_0_pieceLeft b_0_pieceRight b_0_outs b_0_isSeen b_0_ringSpaces b_0_ringStarts b_0_ringSizes b_0_ringLeast b_0_looseLines b_0_looseXs b_0_looseYs b_0_looseReaches b_0_far cZ cI v_0_code v_0_lines v_0_isFresh v_0_hasRun v_0_runs v_0_nx v_0_ny v_0_spaces v_0_oldNx v_0_oldNy v_0_oldSpaces v_0_points v_0_pieces v_0_rings v_0_outsideSides v_0_looseCount f_0_isFlat f_0_across f_0_lows f_0_highs) H → va_D A (wl_Mo_reach a_0 a_0_isFlat a_0_across a_0_lows a_0_highs b_0_thick b_0_doorCounts b_0_doorFrom b_0_doorTo b_0_xs b_0_ys b_0_labels b_0_oldXs b_0_oldYs b_0_oldLabels b_0_names b_0_oldNames b_0_wanted b_0_common b_0_flatEdges b_0_upEdges b_0_isPoint b_0_stack b_0_pieceLines b_0_pieceBegins b_0_pieceEnds b_0_pieceLeft b_0_pieceRight b_0_outs b_0_isSeen b_0_ringSpaces b_0_ringStarts b_0_ringSizes b_0_ringLeast b_0_looseLines b_0_looseXs b_0_looseYs b_0_looseReaches b_0_far cZ cI v_0_code v_0_lines v_0_isFresh v_0_hasRun v_0_runs v_0_nx v_0_ny v_0_spaces v_0_oldNx v_0_oldNy v_0_oldSpaces v_0_points v_0_pieces v_0_rings v_0_outsideSides v_0_looseCount f_0_isFlat f_0_across f_0_lows f_0_highs) → va_S A s.heap H locs → lv_has ls 7 [(0, .ref a_0), (1, .int p1), (2, .int p2)] → W p l e rm_Mo_reach s m args below meth c H locs 0 0 Q (F0 m 19 ls [.int x4]) := by
    intro H locs ls hP hD hS hl
    refine lv_istore_n (lv' := [(3, .int x4), (0, .ref a_0), (1, .int p1), (2, .int p2)]) hx hb d_Mo_reach_19 rfl hl (by decide) rfl (fun ls hl => ?_)
    refine lv_iconst (v := (-1)) hx hb d_Mo_reach_20 (by decide) ?_
    refine lv_istore (lv' := [(4, .int (-1)), (3, .int x4), (0, .ref a_0), (1, .int p1), (2, .int p2)]) hx hb d_Mo_reach_21 hl (by decide) rfl (fun ls hl => ?_)
    refine lv_iconst (v := 0) hx hb d_Mo_reach_23 (by decide) ?_
    refine lv_istore (lv' := [(5, .int 0), (4, .int (-1)), (3, .int x4), (0, .ref a_0), (1, .int p1), (2, .int p2)]) hx hb d_Mo_reach_24 hl (by decide) rfl (fun ls hl => ?_)
    have L26_11 : ∀ (n : Nat) (x8 : Int32) (x9 : Int32) (x10 : Int32), m_Mo_reach_L26 p1 p2 x4 v_0_lines f_0_isFlat f_0_across f_0_lows f_0_highs n x8 x9 = some x10 → (∀ (H : Heap) (locs : List Loc) (ls : Array Slot), va_P (dC, dI) vwCl (wl_Mo_reach a_0 a_0_isFlat a_0_across a_0_lows a_0_highs b_0_thick b_0_doorCounts b_0_doorFrom b_0_doorTo b_0_xs b_0_ys b_0_labels b_0_oldXs b_0_oldYs b_0_oldLabels b_0_names b_0_oldNames b_0_wanted b_0_common b_0_flatEdges b_0_upEdges b_0_isPoint b_0_stack b_0_pieceLines b_0_pieceBegins b_0_pieceEnds b_0_pieceLeft b_0_pieceRight b_0_outs b_0_isSeen b_0_ringSpaces b_0_ringStarts b_0_ringSizes b_0_ringLeast b_0_looseLines b_0_looseXs b_0_looseYs b_0_looseReaches b_0_far cZ cI v_0_code v_0_lines v_0_isFresh v_0_hasRun v_0_runs v_0_nx v_0_ny v_0_spaces v_0_oldNx v_0_oldNy v_0_oldSpaces v_0_points v_0_pieces v_0_rings v_0_outsideSides v_0_looseCount f_0_isFlat f_0_across f_0_lows f_0_highs) H → va_D A (wl_Mo_reach a_0 a_0_isFlat a_0_across a_0_lows a_0_highs b_0_thick b_0_doorCounts b_0_doorFrom b_0_doorTo b_0_xs b_0_ys b_0_labels b_0_oldXs b_0_oldYs b_0_oldLabels b_0_names b_0_oldNames b_0_wanted b_0_common b_0_flatEdges b_0_upEdges b_0_isPoint b_0_stack b_0_pieceLines b_0_pieceBegins b_0_pieceEnds b_0_pieceLeft b_0_pieceRight b_0_outs b_0_isSeen b_0_ringSpaces b_0_ringStarts b_0_ringSizes b_0_ringLeast b_0_looseLines b_0_looseXs b_0_looseYs b_0_looseReaches b_0_far cZ cI v_0_code v_0_lines v_0_isFresh v_0_hasRun v_0_runs v_0_nx v_0_ny v_0_spaces v_0_oldNx v_0_oldNy v_0_oldSpaces v_0_points v_0_pieces v_0_rings v_0_outsideSides v_0_looseCount f_0_isFlat f_0_across f_0_lows f_0_highs) → va_S A s.heap H locs → lv_has ls 7 [(4, .int x10)] → W p l e rm_Mo_reach s m args below meth c H locs 0 0 Q (F0 m 211 ls [])) → ∀ (H : Heap) (locs : List Loc) (ls : Array Slot), va_P (dC, dI) vwCl (wl_Mo_reach a_0 a_0_isFlat a_0_across a_0_lows a_0_highs b_0_thick b_0_doorCounts b_0_doorFrom b_0_doorTo b_0_xs b_0_ys b_0_labels b_0_oldXs b_0_oldYs b_0_oldLabels b_0_names b_0_oldNames b_0_wanted b_0_common b_0_flatEdges b_0_upEdges b_0_isPoint b_0_stack b_0_pieceLines b_0_pieceBegins b_0_pieceEnds b_0_pieceLeft b_0_pieceRight b_0_outs b_0_isSeen b_0_ringSpaces b_0_ringStarts b_0_ringSizes b_0_ringLeast b_0_looseLines b_0_looseXs b_0_looseYs b_0_looseReaches b_0_far cZ cI v_0_code v_0_lines v_0_isFresh v_0_hasRun v_0_runs v_0_nx v_0_ny v_0_spaces v_0_oldNx v_0_oldNy v_0_oldSpaces v_0_points v_0_pieces v_0_rings v_0_outsideSides v_0_looseCount f_0_isFlat f_0_across f_0_lows f_0_highs) H → va_D A (wl_Mo_reach a_0 a_0_isFlat a_0_across a_0_lows a_0_highs b_0_thick b_0_doorCounts b_0_doorFrom b_0_doorTo b_0_xs b_0_ys b_0_labels b_0_oldXs b_0_oldYs b_0_oldLabels b_0_names b_0_oldNames b_0_wanted b_0_common b_0_flatEdges b_0_upEdges b_0_isPoint b_0_stack b_0_pieceLines b_0_pieceBegins b_0_pieceEnds b_0_pieceLeft b_0_pieceRight b_0_outs b_0_isSeen b_0_ringSpaces b_0_ringStarts b_0_ringSizes b_0_ringLeast b_0_looseLines b_0_looseXs b_0_looseYs b_0_looseReaches b_0_far cZ cI v_0_code v_0_lines v_0_isFresh v_0_hasRun v_0_runs v_0_nx v_0_ny v_0_spaces v_0_oldNx v_0_oldNy v_0_oldSpaces v_0_points v_0_pieces v_0_rings v_0_outsideSides v_0_looseCount f_0_isFlat f_0_across f_0_lows f_0_highs) → va_S A s.heap H locs → lv_has ls 7 [(0, .ref a_0), (1, .int p1), (2, .int p2), (3, .int x4), (4, .int x8), (5, .int x9)] → W p l e rm_Mo_reach s m args below meth c H locs 0 0 Q (F0 m 26 ls []) := by
      intro n
      induction n with
      | zero => intro x8 x9 x10 hm; simp [m_Mo_reach_L26] at hm
      | succ n ih =>
        intro x8 x9 x10 hm KE H locs ls hP hD hS hl
        rw [m_Mo_reach_L26] at hm
        refine lv_iload hx hb d_Mo_reach_26 (lv_at hl 5 rfl) ?_
        refine lv_aload_n hx hb d_Mo_reach_28 rfl (lv_at hl 0 rfl) ?_
        refine va_get (D := (dC, dI)) (ci := 11) (v := .int v_0_lines) (C := "SpaceCyclesModel") (T := F_Mo) (N := 54) hx hb hts (in_F i_Mo) hown hK hP 0 rfl rfl 6 (by decide) (hts _ (in_c k_274)) (fun _ h9 => h9) rfl d_Mo_reach_29 ?_
        refine lv_icmp_ge (tgt := 211) hx hb d_Mo_reach_32 (by decide) (fun c12 => ?_) (fun c12 => ?_)
        · replace hm := if_t hm c12
          cases hm
          exact KE H locs ls hP hD hS (lv_sub hl [4] rfl)
        · replace hm := if_f hm c12
          refine lv_iconst (v := (-1)) hx hb d_Mo_reach_35 (by decide) ?_
          refine lv_istore (lv' := [(6, .int (-1)), (0, .ref a_0), (1, .int p1), (2, .int p2), (3, .int x4), (4, .int x8), (5, .int x9)]) hx hb d_Mo_reach_36 hl (by decide) rfl (fun ls hl => ?_)
          refine lv_iload hx hb d_Mo_reach_38 (lv_at hl 6 rfl) ?_
          refine lv_iload_n hx hb d_Mo_reach_40 rfl (lv_at hl 2 rfl) ?_
          obtain ⟨x16, hb14, hm⟩ := bd1_e hm
          have K13 : ∀ (H : Heap) (locs : List Loc) (ls : Array Slot), va_P (dC, dI) vwCl (wl_Mo_reach a_0 a_0_isFlat a_0_across a_0_lows a_0_highs b_0_thick b_0_doorCounts b_0_doorFrom b_0_doorTo b_0_xs b_0_ys b_0_labels b_0_oldXs b_0_oldYs b_0_oldLabels b_0_names b_0_oldNames b_0_wanted b_0_common b_0_flatEdges b_0_upEdges b_0_isPoint b_0_stack b_0_pieceLines b_0_pieceBegins b_0_pieceEnds b_0_pieceLeft b_0_pieceRight b_0_outs b_0_isSeen b_0_ringSpaces b_0_ringStarts b_0_ringSizes b_0_ringLeast b_0_looseLines b_0_looseXs b_0_looseYs b_0_looseReaches b_0_far cZ cI v_0_code v_0_lines v_0_isFresh v_0_hasRun v_0_runs v_0_nx v_0_ny v_0_spaces v_0_oldNx v_0_oldNy v_0_oldSpaces v_0_points v_0_pieces v_0_rings v_0_outsideSides v_0_looseCount f_0_isFlat f_0_across f_0_lows f_0_highs) H → va_D A (wl_Mo_reach a_0 a_0_isFlat a_0_across a_0_lows a_0_highs b_0_thick b_0_doorCounts b_0_doorFrom b_0_doorTo b_0_xs b_0_ys b_0_labels b_0_oldXs b_0_oldYs b_0_oldLabels b_0_names b_0_oldNames b_0_wanted b_0_common b_0_flatEdges b_0_upEdges b_0_isPoint b_0_stack b_0_pieceLines b_0_pieceBegins b_0_pieceEnds b_0_pieceLeft b_0_pieceRight b_0_outs b_0_isSeen b_0_ringSpaces b_0_ringStarts b_0_ringSizes b_0_ringLeast b_0_looseLines b_0_looseXs b_0_looseYs b_0_looseReaches b_0_far cZ cI v_0_code v_0_lines v_0_isFresh v_0_hasRun v_0_runs v_0_nx v_0_ny v_0_spaces v_0_oldNx v_0_oldNy v_0_oldSpaces v_0_points v_0_pieces v_0_rings v_0_outsideSides v_0_looseCount f_0_isFlat f_0_across f_0_lows f_0_highs) → va_S A s.heap H locs → lv_has ls 7 [(0, .ref a_0), (1, .int p1), (2, .int p2), (3, .int x4), (4, .int x8), (5, .int x9), (6, .int x16)] → W p l e rm_Mo_reach s m args below meth c H locs 0 0 Q (F0 m 178 ls []) := by
            intro H locs ls hP hD hS hl
            refine lv_iload hx hb d_Mo_reach_178 (lv_at hl 6 rfl) ?_
            obtain ⟨x82, hb80, hm⟩ := bd1_e hm
            have K79 : ∀ (H : Heap) (locs : List Loc) (ls : Array Slot), va_P (dC, dI) vwCl (wl_Mo_reach a_0 a_0_isFlat a_0_across a_0_lows a_0_highs b_0_thick b_0_doorCounts b_0_doorFrom b_0_doorTo b_0_xs b_0_ys b_0_labels b_0_oldXs b_0_oldYs b_0_oldLabels b_0_names b_0_oldNames b_0_wanted b_0_common b_0_flatEdges b_0_upEdges b_0_isPoint b_0_stack b_0_pieceLines b_0_pieceBegins b_0_pieceEnds b_0_pieceLeft b_0_pieceRight b_0_outs b_0_isSeen b_0_ringSpaces b_0_ringStarts b_0_ringSizes b_0_ringLeast b_0_looseLines b_0_looseXs b_0_looseYs b_0_looseReaches b_0_far cZ cI v_0_code v_0_lines v_0_isFresh v_0_hasRun v_0_runs v_0_nx v_0_ny v_0_spaces v_0_oldNx v_0_oldNy v_0_oldSpaces v_0_points v_0_pieces v_0_rings v_0_outsideSides v_0_looseCount f_0_isFlat f_0_across f_0_lows f_0_highs) H → va_D A (wl_Mo_reach a_0 a_0_isFlat a_0_across a_0_lows a_0_highs b_0_thick b_0_doorCounts b_0_doorFrom b_0_doorTo b_0_xs b_0_ys b_0_labels b_0_oldXs b_0_oldYs b_0_oldLabels b_0_names b_0_oldNames b_0_wanted b_0_common b_0_flatEdges b_0_upEdges b_0_isPoint b_0_stack b_0_pieceLines b_0_pieceBegins b_0_pieceEnds b_0_pieceLeft b_0_pieceRight b_0_outs b_0_isSeen b_0_ringSpaces b_0_ringStarts b_0_ringSizes b_0_ringLeast b_0_looseLines b_0_looseXs b_0_looseYs b_0_looseReaches b_0_far cZ cI v_0_code v_0_lines v_0_isFresh v_0_hasRun v_0_runs v_0_nx v_0_ny v_0_spaces v_0_oldNx v_0_oldNy v_0_oldSpaces v_0_points v_0_pieces v_0_rings v_0_outsideSides v_0_looseCount f_0_isFlat f_0_across f_0_lows f_0_highs) → va_S A s.heap H locs → lv_has ls 7 [(0, .ref a_0), (1, .int p1), (2, .int p2), (3, .int x4), (5, .int x9)] → W p l e rm_Mo_reach s m args below meth c H locs 0 0 Q (F0 m 203 ls [.int x82]) := by
              intro H locs ls hP hD hS hl
              refine lv_istore (lv' := [(4, .int x82), (0, .ref a_0), (1, .int p1), (2, .int p2), (3, .int x4), (5, .int x9)]) hx hb d_Mo_reach_203 hl (by decide) rfl (fun ls hl => ?_)
              obtain ⟨x86, ex86⟩ : ∃ y : Int32, y = x9 + 1 := ⟨_, rfl⟩
              replace hm := lt_el hm ex86
              refine lv_iinc (v := x86) (lv' := [(5, .int x86), (4, .int x82), (0, .ref a_0), (1, .int p1), (2, .int p2), (3, .int x4)]) hx hb d_Mo_reach_205 hl (k := 5) rfl (by rw [ex86]; rfl) (by decide) rfl (fun ls hl => ?_)
              refine lv_goto (tgt := 26) hx hb d_Mo_reach_208 (by decide) ?_
              exact ih _ _ _ hm KE H locs ls hP hD hS (lv_sub hl [2, 3, 4, 5, 1, 0] rfl)
            replace hm := hb80
            refine lv_if_le (tgt := 201) hx hb d_Mo_reach_180 (by decide) (fun c83 => ?_) (fun c83 => ?_)
            · replace hm := if_t hm c83
              refine lv_iload hx hb d_Mo_reach_201 (lv_at hl 4 rfl) ?_
              cases hm
              exact K79 H locs ls hP hD hS (lv_sub hl [0, 1, 2, 3, 5] rfl)
            · replace hm := if_f hm c83
              refine lv_iload hx hb d_Mo_reach_183 (lv_at hl 4 rfl) ?_
              refine lv_iconst (v := (-1)) hx hb d_Mo_reach_185 (by decide) ?_
              refine lv_icmp_eq (tgt := 196) hx hb d_Mo_reach_186 (by decide) (fun c84 => ?_) (fun c84 => ?_)
              · replace hm := if_t hm c84
                refine lv_iload hx hb d_Mo_reach_196 (lv_at hl 6 rfl) ?_
                refine lv_goto (tgt := 203) hx hb d_Mo_reach_198 (by decide) ?_
                cases hm
                exact K79 H locs ls hP hD hS (lv_sub hl [0, 1, 2, 3, 5] rfl)
              · replace hm := if_f hm c84
                refine lv_iload hx hb d_Mo_reach_189 (lv_at hl 6 rfl) ?_
                refine lv_iload hx hb d_Mo_reach_191 (lv_at hl 4 rfl) ?_
                refine lv_icmp_ge (tgt := 201) hx hb d_Mo_reach_193 (by decide) (fun c85 => ?_) (fun c85 => ?_)
                · replace hm := if_t hm c85
                  refine lv_iload hx hb d_Mo_reach_201 (lv_at hl 4 rfl) ?_
                  cases hm
                  exact K79 H locs ls hP hD hS (lv_sub hl [0, 1, 2, 3, 5] rfl)
                · replace hm := if_f hm c85
                  refine lv_iload hx hb d_Mo_reach_196 (lv_at hl 6 rfl) ?_
                  refine lv_goto (tgt := 203) hx hb d_Mo_reach_198 (by decide) ?_
                  cases hm
                  exact K79 H locs ls hP hD hS (lv_sub hl [0, 1, 2, 3, 5] rfl)
          replace hm := hb14
          refine lv_icmp_eq (tgt := 106) hx hb d_Mo_reach_41 (by decide) (fun c17 => ?_) (fun c17 => ?_)
          · replace hm := if_t hm c17
            refine lv_aload_n hx hb d_Mo_reach_106 rfl (lv_at hl 1 rfl) ?_
            refine va_get (D := (dC, dI)) (ci := 11) (v := .ref a_0_isFlat) (C := "SpaceCyclesModel") (T := F_Mo) (N := 54) hx hb hts (in_F i_Mo) hown hK hP 0 rfl rfl 1 (by decide) (hts _ (in_c k_279)) (fun _ h9 => h9) rfl d_Mo_reach_107 ?_
            refine lv_iload hx hb d_Mo_reach_110 (lv_at hl 6 rfl) ?_
            obtain ⟨hi18, hm⟩ := gI_e hm
            refine va_zald hx hb hK hP 1 1 rfl rfl hi18 d_Mo_reach_112 ?_
            refine lv_aload_n hx hb d_Mo_reach_113 rfl (lv_at hl 1 rfl) ?_
            refine va_get (D := (dC, dI)) (ci := 11) (v := .ref a_0_isFlat) (C := "SpaceCyclesModel") (T := F_Mo) (N := 54) hx hb hts (in_F i_Mo) hown hK hP 0 rfl rfl 1 (by decide) (hts _ (in_c k_279)) (fun _ h9 => h9) rfl d_Mo_reach_114 ?_
            refine lv_iload_n hx hb d_Mo_reach_117 rfl (lv_at hl 2 rfl) ?_
            obtain ⟨hi19, hm⟩ := gI_e hm
            refine va_zald hx hb hK hP 1 1 rfl rfl hi19 d_Mo_reach_118 ?_
            refine lv_icmp_eq (tgt := 178) hx hb d_Mo_reach_119 (by decide) (fun c20 => ?_) (fun c20 => ?_)
            · replace hm := if_t hm c20
              cases hm
              exact K13 H locs ls hP hD hS (lv_sub hl [1, 2, 3, 4, 5, 6, 0] rfl)
            · replace hm := if_f hm c20
              refine lv_aload_n hx hb d_Mo_reach_122 rfl (lv_at hl 1 rfl) ?_
              refine va_get (D := (dC, dI)) (ci := 11) (v := .ref a_0_across) (C := "SpaceCyclesModel") (T := F_Mo) (N := 54) hx hb hts (in_F i_Mo) hown hK hP 0 rfl rfl 2 (by decide) (hts _ (in_c k_280)) (fun _ h9 => h9) rfl d_Mo_reach_123 ?_
              refine lv_iload_n hx hb d_Mo_reach_126 rfl (lv_at hl 2 rfl) ?_
              obtain ⟨hi21, hm⟩ := gI_e hm
              refine va_iald hx hb hK hP 2 0 rfl rfl hi21 d_Mo_reach_127 ?_
              refine lv_i2l hx hb d_Mo_reach_128 rfl ?_
              refine lv_aload_n hx hb d_Mo_reach_129 rfl (lv_at hl 1 rfl) ?_
              refine va_get (D := (dC, dI)) (ci := 11) (v := .ref a_0_lows) (C := "SpaceCyclesModel") (T := F_Mo) (N := 54) hx hb hts (in_F i_Mo) hown hK hP 0 rfl rfl 3 (by decide) (hts _ (in_c k_281)) (fun _ h9 => h9) rfl d_Mo_reach_130 ?_
              refine lv_iload hx hb d_Mo_reach_133 (lv_at hl 6 rfl) ?_
              obtain ⟨hi22, hm⟩ := gI_e hm
              refine va_iald hx hb hK hP 3 0 rfl rfl hi22 d_Mo_reach_135 ?_
              refine lv_i2l hx hb d_Mo_reach_136 rfl ?_
              refine lv_aload_n hx hb d_Mo_reach_137 rfl (lv_at hl 1 rfl) ?_
              refine va_get (D := (dC, dI)) (ci := 11) (v := .ref a_0_highs) (C := "SpaceCyclesModel") (T := F_Mo) (N := 54) hx hb hts (in_F i_Mo) hown hK hP 0 rfl rfl 4 (by decide) (hts _ (in_c k_282)) (fun _ h9 => h9) rfl d_Mo_reach_138 ?_
              refine lv_iload hx hb d_Mo_reach_141 (lv_at hl 6 rfl) ?_
              obtain ⟨hi23, hm⟩ := gI_e hm
              refine va_iald hx hb hK hP 4 0 rfl rfl hi23 d_Mo_reach_143 ?_
              refine lv_i2l hx hb d_Mo_reach_144 rfl ?_
              obtain ⟨r24, hb25, hm⟩ := bd1_e hm
              have hPc := hP.sub (ws' := (wl_Mo_isIn)) [] rfl
              have hDc := hD.sub (ws' := (wl_Mo_isIn)) [] (by decide) rfl
              refine cl_i (wc' := (wl_Mo_isIn)) (va_runS (As := [.long (Int32.toInt64 (f_0_across p1.toNatClampNeg)), .long (Int32.toInt64 (f_0_lows x9.toNatClampNeg)), .long (Int32.toInt64 (f_0_highs x9.toNatClampNeg))]) (rest := []) ⟨hx, hb, hml, hown, hts⟩ (c_Mo_isIn l dC dI (cI := cI) (cZ := cZ) (cJ := cJ) H.size (Int32.toInt64 (f_0_across p1.toNatClampNeg)) (Int32.toInt64 (f_0_lows x9.toNatClampNeg)) (Int32.toInt64 (f_0_highs x9.toNatClampNeg)) r24 hb25) (va_cwS 3 hts (gl_S k_278 k_276 k_277 k_275) rfl rfl rfl (by decide +kernel) ⟨Nat.le_of_ble_eq_true rfl, Nat.le_of_ble_eq_true rfl⟩) ⟨PP_blind, fun U hU hW => PP_at hK hN hPc hDc hU hW⟩ rfl rfl hl.1 rfl (lv_room (Nat.le_of_ble_eq_true rfl)) d_Mo_reach_145 ⟨Nat.zero_le _, Nat.zero_le _⟩) hP hD hS hA [] [0, 1, 2, 3, 4] rfl rfl (by decide) (by decide) (fun H locs hP hD hS => ?_)
              have hP : va_P (dC, dI) vwCl (wl_Mo_reach a_0 a_0_isFlat a_0_across a_0_lows a_0_highs b_0_thick b_0_doorCounts b_0_doorFrom b_0_doorTo b_0_xs b_0_ys b_0_labels b_0_oldXs b_0_oldYs b_0_oldLabels b_0_names b_0_oldNames b_0_wanted b_0_common b_0_flatEdges b_0_upEdges b_0_isPoint b_0_stack b_0_pieceLines b_0_pieceBegins b_0_pieceEnds b_0_pieceLeft b_0_pieceRight b_0_outs b_0_isSeen b_0_ringSpaces b_0_ringStarts b_0_ringSizes b_0_ringLeast b_0_looseLines b_0_looseXs b_0_looseYs b_0_looseReaches b_0_far cZ cI v_0_code v_0_lines v_0_isFresh v_0_hasRun v_0_runs v_0_nx v_0_ny v_0_spaces v_0_oldNx v_0_oldNy v_0_oldSpaces v_0_points v_0_pieces v_0_rings v_0_outsideSides v_0_looseCount f_0_isFlat f_0_across f_0_lows f_0_highs) H := hP.sub [0, 1, 2, 3, 4] rfl
              have hD : va_D A (wl_Mo_reach a_0 a_0_isFlat a_0_across a_0_lows a_0_highs b_0_thick b_0_doorCounts b_0_doorFrom b_0_doorTo b_0_xs b_0_ys b_0_labels b_0_oldXs b_0_oldYs b_0_oldLabels b_0_names b_0_oldNames b_0_wanted b_0_common b_0_flatEdges b_0_upEdges b_0_isPoint b_0_stack b_0_pieceLines b_0_pieceBegins b_0_pieceEnds b_0_pieceLeft b_0_pieceRight b_0_outs b_0_isSeen b_0_ringSpaces b_0_ringStarts b_0_ringSizes b_0_ringLeast b_0_looseLines b_0_looseXs b_0_looseYs b_0_looseReaches b_0_far cZ cI v_0_code v_0_lines v_0_isFresh v_0_hasRun v_0_runs v_0_nx v_0_ny v_0_spaces v_0_oldNx v_0_oldNy v_0_oldSpaces v_0_points v_0_pieces v_0_rings v_0_outsideSides v_0_looseCount f_0_isFlat f_0_across f_0_lows f_0_highs) := hD.sub [0, 1, 2, 3, 4] (by decide) rfl
              refine lv_if_eq (tgt := 178) hx hb d_Mo_reach_148 (by decide) (fun c26 => ?_) (fun c26 => ?_)
              · replace hm := if_t hm c26
                cases hm
                exact K13 H locs ls hP hD hS (lv_sub hl [1, 2, 3, 4, 5, 6, 0] rfl)
              · replace hm := if_f hm c26
                refine lv_iload_n hx hb d_Mo_reach_151 rfl (lv_at hl 3 rfl) ?_
                obtain ⟨x30, hb28, hm⟩ := bd1_e hm
                have K27 : ∀ (H : Heap) (locs : List Loc) (ls : Array Slot), va_P (dC, dI) vwCl (wl_Mo_reach a_0 a_0_isFlat a_0_across a_0_lows a_0_highs b_0_thick b_0_doorCounts b_0_doorFrom b_0_doorTo b_0_xs b_0_ys b_0_labels b_0_oldXs b_0_oldYs b_0_oldLabels b_0_names b_0_oldNames b_0_wanted b_0_common b_0_flatEdges b_0_upEdges b_0_isPoint b_0_stack b_0_pieceLines b_0_pieceBegins b_0_pieceEnds b_0_pieceLeft b_0_pieceRight b_0_outs b_0_isSeen b_0_ringSpaces b_0_ringStarts b_0_ringSizes b_0_ringLeast b_0_looseLines b_0_looseXs b_0_looseYs b_0_looseReaches b_0_far cZ cI v_0_code v_0_lines v_0_isFresh v_0_hasRun v_0_runs v_0_nx v_0_ny v_0_spaces v_0_oldNx v_0_oldNy v_0_oldSpaces v_0_points v_0_pieces v_0_rings v_0_outsideSides v_0_looseCount f_0_isFlat f_0_across f_0_lows f_0_highs) H → va_D A (wl_Mo_reach a_0 a_0_isFlat a_0_across a_0_lows a_0_highs b_0_thick b_0_doorCounts b_0_doorFrom b_0_doorTo b_0_xs b_0_ys b_0_labels b_0_oldXs b_0_oldYs b_0_oldLabels b_0_names b_0_oldNames b_0_wanted b_0_common b_0_flatEdges b_0_upEdges b_0_isPoint b_0_stack b_0_pieceLines b_0_pieceBegins b_0_pieceEnds b_0_pieceLeft b_0_pieceRight b_0_outs b_0_isSeen b_0_ringSpaces b_0_ringStarts b_0_ringSizes b_0_ringLeast b_0_looseLines b_0_looseXs b_0_looseYs b_0_looseReaches b_0_far cZ cI v_0_code v_0_lines v_0_isFresh v_0_hasRun v_0_runs v_0_nx v_0_ny v_0_spaces v_0_oldNx v_0_oldNy v_0_oldSpaces v_0_points v_0_pieces v_0_rings v_0_outsideSides v_0_looseCount f_0_isFlat f_0_across f_0_lows f_0_highs) → va_S A s.heap H locs → lv_has ls 7 [(0, .ref a_0), (1, .int p1), (2, .int p2), (3, .int x4), (4, .int x8), (5, .int x9)] → W p l e rm_Mo_reach s m args below meth c H locs 0 0 Q (F0 m 176 ls [.int x30]) := by
                  intro H locs ls hP hD hS hl
                  refine lv_istore (lv' := [(6, .int x30), (0, .ref a_0), (1, .int p1), (2, .int p2), (3, .int x4), (4, .int x8), (5, .int x9)]) hx hb d_Mo_reach_176 hl (by decide) rfl (fun ls hl => ?_)
                  cases hm
                  exact K13 H locs ls hP hD hS (lv_sub hl [1, 2, 3, 4, 5, 6, 0] rfl)
                replace hm := hb28
                refine lv_if_eq (tgt := 167) hx hb d_Mo_reach_152 (by decide) (fun c31 => ?_) (fun c31 => ?_)
                · replace hm := if_t hm c31
                  refine lv_iload_n hx hb d_Mo_reach_167 rfl (lv_at hl 4 rfl) ?_
                  refine lv_aload_n hx hb d_Mo_reach_168 rfl (lv_at hl 1 rfl) ?_
                  refine va_get (D := (dC, dI)) (ci := 11) (v := .ref a_0_across) (C := "SpaceCyclesModel") (T := F_Mo) (N := 54) hx hb hts (in_F i_Mo) hown hK hP 0 rfl rfl 2 (by decide) (hts _ (in_c k_280)) (fun _ h9 => h9) rfl d_Mo_reach_169 ?_
                  refine lv_iload hx hb d_Mo_reach_172 (lv_at hl 6 rfl) ?_
                  obtain ⟨hi32, hm⟩ := gI_e hm
                  refine va_iald hx hb hK hP 2 0 rfl rfl hi32 d_Mo_reach_174 ?_
                  refine lv_isub hx hb d_Mo_reach_175 ?_
                  cases hm
                  exact K27 H locs ls hP hD hS (lv_sub hl [1, 2, 3, 4, 5, 6] rfl)
                · replace hm := if_f hm c31
                  refine lv_aload_n hx hb d_Mo_reach_155 rfl (lv_at hl 1 rfl) ?_
                  refine va_get (D := (dC, dI)) (ci := 11) (v := .ref a_0_across) (C := "SpaceCyclesModel") (T := F_Mo) (N := 54) hx hb hts (in_F i_Mo) hown hK hP 0 rfl rfl 2 (by decide) (hts _ (in_c k_280)) (fun _ h9 => h9) rfl d_Mo_reach_156 ?_
                  refine lv_iload hx hb d_Mo_reach_159 (lv_at hl 6 rfl) ?_
                  obtain ⟨hi33, hm⟩ := gI_e hm
                  refine va_iald hx hb hK hP 2 0 rfl rfl hi33 d_Mo_reach_161 ?_
                  refine lv_iload_n hx hb d_Mo_reach_162 rfl (lv_at hl 4 rfl) ?_
                  refine lv_isub hx hb d_Mo_reach_163 ?_
                  refine lv_goto (tgt := 176) hx hb d_Mo_reach_164 (by decide) ?_
                  cases hm
                  exact K27 H locs ls hP hD hS (lv_sub hl [1, 2, 3, 4, 5, 6] rfl)
          · replace hm := if_f hm c17
            refine lv_aload_n hx hb d_Mo_reach_44 rfl (lv_at hl 1 rfl) ?_
            refine va_get (D := (dC, dI)) (ci := 11) (v := .ref a_0_isFlat) (C := "SpaceCyclesModel") (T := F_Mo) (N := 54) hx hb hts (in_F i_Mo) hown hK hP 0 rfl rfl 1 (by decide) (hts _ (in_c k_279)) (fun _ h9 => h9) rfl d_Mo_reach_45 ?_
            refine lv_iload hx hb d_Mo_reach_48 (lv_at hl 6 rfl) ?_
            obtain ⟨hi34, hm⟩ := gI_e hm
            refine va_zald hx hb hK hP 1 1 rfl rfl hi34 d_Mo_reach_50 ?_
            refine lv_aload_n hx hb d_Mo_reach_51 rfl (lv_at hl 1 rfl) ?_
            refine va_get (D := (dC, dI)) (ci := 11) (v := .ref a_0_isFlat) (C := "SpaceCyclesModel") (T := F_Mo) (N := 54) hx hb hts (in_F i_Mo) hown hK hP 0 rfl rfl 1 (by decide) (hts _ (in_c k_279)) (fun _ h9 => h9) rfl d_Mo_reach_52 ?_
            refine lv_iload_n hx hb d_Mo_reach_55 rfl (lv_at hl 2 rfl) ?_
            obtain ⟨hi35, hm⟩ := gI_e hm
            refine va_zald hx hb hK hP 1 1 rfl rfl hi35 d_Mo_reach_56 ?_
            refine lv_icmp_ne (tgt := 106) hx hb d_Mo_reach_57 (by decide) (fun c36 => ?_) (fun c36 => ?_)
            · replace hm := if_f hm c36
              refine lv_aload_n hx hb d_Mo_reach_106 rfl (lv_at hl 1 rfl) ?_
              refine va_get (D := (dC, dI)) (ci := 11) (v := .ref a_0_isFlat) (C := "SpaceCyclesModel") (T := F_Mo) (N := 54) hx hb hts (in_F i_Mo) hown hK hP 0 rfl rfl 1 (by decide) (hts _ (in_c k_279)) (fun _ h9 => h9) rfl d_Mo_reach_107 ?_
              refine lv_iload hx hb d_Mo_reach_110 (lv_at hl 6 rfl) ?_
              obtain ⟨hi37, hm⟩ := gI_e hm
              refine va_zald hx hb hK hP 1 1 rfl rfl hi37 d_Mo_reach_112 ?_
              refine lv_aload_n hx hb d_Mo_reach_113 rfl (lv_at hl 1 rfl) ?_
              refine va_get (D := (dC, dI)) (ci := 11) (v := .ref a_0_isFlat) (C := "SpaceCyclesModel") (T := F_Mo) (N := 54) hx hb hts (in_F i_Mo) hown hK hP 0 rfl rfl 1 (by decide) (hts _ (in_c k_279)) (fun _ h9 => h9) rfl d_Mo_reach_114 ?_
              refine lv_iload_n hx hb d_Mo_reach_117 rfl (lv_at hl 2 rfl) ?_
              obtain ⟨hi38, hm⟩ := gI_e hm
              refine va_zald hx hb hK hP 1 1 rfl rfl hi38 d_Mo_reach_118 ?_
              refine lv_icmp_eq (tgt := 178) hx hb d_Mo_reach_119 (by decide) (fun c39 => ?_) (fun c39 => ?_)
              · replace hm := if_t hm c39
                cases hm
                exact K13 H locs ls hP hD hS (lv_sub hl [1, 2, 3, 4, 5, 6, 0] rfl)
              · replace hm := if_f hm c39
                refine lv_aload_n hx hb d_Mo_reach_122 rfl (lv_at hl 1 rfl) ?_
                refine va_get (D := (dC, dI)) (ci := 11) (v := .ref a_0_across) (C := "SpaceCyclesModel") (T := F_Mo) (N := 54) hx hb hts (in_F i_Mo) hown hK hP 0 rfl rfl 2 (by decide) (hts _ (in_c k_280)) (fun _ h9 => h9) rfl d_Mo_reach_123 ?_
                refine lv_iload_n hx hb d_Mo_reach_126 rfl (lv_at hl 2 rfl) ?_
                obtain ⟨hi40, hm⟩ := gI_e hm
                refine va_iald hx hb hK hP 2 0 rfl rfl hi40 d_Mo_reach_127 ?_
                refine lv_i2l hx hb d_Mo_reach_128 rfl ?_
                refine lv_aload_n hx hb d_Mo_reach_129 rfl (lv_at hl 1 rfl) ?_
                refine va_get (D := (dC, dI)) (ci := 11) (v := .ref a_0_lows) (C := "SpaceCyclesModel") (T := F_Mo) (N := 54) hx hb hts (in_F i_Mo) hown hK hP 0 rfl rfl 3 (by decide) (hts _ (in_c k_281)) (fun _ h9 => h9) rfl d_Mo_reach_130 ?_
                refine lv_iload hx hb d_Mo_reach_133 (lv_at hl 6 rfl) ?_
                obtain ⟨hi41, hm⟩ := gI_e hm
                refine va_iald hx hb hK hP 3 0 rfl rfl hi41 d_Mo_reach_135 ?_
                refine lv_i2l hx hb d_Mo_reach_136 rfl ?_
                refine lv_aload_n hx hb d_Mo_reach_137 rfl (lv_at hl 1 rfl) ?_
                refine va_get (D := (dC, dI)) (ci := 11) (v := .ref a_0_highs) (C := "SpaceCyclesModel") (T := F_Mo) (N := 54) hx hb hts (in_F i_Mo) hown hK hP 0 rfl rfl 4 (by decide) (hts _ (in_c k_282)) (fun _ h9 => h9) rfl d_Mo_reach_138 ?_
                refine lv_iload hx hb d_Mo_reach_141 (lv_at hl 6 rfl) ?_
                obtain ⟨hi42, hm⟩ := gI_e hm
                refine va_iald hx hb hK hP 4 0 rfl rfl hi42 d_Mo_reach_143 ?_
                refine lv_i2l hx hb d_Mo_reach_144 rfl ?_
                obtain ⟨r43, hb44, hm⟩ := bd1_e hm
                have hPc := hP.sub (ws' := (wl_Mo_isIn)) [] rfl
                have hDc := hD.sub (ws' := (wl_Mo_isIn)) [] (by decide) rfl
                refine cl_i (wc' := (wl_Mo_isIn)) (va_runS (As := [.long (Int32.toInt64 (f_0_across p1.toNatClampNeg)), .long (Int32.toInt64 (f_0_lows x9.toNatClampNeg)), .long (Int32.toInt64 (f_0_highs x9.toNatClampNeg))]) (rest := []) ⟨hx, hb, hml, hown, hts⟩ (c_Mo_isIn l dC dI (cI := cI) (cZ := cZ) (cJ := cJ) H.size (Int32.toInt64 (f_0_across p1.toNatClampNeg)) (Int32.toInt64 (f_0_lows x9.toNatClampNeg)) (Int32.toInt64 (f_0_highs x9.toNatClampNeg)) r43 hb44) (va_cwS 3 hts (gl_S k_278 k_276 k_277 k_275) rfl rfl rfl (by decide +kernel) ⟨Nat.le_of_ble_eq_true rfl, Nat.le_of_ble_eq_true rfl⟩) ⟨PP_blind, fun U hU hW => PP_at hK hN hPc hDc hU hW⟩ rfl rfl hl.1 rfl (lv_room (Nat.le_of_ble_eq_true rfl)) d_Mo_reach_145 ⟨Nat.zero_le _, Nat.zero_le _⟩) hP hD hS hA [] [0, 1, 2, 3, 4] rfl rfl (by decide) (by decide) (fun H locs hP hD hS => ?_)
                have hP : va_P (dC, dI) vwCl (wl_Mo_reach a_0 a_0_isFlat a_0_across a_0_lows a_0_highs b_0_thick b_0_doorCounts b_0_doorFrom b_0_doorTo b_0_xs b_0_ys b_0_labels b_0_oldXs b_0_oldYs b_0_oldLabels b_0_names b_0_oldNames b_0_wanted b_0_common b_0_flatEdges b_0_upEdges b_0_isPoint b_0_stack b_0_pieceLines b_0_pieceBegins b_0_pieceEnds b_0_pieceLeft b_0_pieceRight b_0_outs b_0_isSeen b_0_ringSpaces b_0_ringStarts b_0_ringSizes b_0_ringLeast b_0_looseLines b_0_looseXs b_0_looseYs b_0_looseReaches b_0_far cZ cI v_0_code v_0_lines v_0_isFresh v_0_hasRun v_0_runs v_0_nx v_0_ny v_0_spaces v_0_oldNx v_0_oldNy v_0_oldSpaces v_0_points v_0_pieces v_0_rings v_0_outsideSides v_0_looseCount f_0_isFlat f_0_across f_0_lows f_0_highs) H := hP.sub [0, 1, 2, 3, 4] rfl
                have hD : va_D A (wl_Mo_reach a_0 a_0_isFlat a_0_across a_0_lows a_0_highs b_0_thick b_0_doorCounts b_0_doorFrom b_0_doorTo b_0_xs b_0_ys b_0_labels b_0_oldXs b_0_oldYs b_0_oldLabels b_0_names b_0_oldNames b_0_wanted b_0_common b_0_flatEdges b_0_upEdges b_0_isPoint b_0_stack b_0_pieceLines b_0_pieceBegins b_0_pieceEnds b_0_pieceLeft b_0_pieceRight b_0_outs b_0_isSeen b_0_ringSpaces b_0_ringStarts b_0_ringSizes b_0_ringLeast b_0_looseLines b_0_looseXs b_0_looseYs b_0_looseReaches b_0_far cZ cI v_0_code v_0_lines v_0_isFresh v_0_hasRun v_0_runs v_0_nx v_0_ny v_0_spaces v_0_oldNx v_0_oldNy v_0_oldSpaces v_0_points v_0_pieces v_0_rings v_0_outsideSides v_0_looseCount f_0_isFlat f_0_across f_0_lows f_0_highs) := hD.sub [0, 1, 2, 3, 4] (by decide) rfl
                refine lv_if_eq (tgt := 178) hx hb d_Mo_reach_148 (by decide) (fun c45 => ?_) (fun c45 => ?_)
                · replace hm := if_t hm c45
                  cases hm
                  exact K13 H locs ls hP hD hS (lv_sub hl [1, 2, 3, 4, 5, 6, 0] rfl)
                · replace hm := if_f hm c45
                  refine lv_iload_n hx hb d_Mo_reach_151 rfl (lv_at hl 3 rfl) ?_
                  obtain ⟨x49, hb47, hm⟩ := bd1_e hm
                  have K46 : ∀ (H : Heap) (locs : List Loc) (ls : Array Slot), va_P (dC, dI) vwCl (wl_Mo_reach a_0 a_0_isFlat a_0_across a_0_lows a_0_highs b_0_thick b_0_doorCounts b_0_doorFrom b_0_doorTo b_0_xs b_0_ys b_0_labels b_0_oldXs b_0_oldYs b_0_oldLabels b_0_names b_0_oldNames b_0_wanted b_0_common b_0_flatEdges b_0_upEdges b_0_isPoint b_0_stack b_0_pieceLines b_0_pieceBegins b_0_pieceEnds b_0_pieceLeft b_0_pieceRight b_0_outs b_0_isSeen b_0_ringSpaces b_0_ringStarts b_0_ringSizes b_0_ringLeast b_0_looseLines b_0_looseXs b_0_looseYs b_0_looseReaches b_0_far cZ cI v_0_code v_0_lines v_0_isFresh v_0_hasRun v_0_runs v_0_nx v_0_ny v_0_spaces v_0_oldNx v_0_oldNy v_0_oldSpaces v_0_points v_0_pieces v_0_rings v_0_outsideSides v_0_looseCount f_0_isFlat f_0_across f_0_lows f_0_highs) H → va_D A (wl_Mo_reach a_0 a_0_isFlat a_0_across a_0_lows a_0_highs b_0_thick b_0_doorCounts b_0_doorFrom b_0_doorTo b_0_xs b_0_ys b_0_labels b_0_oldXs b_0_oldYs b_0_oldLabels b_0_names b_0_oldNames b_0_wanted b_0_common b_0_flatEdges b_0_upEdges b_0_isPoint b_0_stack b_0_pieceLines b_0_pieceBegins b_0_pieceEnds b_0_pieceLeft b_0_pieceRight b_0_outs b_0_isSeen b_0_ringSpaces b_0_ringStarts b_0_ringSizes b_0_ringLeast b_0_looseLines b_0_looseXs b_0_looseYs b_0_looseReaches b_0_far cZ cI v_0_code v_0_lines v_0_isFresh v_0_hasRun v_0_runs v_0_nx v_0_ny v_0_spaces v_0_oldNx v_0_oldNy v_0_oldSpaces v_0_points v_0_pieces v_0_rings v_0_outsideSides v_0_looseCount f_0_isFlat f_0_across f_0_lows f_0_highs) → va_S A s.heap H locs → lv_has ls 7 [(0, .ref a_0), (1, .int p1), (2, .int p2), (3, .int x4), (4, .int x8), (5, .int x9)] → W p l e rm_Mo_reach s m args below meth c H locs 0 0 Q (F0 m 176 ls [.int x49]) := by
                    intro H locs ls hP hD hS hl
                    refine lv_istore (lv' := [(6, .int x49), (0, .ref a_0), (1, .int p1), (2, .int p2), (3, .int x4), (4, .int x8), (5, .int x9)]) hx hb d_Mo_reach_176 hl (by decide) rfl (fun ls hl => ?_)
                    cases hm
                    exact K13 H locs ls hP hD hS (lv_sub hl [1, 2, 3, 4, 5, 6, 0] rfl)
                  replace hm := hb47
                  refine lv_if_eq (tgt := 167) hx hb d_Mo_reach_152 (by decide) (fun c50 => ?_) (fun c50 => ?_)
                  · replace hm := if_t hm c50
                    refine lv_iload_n hx hb d_Mo_reach_167 rfl (lv_at hl 4 rfl) ?_
                    refine lv_aload_n hx hb d_Mo_reach_168 rfl (lv_at hl 1 rfl) ?_
                    refine va_get (D := (dC, dI)) (ci := 11) (v := .ref a_0_across) (C := "SpaceCyclesModel") (T := F_Mo) (N := 54) hx hb hts (in_F i_Mo) hown hK hP 0 rfl rfl 2 (by decide) (hts _ (in_c k_280)) (fun _ h9 => h9) rfl d_Mo_reach_169 ?_
                    refine lv_iload hx hb d_Mo_reach_172 (lv_at hl 6 rfl) ?_
                    obtain ⟨hi51, hm⟩ := gI_e hm
                    refine va_iald hx hb hK hP 2 0 rfl rfl hi51 d_Mo_reach_174 ?_
                    refine lv_isub hx hb d_Mo_reach_175 ?_
                    cases hm
                    exact K46 H locs ls hP hD hS (lv_sub hl [1, 2, 3, 4, 5, 6] rfl)
                  · replace hm := if_f hm c50
                    refine lv_aload_n hx hb d_Mo_reach_155 rfl (lv_at hl 1 rfl) ?_
                    refine va_get (D := (dC, dI)) (ci := 11) (v := .ref a_0_across) (C := "SpaceCyclesModel") (T := F_Mo) (N := 54) hx hb hts (in_F i_Mo) hown hK hP 0 rfl rfl 2 (by decide) (hts _ (in_c k_280)) (fun _ h9 => h9) rfl d_Mo_reach_156 ?_
                    refine lv_iload hx hb d_Mo_reach_159 (lv_at hl 6 rfl) ?_
                    obtain ⟨hi52, hm⟩ := gI_e hm
                    refine va_iald hx hb hK hP 2 0 rfl rfl hi52 d_Mo_reach_161 ?_
                    refine lv_iload_n hx hb d_Mo_reach_162 rfl (lv_at hl 4 rfl) ?_
                    refine lv_isub hx hb d_Mo_reach_163 ?_
                    refine lv_goto (tgt := 176) hx hb d_Mo_reach_164 (by decide) ?_
                    cases hm
                    exact K46 H locs ls hP hD hS (lv_sub hl [1, 2, 3, 4, 5, 6] rfl)
            · replace hm := if_t hm c36
              refine lv_aload_n hx hb d_Mo_reach_60 rfl (lv_at hl 1 rfl) ?_
              refine va_get (D := (dC, dI)) (ci := 11) (v := .ref a_0_across) (C := "SpaceCyclesModel") (T := F_Mo) (N := 54) hx hb hts (in_F i_Mo) hown hK hP 0 rfl rfl 2 (by decide) (hts _ (in_c k_280)) (fun _ h9 => h9) rfl d_Mo_reach_61 ?_
              refine lv_iload hx hb d_Mo_reach_64 (lv_at hl 6 rfl) ?_
              obtain ⟨hi53, hm⟩ := gI_e hm
              refine va_iald hx hb hK hP 2 0 rfl rfl hi53 d_Mo_reach_66 ?_
              refine lv_aload_n hx hb d_Mo_reach_67 rfl (lv_at hl 1 rfl) ?_
              refine va_get (D := (dC, dI)) (ci := 11) (v := .ref a_0_across) (C := "SpaceCyclesModel") (T := F_Mo) (N := 54) hx hb hts (in_F i_Mo) hown hK hP 0 rfl rfl 2 (by decide) (hts _ (in_c k_280)) (fun _ h9 => h9) rfl d_Mo_reach_68 ?_
              refine lv_iload_n hx hb d_Mo_reach_71 rfl (lv_at hl 2 rfl) ?_
              obtain ⟨hi54, hm⟩ := gI_e hm
              refine va_iald hx hb hK hP 2 0 rfl rfl hi54 d_Mo_reach_72 ?_
              refine lv_icmp_ne (tgt := 106) hx hb d_Mo_reach_73 (by decide) (fun c55 => ?_) (fun c55 => ?_)
              · replace hm := if_f hm c55
                refine lv_aload_n hx hb d_Mo_reach_106 rfl (lv_at hl 1 rfl) ?_
                refine va_get (D := (dC, dI)) (ci := 11) (v := .ref a_0_isFlat) (C := "SpaceCyclesModel") (T := F_Mo) (N := 54) hx hb hts (in_F i_Mo) hown hK hP 0 rfl rfl 1 (by decide) (hts _ (in_c k_279)) (fun _ h9 => h9) rfl d_Mo_reach_107 ?_
                refine lv_iload hx hb d_Mo_reach_110 (lv_at hl 6 rfl) ?_
                obtain ⟨hi56, hm⟩ := gI_e hm
                refine va_zald hx hb hK hP 1 1 rfl rfl hi56 d_Mo_reach_112 ?_
                refine lv_aload_n hx hb d_Mo_reach_113 rfl (lv_at hl 1 rfl) ?_
                refine va_get (D := (dC, dI)) (ci := 11) (v := .ref a_0_isFlat) (C := "SpaceCyclesModel") (T := F_Mo) (N := 54) hx hb hts (in_F i_Mo) hown hK hP 0 rfl rfl 1 (by decide) (hts _ (in_c k_279)) (fun _ h9 => h9) rfl d_Mo_reach_114 ?_
                refine lv_iload_n hx hb d_Mo_reach_117 rfl (lv_at hl 2 rfl) ?_
                obtain ⟨hi57, hm⟩ := gI_e hm
                refine va_zald hx hb hK hP 1 1 rfl rfl hi57 d_Mo_reach_118 ?_
                refine lv_icmp_eq (tgt := 178) hx hb d_Mo_reach_119 (by decide) (fun c58 => ?_) (fun c58 => ?_)
                · replace hm := if_t hm c58
                  cases hm
                  exact K13 H locs ls hP hD hS (lv_sub hl [1, 2, 3, 4, 5, 6, 0] rfl)
                · replace hm := if_f hm c58
                  refine lv_aload_n hx hb d_Mo_reach_122 rfl (lv_at hl 1 rfl) ?_
                  refine va_get (D := (dC, dI)) (ci := 11) (v := .ref a_0_across) (C := "SpaceCyclesModel") (T := F_Mo) (N := 54) hx hb hts (in_F i_Mo) hown hK hP 0 rfl rfl 2 (by decide) (hts _ (in_c k_280)) (fun _ h9 => h9) rfl d_Mo_reach_123 ?_
                  refine lv_iload_n hx hb d_Mo_reach_126 rfl (lv_at hl 2 rfl) ?_
                  obtain ⟨hi59, hm⟩ := gI_e hm
                  refine va_iald hx hb hK hP 2 0 rfl rfl hi59 d_Mo_reach_127 ?_
                  refine lv_i2l hx hb d_Mo_reach_128 rfl ?_
                  refine lv_aload_n hx hb d_Mo_reach_129 rfl (lv_at hl 1 rfl) ?_
                  refine va_get (D := (dC, dI)) (ci := 11) (v := .ref a_0_lows) (C := "SpaceCyclesModel") (T := F_Mo) (N := 54) hx hb hts (in_F i_Mo) hown hK hP 0 rfl rfl 3 (by decide) (hts _ (in_c k_281)) (fun _ h9 => h9) rfl d_Mo_reach_130 ?_
                  refine lv_iload hx hb d_Mo_reach_133 (lv_at hl 6 rfl) ?_
                  obtain ⟨hi60, hm⟩ := gI_e hm
                  refine va_iald hx hb hK hP 3 0 rfl rfl hi60 d_Mo_reach_135 ?_
                  refine lv_i2l hx hb d_Mo_reach_136 rfl ?_
                  refine lv_aload_n hx hb d_Mo_reach_137 rfl (lv_at hl 1 rfl) ?_
                  refine va_get (D := (dC, dI)) (ci := 11) (v := .ref a_0_highs) (C := "SpaceCyclesModel") (T := F_Mo) (N := 54) hx hb hts (in_F i_Mo) hown hK hP 0 rfl rfl 4 (by decide) (hts _ (in_c k_282)) (fun _ h9 => h9) rfl d_Mo_reach_138 ?_
                  refine lv_iload hx hb d_Mo_reach_141 (lv_at hl 6 rfl) ?_
                  obtain ⟨hi61, hm⟩ := gI_e hm
                  refine va_iald hx hb hK hP 4 0 rfl rfl hi61 d_Mo_reach_143 ?_
                  refine lv_i2l hx hb d_Mo_reach_144 rfl ?_
                  obtain ⟨r62, hb63, hm⟩ := bd1_e hm
                  have hPc := hP.sub (ws' := (wl_Mo_isIn)) [] rfl
                  have hDc := hD.sub (ws' := (wl_Mo_isIn)) [] (by decide) rfl
                  refine cl_i (wc' := (wl_Mo_isIn)) (va_runS (As := [.long (Int32.toInt64 (f_0_across p1.toNatClampNeg)), .long (Int32.toInt64 (f_0_lows x9.toNatClampNeg)), .long (Int32.toInt64 (f_0_highs x9.toNatClampNeg))]) (rest := []) ⟨hx, hb, hml, hown, hts⟩ (c_Mo_isIn l dC dI (cI := cI) (cZ := cZ) (cJ := cJ) H.size (Int32.toInt64 (f_0_across p1.toNatClampNeg)) (Int32.toInt64 (f_0_lows x9.toNatClampNeg)) (Int32.toInt64 (f_0_highs x9.toNatClampNeg)) r62 hb63) (va_cwS 3 hts (gl_S k_278 k_276 k_277 k_275) rfl rfl rfl (by decide +kernel) ⟨Nat.le_of_ble_eq_true rfl, Nat.le_of_ble_eq_true rfl⟩) ⟨PP_blind, fun U hU hW => PP_at hK hN hPc hDc hU hW⟩ rfl rfl hl.1 rfl (lv_room (Nat.le_of_ble_eq_true rfl)) d_Mo_reach_145 ⟨Nat.zero_le _, Nat.zero_le _⟩) hP hD hS hA [] [0, 1, 2, 3, 4] rfl rfl (by decide) (by decide) (fun H locs hP hD hS => ?_)
                  have hP : va_P (dC, dI) vwCl (wl_Mo_reach a_0 a_0_isFlat a_0_across a_0_lows a_0_highs b_0_thick b_0_doorCounts b_0_doorFrom b_0_doorTo b_0_xs b_0_ys b_0_labels b_0_oldXs b_0_oldYs b_0_oldLabels b_0_names b_0_oldNames b_0_wanted b_0_common b_0_flatEdges b_0_upEdges b_0_isPoint b_0_stack b_0_pieceLines b_0_pieceBegins b_0_pieceEnds b_0_pieceLeft b_0_pieceRight b_0_outs b_0_isSeen b_0_ringSpaces b_0_ringStarts b_0_ringSizes b_0_ringLeast b_0_looseLines b_0_looseXs b_0_looseYs b_0_looseReaches b_0_far cZ cI v_0_code v_0_lines v_0_isFresh v_0_hasRun v_0_runs v_0_nx v_0_ny v_0_spaces v_0_oldNx v_0_oldNy v_0_oldSpaces v_0_points v_0_pieces v_0_rings v_0_outsideSides v_0_looseCount f_0_isFlat f_0_across f_0_lows f_0_highs) H := hP.sub [0, 1, 2, 3, 4] rfl
                  have hD : va_D A (wl_Mo_reach a_0 a_0_isFlat a_0_across a_0_lows a_0_highs b_0_thick b_0_doorCounts b_0_doorFrom b_0_doorTo b_0_xs b_0_ys b_0_labels b_0_oldXs b_0_oldYs b_0_oldLabels b_0_names b_0_oldNames b_0_wanted b_0_common b_0_flatEdges b_0_upEdges b_0_isPoint b_0_stack b_0_pieceLines b_0_pieceBegins b_0_pieceEnds b_0_pieceLeft b_0_pieceRight b_0_outs b_0_isSeen b_0_ringSpaces b_0_ringStarts b_0_ringSizes b_0_ringLeast b_0_looseLines b_0_looseXs b_0_looseYs b_0_looseReaches b_0_far cZ cI v_0_code v_0_lines v_0_isFresh v_0_hasRun v_0_runs v_0_nx v_0_ny v_0_spaces v_0_oldNx v_0_oldNy v_0_oldSpaces v_0_points v_0_pieces v_0_rings v_0_outsideSides v_0_looseCount f_0_isFlat f_0_across f_0_lows f_0_highs) := hD.sub [0, 1, 2, 3, 4] (by decide) rfl
                  refine lv_if_eq (tgt := 178) hx hb d_Mo_reach_148 (by decide) (fun c64 => ?_) (fun c64 => ?_)
                  · replace hm := if_t hm c64
                    cases hm
                    exact K13 H locs ls hP hD hS (lv_sub hl [1, 2, 3, 4, 5, 6, 0] rfl)
                  · replace hm := if_f hm c64
                    refine lv_iload_n hx hb d_Mo_reach_151 rfl (lv_at hl 3 rfl) ?_
                    obtain ⟨x68, hb66, hm⟩ := bd1_e hm
                    have K65 : ∀ (H : Heap) (locs : List Loc) (ls : Array Slot), va_P (dC, dI) vwCl (wl_Mo_reach a_0 a_0_isFlat a_0_across a_0_lows a_0_highs b_0_thick b_0_doorCounts b_0_doorFrom b_0_doorTo b_0_xs b_0_ys b_0_labels b_0_oldXs b_0_oldYs b_0_oldLabels b_0_names b_0_oldNames b_0_wanted b_0_common b_0_flatEdges b_0_upEdges b_0_isPoint b_0_stack b_0_pieceLines b_0_pieceBegins b_0_pieceEnds b_0_pieceLeft b_0_pieceRight b_0_outs b_0_isSeen b_0_ringSpaces b_0_ringStarts b_0_ringSizes b_0_ringLeast b_0_looseLines b_0_looseXs b_0_looseYs b_0_looseReaches b_0_far cZ cI v_0_code v_0_lines v_0_isFresh v_0_hasRun v_0_runs v_0_nx v_0_ny v_0_spaces v_0_oldNx v_0_oldNy v_0_oldSpaces v_0_points v_0_pieces v_0_rings v_0_outsideSides v_0_looseCount f_0_isFlat f_0_across f_0_lows f_0_highs) H → va_D A (wl_Mo_reach a_0 a_0_isFlat a_0_across a_0_lows a_0_highs b_0_thick b_0_doorCounts b_0_doorFrom b_0_doorTo b_0_xs b_0_ys b_0_labels b_0_oldXs b_0_oldYs b_0_oldLabels b_0_names b_0_oldNames b_0_wanted b_0_common b_0_flatEdges b_0_upEdges b_0_isPoint b_0_stack b_0_pieceLines b_0_pieceBegins b_0_pieceEnds b_0_pieceLeft b_0_pieceRight b_0_outs b_0_isSeen b_0_ringSpaces b_0_ringStarts b_0_ringSizes b_0_ringLeast b_0_looseLines b_0_looseXs b_0_looseYs b_0_looseReaches b_0_far cZ cI v_0_code v_0_lines v_0_isFresh v_0_hasRun v_0_runs v_0_nx v_0_ny v_0_spaces v_0_oldNx v_0_oldNy v_0_oldSpaces v_0_points v_0_pieces v_0_rings v_0_outsideSides v_0_looseCount f_0_isFlat f_0_across f_0_lows f_0_highs) → va_S A s.heap H locs → lv_has ls 7 [(0, .ref a_0), (1, .int p1), (2, .int p2), (3, .int x4), (4, .int x8), (5, .int x9)] → W p l e rm_Mo_reach s m args below meth c H locs 0 0 Q (F0 m 176 ls [.int x68]) := by
                      intro H locs ls hP hD hS hl
                      refine lv_istore (lv' := [(6, .int x68), (0, .ref a_0), (1, .int p1), (2, .int p2), (3, .int x4), (4, .int x8), (5, .int x9)]) hx hb d_Mo_reach_176 hl (by decide) rfl (fun ls hl => ?_)
                      cases hm
                      exact K13 H locs ls hP hD hS (lv_sub hl [1, 2, 3, 4, 5, 6, 0] rfl)
                    replace hm := hb66
                    refine lv_if_eq (tgt := 167) hx hb d_Mo_reach_152 (by decide) (fun c69 => ?_) (fun c69 => ?_)
                    · replace hm := if_t hm c69
                      refine lv_iload_n hx hb d_Mo_reach_167 rfl (lv_at hl 4 rfl) ?_
                      refine lv_aload_n hx hb d_Mo_reach_168 rfl (lv_at hl 1 rfl) ?_
                      refine va_get (D := (dC, dI)) (ci := 11) (v := .ref a_0_across) (C := "SpaceCyclesModel") (T := F_Mo) (N := 54) hx hb hts (in_F i_Mo) hown hK hP 0 rfl rfl 2 (by decide) (hts _ (in_c k_280)) (fun _ h9 => h9) rfl d_Mo_reach_169 ?_
                      refine lv_iload hx hb d_Mo_reach_172 (lv_at hl 6 rfl) ?_
                      obtain ⟨hi70, hm⟩ := gI_e hm
                      refine va_iald hx hb hK hP 2 0 rfl rfl hi70 d_Mo_reach_174 ?_
                      refine lv_isub hx hb d_Mo_reach_175 ?_
                      cases hm
                      exact K65 H locs ls hP hD hS (lv_sub hl [1, 2, 3, 4, 5, 6] rfl)
                    · replace hm := if_f hm c69
                      refine lv_aload_n hx hb d_Mo_reach_155 rfl (lv_at hl 1 rfl) ?_
                      refine va_get (D := (dC, dI)) (ci := 11) (v := .ref a_0_across) (C := "SpaceCyclesModel") (T := F_Mo) (N := 54) hx hb hts (in_F i_Mo) hown hK hP 0 rfl rfl 2 (by decide) (hts _ (in_c k_280)) (fun _ h9 => h9) rfl d_Mo_reach_156 ?_
                      refine lv_iload hx hb d_Mo_reach_159 (lv_at hl 6 rfl) ?_
                      obtain ⟨hi71, hm⟩ := gI_e hm
                      refine va_iald hx hb hK hP 2 0 rfl rfl hi71 d_Mo_reach_161 ?_
                      refine lv_iload_n hx hb d_Mo_reach_162 rfl (lv_at hl 4 rfl) ?_
                      refine lv_isub hx hb d_Mo_reach_163 ?_
                      refine lv_goto (tgt := 176) hx hb d_Mo_reach_164 (by decide) ?_
                      cases hm
                      exact K65 H locs ls hP hD hS (lv_sub hl [1, 2, 3, 4, 5, 6] rfl)
              · replace hm := if_t hm c55
                refine lv_iload_n hx hb d_Mo_reach_76 rfl (lv_at hl 3 rfl) ?_
                obtain ⟨x75, hb73, hm⟩ := bd1_e hm
                have K72 : ∀ (H : Heap) (locs : List Loc) (ls : Array Slot), va_P (dC, dI) vwCl (wl_Mo_reach a_0 a_0_isFlat a_0_across a_0_lows a_0_highs b_0_thick b_0_doorCounts b_0_doorFrom b_0_doorTo b_0_xs b_0_ys b_0_labels b_0_oldXs b_0_oldYs b_0_oldLabels b_0_names b_0_oldNames b_0_wanted b_0_common b_0_flatEdges b_0_upEdges b_0_isPoint b_0_stack b_0_pieceLines b_0_pieceBegins b_0_pieceEnds b_0_pieceLeft b_0_pieceRight b_0_outs b_0_isSeen b_0_ringSpaces b_0_ringStarts b_0_ringSizes b_0_ringLeast b_0_looseLines b_0_looseXs b_0_looseYs b_0_looseReaches b_0_far cZ cI v_0_code v_0_lines v_0_isFresh v_0_hasRun v_0_runs v_0_nx v_0_ny v_0_spaces v_0_oldNx v_0_oldNy v_0_oldSpaces v_0_points v_0_pieces v_0_rings v_0_outsideSides v_0_looseCount f_0_isFlat f_0_across f_0_lows f_0_highs) H → va_D A (wl_Mo_reach a_0 a_0_isFlat a_0_across a_0_lows a_0_highs b_0_thick b_0_doorCounts b_0_doorFrom b_0_doorTo b_0_xs b_0_ys b_0_labels b_0_oldXs b_0_oldYs b_0_oldLabels b_0_names b_0_oldNames b_0_wanted b_0_common b_0_flatEdges b_0_upEdges b_0_isPoint b_0_stack b_0_pieceLines b_0_pieceBegins b_0_pieceEnds b_0_pieceLeft b_0_pieceRight b_0_outs b_0_isSeen b_0_ringSpaces b_0_ringStarts b_0_ringSizes b_0_ringLeast b_0_looseLines b_0_looseXs b_0_looseYs b_0_looseReaches b_0_far cZ cI v_0_code v_0_lines v_0_isFresh v_0_hasRun v_0_runs v_0_nx v_0_ny v_0_spaces v_0_oldNx v_0_oldNy v_0_oldSpaces v_0_points v_0_pieces v_0_rings v_0_outsideSides v_0_looseCount f_0_isFlat f_0_across f_0_lows f_0_highs) → va_S A s.heap H locs → lv_has ls 7 [(0, .ref a_0), (1, .int p1), (2, .int p2), (3, .int x4), (4, .int x8), (5, .int x9)] → W p l e rm_Mo_reach s m args below meth c H locs 0 0 Q (F0 m 101 ls [.int x75]) := by
                  intro H locs ls hP hD hS hl
                  refine lv_istore (lv' := [(6, .int x75), (0, .ref a_0), (1, .int p1), (2, .int p2), (3, .int x4), (4, .int x8), (5, .int x9)]) hx hb d_Mo_reach_101 hl (by decide) rfl (fun ls hl => ?_)
                  refine lv_goto (tgt := 178) hx hb d_Mo_reach_103 (by decide) ?_
                  cases hm
                  exact K13 H locs ls hP hD hS (lv_sub hl [1, 2, 3, 4, 5, 6, 0] rfl)
                replace hm := hb73
                refine lv_if_eq (tgt := 92) hx hb d_Mo_reach_77 (by decide) (fun c76 => ?_) (fun c76 => ?_)
                · replace hm := if_t hm c76
                  refine lv_iload_n hx hb d_Mo_reach_92 rfl (lv_at hl 4 rfl) ?_
                  refine lv_aload_n hx hb d_Mo_reach_93 rfl (lv_at hl 1 rfl) ?_
                  refine va_get (D := (dC, dI)) (ci := 11) (v := .ref a_0_highs) (C := "SpaceCyclesModel") (T := F_Mo) (N := 54) hx hb hts (in_F i_Mo) hown hK hP 0 rfl rfl 4 (by decide) (hts _ (in_c k_282)) (fun _ h9 => h9) rfl d_Mo_reach_94 ?_
                  refine lv_iload hx hb d_Mo_reach_97 (lv_at hl 6 rfl) ?_
                  obtain ⟨hi77, hm⟩ := gI_e hm
                  refine va_iald hx hb hK hP 4 0 rfl rfl hi77 d_Mo_reach_99 ?_
                  refine lv_isub hx hb d_Mo_reach_100 ?_
                  cases hm
                  exact K72 H locs ls hP hD hS (lv_sub hl [1, 2, 3, 4, 5, 6] rfl)
                · replace hm := if_f hm c76
                  refine lv_aload_n hx hb d_Mo_reach_80 rfl (lv_at hl 1 rfl) ?_
                  refine va_get (D := (dC, dI)) (ci := 11) (v := .ref a_0_lows) (C := "SpaceCyclesModel") (T := F_Mo) (N := 54) hx hb hts (in_F i_Mo) hown hK hP 0 rfl rfl 3 (by decide) (hts _ (in_c k_281)) (fun _ h9 => h9) rfl d_Mo_reach_81 ?_
                  refine lv_iload hx hb d_Mo_reach_84 (lv_at hl 6 rfl) ?_
                  obtain ⟨hi78, hm⟩ := gI_e hm
                  refine va_iald hx hb hK hP 3 0 rfl rfl hi78 d_Mo_reach_86 ?_
                  refine lv_iload_n hx hb d_Mo_reach_87 rfl (lv_at hl 4 rfl) ?_
                  refine lv_isub hx hb d_Mo_reach_88 ?_
                  refine lv_goto (tgt := 101) hx hb d_Mo_reach_89 (by decide) ?_
                  cases hm
                  exact K72 H locs ls hP hD hS (lv_sub hl [1, 2, 3, 4, 5, 6] rfl)
    obtain ⟨x10, hb87, hm⟩ := bd1_e hm
    refine L26_11 fu _ _ _ hb87 (fun H locs ls hP hD hS hl => ?_) H locs ls hP hD hS (lv_sub hl [3, 4, 5, 2, 1, 0] rfl)
    refine lv_iload hx hb d_Mo_reach_211 (lv_at hl 0 rfl) ?_
    cases hm
    exact hret _ H locs ls d_Mo_reach_213 hP hD hS
  replace hm := hb2
  refine lv_if_eq (tgt := 13) hx hb d_Mo_reach_1 (by decide) (fun c5 => ?_) (fun c5 => ?_)
  · replace hm := if_t hm c5
    refine lv_aload_n hx hb d_Mo_reach_13 rfl (lv_at hl 0 rfl) ?_
    refine va_get (D := (dC, dI)) (ci := 11) (v := .ref a_0_lows) (C := "SpaceCyclesModel") (T := F_Mo) (N := 54) hx hb hts (in_F i_Mo) hown hK hP 0 rfl rfl 3 (by decide) (hts _ (in_c k_281)) (fun _ h9 => h9) rfl d_Mo_reach_14 ?_
    refine lv_iload_n hx hb d_Mo_reach_17 rfl (lv_at hl 1 rfl) ?_
    obtain ⟨hi6, hm⟩ := gI_e hm
    refine va_iald hx hb hK hP 3 0 rfl rfl hi6 d_Mo_reach_18 ?_
    cases hm
    exact K1 H locs ls hP hD hS (lv_sub hl [0, 1, 2] rfl)
  · replace hm := if_f hm c5
    refine lv_aload_n hx hb d_Mo_reach_4 rfl (lv_at hl 0 rfl) ?_
    refine va_get (D := (dC, dI)) (ci := 11) (v := .ref a_0_highs) (C := "SpaceCyclesModel") (T := F_Mo) (N := 54) hx hb hts (in_F i_Mo) hown hK hP 0 rfl rfl 4 (by decide) (hts _ (in_c k_282)) (fun _ h9 => h9) rfl d_Mo_reach_5 ?_
    refine lv_iload_n hx hb d_Mo_reach_8 rfl (lv_at hl 1 rfl) ?_
    obtain ⟨hi7, hm⟩ := gI_e hm
    refine va_iald hx hb hK hP 4 0 rfl rfl hi7 d_Mo_reach_9 ?_
    refine lv_goto (tgt := 19) hx hb d_Mo_reach_10 (by decide) ?_
    cases hm
    exact K1 H locs ls hP hD hS (lv_sub hl [0, 1, 2] rfl)
set_option maxHeartbeats 4000000 in
set_option maxRecDepth 100000 in
theorem c_Mo_reach (l : Launch) (dC : Nat → ClassId) (dI : Nat → Nat → Nat) {cI cZ cJ : ClassId} (a_0 a_0_isFlat a_0_across a_0_lows a_0_highs b_0_thick b_0_doorCounts b_0_doorFrom b_0_doorTo b_0_xs b_0_ys b_0_labels b_0_oldXs b_0_oldYs b_0_oldLabels b_0_names b_0_oldNames b_0_wanted b_0_common b_0_flatEdges b_0_upEdges b_0_isPoint b_0_stack b_0_pieceLines b_0_pieceBegins b_0_pieceEnds b_0_pieceLeft b_0_pieceRight b_0_outs b_0_isSeen b_0_ringSpaces b_0_ringStarts b_0_ringSizes b_0_ringLeast b_0_looseLines b_0_looseXs b_0_looseYs b_0_looseReaches b_0_far : Nat) (sz : Nat) (v_0_code : Int32) (v_0_lines : Int32) (v_0_isFresh : Int32) (v_0_hasRun : Int32) (v_0_runs : Int32) (v_0_nx : Int32) (v_0_ny : Int32) (v_0_spaces : Int32) (v_0_oldNx : Int32) (v_0_oldNy : Int32) (v_0_oldSpaces : Int32) (v_0_points : Int32) (v_0_pieces : Int32) (v_0_rings : Int32) (v_0_outsideSides : Int32) (v_0_looseCount : Int32) (f_0_isFlat : Nat → Int32) (f_0_across : Nat → Int32) (f_0_lows : Nat → Int32) (f_0_highs : Nat → Int32) (p1 : Int32) (p2 : Int32) (R0 : Int32) (hm : m_Mo_reach p1 p2 v_0_lines f_0_isFlat f_0_across f_0_lows f_0_highs = some R0) : Met l y_Mo_reach w_Mo_reach rm_Mo_reach (PP dC dI [(cI, .int), (cZ, .boolean), (cJ, .long)] [.ref a_0, .int p1, .int p2] sz (wl_Mo_reach a_0 a_0_isFlat a_0_across a_0_lows a_0_highs b_0_thick b_0_doorCounts b_0_doorFrom b_0_doorTo b_0_xs b_0_ys b_0_labels b_0_oldXs b_0_oldYs b_0_oldLabels b_0_names b_0_oldNames b_0_wanted b_0_common b_0_flatEdges b_0_upEdges b_0_isPoint b_0_stack b_0_pieceLines b_0_pieceBegins b_0_pieceEnds b_0_pieceLeft b_0_pieceRight b_0_outs b_0_isSeen b_0_ringSpaces b_0_ringStarts b_0_ringSizes b_0_ringLeast b_0_looseLines b_0_looseXs b_0_looseYs b_0_looseReaches b_0_far cZ cI v_0_code v_0_lines v_0_isFresh v_0_hasRun v_0_runs v_0_nx v_0_ny v_0_spaces v_0_oldNx v_0_oldNy v_0_oldSpaces v_0_points v_0_pieces v_0_rings v_0_outsideSides v_0_looseCount f_0_isFlat f_0_across f_0_lows f_0_highs)) (QI dC dI [(cI, .int), (cZ, .boolean), (cJ, .long)] sz (wl_Mo_reach a_0 a_0_isFlat a_0_across a_0_lows a_0_highs b_0_thick b_0_doorCounts b_0_doorFrom b_0_doorTo b_0_xs b_0_ys b_0_labels b_0_oldXs b_0_oldYs b_0_oldLabels b_0_names b_0_oldNames b_0_wanted b_0_common b_0_flatEdges b_0_upEdges b_0_isPoint b_0_stack b_0_pieceLines b_0_pieceBegins b_0_pieceEnds b_0_pieceLeft b_0_pieceRight b_0_outs b_0_isSeen b_0_ringSpaces b_0_ringStarts b_0_ringSizes b_0_ringLeast b_0_looseLines b_0_looseXs b_0_looseYs b_0_looseReaches b_0_far cZ cI v_0_code v_0_lines v_0_isFresh v_0_hasRun v_0_runs v_0_nx v_0_ny v_0_spaces v_0_oldNx v_0_oldNy v_0_oldSpaces v_0_points v_0_pieces v_0_rings v_0_outsideSides v_0_looseCount f_0_isFlat f_0_across f_0_lows f_0_highs) (wl_Mo_reach a_0 a_0_isFlat a_0_across a_0_lows a_0_highs b_0_thick b_0_doorCounts b_0_doorFrom b_0_doorTo b_0_xs b_0_ys b_0_labels b_0_oldXs b_0_oldYs b_0_oldLabels b_0_names b_0_oldNames b_0_wanted b_0_common b_0_flatEdges b_0_upEdges b_0_isPoint b_0_stack b_0_pieceLines b_0_pieceBegins b_0_pieceEnds b_0_pieceLeft b_0_pieceRight b_0_outs b_0_isSeen b_0_ringSpaces b_0_ringStarts b_0_ringSizes b_0_ringLeast b_0_looseLines b_0_looseXs b_0_looseYs b_0_looseReaches b_0_far cZ cI v_0_code v_0_lines v_0_isFresh v_0_hasRun v_0_runs v_0_nx v_0_ny v_0_spaces v_0_oldNx v_0_oldNy v_0_oldSpaces v_0_points v_0_pieces v_0_rings v_0_outsideSides v_0_looseCount f_0_isFlat f_0_across f_0_lows f_0_highs) R0) 0 0 (va_A (wl_Mo_reach a_0 a_0_isFlat a_0_across a_0_lows a_0_highs b_0_thick b_0_doorCounts b_0_doorFrom b_0_doorTo b_0_xs b_0_ys b_0_labels b_0_oldXs b_0_oldYs b_0_oldLabels b_0_names b_0_oldNames b_0_wanted b_0_common b_0_flatEdges b_0_upEdges b_0_isPoint b_0_stack b_0_pieceLines b_0_pieceBegins b_0_pieceEnds b_0_pieceLeft b_0_pieceRight b_0_outs b_0_isSeen b_0_ringSpaces b_0_ringStarts b_0_ringSizes b_0_ringLeast b_0_looseLines b_0_looseXs b_0_looseYs b_0_looseReaches b_0_far cZ cI v_0_code v_0_lines v_0_isFresh v_0_hasRun v_0_runs v_0_nx v_0_ny v_0_spaces v_0_oldNx v_0_oldNy v_0_oldSpaces v_0_points v_0_pieces v_0_rings v_0_outsideSides v_0_looseCount f_0_isFlat f_0_across f_0_lows f_0_highs) sz) := by
  refine Met.ofW (cc := b_Mo_reach) (maxL := 7) (ret := (some .int)) (by decide) rfl ?_
  intro p e s m args below meth c s₁ B hml hv
  obtain ⟨rfl, hsz, hP, hK, hD0, hN⟩ := hv
  subst hsz
  have hl := lv_entry ([.ref a_0, .int p1, .int p2]) (n := 7) (Nat.le_of_ble_eq_true rfl)
  rw [lg_entry_eq]
  generalize (lg_sl ([.ref a_0, .int p1, .int p2]) ++ List.replicate (7 - (lg_sl ([.ref a_0, .int p1, .int p2])).length) Slot.unset).toArray = ls at hl ⊢
  exact t_Mo_reach a_0 a_0_isFlat a_0_across a_0_lows a_0_highs b_0_thick b_0_doorCounts b_0_doorFrom b_0_doorTo b_0_xs b_0_ys b_0_labels b_0_oldXs b_0_oldYs b_0_oldLabels b_0_names b_0_oldNames b_0_wanted b_0_common b_0_flatEdges b_0_upEdges b_0_isPoint b_0_stack b_0_pieceLines b_0_pieceBegins b_0_pieceEnds b_0_pieceLeft b_0_pieceRight b_0_outs b_0_isSeen b_0_ringSpaces b_0_ringStarts b_0_ringSizes b_0_ringLeast b_0_looseLines b_0_looseXs b_0_looseYs b_0_looseReaches b_0_far v_0_code v_0_lines v_0_isFresh v_0_hasRun v_0_runs v_0_nx v_0_ny v_0_spaces v_0_oldNx v_0_oldNy v_0_oldSpaces v_0_points v_0_pieces v_0_rings v_0_outsideSides v_0_looseCount f_0_isFlat f_0_across f_0_lows f_0_highs p1 p2 R0 B.exec B.bytes hml (findClass_of_methodNamed B.named) (atoms_spec (ws := w_Mo_reach) B.pre) hK hN (fun q h => Or.inr h) (fun pc H locs ls hd hP9 hD9 hS => W.iret B.exec B.bytes B.returns (fun t ht hW => ⟨⟨_, (), rfl, rfl, by rw [ht]; exact hP9, va_K.moved hW.alike hK, hD9⟩, hS.F ht⟩) hS.2.2 hd) hm s.heap [] ls hP hD0.self va_S.rf hl

theorem k_363 : ((.fieldLink "SpaceCyclesModel" 214 "SpaceCyclesModel" "looseCount" "I") : Cond) ∈ gl := gl_i 1173 (by decide +kernel) (by decide +kernel)
theorem k_364 : ((.fieldLink "SpaceCyclesModel" 114 "SpaceCyclesModel" "looseXs" "[I") : Cond) ∈ gl := gl_i 1170 (by decide +kernel) (by decide +kernel)
theorem k_365 : ((.fieldLink "SpaceCyclesModel" 111 "SpaceCyclesModel" "looseLines" "[I") : Cond) ∈ gl := gl_i 1169 (by decide +kernel) (by decide +kernel)
theorem k_366 : ((.fieldLink "SpaceCyclesModel" 117 "SpaceCyclesModel" "looseYs" "[I") : Cond) ∈ gl := gl_i 1171 (by decide +kernel) (by decide +kernel)
theorem k_367 : ((.fieldLink "SpaceCyclesModel" 120 "SpaceCyclesModel" "looseReaches" "[I") : Cond) ∈ gl := gl_i 1172 (by decide +kernel) (by decide +kernel)
theorem k_368 : ((.code ⟨"SpaceCyclesModel", "reach", "(IZ)I"⟩ prog_13_method_25_code 7 (some .int)) : Cond) ∈ gl := gl_i 1386 (by decide +kernel) (by decide +kernel)
theorem k_369 : ((.selects "SpaceCyclesModel" ⟨"SpaceCyclesModel", "reach", "(IZ)I"⟩ ⟨"SpaceCyclesModel", "reach", "(IZ)I"⟩) : Cond) ∈ gl := gl_s (by decide +kernel) (by decide +kernel)
theorem k_370 : ((.instanceMethod ⟨"SpaceCyclesModel", "reach", "(IZ)I"⟩) : Cond) ∈ gl := gl_i 1385 (by decide +kernel) (by decide +kernel)
theorem k_371 : ((.methodLink "SpaceCyclesModel" 217 ⟨"SpaceCyclesModel", "reach", "(IZ)I"⟩) : Cond) ∈ gl := gl_i 1383 (by decide +kernel) (by decide +kernel)
-- SpaceCyclesModel.addLoose(IZ)V
abbrev b_Mo_addLoose : ByteArray := prog_13_method_26_code
abbrev y_Mo_addLoose : MethodName := ⟨"SpaceCyclesModel", "addLoose", "(IZ)V"⟩
abbrev w_Mo_addLoose : List Cond := Cond.code y_Mo_addLoose b_Mo_addLoose 7 none :: gl
abbrev rm_Mo_addLoose : Room := { frames := 2, cells := 0, slots := 0, locals := 51 }
theorem d_Mo_addLoose_0 : decode b_Mo_addLoose 0 = .ok (.iload_n 2, 1) := by decide +kernel
theorem d_Mo_addLoose_1 : decode b_Mo_addLoose 1 = .ok (.ifCond .eq 12, 3) := by decide +kernel
theorem d_Mo_addLoose_4 : decode b_Mo_addLoose 4 = .ok (.aload_n 0, 1) := by decide +kernel
theorem d_Mo_addLoose_5 : decode b_Mo_addLoose 5 = .ok (.getfield 20, 3) := by decide +kernel
theorem d_Mo_addLoose_8 : decode b_Mo_addLoose 8 = .ok (.iload_n 1, 1) := by decide +kernel
theorem d_Mo_addLoose_9 : decode b_Mo_addLoose 9 = .ok (.iaload, 1) := by decide +kernel
theorem d_Mo_addLoose_10 : decode b_Mo_addLoose 10 = .ok (.goto 9, 3) := by decide +kernel
theorem d_Mo_addLoose_13 : decode b_Mo_addLoose 13 = .ok (.aload_n 0, 1) := by decide +kernel
theorem d_Mo_addLoose_14 : decode b_Mo_addLoose 14 = .ok (.getfield 17, 3) := by decide +kernel
theorem d_Mo_addLoose_17 : decode b_Mo_addLoose 17 = .ok (.iload_n 1, 1) := by decide +kernel
theorem d_Mo_addLoose_18 : decode b_Mo_addLoose 18 = .ok (.iaload, 1) := by decide +kernel
theorem d_Mo_addLoose_19 : decode b_Mo_addLoose 19 = .ok (.istore_n 3, 1) := by decide +kernel
theorem d_Mo_addLoose_20 : decode b_Mo_addLoose 20 = .ok (.aload_n 0, 1) := by decide +kernel
theorem d_Mo_addLoose_21 : decode b_Mo_addLoose 21 = .ok (.getfield 7, 3) := by decide +kernel
theorem d_Mo_addLoose_24 : decode b_Mo_addLoose 24 = .ok (.iload_n 1, 1) := by decide +kernel
theorem d_Mo_addLoose_25 : decode b_Mo_addLoose 25 = .ok (.baload, 1) := by decide +kernel
theorem d_Mo_addLoose_26 : decode b_Mo_addLoose 26 = .ok (.ifCond .eq 7, 3) := by decide +kernel
theorem d_Mo_addLoose_29 : decode b_Mo_addLoose 29 = .ok (.iload_n 3, 1) := by decide +kernel
theorem d_Mo_addLoose_30 : decode b_Mo_addLoose 30 = .ok (.goto 9, 3) := by decide +kernel
theorem d_Mo_addLoose_33 : decode b_Mo_addLoose 33 = .ok (.aload_n 0, 1) := by decide +kernel
theorem d_Mo_addLoose_34 : decode b_Mo_addLoose 34 = .ok (.getfield 13, 3) := by decide +kernel
theorem d_Mo_addLoose_37 : decode b_Mo_addLoose 37 = .ok (.iload_n 1, 1) := by decide +kernel
theorem d_Mo_addLoose_38 : decode b_Mo_addLoose 38 = .ok (.iaload, 1) := by decide +kernel
theorem d_Mo_addLoose_39 : decode b_Mo_addLoose 39 = .ok (.istore 4, 2) := by decide +kernel
theorem d_Mo_addLoose_41 : decode b_Mo_addLoose 41 = .ok (.aload_n 0, 1) := by decide +kernel
theorem d_Mo_addLoose_42 : decode b_Mo_addLoose 42 = .ok (.getfield 7, 3) := by decide +kernel
theorem d_Mo_addLoose_45 : decode b_Mo_addLoose 45 = .ok (.iload_n 1, 1) := by decide +kernel
theorem d_Mo_addLoose_46 : decode b_Mo_addLoose 46 = .ok (.baload, 1) := by decide +kernel
theorem d_Mo_addLoose_47 : decode b_Mo_addLoose 47 = .ok (.ifCond .eq 12, 3) := by decide +kernel
theorem d_Mo_addLoose_50 : decode b_Mo_addLoose 50 = .ok (.aload_n 0, 1) := by decide +kernel
theorem d_Mo_addLoose_51 : decode b_Mo_addLoose 51 = .ok (.getfield 13, 3) := by decide +kernel
theorem d_Mo_addLoose_54 : decode b_Mo_addLoose 54 = .ok (.iload_n 1, 1) := by decide +kernel
theorem d_Mo_addLoose_55 : decode b_Mo_addLoose 55 = .ok (.iaload, 1) := by decide +kernel
theorem d_Mo_addLoose_56 : decode b_Mo_addLoose 56 = .ok (.goto 4, 3) := by decide +kernel
theorem d_Mo_addLoose_59 : decode b_Mo_addLoose 59 = .ok (.iload_n 3, 1) := by decide +kernel
theorem d_Mo_addLoose_60 : decode b_Mo_addLoose 60 = .ok (.istore 5, 2) := by decide +kernel
theorem d_Mo_addLoose_62 : decode b_Mo_addLoose 62 = .ok (.iconst 0, 1) := by decide +kernel
theorem d_Mo_addLoose_63 : decode b_Mo_addLoose 63 = .ok (.istore 6, 2) := by decide +kernel
theorem d_Mo_addLoose_65 : decode b_Mo_addLoose 65 = .ok (.iload 6, 2) := by decide +kernel
theorem d_Mo_addLoose_67 : decode b_Mo_addLoose 67 = .ok (.aload_n 0, 1) := by decide +kernel
theorem d_Mo_addLoose_68 : decode b_Mo_addLoose 68 = .ok (.getfield 130, 3) := by decide +kernel
theorem d_Mo_addLoose_71 : decode b_Mo_addLoose 71 = .ok (.if_icmp .ge 29, 3) := by decide +kernel
theorem d_Mo_addLoose_74 : decode b_Mo_addLoose 74 = .ok (.iload 6, 2) := by decide +kernel
theorem d_Mo_addLoose_76 : decode b_Mo_addLoose 76 = .ok (.iload_n 1, 1) := by decide +kernel
theorem d_Mo_addLoose_77 : decode b_Mo_addLoose 77 = .ok (.if_icmp .eq 17, 3) := by decide +kernel
theorem d_Mo_addLoose_80 : decode b_Mo_addLoose 80 = .ok (.aload_n 0, 1) := by decide +kernel
theorem d_Mo_addLoose_81 : decode b_Mo_addLoose 81 = .ok (.iload 6, 2) := by decide +kernel
theorem d_Mo_addLoose_83 : decode b_Mo_addLoose 83 = .ok (.iload 4, 2) := by decide +kernel
theorem d_Mo_addLoose_85 : decode b_Mo_addLoose 85 = .ok (.iload 5, 2) := by decide +kernel
theorem d_Mo_addLoose_87 : decode b_Mo_addLoose 87 = .ok (.invokevirtual 153, 3) := by decide +kernel
theorem d_Mo_addLoose_90 : decode b_Mo_addLoose 90 = .ok (.ifCond .eq 4, 3) := by decide +kernel
theorem d_Mo_addLoose_93 : decode b_Mo_addLoose 93 = .ok (.return_, 1) := by decide +kernel
theorem d_Mo_addLoose_94 : decode b_Mo_addLoose 94 = .ok (.iinc 6 1, 3) := by decide +kernel
theorem d_Mo_addLoose_97 : decode b_Mo_addLoose 97 = .ok (.goto (-32), 3) := by decide +kernel
theorem d_Mo_addLoose_100 : decode b_Mo_addLoose 100 = .ok (.aload_n 0, 1) := by decide +kernel
theorem d_Mo_addLoose_101 : decode b_Mo_addLoose 101 = .ok (.getfield 214, 3) := by decide +kernel
theorem d_Mo_addLoose_104 : decode b_Mo_addLoose 104 = .ok (.istore 6, 2) := by decide +kernel
theorem d_Mo_addLoose_106 : decode b_Mo_addLoose 106 = .ok (.iload 6, 2) := by decide +kernel
theorem d_Mo_addLoose_108 : decode b_Mo_addLoose 108 = .ok (.ifCond .le 115, 3) := by decide +kernel
theorem d_Mo_addLoose_111 : decode b_Mo_addLoose 111 = .ok (.aload_n 0, 1) := by decide +kernel
theorem d_Mo_addLoose_112 : decode b_Mo_addLoose 112 = .ok (.getfield 114, 3) := by decide +kernel
theorem d_Mo_addLoose_115 : decode b_Mo_addLoose 115 = .ok (.iload 6, 2) := by decide +kernel
theorem d_Mo_addLoose_117 : decode b_Mo_addLoose 117 = .ok (.iconst 1, 1) := by decide +kernel
theorem d_Mo_addLoose_118 : decode b_Mo_addLoose 118 = .ok (.isub, 1) := by decide +kernel
theorem d_Mo_addLoose_119 : decode b_Mo_addLoose 119 = .ok (.iaload, 1) := by decide +kernel
theorem d_Mo_addLoose_120 : decode b_Mo_addLoose 120 = .ok (.iload 4, 2) := by decide +kernel
theorem d_Mo_addLoose_122 : decode b_Mo_addLoose 122 = .ok (.if_icmp .gt 31, 3) := by decide +kernel
theorem d_Mo_addLoose_125 : decode b_Mo_addLoose 125 = .ok (.aload_n 0, 1) := by decide +kernel
theorem d_Mo_addLoose_126 : decode b_Mo_addLoose 126 = .ok (.getfield 114, 3) := by decide +kernel
theorem d_Mo_addLoose_129 : decode b_Mo_addLoose 129 = .ok (.iload 6, 2) := by decide +kernel
theorem d_Mo_addLoose_131 : decode b_Mo_addLoose 131 = .ok (.iconst 1, 1) := by decide +kernel
theorem d_Mo_addLoose_132 : decode b_Mo_addLoose 132 = .ok (.isub, 1) := by decide +kernel
theorem d_Mo_addLoose_133 : decode b_Mo_addLoose 133 = .ok (.iaload, 1) := by decide +kernel
theorem d_Mo_addLoose_134 : decode b_Mo_addLoose 134 = .ok (.iload 4, 2) := by decide +kernel
theorem d_Mo_addLoose_136 : decode b_Mo_addLoose 136 = .ok (.if_icmp .ne 87, 3) := by decide +kernel
theorem d_Mo_addLoose_139 : decode b_Mo_addLoose 139 = .ok (.aload_n 0, 1) := by decide +kernel
theorem d_Mo_addLoose_140 : decode b_Mo_addLoose 140 = .ok (.getfield 117, 3) := by decide +kernel
theorem d_Mo_addLoose_143 : decode b_Mo_addLoose 143 = .ok (.iload 6, 2) := by decide +kernel
theorem d_Mo_addLoose_145 : decode b_Mo_addLoose 145 = .ok (.iconst 1, 1) := by decide +kernel
theorem d_Mo_addLoose_146 : decode b_Mo_addLoose 146 = .ok (.isub, 1) := by decide +kernel
theorem d_Mo_addLoose_147 : decode b_Mo_addLoose 147 = .ok (.iaload, 1) := by decide +kernel
theorem d_Mo_addLoose_148 : decode b_Mo_addLoose 148 = .ok (.iload 5, 2) := by decide +kernel
theorem d_Mo_addLoose_150 : decode b_Mo_addLoose 150 = .ok (.if_icmp .le 73, 3) := by decide +kernel
theorem d_Mo_addLoose_153 : decode b_Mo_addLoose 153 = .ok (.aload_n 0, 1) := by decide +kernel
theorem d_Mo_addLoose_154 : decode b_Mo_addLoose 154 = .ok (.getfield 111, 3) := by decide +kernel
theorem d_Mo_addLoose_157 : decode b_Mo_addLoose 157 = .ok (.iload 6, 2) := by decide +kernel
theorem d_Mo_addLoose_159 : decode b_Mo_addLoose 159 = .ok (.aload_n 0, 1) := by decide +kernel
theorem d_Mo_addLoose_160 : decode b_Mo_addLoose 160 = .ok (.getfield 111, 3) := by decide +kernel
theorem d_Mo_addLoose_163 : decode b_Mo_addLoose 163 = .ok (.iload 6, 2) := by decide +kernel
theorem d_Mo_addLoose_165 : decode b_Mo_addLoose 165 = .ok (.iconst 1, 1) := by decide +kernel
theorem d_Mo_addLoose_166 : decode b_Mo_addLoose 166 = .ok (.isub, 1) := by decide +kernel
theorem d_Mo_addLoose_167 : decode b_Mo_addLoose 167 = .ok (.iaload, 1) := by decide +kernel
theorem d_Mo_addLoose_168 : decode b_Mo_addLoose 168 = .ok (.iastore, 1) := by decide +kernel
theorem d_Mo_addLoose_169 : decode b_Mo_addLoose 169 = .ok (.aload_n 0, 1) := by decide +kernel
theorem d_Mo_addLoose_170 : decode b_Mo_addLoose 170 = .ok (.getfield 114, 3) := by decide +kernel
theorem d_Mo_addLoose_173 : decode b_Mo_addLoose 173 = .ok (.iload 6, 2) := by decide +kernel
theorem d_Mo_addLoose_175 : decode b_Mo_addLoose 175 = .ok (.aload_n 0, 1) := by decide +kernel
theorem d_Mo_addLoose_176 : decode b_Mo_addLoose 176 = .ok (.getfield 114, 3) := by decide +kernel
theorem d_Mo_addLoose_179 : decode b_Mo_addLoose 179 = .ok (.iload 6, 2) := by decide +kernel
theorem d_Mo_addLoose_181 : decode b_Mo_addLoose 181 = .ok (.iconst 1, 1) := by decide +kernel
theorem d_Mo_addLoose_182 : decode b_Mo_addLoose 182 = .ok (.isub, 1) := by decide +kernel
theorem d_Mo_addLoose_183 : decode b_Mo_addLoose 183 = .ok (.iaload, 1) := by decide +kernel
theorem d_Mo_addLoose_184 : decode b_Mo_addLoose 184 = .ok (.iastore, 1) := by decide +kernel
theorem d_Mo_addLoose_185 : decode b_Mo_addLoose 185 = .ok (.aload_n 0, 1) := by decide +kernel
theorem d_Mo_addLoose_186 : decode b_Mo_addLoose 186 = .ok (.getfield 117, 3) := by decide +kernel
theorem d_Mo_addLoose_189 : decode b_Mo_addLoose 189 = .ok (.iload 6, 2) := by decide +kernel
theorem d_Mo_addLoose_191 : decode b_Mo_addLoose 191 = .ok (.aload_n 0, 1) := by decide +kernel
theorem d_Mo_addLoose_192 : decode b_Mo_addLoose 192 = .ok (.getfield 117, 3) := by decide +kernel
theorem d_Mo_addLoose_195 : decode b_Mo_addLoose 195 = .ok (.iload 6, 2) := by decide +kernel
theorem d_Mo_addLoose_197 : decode b_Mo_addLoose 197 = .ok (.iconst 1, 1) := by decide +kernel
theorem d_Mo_addLoose_198 : decode b_Mo_addLoose 198 = .ok (.isub, 1) := by decide +kernel
theorem d_Mo_addLoose_199 : decode b_Mo_addLoose 199 = .ok (.iaload, 1) := by decide +kernel
theorem d_Mo_addLoose_200 : decode b_Mo_addLoose 200 = .ok (.iastore, 1) := by decide +kernel
theorem d_Mo_addLoose_201 : decode b_Mo_addLoose 201 = .ok (.aload_n 0, 1) := by decide +kernel
theorem d_Mo_addLoose_202 : decode b_Mo_addLoose 202 = .ok (.getfield 120, 3) := by decide +kernel
theorem d_Mo_addLoose_205 : decode b_Mo_addLoose 205 = .ok (.iload 6, 2) := by decide +kernel
theorem d_Mo_addLoose_207 : decode b_Mo_addLoose 207 = .ok (.aload_n 0, 1) := by decide +kernel
theorem d_Mo_addLoose_208 : decode b_Mo_addLoose 208 = .ok (.getfield 120, 3) := by decide +kernel
theorem d_Mo_addLoose_211 : decode b_Mo_addLoose 211 = .ok (.iload 6, 2) := by decide +kernel
theorem d_Mo_addLoose_213 : decode b_Mo_addLoose 213 = .ok (.iconst 1, 1) := by decide +kernel
theorem d_Mo_addLoose_214 : decode b_Mo_addLoose 214 = .ok (.isub, 1) := by decide +kernel
theorem d_Mo_addLoose_215 : decode b_Mo_addLoose 215 = .ok (.iaload, 1) := by decide +kernel
theorem d_Mo_addLoose_216 : decode b_Mo_addLoose 216 = .ok (.iastore, 1) := by decide +kernel
theorem d_Mo_addLoose_217 : decode b_Mo_addLoose 217 = .ok (.iinc 6 (-1), 3) := by decide +kernel
theorem d_Mo_addLoose_220 : decode b_Mo_addLoose 220 = .ok (.goto (-114), 3) := by decide +kernel
theorem d_Mo_addLoose_223 : decode b_Mo_addLoose 223 = .ok (.aload_n 0, 1) := by decide +kernel
theorem d_Mo_addLoose_224 : decode b_Mo_addLoose 224 = .ok (.getfield 111, 3) := by decide +kernel
theorem d_Mo_addLoose_227 : decode b_Mo_addLoose 227 = .ok (.iload 6, 2) := by decide +kernel
theorem d_Mo_addLoose_229 : decode b_Mo_addLoose 229 = .ok (.iload_n 1, 1) := by decide +kernel
theorem d_Mo_addLoose_230 : decode b_Mo_addLoose 230 = .ok (.iastore, 1) := by decide +kernel
theorem d_Mo_addLoose_231 : decode b_Mo_addLoose 231 = .ok (.aload_n 0, 1) := by decide +kernel
theorem d_Mo_addLoose_232 : decode b_Mo_addLoose 232 = .ok (.getfield 114, 3) := by decide +kernel
theorem d_Mo_addLoose_235 : decode b_Mo_addLoose 235 = .ok (.iload 6, 2) := by decide +kernel
theorem d_Mo_addLoose_237 : decode b_Mo_addLoose 237 = .ok (.iload 4, 2) := by decide +kernel
theorem d_Mo_addLoose_239 : decode b_Mo_addLoose 239 = .ok (.iastore, 1) := by decide +kernel
theorem d_Mo_addLoose_240 : decode b_Mo_addLoose 240 = .ok (.aload_n 0, 1) := by decide +kernel
theorem d_Mo_addLoose_241 : decode b_Mo_addLoose 241 = .ok (.getfield 117, 3) := by decide +kernel
theorem d_Mo_addLoose_244 : decode b_Mo_addLoose 244 = .ok (.iload 6, 2) := by decide +kernel
theorem d_Mo_addLoose_246 : decode b_Mo_addLoose 246 = .ok (.iload 5, 2) := by decide +kernel
theorem d_Mo_addLoose_248 : decode b_Mo_addLoose 248 = .ok (.iastore, 1) := by decide +kernel
theorem d_Mo_addLoose_249 : decode b_Mo_addLoose 249 = .ok (.aload_n 0, 1) := by decide +kernel
theorem d_Mo_addLoose_250 : decode b_Mo_addLoose 250 = .ok (.getfield 120, 3) := by decide +kernel
theorem d_Mo_addLoose_253 : decode b_Mo_addLoose 253 = .ok (.iload 6, 2) := by decide +kernel
theorem d_Mo_addLoose_255 : decode b_Mo_addLoose 255 = .ok (.aload_n 0, 1) := by decide +kernel
theorem d_Mo_addLoose_256 : decode b_Mo_addLoose 256 = .ok (.iload_n 1, 1) := by decide +kernel
theorem d_Mo_addLoose_257 : decode b_Mo_addLoose 257 = .ok (.iload_n 2, 1) := by decide +kernel
theorem d_Mo_addLoose_258 : decode b_Mo_addLoose 258 = .ok (.invokevirtual 217, 3) := by decide +kernel
theorem d_Mo_addLoose_261 : decode b_Mo_addLoose 261 = .ok (.iastore, 1) := by decide +kernel
theorem d_Mo_addLoose_262 : decode b_Mo_addLoose 262 = .ok (.aload_n 0, 1) := by decide +kernel
theorem d_Mo_addLoose_263 : decode b_Mo_addLoose 263 = .ok (.dup, 1) := by decide +kernel
theorem d_Mo_addLoose_264 : decode b_Mo_addLoose 264 = .ok (.getfield 214, 3) := by decide +kernel
theorem d_Mo_addLoose_267 : decode b_Mo_addLoose 267 = .ok (.iconst 1, 1) := by decide +kernel
theorem d_Mo_addLoose_268 : decode b_Mo_addLoose 268 = .ok (.iadd, 1) := by decide +kernel
theorem d_Mo_addLoose_269 : decode b_Mo_addLoose 269 = .ok (.putfield 214, 3) := by decide +kernel
theorem d_Mo_addLoose_272 : decode b_Mo_addLoose 272 = .ok (.return_, 1) := by decide +kernel
abbrev wl_Mo_addLoose (a_0 : Nat) (a_0_isFlat : Nat) (a_0_across : Nat) (a_0_lows : Nat) (a_0_highs : Nat) (a_0_looseLines : Nat) (a_0_looseXs : Nat) (a_0_looseYs : Nat) (a_0_looseReaches : Nat) (b_0_thick : Nat) (b_0_doorCounts : Nat) (b_0_doorFrom : Nat) (b_0_doorTo : Nat) (b_0_xs : Nat) (b_0_ys : Nat) (b_0_labels : Nat) (b_0_oldXs : Nat) (b_0_oldYs : Nat) (b_0_oldLabels : Nat) (b_0_names : Nat) (b_0_oldNames : Nat) (b_0_wanted : Nat) (b_0_common : Nat) (b_0_flatEdges : Nat) (b_0_upEdges : Nat) (b_0_isPoint : Nat) (b_0_stack : Nat) (b_0_pieceLines : Nat) (b_0_pieceBegins : Nat) (b_0_pieceEnds : Nat) (b_0_pieceLeft : Nat) (b_0_pieceRight : Nat) (b_0_outs : Nat) (b_0_isSeen : Nat) (b_0_ringSpaces : Nat) (b_0_ringStarts : Nat) (b_0_ringSizes : Nat) (b_0_ringLeast : Nat) (b_0_far : Nat) (cZ : ClassId) (cI : ClassId) (v_0_code : Int32) (v_0_lines : Int32) (v_0_isFresh : Int32) (v_0_hasRun : Int32) (v_0_runs : Int32) (v_0_nx : Int32) (v_0_ny : Int32) (v_0_spaces : Int32) (v_0_oldNx : Int32) (v_0_oldNy : Int32) (v_0_oldSpaces : Int32) (v_0_points : Int32) (v_0_pieces : Int32) (v_0_rings : Int32) (v_0_outsideSides : Int32) (v_0_looseCount : Int32) (f_0_isFlat : Nat → Int32) (f_0_across : Nat → Int32) (f_0_lows : Nat → Int32) (f_0_highs : Nat → Int32) (f_0_looseLines : Nat → Int32) (f_0_looseXs : Nat → Int32) (f_0_looseYs : Nat → Int32) (f_0_looseReaches : Nat → Int32) : va_W := [(a_0, .inr (11, [.int v_0_code, .ref a_0_isFlat, .ref a_0_across, .ref a_0_lows, .ref a_0_highs, .ref b_0_thick, .int v_0_lines, .ref b_0_doorCounts, .ref b_0_doorFrom, .ref b_0_doorTo, .int v_0_isFresh, .int v_0_hasRun, .int v_0_runs, .ref b_0_xs, .ref b_0_ys, .int v_0_nx, .int v_0_ny, .ref b_0_labels, .int v_0_spaces, .ref b_0_oldXs, .ref b_0_oldYs, .int v_0_oldNx, .int v_0_oldNy, .ref b_0_oldLabels, .int v_0_oldSpaces, .ref b_0_names, .ref b_0_oldNames, .ref b_0_wanted, .ref b_0_common, .ref b_0_flatEdges, .ref b_0_upEdges, .ref b_0_isPoint, .int v_0_points, .ref b_0_stack, .ref b_0_pieceLines, .ref b_0_pieceBegins, .ref b_0_pieceEnds, .ref b_0_pieceLeft, .ref b_0_pieceRight, .int v_0_pieces, .ref b_0_outs, .ref b_0_isSeen, .ref b_0_ringSpaces, .ref b_0_ringStarts, .ref b_0_ringSizes, .ref b_0_ringLeast, .int v_0_rings, .int v_0_outsideSides, .ref a_0_looseLines, .ref a_0_looseXs, .ref a_0_looseYs, .ref a_0_looseReaches, .int v_0_looseCount, .ref b_0_far])), (a_0_isFlat, .inl (cZ, 20, .inl f_0_isFlat)), (a_0_across, .inl (cI, 20, .inl f_0_across)), (a_0_lows, .inl (cI, 20, .inl f_0_lows)), (a_0_highs, .inl (cI, 20, .inl f_0_highs)), (a_0_looseLines, .inl (cI, 40, .inl f_0_looseLines)), (a_0_looseXs, .inl (cI, 40, .inl f_0_looseXs)), (a_0_looseYs, .inl (cI, 40, .inl f_0_looseYs)), (a_0_looseReaches, .inl (cI, 40, .inl f_0_looseReaches))]
def m_Mo_addLoose_L65 (l1 : Int32) (l4 : Int32) (l5 : Int32) (v_0_lines : Int32) (v_0_looseCount : Int32) (f_0_isFlat : Nat → Int32) (f_0_across : Nat → Int32) (f_0_lows : Nat → Int32) (f_0_highs : Nat → Int32) (f_0_looseLines : Nat → Int32) (f_0_looseXs : Nat → Int32) (f_0_looseYs : Nat → Int32) (f_0_looseReaches : Nat → Int32) : Nat → Int32 → Option (Sum ((Int32) × (Nat → Int32) × (Nat → Int32) × (Nat → Int32) × (Nat → Int32)) (Unit))
  | 0, _ => none
  | n + 1, l6 =>
    if v_0_lines ≤ l6 then (
      some (Sum.inr ()))
    else (
      bt0 (
        if l6 = l1 then (
        some (Sum.inr ()))
      else (
        bd1 (m_Mo_isOn l6 l4 l5 f_0_isFlat f_0_across f_0_lows f_0_highs) fun r27 =>
        if r27 = 0 then (
          some (Sum.inr ()))
        else (
          some (Sum.inl (v_0_looseCount, f_0_looseLines, f_0_looseXs, f_0_looseYs, f_0_looseReaches))))) <|
      lt_ (l6 + 1) fun x30 =>
        m_Mo_addLoose_L65 l1 l4 l5 v_0_lines v_0_looseCount f_0_isFlat f_0_across f_0_lows f_0_highs f_0_looseLines f_0_looseXs f_0_looseYs f_0_looseReaches n x30)

def m_Mo_addLoose_L106 (l5 : Int32) (l4 : Int32) : Nat → Int32 → (Nat → Int32) → (Nat → Int32) → (Nat → Int32) → (Nat → Int32) → Option (Int32 × (Nat → Int32) × (Nat → Int32) × (Nat → Int32) × (Nat → Int32))
  | 0, _, _, _, _, _ => none
  | n + 1, l6, f_0_looseLines, f_0_looseXs, f_0_looseYs, f_0_looseReaches =>
    if l6 ≤ 0 then (
      some (l6, f_0_looseLines, f_0_looseXs, f_0_looseYs, f_0_looseReaches))
    else (
      gI (l6 - 1) 40 <|
      if l4 < (f_0_looseXs (l6 - 1).toNatClampNeg) then (
        gI (l6 - 1) 40 <|
        gI l6 40 <|
        lt_ (upd f_0_looseLines l6.toNatClampNeg (f_0_looseLines (l6 - 1).toNatClampNeg)) fun f40 =>
        gI (l6 - 1) 40 <|
        gI l6 40 <|
        lt_ (upd f_0_looseXs l6.toNatClampNeg (f_0_looseXs (l6 - 1).toNatClampNeg)) fun f43 =>
        gI (l6 - 1) 40 <|
        gI l6 40 <|
        lt_ (upd f_0_looseYs l6.toNatClampNeg (f_0_looseYs (l6 - 1).toNatClampNeg)) fun f46 =>
        gI (l6 - 1) 40 <|
        gI l6 40 <|
        lt_ (upd f_0_looseReaches l6.toNatClampNeg (f_0_looseReaches (l6 - 1).toNatClampNeg)) fun f49 =>
        lt_ (l6 + (-1)) fun x50 =>
        m_Mo_addLoose_L106 l5 l4 n x50 f40 f43 f46 f49)
      else (
        gI (l6 - 1) 40 <|
        if (f_0_looseXs (l6 - 1).toNatClampNeg) = l4 then (
          gI (l6 - 1) 40 <|
          if (f_0_looseYs (l6 - 1).toNatClampNeg) ≤ l5 then (
            some (l6, f_0_looseLines, f_0_looseXs, f_0_looseYs, f_0_looseReaches))
          else (
            gI (l6 - 1) 40 <|
            gI l6 40 <|
            lt_ (upd f_0_looseLines l6.toNatClampNeg (f_0_looseLines (l6 - 1).toNatClampNeg)) fun f57 =>
            gI (l6 - 1) 40 <|
            gI l6 40 <|
            lt_ (upd f_0_looseXs l6.toNatClampNeg (f_0_looseXs (l6 - 1).toNatClampNeg)) fun f60 =>
            gI (l6 - 1) 40 <|
            gI l6 40 <|
            lt_ (upd f_0_looseYs l6.toNatClampNeg (f_0_looseYs (l6 - 1).toNatClampNeg)) fun f63 =>
            gI (l6 - 1) 40 <|
            gI l6 40 <|
            lt_ (upd f_0_looseReaches l6.toNatClampNeg (f_0_looseReaches (l6 - 1).toNatClampNeg)) fun f66 =>
            lt_ (l6 + (-1)) fun x67 =>
            m_Mo_addLoose_L106 l5 l4 n x67 f57 f60 f63 f66))
        else (
          some (l6, f_0_looseLines, f_0_looseXs, f_0_looseYs, f_0_looseReaches))))
def m_Mo_addLoose (p1 : Int32) (p2 : Int32) (v_0_lines : Int32) (v_0_looseCount : Int32) (f_0_isFlat : Nat → Int32) (f_0_across : Nat → Int32) (f_0_lows : Nat → Int32) (f_0_highs : Nat → Int32) (f_0_looseLines : Nat → Int32) (f_0_looseXs : Nat → Int32) (f_0_looseYs : Nat → Int32) (f_0_looseReaches : Nat → Int32) : Option ((Int32) × (Nat → Int32) × (Nat → Int32) × (Nat → Int32) × (Nat → Int32)) :=
  bd1 (
    if p2 = 0 then (
    gI p1 20 <|
    some (f_0_lows p1.toNatClampNeg))
  else (
    gI p1 20 <|
    some (f_0_highs p1.toNatClampNeg)))
  fun (x4 : Int32) =>
  gI p1 20 <|
    bd1 (
      if (f_0_isFlat p1.toNatClampNeg) = 0 then (
      gI p1 20 <|
      some (f_0_across p1.toNatClampNeg))
    else (
      some x4))
    fun (x12 : Int32) =>
    gI p1 20 <|
      bd1 (
        if (f_0_isFlat p1.toNatClampNeg) = 0 then (
        some x4)
      else (
        gI p1 20 <|
        some (f_0_across p1.toNatClampNeg)))
      fun (x19 : Int32) =>
      bs0 (m_Mo_addLoose_L65 p1 x12 x19 v_0_lines v_0_looseCount f_0_isFlat f_0_across f_0_lows f_0_highs f_0_looseLines f_0_looseXs f_0_looseYs f_0_looseReaches fu 0) <|
        bd5 (m_Mo_addLoose_L106 x19 x12 fu v_0_looseCount f_0_looseLines f_0_looseXs f_0_looseYs f_0_looseReaches) fun x40 f41 f42 f43 f44 =>
        gI x40 40 <|
        lt_ (upd f41 x40.toNatClampNeg p1) fun f81 =>
        gI x40 40 <|
        lt_ (upd f42 x40.toNatClampNeg x12) fun f83 =>
        gI x40 40 <|
        lt_ (upd f43 x40.toNatClampNeg x19) fun f85 =>
        bd1 (m_Mo_reach p1 p2 v_0_lines f_0_isFlat f_0_across f_0_lows f_0_highs) fun r86 =>
        gI x40 40 <|
        lt_ (upd f44 x40.toNatClampNeg r86) fun f89 =>
        lt_ (v_0_looseCount + 1) fun x90 =>
        some (x90, f81, f83, f85, f89)

set_option maxHeartbeats 4000000 in
set_option maxRecDepth 100000 in
theorem t_Mo_addLoose {p : Program} {l : Launch} {e : Env} {s : State} {m : MethodId} {args : Array Value} {below : List Frame} {meth : Method} {c : Code} {A : Nat → Prop} {Q : State → Prop} {dC : Nat → ClassId} {dI : Nat → Nat → Nat} {cI cZ cJ : ClassId} (a_0 a_0_isFlat a_0_across a_0_lows a_0_highs a_0_looseLines a_0_looseXs a_0_looseYs a_0_looseReaches b_0_thick b_0_doorCounts b_0_doorFrom b_0_doorTo b_0_xs b_0_ys b_0_labels b_0_oldXs b_0_oldYs b_0_oldLabels b_0_names b_0_oldNames b_0_wanted b_0_common b_0_flatEdges b_0_upEdges b_0_isPoint b_0_stack b_0_pieceLines b_0_pieceBegins b_0_pieceEnds b_0_pieceLeft b_0_pieceRight b_0_outs b_0_isSeen b_0_ringSpaces b_0_ringStarts b_0_ringSizes b_0_ringLeast b_0_far : Nat) (v_0_code : Int32) (v_0_lines : Int32) (v_0_isFresh : Int32) (v_0_hasRun : Int32) (v_0_runs : Int32) (v_0_nx : Int32) (v_0_ny : Int32) (v_0_spaces : Int32) (v_0_oldNx : Int32) (v_0_oldNy : Int32) (v_0_oldSpaces : Int32) (v_0_points : Int32) (v_0_pieces : Int32) (v_0_rings : Int32) (v_0_outsideSides : Int32) (v_0_looseCount : Int32) (f_0_isFlat : Nat → Int32) (f_0_across : Nat → Int32) (f_0_lows : Nat → Int32) (f_0_highs : Nat → Int32) (f_0_looseLines : Nat → Int32) (f_0_looseXs : Nat → Int32) (f_0_looseYs : Nat → Int32) (f_0_looseReaches : Nat → Int32) (p1 : Int32) (p2 : Int32) (ov_0_looseCount : Int32) (of_0_looseLines : Nat → Int32) (of_0_looseXs : Nat → Int32) (of_0_looseYs : Nat → Int32) (of_0_looseReaches : Nat → Int32) (hx : p.tables.exec = Jvm.exec) (hb : c.code = b_Mo_addLoose) (hml : c.maxLocals = 7) (hown : s.vm.findClass "SpaceCyclesModel" = some m.cls) (hts : ∀ w ∈ w_Mo_addLoose, w.before args s = true) (hK : va_K (dC, dI) vwCl [(cI, .int), (cZ, .boolean), (cJ, .long)] s) (hN : NX s) (hA : ∀ q : Nat, s.heap.size ≤ q → A q)
    (hret : ∀ (pc : Nat) (H : Heap) (locs : List Loc) (ls : Array Slot), decode b_Mo_addLoose pc = .ok (.return_, 1) → va_P (dC, dI) vwCl (wl_Mo_addLoose a_0 a_0_isFlat a_0_across a_0_lows a_0_highs a_0_looseLines a_0_looseXs a_0_looseYs a_0_looseReaches b_0_thick b_0_doorCounts b_0_doorFrom b_0_doorTo b_0_xs b_0_ys b_0_labels b_0_oldXs b_0_oldYs b_0_oldLabels b_0_names b_0_oldNames b_0_wanted b_0_common b_0_flatEdges b_0_upEdges b_0_isPoint b_0_stack b_0_pieceLines b_0_pieceBegins b_0_pieceEnds b_0_pieceLeft b_0_pieceRight b_0_outs b_0_isSeen b_0_ringSpaces b_0_ringStarts b_0_ringSizes b_0_ringLeast b_0_far cZ cI v_0_code v_0_lines v_0_isFresh v_0_hasRun v_0_runs v_0_nx v_0_ny v_0_spaces v_0_oldNx v_0_oldNy v_0_oldSpaces v_0_points v_0_pieces v_0_rings v_0_outsideSides ov_0_looseCount f_0_isFlat f_0_across f_0_lows f_0_highs of_0_looseLines of_0_looseXs of_0_looseYs of_0_looseReaches) H → va_D A (wl_Mo_addLoose a_0 a_0_isFlat a_0_across a_0_lows a_0_highs a_0_looseLines a_0_looseXs a_0_looseYs a_0_looseReaches b_0_thick b_0_doorCounts b_0_doorFrom b_0_doorTo b_0_xs b_0_ys b_0_labels b_0_oldXs b_0_oldYs b_0_oldLabels b_0_names b_0_oldNames b_0_wanted b_0_common b_0_flatEdges b_0_upEdges b_0_isPoint b_0_stack b_0_pieceLines b_0_pieceBegins b_0_pieceEnds b_0_pieceLeft b_0_pieceRight b_0_outs b_0_isSeen b_0_ringSpaces b_0_ringStarts b_0_ringSizes b_0_ringLeast b_0_far cZ cI v_0_code v_0_lines v_0_isFresh v_0_hasRun v_0_runs v_0_nx v_0_ny v_0_spaces v_0_oldNx v_0_oldNy v_0_oldSpaces v_0_points v_0_pieces v_0_rings v_0_outsideSides ov_0_looseCount f_0_isFlat f_0_across f_0_lows f_0_highs of_0_looseLines of_0_looseXs of_0_looseYs of_0_looseReaches) → va_S A s.heap H locs → W p l e rm_Mo_addLoose s m args below meth c H locs 0 0 Q (F0 m pc ls []))
    (hm : m_Mo_addLoose p1 p2 v_0_lines v_0_looseCount f_0_isFlat f_0_across f_0_lows f_0_highs f_0_looseLines f_0_looseXs f_0_looseYs f_0_looseReaches = some (ov_0_looseCount, of_0_looseLines, of_0_looseXs, of_0_looseYs, of_0_looseReaches)) : ∀ (H : Heap) (locs : List Loc) (ls : Array Slot), va_P (dC, dI) vwCl (wl_Mo_addLoose a_0 a_0_isFlat a_0_across a_0_lows a_0_highs a_0_looseLines a_0_looseXs a_0_looseYs a_0_looseReaches b_0_thick b_0_doorCounts b_0_doorFrom b_0_doorTo b_0_xs b_0_ys b_0_labels b_0_oldXs b_0_oldYs b_0_oldLabels b_0_names b_0_oldNames b_0_wanted b_0_common b_0_flatEdges b_0_upEdges b_0_isPoint b_0_stack b_0_pieceLines b_0_pieceBegins b_0_pieceEnds b_0_pieceLeft b_0_pieceRight b_0_outs b_0_isSeen b_0_ringSpaces b_0_ringStarts b_0_ringSizes b_0_ringLeast b_0_far cZ cI v_0_code v_0_lines v_0_isFresh v_0_hasRun v_0_runs v_0_nx v_0_ny v_0_spaces v_0_oldNx v_0_oldNy v_0_oldSpaces v_0_points v_0_pieces v_0_rings v_0_outsideSides v_0_looseCount f_0_isFlat f_0_across f_0_lows f_0_highs f_0_looseLines f_0_looseXs f_0_looseYs f_0_looseReaches) H → va_D A (wl_Mo_addLoose a_0 a_0_isFlat a_0_across a_0_lows a_0_highs a_0_looseLines a_0_looseXs a_0_looseYs a_0_looseReaches b_0_thick b_0_doorCounts b_0_doorFrom b_0_doorTo b_0_xs b_0_ys b_0_labels b_0_oldXs b_0_oldYs b_0_oldLabels b_0_names b_0_oldNames b_0_wanted b_0_common b_0_flatEdges b_0_upEdges b_0_isPoint b_0_stack b_0_pieceLines b_0_pieceBegins b_0_pieceEnds b_0_pieceLeft b_0_pieceRight b_0_outs b_0_isSeen b_0_ringSpaces b_0_ringStarts b_0_ringSizes b_0_ringLeast b_0_far cZ cI v_0_code v_0_lines v_0_isFresh v_0_hasRun v_0_runs v_0_nx v_0_ny v_0_spaces v_0_oldNx v_0_oldNy v_0_oldSpaces v_0_points v_0_pieces v_0_rings v_0_outsideSides v_0_looseCount f_0_isFlat f_0_across f_0_lows f_0_highs f_0_looseLines f_0_looseXs f_0_looseYs f_0_looseReaches) → va_S A s.heap H locs → lv_has ls 7 [(0, .ref a_0), (1, .int p1), (2, .int p2)] → W p l e rm_Mo_addLoose s m args below meth c H locs 0 0 Q (F0 m 0 ls []) := by
  intro H locs ls hP hD hS hl
  unfold m_Mo_addLoose at hm
  refine lv_iload_n hx hb d_Mo_addLoose_0 rfl (lv_at hl 2 rfl) ?_
  obtain ⟨x4, hb2, hm⟩ := bd1_e hm
  have K1 : ∀ (H : Heap) (locs : List Loc) (ls : Array Slot), va_P (dC, dI) vwCl (wl_Mo_addLoose a_0 a_0_isFlat a_0_across a_0_lows a_0_highs a_0_looseLines a_0_looseXs a_0_looseYs a_0_looseReaches b_0_thick b_0_doorCounts b_0_doorFrom b_0_doorTo b_0_xs b_0_ys b_0_labels b_0_oldXs b_0_oldYs b_0_oldLabels b_0_names b_0_oldNames b_0_wanted b_0_common b_0_flatEdges b_0_upEdges b_0_isPoint b_0_stack b_0_pieceLines b_0_pieceBegins b_0_pieceEnds b_0_pieceLeft b_0_pieceRight b_0_outs b_0_isSeen b_0_ringSpaces b_0_ringStarts b_0_ringSizes b_0_ringLeast b_0_far cZ cI v_0_code v_0_lines v_0_isFresh v_0_hasRun v_0_runs v_0_nx v_0_ny v_0_spaces v_0_oldNx v_0_oldNy v_0_oldSpaces v_0_points v_0_pieces v_0_rings v_0_outsideSides v_0_looseCount f_0_isFlat f_0_across f_0_lows f_0_highs f_0_looseLines f_0_looseXs f_0_looseYs f_0_looseReaches) H → va_D A (wl_Mo_addLoose a_0 a_0_isFlat a_0_across a_0_lows a_0_highs a_0_looseLines a_0_looseXs a_0_looseYs a_0_looseReaches b_0_thick b_0_doorCounts b_0_doorFrom b_0_doorTo b_0_xs b_0_ys b_0_labels b_0_oldXs b_0_oldYs b_0_oldLabels b_0_names b_0_oldNames b_0_wanted b_0_common b_0_flatEdges b_0_upEdges b_0_isPoint b_0_stack b_0_pieceLines b_0_pieceBegins b_0_pieceEnds b_0_pieceLeft b_0_pieceRight b_0_outs b_0_isSeen b_0_ringSpaces b_0_ringStarts b_0_ringSizes b_0_ringLeast b_0_far cZ cI v_0_code v_0_lines v_0_isFresh v_0_hasRun v_0_runs v_0_nx v_0_ny v_0_spaces v_0_oldNx v_0_oldNy v_0_oldSpaces v_0_points v_0_pieces v_0_rings v_0_outsideSides v_0_looseCount f_0_isFlat f_0_across f_0_lows f_0_highs f_0_looseLines f_0_looseXs f_0_looseYs f_0_looseReaches) → va_S A s.heap H locs → lv_has ls 7 [(0, .ref a_0), (1, .int p1), (2, .int p2)] → W p l e rm_Mo_addLoose s m args below meth c H locs 0 0 Q (F0 m 19 ls [.int x4]) := by
    intro H locs ls hP hD hS hl
    refine lv_istore_n (lv' := [(3, .int x4), (0, .ref a_0), (1, .int p1), (2, .int p2)]) hx hb d_Mo_addLoose_19 rfl hl (by decide) rfl (fun ls hl => ?_)
    refine lv_aload_n hx hb d_Mo_addLoose_20 rfl (lv_at hl 1 rfl) ?_
    refine va_get (D := (dC, dI)) (ci := 11) (v := .ref a_0_isFlat) (C := "SpaceCyclesModel") (T := F_Mo) (N := 54) hx hb hts (in_F i_Mo) hown hK hP 0 rfl rfl 1 (by decide) (hts _ (in_c k_279)) (fun _ h9 => h9) rfl d_Mo_addLoose_21 ?_
    refine lv_iload_n hx hb d_Mo_addLoose_24 rfl (lv_at hl 2 rfl) ?_
    obtain ⟨hi8, hm⟩ := gI_e hm
    refine va_zald hx hb hK hP 1 1 rfl rfl hi8 d_Mo_addLoose_25 ?_
    obtain ⟨x12, hb10, hm⟩ := bd1_e hm
    have K9 : ∀ (H : Heap) (locs : List Loc) (ls : Array Slot), va_P (dC, dI) vwCl (wl_Mo_addLoose a_0 a_0_isFlat a_0_across a_0_lows a_0_highs a_0_looseLines a_0_looseXs a_0_looseYs a_0_looseReaches b_0_thick b_0_doorCounts b_0_doorFrom b_0_doorTo b_0_xs b_0_ys b_0_labels b_0_oldXs b_0_oldYs b_0_oldLabels b_0_names b_0_oldNames b_0_wanted b_0_common b_0_flatEdges b_0_upEdges b_0_isPoint b_0_stack b_0_pieceLines b_0_pieceBegins b_0_pieceEnds b_0_pieceLeft b_0_pieceRight b_0_outs b_0_isSeen b_0_ringSpaces b_0_ringStarts b_0_ringSizes b_0_ringLeast b_0_far cZ cI v_0_code v_0_lines v_0_isFresh v_0_hasRun v_0_runs v_0_nx v_0_ny v_0_spaces v_0_oldNx v_0_oldNy v_0_oldSpaces v_0_points v_0_pieces v_0_rings v_0_outsideSides v_0_looseCount f_0_isFlat f_0_across f_0_lows f_0_highs f_0_looseLines f_0_looseXs f_0_looseYs f_0_looseReaches) H → va_D A (wl_Mo_addLoose a_0 a_0_isFlat a_0_across a_0_lows a_0_highs a_0_looseLines a_0_looseXs a_0_looseYs a_0_looseReaches b_0_thick b_0_doorCounts b_0_doorFrom b_0_doorTo b_0_xs b_0_ys b_0_labels b_0_oldXs b_0_oldYs b_0_oldLabels b_0_names b_0_oldNames b_0_wanted b_0_common b_0_flatEdges b_0_upEdges b_0_isPoint b_0_stack b_0_pieceLines b_0_pieceBegins b_0_pieceEnds b_0_pieceLeft b_0_pieceRight b_0_outs b_0_isSeen b_0_ringSpaces b_0_ringStarts b_0_ringSizes b_0_ringLeast b_0_far cZ cI v_0_code v_0_lines v_0_isFresh v_0_hasRun v_0_runs v_0_nx v_0_ny v_0_spaces v_0_oldNx v_0_oldNy v_0_oldSpaces v_0_points v_0_pieces v_0_rings v_0_outsideSides v_0_looseCount f_0_isFlat f_0_across f_0_lows f_0_highs f_0_looseLines f_0_looseXs f_0_looseYs f_0_looseReaches) → va_S A s.heap H locs → lv_has ls 7 [(0, .ref a_0), (1, .int p1), (2, .int p2), (3, .int x4)] → W p l e rm_Mo_addLoose s m args below meth c H locs 0 0 Q (F0 m 39 ls [.int x12]) := by
      intro H locs ls hP hD hS hl
      refine lv_istore (lv' := [(4, .int x12), (0, .ref a_0), (1, .int p1), (2, .int p2), (3, .int x4)]) hx hb d_Mo_addLoose_39 hl (by decide) rfl (fun ls hl => ?_)
      refine lv_aload_n hx hb d_Mo_addLoose_41 rfl (lv_at hl 1 rfl) ?_
      refine va_get (D := (dC, dI)) (ci := 11) (v := .ref a_0_isFlat) (C := "SpaceCyclesModel") (T := F_Mo) (N := 54) hx hb hts (in_F i_Mo) hown hK hP 0 rfl rfl 1 (by decide) (hts _ (in_c k_279)) (fun _ h9 => h9) rfl d_Mo_addLoose_42 ?_
      refine lv_iload_n hx hb d_Mo_addLoose_45 rfl (lv_at hl 2 rfl) ?_
      obtain ⟨hi15, hm⟩ := gI_e hm
      refine va_zald hx hb hK hP 1 1 rfl rfl hi15 d_Mo_addLoose_46 ?_
      obtain ⟨x19, hb17, hm⟩ := bd1_e hm
      have K16 : ∀ (H : Heap) (locs : List Loc) (ls : Array Slot), va_P (dC, dI) vwCl (wl_Mo_addLoose a_0 a_0_isFlat a_0_across a_0_lows a_0_highs a_0_looseLines a_0_looseXs a_0_looseYs a_0_looseReaches b_0_thick b_0_doorCounts b_0_doorFrom b_0_doorTo b_0_xs b_0_ys b_0_labels b_0_oldXs b_0_oldYs b_0_oldLabels b_0_names b_0_oldNames b_0_wanted b_0_common b_0_flatEdges b_0_upEdges b_0_isPoint b_0_stack b_0_pieceLines b_0_pieceBegins b_0_pieceEnds b_0_pieceLeft b_0_pieceRight b_0_outs b_0_isSeen b_0_ringSpaces b_0_ringStarts b_0_ringSizes b_0_ringLeast b_0_far cZ cI v_0_code v_0_lines v_0_isFresh v_0_hasRun v_0_runs v_0_nx v_0_ny v_0_spaces v_0_oldNx v_0_oldNy v_0_oldSpaces v_0_points v_0_pieces v_0_rings v_0_outsideSides v_0_looseCount f_0_isFlat f_0_across f_0_lows f_0_highs f_0_looseLines f_0_looseXs f_0_looseYs f_0_looseReaches) H → va_D A (wl_Mo_addLoose a_0 a_0_isFlat a_0_across a_0_lows a_0_highs a_0_looseLines a_0_looseXs a_0_looseYs a_0_looseReaches b_0_thick b_0_doorCounts b_0_doorFrom b_0_doorTo b_0_xs b_0_ys b_0_labels b_0_oldXs b_0_oldYs b_0_oldLabels b_0_names b_0_oldNames b_0_wanted b_0_common b_0_flatEdges b_0_upEdges b_0_isPoint b_0_stack b_0_pieceLines b_0_pieceBegins b_0_pieceEnds b_0_pieceLeft b_0_pieceRight b_0_outs b_0_isSeen b_0_ringSpaces b_0_ringStarts b_0_ringSizes b_0_ringLeast b_0_far cZ cI v_0_code v_0_lines v_0_isFresh v_0_hasRun v_0_runs v_0_nx v_0_ny v_0_spaces v_0_oldNx v_0_oldNy v_0_oldSpaces v_0_points v_0_pieces v_0_rings v_0_outsideSides v_0_looseCount f_0_isFlat f_0_across f_0_lows f_0_highs f_0_looseLines f_0_looseXs f_0_looseYs f_0_looseReaches) → va_S A s.heap H locs → lv_has ls 7 [(0, .ref a_0), (1, .int p1), (2, .int p2), (4, .int x12)] → W p l e rm_Mo_addLoose s m args below meth c H locs 0 0 Q (F0 m 60 ls [.int x19]) := by
        intro H locs ls hP hD hS hl
        refine lv_istore (lv' := [(5, .int x19), (0, .ref a_0), (1, .int p1), (2, .int p2), (4, .int x12)]) hx hb d_Mo_addLoose_60 hl (by decide) rfl (fun ls hl => ?_)
        refine lv_iconst (v := 0) hx hb d_Mo_addLoose_62 (by decide) ?_
        refine lv_istore (lv' := [(6, .int 0), (5, .int x19), (0, .ref a_0), (1, .int p1), (2, .int p2), (4, .int x12)]) hx hb d_Mo_addLoose_63 hl (by decide) rfl (fun ls hl => ?_)
        have L65_23 : ∀ (n : Nat) (x22 : Int32) (z : Sum ((Int32) × (Nat → Int32) × (Nat → Int32) × (Nat → Int32) × (Nat → Int32)) (Unit)), m_Mo_addLoose_L65 p1 x12 x19 v_0_lines v_0_looseCount f_0_isFlat f_0_across f_0_lows f_0_highs f_0_looseLines f_0_looseXs f_0_looseYs f_0_looseReaches n x22 = some z → (∀ r, z = Sum.inl r → (ov_0_looseCount, of_0_looseLines, of_0_looseXs, of_0_looseYs, of_0_looseReaches) = r) → (z = Sum.inr () → ∀ (H : Heap) (locs : List Loc) (ls : Array Slot), va_P (dC, dI) vwCl (wl_Mo_addLoose a_0 a_0_isFlat a_0_across a_0_lows a_0_highs a_0_looseLines a_0_looseXs a_0_looseYs a_0_looseReaches b_0_thick b_0_doorCounts b_0_doorFrom b_0_doorTo b_0_xs b_0_ys b_0_labels b_0_oldXs b_0_oldYs b_0_oldLabels b_0_names b_0_oldNames b_0_wanted b_0_common b_0_flatEdges b_0_upEdges b_0_isPoint b_0_stack b_0_pieceLines b_0_pieceBegins b_0_pieceEnds b_0_pieceLeft b_0_pieceRight b_0_outs b_0_isSeen b_0_ringSpaces b_0_ringStarts b_0_ringSizes b_0_ringLeast b_0_far cZ cI v_0_code v_0_lines v_0_isFresh v_0_hasRun v_0_runs v_0_nx v_0_ny v_0_spaces v_0_oldNx v_0_oldNy v_0_oldSpaces v_0_points v_0_pieces v_0_rings v_0_outsideSides v_0_looseCount f_0_isFlat f_0_across f_0_lows f_0_highs f_0_looseLines f_0_looseXs f_0_looseYs f_0_looseReaches) H → va_D A (wl_Mo_addLoose a_0 a_0_isFlat a_0_across a_0_lows a_0_highs a_0_looseLines a_0_looseXs a_0_looseYs a_0_looseReaches b_0_thick b_0_doorCounts b_0_doorFrom b_0_doorTo b_0_xs b_0_ys b_0_labels b_0_oldXs b_0_oldYs b_0_oldLabels b_0_names b_0_oldNames b_0_wanted b_0_common b_0_flatEdges b_0_upEdges b_0_isPoint b_0_stack b_0_pieceLines b_0_pieceBegins b_0_pieceEnds b_0_pieceLeft b_0_pieceRight b_0_outs b_0_isSeen b_0_ringSpaces b_0_ringStarts b_0_ringSizes b_0_ringLeast b_0_far cZ cI v_0_code v_0_lines v_0_isFresh v_0_hasRun v_0_runs v_0_nx v_0_ny v_0_spaces v_0_oldNx v_0_oldNy v_0_oldSpaces v_0_points v_0_pieces v_0_rings v_0_outsideSides v_0_looseCount f_0_isFlat f_0_across f_0_lows f_0_highs f_0_looseLines f_0_looseXs f_0_looseYs f_0_looseReaches) → va_S A s.heap H locs → lv_has ls 7 [(0, .ref a_0), (1, .int p1), (2, .int p2), (4, .int x12), (5, .int x19)] → W p l e rm_Mo_addLoose s m args below meth c H locs 0 0 Q (F0 m 100 ls [])) → ∀ (H : Heap) (locs : List Loc) (ls : Array Slot), va_P (dC, dI) vwCl (wl_Mo_addLoose a_0 a_0_isFlat a_0_across a_0_lows a_0_highs a_0_looseLines a_0_looseXs a_0_looseYs a_0_looseReaches b_0_thick b_0_doorCounts b_0_doorFrom b_0_doorTo b_0_xs b_0_ys b_0_labels b_0_oldXs b_0_oldYs b_0_oldLabels b_0_names b_0_oldNames b_0_wanted b_0_common b_0_flatEdges b_0_upEdges b_0_isPoint b_0_stack b_0_pieceLines b_0_pieceBegins b_0_pieceEnds b_0_pieceLeft b_0_pieceRight b_0_outs b_0_isSeen b_0_ringSpaces b_0_ringStarts b_0_ringSizes b_0_ringLeast b_0_far cZ cI v_0_code v_0_lines v_0_isFresh v_0_hasRun v_0_runs v_0_nx v_0_ny v_0_spaces v_0_oldNx v_0_oldNy v_0_oldSpaces v_0_points v_0_pieces v_0_rings v_0_outsideSides v_0_looseCount f_0_isFlat f_0_across f_0_lows f_0_highs f_0_looseLines f_0_looseXs f_0_looseYs f_0_looseReaches) H → va_D A (wl_Mo_addLoose a_0 a_0_isFlat a_0_across a_0_lows a_0_highs a_0_looseLines a_0_looseXs a_0_looseYs a_0_looseReaches b_0_thick b_0_doorCounts b_0_doorFrom b_0_doorTo b_0_xs b_0_ys b_0_labels b_0_oldXs b_0_oldYs b_0_oldLabels b_0_names b_0_oldNames b_0_wanted b_0_common b_0_flatEdges b_0_upEdges b_0_isPoint b_0_stack b_0_pieceLines b_0_pieceBegins b_0_pieceEnds b_0_pieceLeft b_0_pieceRight b_0_outs b_0_isSeen b_0_ringSpaces b_0_ringStarts b_0_ringSizes b_0_ringLeast b_0_far cZ cI v_0_code v_0_lines v_0_isFresh v_0_hasRun v_0_runs v_0_nx v_0_ny v_0_spaces v_0_oldNx v_0_oldNy v_0_oldSpaces v_0_points v_0_pieces v_0_rings v_0_outsideSides v_0_looseCount f_0_isFlat f_0_across f_0_lows f_0_highs f_0_looseLines f_0_looseXs f_0_looseYs f_0_looseReaches) → va_S A s.heap H locs → lv_has ls 7 [(0, .ref a_0), (1, .int p1), (2, .int p2), (4, .int x12), (5, .int x19), (6, .int x22)] → W p l e rm_Mo_addLoose s m args below meth c H locs 0 0 Q (F0 m 65 ls []) := by
          intro n
          induction n with
          | zero => intro x22 z hm; simp [m_Mo_addLoose_L65] at hm
          | succ n ih =>
            intro x22 z hm KR KE H locs ls hP hD hS hl
            rw [m_Mo_addLoose_L65] at hm
            refine lv_iload hx hb d_Mo_addLoose_65 (lv_at hl 5 rfl) ?_
            refine lv_aload_n hx hb d_Mo_addLoose_67 rfl (lv_at hl 0 rfl) ?_
            refine va_get (D := (dC, dI)) (ci := 11) (v := .int v_0_lines) (C := "SpaceCyclesModel") (T := F_Mo) (N := 54) hx hb hts (in_F i_Mo) hown hK hP 0 rfl rfl 6 (by decide) (hts _ (in_c k_274)) (fun _ h9 => h9) rfl d_Mo_addLoose_68 ?_
            refine lv_icmp_ge (tgt := 100) hx hb d_Mo_addLoose_71 (by decide) (fun c24 => ?_) (fun c24 => ?_)
            · replace hm := if_t hm c24
              cases hm
              exact KE  rfl H locs ls hP hD hS (lv_sub hl [0, 1, 2, 3, 4] rfl)
            · replace hm := if_f hm c24
              refine lv_iload hx hb d_Mo_addLoose_74 (lv_at hl 5 rfl) ?_
              refine lv_iload_n hx hb d_Mo_addLoose_76 rfl (lv_at hl 1 rfl) ?_
              obtain ⟨zhz27, hb26, hz27, hm⟩ := bt0_z hm
              have K25 : zhz27 = Sum.inr () → ∀ (H : Heap) (locs : List Loc) (ls : Array Slot), va_P (dC, dI) vwCl (wl_Mo_addLoose a_0 a_0_isFlat a_0_across a_0_lows a_0_highs a_0_looseLines a_0_looseXs a_0_looseYs a_0_looseReaches b_0_thick b_0_doorCounts b_0_doorFrom b_0_doorTo b_0_xs b_0_ys b_0_labels b_0_oldXs b_0_oldYs b_0_oldLabels b_0_names b_0_oldNames b_0_wanted b_0_common b_0_flatEdges b_0_upEdges b_0_isPoint b_0_stack b_0_pieceLines b_0_pieceBegins b_0_pieceEnds b_0_pieceLeft b_0_pieceRight b_0_outs b_0_isSeen b_0_ringSpaces b_0_ringStarts b_0_ringSizes b_0_ringLeast b_0_far cZ cI v_0_code v_0_lines v_0_isFresh v_0_hasRun v_0_runs v_0_nx v_0_ny v_0_spaces v_0_oldNx v_0_oldNy v_0_oldSpaces v_0_points v_0_pieces v_0_rings v_0_outsideSides v_0_looseCount f_0_isFlat f_0_across f_0_lows f_0_highs f_0_looseLines f_0_looseXs f_0_looseYs f_0_looseReaches) H → va_D A (wl_Mo_addLoose a_0 a_0_isFlat a_0_across a_0_lows a_0_highs a_0_looseLines a_0_looseXs a_0_looseYs a_0_looseReaches b_0_thick b_0_doorCounts b_0_doorFrom b_0_doorTo b_0_xs b_0_ys b_0_labels b_0_oldXs b_0_oldYs b_0_oldLabels b_0_names b_0_oldNames b_0_wanted b_0_common b_0_flatEdges b_0_upEdges b_0_isPoint b_0_stack b_0_pieceLines b_0_pieceBegins b_0_pieceEnds b_0_pieceLeft b_0_pieceRight b_0_outs b_0_isSeen b_0_ringSpaces b_0_ringStarts b_0_ringSizes b_0_ringLeast b_0_far cZ cI v_0_code v_0_lines v_0_isFresh v_0_hasRun v_0_runs v_0_nx v_0_ny v_0_spaces v_0_oldNx v_0_oldNy v_0_oldSpaces v_0_points v_0_pieces v_0_rings v_0_outsideSides v_0_looseCount f_0_isFlat f_0_across f_0_lows f_0_highs f_0_looseLines f_0_looseXs f_0_looseYs f_0_looseReaches) → va_S A s.heap H locs → lv_has ls 7 [(0, .ref a_0), (1, .int p1), (2, .int p2), (4, .int x12), (5, .int x19), (6, .int x22)] → W p l e rm_Mo_addLoose s m args below meth c H locs 0 0 Q (F0 m 94 ls []) := by
                intro  hq H locs ls hP hD hS hl
                replace hm := hm  hq
                obtain ⟨x32, ex32⟩ : ∃ y : Int32, y = x22 + 1 := ⟨_, rfl⟩
                replace hm := lt_el hm ex32
                refine lv_iinc (v := x32) (lv' := [(6, .int x32), (0, .ref a_0), (1, .int p1), (2, .int p2), (4, .int x12), (5, .int x19)]) hx hb d_Mo_addLoose_94 hl (k := 5) rfl (by rw [ex32]; rfl) (by decide) rfl (fun ls hl => ?_)
                refine lv_goto (tgt := 65) hx hb d_Mo_addLoose_97 (by decide) ?_
                exact ih _ _ hm KR KE H locs ls hP hD hS (lv_sub hl [1, 2, 3, 4, 5, 0] rfl)
              replace hm := hb26
              refine lv_icmp_eq (tgt := 94) hx hb d_Mo_addLoose_77 (by decide) (fun c28 => ?_) (fun c28 => ?_)
              · replace hm := if_t hm c28
                cases hm
                exact K25  rfl H locs ls hP hD hS (lv_sub hl [0, 1, 2, 3, 4, 5] rfl)
              · replace hm := if_f hm c28
                refine lv_aload_n hx hb d_Mo_addLoose_80 rfl (lv_at hl 0 rfl) ?_
                refine lv_iload hx hb d_Mo_addLoose_81 (lv_at hl 5 rfl) ?_
                refine lv_iload hx hb d_Mo_addLoose_83 (lv_at hl 3 rfl) ?_
                refine lv_iload hx hb d_Mo_addLoose_85 (lv_at hl 4 rfl) ?_
                obtain ⟨r29, hb30, hm⟩ := bd1_e hm
                have hPc := hP.sub (ws' := (wl_Mo_isOn a_0 a_0_isFlat a_0_across a_0_lows a_0_highs b_0_thick b_0_doorCounts b_0_doorFrom b_0_doorTo b_0_xs b_0_ys b_0_labels b_0_oldXs b_0_oldYs b_0_oldLabels b_0_names b_0_oldNames b_0_wanted b_0_common b_0_flatEdges b_0_upEdges b_0_isPoint b_0_stack b_0_pieceLines b_0_pieceBegins b_0_pieceEnds b_0_pieceLeft b_0_pieceRight b_0_outs b_0_isSeen b_0_ringSpaces b_0_ringStarts b_0_ringSizes b_0_ringLeast a_0_looseLines a_0_looseXs a_0_looseYs a_0_looseReaches b_0_far cZ cI v_0_code v_0_lines v_0_isFresh v_0_hasRun v_0_runs v_0_nx v_0_ny v_0_spaces v_0_oldNx v_0_oldNy v_0_oldSpaces v_0_points v_0_pieces v_0_rings v_0_outsideSides v_0_looseCount f_0_isFlat f_0_across f_0_lows f_0_highs)) [0, 1, 2, 3, 4] rfl
                have hDc := hD.sub (ws' := (wl_Mo_isOn a_0 a_0_isFlat a_0_across a_0_lows a_0_highs b_0_thick b_0_doorCounts b_0_doorFrom b_0_doorTo b_0_xs b_0_ys b_0_labels b_0_oldXs b_0_oldYs b_0_oldLabels b_0_names b_0_oldNames b_0_wanted b_0_common b_0_flatEdges b_0_upEdges b_0_isPoint b_0_stack b_0_pieceLines b_0_pieceBegins b_0_pieceEnds b_0_pieceLeft b_0_pieceRight b_0_outs b_0_isSeen b_0_ringSpaces b_0_ringStarts b_0_ringSizes b_0_ringLeast a_0_looseLines a_0_looseXs a_0_looseYs a_0_looseReaches b_0_far cZ cI v_0_code v_0_lines v_0_isFresh v_0_hasRun v_0_runs v_0_nx v_0_ny v_0_spaces v_0_oldNx v_0_oldNy v_0_oldSpaces v_0_points v_0_pieces v_0_rings v_0_outsideSides v_0_looseCount f_0_isFlat f_0_across f_0_lows f_0_highs)) [0, 1, 2, 3, 4] (by decide) rfl
                refine cl_i (wc' := (wl_Mo_isOn a_0 a_0_isFlat a_0_across a_0_lows a_0_highs b_0_thick b_0_doorCounts b_0_doorFrom b_0_doorTo b_0_xs b_0_ys b_0_labels b_0_oldXs b_0_oldYs b_0_oldLabels b_0_names b_0_oldNames b_0_wanted b_0_common b_0_flatEdges b_0_upEdges b_0_isPoint b_0_stack b_0_pieceLines b_0_pieceBegins b_0_pieceEnds b_0_pieceLeft b_0_pieceRight b_0_outs b_0_isSeen b_0_ringSpaces b_0_ringStarts b_0_ringSizes b_0_ringLeast a_0_looseLines a_0_looseXs a_0_looseYs a_0_looseReaches b_0_far cZ cI v_0_code v_0_lines v_0_isFresh v_0_hasRun v_0_runs v_0_nx v_0_ny v_0_spaces v_0_oldNx v_0_oldNy v_0_oldSpaces v_0_points v_0_pieces v_0_rings v_0_outsideSides v_0_looseCount f_0_isFlat f_0_across f_0_lows f_0_highs)) (va_runV (As := [.int x22, .int x12, .int x19]) (rest := []) ⟨hx, hb, hml, hown, hts⟩ (c_Mo_isOn l dC dI (cI := cI) (cZ := cZ) (cJ := cJ) a_0 a_0_isFlat a_0_across a_0_lows a_0_highs b_0_thick b_0_doorCounts b_0_doorFrom b_0_doorTo b_0_xs b_0_ys b_0_labels b_0_oldXs b_0_oldYs b_0_oldLabels b_0_names b_0_oldNames b_0_wanted b_0_common b_0_flatEdges b_0_upEdges b_0_isPoint b_0_stack b_0_pieceLines b_0_pieceBegins b_0_pieceEnds b_0_pieceLeft b_0_pieceRight b_0_outs b_0_isSeen b_0_ringSpaces b_0_ringStarts b_0_ringSizes b_0_ringLeast a_0_looseLines a_0_looseXs a_0_looseYs a_0_looseReaches b_0_far H.size v_0_code v_0_lines v_0_isFresh v_0_hasRun v_0_runs v_0_nx v_0_ny v_0_spaces v_0_oldNx v_0_oldNy v_0_oldSpaces v_0_points v_0_pieces v_0_rings v_0_outsideSides v_0_looseCount f_0_isFlat f_0_across f_0_lows f_0_highs x22 x12 x19 r29 hb30) (cwV 3 hts (gl_V k_299 k_298 k_297 k_277 k_296) rfl rfl rfl (by decide +kernel) ⟨Nat.le_of_ble_eq_true rfl, Nat.le_of_ble_eq_true rfl⟩) ⟨PP_blind, va_recv hK hPc (ci := 11) (q0 := 0) rfl rfl, fun U hU hW => PP_at hK hN hPc hDc hU hW⟩ rfl rfl hl.1 rfl (lv_room (Nat.le_of_ble_eq_true rfl)) d_Mo_addLoose_87 ⟨Nat.zero_le _, Nat.zero_le _⟩) hP hD hS hA [0, 1, 2, 3, 4] [5, 6, 7, 8] rfl rfl (by decide) (by decide) (fun H locs hP hD hS => ?_)
                have hP : va_P (dC, dI) vwCl (wl_Mo_addLoose a_0 a_0_isFlat a_0_across a_0_lows a_0_highs a_0_looseLines a_0_looseXs a_0_looseYs a_0_looseReaches b_0_thick b_0_doorCounts b_0_doorFrom b_0_doorTo b_0_xs b_0_ys b_0_labels b_0_oldXs b_0_oldYs b_0_oldLabels b_0_names b_0_oldNames b_0_wanted b_0_common b_0_flatEdges b_0_upEdges b_0_isPoint b_0_stack b_0_pieceLines b_0_pieceBegins b_0_pieceEnds b_0_pieceLeft b_0_pieceRight b_0_outs b_0_isSeen b_0_ringSpaces b_0_ringStarts b_0_ringSizes b_0_ringLeast b_0_far cZ cI v_0_code v_0_lines v_0_isFresh v_0_hasRun v_0_runs v_0_nx v_0_ny v_0_spaces v_0_oldNx v_0_oldNy v_0_oldSpaces v_0_points v_0_pieces v_0_rings v_0_outsideSides v_0_looseCount f_0_isFlat f_0_across f_0_lows f_0_highs f_0_looseLines f_0_looseXs f_0_looseYs f_0_looseReaches) H := hP.sub [4, 5, 6, 7, 8, 0, 1, 2, 3] rfl
                have hD : va_D A (wl_Mo_addLoose a_0 a_0_isFlat a_0_across a_0_lows a_0_highs a_0_looseLines a_0_looseXs a_0_looseYs a_0_looseReaches b_0_thick b_0_doorCounts b_0_doorFrom b_0_doorTo b_0_xs b_0_ys b_0_labels b_0_oldXs b_0_oldYs b_0_oldLabels b_0_names b_0_oldNames b_0_wanted b_0_common b_0_flatEdges b_0_upEdges b_0_isPoint b_0_stack b_0_pieceLines b_0_pieceBegins b_0_pieceEnds b_0_pieceLeft b_0_pieceRight b_0_outs b_0_isSeen b_0_ringSpaces b_0_ringStarts b_0_ringSizes b_0_ringLeast b_0_far cZ cI v_0_code v_0_lines v_0_isFresh v_0_hasRun v_0_runs v_0_nx v_0_ny v_0_spaces v_0_oldNx v_0_oldNy v_0_oldSpaces v_0_points v_0_pieces v_0_rings v_0_outsideSides v_0_looseCount f_0_isFlat f_0_across f_0_lows f_0_highs f_0_looseLines f_0_looseXs f_0_looseYs f_0_looseReaches) := hD.sub [4, 5, 6, 7, 8, 0, 1, 2, 3] (by decide) rfl
                refine lv_if_eq (tgt := 94) hx hb d_Mo_addLoose_90 (by decide) (fun c31 => ?_) (fun c31 => ?_)
                · replace hm := if_t hm c31
                  cases hm
                  exact K25  rfl H locs ls hP hD hS (lv_sub hl [0, 1, 2, 3, 4, 5] rfl)
                · replace hm := if_f hm c31
                  cases hm
                  cases (KR _ (hz27 _ rfl))
                  exact hret _ H locs ls d_Mo_addLoose_93 hP hD hS
        obtain ⟨zhz34, hb33, hz34, hm⟩ := bs0_z hm
        refine L65_23 fu _ _ hb33 (fun r hr => hz34 r hr) (fun  hq H locs ls hP hD hS hl => ?_) H locs ls hP hD hS (lv_sub hl [2, 3, 4, 5, 1, 0] rfl)
        replace hm := hm  hq
        refine lv_aload_n hx hb d_Mo_addLoose_100 rfl (lv_at hl 0 rfl) ?_
        refine va_get (D := (dC, dI)) (ci := 11) (v := .int v_0_looseCount) (C := "SpaceCyclesModel") (T := F_Mo) (N := 54) hx hb hts (in_F i_Mo) hown hK hP 0 rfl rfl 52 (by decide) (hts _ (in_c k_363)) (fun _ h9 => h9) rfl d_Mo_addLoose_101 ?_
        refine lv_istore (lv' := [(6, .int v_0_looseCount), (0, .ref a_0), (1, .int p1), (2, .int p2), (4, .int x12), (5, .int x19)]) hx hb d_Mo_addLoose_104 hl (by decide) rfl (fun ls hl => ?_)
        have L106_45 : ∀ (n : Nat) (x35 : Int32) (f36 : Nat → Int32) (f37 : Nat → Int32) (f38 : Nat → Int32) (f39 : Nat → Int32) (x40 : Int32) (f41 : Nat → Int32) (f42 : Nat → Int32) (f43 : Nat → Int32) (f44 : Nat → Int32), m_Mo_addLoose_L106 x19 x12 n x35 f36 f37 f38 f39 = some (x40, f41, f42, f43, f44) → (∀ (H : Heap) (locs : List Loc) (ls : Array Slot), va_P (dC, dI) vwCl (wl_Mo_addLoose a_0 a_0_isFlat a_0_across a_0_lows a_0_highs a_0_looseLines a_0_looseXs a_0_looseYs a_0_looseReaches b_0_thick b_0_doorCounts b_0_doorFrom b_0_doorTo b_0_xs b_0_ys b_0_labels b_0_oldXs b_0_oldYs b_0_oldLabels b_0_names b_0_oldNames b_0_wanted b_0_common b_0_flatEdges b_0_upEdges b_0_isPoint b_0_stack b_0_pieceLines b_0_pieceBegins b_0_pieceEnds b_0_pieceLeft b_0_pieceRight b_0_outs b_0_isSeen b_0_ringSpaces b_0_ringStarts b_0_ringSizes b_0_ringLeast b_0_far cZ cI v_0_code v_0_lines v_0_isFresh v_0_hasRun v_0_runs v_0_nx v_0_ny v_0_spaces v_0_oldNx v_0_oldNy v_0_oldSpaces v_0_points v_0_pieces v_0_rings v_0_outsideSides v_0_looseCount f_0_isFlat f_0_across f_0_lows f_0_highs f41 f42 f43 f44) H → va_D A (wl_Mo_addLoose a_0 a_0_isFlat a_0_across a_0_lows a_0_highs a_0_looseLines a_0_looseXs a_0_looseYs a_0_looseReaches b_0_thick b_0_doorCounts b_0_doorFrom b_0_doorTo b_0_xs b_0_ys b_0_labels b_0_oldXs b_0_oldYs b_0_oldLabels b_0_names b_0_oldNames b_0_wanted b_0_common b_0_flatEdges b_0_upEdges b_0_isPoint b_0_stack b_0_pieceLines b_0_pieceBegins b_0_pieceEnds b_0_pieceLeft b_0_pieceRight b_0_outs b_0_isSeen b_0_ringSpaces b_0_ringStarts b_0_ringSizes b_0_ringLeast b_0_far cZ cI v_0_code v_0_lines v_0_isFresh v_0_hasRun v_0_runs v_0_nx v_0_ny v_0_spaces v_0_oldNx v_0_oldNy v_0_oldSpaces v_0_points v_0_pieces v_0_rings v_0_outsideSides v_0_looseCount f_0_isFlat f_0_across f_0_lows f_0_highs f41 f42 f43 f44) → va_S A s.heap H locs → lv_has ls 7 [(0, .ref a_0), (1, .int p1), (2, .int p2), (4, .int x12), (5, .int x19), (6, .int x40)] → W p l e rm_Mo_addLoose s m args below meth c H locs 0 0 Q (F0 m 223 ls [])) → ∀ (H : Heap) (locs : List Loc) (ls : Array Slot), va_P (dC, dI) vwCl (wl_Mo_addLoose a_0 a_0_isFlat a_0_across a_0_lows a_0_highs a_0_looseLines a_0_looseXs a_0_looseYs a_0_looseReaches b_0_thick b_0_doorCounts b_0_doorFrom b_0_doorTo b_0_xs b_0_ys b_0_labels b_0_oldXs b_0_oldYs b_0_oldLabels b_0_names b_0_oldNames b_0_wanted b_0_common b_0_flatEdges b_0_upEdges b_0_isPoint b_0_stack b_0_pieceLines b_0_pieceBegins b_0_pieceEnds b_0_pieceLeft b_0_pieceRight b_0_outs b_0_isSeen b_0_ringSpaces b_0_ringStarts b_0_ringSizes b_0_ringLeast b_0_far cZ cI v_0_code v_0_lines v_0_isFresh v_0_hasRun v_0_runs v_0_nx v_0_ny v_0_spaces v_0_oldNx v_0_oldNy v_0_oldSpaces v_0_points v_0_pieces v_0_rings v_0_outsideSides v_0_looseCount f_0_isFlat f_0_across f_0_lows f_0_highs f36 f37 f38 f39) H → va_D A (wl_Mo_addLoose a_0 a_0_isFlat a_0_across a_0_lows a_0_highs a_0_looseLines a_0_looseXs a_0_looseYs a_0_looseReaches b_0_thick b_0_doorCounts b_0_doorFrom b_0_doorTo b_0_xs b_0_ys b_0_labels b_0_oldXs b_0_oldYs b_0_oldLabels b_0_names b_0_oldNames b_0_wanted b_0_common b_0_flatEdges b_0_upEdges b_0_isPoint b_0_stack b_0_pieceLines b_0_pieceBegins b_0_pieceEnds b_0_pieceLeft b_0_pieceRight b_0_outs b_0_isSeen b_0_ringSpaces b_0_ringStarts b_0_ringSizes b_0_ringLeast b_0_far cZ cI v_0_code v_0_lines v_0_isFresh v_0_hasRun v_0_runs v_0_nx v_0_ny v_0_spaces v_0_oldNx v_0_oldNy v_0_oldSpaces v_0_points v_0_pieces v_0_rings v_0_outsideSides v_0_looseCount f_0_isFlat f_0_across f_0_lows f_0_highs f36 f37 f38 f39) → va_S A s.heap H locs → lv_has ls 7 [(0, .ref a_0), (1, .int p1), (2, .int p2), (4, .int x12), (5, .int x19), (6, .int x35)] → W p l e rm_Mo_addLoose s m args below meth c H locs 0 0 Q (F0 m 106 ls []) := by
          intro n
          induction n with
          | zero => intro x35 f36 f37 f38 f39 x40 f41 f42 f43 f44 hm; simp [m_Mo_addLoose_L106] at hm
          | succ n ih =>
            intro x35 f36 f37 f38 f39 x40 f41 f42 f43 f44 hm KE H locs ls hP hD hS hl
            rw [m_Mo_addLoose_L106] at hm
            refine lv_iload hx hb d_Mo_addLoose_106 (lv_at hl 5 rfl) ?_
            refine lv_if_le (tgt := 223) hx hb d_Mo_addLoose_108 (by decide) (fun c46 => ?_) (fun c46 => ?_)
            · replace hm := if_t hm c46
              cases hm
              exact KE H locs ls hP hD hS (lv_sub hl [0, 1, 2, 3, 4, 5] rfl)
            · replace hm := if_f hm c46
              refine lv_aload_n hx hb d_Mo_addLoose_111 rfl (lv_at hl 0 rfl) ?_
              refine va_get (D := (dC, dI)) (ci := 11) (v := .ref a_0_looseXs) (C := "SpaceCyclesModel") (T := F_Mo) (N := 54) hx hb hts (in_F i_Mo) hown hK hP 0 rfl rfl 49 (by decide) (hts _ (in_c k_364)) (fun _ h9 => h9) rfl d_Mo_addLoose_112 ?_
              refine lv_iload hx hb d_Mo_addLoose_115 (lv_at hl 5 rfl) ?_
              refine lv_iconst (v := 1) hx hb d_Mo_addLoose_117 (by decide) ?_
              refine lv_isub hx hb d_Mo_addLoose_118 ?_
              obtain ⟨hi47, hm⟩ := gI_e hm
              refine va_iald hx hb hK hP 6 0 rfl rfl hi47 d_Mo_addLoose_119 ?_
              refine lv_iload hx hb d_Mo_addLoose_120 (lv_at hl 3 rfl) ?_
              refine lv_icmp_gt (tgt := 153) hx hb d_Mo_addLoose_122 (by decide) (fun c48 => ?_) (fun c48 => ?_)
              · replace hm := if_t hm c48
                refine lv_aload_n hx hb d_Mo_addLoose_153 rfl (lv_at hl 0 rfl) ?_
                refine va_get (D := (dC, dI)) (ci := 11) (v := .ref a_0_looseLines) (C := "SpaceCyclesModel") (T := F_Mo) (N := 54) hx hb hts (in_F i_Mo) hown hK hP 0 rfl rfl 48 (by decide) (hts _ (in_c k_365)) (fun _ h9 => h9) rfl d_Mo_addLoose_154 ?_
                refine lv_iload hx hb d_Mo_addLoose_157 (lv_at hl 5 rfl) ?_
                refine lv_aload_n hx hb d_Mo_addLoose_159 rfl (lv_at hl 0 rfl) ?_
                refine va_get (D := (dC, dI)) (ci := 11) (v := .ref a_0_looseLines) (C := "SpaceCyclesModel") (T := F_Mo) (N := 54) hx hb hts (in_F i_Mo) hown hK hP 0 rfl rfl 48 (by decide) (hts _ (in_c k_365)) (fun _ h9 => h9) rfl d_Mo_addLoose_160 ?_
                refine lv_iload hx hb d_Mo_addLoose_163 (lv_at hl 5 rfl) ?_
                refine lv_iconst (v := 1) hx hb d_Mo_addLoose_165 (by decide) ?_
                refine lv_isub hx hb d_Mo_addLoose_166 ?_
                obtain ⟨hi49, hm⟩ := gI_e hm
                refine va_iald hx hb hK hP 5 0 rfl rfl hi49 d_Mo_addLoose_167 ?_
                obtain ⟨hi50, hm⟩ := gI_e hm
                obtain ⟨f51, ef51⟩ : ∃ y : Nat → Int32, y = upd f36 x35.toNatClampNeg (f36 (x35 - 1).toNatClampNeg) := ⟨_, rfl⟩
                replace hm := lt_el hm ef51
                refine va_iast hx hb hK hP hD hS 5 0 rfl rfl hi50 d_Mo_addLoose_168 (fun H locs hP hD hS => ?_)
                rw [← ef51] at hP hD
                have hP : va_P (dC, dI) vwCl (wl_Mo_addLoose a_0 a_0_isFlat a_0_across a_0_lows a_0_highs a_0_looseLines a_0_looseXs a_0_looseYs a_0_looseReaches b_0_thick b_0_doorCounts b_0_doorFrom b_0_doorTo b_0_xs b_0_ys b_0_labels b_0_oldXs b_0_oldYs b_0_oldLabels b_0_names b_0_oldNames b_0_wanted b_0_common b_0_flatEdges b_0_upEdges b_0_isPoint b_0_stack b_0_pieceLines b_0_pieceBegins b_0_pieceEnds b_0_pieceLeft b_0_pieceRight b_0_outs b_0_isSeen b_0_ringSpaces b_0_ringStarts b_0_ringSizes b_0_ringLeast b_0_far cZ cI v_0_code v_0_lines v_0_isFresh v_0_hasRun v_0_runs v_0_nx v_0_ny v_0_spaces v_0_oldNx v_0_oldNy v_0_oldSpaces v_0_points v_0_pieces v_0_rings v_0_outsideSides v_0_looseCount f_0_isFlat f_0_across f_0_lows f_0_highs f51 f37 f38 f39) H := hP
                have hD : va_D A (wl_Mo_addLoose a_0 a_0_isFlat a_0_across a_0_lows a_0_highs a_0_looseLines a_0_looseXs a_0_looseYs a_0_looseReaches b_0_thick b_0_doorCounts b_0_doorFrom b_0_doorTo b_0_xs b_0_ys b_0_labels b_0_oldXs b_0_oldYs b_0_oldLabels b_0_names b_0_oldNames b_0_wanted b_0_common b_0_flatEdges b_0_upEdges b_0_isPoint b_0_stack b_0_pieceLines b_0_pieceBegins b_0_pieceEnds b_0_pieceLeft b_0_pieceRight b_0_outs b_0_isSeen b_0_ringSpaces b_0_ringStarts b_0_ringSizes b_0_ringLeast b_0_far cZ cI v_0_code v_0_lines v_0_isFresh v_0_hasRun v_0_runs v_0_nx v_0_ny v_0_spaces v_0_oldNx v_0_oldNy v_0_oldSpaces v_0_points v_0_pieces v_0_rings v_0_outsideSides v_0_looseCount f_0_isFlat f_0_across f_0_lows f_0_highs f51 f37 f38 f39) := hD
                refine lv_aload_n hx hb d_Mo_addLoose_169 rfl (lv_at hl 0 rfl) ?_
                refine va_get (D := (dC, dI)) (ci := 11) (v := .ref a_0_looseXs) (C := "SpaceCyclesModel") (T := F_Mo) (N := 54) hx hb hts (in_F i_Mo) hown hK hP 0 rfl rfl 49 (by decide) (hts _ (in_c k_364)) (fun _ h9 => h9) rfl d_Mo_addLoose_170 ?_
                refine lv_iload hx hb d_Mo_addLoose_173 (lv_at hl 5 rfl) ?_
                refine lv_aload_n hx hb d_Mo_addLoose_175 rfl (lv_at hl 0 rfl) ?_
                refine va_get (D := (dC, dI)) (ci := 11) (v := .ref a_0_looseXs) (C := "SpaceCyclesModel") (T := F_Mo) (N := 54) hx hb hts (in_F i_Mo) hown hK hP 0 rfl rfl 49 (by decide) (hts _ (in_c k_364)) (fun _ h9 => h9) rfl d_Mo_addLoose_176 ?_
                refine lv_iload hx hb d_Mo_addLoose_179 (lv_at hl 5 rfl) ?_
                refine lv_iconst (v := 1) hx hb d_Mo_addLoose_181 (by decide) ?_
                refine lv_isub hx hb d_Mo_addLoose_182 ?_
                obtain ⟨hi52, hm⟩ := gI_e hm
                refine va_iald hx hb hK hP 6 0 rfl rfl hi52 d_Mo_addLoose_183 ?_
                obtain ⟨hi53, hm⟩ := gI_e hm
                obtain ⟨f54, ef54⟩ : ∃ y : Nat → Int32, y = upd f37 x35.toNatClampNeg (f37 (x35 - 1).toNatClampNeg) := ⟨_, rfl⟩
                replace hm := lt_el hm ef54
                refine va_iast hx hb hK hP hD hS 6 0 rfl rfl hi53 d_Mo_addLoose_184 (fun H locs hP hD hS => ?_)
                rw [← ef54] at hP hD
                have hP : va_P (dC, dI) vwCl (wl_Mo_addLoose a_0 a_0_isFlat a_0_across a_0_lows a_0_highs a_0_looseLines a_0_looseXs a_0_looseYs a_0_looseReaches b_0_thick b_0_doorCounts b_0_doorFrom b_0_doorTo b_0_xs b_0_ys b_0_labels b_0_oldXs b_0_oldYs b_0_oldLabels b_0_names b_0_oldNames b_0_wanted b_0_common b_0_flatEdges b_0_upEdges b_0_isPoint b_0_stack b_0_pieceLines b_0_pieceBegins b_0_pieceEnds b_0_pieceLeft b_0_pieceRight b_0_outs b_0_isSeen b_0_ringSpaces b_0_ringStarts b_0_ringSizes b_0_ringLeast b_0_far cZ cI v_0_code v_0_lines v_0_isFresh v_0_hasRun v_0_runs v_0_nx v_0_ny v_0_spaces v_0_oldNx v_0_oldNy v_0_oldSpaces v_0_points v_0_pieces v_0_rings v_0_outsideSides v_0_looseCount f_0_isFlat f_0_across f_0_lows f_0_highs f51 f54 f38 f39) H := hP
                have hD : va_D A (wl_Mo_addLoose a_0 a_0_isFlat a_0_across a_0_lows a_0_highs a_0_looseLines a_0_looseXs a_0_looseYs a_0_looseReaches b_0_thick b_0_doorCounts b_0_doorFrom b_0_doorTo b_0_xs b_0_ys b_0_labels b_0_oldXs b_0_oldYs b_0_oldLabels b_0_names b_0_oldNames b_0_wanted b_0_common b_0_flatEdges b_0_upEdges b_0_isPoint b_0_stack b_0_pieceLines b_0_pieceBegins b_0_pieceEnds b_0_pieceLeft b_0_pieceRight b_0_outs b_0_isSeen b_0_ringSpaces b_0_ringStarts b_0_ringSizes b_0_ringLeast b_0_far cZ cI v_0_code v_0_lines v_0_isFresh v_0_hasRun v_0_runs v_0_nx v_0_ny v_0_spaces v_0_oldNx v_0_oldNy v_0_oldSpaces v_0_points v_0_pieces v_0_rings v_0_outsideSides v_0_looseCount f_0_isFlat f_0_across f_0_lows f_0_highs f51 f54 f38 f39) := hD
                refine lv_aload_n hx hb d_Mo_addLoose_185 rfl (lv_at hl 0 rfl) ?_
                refine va_get (D := (dC, dI)) (ci := 11) (v := .ref a_0_looseYs) (C := "SpaceCyclesModel") (T := F_Mo) (N := 54) hx hb hts (in_F i_Mo) hown hK hP 0 rfl rfl 50 (by decide) (hts _ (in_c k_366)) (fun _ h9 => h9) rfl d_Mo_addLoose_186 ?_
                refine lv_iload hx hb d_Mo_addLoose_189 (lv_at hl 5 rfl) ?_
                refine lv_aload_n hx hb d_Mo_addLoose_191 rfl (lv_at hl 0 rfl) ?_
                refine va_get (D := (dC, dI)) (ci := 11) (v := .ref a_0_looseYs) (C := "SpaceCyclesModel") (T := F_Mo) (N := 54) hx hb hts (in_F i_Mo) hown hK hP 0 rfl rfl 50 (by decide) (hts _ (in_c k_366)) (fun _ h9 => h9) rfl d_Mo_addLoose_192 ?_
                refine lv_iload hx hb d_Mo_addLoose_195 (lv_at hl 5 rfl) ?_
                refine lv_iconst (v := 1) hx hb d_Mo_addLoose_197 (by decide) ?_
                refine lv_isub hx hb d_Mo_addLoose_198 ?_
                obtain ⟨hi55, hm⟩ := gI_e hm
                refine va_iald hx hb hK hP 7 0 rfl rfl hi55 d_Mo_addLoose_199 ?_
                obtain ⟨hi56, hm⟩ := gI_e hm
                obtain ⟨f57, ef57⟩ : ∃ y : Nat → Int32, y = upd f38 x35.toNatClampNeg (f38 (x35 - 1).toNatClampNeg) := ⟨_, rfl⟩
                replace hm := lt_el hm ef57
                refine va_iast hx hb hK hP hD hS 7 0 rfl rfl hi56 d_Mo_addLoose_200 (fun H locs hP hD hS => ?_)
                rw [← ef57] at hP hD
                have hP : va_P (dC, dI) vwCl (wl_Mo_addLoose a_0 a_0_isFlat a_0_across a_0_lows a_0_highs a_0_looseLines a_0_looseXs a_0_looseYs a_0_looseReaches b_0_thick b_0_doorCounts b_0_doorFrom b_0_doorTo b_0_xs b_0_ys b_0_labels b_0_oldXs b_0_oldYs b_0_oldLabels b_0_names b_0_oldNames b_0_wanted b_0_common b_0_flatEdges b_0_upEdges b_0_isPoint b_0_stack b_0_pieceLines b_0_pieceBegins b_0_pieceEnds b_0_pieceLeft b_0_pieceRight b_0_outs b_0_isSeen b_0_ringSpaces b_0_ringStarts b_0_ringSizes b_0_ringLeast b_0_far cZ cI v_0_code v_0_lines v_0_isFresh v_0_hasRun v_0_runs v_0_nx v_0_ny v_0_spaces v_0_oldNx v_0_oldNy v_0_oldSpaces v_0_points v_0_pieces v_0_rings v_0_outsideSides v_0_looseCount f_0_isFlat f_0_across f_0_lows f_0_highs f51 f54 f57 f39) H := hP
                have hD : va_D A (wl_Mo_addLoose a_0 a_0_isFlat a_0_across a_0_lows a_0_highs a_0_looseLines a_0_looseXs a_0_looseYs a_0_looseReaches b_0_thick b_0_doorCounts b_0_doorFrom b_0_doorTo b_0_xs b_0_ys b_0_labels b_0_oldXs b_0_oldYs b_0_oldLabels b_0_names b_0_oldNames b_0_wanted b_0_common b_0_flatEdges b_0_upEdges b_0_isPoint b_0_stack b_0_pieceLines b_0_pieceBegins b_0_pieceEnds b_0_pieceLeft b_0_pieceRight b_0_outs b_0_isSeen b_0_ringSpaces b_0_ringStarts b_0_ringSizes b_0_ringLeast b_0_far cZ cI v_0_code v_0_lines v_0_isFresh v_0_hasRun v_0_runs v_0_nx v_0_ny v_0_spaces v_0_oldNx v_0_oldNy v_0_oldSpaces v_0_points v_0_pieces v_0_rings v_0_outsideSides v_0_looseCount f_0_isFlat f_0_across f_0_lows f_0_highs f51 f54 f57 f39) := hD
                refine lv_aload_n hx hb d_Mo_addLoose_201 rfl (lv_at hl 0 rfl) ?_
                refine va_get (D := (dC, dI)) (ci := 11) (v := .ref a_0_looseReaches) (C := "SpaceCyclesModel") (T := F_Mo) (N := 54) hx hb hts (in_F i_Mo) hown hK hP 0 rfl rfl 51 (by decide) (hts _ (in_c k_367)) (fun _ h9 => h9) rfl d_Mo_addLoose_202 ?_
                refine lv_iload hx hb d_Mo_addLoose_205 (lv_at hl 5 rfl) ?_
                refine lv_aload_n hx hb d_Mo_addLoose_207 rfl (lv_at hl 0 rfl) ?_
                refine va_get (D := (dC, dI)) (ci := 11) (v := .ref a_0_looseReaches) (C := "SpaceCyclesModel") (T := F_Mo) (N := 54) hx hb hts (in_F i_Mo) hown hK hP 0 rfl rfl 51 (by decide) (hts _ (in_c k_367)) (fun _ h9 => h9) rfl d_Mo_addLoose_208 ?_
                refine lv_iload hx hb d_Mo_addLoose_211 (lv_at hl 5 rfl) ?_
                refine lv_iconst (v := 1) hx hb d_Mo_addLoose_213 (by decide) ?_
                refine lv_isub hx hb d_Mo_addLoose_214 ?_
                obtain ⟨hi58, hm⟩ := gI_e hm
                refine va_iald hx hb hK hP 8 0 rfl rfl hi58 d_Mo_addLoose_215 ?_
                obtain ⟨hi59, hm⟩ := gI_e hm
                obtain ⟨f60, ef60⟩ : ∃ y : Nat → Int32, y = upd f39 x35.toNatClampNeg (f39 (x35 - 1).toNatClampNeg) := ⟨_, rfl⟩
                replace hm := lt_el hm ef60
                refine va_iast hx hb hK hP hD hS 8 0 rfl rfl hi59 d_Mo_addLoose_216 (fun H locs hP hD hS => ?_)
                rw [← ef60] at hP hD
                have hP : va_P (dC, dI) vwCl (wl_Mo_addLoose a_0 a_0_isFlat a_0_across a_0_lows a_0_highs a_0_looseLines a_0_looseXs a_0_looseYs a_0_looseReaches b_0_thick b_0_doorCounts b_0_doorFrom b_0_doorTo b_0_xs b_0_ys b_0_labels b_0_oldXs b_0_oldYs b_0_oldLabels b_0_names b_0_oldNames b_0_wanted b_0_common b_0_flatEdges b_0_upEdges b_0_isPoint b_0_stack b_0_pieceLines b_0_pieceBegins b_0_pieceEnds b_0_pieceLeft b_0_pieceRight b_0_outs b_0_isSeen b_0_ringSpaces b_0_ringStarts b_0_ringSizes b_0_ringLeast b_0_far cZ cI v_0_code v_0_lines v_0_isFresh v_0_hasRun v_0_runs v_0_nx v_0_ny v_0_spaces v_0_oldNx v_0_oldNy v_0_oldSpaces v_0_points v_0_pieces v_0_rings v_0_outsideSides v_0_looseCount f_0_isFlat f_0_across f_0_lows f_0_highs f51 f54 f57 f60) H := hP
                have hD : va_D A (wl_Mo_addLoose a_0 a_0_isFlat a_0_across a_0_lows a_0_highs a_0_looseLines a_0_looseXs a_0_looseYs a_0_looseReaches b_0_thick b_0_doorCounts b_0_doorFrom b_0_doorTo b_0_xs b_0_ys b_0_labels b_0_oldXs b_0_oldYs b_0_oldLabels b_0_names b_0_oldNames b_0_wanted b_0_common b_0_flatEdges b_0_upEdges b_0_isPoint b_0_stack b_0_pieceLines b_0_pieceBegins b_0_pieceEnds b_0_pieceLeft b_0_pieceRight b_0_outs b_0_isSeen b_0_ringSpaces b_0_ringStarts b_0_ringSizes b_0_ringLeast b_0_far cZ cI v_0_code v_0_lines v_0_isFresh v_0_hasRun v_0_runs v_0_nx v_0_ny v_0_spaces v_0_oldNx v_0_oldNy v_0_oldSpaces v_0_points v_0_pieces v_0_rings v_0_outsideSides v_0_looseCount f_0_isFlat f_0_across f_0_lows f_0_highs f51 f54 f57 f60) := hD
                obtain ⟨x61, ex61⟩ : ∃ y : Int32, y = x35 + (-1) := ⟨_, rfl⟩
                replace hm := lt_el hm ex61
                refine lv_iinc (v := x61) (lv' := [(6, .int x61), (0, .ref a_0), (1, .int p1), (2, .int p2), (4, .int x12), (5, .int x19)]) hx hb d_Mo_addLoose_217 hl (k := 5) rfl (by rw [ex61]; rfl) (by decide) rfl (fun ls hl => ?_)
                refine lv_goto (tgt := 106) hx hb d_Mo_addLoose_220 (by decide) ?_
                exact ih _ _ _ _ _ _ _ _ _ _ hm KE H locs ls hP hD hS (lv_sub hl [1, 2, 3, 4, 5, 0] rfl)
              · replace hm := if_f hm c48
                refine lv_aload_n hx hb d_Mo_addLoose_125 rfl (lv_at hl 0 rfl) ?_
                refine va_get (D := (dC, dI)) (ci := 11) (v := .ref a_0_looseXs) (C := "SpaceCyclesModel") (T := F_Mo) (N := 54) hx hb hts (in_F i_Mo) hown hK hP 0 rfl rfl 49 (by decide) (hts _ (in_c k_364)) (fun _ h9 => h9) rfl d_Mo_addLoose_126 ?_
                refine lv_iload hx hb d_Mo_addLoose_129 (lv_at hl 5 rfl) ?_
                refine lv_iconst (v := 1) hx hb d_Mo_addLoose_131 (by decide) ?_
                refine lv_isub hx hb d_Mo_addLoose_132 ?_
                obtain ⟨hi62, hm⟩ := gI_e hm
                refine va_iald hx hb hK hP 6 0 rfl rfl hi62 d_Mo_addLoose_133 ?_
                refine lv_iload hx hb d_Mo_addLoose_134 (lv_at hl 3 rfl) ?_
                refine lv_icmp_ne (tgt := 223) hx hb d_Mo_addLoose_136 (by decide) (fun c63 => ?_) (fun c63 => ?_)
                · replace hm := if_f hm c63
                  cases hm
                  exact KE H locs ls hP hD hS (lv_sub hl [0, 1, 2, 3, 4, 5] rfl)
                · replace hm := if_t hm c63
                  refine lv_aload_n hx hb d_Mo_addLoose_139 rfl (lv_at hl 0 rfl) ?_
                  refine va_get (D := (dC, dI)) (ci := 11) (v := .ref a_0_looseYs) (C := "SpaceCyclesModel") (T := F_Mo) (N := 54) hx hb hts (in_F i_Mo) hown hK hP 0 rfl rfl 50 (by decide) (hts _ (in_c k_366)) (fun _ h9 => h9) rfl d_Mo_addLoose_140 ?_
                  refine lv_iload hx hb d_Mo_addLoose_143 (lv_at hl 5 rfl) ?_
                  refine lv_iconst (v := 1) hx hb d_Mo_addLoose_145 (by decide) ?_
                  refine lv_isub hx hb d_Mo_addLoose_146 ?_
                  obtain ⟨hi64, hm⟩ := gI_e hm
                  refine va_iald hx hb hK hP 7 0 rfl rfl hi64 d_Mo_addLoose_147 ?_
                  refine lv_iload hx hb d_Mo_addLoose_148 (lv_at hl 4 rfl) ?_
                  refine lv_icmp_le (tgt := 223) hx hb d_Mo_addLoose_150 (by decide) (fun c65 => ?_) (fun c65 => ?_)
                  · replace hm := if_t hm c65
                    cases hm
                    exact KE H locs ls hP hD hS (lv_sub hl [0, 1, 2, 3, 4, 5] rfl)
                  · replace hm := if_f hm c65
                    refine lv_aload_n hx hb d_Mo_addLoose_153 rfl (lv_at hl 0 rfl) ?_
                    refine va_get (D := (dC, dI)) (ci := 11) (v := .ref a_0_looseLines) (C := "SpaceCyclesModel") (T := F_Mo) (N := 54) hx hb hts (in_F i_Mo) hown hK hP 0 rfl rfl 48 (by decide) (hts _ (in_c k_365)) (fun _ h9 => h9) rfl d_Mo_addLoose_154 ?_
                    refine lv_iload hx hb d_Mo_addLoose_157 (lv_at hl 5 rfl) ?_
                    refine lv_aload_n hx hb d_Mo_addLoose_159 rfl (lv_at hl 0 rfl) ?_
                    refine va_get (D := (dC, dI)) (ci := 11) (v := .ref a_0_looseLines) (C := "SpaceCyclesModel") (T := F_Mo) (N := 54) hx hb hts (in_F i_Mo) hown hK hP 0 rfl rfl 48 (by decide) (hts _ (in_c k_365)) (fun _ h9 => h9) rfl d_Mo_addLoose_160 ?_
                    refine lv_iload hx hb d_Mo_addLoose_163 (lv_at hl 5 rfl) ?_
                    refine lv_iconst (v := 1) hx hb d_Mo_addLoose_165 (by decide) ?_
                    refine lv_isub hx hb d_Mo_addLoose_166 ?_
                    obtain ⟨hi66, hm⟩ := gI_e hm
                    refine va_iald hx hb hK hP 5 0 rfl rfl hi66 d_Mo_addLoose_167 ?_
                    obtain ⟨hi67, hm⟩ := gI_e hm
                    obtain ⟨f68, ef68⟩ : ∃ y : Nat → Int32, y = upd f36 x35.toNatClampNeg (f36 (x35 - 1).toNatClampNeg) := ⟨_, rfl⟩
                    replace hm := lt_el hm ef68
                    refine va_iast hx hb hK hP hD hS 5 0 rfl rfl hi67 d_Mo_addLoose_168 (fun H locs hP hD hS => ?_)
                    rw [← ef68] at hP hD
                    have hP : va_P (dC, dI) vwCl (wl_Mo_addLoose a_0 a_0_isFlat a_0_across a_0_lows a_0_highs a_0_looseLines a_0_looseXs a_0_looseYs a_0_looseReaches b_0_thick b_0_doorCounts b_0_doorFrom b_0_doorTo b_0_xs b_0_ys b_0_labels b_0_oldXs b_0_oldYs b_0_oldLabels b_0_names b_0_oldNames b_0_wanted b_0_common b_0_flatEdges b_0_upEdges b_0_isPoint b_0_stack b_0_pieceLines b_0_pieceBegins b_0_pieceEnds b_0_pieceLeft b_0_pieceRight b_0_outs b_0_isSeen b_0_ringSpaces b_0_ringStarts b_0_ringSizes b_0_ringLeast b_0_far cZ cI v_0_code v_0_lines v_0_isFresh v_0_hasRun v_0_runs v_0_nx v_0_ny v_0_spaces v_0_oldNx v_0_oldNy v_0_oldSpaces v_0_points v_0_pieces v_0_rings v_0_outsideSides v_0_looseCount f_0_isFlat f_0_across f_0_lows f_0_highs f68 f37 f38 f39) H := hP
                    have hD : va_D A (wl_Mo_addLoose a_0 a_0_isFlat a_0_across a_0_lows a_0_highs a_0_looseLines a_0_looseXs a_0_looseYs a_0_looseReaches b_0_thick b_0_doorCounts b_0_doorFrom b_0_doorTo b_0_xs b_0_ys b_0_labels b_0_oldXs b_0_oldYs b_0_oldLabels b_0_names b_0_oldNames b_0_wanted b_0_common b_0_flatEdges b_0_upEdges b_0_isPoint b_0_stack b_0_pieceLines b_0_pieceBegins b_0_pieceEnds b_0_pieceLeft b_0_pieceRight b_0_outs b_0_isSeen b_0_ringSpaces b_0_ringStarts b_0_ringSizes b_0_ringLeast b_0_far cZ cI v_0_code v_0_lines v_0_isFresh v_0_hasRun v_0_runs v_0_nx v_0_ny v_0_spaces v_0_oldNx v_0_oldNy v_0_oldSpaces v_0_points v_0_pieces v_0_rings v_0_outsideSides v_0_looseCount f_0_isFlat f_0_across f_0_lows f_0_highs f68 f37 f38 f39) := hD
                    refine lv_aload_n hx hb d_Mo_addLoose_169 rfl (lv_at hl 0 rfl) ?_
                    refine va_get (D := (dC, dI)) (ci := 11) (v := .ref a_0_looseXs) (C := "SpaceCyclesModel") (T := F_Mo) (N := 54) hx hb hts (in_F i_Mo) hown hK hP 0 rfl rfl 49 (by decide) (hts _ (in_c k_364)) (fun _ h9 => h9) rfl d_Mo_addLoose_170 ?_
                    refine lv_iload hx hb d_Mo_addLoose_173 (lv_at hl 5 rfl) ?_
                    refine lv_aload_n hx hb d_Mo_addLoose_175 rfl (lv_at hl 0 rfl) ?_
                    refine va_get (D := (dC, dI)) (ci := 11) (v := .ref a_0_looseXs) (C := "SpaceCyclesModel") (T := F_Mo) (N := 54) hx hb hts (in_F i_Mo) hown hK hP 0 rfl rfl 49 (by decide) (hts _ (in_c k_364)) (fun _ h9 => h9) rfl d_Mo_addLoose_176 ?_
                    refine lv_iload hx hb d_Mo_addLoose_179 (lv_at hl 5 rfl) ?_
                    refine lv_iconst (v := 1) hx hb d_Mo_addLoose_181 (by decide) ?_
                    refine lv_isub hx hb d_Mo_addLoose_182 ?_
                    obtain ⟨hi69, hm⟩ := gI_e hm
                    refine va_iald hx hb hK hP 6 0 rfl rfl hi69 d_Mo_addLoose_183 ?_
                    obtain ⟨hi70, hm⟩ := gI_e hm
                    obtain ⟨f71, ef71⟩ : ∃ y : Nat → Int32, y = upd f37 x35.toNatClampNeg (f37 (x35 - 1).toNatClampNeg) := ⟨_, rfl⟩
                    replace hm := lt_el hm ef71
                    refine va_iast hx hb hK hP hD hS 6 0 rfl rfl hi70 d_Mo_addLoose_184 (fun H locs hP hD hS => ?_)
                    rw [← ef71] at hP hD
                    have hP : va_P (dC, dI) vwCl (wl_Mo_addLoose a_0 a_0_isFlat a_0_across a_0_lows a_0_highs a_0_looseLines a_0_looseXs a_0_looseYs a_0_looseReaches b_0_thick b_0_doorCounts b_0_doorFrom b_0_doorTo b_0_xs b_0_ys b_0_labels b_0_oldXs b_0_oldYs b_0_oldLabels b_0_names b_0_oldNames b_0_wanted b_0_common b_0_flatEdges b_0_upEdges b_0_isPoint b_0_stack b_0_pieceLines b_0_pieceBegins b_0_pieceEnds b_0_pieceLeft b_0_pieceRight b_0_outs b_0_isSeen b_0_ringSpaces b_0_ringStarts b_0_ringSizes b_0_ringLeast b_0_far cZ cI v_0_code v_0_lines v_0_isFresh v_0_hasRun v_0_runs v_0_nx v_0_ny v_0_spaces v_0_oldNx v_0_oldNy v_0_oldSpaces v_0_points v_0_pieces v_0_rings v_0_outsideSides v_0_looseCount f_0_isFlat f_0_across f_0_lows f_0_highs f68 f71 f38 f39) H := hP
                    have hD : va_D A (wl_Mo_addLoose a_0 a_0_isFlat a_0_across a_0_lows a_0_highs a_0_looseLines a_0_looseXs a_0_looseYs a_0_looseReaches b_0_thick b_0_doorCounts b_0_doorFrom b_0_doorTo b_0_xs b_0_ys b_0_labels b_0_oldXs b_0_oldYs b_0_oldLabels b_0_names b_0_oldNames b_0_wanted b_0_common b_0_flatEdges b_0_upEdges b_0_isPoint b_0_stack b_0_pieceLines b_0_pieceBegins b_0_pieceEnds b_0_pieceLeft b_0_pieceRight b_0_outs b_0_isSeen b_0_ringSpaces b_0_ringStarts b_0_ringSizes b_0_ringLeast b_0_far cZ cI v_0_code v_0_lines v_0_isFresh v_0_hasRun v_0_runs v_0_nx v_0_ny v_0_spaces v_0_oldNx v_0_oldNy v_0_oldSpaces v_0_points v_0_pieces v_0_rings v_0_outsideSides v_0_looseCount f_0_isFlat f_0_across f_0_lows f_0_highs f68 f71 f38 f39) := hD
                    refine lv_aload_n hx hb d_Mo_addLoose_185 rfl (lv_at hl 0 rfl) ?_
                    refine va_get (D := (dC, dI)) (ci := 11) (v := .ref a_0_looseYs) (C := "SpaceCyclesModel") (T := F_Mo) (N := 54) hx hb hts (in_F i_Mo) hown hK hP 0 rfl rfl 50 (by decide) (hts _ (in_c k_366)) (fun _ h9 => h9) rfl d_Mo_addLoose_186 ?_
                    refine lv_iload hx hb d_Mo_addLoose_189 (lv_at hl 5 rfl) ?_
                    refine lv_aload_n hx hb d_Mo_addLoose_191 rfl (lv_at hl 0 rfl) ?_
                    refine va_get (D := (dC, dI)) (ci := 11) (v := .ref a_0_looseYs) (C := "SpaceCyclesModel") (T := F_Mo) (N := 54) hx hb hts (in_F i_Mo) hown hK hP 0 rfl rfl 50 (by decide) (hts _ (in_c k_366)) (fun _ h9 => h9) rfl d_Mo_addLoose_192 ?_
                    refine lv_iload hx hb d_Mo_addLoose_195 (lv_at hl 5 rfl) ?_
                    refine lv_iconst (v := 1) hx hb d_Mo_addLoose_197 (by decide) ?_
                    refine lv_isub hx hb d_Mo_addLoose_198 ?_
                    obtain ⟨hi72, hm⟩ := gI_e hm
                    refine va_iald hx hb hK hP 7 0 rfl rfl hi72 d_Mo_addLoose_199 ?_
                    obtain ⟨hi73, hm⟩ := gI_e hm
                    obtain ⟨f74, ef74⟩ : ∃ y : Nat → Int32, y = upd f38 x35.toNatClampNeg (f38 (x35 - 1).toNatClampNeg) := ⟨_, rfl⟩
                    replace hm := lt_el hm ef74
                    refine va_iast hx hb hK hP hD hS 7 0 rfl rfl hi73 d_Mo_addLoose_200 (fun H locs hP hD hS => ?_)
                    rw [← ef74] at hP hD
                    have hP : va_P (dC, dI) vwCl (wl_Mo_addLoose a_0 a_0_isFlat a_0_across a_0_lows a_0_highs a_0_looseLines a_0_looseXs a_0_looseYs a_0_looseReaches b_0_thick b_0_doorCounts b_0_doorFrom b_0_doorTo b_0_xs b_0_ys b_0_labels b_0_oldXs b_0_oldYs b_0_oldLabels b_0_names b_0_oldNames b_0_wanted b_0_common b_0_flatEdges b_0_upEdges b_0_isPoint b_0_stack b_0_pieceLines b_0_pieceBegins b_0_pieceEnds b_0_pieceLeft b_0_pieceRight b_0_outs b_0_isSeen b_0_ringSpaces b_0_ringStarts b_0_ringSizes b_0_ringLeast b_0_far cZ cI v_0_code v_0_lines v_0_isFresh v_0_hasRun v_0_runs v_0_nx v_0_ny v_0_spaces v_0_oldNx v_0_oldNy v_0_oldSpaces v_0_points v_0_pieces v_0_rings v_0_outsideSides v_0_looseCount f_0_isFlat f_0_across f_0_lows f_0_highs f68 f71 f74 f39) H := hP
                    have hD : va_D A (wl_Mo_addLoose a_0 a_0_isFlat a_0_across a_0_lows a_0_highs a_0_looseLines a_0_looseXs a_0_looseYs a_0_looseReaches b_0_thick b_0_doorCounts b_0_doorFrom b_0_doorTo b_0_xs b_0_ys b_0_labels b_0_oldXs b_0_oldYs b_0_oldLabels b_0_names b_0_oldNames b_0_wanted b_0_common b_0_flatEdges b_0_upEdges b_0_isPoint b_0_stack b_0_pieceLines b_0_pieceBegins b_0_pieceEnds b_0_pieceLeft b_0_pieceRight b_0_outs b_0_isSeen b_0_ringSpaces b_0_ringStarts b_0_ringSizes b_0_ringLeast b_0_far cZ cI v_0_code v_0_lines v_0_isFresh v_0_hasRun v_0_runs v_0_nx v_0_ny v_0_spaces v_0_oldNx v_0_oldNy v_0_oldSpaces v_0_points v_0_pieces v_0_rings v_0_outsideSides v_0_looseCount f_0_isFlat f_0_across f_0_lows f_0_highs f68 f71 f74 f39) := hD
                    refine lv_aload_n hx hb d_Mo_addLoose_201 rfl (lv_at hl 0 rfl) ?_
                    refine va_get (D := (dC, dI)) (ci := 11) (v := .ref a_0_looseReaches) (C := "SpaceCyclesModel") (T := F_Mo) (N := 54) hx hb hts (in_F i_Mo) hown hK hP 0 rfl rfl 51 (by decide) (hts _ (in_c k_367)) (fun _ h9 => h9) rfl d_Mo_addLoose_202 ?_
                    refine lv_iload hx hb d_Mo_addLoose_205 (lv_at hl 5 rfl) ?_
                    refine lv_aload_n hx hb d_Mo_addLoose_207 rfl (lv_at hl 0 rfl) ?_
                    refine va_get (D := (dC, dI)) (ci := 11) (v := .ref a_0_looseReaches) (C := "SpaceCyclesModel") (T := F_Mo) (N := 54) hx hb hts (in_F i_Mo) hown hK hP 0 rfl rfl 51 (by decide) (hts _ (in_c k_367)) (fun _ h9 => h9) rfl d_Mo_addLoose_208 ?_
                    refine lv_iload hx hb d_Mo_addLoose_211 (lv_at hl 5 rfl) ?_
                    refine lv_iconst (v := 1) hx hb d_Mo_addLoose_213 (by decide) ?_
                    refine lv_isub hx hb d_Mo_addLoose_214 ?_
                    obtain ⟨hi75, hm⟩ := gI_e hm
                    refine va_iald hx hb hK hP 8 0 rfl rfl hi75 d_Mo_addLoose_215 ?_
                    obtain ⟨hi76, hm⟩ := gI_e hm
                    obtain ⟨f77, ef77⟩ : ∃ y : Nat → Int32, y = upd f39 x35.toNatClampNeg (f39 (x35 - 1).toNatClampNeg) := ⟨_, rfl⟩
                    replace hm := lt_el hm ef77
                    refine va_iast hx hb hK hP hD hS 8 0 rfl rfl hi76 d_Mo_addLoose_216 (fun H locs hP hD hS => ?_)
                    rw [← ef77] at hP hD
                    have hP : va_P (dC, dI) vwCl (wl_Mo_addLoose a_0 a_0_isFlat a_0_across a_0_lows a_0_highs a_0_looseLines a_0_looseXs a_0_looseYs a_0_looseReaches b_0_thick b_0_doorCounts b_0_doorFrom b_0_doorTo b_0_xs b_0_ys b_0_labels b_0_oldXs b_0_oldYs b_0_oldLabels b_0_names b_0_oldNames b_0_wanted b_0_common b_0_flatEdges b_0_upEdges b_0_isPoint b_0_stack b_0_pieceLines b_0_pieceBegins b_0_pieceEnds b_0_pieceLeft b_0_pieceRight b_0_outs b_0_isSeen b_0_ringSpaces b_0_ringStarts b_0_ringSizes b_0_ringLeast b_0_far cZ cI v_0_code v_0_lines v_0_isFresh v_0_hasRun v_0_runs v_0_nx v_0_ny v_0_spaces v_0_oldNx v_0_oldNy v_0_oldSpaces v_0_points v_0_pieces v_0_rings v_0_outsideSides v_0_looseCount f_0_isFlat f_0_across f_0_lows f_0_highs f68 f71 f74 f77) H := hP
                    have hD : va_D A (wl_Mo_addLoose a_0 a_0_isFlat a_0_across a_0_lows a_0_highs a_0_looseLines a_0_looseXs a_0_looseYs a_0_looseReaches b_0_thick b_0_doorCounts b_0_doorFrom b_0_doorTo b_0_xs b_0_ys b_0_labels b_0_oldXs b_0_oldYs b_0_oldLabels b_0_names b_0_oldNames b_0_wanted b_0_common b_0_flatEdges b_0_upEdges b_0_isPoint b_0_stack b_0_pieceLines b_0_pieceBegins b_0_pieceEnds b_0_pieceLeft b_0_pieceRight b_0_outs b_0_isSeen b_0_ringSpaces b_0_ringStarts b_0_ringSizes b_0_ringLeast b_0_far cZ cI v_0_code v_0_lines v_0_isFresh v_0_hasRun v_0_runs v_0_nx v_0_ny v_0_spaces v_0_oldNx v_0_oldNy v_0_oldSpaces v_0_points v_0_pieces v_0_rings v_0_outsideSides v_0_looseCount f_0_isFlat f_0_across f_0_lows f_0_highs f68 f71 f74 f77) := hD
                    obtain ⟨x78, ex78⟩ : ∃ y : Int32, y = x35 + (-1) := ⟨_, rfl⟩
                    replace hm := lt_el hm ex78
                    refine lv_iinc (v := x78) (lv' := [(6, .int x78), (0, .ref a_0), (1, .int p1), (2, .int p2), (4, .int x12), (5, .int x19)]) hx hb d_Mo_addLoose_217 hl (k := 5) rfl (by rw [ex78]; rfl) (by decide) rfl (fun ls hl => ?_)
                    refine lv_goto (tgt := 106) hx hb d_Mo_addLoose_220 (by decide) ?_
                    exact ih _ _ _ _ _ _ _ _ _ _ hm KE H locs ls hP hD hS (lv_sub hl [1, 2, 3, 4, 5, 0] rfl)
        obtain ⟨x40, f41, f42, f43, f44, hb79, hm⟩ := bd5_e hm
        refine L106_45 fu _ _ _ _ _ _ _ _ _ _ hb79 (fun H locs ls hP hD hS hl => ?_) H locs ls hP hD hS (lv_sub hl [1, 2, 3, 4, 5, 0] rfl)
        refine lv_aload_n hx hb d_Mo_addLoose_223 rfl (lv_at hl 0 rfl) ?_
        refine va_get (D := (dC, dI)) (ci := 11) (v := .ref a_0_looseLines) (C := "SpaceCyclesModel") (T := F_Mo) (N := 54) hx hb hts (in_F i_Mo) hown hK hP 0 rfl rfl 48 (by decide) (hts _ (in_c k_365)) (fun _ h9 => h9) rfl d_Mo_addLoose_224 ?_
        refine lv_iload hx hb d_Mo_addLoose_227 (lv_at hl 5 rfl) ?_
        refine lv_iload_n hx hb d_Mo_addLoose_229 rfl (lv_at hl 1 rfl) ?_
        obtain ⟨hi80, hm⟩ := gI_e hm
        obtain ⟨f81, ef81⟩ : ∃ y : Nat → Int32, y = upd f41 x40.toNatClampNeg p1 := ⟨_, rfl⟩
        replace hm := lt_el hm ef81
        refine va_iast hx hb hK hP hD hS 5 0 rfl rfl hi80 d_Mo_addLoose_230 (fun H locs hP hD hS => ?_)
        rw [← ef81] at hP hD
        have hP : va_P (dC, dI) vwCl (wl_Mo_addLoose a_0 a_0_isFlat a_0_across a_0_lows a_0_highs a_0_looseLines a_0_looseXs a_0_looseYs a_0_looseReaches b_0_thick b_0_doorCounts b_0_doorFrom b_0_doorTo b_0_xs b_0_ys b_0_labels b_0_oldXs b_0_oldYs b_0_oldLabels b_0_names b_0_oldNames b_0_wanted b_0_common b_0_flatEdges b_0_upEdges b_0_isPoint b_0_stack b_0_pieceLines b_0_pieceBegins b_0_pieceEnds b_0_pieceLeft b_0_pieceRight b_0_outs b_0_isSeen b_0_ringSpaces b_0_ringStarts b_0_ringSizes b_0_ringLeast b_0_far cZ cI v_0_code v_0_lines v_0_isFresh v_0_hasRun v_0_runs v_0_nx v_0_ny v_0_spaces v_0_oldNx v_0_oldNy v_0_oldSpaces v_0_points v_0_pieces v_0_rings v_0_outsideSides v_0_looseCount f_0_isFlat f_0_across f_0_lows f_0_highs f81 f42 f43 f44) H := hP
        have hD : va_D A (wl_Mo_addLoose a_0 a_0_isFlat a_0_across a_0_lows a_0_highs a_0_looseLines a_0_looseXs a_0_looseYs a_0_looseReaches b_0_thick b_0_doorCounts b_0_doorFrom b_0_doorTo b_0_xs b_0_ys b_0_labels b_0_oldXs b_0_oldYs b_0_oldLabels b_0_names b_0_oldNames b_0_wanted b_0_common b_0_flatEdges b_0_upEdges b_0_isPoint b_0_stack b_0_pieceLines b_0_pieceBegins b_0_pieceEnds b_0_pieceLeft b_0_pieceRight b_0_outs b_0_isSeen b_0_ringSpaces b_0_ringStarts b_0_ringSizes b_0_ringLeast b_0_far cZ cI v_0_code v_0_lines v_0_isFresh v_0_hasRun v_0_runs v_0_nx v_0_ny v_0_spaces v_0_oldNx v_0_oldNy v_0_oldSpaces v_0_points v_0_pieces v_0_rings v_0_outsideSides v_0_looseCount f_0_isFlat f_0_across f_0_lows f_0_highs f81 f42 f43 f44) := hD
        refine lv_aload_n hx hb d_Mo_addLoose_231 rfl (lv_at hl 0 rfl) ?_
        refine va_get (D := (dC, dI)) (ci := 11) (v := .ref a_0_looseXs) (C := "SpaceCyclesModel") (T := F_Mo) (N := 54) hx hb hts (in_F i_Mo) hown hK hP 0 rfl rfl 49 (by decide) (hts _ (in_c k_364)) (fun _ h9 => h9) rfl d_Mo_addLoose_232 ?_
        refine lv_iload hx hb d_Mo_addLoose_235 (lv_at hl 5 rfl) ?_
        refine lv_iload hx hb d_Mo_addLoose_237 (lv_at hl 3 rfl) ?_
        obtain ⟨hi82, hm⟩ := gI_e hm
        obtain ⟨f83, ef83⟩ : ∃ y : Nat → Int32, y = upd f42 x40.toNatClampNeg x12 := ⟨_, rfl⟩
        replace hm := lt_el hm ef83
        refine va_iast hx hb hK hP hD hS 6 0 rfl rfl hi82 d_Mo_addLoose_239 (fun H locs hP hD hS => ?_)
        rw [← ef83] at hP hD
        have hP : va_P (dC, dI) vwCl (wl_Mo_addLoose a_0 a_0_isFlat a_0_across a_0_lows a_0_highs a_0_looseLines a_0_looseXs a_0_looseYs a_0_looseReaches b_0_thick b_0_doorCounts b_0_doorFrom b_0_doorTo b_0_xs b_0_ys b_0_labels b_0_oldXs b_0_oldYs b_0_oldLabels b_0_names b_0_oldNames b_0_wanted b_0_common b_0_flatEdges b_0_upEdges b_0_isPoint b_0_stack b_0_pieceLines b_0_pieceBegins b_0_pieceEnds b_0_pieceLeft b_0_pieceRight b_0_outs b_0_isSeen b_0_ringSpaces b_0_ringStarts b_0_ringSizes b_0_ringLeast b_0_far cZ cI v_0_code v_0_lines v_0_isFresh v_0_hasRun v_0_runs v_0_nx v_0_ny v_0_spaces v_0_oldNx v_0_oldNy v_0_oldSpaces v_0_points v_0_pieces v_0_rings v_0_outsideSides v_0_looseCount f_0_isFlat f_0_across f_0_lows f_0_highs f81 f83 f43 f44) H := hP
        have hD : va_D A (wl_Mo_addLoose a_0 a_0_isFlat a_0_across a_0_lows a_0_highs a_0_looseLines a_0_looseXs a_0_looseYs a_0_looseReaches b_0_thick b_0_doorCounts b_0_doorFrom b_0_doorTo b_0_xs b_0_ys b_0_labels b_0_oldXs b_0_oldYs b_0_oldLabels b_0_names b_0_oldNames b_0_wanted b_0_common b_0_flatEdges b_0_upEdges b_0_isPoint b_0_stack b_0_pieceLines b_0_pieceBegins b_0_pieceEnds b_0_pieceLeft b_0_pieceRight b_0_outs b_0_isSeen b_0_ringSpaces b_0_ringStarts b_0_ringSizes b_0_ringLeast b_0_far cZ cI v_0_code v_0_lines v_0_isFresh v_0_hasRun v_0_runs v_0_nx v_0_ny v_0_spaces v_0_oldNx v_0_oldNy v_0_oldSpaces v_0_points v_0_pieces v_0_rings v_0_outsideSides v_0_looseCount f_0_isFlat f_0_across f_0_lows f_0_highs f81 f83 f43 f44) := hD
        refine lv_aload_n hx hb d_Mo_addLoose_240 rfl (lv_at hl 0 rfl) ?_
        refine va_get (D := (dC, dI)) (ci := 11) (v := .ref a_0_looseYs) (C := "SpaceCyclesModel") (T := F_Mo) (N := 54) hx hb hts (in_F i_Mo) hown hK hP 0 rfl rfl 50 (by decide) (hts _ (in_c k_366)) (fun _ h9 => h9) rfl d_Mo_addLoose_241 ?_
        refine lv_iload hx hb d_Mo_addLoose_244 (lv_at hl 5 rfl) ?_
        refine lv_iload hx hb d_Mo_addLoose_246 (lv_at hl 4 rfl) ?_
        obtain ⟨hi84, hm⟩ := gI_e hm
        obtain ⟨f85, ef85⟩ : ∃ y : Nat → Int32, y = upd f43 x40.toNatClampNeg x19 := ⟨_, rfl⟩
        replace hm := lt_el hm ef85
        refine va_iast hx hb hK hP hD hS 7 0 rfl rfl hi84 d_Mo_addLoose_248 (fun H locs hP hD hS => ?_)
        rw [← ef85] at hP hD
        have hP : va_P (dC, dI) vwCl (wl_Mo_addLoose a_0 a_0_isFlat a_0_across a_0_lows a_0_highs a_0_looseLines a_0_looseXs a_0_looseYs a_0_looseReaches b_0_thick b_0_doorCounts b_0_doorFrom b_0_doorTo b_0_xs b_0_ys b_0_labels b_0_oldXs b_0_oldYs b_0_oldLabels b_0_names b_0_oldNames b_0_wanted b_0_common b_0_flatEdges b_0_upEdges b_0_isPoint b_0_stack b_0_pieceLines b_0_pieceBegins b_0_pieceEnds b_0_pieceLeft b_0_pieceRight b_0_outs b_0_isSeen b_0_ringSpaces b_0_ringStarts b_0_ringSizes b_0_ringLeast b_0_far cZ cI v_0_code v_0_lines v_0_isFresh v_0_hasRun v_0_runs v_0_nx v_0_ny v_0_spaces v_0_oldNx v_0_oldNy v_0_oldSpaces v_0_points v_0_pieces v_0_rings v_0_outsideSides v_0_looseCount f_0_isFlat f_0_across f_0_lows f_0_highs f81 f83 f85 f44) H := hP
        have hD : va_D A (wl_Mo_addLoose a_0 a_0_isFlat a_0_across a_0_lows a_0_highs a_0_looseLines a_0_looseXs a_0_looseYs a_0_looseReaches b_0_thick b_0_doorCounts b_0_doorFrom b_0_doorTo b_0_xs b_0_ys b_0_labels b_0_oldXs b_0_oldYs b_0_oldLabels b_0_names b_0_oldNames b_0_wanted b_0_common b_0_flatEdges b_0_upEdges b_0_isPoint b_0_stack b_0_pieceLines b_0_pieceBegins b_0_pieceEnds b_0_pieceLeft b_0_pieceRight b_0_outs b_0_isSeen b_0_ringSpaces b_0_ringStarts b_0_ringSizes b_0_ringLeast b_0_far cZ cI v_0_code v_0_lines v_0_isFresh v_0_hasRun v_0_runs v_0_nx v_0_ny v_0_spaces v_0_oldNx v_0_oldNy v_0_oldSpaces v_0_points v_0_pieces v_0_rings v_0_outsideSides v_0_looseCount f_0_isFlat f_0_across f_0_lows f_0_highs f81 f83 f85 f44) := hD
        refine lv_aload_n hx hb d_Mo_addLoose_249 rfl (lv_at hl 0 rfl) ?_
        refine va_get (D := (dC, dI)) (ci := 11) (v := .ref a_0_looseReaches) (C := "SpaceCyclesModel") (T := F_Mo) (N := 54) hx hb hts (in_F i_Mo) hown hK hP 0 rfl rfl 51 (by decide) (hts _ (in_c k_367)) (fun _ h9 => h9) rfl d_Mo_addLoose_250 ?_
        refine lv_iload hx hb d_Mo_addLoose_253 (lv_at hl 5 rfl) ?_
        refine lv_aload_n hx hb d_Mo_addLoose_255 rfl (lv_at hl 0 rfl) ?_
        refine lv_iload_n hx hb d_Mo_addLoose_256 rfl (lv_at hl 1 rfl) ?_
        refine lv_iload_n hx hb d_Mo_addLoose_257 rfl (lv_at hl 2 rfl) ?_
        obtain ⟨r86, hb87, hm⟩ := bd1_e hm
        have hPc := hP.sub (ws' := (wl_Mo_reach a_0 a_0_isFlat a_0_across a_0_lows a_0_highs b_0_thick b_0_doorCounts b_0_doorFrom b_0_doorTo b_0_xs b_0_ys b_0_labels b_0_oldXs b_0_oldYs b_0_oldLabels b_0_names b_0_oldNames b_0_wanted b_0_common b_0_flatEdges b_0_upEdges b_0_isPoint b_0_stack b_0_pieceLines b_0_pieceBegins b_0_pieceEnds b_0_pieceLeft b_0_pieceRight b_0_outs b_0_isSeen b_0_ringSpaces b_0_ringStarts b_0_ringSizes b_0_ringLeast a_0_looseLines a_0_looseXs a_0_looseYs a_0_looseReaches b_0_far cZ cI v_0_code v_0_lines v_0_isFresh v_0_hasRun v_0_runs v_0_nx v_0_ny v_0_spaces v_0_oldNx v_0_oldNy v_0_oldSpaces v_0_points v_0_pieces v_0_rings v_0_outsideSides v_0_looseCount f_0_isFlat f_0_across f_0_lows f_0_highs)) [0, 1, 2, 3, 4] rfl
        have hDc := hD.sub (ws' := (wl_Mo_reach a_0 a_0_isFlat a_0_across a_0_lows a_0_highs b_0_thick b_0_doorCounts b_0_doorFrom b_0_doorTo b_0_xs b_0_ys b_0_labels b_0_oldXs b_0_oldYs b_0_oldLabels b_0_names b_0_oldNames b_0_wanted b_0_common b_0_flatEdges b_0_upEdges b_0_isPoint b_0_stack b_0_pieceLines b_0_pieceBegins b_0_pieceEnds b_0_pieceLeft b_0_pieceRight b_0_outs b_0_isSeen b_0_ringSpaces b_0_ringStarts b_0_ringSizes b_0_ringLeast a_0_looseLines a_0_looseXs a_0_looseYs a_0_looseReaches b_0_far cZ cI v_0_code v_0_lines v_0_isFresh v_0_hasRun v_0_runs v_0_nx v_0_ny v_0_spaces v_0_oldNx v_0_oldNy v_0_oldSpaces v_0_points v_0_pieces v_0_rings v_0_outsideSides v_0_looseCount f_0_isFlat f_0_across f_0_lows f_0_highs)) [0, 1, 2, 3, 4] (by decide) rfl
        refine cl_i (wc' := (wl_Mo_reach a_0 a_0_isFlat a_0_across a_0_lows a_0_highs b_0_thick b_0_doorCounts b_0_doorFrom b_0_doorTo b_0_xs b_0_ys b_0_labels b_0_oldXs b_0_oldYs b_0_oldLabels b_0_names b_0_oldNames b_0_wanted b_0_common b_0_flatEdges b_0_upEdges b_0_isPoint b_0_stack b_0_pieceLines b_0_pieceBegins b_0_pieceEnds b_0_pieceLeft b_0_pieceRight b_0_outs b_0_isSeen b_0_ringSpaces b_0_ringStarts b_0_ringSizes b_0_ringLeast a_0_looseLines a_0_looseXs a_0_looseYs a_0_looseReaches b_0_far cZ cI v_0_code v_0_lines v_0_isFresh v_0_hasRun v_0_runs v_0_nx v_0_ny v_0_spaces v_0_oldNx v_0_oldNy v_0_oldSpaces v_0_points v_0_pieces v_0_rings v_0_outsideSides v_0_looseCount f_0_isFlat f_0_across f_0_lows f_0_highs)) (va_runV (As := [.int p1, .int p2]) (rest := [.int x40, .ref a_0_looseReaches]) ⟨hx, hb, hml, hown, hts⟩ (c_Mo_reach l dC dI (cI := cI) (cZ := cZ) (cJ := cJ) a_0 a_0_isFlat a_0_across a_0_lows a_0_highs b_0_thick b_0_doorCounts b_0_doorFrom b_0_doorTo b_0_xs b_0_ys b_0_labels b_0_oldXs b_0_oldYs b_0_oldLabels b_0_names b_0_oldNames b_0_wanted b_0_common b_0_flatEdges b_0_upEdges b_0_isPoint b_0_stack b_0_pieceLines b_0_pieceBegins b_0_pieceEnds b_0_pieceLeft b_0_pieceRight b_0_outs b_0_isSeen b_0_ringSpaces b_0_ringStarts b_0_ringSizes b_0_ringLeast a_0_looseLines a_0_looseXs a_0_looseYs a_0_looseReaches b_0_far H.size v_0_code v_0_lines v_0_isFresh v_0_hasRun v_0_runs v_0_nx v_0_ny v_0_spaces v_0_oldNx v_0_oldNy v_0_oldSpaces v_0_points v_0_pieces v_0_rings v_0_outsideSides v_0_looseCount f_0_isFlat f_0_across f_0_lows f_0_highs p1 p2 r86 hb87) (cwV 2 hts (gl_V k_371 k_370 k_369 k_277 k_368) rfl rfl rfl (by decide +kernel) ⟨Nat.le_of_ble_eq_true rfl, Nat.le_of_ble_eq_true rfl⟩) ⟨PP_blind, va_recv hK hPc (ci := 11) (q0 := 0) rfl rfl, fun U hU hW => PP_at hK hN hPc hDc hU hW⟩ rfl rfl hl.1 rfl (lv_room (Nat.le_of_ble_eq_true rfl)) d_Mo_addLoose_258 ⟨Nat.zero_le _, Nat.zero_le _⟩) hP hD hS hA [0, 1, 2, 3, 4] [5, 6, 7, 8] rfl rfl (by decide) (by decide) (fun H locs hP hD hS => ?_)
        have hP : va_P (dC, dI) vwCl (wl_Mo_addLoose a_0 a_0_isFlat a_0_across a_0_lows a_0_highs a_0_looseLines a_0_looseXs a_0_looseYs a_0_looseReaches b_0_thick b_0_doorCounts b_0_doorFrom b_0_doorTo b_0_xs b_0_ys b_0_labels b_0_oldXs b_0_oldYs b_0_oldLabels b_0_names b_0_oldNames b_0_wanted b_0_common b_0_flatEdges b_0_upEdges b_0_isPoint b_0_stack b_0_pieceLines b_0_pieceBegins b_0_pieceEnds b_0_pieceLeft b_0_pieceRight b_0_outs b_0_isSeen b_0_ringSpaces b_0_ringStarts b_0_ringSizes b_0_ringLeast b_0_far cZ cI v_0_code v_0_lines v_0_isFresh v_0_hasRun v_0_runs v_0_nx v_0_ny v_0_spaces v_0_oldNx v_0_oldNy v_0_oldSpaces v_0_points v_0_pieces v_0_rings v_0_outsideSides v_0_looseCount f_0_isFlat f_0_across f_0_lows f_0_highs f81 f83 f85 f44) H := hP.sub [4, 5, 6, 7, 8, 0, 1, 2, 3] rfl
        have hD : va_D A (wl_Mo_addLoose a_0 a_0_isFlat a_0_across a_0_lows a_0_highs a_0_looseLines a_0_looseXs a_0_looseYs a_0_looseReaches b_0_thick b_0_doorCounts b_0_doorFrom b_0_doorTo b_0_xs b_0_ys b_0_labels b_0_oldXs b_0_oldYs b_0_oldLabels b_0_names b_0_oldNames b_0_wanted b_0_common b_0_flatEdges b_0_upEdges b_0_isPoint b_0_stack b_0_pieceLines b_0_pieceBegins b_0_pieceEnds b_0_pieceLeft b_0_pieceRight b_0_outs b_0_isSeen b_0_ringSpaces b_0_ringStarts b_0_ringSizes b_0_ringLeast b_0_far cZ cI v_0_code v_0_lines v_0_isFresh v_0_hasRun v_0_runs v_0_nx v_0_ny v_0_spaces v_0_oldNx v_0_oldNy v_0_oldSpaces v_0_points v_0_pieces v_0_rings v_0_outsideSides v_0_looseCount f_0_isFlat f_0_across f_0_lows f_0_highs f81 f83 f85 f44) := hD.sub [4, 5, 6, 7, 8, 0, 1, 2, 3] (by decide) rfl
        obtain ⟨hi88, hm⟩ := gI_e hm
        obtain ⟨f89, ef89⟩ : ∃ y : Nat → Int32, y = upd f44 x40.toNatClampNeg r86 := ⟨_, rfl⟩
        replace hm := lt_el hm ef89
        refine va_iast hx hb hK hP hD hS 8 0 rfl rfl hi88 d_Mo_addLoose_261 (fun H locs hP hD hS => ?_)
        rw [← ef89] at hP hD
        have hP : va_P (dC, dI) vwCl (wl_Mo_addLoose a_0 a_0_isFlat a_0_across a_0_lows a_0_highs a_0_looseLines a_0_looseXs a_0_looseYs a_0_looseReaches b_0_thick b_0_doorCounts b_0_doorFrom b_0_doorTo b_0_xs b_0_ys b_0_labels b_0_oldXs b_0_oldYs b_0_oldLabels b_0_names b_0_oldNames b_0_wanted b_0_common b_0_flatEdges b_0_upEdges b_0_isPoint b_0_stack b_0_pieceLines b_0_pieceBegins b_0_pieceEnds b_0_pieceLeft b_0_pieceRight b_0_outs b_0_isSeen b_0_ringSpaces b_0_ringStarts b_0_ringSizes b_0_ringLeast b_0_far cZ cI v_0_code v_0_lines v_0_isFresh v_0_hasRun v_0_runs v_0_nx v_0_ny v_0_spaces v_0_oldNx v_0_oldNy v_0_oldSpaces v_0_points v_0_pieces v_0_rings v_0_outsideSides v_0_looseCount f_0_isFlat f_0_across f_0_lows f_0_highs f81 f83 f85 f89) H := hP
        have hD : va_D A (wl_Mo_addLoose a_0 a_0_isFlat a_0_across a_0_lows a_0_highs a_0_looseLines a_0_looseXs a_0_looseYs a_0_looseReaches b_0_thick b_0_doorCounts b_0_doorFrom b_0_doorTo b_0_xs b_0_ys b_0_labels b_0_oldXs b_0_oldYs b_0_oldLabels b_0_names b_0_oldNames b_0_wanted b_0_common b_0_flatEdges b_0_upEdges b_0_isPoint b_0_stack b_0_pieceLines b_0_pieceBegins b_0_pieceEnds b_0_pieceLeft b_0_pieceRight b_0_outs b_0_isSeen b_0_ringSpaces b_0_ringStarts b_0_ringSizes b_0_ringLeast b_0_far cZ cI v_0_code v_0_lines v_0_isFresh v_0_hasRun v_0_runs v_0_nx v_0_ny v_0_spaces v_0_oldNx v_0_oldNy v_0_oldSpaces v_0_points v_0_pieces v_0_rings v_0_outsideSides v_0_looseCount f_0_isFlat f_0_across f_0_lows f_0_highs f81 f83 f85 f89) := hD
        refine lv_aload_n hx hb d_Mo_addLoose_262 rfl (lv_at hl 0 rfl) ?_
        refine lv_dup hx hb d_Mo_addLoose_263 rfl ?_
        refine va_get (D := (dC, dI)) (ci := 11) (v := .int v_0_looseCount) (C := "SpaceCyclesModel") (T := F_Mo) (N := 54) hx hb hts (in_F i_Mo) hown hK hP 0 rfl rfl 52 (by decide) (hts _ (in_c k_363)) (fun _ h9 => h9) rfl d_Mo_addLoose_264 ?_
        refine lv_iconst (v := 1) hx hb d_Mo_addLoose_267 (by decide) ?_
        refine lv_iadd hx hb d_Mo_addLoose_268 ?_
        refine lv_topi (fun x90 ex90 => ?_)
        replace hm := lt_el hm ex90
        refine va_put (D := (dC, dI)) (ci := 11) (v := .int x90) (ty := .int) (C := "SpaceCyclesModel") (T := F_Mo) (N := 54) hx hb hts (in_F i_Mo) t_Mo t_Mo_ok n_Mo hown hK hP hD hS 0 rfl rfl 52 (by decide) (hts _ (in_c k_363)) (fun _ h9 => h9) rfl (by decide +kernel) rfl rfl (Nat.le_of_ble_eq_true rfl) d_Mo_addLoose_269 (fun H locs hP hD hS => ?_)
        have hP : va_P (dC, dI) vwCl (wl_Mo_addLoose a_0 a_0_isFlat a_0_across a_0_lows a_0_highs a_0_looseLines a_0_looseXs a_0_looseYs a_0_looseReaches b_0_thick b_0_doorCounts b_0_doorFrom b_0_doorTo b_0_xs b_0_ys b_0_labels b_0_oldXs b_0_oldYs b_0_oldLabels b_0_names b_0_oldNames b_0_wanted b_0_common b_0_flatEdges b_0_upEdges b_0_isPoint b_0_stack b_0_pieceLines b_0_pieceBegins b_0_pieceEnds b_0_pieceLeft b_0_pieceRight b_0_outs b_0_isSeen b_0_ringSpaces b_0_ringStarts b_0_ringSizes b_0_ringLeast b_0_far cZ cI v_0_code v_0_lines v_0_isFresh v_0_hasRun v_0_runs v_0_nx v_0_ny v_0_spaces v_0_oldNx v_0_oldNy v_0_oldSpaces v_0_points v_0_pieces v_0_rings v_0_outsideSides x90 f_0_isFlat f_0_across f_0_lows f_0_highs f81 f83 f85 f89) H := hP
        have hD : va_D A (wl_Mo_addLoose a_0 a_0_isFlat a_0_across a_0_lows a_0_highs a_0_looseLines a_0_looseXs a_0_looseYs a_0_looseReaches b_0_thick b_0_doorCounts b_0_doorFrom b_0_doorTo b_0_xs b_0_ys b_0_labels b_0_oldXs b_0_oldYs b_0_oldLabels b_0_names b_0_oldNames b_0_wanted b_0_common b_0_flatEdges b_0_upEdges b_0_isPoint b_0_stack b_0_pieceLines b_0_pieceBegins b_0_pieceEnds b_0_pieceLeft b_0_pieceRight b_0_outs b_0_isSeen b_0_ringSpaces b_0_ringStarts b_0_ringSizes b_0_ringLeast b_0_far cZ cI v_0_code v_0_lines v_0_isFresh v_0_hasRun v_0_runs v_0_nx v_0_ny v_0_spaces v_0_oldNx v_0_oldNy v_0_oldSpaces v_0_points v_0_pieces v_0_rings v_0_outsideSides x90 f_0_isFlat f_0_across f_0_lows f_0_highs f81 f83 f85 f89) := hD
        cases hm
        exact hret _ H locs ls d_Mo_addLoose_272 hP hD hS
      replace hm := hb17
      refine lv_if_eq (tgt := 59) hx hb d_Mo_addLoose_47 (by decide) (fun c20 => ?_) (fun c20 => ?_)
      · replace hm := if_t hm c20
        refine lv_iload_n hx hb d_Mo_addLoose_59 rfl (lv_at hl 4 rfl) ?_
        cases hm
        exact K16 H locs ls hP hD hS (lv_sub hl [1, 2, 3, 0] rfl)
      · replace hm := if_f hm c20
        refine lv_aload_n hx hb d_Mo_addLoose_50 rfl (lv_at hl 1 rfl) ?_
        refine va_get (D := (dC, dI)) (ci := 11) (v := .ref a_0_across) (C := "SpaceCyclesModel") (T := F_Mo) (N := 54) hx hb hts (in_F i_Mo) hown hK hP 0 rfl rfl 2 (by decide) (hts _ (in_c k_280)) (fun _ h9 => h9) rfl d_Mo_addLoose_51 ?_
        refine lv_iload_n hx hb d_Mo_addLoose_54 rfl (lv_at hl 2 rfl) ?_
        obtain ⟨hi21, hm⟩ := gI_e hm
        refine va_iald hx hb hK hP 2 0 rfl rfl hi21 d_Mo_addLoose_55 ?_
        refine lv_goto (tgt := 60) hx hb d_Mo_addLoose_56 (by decide) ?_
        cases hm
        exact K16 H locs ls hP hD hS (lv_sub hl [1, 2, 3, 0] rfl)
    replace hm := hb10
    refine lv_if_eq (tgt := 33) hx hb d_Mo_addLoose_26 (by decide) (fun c13 => ?_) (fun c13 => ?_)
    · replace hm := if_t hm c13
      refine lv_aload_n hx hb d_Mo_addLoose_33 rfl (lv_at hl 1 rfl) ?_
      refine va_get (D := (dC, dI)) (ci := 11) (v := .ref a_0_across) (C := "SpaceCyclesModel") (T := F_Mo) (N := 54) hx hb hts (in_F i_Mo) hown hK hP 0 rfl rfl 2 (by decide) (hts _ (in_c k_280)) (fun _ h9 => h9) rfl d_Mo_addLoose_34 ?_
      refine lv_iload_n hx hb d_Mo_addLoose_37 rfl (lv_at hl 2 rfl) ?_
      obtain ⟨hi14, hm⟩ := gI_e hm
      refine va_iald hx hb hK hP 2 0 rfl rfl hi14 d_Mo_addLoose_38 ?_
      cases hm
      exact K9 H locs ls hP hD hS (lv_sub hl [1, 2, 3, 0] rfl)
    · replace hm := if_f hm c13
      refine lv_iload_n hx hb d_Mo_addLoose_29 rfl (lv_at hl 0 rfl) ?_
      refine lv_goto (tgt := 39) hx hb d_Mo_addLoose_30 (by decide) ?_
      cases hm
      exact K9 H locs ls hP hD hS (lv_sub hl [1, 2, 3, 0] rfl)
  replace hm := hb2
  refine lv_if_eq (tgt := 13) hx hb d_Mo_addLoose_1 (by decide) (fun c5 => ?_) (fun c5 => ?_)
  · replace hm := if_t hm c5
    refine lv_aload_n hx hb d_Mo_addLoose_13 rfl (lv_at hl 0 rfl) ?_
    refine va_get (D := (dC, dI)) (ci := 11) (v := .ref a_0_lows) (C := "SpaceCyclesModel") (T := F_Mo) (N := 54) hx hb hts (in_F i_Mo) hown hK hP 0 rfl rfl 3 (by decide) (hts _ (in_c k_281)) (fun _ h9 => h9) rfl d_Mo_addLoose_14 ?_
    refine lv_iload_n hx hb d_Mo_addLoose_17 rfl (lv_at hl 1 rfl) ?_
    obtain ⟨hi6, hm⟩ := gI_e hm
    refine va_iald hx hb hK hP 3 0 rfl rfl hi6 d_Mo_addLoose_18 ?_
    cases hm
    exact K1 H locs ls hP hD hS (lv_sub hl [0, 1, 2] rfl)
  · replace hm := if_f hm c5
    refine lv_aload_n hx hb d_Mo_addLoose_4 rfl (lv_at hl 0 rfl) ?_
    refine va_get (D := (dC, dI)) (ci := 11) (v := .ref a_0_highs) (C := "SpaceCyclesModel") (T := F_Mo) (N := 54) hx hb hts (in_F i_Mo) hown hK hP 0 rfl rfl 4 (by decide) (hts _ (in_c k_282)) (fun _ h9 => h9) rfl d_Mo_addLoose_5 ?_
    refine lv_iload_n hx hb d_Mo_addLoose_8 rfl (lv_at hl 1 rfl) ?_
    obtain ⟨hi7, hm⟩ := gI_e hm
    refine va_iald hx hb hK hP 4 0 rfl rfl hi7 d_Mo_addLoose_9 ?_
    refine lv_goto (tgt := 19) hx hb d_Mo_addLoose_10 (by decide) ?_
    cases hm
    exact K1 H locs ls hP hD hS (lv_sub hl [0, 1, 2] rfl)
set_option maxHeartbeats 4000000 in
set_option maxRecDepth 100000 in
theorem c_Mo_addLoose (l : Launch) (dC : Nat → ClassId) (dI : Nat → Nat → Nat) {cI cZ cJ : ClassId} (a_0 a_0_isFlat a_0_across a_0_lows a_0_highs a_0_looseLines a_0_looseXs a_0_looseYs a_0_looseReaches b_0_thick b_0_doorCounts b_0_doorFrom b_0_doorTo b_0_xs b_0_ys b_0_labels b_0_oldXs b_0_oldYs b_0_oldLabels b_0_names b_0_oldNames b_0_wanted b_0_common b_0_flatEdges b_0_upEdges b_0_isPoint b_0_stack b_0_pieceLines b_0_pieceBegins b_0_pieceEnds b_0_pieceLeft b_0_pieceRight b_0_outs b_0_isSeen b_0_ringSpaces b_0_ringStarts b_0_ringSizes b_0_ringLeast b_0_far : Nat) (sz : Nat) (v_0_code : Int32) (v_0_lines : Int32) (v_0_isFresh : Int32) (v_0_hasRun : Int32) (v_0_runs : Int32) (v_0_nx : Int32) (v_0_ny : Int32) (v_0_spaces : Int32) (v_0_oldNx : Int32) (v_0_oldNy : Int32) (v_0_oldSpaces : Int32) (v_0_points : Int32) (v_0_pieces : Int32) (v_0_rings : Int32) (v_0_outsideSides : Int32) (v_0_looseCount : Int32) (f_0_isFlat : Nat → Int32) (f_0_across : Nat → Int32) (f_0_lows : Nat → Int32) (f_0_highs : Nat → Int32) (f_0_looseLines : Nat → Int32) (f_0_looseXs : Nat → Int32) (f_0_looseYs : Nat → Int32) (f_0_looseReaches : Nat → Int32) (p1 : Int32) (p2 : Int32) (ov_0_looseCount : Int32) (of_0_looseLines : Nat → Int32) (of_0_looseXs : Nat → Int32) (of_0_looseYs : Nat → Int32) (of_0_looseReaches : Nat → Int32) (hm : m_Mo_addLoose p1 p2 v_0_lines v_0_looseCount f_0_isFlat f_0_across f_0_lows f_0_highs f_0_looseLines f_0_looseXs f_0_looseYs f_0_looseReaches = some (ov_0_looseCount, of_0_looseLines, of_0_looseXs, of_0_looseYs, of_0_looseReaches)) : Met l y_Mo_addLoose w_Mo_addLoose rm_Mo_addLoose (PP dC dI [(cI, .int), (cZ, .boolean), (cJ, .long)] [.ref a_0, .int p1, .int p2] sz (wl_Mo_addLoose a_0 a_0_isFlat a_0_across a_0_lows a_0_highs a_0_looseLines a_0_looseXs a_0_looseYs a_0_looseReaches b_0_thick b_0_doorCounts b_0_doorFrom b_0_doorTo b_0_xs b_0_ys b_0_labels b_0_oldXs b_0_oldYs b_0_oldLabels b_0_names b_0_oldNames b_0_wanted b_0_common b_0_flatEdges b_0_upEdges b_0_isPoint b_0_stack b_0_pieceLines b_0_pieceBegins b_0_pieceEnds b_0_pieceLeft b_0_pieceRight b_0_outs b_0_isSeen b_0_ringSpaces b_0_ringStarts b_0_ringSizes b_0_ringLeast b_0_far cZ cI v_0_code v_0_lines v_0_isFresh v_0_hasRun v_0_runs v_0_nx v_0_ny v_0_spaces v_0_oldNx v_0_oldNy v_0_oldSpaces v_0_points v_0_pieces v_0_rings v_0_outsideSides v_0_looseCount f_0_isFlat f_0_across f_0_lows f_0_highs f_0_looseLines f_0_looseXs f_0_looseYs f_0_looseReaches)) (QV dC dI [(cI, .int), (cZ, .boolean), (cJ, .long)] sz (wl_Mo_addLoose a_0 a_0_isFlat a_0_across a_0_lows a_0_highs a_0_looseLines a_0_looseXs a_0_looseYs a_0_looseReaches b_0_thick b_0_doorCounts b_0_doorFrom b_0_doorTo b_0_xs b_0_ys b_0_labels b_0_oldXs b_0_oldYs b_0_oldLabels b_0_names b_0_oldNames b_0_wanted b_0_common b_0_flatEdges b_0_upEdges b_0_isPoint b_0_stack b_0_pieceLines b_0_pieceBegins b_0_pieceEnds b_0_pieceLeft b_0_pieceRight b_0_outs b_0_isSeen b_0_ringSpaces b_0_ringStarts b_0_ringSizes b_0_ringLeast b_0_far cZ cI v_0_code v_0_lines v_0_isFresh v_0_hasRun v_0_runs v_0_nx v_0_ny v_0_spaces v_0_oldNx v_0_oldNy v_0_oldSpaces v_0_points v_0_pieces v_0_rings v_0_outsideSides v_0_looseCount f_0_isFlat f_0_across f_0_lows f_0_highs f_0_looseLines f_0_looseXs f_0_looseYs f_0_looseReaches) (wl_Mo_addLoose a_0 a_0_isFlat a_0_across a_0_lows a_0_highs a_0_looseLines a_0_looseXs a_0_looseYs a_0_looseReaches b_0_thick b_0_doorCounts b_0_doorFrom b_0_doorTo b_0_xs b_0_ys b_0_labels b_0_oldXs b_0_oldYs b_0_oldLabels b_0_names b_0_oldNames b_0_wanted b_0_common b_0_flatEdges b_0_upEdges b_0_isPoint b_0_stack b_0_pieceLines b_0_pieceBegins b_0_pieceEnds b_0_pieceLeft b_0_pieceRight b_0_outs b_0_isSeen b_0_ringSpaces b_0_ringStarts b_0_ringSizes b_0_ringLeast b_0_far cZ cI v_0_code v_0_lines v_0_isFresh v_0_hasRun v_0_runs v_0_nx v_0_ny v_0_spaces v_0_oldNx v_0_oldNy v_0_oldSpaces v_0_points v_0_pieces v_0_rings v_0_outsideSides ov_0_looseCount f_0_isFlat f_0_across f_0_lows f_0_highs of_0_looseLines of_0_looseXs of_0_looseYs of_0_looseReaches)) 0 0 (va_A (wl_Mo_addLoose a_0 a_0_isFlat a_0_across a_0_lows a_0_highs a_0_looseLines a_0_looseXs a_0_looseYs a_0_looseReaches b_0_thick b_0_doorCounts b_0_doorFrom b_0_doorTo b_0_xs b_0_ys b_0_labels b_0_oldXs b_0_oldYs b_0_oldLabels b_0_names b_0_oldNames b_0_wanted b_0_common b_0_flatEdges b_0_upEdges b_0_isPoint b_0_stack b_0_pieceLines b_0_pieceBegins b_0_pieceEnds b_0_pieceLeft b_0_pieceRight b_0_outs b_0_isSeen b_0_ringSpaces b_0_ringStarts b_0_ringSizes b_0_ringLeast b_0_far cZ cI v_0_code v_0_lines v_0_isFresh v_0_hasRun v_0_runs v_0_nx v_0_ny v_0_spaces v_0_oldNx v_0_oldNy v_0_oldSpaces v_0_points v_0_pieces v_0_rings v_0_outsideSides v_0_looseCount f_0_isFlat f_0_across f_0_lows f_0_highs f_0_looseLines f_0_looseXs f_0_looseYs f_0_looseReaches) sz) := by
  refine Met.ofW (cc := b_Mo_addLoose) (maxL := 7) (ret := none) (by decide) rfl ?_
  intro p e s m args below meth c s₁ B hml hv
  obtain ⟨rfl, hsz, hP, hK, hD0, hN⟩ := hv
  subst hsz
  have hl := lv_entry ([.ref a_0, .int p1, .int p2]) (n := 7) (Nat.le_of_ble_eq_true rfl)
  rw [lg_entry_eq]
  generalize (lg_sl ([.ref a_0, .int p1, .int p2]) ++ List.replicate (7 - (lg_sl ([.ref a_0, .int p1, .int p2])).length) Slot.unset).toArray = ls at hl ⊢
  exact t_Mo_addLoose a_0 a_0_isFlat a_0_across a_0_lows a_0_highs a_0_looseLines a_0_looseXs a_0_looseYs a_0_looseReaches b_0_thick b_0_doorCounts b_0_doorFrom b_0_doorTo b_0_xs b_0_ys b_0_labels b_0_oldXs b_0_oldYs b_0_oldLabels b_0_names b_0_oldNames b_0_wanted b_0_common b_0_flatEdges b_0_upEdges b_0_isPoint b_0_stack b_0_pieceLines b_0_pieceBegins b_0_pieceEnds b_0_pieceLeft b_0_pieceRight b_0_outs b_0_isSeen b_0_ringSpaces b_0_ringStarts b_0_ringSizes b_0_ringLeast b_0_far v_0_code v_0_lines v_0_isFresh v_0_hasRun v_0_runs v_0_nx v_0_ny v_0_spaces v_0_oldNx v_0_oldNy v_0_oldSpaces v_0_points v_0_pieces v_0_rings v_0_outsideSides v_0_looseCount f_0_isFlat f_0_across f_0_lows f_0_highs f_0_looseLines f_0_looseXs f_0_looseYs f_0_looseReaches p1 p2 ov_0_looseCount of_0_looseLines of_0_looseXs of_0_looseYs of_0_looseReaches B.exec B.bytes hml (findClass_of_methodNamed B.named) (atoms_spec (ws := w_Mo_addLoose) B.pre) hK hN (fun q h => Or.inr h) (fun pc H locs ls hd hP9 hD9 hS => W.vret B.exec B.bytes B.returns (fun t ht hW => ⟨⟨(), rfl, trivial, by rw [ht]; exact hP9, va_K.moved hW.alike hK, hD9⟩, hS.F ht⟩) hS.2.2 hd) hm s.heap [] ls hP hD0.self va_S.rf hl

-- SpaceCyclesModel.both(IIII)I
abbrev b_Mo_both : ByteArray := prog_13_method_27_code
abbrev y_Mo_both : MethodName := ⟨"SpaceCyclesModel", "both", "(IIII)I"⟩
abbrev w_Mo_both : List Cond := Cond.code y_Mo_both b_Mo_both 6 (some .int) :: gl
abbrev rm_Mo_both : Room := { frames := 0, cells := 0, slots := 0, locals := 0 }
theorem d_Mo_both_0 : decode b_Mo_both 0 = .ok (.iload_n 0, 1) := by decide +kernel
theorem d_Mo_both_1 : decode b_Mo_both 1 = .ok (.iload_n 2, 1) := by decide +kernel
theorem d_Mo_both_2 : decode b_Mo_both 2 = .ok (.if_icmp .le 7, 3) := by decide +kernel
theorem d_Mo_both_5 : decode b_Mo_both 5 = .ok (.iload_n 0, 1) := by decide +kernel
theorem d_Mo_both_6 : decode b_Mo_both 6 = .ok (.goto 4, 3) := by decide +kernel
theorem d_Mo_both_9 : decode b_Mo_both 9 = .ok (.iload_n 2, 1) := by decide +kernel
theorem d_Mo_both_10 : decode b_Mo_both 10 = .ok (.istore 4, 2) := by decide +kernel
theorem d_Mo_both_12 : decode b_Mo_both 12 = .ok (.iload_n 1, 1) := by decide +kernel
theorem d_Mo_both_13 : decode b_Mo_both 13 = .ok (.iload_n 3, 1) := by decide +kernel
theorem d_Mo_both_14 : decode b_Mo_both 14 = .ok (.if_icmp .ge 7, 3) := by decide +kernel
theorem d_Mo_both_17 : decode b_Mo_both 17 = .ok (.iload_n 1, 1) := by decide +kernel
theorem d_Mo_both_18 : decode b_Mo_both 18 = .ok (.goto 4, 3) := by decide +kernel
theorem d_Mo_both_21 : decode b_Mo_both 21 = .ok (.iload_n 3, 1) := by decide +kernel
theorem d_Mo_both_22 : decode b_Mo_both 22 = .ok (.istore 5, 2) := by decide +kernel
theorem d_Mo_both_24 : decode b_Mo_both 24 = .ok (.iload 5, 2) := by decide +kernel
theorem d_Mo_both_26 : decode b_Mo_both 26 = .ok (.iload 4, 2) := by decide +kernel
theorem d_Mo_both_28 : decode b_Mo_both 28 = .ok (.if_icmp .le 11, 3) := by decide +kernel
theorem d_Mo_both_31 : decode b_Mo_both 31 = .ok (.iload 5, 2) := by decide +kernel
theorem d_Mo_both_33 : decode b_Mo_both 33 = .ok (.iload 4, 2) := by decide +kernel
theorem d_Mo_both_35 : decode b_Mo_both 35 = .ok (.isub, 1) := by decide +kernel
theorem d_Mo_both_36 : decode b_Mo_both 36 = .ok (.goto 4, 3) := by decide +kernel
theorem d_Mo_both_39 : decode b_Mo_both 39 = .ok (.iconst 0, 1) := by decide +kernel
theorem d_Mo_both_40 : decode b_Mo_both 40 = .ok (.ireturn, 1) := by decide +kernel
abbrev wl_Mo_both : va_W := []
def m_Mo_both (p0 : Int32) (p1 : Int32) (p2 : Int32) (p3 : Int32) : Option (Int32) :=
  bd1 (
    if p0 ≤ p2 then (
    some p2)
  else (
    some p0))
  fun (x4 : Int32) =>
  bd1 (
      if p3 ≤ p1 then (
      some p3)
    else (
      some p1))
    fun (x9 : Int32) =>
    bd1 (
        if x9 ≤ x4 then (
        some 0)
      else (
        some (x9 - x4)))
      fun (x14 : Int32) =>
      some x14

set_option maxHeartbeats 4000000 in
set_option maxRecDepth 100000 in
theorem t_Mo_both {p : Program} {l : Launch} {e : Env} {s : State} {m : MethodId} {args : Array Value} {below : List Frame} {meth : Method} {c : Code} {A : Nat → Prop} {Q : State → Prop} {dC : Nat → ClassId} {dI : Nat → Nat → Nat} {cI cZ cJ : ClassId}  (p0 : Int32) (p1 : Int32) (p2 : Int32) (p3 : Int32) (R0 : Int32) (hx : p.tables.exec = Jvm.exec) (hb : c.code = b_Mo_both) (hml : c.maxLocals = 6) (hown : s.vm.findClass "SpaceCyclesModel" = some m.cls) (hts : ∀ w ∈ w_Mo_both, w.before args s = true) (hK : va_K (dC, dI) vwCl [(cI, .int), (cZ, .boolean), (cJ, .long)] s) (hN : NX s) (hA : ∀ q : Nat, s.heap.size ≤ q → A q)
    (hret : ∀ (pc : Nat) (H : Heap) (locs : List Loc) (ls : Array Slot), decode b_Mo_both pc = .ok (.ireturn, 1) → va_P (dC, dI) vwCl (wl_Mo_both) H → va_D A (wl_Mo_both) → va_S A s.heap H locs → W p l e rm_Mo_both s m args below meth c H locs 0 0 Q (F0 m pc ls [.int R0]))
    (hm : m_Mo_both p0 p1 p2 p3 = some R0) : ∀ (H : Heap) (locs : List Loc) (ls : Array Slot), va_P (dC, dI) vwCl (wl_Mo_both) H → va_D A (wl_Mo_both) → va_S A s.heap H locs → lv_has ls 6 [(0, .int p0), (1, .int p1), (2, .int p2), (3, .int p3)] → W p l e rm_Mo_both s m args below meth c H locs 0 0 Q (F0 m 0 ls []) := by
  intro H locs ls hP hD hS hl
  unfold m_Mo_both at hm
  refine lv_iload_n hx hb d_Mo_both_0 rfl (lv_at hl 0 rfl) ?_
  refine lv_iload_n hx hb d_Mo_both_1 rfl (lv_at hl 2 rfl) ?_
  obtain ⟨x4, hb2, hm⟩ := bd1_e hm
  have K1 : ∀ (H : Heap) (locs : List Loc) (ls : Array Slot), va_P (dC, dI) vwCl (wl_Mo_both) H → va_D A (wl_Mo_both) → va_S A s.heap H locs → lv_has ls 6 [(1, .int p1), (3, .int p3)] → W p l e rm_Mo_both s m args below meth c H locs 0 0 Q (F0 m 10 ls [.int x4]) := by
    intro H locs ls hP hD hS hl
    refine lv_istore (lv' := [(4, .int x4), (1, .int p1), (3, .int p3)]) hx hb d_Mo_both_10 hl (by decide) rfl (fun ls hl => ?_)
    refine lv_iload_n hx hb d_Mo_both_12 rfl (lv_at hl 1 rfl) ?_
    refine lv_iload_n hx hb d_Mo_both_13 rfl (lv_at hl 2 rfl) ?_
    obtain ⟨x9, hb7, hm⟩ := bd1_e hm
    have K6 : ∀ (H : Heap) (locs : List Loc) (ls : Array Slot), va_P (dC, dI) vwCl (wl_Mo_both) H → va_D A (wl_Mo_both) → va_S A s.heap H locs → lv_has ls 6 [(4, .int x4)] → W p l e rm_Mo_both s m args below meth c H locs 0 0 Q (F0 m 22 ls [.int x9]) := by
      intro H locs ls hP hD hS hl
      refine lv_istore (lv' := [(5, .int x9), (4, .int x4)]) hx hb d_Mo_both_22 hl (by decide) rfl (fun ls hl => ?_)
      refine lv_iload hx hb d_Mo_both_24 (lv_at hl 0 rfl) ?_
      refine lv_iload hx hb d_Mo_both_26 (lv_at hl 1 rfl) ?_
      obtain ⟨x14, hb12, hm⟩ := bd1_e hm
      have K11 : ∀ (H : Heap) (locs : List Loc) (ls : Array Slot), va_P (dC, dI) vwCl (wl_Mo_both) H → va_D A (wl_Mo_both) → va_S A s.heap H locs → lv_has ls 6 [] → W p l e rm_Mo_both s m args below meth c H locs 0 0 Q (F0 m 40 ls [.int x14]) := by
        intro H locs ls hP hD hS hl
        cases hm
        exact hret _ H locs ls d_Mo_both_40 hP hD hS
      replace hm := hb12
      refine lv_icmp_le (tgt := 39) hx hb d_Mo_both_28 (by decide) (fun c15 => ?_) (fun c15 => ?_)
      · replace hm := if_t hm c15
        refine lv_iconst (v := 0) hx hb d_Mo_both_39 (by decide) ?_
        cases hm
        exact K11 H locs ls hP hD hS (lv_sub hl [] rfl)
      · replace hm := if_f hm c15
        refine lv_iload hx hb d_Mo_both_31 (lv_at hl 0 rfl) ?_
        refine lv_iload hx hb d_Mo_both_33 (lv_at hl 1 rfl) ?_
        refine lv_isub hx hb d_Mo_both_35 ?_
        refine lv_goto (tgt := 40) hx hb d_Mo_both_36 (by decide) ?_
        cases hm
        exact K11 H locs ls hP hD hS (lv_sub hl [] rfl)
    replace hm := hb7
    refine lv_icmp_ge (tgt := 21) hx hb d_Mo_both_14 (by decide) (fun c10 => ?_) (fun c10 => ?_)
    · replace hm := if_t hm c10
      refine lv_iload_n hx hb d_Mo_both_21 rfl (lv_at hl 2 rfl) ?_
      cases hm
      exact K6 H locs ls hP hD hS (lv_sub hl [0] rfl)
    · replace hm := if_f hm c10
      refine lv_iload_n hx hb d_Mo_both_17 rfl (lv_at hl 1 rfl) ?_
      refine lv_goto (tgt := 22) hx hb d_Mo_both_18 (by decide) ?_
      cases hm
      exact K6 H locs ls hP hD hS (lv_sub hl [0] rfl)
  replace hm := hb2
  refine lv_icmp_le (tgt := 9) hx hb d_Mo_both_2 (by decide) (fun c5 => ?_) (fun c5 => ?_)
  · replace hm := if_t hm c5
    refine lv_iload_n hx hb d_Mo_both_9 rfl (lv_at hl 2 rfl) ?_
    cases hm
    exact K1 H locs ls hP hD hS (lv_sub hl [1, 3] rfl)
  · replace hm := if_f hm c5
    refine lv_iload_n hx hb d_Mo_both_5 rfl (lv_at hl 0 rfl) ?_
    refine lv_goto (tgt := 10) hx hb d_Mo_both_6 (by decide) ?_
    cases hm
    exact K1 H locs ls hP hD hS (lv_sub hl [1, 3] rfl)
set_option maxHeartbeats 4000000 in
set_option maxRecDepth 100000 in
theorem c_Mo_both (l : Launch) (dC : Nat → ClassId) (dI : Nat → Nat → Nat) {cI cZ cJ : ClassId} (sz : Nat)  (p0 : Int32) (p1 : Int32) (p2 : Int32) (p3 : Int32) (R0 : Int32) (hm : m_Mo_both p0 p1 p2 p3 = some R0) : Met l y_Mo_both w_Mo_both rm_Mo_both (PP dC dI [(cI, .int), (cZ, .boolean), (cJ, .long)] [.int p0, .int p1, .int p2, .int p3] sz (wl_Mo_both)) (QI dC dI [(cI, .int), (cZ, .boolean), (cJ, .long)] sz (wl_Mo_both) (wl_Mo_both) R0) 0 0 (va_A (wl_Mo_both) sz) := by
  refine Met.ofW (cc := b_Mo_both) (maxL := 6) (ret := (some .int)) (by decide) rfl ?_
  intro p e s m args below meth c s₁ B hml hv
  obtain ⟨rfl, hsz, hP, hK, hD0, hN⟩ := hv
  subst hsz
  have hl := lv_entry ([.int p0, .int p1, .int p2, .int p3]) (n := 6) (Nat.le_of_ble_eq_true rfl)
  rw [lg_entry_eq]
  generalize (lg_sl ([.int p0, .int p1, .int p2, .int p3]) ++ List.replicate (6 - (lg_sl ([.int p0, .int p1, .int p2, .int p3])).length) Slot.unset).toArray = ls at hl ⊢
  exact t_Mo_both p0 p1 p2 p3 R0 B.exec B.bytes hml (findClass_of_methodNamed B.named) (atoms_spec (ws := w_Mo_both) B.pre) hK hN (fun q h => Or.inr h) (fun pc H locs ls hd hP9 hD9 hS => W.iret B.exec B.bytes B.returns (fun t ht hW => ⟨⟨_, (), rfl, rfl, by rw [ht]; exact hP9, va_K.moved hW.alike hK, hD9⟩, hS.F ht⟩) hS.2.2 hd) hm s.heap [] ls hP hD0.self va_S.rf hl

theorem k_372 : ((.fieldLink "SpaceCyclesModel" 232 "SpaceCyclesModel" "oldNy" "I") : Cond) ∈ gl := gl_i 1143 (by decide +kernel) (by decide +kernel)
theorem k_373 : ((.fieldLink "SpaceCyclesModel" 50 "SpaceCyclesModel" "oldLabels" "[I") : Cond) ∈ gl := gl_i 1144 (by decide +kernel) (by decide +kernel)
theorem k_374 : ((.fieldLink "SpaceCyclesModel" 63 "SpaceCyclesModel" "common" "[I") : Cond) ∈ gl := gl_i 1149 (by decide +kernel) (by decide +kernel)
theorem k_375 : ((.fieldLink "SpaceCyclesModel" 47 "SpaceCyclesModel" "oldYs" "[I") : Cond) ∈ gl := gl_i 1141 (by decide +kernel) (by decide +kernel)
theorem k_376 : ((.code ⟨"SpaceCyclesModel", "both", "(IIII)I"⟩ prog_13_method_27_code 6 (some .int)) : Cond) ∈ gl := gl_i 1393 (by decide +kernel) (by decide +kernel)
theorem k_377 : ((.static ⟨"SpaceCyclesModel", "both", "(IIII)I"⟩) : Cond) ∈ gl := gl_i 1392 (by decide +kernel) (by decide +kernel)
theorem k_378 : ((.methodLink "SpaceCyclesModel" 224 ⟨"SpaceCyclesModel", "both", "(IIII)I"⟩) : Cond) ∈ gl := gl_i 1391 (by decide +kernel) (by decide +kernel)
-- SpaceCyclesModel.compareColumns(III)V
abbrev b_Mo_compareColumns : ByteArray := prog_13_method_29_code
abbrev y_Mo_compareColumns : MethodName := ⟨"SpaceCyclesModel", "compareColumns", "(III)V"⟩
abbrev w_Mo_compareColumns : List Cond := Cond.code y_Mo_compareColumns b_Mo_compareColumns 8 none :: gl
abbrev rm_Mo_compareColumns : Room := { frames := 1, cells := 0, slots := 0, locals := 25 }
theorem d_Mo_compareColumns_0 : decode b_Mo_compareColumns 0 = .ok (.iconst 1, 1) := by decide +kernel
theorem d_Mo_compareColumns_1 : decode b_Mo_compareColumns 1 = .ok (.istore 4, 2) := by decide +kernel
theorem d_Mo_compareColumns_3 : decode b_Mo_compareColumns 3 = .ok (.iload 4, 2) := by decide +kernel
theorem d_Mo_compareColumns_5 : decode b_Mo_compareColumns 5 = .ok (.aload_n 0, 1) := by decide +kernel
theorem d_Mo_compareColumns_6 : decode b_Mo_compareColumns 6 = .ok (.getfield 232, 3) := by decide +kernel
theorem d_Mo_compareColumns_9 : decode b_Mo_compareColumns 9 = .ok (.if_icmp .ge 119, 3) := by decide +kernel
theorem d_Mo_compareColumns_12 : decode b_Mo_compareColumns 12 = .ok (.iconst 1, 1) := by decide +kernel
theorem d_Mo_compareColumns_13 : decode b_Mo_compareColumns 13 = .ok (.istore 5, 2) := by decide +kernel
theorem d_Mo_compareColumns_15 : decode b_Mo_compareColumns 15 = .ok (.iload 5, 2) := by decide +kernel
theorem d_Mo_compareColumns_17 : decode b_Mo_compareColumns 17 = .ok (.aload_n 0, 1) := by decide +kernel
theorem d_Mo_compareColumns_18 : decode b_Mo_compareColumns 18 = .ok (.getfield 160, 3) := by decide +kernel
theorem d_Mo_compareColumns_21 : decode b_Mo_compareColumns 21 = .ok (.if_icmp .ge 101, 3) := by decide +kernel
theorem d_Mo_compareColumns_24 : decode b_Mo_compareColumns 24 = .ok (.aload_n 0, 1) := by decide +kernel
theorem d_Mo_compareColumns_25 : decode b_Mo_compareColumns 25 = .ok (.getfield 50, 3) := by decide +kernel
theorem d_Mo_compareColumns_28 : decode b_Mo_compareColumns 28 = .ok (.bipush 42, 2) := by decide +kernel
theorem d_Mo_compareColumns_30 : decode b_Mo_compareColumns 30 = .ok (.iload_n 1, 1) := by decide +kernel
theorem d_Mo_compareColumns_31 : decode b_Mo_compareColumns 31 = .ok (.imul, 1) := by decide +kernel
theorem d_Mo_compareColumns_32 : decode b_Mo_compareColumns 32 = .ok (.iload 4, 2) := by decide +kernel
theorem d_Mo_compareColumns_34 : decode b_Mo_compareColumns 34 = .ok (.iadd, 1) := by decide +kernel
theorem d_Mo_compareColumns_35 : decode b_Mo_compareColumns 35 = .ok (.iaload, 1) := by decide +kernel
theorem d_Mo_compareColumns_36 : decode b_Mo_compareColumns 36 = .ok (.istore 6, 2) := by decide +kernel
theorem d_Mo_compareColumns_38 : decode b_Mo_compareColumns 38 = .ok (.aload_n 0, 1) := by decide +kernel
theorem d_Mo_compareColumns_39 : decode b_Mo_compareColumns 39 = .ok (.getfield 41, 3) := by decide +kernel
theorem d_Mo_compareColumns_42 : decode b_Mo_compareColumns 42 = .ok (.bipush 42, 2) := by decide +kernel
theorem d_Mo_compareColumns_44 : decode b_Mo_compareColumns 44 = .ok (.iload_n 2, 1) := by decide +kernel
theorem d_Mo_compareColumns_45 : decode b_Mo_compareColumns 45 = .ok (.imul, 1) := by decide +kernel
theorem d_Mo_compareColumns_46 : decode b_Mo_compareColumns 46 = .ok (.iload 5, 2) := by decide +kernel
theorem d_Mo_compareColumns_48 : decode b_Mo_compareColumns 48 = .ok (.iadd, 1) := by decide +kernel
theorem d_Mo_compareColumns_49 : decode b_Mo_compareColumns 49 = .ok (.iaload, 1) := by decide +kernel
theorem d_Mo_compareColumns_50 : decode b_Mo_compareColumns 50 = .ok (.istore 7, 2) := by decide +kernel
theorem d_Mo_compareColumns_52 : decode b_Mo_compareColumns 52 = .ok (.iload 6, 2) := by decide +kernel
theorem d_Mo_compareColumns_54 : decode b_Mo_compareColumns 54 = .ok (.ifCond .lt 62, 3) := by decide +kernel
theorem d_Mo_compareColumns_57 : decode b_Mo_compareColumns 57 = .ok (.iload 7, 2) := by decide +kernel
theorem d_Mo_compareColumns_59 : decode b_Mo_compareColumns 59 = .ok (.ifCond .lt 57, 3) := by decide +kernel
theorem d_Mo_compareColumns_62 : decode b_Mo_compareColumns 62 = .ok (.aload_n 0, 1) := by decide +kernel
theorem d_Mo_compareColumns_63 : decode b_Mo_compareColumns 63 = .ok (.getfield 63, 3) := by decide +kernel
theorem d_Mo_compareColumns_66 : decode b_Mo_compareColumns 66 = .ok (.sipush 200, 3) := by decide +kernel
theorem d_Mo_compareColumns_69 : decode b_Mo_compareColumns 69 = .ok (.iload 6, 2) := by decide +kernel
theorem d_Mo_compareColumns_71 : decode b_Mo_compareColumns 71 = .ok (.imul, 1) := by decide +kernel
theorem d_Mo_compareColumns_72 : decode b_Mo_compareColumns 72 = .ok (.iload 7, 2) := by decide +kernel
theorem d_Mo_compareColumns_74 : decode b_Mo_compareColumns 74 = .ok (.iadd, 1) := by decide +kernel
theorem d_Mo_compareColumns_75 : decode b_Mo_compareColumns 75 = .ok (.dup2, 1) := by decide +kernel
theorem d_Mo_compareColumns_76 : decode b_Mo_compareColumns 76 = .ok (.iaload, 1) := by decide +kernel
theorem d_Mo_compareColumns_77 : decode b_Mo_compareColumns 77 = .ok (.iload_n 3, 1) := by decide +kernel
theorem d_Mo_compareColumns_78 : decode b_Mo_compareColumns 78 = .ok (.aload_n 0, 1) := by decide +kernel
theorem d_Mo_compareColumns_79 : decode b_Mo_compareColumns 79 = .ok (.getfield 47, 3) := by decide +kernel
theorem d_Mo_compareColumns_82 : decode b_Mo_compareColumns 82 = .ok (.iload 4, 2) := by decide +kernel
theorem d_Mo_compareColumns_84 : decode b_Mo_compareColumns 84 = .ok (.iconst 1, 1) := by decide +kernel
theorem d_Mo_compareColumns_85 : decode b_Mo_compareColumns 85 = .ok (.isub, 1) := by decide +kernel
theorem d_Mo_compareColumns_86 : decode b_Mo_compareColumns 86 = .ok (.iaload, 1) := by decide +kernel
theorem d_Mo_compareColumns_87 : decode b_Mo_compareColumns 87 = .ok (.aload_n 0, 1) := by decide +kernel
theorem d_Mo_compareColumns_88 : decode b_Mo_compareColumns 88 = .ok (.getfield 47, 3) := by decide +kernel
theorem d_Mo_compareColumns_91 : decode b_Mo_compareColumns 91 = .ok (.iload 4, 2) := by decide +kernel
theorem d_Mo_compareColumns_93 : decode b_Mo_compareColumns 93 = .ok (.iaload, 1) := by decide +kernel
theorem d_Mo_compareColumns_94 : decode b_Mo_compareColumns 94 = .ok (.aload_n 0, 1) := by decide +kernel
theorem d_Mo_compareColumns_95 : decode b_Mo_compareColumns 95 = .ok (.getfield 38, 3) := by decide +kernel
theorem d_Mo_compareColumns_98 : decode b_Mo_compareColumns 98 = .ok (.iload 5, 2) := by decide +kernel
theorem d_Mo_compareColumns_100 : decode b_Mo_compareColumns 100 = .ok (.iconst 1, 1) := by decide +kernel
theorem d_Mo_compareColumns_101 : decode b_Mo_compareColumns 101 = .ok (.isub, 1) := by decide +kernel
theorem d_Mo_compareColumns_102 : decode b_Mo_compareColumns 102 = .ok (.iaload, 1) := by decide +kernel
theorem d_Mo_compareColumns_103 : decode b_Mo_compareColumns 103 = .ok (.aload_n 0, 1) := by decide +kernel
theorem d_Mo_compareColumns_104 : decode b_Mo_compareColumns 104 = .ok (.getfield 38, 3) := by decide +kernel
theorem d_Mo_compareColumns_107 : decode b_Mo_compareColumns 107 = .ok (.iload 5, 2) := by decide +kernel
theorem d_Mo_compareColumns_109 : decode b_Mo_compareColumns 109 = .ok (.iaload, 1) := by decide +kernel
theorem d_Mo_compareColumns_110 : decode b_Mo_compareColumns 110 = .ok (.invokestatic 224, 3) := by decide +kernel
theorem d_Mo_compareColumns_113 : decode b_Mo_compareColumns 113 = .ok (.imul, 1) := by decide +kernel
theorem d_Mo_compareColumns_114 : decode b_Mo_compareColumns 114 = .ok (.iadd, 1) := by decide +kernel
theorem d_Mo_compareColumns_115 : decode b_Mo_compareColumns 115 = .ok (.iastore, 1) := by decide +kernel
theorem d_Mo_compareColumns_116 : decode b_Mo_compareColumns 116 = .ok (.iinc 5 1, 3) := by decide +kernel
theorem d_Mo_compareColumns_119 : decode b_Mo_compareColumns 119 = .ok (.goto (-104), 3) := by decide +kernel
theorem d_Mo_compareColumns_122 : decode b_Mo_compareColumns 122 = .ok (.iinc 4 1, 3) := by decide +kernel
theorem d_Mo_compareColumns_125 : decode b_Mo_compareColumns 125 = .ok (.goto (-122), 3) := by decide +kernel
theorem d_Mo_compareColumns_128 : decode b_Mo_compareColumns 128 = .ok (.return_, 1) := by decide +kernel
abbrev wl_Mo_compareColumns (a_0 : Nat) (a_0_ys : Nat) (a_0_labels : Nat) (a_0_oldYs : Nat) (a_0_oldLabels : Nat) (a_0_common : Nat) (b_0_isFlat : Nat) (b_0_across : Nat) (b_0_lows : Nat) (b_0_highs : Nat) (b_0_thick : Nat) (b_0_doorCounts : Nat) (b_0_doorFrom : Nat) (b_0_doorTo : Nat) (b_0_xs : Nat) (b_0_oldXs : Nat) (b_0_names : Nat) (b_0_oldNames : Nat) (b_0_wanted : Nat) (b_0_flatEdges : Nat) (b_0_upEdges : Nat) (b_0_isPoint : Nat) (b_0_stack : Nat) (b_0_pieceLines : Nat) (b_0_pieceBegins : Nat) (b_0_pieceEnds : Nat) (b_0_pieceLeft : Nat) (b_0_pieceRight : Nat) (b_0_outs : Nat) (b_0_isSeen : Nat) (b_0_ringSpaces : Nat) (b_0_ringStarts : Nat) (b_0_ringSizes : Nat) (b_0_ringLeast : Nat) (b_0_looseLines : Nat) (b_0_looseXs : Nat) (b_0_looseYs : Nat) (b_0_looseReaches : Nat) (b_0_far : Nat) (cI : ClassId) (v_0_code : Int32) (v_0_lines : Int32) (v_0_isFresh : Int32) (v_0_hasRun : Int32) (v_0_runs : Int32) (v_0_nx : Int32) (v_0_ny : Int32) (v_0_spaces : Int32) (v_0_oldNx : Int32) (v_0_oldNy : Int32) (v_0_oldSpaces : Int32) (v_0_points : Int32) (v_0_pieces : Int32) (v_0_rings : Int32) (v_0_outsideSides : Int32) (v_0_looseCount : Int32) (f_0_ys : Nat → Int32) (f_0_labels : Nat → Int32) (f_0_oldYs : Nat → Int32) (f_0_oldLabels : Nat → Int32) (f_0_common : Nat → Int32) : va_W := [(a_0, .inr (11, [.int v_0_code, .ref b_0_isFlat, .ref b_0_across, .ref b_0_lows, .ref b_0_highs, .ref b_0_thick, .int v_0_lines, .ref b_0_doorCounts, .ref b_0_doorFrom, .ref b_0_doorTo, .int v_0_isFresh, .int v_0_hasRun, .int v_0_runs, .ref b_0_xs, .ref a_0_ys, .int v_0_nx, .int v_0_ny, .ref a_0_labels, .int v_0_spaces, .ref b_0_oldXs, .ref a_0_oldYs, .int v_0_oldNx, .int v_0_oldNy, .ref a_0_oldLabels, .int v_0_oldSpaces, .ref b_0_names, .ref b_0_oldNames, .ref b_0_wanted, .ref a_0_common, .ref b_0_flatEdges, .ref b_0_upEdges, .ref b_0_isPoint, .int v_0_points, .ref b_0_stack, .ref b_0_pieceLines, .ref b_0_pieceBegins, .ref b_0_pieceEnds, .ref b_0_pieceLeft, .ref b_0_pieceRight, .int v_0_pieces, .ref b_0_outs, .ref b_0_isSeen, .ref b_0_ringSpaces, .ref b_0_ringStarts, .ref b_0_ringSizes, .ref b_0_ringLeast, .int v_0_rings, .int v_0_outsideSides, .ref b_0_looseLines, .ref b_0_looseXs, .ref b_0_looseYs, .ref b_0_looseReaches, .int v_0_looseCount, .ref b_0_far])), (a_0_ys, .inl (cI, 42, .inl f_0_ys)), (a_0_labels, .inl (cI, 1764, .inl f_0_labels)), (a_0_oldYs, .inl (cI, 42, .inl f_0_oldYs)), (a_0_oldLabels, .inl (cI, 1764, .inl f_0_oldLabels)), (a_0_common, .inl (cI, 40000, .inl f_0_common))]
def m_Mo_compareColumns_L15 (l1 : Int32) (l2 : Int32) (l3 : Int32) (l4 : Int32) (v_0_ny : Int32) (f_0_ys : Nat → Int32) (f_0_labels : Nat → Int32) (f_0_oldYs : Nat → Int32) (f_0_oldLabels : Nat → Int32) : Nat → Int32 → (Nat → Int32) → Option ((Nat → Int32))
  | 0, _, _ => none
  | n + 1, l5, f_0_common =>
    if v_0_ny ≤ l5 then (
      some f_0_common)
    else (
      gI ((42 * l1) + l4) 1764 <|
      lt_ (f_0_oldLabels ((42 * l1) + l4).toNatClampNeg) fun x4 =>
      gI ((42 * l2) + l5) 1764 <|
      lt_ (f_0_labels ((42 * l2) + l5).toNatClampNeg) fun x6 =>
      bd1 (
        if x4 < 0 then (
        some f_0_common)
      else (
        if x6 < 0 then (
          some f_0_common)
        else (
          gI ((200 * x4) + x6) 40000 <|
          gI (l4 - 1) 42 <|
          gI l4 42 <|
          gI (l5 - 1) 42 <|
          gI l5 42 <|
          bd1 (m_Mo_both (f_0_oldYs (l4 - 1).toNatClampNeg) (f_0_oldYs l4.toNatClampNeg) (f_0_ys (l5 - 1).toNatClampNeg) (f_0_ys l5.toNatClampNeg)) fun r18 =>
          gI ((200 * x4) + x6) 40000 <|
          lt_ (upd f_0_common ((200 * x4) + x6).toNatClampNeg ((f_0_common ((200 * x4) + x6).toNatClampNeg) + (l3 * r18))) fun f21 =>
          some f21)))
      fun (f10 : Nat → Int32) =>
      lt_ (l5 + 1) fun x22 =>
        m_Mo_compareColumns_L15 l1 l2 l3 l4 v_0_ny f_0_ys f_0_labels f_0_oldYs f_0_oldLabels n x22 f10)

def m_Mo_compareColumns_L3 (l1 : Int32) (l2 : Int32) (l3 : Int32) (v_0_ny : Int32) (v_0_oldNy : Int32) (f_0_ys : Nat → Int32) (f_0_labels : Nat → Int32) (f_0_oldYs : Nat → Int32) (f_0_oldLabels : Nat → Int32) : Nat → Int32 → (Nat → Int32) → Option ((Nat → Int32))
  | 0, _, _ => none
  | n + 1, l4, f_0_common =>
    if v_0_oldNy ≤ l4 then (
      some f_0_common)
    else (
      bd1 (m_Mo_compareColumns_L15 l1 l2 l3 l4 v_0_ny f_0_ys f_0_labels f_0_oldYs f_0_oldLabels fu 1 f_0_common) fun f4 =>
      lt_ (l4 + 1) fun x28 =>
      m_Mo_compareColumns_L3 l1 l2 l3 v_0_ny v_0_oldNy f_0_ys f_0_labels f_0_oldYs f_0_oldLabels n x28 f4)
def m_Mo_compareColumns (p1 : Int32) (p2 : Int32) (p3 : Int32) (v_0_ny : Int32) (v_0_oldNy : Int32) (f_0_ys : Nat → Int32) (f_0_labels : Nat → Int32) (f_0_oldYs : Nat → Int32) (f_0_oldLabels : Nat → Int32) (f_0_common : Nat → Int32) : Option ((Nat → Int32)) :=
  bd1 (m_Mo_compareColumns_L3 p1 p2 p3 v_0_ny v_0_oldNy f_0_ys f_0_labels f_0_oldYs f_0_oldLabels fu 1 f_0_common) fun f3 =>
  some f3

set_option maxHeartbeats 4000000 in
set_option maxRecDepth 100000 in
theorem t_Mo_compareColumns {p : Program} {l : Launch} {e : Env} {s : State} {m : MethodId} {args : Array Value} {below : List Frame} {meth : Method} {c : Code} {A : Nat → Prop} {Q : State → Prop} {dC : Nat → ClassId} {dI : Nat → Nat → Nat} {cI cZ cJ : ClassId} (a_0 a_0_ys a_0_labels a_0_oldYs a_0_oldLabels a_0_common b_0_isFlat b_0_across b_0_lows b_0_highs b_0_thick b_0_doorCounts b_0_doorFrom b_0_doorTo b_0_xs b_0_oldXs b_0_names b_0_oldNames b_0_wanted b_0_flatEdges b_0_upEdges b_0_isPoint b_0_stack b_0_pieceLines b_0_pieceBegins b_0_pieceEnds b_0_pieceLeft b_0_pieceRight b_0_outs b_0_isSeen b_0_ringSpaces b_0_ringStarts b_0_ringSizes b_0_ringLeast b_0_looseLines b_0_looseXs b_0_looseYs b_0_looseReaches b_0_far : Nat) (v_0_code : Int32) (v_0_lines : Int32) (v_0_isFresh : Int32) (v_0_hasRun : Int32) (v_0_runs : Int32) (v_0_nx : Int32) (v_0_ny : Int32) (v_0_spaces : Int32) (v_0_oldNx : Int32) (v_0_oldNy : Int32) (v_0_oldSpaces : Int32) (v_0_points : Int32) (v_0_pieces : Int32) (v_0_rings : Int32) (v_0_outsideSides : Int32) (v_0_looseCount : Int32) (f_0_ys : Nat → Int32) (f_0_labels : Nat → Int32) (f_0_oldYs : Nat → Int32) (f_0_oldLabels : Nat → Int32) (f_0_common : Nat → Int32) (p1 : Int32) (p2 : Int32) (p3 : Int32) (of_0_common : Nat → Int32) (hx : p.tables.exec = Jvm.exec) (hb : c.code = b_Mo_compareColumns) (hml : c.maxLocals = 8) (hown : s.vm.findClass "SpaceCyclesModel" = some m.cls) (hts : ∀ w ∈ w_Mo_compareColumns, w.before args s = true) (hK : va_K (dC, dI) vwCl [(cI, .int), (cZ, .boolean), (cJ, .long)] s) (hN : NX s) (hA : ∀ q : Nat, s.heap.size ≤ q → A q)
    (hret : ∀ (pc : Nat) (H : Heap) (locs : List Loc) (ls : Array Slot), decode b_Mo_compareColumns pc = .ok (.return_, 1) → va_P (dC, dI) vwCl (wl_Mo_compareColumns a_0 a_0_ys a_0_labels a_0_oldYs a_0_oldLabels a_0_common b_0_isFlat b_0_across b_0_lows b_0_highs b_0_thick b_0_doorCounts b_0_doorFrom b_0_doorTo b_0_xs b_0_oldXs b_0_names b_0_oldNames b_0_wanted b_0_flatEdges b_0_upEdges b_0_isPoint b_0_stack b_0_pieceLines b_0_pieceBegins b_0_pieceEnds b_0_pieceLeft b_0_pieceRight b_0_outs b_0_isSeen b_0_ringSpaces b_0_ringStarts b_0_ringSizes b_0_ringLeast b_0_looseLines b_0_looseXs b_0_looseYs b_0_looseReaches b_0_far cI v_0_code v_0_lines v_0_isFresh v_0_hasRun v_0_runs v_0_nx v_0_ny v_0_spaces v_0_oldNx v_0_oldNy v_0_oldSpaces v_0_points v_0_pieces v_0_rings v_0_outsideSides v_0_looseCount f_0_ys f_0_labels f_0_oldYs f_0_oldLabels of_0_common) H → va_D A (wl_Mo_compareColumns a_0 a_0_ys a_0_labels a_0_oldYs a_0_oldLabels a_0_common b_0_isFlat b_0_across b_0_lows b_0_highs b_0_thick b_0_doorCounts b_0_doorFrom b_0_doorTo b_0_xs b_0_oldXs b_0_names b_0_oldNames b_0_wanted b_0_flatEdges b_0_upEdges b_0_isPoint b_0_stack b_0_pieceLines b_0_pieceBegins b_0_pieceEnds b_0_pieceLeft b_0_pieceRight b_0_outs b_0_isSeen b_0_ringSpaces b_0_ringStarts b_0_ringSizes b_0_ringLeast b_0_looseLines b_0_looseXs b_0_looseYs b_0_looseReaches b_0_far cI v_0_code v_0_lines v_0_isFresh v_0_hasRun v_0_runs v_0_nx v_0_ny v_0_spaces v_0_oldNx v_0_oldNy v_0_oldSpaces v_0_points v_0_pieces v_0_rings v_0_outsideSides v_0_looseCount f_0_ys f_0_labels f_0_oldYs f_0_oldLabels of_0_common) → va_S A s.heap H locs → W p l e rm_Mo_compareColumns s m args below meth c H locs 0 0 Q (F0 m pc ls []))
    (hm : m_Mo_compareColumns p1 p2 p3 v_0_ny v_0_oldNy f_0_ys f_0_labels f_0_oldYs f_0_oldLabels f_0_common = some of_0_common) : ∀ (H : Heap) (locs : List Loc) (ls : Array Slot), va_P (dC, dI) vwCl (wl_Mo_compareColumns a_0 a_0_ys a_0_labels a_0_oldYs a_0_oldLabels a_0_common b_0_isFlat b_0_across b_0_lows b_0_highs b_0_thick b_0_doorCounts b_0_doorFrom b_0_doorTo b_0_xs b_0_oldXs b_0_names b_0_oldNames b_0_wanted b_0_flatEdges b_0_upEdges b_0_isPoint b_0_stack b_0_pieceLines b_0_pieceBegins b_0_pieceEnds b_0_pieceLeft b_0_pieceRight b_0_outs b_0_isSeen b_0_ringSpaces b_0_ringStarts b_0_ringSizes b_0_ringLeast b_0_looseLines b_0_looseXs b_0_looseYs b_0_looseReaches b_0_far cI v_0_code v_0_lines v_0_isFresh v_0_hasRun v_0_runs v_0_nx v_0_ny v_0_spaces v_0_oldNx v_0_oldNy v_0_oldSpaces v_0_points v_0_pieces v_0_rings v_0_outsideSides v_0_looseCount f_0_ys f_0_labels f_0_oldYs f_0_oldLabels f_0_common) H → va_D A (wl_Mo_compareColumns a_0 a_0_ys a_0_labels a_0_oldYs a_0_oldLabels a_0_common b_0_isFlat b_0_across b_0_lows b_0_highs b_0_thick b_0_doorCounts b_0_doorFrom b_0_doorTo b_0_xs b_0_oldXs b_0_names b_0_oldNames b_0_wanted b_0_flatEdges b_0_upEdges b_0_isPoint b_0_stack b_0_pieceLines b_0_pieceBegins b_0_pieceEnds b_0_pieceLeft b_0_pieceRight b_0_outs b_0_isSeen b_0_ringSpaces b_0_ringStarts b_0_ringSizes b_0_ringLeast b_0_looseLines b_0_looseXs b_0_looseYs b_0_looseReaches b_0_far cI v_0_code v_0_lines v_0_isFresh v_0_hasRun v_0_runs v_0_nx v_0_ny v_0_spaces v_0_oldNx v_0_oldNy v_0_oldSpaces v_0_points v_0_pieces v_0_rings v_0_outsideSides v_0_looseCount f_0_ys f_0_labels f_0_oldYs f_0_oldLabels f_0_common) → va_S A s.heap H locs → lv_has ls 8 [(0, .ref a_0), (1, .int p1), (2, .int p2), (3, .int p3)] → W p l e rm_Mo_compareColumns s m args below meth c H locs 0 0 Q (F0 m 0 ls []) := by
  intro H locs ls hP hD hS hl
  unfold m_Mo_compareColumns at hm
  refine lv_iconst (v := 1) hx hb d_Mo_compareColumns_0 (by decide) ?_
  refine lv_istore (lv' := [(4, .int 1), (0, .ref a_0), (1, .int p1), (2, .int p2), (3, .int p3)]) hx hb d_Mo_compareColumns_1 hl (by decide) rfl (fun ls hl => ?_)
  have L3_4 : ∀ (n : Nat) (x1 : Int32) (f2 : Nat → Int32) (f3 : Nat → Int32), m_Mo_compareColumns_L3 p1 p2 p3 v_0_ny v_0_oldNy f_0_ys f_0_labels f_0_oldYs f_0_oldLabels n x1 f2 = some f3 → (∀ (H : Heap) (locs : List Loc) (ls : Array Slot), va_P (dC, dI) vwCl (wl_Mo_compareColumns a_0 a_0_ys a_0_labels a_0_oldYs a_0_oldLabels a_0_common b_0_isFlat b_0_across b_0_lows b_0_highs b_0_thick b_0_doorCounts b_0_doorFrom b_0_doorTo b_0_xs b_0_oldXs b_0_names b_0_oldNames b_0_wanted b_0_flatEdges b_0_upEdges b_0_isPoint b_0_stack b_0_pieceLines b_0_pieceBegins b_0_pieceEnds b_0_pieceLeft b_0_pieceRight b_0_outs b_0_isSeen b_0_ringSpaces b_0_ringStarts b_0_ringSizes b_0_ringLeast b_0_looseLines b_0_looseXs b_0_looseYs b_0_looseReaches b_0_far cI v_0_code v_0_lines v_0_isFresh v_0_hasRun v_0_runs v_0_nx v_0_ny v_0_spaces v_0_oldNx v_0_oldNy v_0_oldSpaces v_0_points v_0_pieces v_0_rings v_0_outsideSides v_0_looseCount f_0_ys f_0_labels f_0_oldYs f_0_oldLabels f3) H → va_D A (wl_Mo_compareColumns a_0 a_0_ys a_0_labels a_0_oldYs a_0_oldLabels a_0_common b_0_isFlat b_0_across b_0_lows b_0_highs b_0_thick b_0_doorCounts b_0_doorFrom b_0_doorTo b_0_xs b_0_oldXs b_0_names b_0_oldNames b_0_wanted b_0_flatEdges b_0_upEdges b_0_isPoint b_0_stack b_0_pieceLines b_0_pieceBegins b_0_pieceEnds b_0_pieceLeft b_0_pieceRight b_0_outs b_0_isSeen b_0_ringSpaces b_0_ringStarts b_0_ringSizes b_0_ringLeast b_0_looseLines b_0_looseXs b_0_looseYs b_0_looseReaches b_0_far cI v_0_code v_0_lines v_0_isFresh v_0_hasRun v_0_runs v_0_nx v_0_ny v_0_spaces v_0_oldNx v_0_oldNy v_0_oldSpaces v_0_points v_0_pieces v_0_rings v_0_outsideSides v_0_looseCount f_0_ys f_0_labels f_0_oldYs f_0_oldLabels f3) → va_S A s.heap H locs → lv_has ls 8 [] → W p l e rm_Mo_compareColumns s m args below meth c H locs 0 0 Q (F0 m 128 ls [])) → ∀ (H : Heap) (locs : List Loc) (ls : Array Slot), va_P (dC, dI) vwCl (wl_Mo_compareColumns a_0 a_0_ys a_0_labels a_0_oldYs a_0_oldLabels a_0_common b_0_isFlat b_0_across b_0_lows b_0_highs b_0_thick b_0_doorCounts b_0_doorFrom b_0_doorTo b_0_xs b_0_oldXs b_0_names b_0_oldNames b_0_wanted b_0_flatEdges b_0_upEdges b_0_isPoint b_0_stack b_0_pieceLines b_0_pieceBegins b_0_pieceEnds b_0_pieceLeft b_0_pieceRight b_0_outs b_0_isSeen b_0_ringSpaces b_0_ringStarts b_0_ringSizes b_0_ringLeast b_0_looseLines b_0_looseXs b_0_looseYs b_0_looseReaches b_0_far cI v_0_code v_0_lines v_0_isFresh v_0_hasRun v_0_runs v_0_nx v_0_ny v_0_spaces v_0_oldNx v_0_oldNy v_0_oldSpaces v_0_points v_0_pieces v_0_rings v_0_outsideSides v_0_looseCount f_0_ys f_0_labels f_0_oldYs f_0_oldLabels f2) H → va_D A (wl_Mo_compareColumns a_0 a_0_ys a_0_labels a_0_oldYs a_0_oldLabels a_0_common b_0_isFlat b_0_across b_0_lows b_0_highs b_0_thick b_0_doorCounts b_0_doorFrom b_0_doorTo b_0_xs b_0_oldXs b_0_names b_0_oldNames b_0_wanted b_0_flatEdges b_0_upEdges b_0_isPoint b_0_stack b_0_pieceLines b_0_pieceBegins b_0_pieceEnds b_0_pieceLeft b_0_pieceRight b_0_outs b_0_isSeen b_0_ringSpaces b_0_ringStarts b_0_ringSizes b_0_ringLeast b_0_looseLines b_0_looseXs b_0_looseYs b_0_looseReaches b_0_far cI v_0_code v_0_lines v_0_isFresh v_0_hasRun v_0_runs v_0_nx v_0_ny v_0_spaces v_0_oldNx v_0_oldNy v_0_oldSpaces v_0_points v_0_pieces v_0_rings v_0_outsideSides v_0_looseCount f_0_ys f_0_labels f_0_oldYs f_0_oldLabels f2) → va_S A s.heap H locs → lv_has ls 8 [(0, .ref a_0), (1, .int p1), (2, .int p2), (3, .int p3), (4, .int x1)] → W p l e rm_Mo_compareColumns s m args below meth c H locs 0 0 Q (F0 m 3 ls []) := by
    intro n
    induction n with
    | zero => intro x1 f2 f3 hm; simp [m_Mo_compareColumns_L3] at hm
    | succ n ih =>
      intro x1 f2 f3 hm KE H locs ls hP hD hS hl
      rw [m_Mo_compareColumns_L3] at hm
      refine lv_iload hx hb d_Mo_compareColumns_3 (lv_at hl 4 rfl) ?_
      refine lv_aload_n hx hb d_Mo_compareColumns_5 rfl (lv_at hl 0 rfl) ?_
      refine va_get (D := (dC, dI)) (ci := 11) (v := .int v_0_oldNy) (C := "SpaceCyclesModel") (T := F_Mo) (N := 54) hx hb hts (in_F i_Mo) hown hK hP 0 rfl rfl 22 (by decide) (hts _ (in_c k_372)) (fun _ h9 => h9) rfl d_Mo_compareColumns_6 ?_
      refine lv_icmp_ge (tgt := 128) hx hb d_Mo_compareColumns_9 (by decide) (fun c5 => ?_) (fun c5 => ?_)
      · replace hm := if_t hm c5
        cases hm
        exact KE H locs ls hP hD hS (lv_sub hl [] rfl)
      · replace hm := if_f hm c5
        refine lv_iconst (v := 1) hx hb d_Mo_compareColumns_12 (by decide) ?_
        refine lv_istore (lv' := [(5, .int 1), (0, .ref a_0), (1, .int p1), (2, .int p2), (3, .int p3), (4, .int x1)]) hx hb d_Mo_compareColumns_13 hl (by decide) rfl (fun ls hl => ?_)
        have L15_9 : ∀ (n : Nat) (x6 : Int32) (f7 : Nat → Int32) (f8 : Nat → Int32), m_Mo_compareColumns_L15 p1 p2 p3 x1 v_0_ny f_0_ys f_0_labels f_0_oldYs f_0_oldLabels n x6 f7 = some f8 → (∀ (H : Heap) (locs : List Loc) (ls : Array Slot), va_P (dC, dI) vwCl (wl_Mo_compareColumns a_0 a_0_ys a_0_labels a_0_oldYs a_0_oldLabels a_0_common b_0_isFlat b_0_across b_0_lows b_0_highs b_0_thick b_0_doorCounts b_0_doorFrom b_0_doorTo b_0_xs b_0_oldXs b_0_names b_0_oldNames b_0_wanted b_0_flatEdges b_0_upEdges b_0_isPoint b_0_stack b_0_pieceLines b_0_pieceBegins b_0_pieceEnds b_0_pieceLeft b_0_pieceRight b_0_outs b_0_isSeen b_0_ringSpaces b_0_ringStarts b_0_ringSizes b_0_ringLeast b_0_looseLines b_0_looseXs b_0_looseYs b_0_looseReaches b_0_far cI v_0_code v_0_lines v_0_isFresh v_0_hasRun v_0_runs v_0_nx v_0_ny v_0_spaces v_0_oldNx v_0_oldNy v_0_oldSpaces v_0_points v_0_pieces v_0_rings v_0_outsideSides v_0_looseCount f_0_ys f_0_labels f_0_oldYs f_0_oldLabels f8) H → va_D A (wl_Mo_compareColumns a_0 a_0_ys a_0_labels a_0_oldYs a_0_oldLabels a_0_common b_0_isFlat b_0_across b_0_lows b_0_highs b_0_thick b_0_doorCounts b_0_doorFrom b_0_doorTo b_0_xs b_0_oldXs b_0_names b_0_oldNames b_0_wanted b_0_flatEdges b_0_upEdges b_0_isPoint b_0_stack b_0_pieceLines b_0_pieceBegins b_0_pieceEnds b_0_pieceLeft b_0_pieceRight b_0_outs b_0_isSeen b_0_ringSpaces b_0_ringStarts b_0_ringSizes b_0_ringLeast b_0_looseLines b_0_looseXs b_0_looseYs b_0_looseReaches b_0_far cI v_0_code v_0_lines v_0_isFresh v_0_hasRun v_0_runs v_0_nx v_0_ny v_0_spaces v_0_oldNx v_0_oldNy v_0_oldSpaces v_0_points v_0_pieces v_0_rings v_0_outsideSides v_0_looseCount f_0_ys f_0_labels f_0_oldYs f_0_oldLabels f8) → va_S A s.heap H locs → lv_has ls 8 [(0, .ref a_0), (1, .int p1), (2, .int p2), (3, .int p3), (4, .int x1)] → W p l e rm_Mo_compareColumns s m args below meth c H locs 0 0 Q (F0 m 122 ls [])) → ∀ (H : Heap) (locs : List Loc) (ls : Array Slot), va_P (dC, dI) vwCl (wl_Mo_compareColumns a_0 a_0_ys a_0_labels a_0_oldYs a_0_oldLabels a_0_common b_0_isFlat b_0_across b_0_lows b_0_highs b_0_thick b_0_doorCounts b_0_doorFrom b_0_doorTo b_0_xs b_0_oldXs b_0_names b_0_oldNames b_0_wanted b_0_flatEdges b_0_upEdges b_0_isPoint b_0_stack b_0_pieceLines b_0_pieceBegins b_0_pieceEnds b_0_pieceLeft b_0_pieceRight b_0_outs b_0_isSeen b_0_ringSpaces b_0_ringStarts b_0_ringSizes b_0_ringLeast b_0_looseLines b_0_looseXs b_0_looseYs b_0_looseReaches b_0_far cI v_0_code v_0_lines v_0_isFresh v_0_hasRun v_0_runs v_0_nx v_0_ny v_0_spaces v_0_oldNx v_0_oldNy v_0_oldSpaces v_0_points v_0_pieces v_0_rings v_0_outsideSides v_0_looseCount f_0_ys f_0_labels f_0_oldYs f_0_oldLabels f7) H → va_D A (wl_Mo_compareColumns a_0 a_0_ys a_0_labels a_0_oldYs a_0_oldLabels a_0_common b_0_isFlat b_0_across b_0_lows b_0_highs b_0_thick b_0_doorCounts b_0_doorFrom b_0_doorTo b_0_xs b_0_oldXs b_0_names b_0_oldNames b_0_wanted b_0_flatEdges b_0_upEdges b_0_isPoint b_0_stack b_0_pieceLines b_0_pieceBegins b_0_pieceEnds b_0_pieceLeft b_0_pieceRight b_0_outs b_0_isSeen b_0_ringSpaces b_0_ringStarts b_0_ringSizes b_0_ringLeast b_0_looseLines b_0_looseXs b_0_looseYs b_0_looseReaches b_0_far cI v_0_code v_0_lines v_0_isFresh v_0_hasRun v_0_runs v_0_nx v_0_ny v_0_spaces v_0_oldNx v_0_oldNy v_0_oldSpaces v_0_points v_0_pieces v_0_rings v_0_outsideSides v_0_looseCount f_0_ys f_0_labels f_0_oldYs f_0_oldLabels f7) → va_S A s.heap H locs → lv_has ls 8 [(0, .ref a_0), (1, .int p1), (2, .int p2), (3, .int p3), (4, .int x1), (5, .int x6)] → W p l e rm_Mo_compareColumns s m args below meth c H locs 0 0 Q (F0 m 15 ls []) := by
          intro n
          induction n with
          | zero => intro x6 f7 f8 hm; simp [m_Mo_compareColumns_L15] at hm
          | succ n ih =>
            intro x6 f7 f8 hm KE H locs ls hP hD hS hl
            rw [m_Mo_compareColumns_L15] at hm
            refine lv_iload hx hb d_Mo_compareColumns_15 (lv_at hl 5 rfl) ?_
            refine lv_aload_n hx hb d_Mo_compareColumns_17 rfl (lv_at hl 0 rfl) ?_
            refine va_get (D := (dC, dI)) (ci := 11) (v := .int v_0_ny) (C := "SpaceCyclesModel") (T := F_Mo) (N := 54) hx hb hts (in_F i_Mo) hown hK hP 0 rfl rfl 16 (by decide) (hts _ (in_c k_301)) (fun _ h9 => h9) rfl d_Mo_compareColumns_18 ?_
            refine lv_icmp_ge (tgt := 122) hx hb d_Mo_compareColumns_21 (by decide) (fun c10 => ?_) (fun c10 => ?_)
            · replace hm := if_t hm c10
              cases hm
              exact KE H locs ls hP hD hS (lv_sub hl [0, 1, 2, 3, 4] rfl)
            · replace hm := if_f hm c10
              refine lv_aload_n hx hb d_Mo_compareColumns_24 rfl (lv_at hl 0 rfl) ?_
              refine va_get (D := (dC, dI)) (ci := 11) (v := .ref a_0_oldLabels) (C := "SpaceCyclesModel") (T := F_Mo) (N := 54) hx hb hts (in_F i_Mo) hown hK hP 0 rfl rfl 23 (by decide) (hts _ (in_c k_373)) (fun _ h9 => h9) rfl d_Mo_compareColumns_25 ?_
              refine lv_bipush (v := 42) hx hb d_Mo_compareColumns_28 (by decide) ?_
              refine lv_iload_n hx hb d_Mo_compareColumns_30 rfl (lv_at hl 1 rfl) ?_
              refine lv_imul hx hb d_Mo_compareColumns_31 ?_
              refine lv_iload hx hb d_Mo_compareColumns_32 (lv_at hl 4 rfl) ?_
              refine lv_iadd hx hb d_Mo_compareColumns_34 ?_
              obtain ⟨hi11, hm⟩ := gI_e hm
              refine va_iald hx hb hK hP 4 0 rfl rfl hi11 d_Mo_compareColumns_35 ?_
              refine lv_topi (fun x12 ex12 => ?_)
              replace hm := lt_el hm ex12
              refine lv_istore (lv' := [(6, .int x12), (0, .ref a_0), (1, .int p1), (2, .int p2), (3, .int p3), (4, .int x1), (5, .int x6)]) hx hb d_Mo_compareColumns_36 hl (by decide) rfl (fun ls hl => ?_)
              refine lv_aload_n hx hb d_Mo_compareColumns_38 rfl (lv_at hl 1 rfl) ?_
              refine va_get (D := (dC, dI)) (ci := 11) (v := .ref a_0_labels) (C := "SpaceCyclesModel") (T := F_Mo) (N := 54) hx hb hts (in_F i_Mo) hown hK hP 0 rfl rfl 17 (by decide) (hts _ (in_c k_319)) (fun _ h9 => h9) rfl d_Mo_compareColumns_39 ?_
              refine lv_bipush (v := 42) hx hb d_Mo_compareColumns_42 (by decide) ?_
              refine lv_iload_n hx hb d_Mo_compareColumns_44 rfl (lv_at hl 3 rfl) ?_
              refine lv_imul hx hb d_Mo_compareColumns_45 ?_
              refine lv_iload hx hb d_Mo_compareColumns_46 (lv_at hl 6 rfl) ?_
              refine lv_iadd hx hb d_Mo_compareColumns_48 ?_
              obtain ⟨hi13, hm⟩ := gI_e hm
              refine va_iald hx hb hK hP 2 0 rfl rfl hi13 d_Mo_compareColumns_49 ?_
              refine lv_topi (fun x14 ex14 => ?_)
              replace hm := lt_el hm ex14
              refine lv_istore (lv' := [(7, .int x14), (6, .int x12), (0, .ref a_0), (1, .int p1), (2, .int p2), (3, .int p3), (4, .int x1), (5, .int x6)]) hx hb d_Mo_compareColumns_50 hl (by decide) rfl (fun ls hl => ?_)
              refine lv_iload hx hb d_Mo_compareColumns_52 (lv_at hl 1 rfl) ?_
              obtain ⟨f18, hb16, hm⟩ := bd1_e hm
              have K15 : ∀ (H : Heap) (locs : List Loc) (ls : Array Slot), va_P (dC, dI) vwCl (wl_Mo_compareColumns a_0 a_0_ys a_0_labels a_0_oldYs a_0_oldLabels a_0_common b_0_isFlat b_0_across b_0_lows b_0_highs b_0_thick b_0_doorCounts b_0_doorFrom b_0_doorTo b_0_xs b_0_oldXs b_0_names b_0_oldNames b_0_wanted b_0_flatEdges b_0_upEdges b_0_isPoint b_0_stack b_0_pieceLines b_0_pieceBegins b_0_pieceEnds b_0_pieceLeft b_0_pieceRight b_0_outs b_0_isSeen b_0_ringSpaces b_0_ringStarts b_0_ringSizes b_0_ringLeast b_0_looseLines b_0_looseXs b_0_looseYs b_0_looseReaches b_0_far cI v_0_code v_0_lines v_0_isFresh v_0_hasRun v_0_runs v_0_nx v_0_ny v_0_spaces v_0_oldNx v_0_oldNy v_0_oldSpaces v_0_points v_0_pieces v_0_rings v_0_outsideSides v_0_looseCount f_0_ys f_0_labels f_0_oldYs f_0_oldLabels f18) H → va_D A (wl_Mo_compareColumns a_0 a_0_ys a_0_labels a_0_oldYs a_0_oldLabels a_0_common b_0_isFlat b_0_across b_0_lows b_0_highs b_0_thick b_0_doorCounts b_0_doorFrom b_0_doorTo b_0_xs b_0_oldXs b_0_names b_0_oldNames b_0_wanted b_0_flatEdges b_0_upEdges b_0_isPoint b_0_stack b_0_pieceLines b_0_pieceBegins b_0_pieceEnds b_0_pieceLeft b_0_pieceRight b_0_outs b_0_isSeen b_0_ringSpaces b_0_ringStarts b_0_ringSizes b_0_ringLeast b_0_looseLines b_0_looseXs b_0_looseYs b_0_looseReaches b_0_far cI v_0_code v_0_lines v_0_isFresh v_0_hasRun v_0_runs v_0_nx v_0_ny v_0_spaces v_0_oldNx v_0_oldNy v_0_oldSpaces v_0_points v_0_pieces v_0_rings v_0_outsideSides v_0_looseCount f_0_ys f_0_labels f_0_oldYs f_0_oldLabels f18) → va_S A s.heap H locs → lv_has ls 8 [(0, .ref a_0), (1, .int p1), (2, .int p2), (3, .int p3), (4, .int x1), (5, .int x6)] → W p l e rm_Mo_compareColumns s m args below meth c H locs 0 0 Q (F0 m 116 ls []) := by
                intro H locs ls hP hD hS hl
                obtain ⟨x30, ex30⟩ : ∃ y : Int32, y = x6 + 1 := ⟨_, rfl⟩
                replace hm := lt_el hm ex30
                refine lv_iinc (v := x30) (lv' := [(5, .int x30), (0, .ref a_0), (1, .int p1), (2, .int p2), (3, .int p3), (4, .int x1)]) hx hb d_Mo_compareColumns_116 hl (k := 5) rfl (by rw [ex30]; rfl) (by decide) rfl (fun ls hl => ?_)
                refine lv_goto (tgt := 15) hx hb d_Mo_compareColumns_119 (by decide) ?_
                exact ih _ _ _ hm KE H locs ls hP hD hS (lv_sub hl [1, 2, 3, 4, 5, 0] rfl)
              replace hm := hb16
              refine lv_if_lt (tgt := 116) hx hb d_Mo_compareColumns_54 (by decide) (fun c19 => ?_) (fun c19 => ?_)
              · replace hm := if_t hm c19
                cases hm
                exact K15 H locs ls hP hD hS (lv_sub hl [2, 3, 4, 5, 6, 7] rfl)
              · replace hm := if_f hm c19
                refine lv_iload hx hb d_Mo_compareColumns_57 (lv_at hl 0 rfl) ?_
                refine lv_if_lt (tgt := 116) hx hb d_Mo_compareColumns_59 (by decide) (fun c20 => ?_) (fun c20 => ?_)
                · replace hm := if_t hm c20
                  cases hm
                  exact K15 H locs ls hP hD hS (lv_sub hl [2, 3, 4, 5, 6, 7] rfl)
                · replace hm := if_f hm c20
                  refine lv_aload_n hx hb d_Mo_compareColumns_62 rfl (lv_at hl 2 rfl) ?_
                  refine va_get (D := (dC, dI)) (ci := 11) (v := .ref a_0_common) (C := "SpaceCyclesModel") (T := F_Mo) (N := 54) hx hb hts (in_F i_Mo) hown hK hP 0 rfl rfl 28 (by decide) (hts _ (in_c k_374)) (fun _ h9 => h9) rfl d_Mo_compareColumns_63 ?_
                  refine lv_sipush (v := 200) hx hb d_Mo_compareColumns_66 (by decide) ?_
                  refine lv_iload hx hb d_Mo_compareColumns_69 (lv_at hl 1 rfl) ?_
                  refine lv_imul hx hb d_Mo_compareColumns_71 ?_
                  refine lv_iload hx hb d_Mo_compareColumns_72 (lv_at hl 0 rfl) ?_
                  refine lv_iadd hx hb d_Mo_compareColumns_74 ?_
                  refine lv_dup2_11 hx hb d_Mo_compareColumns_75 rfl rfl ?_
                  obtain ⟨hi21, hm⟩ := gI_e hm
                  refine va_iald hx hb hK hP 5 0 rfl rfl hi21 d_Mo_compareColumns_76 ?_
                  refine lv_iload_n hx hb d_Mo_compareColumns_77 rfl (lv_at hl 5 rfl) ?_
                  refine lv_aload_n hx hb d_Mo_compareColumns_78 rfl (lv_at hl 2 rfl) ?_
                  refine va_get (D := (dC, dI)) (ci := 11) (v := .ref a_0_oldYs) (C := "SpaceCyclesModel") (T := F_Mo) (N := 54) hx hb hts (in_F i_Mo) hown hK hP 0 rfl rfl 20 (by decide) (hts _ (in_c k_375)) (fun _ h9 => h9) rfl d_Mo_compareColumns_79 ?_
                  refine lv_iload hx hb d_Mo_compareColumns_82 (lv_at hl 6 rfl) ?_
                  refine lv_iconst (v := 1) hx hb d_Mo_compareColumns_84 (by decide) ?_
                  refine lv_isub hx hb d_Mo_compareColumns_85 ?_
                  obtain ⟨hi22, hm⟩ := gI_e hm
                  refine va_iald hx hb hK hP 3 0 rfl rfl hi22 d_Mo_compareColumns_86 ?_
                  refine lv_aload_n hx hb d_Mo_compareColumns_87 rfl (lv_at hl 2 rfl) ?_
                  refine va_get (D := (dC, dI)) (ci := 11) (v := .ref a_0_oldYs) (C := "SpaceCyclesModel") (T := F_Mo) (N := 54) hx hb hts (in_F i_Mo) hown hK hP 0 rfl rfl 20 (by decide) (hts _ (in_c k_375)) (fun _ h9 => h9) rfl d_Mo_compareColumns_88 ?_
                  refine lv_iload hx hb d_Mo_compareColumns_91 (lv_at hl 6 rfl) ?_
                  obtain ⟨hi23, hm⟩ := gI_e hm
                  refine va_iald hx hb hK hP 3 0 rfl rfl hi23 d_Mo_compareColumns_93 ?_
                  refine lv_aload_n hx hb d_Mo_compareColumns_94 rfl (lv_at hl 2 rfl) ?_
                  refine va_get (D := (dC, dI)) (ci := 11) (v := .ref a_0_ys) (C := "SpaceCyclesModel") (T := F_Mo) (N := 54) hx hb hts (in_F i_Mo) hown hK hP 0 rfl rfl 14 (by decide) (hts _ (in_c k_306)) (fun _ h9 => h9) rfl d_Mo_compareColumns_95 ?_
                  refine lv_iload hx hb d_Mo_compareColumns_98 (lv_at hl 7 rfl) ?_
                  refine lv_iconst (v := 1) hx hb d_Mo_compareColumns_100 (by decide) ?_
                  refine lv_isub hx hb d_Mo_compareColumns_101 ?_
                  obtain ⟨hi24, hm⟩ := gI_e hm
                  refine va_iald hx hb hK hP 1 0 rfl rfl hi24 d_Mo_compareColumns_102 ?_
                  refine lv_aload_n hx hb d_Mo_compareColumns_103 rfl (lv_at hl 2 rfl) ?_
                  refine va_get (D := (dC, dI)) (ci := 11) (v := .ref a_0_ys) (C := "SpaceCyclesModel") (T := F_Mo) (N := 54) hx hb hts (in_F i_Mo) hown hK hP 0 rfl rfl 14 (by decide) (hts _ (in_c k_306)) (fun _ h9 => h9) rfl d_Mo_compareColumns_104 ?_
                  refine lv_iload hx hb d_Mo_compareColumns_107 (lv_at hl 7 rfl) ?_
                  obtain ⟨hi25, hm⟩ := gI_e hm
                  refine va_iald hx hb hK hP 1 0 rfl rfl hi25 d_Mo_compareColumns_109 ?_
                  obtain ⟨r26, hb27, hm⟩ := bd1_e hm
                  have hPc := hP.sub (ws' := (wl_Mo_both)) [] rfl
                  have hDc := hD.sub (ws' := (wl_Mo_both)) [] (by decide) rfl
                  refine cl_i (wc' := (wl_Mo_both)) (va_runS (As := [.int (f_0_oldYs (x1 - 1).toNatClampNeg), .int (f_0_oldYs x1.toNatClampNeg), .int (f_0_ys (x6 - 1).toNatClampNeg), .int (f_0_ys x6.toNatClampNeg)]) (rest := [.int p3, .int (f7 ((200 * x12) + x14).toNatClampNeg), .int ((200 * x12) + x14), .ref a_0_common]) ⟨hx, hb, hml, hown, hts⟩ (c_Mo_both l dC dI (cI := cI) (cZ := cZ) (cJ := cJ) H.size (f_0_oldYs (x1 - 1).toNatClampNeg) (f_0_oldYs x1.toNatClampNeg) (f_0_ys (x6 - 1).toNatClampNeg) (f_0_ys x6.toNatClampNeg) r26 hb27) (va_cwS 4 hts (gl_S k_378 k_377 k_277 k_376) rfl rfl rfl (by decide +kernel) ⟨Nat.le_of_ble_eq_true rfl, Nat.le_of_ble_eq_true rfl⟩) ⟨PP_blind, fun U hU hW => PP_at hK hN hPc hDc hU hW⟩ rfl rfl hl.1 rfl (lv_room (Nat.le_of_ble_eq_true rfl)) d_Mo_compareColumns_110 ⟨Nat.zero_le _, Nat.zero_le _⟩) hP hD hS hA [] [0, 1, 2, 3, 4, 5] rfl rfl (by decide) (by decide) (fun H locs hP hD hS => ?_)
                  have hP : va_P (dC, dI) vwCl (wl_Mo_compareColumns a_0 a_0_ys a_0_labels a_0_oldYs a_0_oldLabels a_0_common b_0_isFlat b_0_across b_0_lows b_0_highs b_0_thick b_0_doorCounts b_0_doorFrom b_0_doorTo b_0_xs b_0_oldXs b_0_names b_0_oldNames b_0_wanted b_0_flatEdges b_0_upEdges b_0_isPoint b_0_stack b_0_pieceLines b_0_pieceBegins b_0_pieceEnds b_0_pieceLeft b_0_pieceRight b_0_outs b_0_isSeen b_0_ringSpaces b_0_ringStarts b_0_ringSizes b_0_ringLeast b_0_looseLines b_0_looseXs b_0_looseYs b_0_looseReaches b_0_far cI v_0_code v_0_lines v_0_isFresh v_0_hasRun v_0_runs v_0_nx v_0_ny v_0_spaces v_0_oldNx v_0_oldNy v_0_oldSpaces v_0_points v_0_pieces v_0_rings v_0_outsideSides v_0_looseCount f_0_ys f_0_labels f_0_oldYs f_0_oldLabels f7) H := hP.sub [0, 1, 2, 3, 4, 5] rfl
                  have hD : va_D A (wl_Mo_compareColumns a_0 a_0_ys a_0_labels a_0_oldYs a_0_oldLabels a_0_common b_0_isFlat b_0_across b_0_lows b_0_highs b_0_thick b_0_doorCounts b_0_doorFrom b_0_doorTo b_0_xs b_0_oldXs b_0_names b_0_oldNames b_0_wanted b_0_flatEdges b_0_upEdges b_0_isPoint b_0_stack b_0_pieceLines b_0_pieceBegins b_0_pieceEnds b_0_pieceLeft b_0_pieceRight b_0_outs b_0_isSeen b_0_ringSpaces b_0_ringStarts b_0_ringSizes b_0_ringLeast b_0_looseLines b_0_looseXs b_0_looseYs b_0_looseReaches b_0_far cI v_0_code v_0_lines v_0_isFresh v_0_hasRun v_0_runs v_0_nx v_0_ny v_0_spaces v_0_oldNx v_0_oldNy v_0_oldSpaces v_0_points v_0_pieces v_0_rings v_0_outsideSides v_0_looseCount f_0_ys f_0_labels f_0_oldYs f_0_oldLabels f7) := hD.sub [0, 1, 2, 3, 4, 5] (by decide) rfl
                  refine lv_imul hx hb d_Mo_compareColumns_113 ?_
                  refine lv_iadd hx hb d_Mo_compareColumns_114 ?_
                  obtain ⟨hi28, hm⟩ := gI_e hm
                  obtain ⟨f29, ef29⟩ : ∃ y : Nat → Int32, y = upd f7 ((200 * x12) + x14).toNatClampNeg ((f7 ((200 * x12) + x14).toNatClampNeg) + (p3 * r26)) := ⟨_, rfl⟩
                  replace hm := lt_el hm ef29
                  refine va_iast hx hb hK hP hD hS 5 0 rfl rfl hi28 d_Mo_compareColumns_115 (fun H locs hP hD hS => ?_)
                  rw [← ef29] at hP hD
                  have hP : va_P (dC, dI) vwCl (wl_Mo_compareColumns a_0 a_0_ys a_0_labels a_0_oldYs a_0_oldLabels a_0_common b_0_isFlat b_0_across b_0_lows b_0_highs b_0_thick b_0_doorCounts b_0_doorFrom b_0_doorTo b_0_xs b_0_oldXs b_0_names b_0_oldNames b_0_wanted b_0_flatEdges b_0_upEdges b_0_isPoint b_0_stack b_0_pieceLines b_0_pieceBegins b_0_pieceEnds b_0_pieceLeft b_0_pieceRight b_0_outs b_0_isSeen b_0_ringSpaces b_0_ringStarts b_0_ringSizes b_0_ringLeast b_0_looseLines b_0_looseXs b_0_looseYs b_0_looseReaches b_0_far cI v_0_code v_0_lines v_0_isFresh v_0_hasRun v_0_runs v_0_nx v_0_ny v_0_spaces v_0_oldNx v_0_oldNy v_0_oldSpaces v_0_points v_0_pieces v_0_rings v_0_outsideSides v_0_looseCount f_0_ys f_0_labels f_0_oldYs f_0_oldLabels f29) H := hP
                  have hD : va_D A (wl_Mo_compareColumns a_0 a_0_ys a_0_labels a_0_oldYs a_0_oldLabels a_0_common b_0_isFlat b_0_across b_0_lows b_0_highs b_0_thick b_0_doorCounts b_0_doorFrom b_0_doorTo b_0_xs b_0_oldXs b_0_names b_0_oldNames b_0_wanted b_0_flatEdges b_0_upEdges b_0_isPoint b_0_stack b_0_pieceLines b_0_pieceBegins b_0_pieceEnds b_0_pieceLeft b_0_pieceRight b_0_outs b_0_isSeen b_0_ringSpaces b_0_ringStarts b_0_ringSizes b_0_ringLeast b_0_looseLines b_0_looseXs b_0_looseYs b_0_looseReaches b_0_far cI v_0_code v_0_lines v_0_isFresh v_0_hasRun v_0_runs v_0_nx v_0_ny v_0_spaces v_0_oldNx v_0_oldNy v_0_oldSpaces v_0_points v_0_pieces v_0_rings v_0_outsideSides v_0_looseCount f_0_ys f_0_labels f_0_oldYs f_0_oldLabels f29) := hD
                  cases hm
                  exact K15 H locs ls hP hD hS (lv_sub hl [2, 3, 4, 5, 6, 7] rfl)
        obtain ⟨f8, hb31, hm⟩ := bd1_e hm
        refine L15_9 fu _ _ _ hb31 (fun H locs ls hP hD hS hl => ?_) H locs ls hP hD hS (lv_sub hl [1, 2, 3, 4, 5, 0] rfl)
        obtain ⟨x32, ex32⟩ : ∃ y : Int32, y = x1 + 1 := ⟨_, rfl⟩
        replace hm := lt_el hm ex32
        refine lv_iinc (v := x32) (lv' := [(4, .int x32), (0, .ref a_0), (1, .int p1), (2, .int p2), (3, .int p3)]) hx hb d_Mo_compareColumns_122 hl (k := 4) rfl (by rw [ex32]; rfl) (by decide) rfl (fun ls hl => ?_)
        refine lv_goto (tgt := 3) hx hb d_Mo_compareColumns_125 (by decide) ?_
        exact ih _ _ _ hm KE H locs ls hP hD hS (lv_sub hl [1, 2, 3, 4, 0] rfl)
  obtain ⟨f3, hb33, hm⟩ := bd1_e hm
  refine L3_4 fu _ _ _ hb33 (fun H locs ls hP hD hS hl => ?_) H locs ls hP hD hS (lv_sub hl [1, 2, 3, 4, 0] rfl)
  cases hm
  exact hret _ H locs ls d_Mo_compareColumns_128 hP hD hS
set_option maxHeartbeats 4000000 in
set_option maxRecDepth 100000 in
theorem c_Mo_compareColumns (l : Launch) (dC : Nat → ClassId) (dI : Nat → Nat → Nat) {cI cZ cJ : ClassId} (a_0 a_0_ys a_0_labels a_0_oldYs a_0_oldLabels a_0_common b_0_isFlat b_0_across b_0_lows b_0_highs b_0_thick b_0_doorCounts b_0_doorFrom b_0_doorTo b_0_xs b_0_oldXs b_0_names b_0_oldNames b_0_wanted b_0_flatEdges b_0_upEdges b_0_isPoint b_0_stack b_0_pieceLines b_0_pieceBegins b_0_pieceEnds b_0_pieceLeft b_0_pieceRight b_0_outs b_0_isSeen b_0_ringSpaces b_0_ringStarts b_0_ringSizes b_0_ringLeast b_0_looseLines b_0_looseXs b_0_looseYs b_0_looseReaches b_0_far : Nat) (sz : Nat) (v_0_code : Int32) (v_0_lines : Int32) (v_0_isFresh : Int32) (v_0_hasRun : Int32) (v_0_runs : Int32) (v_0_nx : Int32) (v_0_ny : Int32) (v_0_spaces : Int32) (v_0_oldNx : Int32) (v_0_oldNy : Int32) (v_0_oldSpaces : Int32) (v_0_points : Int32) (v_0_pieces : Int32) (v_0_rings : Int32) (v_0_outsideSides : Int32) (v_0_looseCount : Int32) (f_0_ys : Nat → Int32) (f_0_labels : Nat → Int32) (f_0_oldYs : Nat → Int32) (f_0_oldLabels : Nat → Int32) (f_0_common : Nat → Int32) (p1 : Int32) (p2 : Int32) (p3 : Int32) (of_0_common : Nat → Int32) (hm : m_Mo_compareColumns p1 p2 p3 v_0_ny v_0_oldNy f_0_ys f_0_labels f_0_oldYs f_0_oldLabels f_0_common = some of_0_common) : Met l y_Mo_compareColumns w_Mo_compareColumns rm_Mo_compareColumns (PP dC dI [(cI, .int), (cZ, .boolean), (cJ, .long)] [.ref a_0, .int p1, .int p2, .int p3] sz (wl_Mo_compareColumns a_0 a_0_ys a_0_labels a_0_oldYs a_0_oldLabels a_0_common b_0_isFlat b_0_across b_0_lows b_0_highs b_0_thick b_0_doorCounts b_0_doorFrom b_0_doorTo b_0_xs b_0_oldXs b_0_names b_0_oldNames b_0_wanted b_0_flatEdges b_0_upEdges b_0_isPoint b_0_stack b_0_pieceLines b_0_pieceBegins b_0_pieceEnds b_0_pieceLeft b_0_pieceRight b_0_outs b_0_isSeen b_0_ringSpaces b_0_ringStarts b_0_ringSizes b_0_ringLeast b_0_looseLines b_0_looseXs b_0_looseYs b_0_looseReaches b_0_far cI v_0_code v_0_lines v_0_isFresh v_0_hasRun v_0_runs v_0_nx v_0_ny v_0_spaces v_0_oldNx v_0_oldNy v_0_oldSpaces v_0_points v_0_pieces v_0_rings v_0_outsideSides v_0_looseCount f_0_ys f_0_labels f_0_oldYs f_0_oldLabels f_0_common)) (QV dC dI [(cI, .int), (cZ, .boolean), (cJ, .long)] sz (wl_Mo_compareColumns a_0 a_0_ys a_0_labels a_0_oldYs a_0_oldLabels a_0_common b_0_isFlat b_0_across b_0_lows b_0_highs b_0_thick b_0_doorCounts b_0_doorFrom b_0_doorTo b_0_xs b_0_oldXs b_0_names b_0_oldNames b_0_wanted b_0_flatEdges b_0_upEdges b_0_isPoint b_0_stack b_0_pieceLines b_0_pieceBegins b_0_pieceEnds b_0_pieceLeft b_0_pieceRight b_0_outs b_0_isSeen b_0_ringSpaces b_0_ringStarts b_0_ringSizes b_0_ringLeast b_0_looseLines b_0_looseXs b_0_looseYs b_0_looseReaches b_0_far cI v_0_code v_0_lines v_0_isFresh v_0_hasRun v_0_runs v_0_nx v_0_ny v_0_spaces v_0_oldNx v_0_oldNy v_0_oldSpaces v_0_points v_0_pieces v_0_rings v_0_outsideSides v_0_looseCount f_0_ys f_0_labels f_0_oldYs f_0_oldLabels f_0_common) (wl_Mo_compareColumns a_0 a_0_ys a_0_labels a_0_oldYs a_0_oldLabels a_0_common b_0_isFlat b_0_across b_0_lows b_0_highs b_0_thick b_0_doorCounts b_0_doorFrom b_0_doorTo b_0_xs b_0_oldXs b_0_names b_0_oldNames b_0_wanted b_0_flatEdges b_0_upEdges b_0_isPoint b_0_stack b_0_pieceLines b_0_pieceBegins b_0_pieceEnds b_0_pieceLeft b_0_pieceRight b_0_outs b_0_isSeen b_0_ringSpaces b_0_ringStarts b_0_ringSizes b_0_ringLeast b_0_looseLines b_0_looseXs b_0_looseYs b_0_looseReaches b_0_far cI v_0_code v_0_lines v_0_isFresh v_0_hasRun v_0_runs v_0_nx v_0_ny v_0_spaces v_0_oldNx v_0_oldNy v_0_oldSpaces v_0_points v_0_pieces v_0_rings v_0_outsideSides v_0_looseCount f_0_ys f_0_labels f_0_oldYs f_0_oldLabels of_0_common)) 0 0 (va_A (wl_Mo_compareColumns a_0 a_0_ys a_0_labels a_0_oldYs a_0_oldLabels a_0_common b_0_isFlat b_0_across b_0_lows b_0_highs b_0_thick b_0_doorCounts b_0_doorFrom b_0_doorTo b_0_xs b_0_oldXs b_0_names b_0_oldNames b_0_wanted b_0_flatEdges b_0_upEdges b_0_isPoint b_0_stack b_0_pieceLines b_0_pieceBegins b_0_pieceEnds b_0_pieceLeft b_0_pieceRight b_0_outs b_0_isSeen b_0_ringSpaces b_0_ringStarts b_0_ringSizes b_0_ringLeast b_0_looseLines b_0_looseXs b_0_looseYs b_0_looseReaches b_0_far cI v_0_code v_0_lines v_0_isFresh v_0_hasRun v_0_runs v_0_nx v_0_ny v_0_spaces v_0_oldNx v_0_oldNy v_0_oldSpaces v_0_points v_0_pieces v_0_rings v_0_outsideSides v_0_looseCount f_0_ys f_0_labels f_0_oldYs f_0_oldLabels f_0_common) sz) := by
  refine Met.ofW (cc := b_Mo_compareColumns) (maxL := 8) (ret := none) (by decide) rfl ?_
  intro p e s m args below meth c s₁ B hml hv
  obtain ⟨rfl, hsz, hP, hK, hD0, hN⟩ := hv
  subst hsz
  have hl := lv_entry ([.ref a_0, .int p1, .int p2, .int p3]) (n := 8) (Nat.le_of_ble_eq_true rfl)
  rw [lg_entry_eq]
  generalize (lg_sl ([.ref a_0, .int p1, .int p2, .int p3]) ++ List.replicate (8 - (lg_sl ([.ref a_0, .int p1, .int p2, .int p3])).length) Slot.unset).toArray = ls at hl ⊢
  exact t_Mo_compareColumns a_0 a_0_ys a_0_labels a_0_oldYs a_0_oldLabels a_0_common b_0_isFlat b_0_across b_0_lows b_0_highs b_0_thick b_0_doorCounts b_0_doorFrom b_0_doorTo b_0_xs b_0_oldXs b_0_names b_0_oldNames b_0_wanted b_0_flatEdges b_0_upEdges b_0_isPoint b_0_stack b_0_pieceLines b_0_pieceBegins b_0_pieceEnds b_0_pieceLeft b_0_pieceRight b_0_outs b_0_isSeen b_0_ringSpaces b_0_ringStarts b_0_ringSizes b_0_ringLeast b_0_looseLines b_0_looseXs b_0_looseYs b_0_looseReaches b_0_far v_0_code v_0_lines v_0_isFresh v_0_hasRun v_0_runs v_0_nx v_0_ny v_0_spaces v_0_oldNx v_0_oldNy v_0_oldSpaces v_0_points v_0_pieces v_0_rings v_0_outsideSides v_0_looseCount f_0_ys f_0_labels f_0_oldYs f_0_oldLabels f_0_common p1 p2 p3 of_0_common B.exec B.bytes hml (findClass_of_methodNamed B.named) (atoms_spec (ws := w_Mo_compareColumns) B.pre) hK hN (fun q h => Or.inr h) (fun pc H locs ls hd hP9 hD9 hS => W.vret B.exec B.bytes B.returns (fun t ht hW => ⟨⟨(), rfl, trivial, by rw [ht]; exact hP9, va_K.moved hW.alike hK, hD9⟩, hS.F ht⟩) hS.2.2 hd) hm s.heap [] ls hP hD0.self va_S.rf hl
