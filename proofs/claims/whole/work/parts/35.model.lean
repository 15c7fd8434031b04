-- SpaceCyclesModel.isAny(I)Z
abbrev b_Mo_isAny : ByteArray := prog_13_method_47_code
abbrev y_Mo_isAny : MethodName := ⟨"SpaceCyclesModel", "isAny", "(I)Z"⟩
abbrev w_Mo_isAny : List Cond := Cond.code y_Mo_isAny b_Mo_isAny 2 (some .boolean) :: gl
abbrev rm_Mo_isAny : Room := { frames := 2, cells := 0, slots := 0, locals := 46 }
theorem d_Mo_isAny_0 : decode b_Mo_isAny 0 = .ok (.iload_n 1, 1) := by decide +kernel
theorem d_Mo_isAny_1 : decode b_Mo_isAny 1 = .ok (.iconst (-1), 1) := by decide +kernel
theorem d_Mo_isAny_2 : decode b_Mo_isAny 2 = .ok (.if_icmp .eq 11, 3) := by decide +kernel
theorem d_Mo_isAny_5 : decode b_Mo_isAny 5 = .ok (.aload_n 0, 1) := by decide +kernel
theorem d_Mo_isAny_6 : decode b_Mo_isAny 6 = .ok (.iload_n 1, 1) := by decide +kernel
theorem d_Mo_isAny_7 : decode b_Mo_isAny 7 = .ok (.invokevirtual 275, 3) := by decide +kernel
theorem d_Mo_isAny_10 : decode b_Mo_isAny 10 = .ok (.ifCond .eq 7, 3) := by decide +kernel
theorem d_Mo_isAny_13 : decode b_Mo_isAny 13 = .ok (.iconst 1, 1) := by decide +kernel
theorem d_Mo_isAny_14 : decode b_Mo_isAny 14 = .ok (.goto 4, 3) := by decide +kernel
theorem d_Mo_isAny_17 : decode b_Mo_isAny 17 = .ok (.iconst 0, 1) := by decide +kernel
theorem d_Mo_isAny_18 : decode b_Mo_isAny 18 = .ok (.ireturn, 1) := by decide +kernel
abbrev wl_Mo_isAny (a_0 : Nat) (b_0_isFlat : Nat) (b_0_across : Nat) (b_0_lows : Nat) (b_0_highs : Nat) (b_0_thick : Nat) (b_0_doorCounts : Nat) (b_0_doorFrom : Nat) (b_0_doorTo : Nat) (b_0_xs : Nat) (b_0_ys : Nat) (b_0_labels : Nat) (b_0_oldXs : Nat) (b_0_oldYs : Nat) (b_0_oldLabels : Nat) (b_0_names : Nat) (b_0_oldNames : Nat) (b_0_wanted : Nat) (b_0_common : Nat) (b_0_flatEdges : Nat) (b_0_upEdges : Nat) (b_0_isPoint : Nat) (b_0_stack : Nat) (b_0_pieceLines : Nat) (b_0_pieceBegins : Nat) (b_0_pieceEnds : Nat) (b_0_pieceLeft : Nat) (b_0_pieceRight : Nat) (b_0_outs : Nat) (b_0_isSeen : Nat) (b_0_ringSpaces : Nat) (b_0_ringStarts : Nat) (b_0_ringSizes : Nat) (b_0_ringLeast : Nat) (b_0_looseLines : Nat) (b_0_looseXs : Nat) (b_0_looseYs : Nat) (b_0_looseReaches : Nat) (b_0_far : Nat) (v_0_code : Int32) (v_0_lines : Int32) (v_0_isFresh : Int32) (v_0_hasRun : Int32) (v_0_runs : Int32) (v_0_nx : Int32) (v_0_ny : Int32) (v_0_spaces : Int32) (v_0_oldNx : Int32) (v_0_oldNy : Int32) (v_0_oldSpaces : Int32) (v_0_points : Int32) (v_0_pieces : Int32) (v_0_rings : Int32) (v_0_outsideSides : Int32) (v_0_looseCount : Int32) : va_W := [(a_0, .inr (11, [.int v_0_code, .ref b_0_isFlat, .ref b_0_across, .ref b_0_lows, .ref b_0_highs, .ref b_0_thick, .int v_0_lines, .ref b_0_doorCounts, .ref b_0_doorFrom, .ref b_0_doorTo, .int v_0_isFresh, .int v_0_hasRun, .int v_0_runs, .ref b_0_xs, .ref b_0_ys, .int v_0_nx, .int v_0_ny, .ref b_0_labels, .int v_0_spaces, .ref b_0_oldXs, .ref b_0_oldYs, .int v_0_oldNx, .int v_0_oldNy, .ref b_0_oldLabels, .int v_0_oldSpaces, .ref b_0_names, .ref b_0_oldNames, .ref b_0_wanted, .ref b_0_common, .ref b_0_flatEdges, .ref b_0_upEdges, .ref b_0_isPoint, .int v_0_points, .ref b_0_stack, .ref b_0_pieceLines, .ref b_0_pieceBegins, .ref b_0_pieceEnds, .ref b_0_pieceLeft, .ref b_0_pieceRight, .int v_0_pieces, .ref b_0_outs, .ref b_0_isSeen, .ref b_0_ringSpaces, .ref b_0_ringStarts, .ref b_0_ringSizes, .ref b_0_ringLeast, .int v_0_rings, .int v_0_outsideSides, .ref b_0_looseLines, .ref b_0_looseXs, .ref b_0_looseYs, .ref b_0_looseReaches, .int v_0_looseCount, .ref b_0_far]))]
def m_Mo_isAny (p1 : Int32) (v_0_spaces : Int32) : Option (Int32) :=
  bd1 (
    if p1 = (-1) then (
    some 1)
  else (
    bd1 (m_Mo_isSpace p1 v_0_spaces) fun r6 =>
    if r6 = 0 then (
      some 0)
    else (
      some 1)))
  fun (x4 : Int32) =>
  gB x4 <|
    some x4

set_option maxHeartbeats 4000000 in
set_option maxRecDepth 100000 in
theorem t_Mo_isAny {p : Program} {l : Launch} {e : Env} {s : State} {m : MethodId} {args : Array Value} {below : List Frame} {meth : Method} {c : Code} {A : Nat → Prop} {Q : State → Prop} {dC : Nat → ClassId} {dI : Nat → Nat → Nat} {cI cZ cJ : ClassId} (a_0 b_0_isFlat b_0_across b_0_lows b_0_highs b_0_thick b_0_doorCounts b_0_doorFrom b_0_doorTo b_0_xs b_0_ys b_0_labels b_0_oldXs b_0_oldYs b_0_oldLabels b_0_names b_0_oldNames b_0_wanted b_0_common b_0_flatEdges b_0_upEdges b_0_isPoint b_0_stack b_0_pieceLines b_0_pieceBegins b_0_pieceEnds b_0_pieceLeft b_0_pieceRight b_0_outs b_0_isSeen b_0_ringSpaces b_0_ringStarts b_0_ringSizes b_0_ringLeast b_0_looseLines b_0_looseXs b_0_looseYs b_0_looseReaches b_0_far : Nat) (v_0_code : Int32) (v_0_lines : Int32) (v_0_isFresh : Int32) (v_0_hasRun : Int32) (v_0_runs : Int32) (v_0_nx : Int32) (v_0_ny : Int32) (v_0_spaces : Int32) (v_0_oldNx : Int32) (v_0_oldNy : Int32) (v_0_oldSpaces : Int32) (v_0_points : Int32) (v_0_pieces : Int32) (v_0_rings : Int32) (v_0_outsideSides : Int32) (v_0_looseCount : Int32) (p1 : Int32) (R0 : Int32) (hx : p.tables.exec = Jvm.exec) (hb : c.code = b_Mo_isAny) (hml : c.maxLocals = 2) (hown : s.vm.findClass "SpaceCyclesModel" = some m.cls) (hts : ∀ w ∈ w_Mo_isAny, w.before args s = true) (hK : va_K (dC, dI) vwCl [(cI, .int), (cZ, .boolean), (cJ, .long)] s) (hN : NX s) (hA : ∀ q : Nat, s.heap.size ≤ q → A q)
    (hret : ∀ (pc : Nat) (H : Heap) (locs : List Loc) (ls : Array Slot), decode b_Mo_isAny pc = .ok (.ireturn, 1) → (R0 = 0 ∨ R0 = 1) → va_P (dC, dI) vwCl (wl_Mo_isAny a_0 b_0_isFlat b_0_across b_0_lows b_0_highs b_0_thick b_0_doorCounts b_0_doorFrom b_0_doorTo b_0_xs b_0_ys b_0_labels b_0_oldXs b_0_oldYs b_0_oldLabels b_0_names b_0_oldNames b_0_wanted b_0_common b_0_flatEdges b_0_upEdges b_0_isPoint b_0_stack b_0_pieceLines b_0_pieceBegins b_0_pieceEnds b_0_pieceLeft b_0_pieceRight b_0_outs b_0_isSeen b_0_ringSpaces b_0_ringStarts b_0_ringSizes b_0_ringLeast b_0_looseLines b_0_looseXs b_0_looseYs b_0_looseReaches b_0_far v_0_code v_0_lines v_0_isFresh v_0_hasRun v_0_runs v_0_nx v_0_ny v_0_spaces v_0_oldNx v_0_oldNy v_0_oldSpaces v_0_points v_0_pieces v_0_rings v_0_outsideSides v_0_looseCount) H → va_D A (wl_Mo_isAny a_0 b_0_isFlat b_0_across b_0_lows b_0_highs b_0_thick b_0_doorCounts b_0_doorFrom b_0_doorTo b_0_xs b_0_ys b_0_labels b_0_oldXs b_0_oldYs b_0_oldLabels b_0_names b_0_oldNames b_0_wanted b_0_common b_0_flatEdges b_0_upEdges b_0_isPoint b_0_stack b_0_pieceLines b_0_pieceBegins b_0_pieceEnds b_0_pieceLeft b_0_pieceRight b_0_outs b_0_isSeen b_0_ringSpaces b_0_ringStarts b_0_ringSizes b_0_ringLeast b_0_looseLines b_0_looseXs b_0_looseYs b_0_looseReaches b_0_far v_0_code v_0_lines v_0_isFresh v_0_hasRun v_0_runs v_0_nx v_0_ny v_0_spaces v_0_oldNx v_0_oldNy v_0_oldSpaces v_0_points v_0_pieces v_0_rings v_0_outsideSides v_0_looseCount) → va_S A s.heap H locs → W p l e rm_Mo_isAny s m args below meth c H locs 0 0 Q (F0 m pc ls [.int R0]))
    (hm : m_Mo_isAny p1 v_0_spaces = some R0) : ∀ (H : Heap) (locs : List Loc) (ls : Array Slot), va_P (dC, dI) vwCl (wl_Mo_isAny a_0 b_0_isFlat b_0_across b_0_lows b_0_highs b_0_thick b_0_doorCounts b_0_doorFrom b_0_doorTo b_0_xs b_0_ys b_0_labels b_0_oldXs b_0_oldYs b_0_oldLabels b_0_names b_0_oldNames b_0_wanted b_0_common b_0_flatEdges b_0_upEdges b_0_isPoint b_0_stack b_0_pieceLines b_0_pieceBegins b_0_pieceEnds b_0_pieceLeft b_0_pieceRight b_0_outs b_0_isSeen b_0_ringSpaces b_0_ringStarts b_0_ringSizes b_0_ringLeast b_0_looseLines b_0_looseXs b_0_looseYs b_0_looseReaches b_0_far v_0_code v_0_lines v_0_isFresh v_0_hasRun v_0_runs v_0_nx v_0_ny v_0_spaces v_0_oldNx v_0_oldNy v_0_oldSpaces v_0_points v_0_pieces v_0_rings v_0_outsideSides v_0_looseCount) H → va_D A (wl_Mo_isAny a_0 b_0_isFlat b_0_across b_0_lows b_0_highs b_0_thick b_0_doorCounts b_0_doorFrom b_0_doorTo b_0_xs b_0_ys b_0_labels b_0_oldXs b_0_oldYs b_0_oldLabels b_0_names b_0_oldNames b_0_wanted b_0_common b_0_flatEdges b_0_upEdges b_0_isPoint b_0_stack b_0_pieceLines b_0_pieceBegins b_0_pieceEnds b_0_pieceLeft b_0_pieceRight b_0_outs b_0_isSeen b_0_ringSpaces b_0_ringStarts b_0_ringSizes b_0_ringLeast b_0_looseLines b_0_looseXs b_0_looseYs b_0_looseReaches b_0_far v_0_code v_0_lines v_0_isFresh v_0_hasRun v_0_runs v_0_nx v_0_ny v_0_spaces v_0_oldNx v_0_oldNy v_0_oldSpaces v_0_points v_0_pieces v_0_rings v_0_outsideSides v_0_looseCount) → va_S A s.heap H locs → lv_has ls 2 [(0, .ref a_0), (1, .int p1)] → W p l e rm_Mo_isAny s m args below meth c H locs 0 0 Q (F0 m 0 ls []) := by
  intro H locs ls hP hD hS hl
  unfold m_Mo_isAny at hm
  refine lv_iload_n hx hb d_Mo_isAny_0 rfl (lv_at hl 1 rfl) ?_
  refine lv_iconst (v := (-1)) hx hb d_Mo_isAny_1 (by decide) ?_
  obtain ⟨x4, hb2, hm⟩ := bd1_e hm
  have K1 : ∀ (H : Heap) (locs : List Loc) (ls : Array Slot), va_P (dC, dI) vwCl (wl_Mo_isAny a_0 b_0_isFlat b_0_across b_0_lows b_0_highs b_0_thick b_0_doorCounts b_0_doorFrom b_0_doorTo b_0_xs b_0_ys b_0_labels b_0_oldXs b_0_oldYs b_0_oldLabels b_0_names b_0_oldNames b_0_wanted b_0_common b_0_flatEdges b_0_upEdges b_0_isPoint b_0_stack b_0_pieceLines b_0_pieceBegins b_0_pieceEnds b_0_pieceLeft b_0_pieceRight b_0_outs b_0_isSeen b_0_ringSpaces b_0_ringStarts b_0_ringSizes b_0_ringLeast b_0_looseLines b_0_looseXs b_0_looseYs b_0_looseReaches b_0_far v_0_code v_0_lines v_0_isFresh v_0_hasRun v_0_runs v_0_nx v_0_ny v_0_spaces v_0_oldNx v_0_oldNy v_0_oldSpaces v_0_points v_0_pieces v_0_rings v_0_outsideSides v_0_looseCount) H → va_D A (wl_Mo_isAny a_0 b_0_isFlat b_0_across b_0_lows b_0_highs b_0_thick b_0_doorCounts b_0_doorFrom b_0_doorTo b_0_xs b_0_ys b_0_labels b_0_oldXs b_0_oldYs b_0_oldLabels b_0_names b_0_oldNames b_0_wanted b_0_common b_0_flatEdges b_0_upEdges b_0_isPoint b_0_stack b_0_pieceLines b_0_pieceBegins b_0_pieceEnds b_0_pieceLeft b_0_pieceRight b_0_outs b_0_isSeen b_0_ringSpaces b_0_ringStarts b_0_ringSizes b_0_ringLeast b_0_looseLines b_0_looseXs b_0_looseYs b_0_looseReaches b_0_far v_0_code v_0_lines v_0_isFresh v_0_hasRun v_0_runs v_0_nx v_0_ny v_0_spaces v_0_oldNx v_0_oldNy v_0_oldSpaces v_0_points v_0_pieces v_0_rings v_0_outsideSides v_0_looseCount) → va_S A s.heap H locs → lv_has ls 2 [] → W p l e rm_Mo_isAny s m args below meth c H locs 0 0 Q (F0 m 18 ls [.int x4]) := by
    intro H locs ls hP hD hS hl
    obtain ⟨hB, hm⟩ := gB_e hm
    cases hm
    exact hret _ H locs ls d_Mo_isAny_18 hB hP hD hS
  replace hm := hb2
  refine lv_icmp_eq (tgt := 13) hx hb d_Mo_isAny_2 (by decide) (fun c5 => ?_) (fun c5 => ?_)
  · replace hm := if_t hm c5
    refine lv_iconst (v := 1) hx hb d_Mo_isAny_13 (by decide) ?_
    refine lv_goto (tgt := 18) hx hb d_Mo_isAny_14 (by decide) ?_
    cases hm
    exact K1 H locs ls hP hD hS (lv_sub hl [] rfl)
  · replace hm := if_f hm c5
    refine lv_aload_n hx hb d_Mo_isAny_5 rfl (lv_at hl 0 rfl) ?_
    refine lv_iload_n hx hb d_Mo_isAny_6 rfl (lv_at hl 1 rfl) ?_
    obtain ⟨r6, hb7, hm⟩ := bd1_e hm
    have hPc := hP.sub (ws' := (wl_Mo_isSpace a_0 b_0_isFlat b_0_across b_0_lows b_0_highs b_0_thick b_0_doorCounts b_0_doorFrom b_0_doorTo b_0_xs b_0_ys b_0_labels b_0_oldXs b_0_oldYs b_0_oldLabels b_0_names b_0_oldNames b_0_wanted b_0_common b_0_flatEdges b_0_upEdges b_0_isPoint b_0_stack b_0_pieceLines b_0_pieceBegins b_0_pieceEnds b_0_pieceLeft b_0_pieceRight b_0_outs b_0_isSeen b_0_ringSpaces b_0_ringStarts b_0_ringSizes b_0_ringLeast b_0_looseLines b_0_looseXs b_0_looseYs b_0_looseReaches b_0_far v_0_code v_0_lines v_0_isFresh v_0_hasRun v_0_runs v_0_nx v_0_ny v_0_spaces v_0_oldNx v_0_oldNy v_0_oldSpaces v_0_points v_0_pieces v_0_rings v_0_outsideSides v_0_looseCount)) [0] rfl
    have hDc := hD.sub (ws' := (wl_Mo_isSpace a_0 b_0_isFlat b_0_across b_0_lows b_0_highs b_0_thick b_0_doorCounts b_0_doorFrom b_0_doorTo b_0_xs b_0_ys b_0_labels b_0_oldXs b_0_oldYs b_0_oldLabels b_0_names b_0_oldNames b_0_wanted b_0_common b_0_flatEdges b_0_upEdges b_0_isPoint b_0_stack b_0_pieceLines b_0_pieceBegins b_0_pieceEnds b_0_pieceLeft b_0_pieceRight b_0_outs b_0_isSeen b_0_ringSpaces b_0_ringStarts b_0_ringSizes b_0_ringLeast b_0_looseLines b_0_looseXs b_0_looseYs b_0_looseReaches b_0_far v_0_code v_0_lines v_0_isFresh v_0_hasRun v_0_runs v_0_nx v_0_ny v_0_spaces v_0_oldNx v_0_oldNy v_0_oldSpaces v_0_points v_0_pieces v_0_rings v_0_outsideSides v_0_looseCount)) [0] (by decide) rfl
    refine cl_i (wc' := (wl_Mo_isSpace a_0 b_0_isFlat b_0_across b_0_lows b_0_highs b_0_thick b_0_doorCounts b_0_doorFrom b_0_doorTo b_0_xs b_0_ys b_0_labels b_0_oldXs b_0_oldYs b_0_oldLabels b_0_names b_0_oldNames b_0_wanted b_0_common b_0_flatEdges b_0_upEdges b_0_isPoint b_0_stack b_0_pieceLines b_0_pieceBegins b_0_pieceEnds b_0_pieceLeft b_0_pieceRight b_0_outs b_0_isSeen b_0_ringSpaces b_0_ringStarts b_0_ringSizes b_0_ringLeast b_0_looseLines b_0_looseXs b_0_looseYs b_0_looseReaches b_0_far v_0_code v_0_lines v_0_isFresh v_0_hasRun v_0_runs v_0_nx v_0_ny v_0_spaces v_0_oldNx v_0_oldNy v_0_oldSpaces v_0_points v_0_pieces v_0_rings v_0_outsideSides v_0_looseCount)) (va_runV (As := [.int p1]) (rest := []) ⟨hx, hb, hml, hown, hts⟩ (c_Mo_isSpace l dC dI (cI := cI) (cZ := cZ) (cJ := cJ) a_0 b_0_isFlat b_0_across b_0_lows b_0_highs b_0_thick b_0_doorCounts b_0_doorFrom b_0_doorTo b_0_xs b_0_ys b_0_labels b_0_oldXs b_0_oldYs b_0_oldLabels b_0_names b_0_oldNames b_0_wanted b_0_common b_0_flatEdges b_0_upEdges b_0_isPoint b_0_stack b_0_pieceLines b_0_pieceBegins b_0_pieceEnds b_0_pieceLeft b_0_pieceRight b_0_outs b_0_isSeen b_0_ringSpaces b_0_ringStarts b_0_ringSizes b_0_ringLeast b_0_looseLines b_0_looseXs b_0_looseYs b_0_looseReaches b_0_far H.size v_0_code v_0_lines v_0_isFresh v_0_hasRun v_0_runs v_0_nx v_0_ny v_0_spaces v_0_oldNx v_0_oldNy v_0_oldSpaces v_0_points v_0_pieces v_0_rings v_0_outsideSides v_0_looseCount p1 r6 hb7) (cwV 1 hts (gl_V k_430 k_429 k_428 k_277 k_427) rfl rfl rfl (by decide +kernel) ⟨Nat.le_of_ble_eq_true rfl, Nat.le_of_ble_eq_true rfl⟩) ⟨PP_blind, va_recv hK hPc (ci := 11) (q0 := 0) rfl rfl, fun U hU hW => PP_at hK hN hPc hDc hU hW⟩ rfl rfl hl.1 rfl (lv_room (Nat.le_of_ble_eq_true rfl)) d_Mo_isAny_7 ⟨Nat.zero_le _, Nat.zero_le _⟩) hP hD hS hA [0] [] rfl rfl (by decide) (by decide) (fun H locs hP hD hS => ?_)
    have hP : va_P (dC, dI) vwCl (wl_Mo_isAny a_0 b_0_isFlat b_0_across b_0_lows b_0_highs b_0_thick b_0_doorCounts b_0_doorFrom b_0_doorTo b_0_xs b_0_ys b_0_labels b_0_oldXs b_0_oldYs b_0_oldLabels b_0_names b_0_oldNames b_0_wanted b_0_common b_0_flatEdges b_0_upEdges b_0_isPoint b_0_stack b_0_pieceLines b_0_pieceBegins b_0_pieceEnds b_0_pieceLeft b_0_pieceRight b_0_outs b_0_isSeen b_0_ringSpaces b_0_ringStarts b_0_ringSizes b_0_ringLeast b_0_looseLines b_0_looseXs b_0_looseYs b_0_looseReaches b_0_far v_0_code v_0_lines v_0_isFresh v_0_hasRun v_0_runs v_0_nx v_0_ny v_0_spaces v_0_oldNx v_0_oldNy v_0_oldSpaces v_0_points v_0_pieces v_0_rings v_0_outsideSides v_0_looseCount) H := hP.sub [0] rfl
    have hD : va_D A (wl_Mo_isAny a_0 b_0_isFlat b_0_across b_0_lows b_0_highs b_0_thick b_0_doorCounts b_0_doorFrom b_0_doorTo b_0_xs b_0_ys b_0_labels b_0_oldXs b_0_oldYs b_0_oldLabels b_0_names b_0_oldNames b_0_wanted b_0_common b_0_flatEdges b_0_upEdges b_0_isPoint b_0_stack b_0_pieceLines b_0_pieceBegins b_0_pieceEnds b_0_pieceLeft b_0_pieceRight b_0_outs b_0_isSeen b_0_ringSpaces b_0_ringStarts b_0_ringSizes b_0_ringLeast b_0_looseLines b_0_looseXs b_0_looseYs b_0_looseReaches b_0_far v_0_code v_0_lines v_0_isFresh v_0_hasRun v_0_runs v_0_nx v_0_ny v_0_spaces v_0_oldNx v_0_oldNy v_0_oldSpaces v_0_points v_0_pieces v_0_rings v_0_outsideSides v_0_looseCount) := hD.sub [0] (by decide) rfl
    refine lv_if_eq (tgt := 17) hx hb d_Mo_isAny_10 (by decide) (fun c8 => ?_) (fun c8 => ?_)
    · replace hm := if_t hm c8
      refine lv_iconst (v := 0) hx hb d_Mo_isAny_17 (by decide) ?_
      cases hm
      exact K1 H locs ls hP hD hS (lv_sub hl [] rfl)
    · replace hm := if_f hm c8
      refine lv_iconst (v := 1) hx hb d_Mo_isAny_13 (by decide) ?_
      refine lv_goto (tgt := 18) hx hb d_Mo_isAny_14 (by decide) ?_
      cases hm
      exact K1 H locs ls hP hD hS (lv_sub hl [] rfl)
set_option maxHeartbeats 4000000 in
set_option maxRecDepth 100000 in
theorem c_Mo_isAny (l : Launch) (dC : Nat → ClassId) (dI : Nat → Nat → Nat) {cI cZ cJ : ClassId} (a_0 b_0_isFlat b_0_across b_0_lows b_0_highs b_0_thick b_0_doorCounts b_0_doorFrom b_0_doorTo b_0_xs b_0_ys b_0_labels b_0_oldXs b_0_oldYs b_0_oldLabels b_0_names b_0_oldNames b_0_wanted b_0_common b_0_flatEdges b_0_upEdges b_0_isPoint b_0_stack b_0_pieceLines b_0_pieceBegins b_0_pieceEnds b_0_pieceLeft b_0_pieceRight b_0_outs b_0_isSeen b_0_ringSpaces b_0_ringStarts b_0_ringSizes b_0_ringLeast b_0_looseLines b_0_looseXs b_0_looseYs b_0_looseReaches b_0_far : Nat) (sz : Nat) (v_0_code : Int32) (v_0_lines : Int32) (v_0_isFresh : Int32) (v_0_hasRun : Int32) (v_0_runs : Int32) (v_0_nx : Int32) (v_0_ny : Int32) (v_0_spaces : Int32) (v_0_oldNx : Int32) (v_0_oldNy : Int32) (v_0_oldSpaces : Int32) (v_0_points : Int32) (v_0_pieces : Int32) (v_0_rings : Int32) (v_0_outsideSides : Int32) (v_0_looseCount : Int32) (p1 : Int32) (R0 : Int32) (hm : m_Mo_isAny p1 v_0_spaces = some R0) : Met l y_Mo_isAny w_Mo_isAny rm_Mo_isAny (PP dC dI [(cI, .int), (cZ, .boolean), (cJ, .long)] [.ref a_0, .int p1] sz (wl_Mo_isAny a_0 b_0_isFlat b_0_across b_0_lows b_0_highs b_0_thick b_0_doorCounts b_0_doorFrom b_0_doorTo b_0_xs b_0_ys b_0_labels b_0_oldXs b_0_oldYs b_0_oldLabels b_0_names b_0_oldNames b_0_wanted b_0_common b_0_flatEdges b_0_upEdges b_0_isPoint b_0_stack b_0_pieceLines b_0_pieceBegins b_0_pieceEnds b_0_pieceLeft b_0_pieceRight b_0_outs b_0_isSeen b_0_ringSpaces b_0_ringStarts b_0_ringSizes b_0_ringLeast b_0_looseLines b_0_looseXs b_0_looseYs b_0_looseReaches b_0_far v_0_code v_0_lines v_0_isFresh v_0_hasRun v_0_runs v_0_nx v_0_ny v_0_spaces v_0_oldNx v_0_oldNy v_0_oldSpaces v_0_points v_0_pieces v_0_rings v_0_outsideSides v_0_looseCount)) (QI dC dI [(cI, .int), (cZ, .boolean), (cJ, .long)] sz (wl_Mo_isAny a_0 b_0_isFlat b_0_across b_0_lows b_0_highs b_0_thick b_0_doorCounts b_0_doorFrom b_0_doorTo b_0_xs b_0_ys b_0_labels b_0_oldXs b_0_oldYs b_0_oldLabels b_0_names b_0_oldNames b_0_wanted b_0_common b_0_flatEdges b_0_upEdges b_0_isPoint b_0_stack b_0_pieceLines b_0_pieceBegins b_0_pieceEnds b_0_pieceLeft b_0_pieceRight b_0_outs b_0_isSeen b_0_ringSpaces b_0_ringStarts b_0_ringSizes b_0_ringLeast b_0_looseLines b_0_looseXs b_0_looseYs b_0_looseReaches b_0_far v_0_code v_0_lines v_0_isFresh v_0_hasRun v_0_runs v_0_nx v_0_ny v_0_spaces v_0_oldNx v_0_oldNy v_0_oldSpaces v_0_points v_0_pieces v_0_rings v_0_outsideSides v_0_looseCount) (wl_Mo_isAny a_0 b_0_isFlat b_0_across b_0_lows b_0_highs b_0_thick b_0_doorCounts b_0_doorFrom b_0_doorTo b_0_xs b_0_ys b_0_labels b_0_oldXs b_0_oldYs b_0_oldLabels b_0_names b_0_oldNames b_0_wanted b_0_common b_0_flatEdges b_0_upEdges b_0_isPoint b_0_stack b_0_pieceLines b_0_pieceBegins b_0_pieceEnds b_0_pieceLeft b_0_pieceRight b_0_outs b_0_isSeen b_0_ringSpaces b_0_ringStarts b_0_ringSizes b_0_ringLeast b_0_looseLines b_0_looseXs b_0_looseYs b_0_looseReaches b_0_far v_0_code v_0_lines v_0_isFresh v_0_hasRun v_0_runs v_0_nx v_0_ny v_0_spaces v_0_oldNx v_0_oldNy v_0_oldSpaces v_0_points v_0_pieces v_0_rings v_0_outsideSides v_0_looseCount) R0) 0 0 (va_A (wl_Mo_isAny a_0 b_0_isFlat b_0_across b_0_lows b_0_highs b_0_thick b_0_doorCounts b_0_doorFrom b_0_doorTo b_0_xs b_0_ys b_0_labels b_0_oldXs b_0_oldYs b_0_oldLabels b_0_names b_0_oldNames b_0_wanted b_0_common b_0_flatEdges b_0_upEdges b_0_isPoint b_0_stack b_0_pieceLines b_0_pieceBegins b_0_pieceEnds b_0_pieceLeft b_0_pieceRight b_0_outs b_0_isSeen b_0_ringSpaces b_0_ringStarts b_0_ringSizes b_0_ringLeast b_0_looseLines b_0_looseXs b_0_looseYs b_0_looseReaches b_0_far v_0_code v_0_lines v_0_isFresh v_0_hasRun v_0_runs v_0_nx v_0_ny v_0_spaces v_0_oldNx v_0_oldNy v_0_oldSpaces v_0_points v_0_pieces v_0_rings v_0_outsideSides v_0_looseCount) sz) := by
  refine Met.ofW (cc := b_Mo_isAny) (maxL := 2) (ret := (some .boolean)) (by decide) rfl ?_
  intro p e s m args below meth c s₁ B hml hv
  obtain ⟨rfl, hsz, hP, hK, hD0, hN⟩ := hv
  subst hsz
  have hl := lv_entry ([.ref a_0, .int p1]) (n := 2) (Nat.le_of_ble_eq_true rfl)
  rw [lg_entry_eq]
  generalize (lg_sl ([.ref a_0, .int p1]) ++ List.replicate (2 - (lg_sl ([.ref a_0, .int p1])).length) Slot.unset).toArray = ls at hl ⊢
  exact t_Mo_isAny a_0 b_0_isFlat b_0_across b_0_lows b_0_highs b_0_thick b_0_doorCounts b_0_doorFrom b_0_doorTo b_0_xs b_0_ys b_0_labels b_0_oldXs b_0_oldYs b_0_oldLabels b_0_names b_0_oldNames b_0_wanted b_0_common b_0_flatEdges b_0_upEdges b_0_isPoint b_0_stack b_0_pieceLines b_0_pieceBegins b_0_pieceEnds b_0_pieceLeft b_0_pieceRight b_0_outs b_0_isSeen b_0_ringSpaces b_0_ringStarts b_0_ringSizes b_0_ringLeast b_0_looseLines b_0_looseXs b_0_looseYs b_0_looseReaches b_0_far v_0_code v_0_lines v_0_isFresh v_0_hasRun v_0_runs v_0_nx v_0_ny v_0_spaces v_0_oldNx v_0_oldNy v_0_oldSpaces v_0_points v_0_pieces v_0_rings v_0_outsideSides v_0_looseCount p1 R0 B.exec B.bytes hml (findClass_of_methodNamed B.named) (atoms_spec (ws := w_Mo_isAny) B.pre) hK hN (fun q h => Or.inr h) (fun pc H locs ls hd hz hP9 hD9 hS => W.zret B.exec B.bytes B.returns (nar_b hz) (fun t ht hW => ⟨⟨_, (), rfl, rfl, by rw [ht]; exact hP9, va_K.moved hW.alike hK, hD9⟩, hS.F ht⟩) hS.2.2 hd) hm s.heap [] ls hP hD0.self va_S.rf hl

theorem k_455 : ((.code ⟨"SpaceCyclesModel", "isAny", "(I)Z"⟩ prog_13_method_47_code 2 (some .boolean)) : Cond) ∈ gl := gl_i 1472 (by decide +kernel) (by decide +kernel)
theorem k_456 : ((.selects "SpaceCyclesModel" ⟨"SpaceCyclesModel", "isAny", "(I)Z"⟩ ⟨"SpaceCyclesModel", "isAny", "(I)Z"⟩) : Cond) ∈ gl := gl_s (by decide +kernel) (by decide +kernel)
theorem k_457 : ((.instanceMethod ⟨"SpaceCyclesModel", "isAny", "(I)Z"⟩) : Cond) ∈ gl := gl_i 1471 (by decide +kernel) (by decide +kernel)
theorem k_458 : ((.methodLink "SpaceCyclesModel" 302 ⟨"SpaceCyclesModel", "isAny", "(I)Z"⟩) : Cond) ∈ gl := gl_i 1469 (by decide +kernel) (by decide +kernel)
-- SpaceCyclesModel.between(II)I
abbrev b_Mo_between : ByteArray := prog_13_method_48_code
abbrev y_Mo_between : MethodName := ⟨"SpaceCyclesModel", "between", "(II)I"⟩
abbrev w_Mo_between : List Cond := Cond.code y_Mo_between b_Mo_between 3 (some .int) :: gl
abbrev rm_Mo_between : Room := { frames := 3, cells := 0, slots := 0, locals := 67 }
theorem d_Mo_between_0 : decode b_Mo_between 0 = .ok (.aload_n 0, 1) := by decide +kernel
theorem d_Mo_between_1 : decode b_Mo_between 1 = .ok (.aload_n 0, 1) := by decide +kernel
theorem d_Mo_between_2 : decode b_Mo_between 2 = .ok (.iload_n 1, 1) := by decide +kernel
theorem d_Mo_between_3 : decode b_Mo_between 3 = .ok (.invokevirtual 275, 3) := by decide +kernel
theorem d_Mo_between_6 : decode b_Mo_between 6 = .ok (.ifCond .eq 15, 3) := by decide +kernel
theorem d_Mo_between_9 : decode b_Mo_between 9 = .ok (.aload_n 0, 1) := by decide +kernel
theorem d_Mo_between_10 : decode b_Mo_between 10 = .ok (.iload_n 2, 1) := by decide +kernel
theorem d_Mo_between_11 : decode b_Mo_between 11 = .ok (.invokevirtual 302, 3) := by decide +kernel
theorem d_Mo_between_14 : decode b_Mo_between 14 = .ok (.ifCond .eq 7, 3) := by decide +kernel
theorem d_Mo_between_17 : decode b_Mo_between 17 = .ok (.iconst 1, 1) := by decide +kernel
theorem d_Mo_between_18 : decode b_Mo_between 18 = .ok (.goto 4, 3) := by decide +kernel
theorem d_Mo_between_21 : decode b_Mo_between 21 = .ok (.iconst 0, 1) := by decide +kernel
theorem d_Mo_between_22 : decode b_Mo_between 22 = .ok (.invokevirtual 271, 3) := by decide +kernel
theorem d_Mo_between_25 : decode b_Mo_between 25 = .ok (.ifCond .eq 12, 3) := by decide +kernel
theorem d_Mo_between_28 : decode b_Mo_between 28 = .ok (.aload_n 0, 1) := by decide +kernel
theorem d_Mo_between_29 : decode b_Mo_between 29 = .ok (.iload_n 1, 1) := by decide +kernel
theorem d_Mo_between_30 : decode b_Mo_between 30 = .ok (.iload_n 2, 1) := by decide +kernel
theorem d_Mo_between_31 : decode b_Mo_between 31 = .ok (.invokevirtual 298, 3) := by decide +kernel
theorem d_Mo_between_34 : decode b_Mo_between 34 = .ok (.goto 4, 3) := by decide +kernel
theorem d_Mo_between_37 : decode b_Mo_between 37 = .ok (.iconst 0, 1) := by decide +kernel
theorem d_Mo_between_38 : decode b_Mo_between 38 = .ok (.ireturn, 1) := by decide +kernel
abbrev wl_Mo_between (a_0 : Nat) (a_0_xs : Nat) (a_0_ys : Nat) (a_0_pieceBegins : Nat) (a_0_pieceEnds : Nat) (a_0_pieceLeft : Nat) (a_0_pieceRight : Nat) (b_0_isFlat : Nat) (b_0_across : Nat) (b_0_lows : Nat) (b_0_highs : Nat) (b_0_thick : Nat) (b_0_doorCounts : Nat) (b_0_doorFrom : Nat) (b_0_doorTo : Nat) (b_0_labels : Nat) (b_0_oldXs : Nat) (b_0_oldYs : Nat) (b_0_oldLabels : Nat) (b_0_names : Nat) (b_0_oldNames : Nat) (b_0_wanted : Nat) (b_0_common : Nat) (b_0_flatEdges : Nat) (b_0_upEdges : Nat) (b_0_isPoint : Nat) (b_0_stack : Nat) (b_0_pieceLines : Nat) (b_0_outs : Nat) (b_0_isSeen : Nat) (b_0_ringSpaces : Nat) (b_0_ringStarts : Nat) (b_0_ringSizes : Nat) (b_0_ringLeast : Nat) (b_0_looseLines : Nat) (b_0_looseXs : Nat) (b_0_looseYs : Nat) (b_0_looseReaches : Nat) (b_0_far : Nat) (cI : ClassId) (v_0_code : Int32) (v_0_lines : Int32) (v_0_isFresh : Int32) (v_0_hasRun : Int32) (v_0_runs : Int32) (v_0_nx : Int32) (v_0_ny : Int32) (v_0_spaces : Int32) (v_0_oldNx : Int32) (v_0_oldNy : Int32) (v_0_oldSpaces : Int32) (v_0_points : Int32) (v_0_pieces : Int32) (v_0_rings : Int32) (v_0_outsideSides : Int32) (v_0_looseCount : Int32) (f_0_xs : Nat → Int32) (f_0_ys : Nat → Int32) (f_0_pieceBegins : Nat → Int32) (f_0_pieceEnds : Nat → Int32) (f_0_pieceLeft : Nat → Int32) (f_0_pieceRight : Nat → Int32) : va_W := [(a_0, .inr (11, [.int v_0_code, .ref b_0_isFlat, .ref b_0_across, .ref b_0_lows, .ref b_0_highs, .ref b_0_thick, .int v_0_lines, .ref b_0_doorCounts, .ref b_0_doorFrom, .ref b_0_doorTo, .int v_0_isFresh, .int v_0_hasRun, .int v_0_runs, .ref a_0_xs, .ref a_0_ys, .int v_0_nx, .int v_0_ny, .ref b_0_labels, .int v_0_spaces, .ref b_0_oldXs, .ref b_0_oldYs, .int v_0_oldNx, .int v_0_oldNy, .ref b_0_oldLabels, .int v_0_oldSpaces, .ref b_0_names, .ref b_0_oldNames, .ref b_0_wanted, .ref b_0_common, .ref b_0_flatEdges, .ref b_0_upEdges, .ref b_0_isPoint, .int v_0_points, .ref b_0_stack, .ref b_0_pieceLines, .ref a_0_pieceBegins, .ref a_0_pieceEnds, .ref a_0_pieceLeft, .ref a_0_pieceRight, .int v_0_pieces, .ref b_0_outs, .ref b_0_isSeen, .ref b_0_ringSpaces, .ref b_0_ringStarts, .ref b_0_ringSizes, .ref b_0_ringLeast, .int v_0_rings, .int v_0_outsideSides, .ref b_0_looseLines, .ref b_0_looseXs, .ref b_0_looseYs, .ref b_0_looseReaches, .int v_0_looseCount, .ref b_0_far])), (a_0_xs, .inl (cI, 42, .inl f_0_xs)), (a_0_ys, .inl (cI, 42, .inl f_0_ys)), (a_0_pieceBegins, .inl (cI, 900, .inl f_0_pieceBegins)), (a_0_pieceEnds, .inl (cI, 900, .inl f_0_pieceEnds)), (a_0_pieceLeft, .inl (cI, 900, .inl f_0_pieceLeft)), (a_0_pieceRight, .inl (cI, 900, .inl f_0_pieceRight))]
def m_Mo_between (p1 : Int32) (p2 : Int32) (v_0_code : Int32) (v_0_isFresh : Int32) (v_0_spaces : Int32) (v_0_pieces : Int32) (f_0_xs : Nat → Int32) (f_0_ys : Nat → Int32) (f_0_pieceBegins : Nat → Int32) (f_0_pieceEnds : Nat → Int32) (f_0_pieceLeft : Nat → Int32) (f_0_pieceRight : Nat → Int32) : Option (Int32 × (Int32)) :=
  bd1 (m_Mo_isSpace p1 v_0_spaces) fun r1 =>
  bd1 (
    if r1 = 0 then (
    some 0)
  else (
    bd1 (m_Mo_isAny p2 v_0_spaces) fun r8 =>
    if r8 = 0 then (
      some 0)
    else (
      some 1)))
  fun (x6 : Int32) =>
  bd2 (m_Mo_goes x6 v_0_code v_0_isFresh) fun r11 x12 =>
    bd1 (
      if r11 = 0 then (
      some 0)
    else (
      bd1 (m_Mo_lengthBetween p1 p2 v_0_pieces f_0_xs f_0_ys f_0_pieceBegins f_0_pieceEnds f_0_pieceLeft f_0_pieceRight) fun r19 =>
      some r19))
    fun (x17 : Int32) =>
    some (x17, x12)

set_option maxHeartbeats 4000000 in
set_option maxRecDepth 100000 in
theorem t_Mo_between {p : Program} {l : Launch} {e : Env} {s : State} {m : MethodId} {args : Array Value} {below : List Frame} {meth : Method} {c : Code} {A : Nat → Prop} {Q : State → Prop} {dC : Nat → ClassId} {dI : Nat → Nat → Nat} {cI cZ cJ : ClassId} (a_0 a_0_xs a_0_ys a_0_pieceBegins a_0_pieceEnds a_0_pieceLeft a_0_pieceRight b_0_isFlat b_0_across b_0_lows b_0_highs b_0_thick b_0_doorCounts b_0_doorFrom b_0_doorTo b_0_labels b_0_oldXs b_0_oldYs b_0_oldLabels b_0_names b_0_oldNames b_0_wanted b_0_common b_0_flatEdges b_0_upEdges b_0_isPoint b_0_stack b_0_pieceLines b_0_outs b_0_isSeen b_0_ringSpaces b_0_ringStarts b_0_ringSizes b_0_ringLeast b_0_looseLines b_0_looseXs b_0_looseYs b_0_looseReaches b_0_far : Nat) (v_0_code : Int32) (v_0_lines : Int32) (v_0_isFresh : Int32) (v_0_hasRun : Int32) (v_0_runs : Int32) (v_0_nx : Int32) (v_0_ny : Int32) (v_0_spaces : Int32) (v_0_oldNx : Int32) (v_0_oldNy : Int32) (v_0_oldSpaces : Int32) (v_0_points : Int32) (v_0_pieces : Int32) (v_0_rings : Int32) (v_0_outsideSides : Int32) (v_0_looseCount : Int32) (f_0_xs : Nat → Int32) (f_0_ys : Nat → Int32) (f_0_pieceBegins : Nat → Int32) (f_0_pieceEnds : Nat → Int32) (f_0_pieceLeft : Nat → Int32) (f_0_pieceRight : Nat → Int32) (p1 : Int32) (p2 : Int32) (R0 : Int32) (ov_0_code : Int32) (hx : p.tables.exec = Jvm.exec) (hb : c.code = b_Mo_between) (hml : c.maxLocals = 3) (hown : s.vm.findClass "SpaceCyclesModel" = some m.cls) (hts : ∀ w ∈ w_Mo_between, w.before args s = true) (hK : va_K (dC, dI) vwCl [(cI, .int), (cZ, .boolean), (cJ, .long)] s) (hN : NX s) (hA : ∀ q : Nat, s.heap.size ≤ q → A q)
    (hret : ∀ (pc : Nat) (H : Heap) (locs : List Loc) (ls : Array Slot), decode b_Mo_between pc = .ok (.ireturn, 1) → va_P (dC, dI) vwCl (wl_Mo_between a_0 a_0_xs a_0_ys a_0_pieceBegins a_0_pieceEnds a_0_pieceLeft a_0_pieceRight b_0_isFlat b_0_across b_0_lows b_0_highs b_0_thick b_0_doorCounts b_0_doorFrom b_0_doorTo b_0_labels b_0_oldXs b_0_oldYs b_0_oldLabels b_0_names b_0_oldNames b_0_wanted b_0_common b_0_flatEdges b_0_upEdges b_0_isPoint b_0_stack b_0_pieceLines b_0_outs b_0_isSeen b_0_ringSpaces b_0_ringStarts b_0_ringSizes b_0_ringLeast b_0_looseLines b_0_looseXs b_0_looseYs b_0_looseReaches b_0_far cI ov_0_code v_0_lines v_0_isFresh v_0_hasRun v_0_runs v_0_nx v_0_ny v_0_spaces v_0_oldNx v_0_oldNy v_0_oldSpaces v_0_points v_0_pieces v_0_rings v_0_outsideSides v_0_looseCount f_0_xs f_0_ys f_0_pieceBegins f_0_pieceEnds f_0_pieceLeft f_0_pieceRight) H → va_D A (wl_Mo_between a_0 a_0_xs a_0_ys a_0_pieceBegins a_0_pieceEnds a_0_pieceLeft a_0_pieceRight b_0_isFlat b_0_across b_0_lows b_0_highs b_0_thick b_0_doorCounts b_0_doorFrom b_0_doorTo b_0_labels b_0_oldXs b_0_oldYs b_0_oldLabels b_0_names b_0_oldNames b_0_wanted b_0_common b_0_flatEdges b_0_upEdges b_0_isPoint b_0_stack b_0_pieceLines b_0_outs b_0_isSeen b_0_ringSpaces b_0_ringStarts b_0_ringSizes b_0_ringLeast b_0_looseLines b_0_looseXs b_0_looseYs b_0_looseReaches b_0_far cI ov_0_code v_0_lines v_0_isFresh v_0_hasRun v_0_runs v_0_nx v_0_ny v_0_spaces v_0_oldNx v_0_oldNy v_0_oldSpaces v_0_points v_0_pieces v_0_rings v_0_outsideSides v_0_looseCount f_0_xs f_0_ys f_0_pieceBegins f_0_pieceEnds f_0_pieceLeft f_0_pieceRight) → va_S A s.heap H locs → W p l e rm_Mo_between s m args below meth c H locs 0 0 Q (F0 m pc ls [.int R0]))
    (hm : m_Mo_between p1 p2 v_0_code v_0_isFresh v_0_spaces v_0_pieces f_0_xs f_0_ys f_0_pieceBegins f_0_pieceEnds f_0_pieceLeft f_0_pieceRight = some (R0, ov_0_code)) : ∀ (H : Heap) (locs : List Loc) (ls : Array Slot), va_P (dC, dI) vwCl (wl_Mo_between a_0 a_0_xs a_0_ys a_0_pieceBegins a_0_pieceEnds a_0_pieceLeft a_0_pieceRight b_0_isFlat b_0_across b_0_lows b_0_highs b_0_thick b_0_doorCounts b_0_doorFrom b_0_doorTo b_0_labels b_0_oldXs b_0_oldYs b_0_oldLabels b_0_names b_0_oldNames b_0_wanted b_0_common b_0_flatEdges b_0_upEdges b_0_isPoint b_0_stack b_0_pieceLines b_0_outs b_0_isSeen b_0_ringSpaces b_0_ringStarts b_0_ringSizes b_0_ringLeast b_0_looseLines b_0_looseXs b_0_looseYs b_0_looseReaches b_0_far cI v_0_code v_0_lines v_0_isFresh v_0_hasRun v_0_runs v_0_nx v_0_ny v_0_spaces v_0_oldNx v_0_oldNy v_0_oldSpaces v_0_points v_0_pieces v_0_rings v_0_outsideSides v_0_looseCount f_0_xs f_0_ys f_0_pieceBegins f_0_pieceEnds f_0_pieceLeft f_0_pieceRight) H → va_D A (wl_Mo_between a_0 a_0_xs a_0_ys a_0_pieceBegins a_0_pieceEnds a_0_pieceLeft a_0_pieceRight b_0_isFlat b_0_across b_0_lows b_0_highs b_0_thick b_0_doorCounts b_0_doorFrom b_0_doorTo b_0_labels b_0_oldXs b_0_oldYs b_0_oldLabels b_0_names b_0_oldNames b_0_wanted b_0_common b_0_flatEdges b_0_upEdges b_0_isPoint b_0_stack b_0_pieceLines b_0_outs b_0_isSeen b_0_ringSpaces b_0_ringStarts b_0_ringSizes b_0_ringLeast b_0_looseLines b_0_looseXs b_0_looseYs b_0_looseReaches b_0_far cI v_0_code v_0_lines v_0_isFresh v_0_hasRun v_0_runs v_0_nx v_0_ny v_0_spaces v_0_oldNx v_0_oldNy v_0_oldSpaces v_0_points v_0_pieces v_0_rings v_0_outsideSides v_0_looseCount f_0_xs f_0_ys f_0_pieceBegins f_0_pieceEnds f_0_pieceLeft f_0_pieceRight) → va_S A s.heap H locs → lv_has ls 3 [(0, .ref a_0), (1, .int p1), (2, .int p2)] → W p l e rm_Mo_between s m args below meth c H locs 0 0 Q (F0 m 0 ls []) := by
  intro H locs ls hP hD hS hl
  unfold m_Mo_between at hm
  refine lv_aload_n hx hb d_Mo_between_0 rfl (lv_at hl 0 rfl) ?_
  refine lv_aload_n hx hb d_Mo_between_1 rfl (lv_at hl 0 rfl) ?_
  refine lv_iload_n hx hb d_Mo_between_2 rfl (lv_at hl 1 rfl) ?_
  obtain ⟨r1, hb2, hm⟩ := bd1_e hm
  have hPc := hP.sub (ws' := (wl_Mo_isSpace a_0 b_0_isFlat b_0_across b_0_lows b_0_highs b_0_thick b_0_doorCounts b_0_doorFrom b_0_doorTo a_0_xs a_0_ys b_0_labels b_0_oldXs b_0_oldYs b_0_oldLabels b_0_names b_0_oldNames b_0_wanted b_0_common b_0_flatEdges b_0_upEdges b_0_isPoint b_0_stack b_0_pieceLines a_0_pieceBegins a_0_pieceEnds a_0_pieceLeft a_0_pieceRight b_0_outs b_0_isSeen b_0_ringSpaces b_0_ringStarts b_0_ringSizes b_0_ringLeast b_0_looseLines b_0_looseXs b_0_looseYs b_0_looseReaches b_0_far v_0_code v_0_lines v_0_isFresh v_0_hasRun v_0_runs v_0_nx v_0_ny v_0_spaces v_0_oldNx v_0_oldNy v_0_oldSpaces v_0_points v_0_pieces v_0_rings v_0_outsideSides v_0_looseCount)) [0] rfl
  have hDc := hD.sub (ws' := (wl_Mo_isSpace a_0 b_0_isFlat b_0_across b_0_lows b_0_highs b_0_thick b_0_doorCounts b_0_doorFrom b_0_doorTo a_0_xs a_0_ys b_0_labels b_0_oldXs b_0_oldYs b_0_oldLabels b_0_names b_0_oldNames b_0_wanted b_0_common b_0_flatEdges b_0_upEdges b_0_isPoint b_0_stack b_0_pieceLines a_0_pieceBegins a_0_pieceEnds a_0_pieceLeft a_0_pieceRight b_0_outs b_0_isSeen b_0_ringSpaces b_0_ringStarts b_0_ringSizes b_0_ringLeast b_0_looseLines b_0_looseXs b_0_looseYs b_0_looseReaches b_0_far v_0_code v_0_lines v_0_isFresh v_0_hasRun v_0_runs v_0_nx v_0_ny v_0_spaces v_0_oldNx v_0_oldNy v_0_oldSpaces v_0_points v_0_pieces v_0_rings v_0_outsideSides v_0_looseCount)) [0] (by decide) rfl
  refine cl_i (wc' := (wl_Mo_isSpace a_0 b_0_isFlat b_0_across b_0_lows b_0_highs b_0_thick b_0_doorCounts b_0_doorFrom b_0_doorTo a_0_xs a_0_ys b_0_labels b_0_oldXs b_0_oldYs b_0_oldLabels b_0_names b_0_oldNames b_0_wanted b_0_common b_0_flatEdges b_0_upEdges b_0_isPoint b_0_stack b_0_pieceLines a_0_pieceBegins a_0_pieceEnds a_0_pieceLeft a_0_pieceRight b_0_outs b_0_isSeen b_0_ringSpaces b_0_ringStarts b_0_ringSizes b_0_ringLeast b_0_looseLines b_0_looseXs b_0_looseYs b_0_looseReaches b_0_far v_0_code v_0_lines v_0_isFresh v_0_hasRun v_0_runs v_0_nx v_0_ny v_0_spaces v_0_oldNx v_0_oldNy v_0_oldSpaces v_0_points v_0_pieces v_0_rings v_0_outsideSides v_0_looseCount)) (va_runV (As := [.int p1]) (rest := [.ref a_0]) ⟨hx, hb, hml, hown, hts⟩ (c_Mo_isSpace l dC dI (cI := cI) (cZ := cZ) (cJ := cJ) a_0 b_0_isFlat b_0_across b_0_lows b_0_highs b_0_thick b_0_doorCounts b_0_doorFrom b_0_doorTo a_0_xs a_0_ys b_0_labels b_0_oldXs b_0_oldYs b_0_oldLabels b_0_names b_0_oldNames b_0_wanted b_0_common b_0_flatEdges b_0_upEdges b_0_isPoint b_0_stack b_0_pieceLines a_0_pieceBegins a_0_pieceEnds a_0_pieceLeft a_0_pieceRight b_0_outs b_0_isSeen b_0_ringSpaces b_0_ringStarts b_0_ringSizes b_0_ringLeast b_0_looseLines b_0_looseXs b_0_looseYs b_0_looseReaches b_0_far H.size v_0_code v_0_lines v_0_isFresh v_0_hasRun v_0_runs v_0_nx v_0_ny v_0_spaces v_0_oldNx v_0_oldNy v_0_oldSpaces v_0_points v_0_pieces v_0_rings v_0_outsideSides v_0_looseCount p1 r1 hb2) (cwV 1 hts (gl_V k_430 k_429 k_428 k_277 k_427) rfl rfl rfl (by decide +kernel) ⟨Nat.le_of_ble_eq_true rfl, Nat.le_of_ble_eq_true rfl⟩) ⟨PP_blind, va_recv hK hPc (ci := 11) (q0 := 0) rfl rfl, fun U hU hW => PP_at hK hN hPc hDc hU hW⟩ rfl rfl hl.1 rfl (lv_room (Nat.le_of_ble_eq_true rfl)) d_Mo_between_3 ⟨Nat.zero_le _, Nat.zero_le _⟩) hP hD hS hA [0] [1, 2, 3, 4, 5, 6] rfl rfl (by decide) (by decide) (fun H locs hP hD hS => ?_)
  have hP : va_P (dC, dI) vwCl (wl_Mo_between a_0 a_0_xs a_0_ys a_0_pieceBegins a_0_pieceEnds a_0_pieceLeft a_0_pieceRight b_0_isFlat b_0_across b_0_lows b_0_highs b_0_thick b_0_doorCounts b_0_doorFrom b_0_doorTo b_0_labels b_0_oldXs b_0_oldYs b_0_oldLabels b_0_names b_0_oldNames b_0_wanted b_0_common b_0_flatEdges b_0_upEdges b_0_isPoint b_0_stack b_0_pieceLines b_0_outs b_0_isSeen b_0_ringSpaces b_0_ringStarts b_0_ringSizes b_0_ringLeast b_0_looseLines b_0_looseXs b_0_looseYs b_0_looseReaches b_0_far cI v_0_code v_0_lines v_0_isFresh v_0_hasRun v_0_runs v_0_nx v_0_ny v_0_spaces v_0_oldNx v_0_oldNy v_0_oldSpaces v_0_points v_0_pieces v_0_rings v_0_outsideSides v_0_looseCount f_0_xs f_0_ys f_0_pieceBegins f_0_pieceEnds f_0_pieceLeft f_0_pieceRight) H := hP.sub [6, 0, 1, 2, 3, 4, 5] rfl
  have hD : va_D A (wl_Mo_between a_0 a_0_xs a_0_ys a_0_pieceBegins a_0_pieceEnds a_0_pieceLeft a_0_pieceRight b_0_isFlat b_0_across b_0_lows b_0_highs b_0_thick b_0_doorCounts b_0_doorFrom b_0_doorTo b_0_labels b_0_oldXs b_0_oldYs b_0_oldLabels b_0_names b_0_oldNames b_0_wanted b_0_common b_0_flatEdges b_0_upEdges b_0_isPoint b_0_stack b_0_pieceLines b_0_outs b_0_isSeen b_0_ringSpaces b_0_ringStarts b_0_ringSizes b_0_ringLeast b_0_looseLines b_0_looseXs b_0_looseYs b_0_looseReaches b_0_far cI v_0_code v_0_lines v_0_isFresh v_0_hasRun v_0_runs v_0_nx v_0_ny v_0_spaces v_0_oldNx v_0_oldNy v_0_oldSpaces v_0_points v_0_pieces v_0_rings v_0_outsideSides v_0_looseCount f_0_xs f_0_ys f_0_pieceBegins f_0_pieceEnds f_0_pieceLeft f_0_pieceRight) := hD.sub [6, 0, 1, 2, 3, 4, 5] (by decide) rfl
  obtain ⟨x6, hb4, hm⟩ := bd1_e hm
  have K3 : ∀ (H : Heap) (locs : List Loc) (ls : Array Slot), va_P (dC, dI) vwCl (wl_Mo_between a_0 a_0_xs a_0_ys a_0_pieceBegins a_0_pieceEnds a_0_pieceLeft a_0_pieceRight b_0_isFlat b_0_across b_0_lows b_0_highs b_0_thick b_0_doorCounts b_0_doorFrom b_0_doorTo b_0_labels b_0_oldXs b_0_oldYs b_0_oldLabels b_0_names b_0_oldNames b_0_wanted b_0_common b_0_flatEdges b_0_upEdges b_0_isPoint b_0_stack b_0_pieceLines b_0_outs b_0_isSeen b_0_ringSpaces b_0_ringStarts b_0_ringSizes b_0_ringLeast b_0_looseLines b_0_looseXs b_0_looseYs b_0_looseReaches b_0_far cI v_0_code v_0_lines v_0_isFresh v_0_hasRun v_0_runs v_0_nx v_0_ny v_0_spaces v_0_oldNx v_0_oldNy v_0_oldSpaces v_0_points v_0_pieces v_0_rings v_0_outsideSides v_0_looseCount f_0_xs f_0_ys f_0_pieceBegins f_0_pieceEnds f_0_pieceLeft f_0_pieceRight) H → va_D A (wl_Mo_between a_0 a_0_xs a_0_ys a_0_pieceBegins a_0_pieceEnds a_0_pieceLeft a_0_pieceRight b_0_isFlat b_0_across b_0_lows b_0_highs b_0_thick b_0_doorCounts b_0_doorFrom b_0_doorTo b_0_labels b_0_oldXs b_0_oldYs b_0_oldLabels b_0_names b_0_oldNames b_0_wanted b_0_common b_0_flatEdges b_0_upEdges b_0_isPoint b_0_stack b_0_pieceLines b_0_outs b_0_isSeen b_0_ringSpaces b_0_ringStarts b_0_ringSizes b_0_ringLeast b_0_looseLines b_0_looseXs b_0_looseYs b_0_looseReaches b_0_far cI v_0_code v_0_lines v_0_isFresh v_0_hasRun v_0_runs v_0_nx v_0_ny v_0_spaces v_0_oldNx v_0_oldNy v_0_oldSpaces v_0_points v_0_pieces v_0_rings v_0_outsideSides v_0_looseCount f_0_xs f_0_ys f_0_pieceBegins f_0_pieceEnds f_0_pieceLeft f_0_pieceRight) → va_S A s.heap H locs → lv_has ls 3 [(0, .ref a_0), (1, .int p1), (2, .int p2)] → W p l e rm_Mo_between s m args below meth c H locs 0 0 Q (F0 m 22 ls [.int x6, .ref a_0]) := by
    intro H locs ls hP hD hS hl
    obtain ⟨r11, x12, hb13, hm⟩ := bd2_e hm
    have hPc := hP.sub (ws' := (wl_Mo_goes a_0 b_0_isFlat b_0_across b_0_lows b_0_highs b_0_thick b_0_doorCounts b_0_doorFrom b_0_doorTo a_0_xs a_0_ys b_0_labels b_0_oldXs b_0_oldYs b_0_oldLabels b_0_names b_0_oldNames b_0_wanted b_0_common b_0_flatEdges b_0_upEdges b_0_isPoint b_0_stack b_0_pieceLines a_0_pieceBegins a_0_pieceEnds a_0_pieceLeft a_0_pieceRight b_0_outs b_0_isSeen b_0_ringSpaces b_0_ringStarts b_0_ringSizes b_0_ringLeast b_0_looseLines b_0_looseXs b_0_looseYs b_0_looseReaches b_0_far v_0_code v_0_lines v_0_isFresh v_0_hasRun v_0_runs v_0_nx v_0_ny v_0_spaces v_0_oldNx v_0_oldNy v_0_oldSpaces v_0_points v_0_pieces v_0_rings v_0_outsideSides v_0_looseCount)) [0] rfl
    have hDc := hD.sub (ws' := (wl_Mo_goes a_0 b_0_isFlat b_0_across b_0_lows b_0_highs b_0_thick b_0_doorCounts b_0_doorFrom b_0_doorTo a_0_xs a_0_ys b_0_labels b_0_oldXs b_0_oldYs b_0_oldLabels b_0_names b_0_oldNames b_0_wanted b_0_common b_0_flatEdges b_0_upEdges b_0_isPoint b_0_stack b_0_pieceLines a_0_pieceBegins a_0_pieceEnds a_0_pieceLeft a_0_pieceRight b_0_outs b_0_isSeen b_0_ringSpaces b_0_ringStarts b_0_ringSizes b_0_ringLeast b_0_looseLines b_0_looseXs b_0_looseYs b_0_looseReaches b_0_far v_0_code v_0_lines v_0_isFresh v_0_hasRun v_0_runs v_0_nx v_0_ny v_0_spaces v_0_oldNx v_0_oldNy v_0_oldSpaces v_0_points v_0_pieces v_0_rings v_0_outsideSides v_0_looseCount)) [0] (by decide) rfl
    refine cl_i (wc' := (wl_Mo_goes a_0 b_0_isFlat b_0_across b_0_lows b_0_highs b_0_thick b_0_doorCounts b_0_doorFrom b_0_doorTo a_0_xs a_0_ys b_0_labels b_0_oldXs b_0_oldYs b_0_oldLabels b_0_names b_0_oldNames b_0_wanted b_0_common b_0_flatEdges b_0_upEdges b_0_isPoint b_0_stack b_0_pieceLines a_0_pieceBegins a_0_pieceEnds a_0_pieceLeft a_0_pieceRight b_0_outs b_0_isSeen b_0_ringSpaces b_0_ringStarts b_0_ringSizes b_0_ringLeast b_0_looseLines b_0_looseXs b_0_looseYs b_0_looseReaches b_0_far x12 v_0_lines v_0_isFresh v_0_hasRun v_0_runs v_0_nx v_0_ny v_0_spaces v_0_oldNx v_0_oldNy v_0_oldSpaces v_0_points v_0_pieces v_0_rings v_0_outsideSides v_0_looseCount)) (va_runV (As := [.int x6]) (rest := []) ⟨hx, hb, hml, hown, hts⟩ (c_Mo_goes l dC dI (cI := cI) (cZ := cZ) (cJ := cJ) a_0 b_0_isFlat b_0_across b_0_lows b_0_highs b_0_thick b_0_doorCounts b_0_doorFrom b_0_doorTo a_0_xs a_0_ys b_0_labels b_0_oldXs b_0_oldYs b_0_oldLabels b_0_names b_0_oldNames b_0_wanted b_0_common b_0_flatEdges b_0_upEdges b_0_isPoint b_0_stack b_0_pieceLines a_0_pieceBegins a_0_pieceEnds a_0_pieceLeft a_0_pieceRight b_0_outs b_0_isSeen b_0_ringSpaces b_0_ringStarts b_0_ringSizes b_0_ringLeast b_0_looseLines b_0_looseXs b_0_looseYs b_0_looseReaches b_0_far H.size v_0_code v_0_lines v_0_isFresh v_0_hasRun v_0_runs v_0_nx v_0_ny v_0_spaces v_0_oldNx v_0_oldNy v_0_oldSpaces v_0_points v_0_pieces v_0_rings v_0_outsideSides v_0_looseCount x6 r11 x12 hb13) (cwV 1 hts (gl_V k_426 k_425 k_424 k_277 k_423) rfl rfl rfl (by decide +kernel) ⟨Nat.le_of_ble_eq_true rfl, Nat.le_of_ble_eq_true rfl⟩) ⟨PP_blind, va_recv hK hPc (ci := 11) (q0 := 0) rfl rfl, fun U hU hW => PP_at hK hN hPc hDc hU hW⟩ rfl rfl hl.1 rfl (lv_room (Nat.le_of_ble_eq_true rfl)) d_Mo_between_22 ⟨Nat.zero_le _, Nat.zero_le _⟩) hP hD hS hA [0] [1, 2, 3, 4, 5, 6] rfl rfl (by decide) (by decide) (fun H locs hP hD hS => ?_)
    have hP : va_P (dC, dI) vwCl (wl_Mo_between a_0 a_0_xs a_0_ys a_0_pieceBegins a_0_pieceEnds a_0_pieceLeft a_0_pieceRight b_0_isFlat b_0_across b_0_lows b_0_highs b_0_thick b_0_doorCounts b_0_doorFrom b_0_doorTo b_0_labels b_0_oldXs b_0_oldYs b_0_oldLabels b_0_names b_0_oldNames b_0_wanted b_0_common b_0_flatEdges b_0_upEdges b_0_isPoint b_0_stack b_0_pieceLines b_0_outs b_0_isSeen b_0_ringSpaces b_0_ringStarts b_0_ringSizes b_0_ringLeast b_0_looseLines b_0_looseXs b_0_looseYs b_0_looseReaches b_0_far cI x12 v_0_lines v_0_isFresh v_0_hasRun v_0_runs v_0_nx v_0_ny v_0_spaces v_0_oldNx v_0_oldNy v_0_oldSpaces v_0_points v_0_pieces v_0_rings v_0_outsideSides v_0_looseCount f_0_xs f_0_ys f_0_pieceBegins f_0_pieceEnds f_0_pieceLeft f_0_pieceRight) H := hP.sub [6, 0, 1, 2, 3, 4, 5] rfl
    have hD : va_D A (wl_Mo_between a_0 a_0_xs a_0_ys a_0_pieceBegins a_0_pieceEnds a_0_pieceLeft a_0_pieceRight b_0_isFlat b_0_across b_0_lows b_0_highs b_0_thick b_0_doorCounts b_0_doorFrom b_0_doorTo b_0_labels b_0_oldXs b_0_oldYs b_0_oldLabels b_0_names b_0_oldNames b_0_wanted b_0_common b_0_flatEdges b_0_upEdges b_0_isPoint b_0_stack b_0_pieceLines b_0_outs b_0_isSeen b_0_ringSpaces b_0_ringStarts b_0_ringSizes b_0_ringLeast b_0_looseLines b_0_looseXs b_0_looseYs b_0_looseReaches b_0_far cI x12 v_0_lines v_0_isFresh v_0_hasRun v_0_runs v_0_nx v_0_ny v_0_spaces v_0_oldNx v_0_oldNy v_0_oldSpaces v_0_points v_0_pieces v_0_rings v_0_outsideSides v_0_looseCount f_0_xs f_0_ys f_0_pieceBegins f_0_pieceEnds f_0_pieceLeft f_0_pieceRight) := hD.sub [6, 0, 1, 2, 3, 4, 5] (by decide) rfl
    obtain ⟨x17, hb15, hm⟩ := bd1_e hm
    have K14 : ∀ (H : Heap) (locs : List Loc) (ls : Array Slot), va_P (dC, dI) vwCl (wl_Mo_between a_0 a_0_xs a_0_ys a_0_pieceBegins a_0_pieceEnds a_0_pieceLeft a_0_pieceRight b_0_isFlat b_0_across b_0_lows b_0_highs b_0_thick b_0_doorCounts b_0_doorFrom b_0_doorTo b_0_labels b_0_oldXs b_0_oldYs b_0_oldLabels b_0_names b_0_oldNames b_0_wanted b_0_common b_0_flatEdges b_0_upEdges b_0_isPoint b_0_stack b_0_pieceLines b_0_outs b_0_isSeen b_0_ringSpaces b_0_ringStarts b_0_ringSizes b_0_ringLeast b_0_looseLines b_0_looseXs b_0_looseYs b_0_looseReaches b_0_far cI x12 v_0_lines v_0_isFresh v_0_hasRun v_0_runs v_0_nx v_0_ny v_0_spaces v_0_oldNx v_0_oldNy v_0_oldSpaces v_0_points v_0_pieces v_0_rings v_0_outsideSides v_0_looseCount f_0_xs f_0_ys f_0_pieceBegins f_0_pieceEnds f_0_pieceLeft f_0_pieceRight) H → va_D A (wl_Mo_between a_0 a_0_xs a_0_ys a_0_pieceBegins a_0_pieceEnds a_0_pieceLeft a_0_pieceRight b_0_isFlat b_0_across b_0_lows b_0_highs b_0_thick b_0_doorCounts b_0_doorFrom b_0_doorTo b_0_labels b_0_oldXs b_0_oldYs b_0_oldLabels b_0_names b_0_oldNames b_0_wanted b_0_common b_0_flatEdges b_0_upEdges b_0_isPoint b_0_stack b_0_pieceLines b_0_outs b_0_isSeen b_0_ringSpaces b_0_ringStarts b_0_ringSizes b_0_ringLeast b_0_looseLines b_0_looseXs b_0_looseYs b_0_looseReaches b_0_far cI x12 v_0_lines v_0_isFresh v_0_hasRun v_0_runs v_0_nx v_0_ny v_0_spaces v_0_oldNx v_0_oldNy v_0_oldSpaces v_0_points v_0_pieces v_0_rings v_0_outsideSides v_0_looseCount f_0_xs f_0_ys f_0_pieceBegins f_0_pieceEnds f_0_pieceLeft f_0_pieceRight) → va_S A s.heap H locs → lv_has ls 3 [] → W p l e rm_Mo_between s m args below meth c H locs 0 0 Q (F0 m 38 ls [.int x17]) := by
      intro H locs ls hP hD hS hl
      cases hm
      exact hret _ H locs ls d_Mo_between_38 hP hD hS
    replace hm := hb15
    refine lv_if_eq (tgt := 37) hx hb d_Mo_between_25 (by decide) (fun c18 => ?_) (fun c18 => ?_)
    · replace hm := if_t hm c18
      refine lv_iconst (v := 0) hx hb d_Mo_between_37 (by decide) ?_
      cases hm
      exact K14 H locs ls hP hD hS (lv_sub hl [] rfl)
    · replace hm := if_f hm c18
      refine lv_aload_n hx hb d_Mo_between_28 rfl (lv_at hl 0 rfl) ?_
      refine lv_iload_n hx hb d_Mo_between_29 rfl (lv_at hl 1 rfl) ?_
      refine lv_iload_n hx hb d_Mo_between_30 rfl (lv_at hl 2 rfl) ?_
      obtain ⟨r19, hb20, hm⟩ := bd1_e hm
      have hPc := hP.sub (ws' := (wl_Mo_lengthBetween a_0 a_0_xs a_0_ys a_0_pieceBegins a_0_pieceEnds a_0_pieceLeft a_0_pieceRight b_0_isFlat b_0_across b_0_lows b_0_highs b_0_thick b_0_doorCounts b_0_doorFrom b_0_doorTo b_0_labels b_0_oldXs b_0_oldYs b_0_oldLabels b_0_names b_0_oldNames b_0_wanted b_0_common b_0_flatEdges b_0_upEdges b_0_isPoint b_0_stack b_0_pieceLines b_0_outs b_0_isSeen b_0_ringSpaces b_0_ringStarts b_0_ringSizes b_0_ringLeast b_0_looseLines b_0_looseXs b_0_looseYs b_0_looseReaches b_0_far cI x12 v_0_lines v_0_isFresh v_0_hasRun v_0_runs v_0_nx v_0_ny v_0_spaces v_0_oldNx v_0_oldNy v_0_oldSpaces v_0_points v_0_pieces v_0_rings v_0_outsideSides v_0_looseCount f_0_xs f_0_ys f_0_pieceBegins f_0_pieceEnds f_0_pieceLeft f_0_pieceRight)) [0, 1, 2, 3, 4, 5, 6] rfl
      have hDc := hD.sub (ws' := (wl_Mo_lengthBetween a_0 a_0_xs a_0_ys a_0_pieceBegins a_0_pieceEnds a_0_pieceLeft a_0_pieceRight b_0_isFlat b_0_across b_0_lows b_0_highs b_0_thick b_0_doorCounts b_0_doorFrom b_0_doorTo b_0_labels b_0_oldXs b_0_oldYs b_0_oldLabels b_0_names b_0_oldNames b_0_wanted b_0_common b_0_flatEdges b_0_upEdges b_0_isPoint b_0_stack b_0_pieceLines b_0_outs b_0_isSeen b_0_ringSpaces b_0_ringStarts b_0_ringSizes b_0_ringLeast b_0_looseLines b_0_looseXs b_0_looseYs b_0_looseReaches b_0_far cI x12 v_0_lines v_0_isFresh v_0_hasRun v_0_runs v_0_nx v_0_ny v_0_spaces v_0_oldNx v_0_oldNy v_0_oldSpaces v_0_points v_0_pieces v_0_rings v_0_outsideSides v_0_looseCount f_0_xs f_0_ys f_0_pieceBegins f_0_pieceEnds f_0_pieceLeft f_0_pieceRight)) [0, 1, 2, 3, 4, 5, 6] (by decide) rfl
      refine cl_i (wc' := (wl_Mo_lengthBetween a_0 a_0_xs a_0_ys a_0_pieceBegins a_0_pieceEnds a_0_pieceLeft a_0_pieceRight b_0_isFlat b_0_across b_0_lows b_0_highs b_0_thick b_0_doorCounts b_0_doorFrom b_0_doorTo b_0_labels b_0_oldXs b_0_oldYs b_0_oldLabels b_0_names b_0_oldNames b_0_wanted b_0_common b_0_flatEdges b_0_upEdges b_0_isPoint b_0_stack b_0_pieceLines b_0_outs b_0_isSeen b_0_ringSpaces b_0_ringStarts b_0_ringSizes b_0_ringLeast b_0_looseLines b_0_looseXs b_0_looseYs b_0_looseReaches b_0_far cI x12 v_0_lines v_0_isFresh v_0_hasRun v_0_runs v_0_nx v_0_ny v_0_spaces v_0_oldNx v_0_oldNy v_0_oldSpaces v_0_points v_0_pieces v_0_rings v_0_outsideSides v_0_looseCount f_0_xs f_0_ys f_0_pieceBegins f_0_pieceEnds f_0_pieceLeft f_0_pieceRight)) (va_runV (As := [.int p1, .int p2]) (rest := []) ⟨hx, hb, hml, hown, hts⟩ (c_Mo_lengthBetween l dC dI (cI := cI) (cZ := cZ) (cJ := cJ) a_0 a_0_xs a_0_ys a_0_pieceBegins a_0_pieceEnds a_0_pieceLeft a_0_pieceRight b_0_isFlat b_0_across b_0_lows b_0_highs b_0_thick b_0_doorCounts b_0_doorFrom b_0_doorTo b_0_labels b_0_oldXs b_0_oldYs b_0_oldLabels b_0_names b_0_oldNames b_0_wanted b_0_common b_0_flatEdges b_0_upEdges b_0_isPoint b_0_stack b_0_pieceLines b_0_outs b_0_isSeen b_0_ringSpaces b_0_ringStarts b_0_ringSizes b_0_ringLeast b_0_looseLines b_0_looseXs b_0_looseYs b_0_looseReaches b_0_far H.size x12 v_0_lines v_0_isFresh v_0_hasRun v_0_runs v_0_nx v_0_ny v_0_spaces v_0_oldNx v_0_oldNy v_0_oldSpaces v_0_points v_0_pieces v_0_rings v_0_outsideSides v_0_looseCount f_0_xs f_0_ys f_0_pieceBegins f_0_pieceEnds f_0_pieceLeft f_0_pieceRight p1 p2 r19 hb20) (cwV 2 hts (gl_V k_454 k_453 k_452 k_277 k_451) rfl rfl rfl (by decide +kernel) ⟨Nat.le_of_ble_eq_true rfl, Nat.le_of_ble_eq_true rfl⟩) ⟨PP_blind, va_recv hK hPc (ci := 11) (q0 := 0) rfl rfl, fun U hU hW => PP_at hK hN hPc hDc hU hW⟩ rfl rfl hl.1 rfl (lv_room (Nat.le_of_ble_eq_true rfl)) d_Mo_between_31 ⟨Nat.zero_le _, Nat.zero_le _⟩) hP hD hS hA [0, 1, 2, 3, 4, 5, 6] [] rfl rfl (by decide) (by decide) (fun H locs hP hD hS => ?_)
      have hP : va_P (dC, dI) vwCl (wl_Mo_between a_0 a_0_xs a_0_ys a_0_pieceBegins a_0_pieceEnds a_0_pieceLeft a_0_pieceRight b_0_isFlat b_0_across b_0_lows b_0_highs b_0_thick b_0_doorCounts b_0_doorFrom b_0_doorTo b_0_labels b_0_oldXs b_0_oldYs b_0_oldLabels b_0_names b_0_oldNames b_0_wanted b_0_common b_0_flatEdges b_0_upEdges b_0_isPoint b_0_stack b_0_pieceLines b_0_outs b_0_isSeen b_0_ringSpaces b_0_ringStarts b_0_ringSizes b_0_ringLeast b_0_looseLines b_0_looseXs b_0_looseYs b_0_looseReaches b_0_far cI x12 v_0_lines v_0_isFresh v_0_hasRun v_0_runs v_0_nx v_0_ny v_0_spaces v_0_oldNx v_0_oldNy v_0_oldSpaces v_0_points v_0_pieces v_0_rings v_0_outsideSides v_0_looseCount f_0_xs f_0_ys f_0_pieceBegins f_0_pieceEnds f_0_pieceLeft f_0_pieceRight) H := hP.sub [0, 1, 2, 3, 4, 5, 6] rfl
      have hD : va_D A (wl_Mo_between a_0 a_0_xs a_0_ys a_0_pieceBegins a_0_pieceEnds a_0_pieceLeft a_0_pieceRight b_0_isFlat b_0_across b_0_lows b_0_highs b_0_thick b_0_doorCounts b_0_doorFrom b_0_doorTo b_0_labels b_0_oldXs b_0_oldYs b_0_oldLabels b_0_names b_0_oldNames b_0_wanted b_0_common b_0_flatEdges b_0_upEdges b_0_isPoint b_0_stack b_0_pieceLines b_0_outs b_0_isSeen b_0_ringSpaces b_0_ringStarts b_0_ringSizes b_0_ringLeast b_0_looseLines b_0_looseXs b_0_looseYs b_0_looseReaches b_0_far cI x12 v_0_lines v_0_isFresh v_0_hasRun v_0_runs v_0_nx v_0_ny v_0_spaces v_0_oldNx v_0_oldNy v_0_oldSpaces v_0_points v_0_pieces v_0_rings v_0_outsideSides v_0_looseCount f_0_xs f_0_ys f_0_pieceBegins f_0_pieceEnds f_0_pieceLeft f_0_pieceRight) := hD.sub [0, 1, 2, 3, 4, 5, 6] (by decide) rfl
      refine lv_goto (tgt := 38) hx hb d_Mo_between_34 (by decide) ?_
      cases hm
      exact K14 H locs ls hP hD hS (lv_sub hl [] rfl)
  replace hm := hb4
  refine lv_if_eq (tgt := 21) hx hb d_Mo_between_6 (by decide) (fun c7 => ?_) (fun c7 => ?_)
  · replace hm := if_t hm c7
    refine lv_iconst (v := 0) hx hb d_Mo_between_21 (by decide) ?_
    cases hm
    exact K3 H locs ls hP hD hS (lv_sub hl [0, 1, 2] rfl)
  · replace hm := if_f hm c7
    refine lv_aload_n hx hb d_Mo_between_9 rfl (lv_at hl 0 rfl) ?_
    refine lv_iload_n hx hb d_Mo_between_10 rfl (lv_at hl 2 rfl) ?_
    obtain ⟨r8, hb9, hm⟩ := bd1_e hm
    have hPc := hP.sub (ws' := (wl_Mo_isAny a_0 b_0_isFlat b_0_across b_0_lows b_0_highs b_0_thick b_0_doorCounts b_0_doorFrom b_0_doorTo a_0_xs a_0_ys b_0_labels b_0_oldXs b_0_oldYs b_0_oldLabels b_0_names b_0_oldNames b_0_wanted b_0_common b_0_flatEdges b_0_upEdges b_0_isPoint b_0_stack b_0_pieceLines a_0_pieceBegins a_0_pieceEnds a_0_pieceLeft a_0_pieceRight b_0_outs b_0_isSeen b_0_ringSpaces b_0_ringStarts b_0_ringSizes b_0_ringLeast b_0_looseLines b_0_looseXs b_0_looseYs b_0_looseReaches b_0_far v_0_code v_0_lines v_0_isFresh v_0_hasRun v_0_runs v_0_nx v_0_ny v_0_spaces v_0_oldNx v_0_oldNy v_0_oldSpaces v_0_points v_0_pieces v_0_rings v_0_outsideSides v_0_looseCount)) [0] rfl
    have hDc := hD.sub (ws' := (wl_Mo_isAny a_0 b_0_isFlat b_0_across b_0_lows b_0_highs b_0_thick b_0_doorCounts b_0_doorFrom b_0_doorTo a_0_xs a_0_ys b_0_labels b_0_oldXs b_0_oldYs b_0_oldLabels b_0_names b_0_oldNames b_0_wanted b_0_common b_0_flatEdges b_0_upEdges b_0_isPoint b_0_stack b_0_pieceLines a_0_pieceBegins a_0_pieceEnds a_0_pieceLeft a_0_pieceRight b_0_outs b_0_isSeen b_0_ringSpaces b_0_ringStarts b_0_ringSizes b_0_ringLeast b_0_looseLines b_0_looseXs b_0_looseYs b_0_looseReaches b_0_far v_0_code v_0_lines v_0_isFresh v_0_hasRun v_0_runs v_0_nx v_0_ny v_0_spaces v_0_oldNx v_0_oldNy v_0_oldSpaces v_0_points v_0_pieces v_0_rings v_0_outsideSides v_0_looseCount)) [0] (by decide) rfl
    refine cl_i (wc' := (wl_Mo_isAny a_0 b_0_isFlat b_0_across b_0_lows b_0_highs b_0_thick b_0_doorCounts b_0_doorFrom b_0_doorTo a_0_xs a_0_ys b_0_labels b_0_oldXs b_0_oldYs b_0_oldLabels b_0_names b_0_oldNames b_0_wanted b_0_common b_0_flatEdges b_0_upEdges b_0_isPoint b_0_stack b_0_pieceLines a_0_pieceBegins a_0_pieceEnds a_0_pieceLeft a_0_pieceRight b_0_outs b_0_isSeen b_0_ringSpaces b_0_ringStarts b_0_ringSizes b_0_ringLeast b_0_looseLines b_0_looseXs b_0_looseYs b_0_looseReaches b_0_far v_0_code v_0_lines v_0_isFresh v_0_hasRun v_0_runs v_0_nx v_0_ny v_0_spaces v_0_oldNx v_0_oldNy v_0_oldSpaces v_0_points v_0_pieces v_0_rings v_0_outsideSides v_0_looseCount)) (va_runV (As := [.int p2]) (rest := [.ref a_0]) ⟨hx, hb, hml, hown, hts⟩ (c_Mo_isAny l dC dI (cI := cI) (cZ := cZ) (cJ := cJ) a_0 b_0_isFlat b_0_across b_0_lows b_0_highs b_0_thick b_0_doorCounts b_0_doorFrom b_0_doorTo a_0_xs a_0_ys b_0_labels b_0_oldXs b_0_oldYs b_0_oldLabels b_0_names b_0_oldNames b_0_wanted b_0_common b_0_flatEdges b_0_upEdges b_0_isPoint b_0_stack b_0_pieceLines a_0_pieceBegins a_0_pieceEnds a_0_pieceLeft a_0_pieceRight b_0_outs b_0_isSeen b_0_ringSpaces b_0_ringStarts b_0_ringSizes b_0_ringLeast b_0_looseLines b_0_looseXs b_0_looseYs b_0_looseReaches b_0_far H.size v_0_code v_0_lines v_0_isFresh v_0_hasRun v_0_runs v_0_nx v_0_ny v_0_spaces v_0_oldNx v_0_oldNy v_0_oldSpaces v_0_points v_0_pieces v_0_rings v_0_outsideSides v_0_looseCount p2 r8 hb9) (cwV 1 hts (gl_V k_458 k_457 k_456 k_277 k_455) rfl rfl rfl (by decide +kernel) ⟨Nat.le_of_ble_eq_true rfl, Nat.le_of_ble_eq_true rfl⟩) ⟨PP_blind, va_recv hK hPc (ci := 11) (q0 := 0) rfl rfl, fun U hU hW => PP_at hK hN hPc hDc hU hW⟩ rfl rfl hl.1 rfl (lv_room (Nat.le_of_ble_eq_true rfl)) d_Mo_between_11 ⟨Nat.zero_le _, Nat.zero_le _⟩) hP hD hS hA [0] [1, 2, 3, 4, 5, 6] rfl rfl (by decide) (by decide) (fun H locs hP hD hS => ?_)
    have hP : va_P (dC, dI) vwCl (wl_Mo_between a_0 a_0_xs a_0_ys a_0_pieceBegins a_0_pieceEnds a_0_pieceLeft a_0_pieceRight b_0_isFlat b_0_across b_0_lows b_0_highs b_0_thick b_0_doorCounts b_0_doorFrom b_0_doorTo b_0_labels b_0_oldXs b_0_oldYs b_0_oldLabels b_0_names b_0_oldNames b_0_wanted b_0_common b_0_flatEdges b_0_upEdges b_0_isPoint b_0_stack b_0_pieceLines b_0_outs b_0_isSeen b_0_ringSpaces b_0_ringStarts b_0_ringSizes b_0_ringLeast b_0_looseLines b_0_looseXs b_0_looseYs b_0_looseReaches b_0_far cI v_0_code v_0_lines v_0_isFresh v_0_hasRun v_0_runs v_0_nx v_0_ny v_0_spaces v_0_oldNx v_0_oldNy v_0_oldSpaces v_0_points v_0_pieces v_0_rings v_0_outsideSides v_0_looseCount f_0_xs f_0_ys f_0_pieceBegins f_0_pieceEnds f_0_pieceLeft f_0_pieceRight) H := hP.sub [6, 0, 1, 2, 3, 4, 5] rfl
    have hD : va_D A (wl_Mo_between a_0 a_0_xs a_0_ys a_0_pieceBegins a_0_pieceEnds a_0_pieceLeft a_0_pieceRight b_0_isFlat b_0_across b_0_lows b_0_highs b_0_thick b_0_doorCounts b_0_doorFrom b_0_doorTo b_0_labels b_0_oldXs b_0_oldYs b_0_oldLabels b_0_names b_0_oldNames b_0_wanted b_0_common b_0_flatEdges b_0_upEdges b_0_isPoint b_0_stack b_0_pieceLines b_0_outs b_0_isSeen b_0_ringSpaces b_0_ringStarts b_0_ringSizes b_0_ringLeast b_0_looseLines b_0_looseXs b_0_looseYs b_0_looseReaches b_0_far cI v_0_code v_0_lines v_0_isFresh v_0_hasRun v_0_runs v_0_nx v_0_ny v_0_spaces v_0_oldNx v_0_oldNy v_0_oldSpaces v_0_points v_0_pieces v_0_rings v_0_outsideSides v_0_looseCount f_0_xs f_0_ys f_0_pieceBegins f_0_pieceEnds f_0_pieceLeft f_0_pieceRight) := hD.sub [6, 0, 1, 2, 3, 4, 5] (by decide) rfl
    refine lv_if_eq (tgt := 21) hx hb d_Mo_between_14 (by decide) (fun c10 => ?_) (fun c10 => ?_)
    · replace hm := if_t hm c10
      refine lv_iconst (v := 0) hx hb d_Mo_between_21 (by decide) ?_
      cases hm
      exact K3 H locs ls hP hD hS (lv_sub hl [0, 1, 2] rfl)
    · replace hm := if_f hm c10
      refine lv_iconst (v := 1) hx hb d_Mo_between_17 (by decide) ?_
      refine lv_goto (tgt := 22) hx hb d_Mo_between_18 (by decide) ?_
      cases hm
      exact K3 H locs ls hP hD hS (lv_sub hl [0, 1, 2] rfl)
set_option maxHeartbeats 4000000 in
set_option maxRecDepth 100000 in
theorem c_Mo_between (l : Launch) (dC : Nat → ClassId) (dI : Nat → Nat → Nat) {cI cZ cJ : ClassId} (a_0 a_0_xs a_0_ys a_0_pieceBegins a_0_pieceEnds a_0_pieceLeft a_0_pieceRight b_0_isFlat b_0_across b_0_lows b_0_highs b_0_thick b_0_doorCounts b_0_doorFrom b_0_doorTo b_0_labels b_0_oldXs b_0_oldYs b_0_oldLabels b_0_names b_0_oldNames b_0_wanted b_0_common b_0_flatEdges b_0_upEdges b_0_isPoint b_0_stack b_0_pieceLines b_0_outs b_0_isSeen b_0_ringSpaces b_0_ringStarts b_0_ringSizes b_0_ringLeast b_0_looseLines b_0_looseXs b_0_looseYs b_0_looseReaches b_0_far : Nat) (sz : Nat) (v_0_code : Int32) (v_0_lines : Int32) (v_0_isFresh : Int32) (v_0_hasRun : Int32) (v_0_runs : Int32) (v_0_nx : Int32) (v_0_ny : Int32) (v_0_spaces : Int32) (v_0_oldNx : Int32) (v_0_oldNy : Int32) (v_0_oldSpaces : Int32) (v_0_points : Int32) (v_0_pieces : Int32) (v_0_rings : Int32) (v_0_outsideSides : Int32) (v_0_looseCount : Int32) (f_0_xs : Nat → Int32) (f_0_ys : Nat → Int32) (f_0_pieceBegins : Nat → Int32) (f_0_pieceEnds : Nat → Int32) (f_0_pieceLeft : Nat → Int32) (f_0_pieceRight : Nat → Int32) (p1 : Int32) (p2 : Int32) (R0 : Int32) (ov_0_code : Int32) (hm : m_Mo_between p1 p2 v_0_code v_0_isFresh v_0_spaces v_0_pieces f_0_xs f_0_ys f_0_pieceBegins f_0_pieceEnds f_0_pieceLeft f_0_pieceRight = some (R0, ov_0_code)) : Met l y_Mo_between w_Mo_between rm_Mo_between (PP dC dI [(cI, .int), (cZ, .boolean), (cJ, .long)] [.ref a_0, .int p1, .int p2] sz (wl_Mo_between a_0 a_0_xs a_0_ys a_0_pieceBegins a_0_pieceEnds a_0_pieceLeft a_0_pieceRight b_0_isFlat b_0_across b_0_lows b_0_highs b_0_thick b_0_doorCounts b_0_doorFrom b_0_doorTo b_0_labels b_0_oldXs b_0_oldYs b_0_oldLabels b_0_names b_0_oldNames b_0_wanted b_0_common b_0_flatEdges b_0_upEdges b_0_isPoint b_0_stack b_0_pieceLines b_0_outs b_0_isSeen b_0_ringSpaces b_0_ringStarts b_0_ringSizes b_0_ringLeast b_0_looseLines b_0_looseXs b_0_looseYs b_0_looseReaches b_0_far cI v_0_code v_0_lines v_0_isFresh v_0_hasRun v_0_runs v_0_nx v_0_ny v_0_spaces v_0_oldNx v_0_oldNy v_0_oldSpaces v_0_points v_0_pieces v_0_rings v_0_outsideSides v_0_looseCount f_0_xs f_0_ys f_0_pieceBegins f_0_pieceEnds f_0_pieceLeft f_0_pieceRight)) (QI dC dI [(cI, .int), (cZ, .boolean), (cJ, .long)] sz (wl_Mo_between a_0 a_0_xs a_0_ys a_0_pieceBegins a_0_pieceEnds a_0_pieceLeft a_0_pieceRight b_0_isFlat b_0_across b_0_lows b_0_highs b_0_thick b_0_doorCounts b_0_doorFrom b_0_doorTo b_0_labels b_0_oldXs b_0_oldYs b_0_oldLabels b_0_names b_0_oldNames b_0_wanted b_0_common b_0_flatEdges b_0_upEdges b_0_isPoint b_0_stack b_0_pieceLines b_0_outs b_0_isSeen b_0_ringSpaces b_0_ringStarts b_0_ringSizes b_0_ringLeast b_0_looseLines b_0_looseXs b_0_looseYs b_0_looseReaches b_0_far cI v_0_code v_0_lines v_0_isFresh v_0_hasRun v_0_runs v_0_nx v_0_ny v_0_spaces v_0_oldNx v_0_oldNy v_0_oldSpaces v_0_points v_0_pieces v_0_rings v_0_outsideSides v_0_looseCount f_0_xs f_0_ys f_0_pieceBegins f_0_pieceEnds f_0_pieceLeft f_0_pieceRight) (wl_Mo_between a_0 a_0_xs a_0_ys a_0_pieceBegins a_0_pieceEnds a_0_pieceLeft a_0_pieceRight b_0_isFlat b_0_across b_0_lows b_0_highs b_0_thick b_0_doorCounts b_0_doorFrom b_0_doorTo b_0_labels b_0_oldXs b_0_oldYs b_0_oldLabels b_0_names b_0_oldNames b_0_wanted b_0_common b_0_flatEdges b_0_upEdges b_0_isPoint b_0_stack b_0_pieceLines b_0_outs b_0_isSeen b_0_ringSpaces b_0_ringStarts b_0_ringSizes b_0_ringLeast b_0_looseLines b_0_looseXs b_0_looseYs b_0_looseReaches b_0_far cI ov_0_code v_0_lines v_0_isFresh v_0_hasRun v_0_runs v_0_nx v_0_ny v_0_spaces v_0_oldNx v_0_oldNy v_0_oldSpaces v_0_points v_0_pieces v_0_rings v_0_outsideSides v_0_looseCount f_0_xs f_0_ys f_0_pieceBegins f_0_pieceEnds f_0_pieceLeft f_0_pieceRight) R0) 0 0 (va_A (wl_Mo_between a_0 a_0_xs a_0_ys a_0_pieceBegins a_0_pieceEnds a_0_pieceLeft a_0_pieceRight b_0_isFlat b_0_across b_0_lows b_0_highs b_0_thick b_0_doorCounts b_0_doorFrom b_0_doorTo b_0_labels b_0_oldXs b_0_oldYs b_0_oldLabels b_0_names b_0_oldNames b_0_wanted b_0_common b_0_flatEdges b_0_upEdges b_0_isPoint b_0_stack b_0_pieceLines b_0_outs b_0_isSeen b_0_ringSpaces b_0_ringStarts b_0_ringSizes b_0_ringLeast b_0_looseLines b_0_looseXs b_0_looseYs b_0_looseReaches b_0_far cI v_0_code v_0_lines v_0_isFresh v_0_hasRun v_0_runs v_0_nx v_0_ny v_0_spaces v_0_oldNx v_0_oldNy v_0_oldSpaces v_0_points v_0_pieces v_0_rings v_0_outsideSides v_0_looseCount f_0_xs f_0_ys f_0_pieceBegins f_0_pieceEnds f_0_pieceLeft f_0_pieceRight) sz) := by
  refine Met.ofW (cc := b_Mo_between) (maxL := 3) (ret := (some .int)) (by decide) rfl ?_
  intro p e s m args below meth c s₁ B hml hv
  obtain ⟨rfl, hsz, hP, hK, hD0, hN⟩ := hv
  subst hsz
  have hl := lv_entry ([.ref a_0, .int p1, .int p2]) (n := 3) (Nat.le_of_ble_eq_true rfl)
  rw [lg_entry_eq]
  generalize (lg_sl ([.ref a_0, .int p1, .int p2]) ++ List.replicate (3 - (lg_sl ([.ref a_0, .int p1, .int p2])).length) Slot.unset).toArray = ls at hl ⊢
  exact t_Mo_between a_0 a_0_xs a_0_ys a_0_pieceBegins a_0_pieceEnds a_0_pieceLeft a_0_pieceRight b_0_isFlat b_0_across b_0_lows b_0_highs b_0_thick b_0_doorCounts b_0_doorFrom b_0_doorTo b_0_labels b_0_oldXs b_0_oldYs b_0_oldLabels b_0_names b_0_oldNames b_0_wanted b_0_common b_0_flatEdges b_0_upEdges b_0_isPoint b_0_stack b_0_pieceLines b_0_outs b_0_isSeen b_0_ringSpaces b_0_ringStarts b_0_ringSizes b_0_ringLeast b_0_looseLines b_0_looseXs b_0_looseYs b_0_looseReaches b_0_far v_0_code v_0_lines v_0_isFresh v_0_hasRun v_0_runs v_0_nx v_0_ny v_0_spaces v_0_oldNx v_0_oldNy v_0_oldSpaces v_0_points v_0_pieces v_0_rings v_0_outsideSides v_0_looseCount f_0_xs f_0_ys f_0_pieceBegins f_0_pieceEnds f_0_pieceLeft f_0_pieceRight p1 p2 R0 ov_0_code B.exec B.bytes hml (findClass_of_methodNamed B.named) (atoms_spec (ws := w_Mo_between) B.pre) hK hN (fun q h => Or.inr h) (fun pc H locs ls hd hP9 hD9 hS => W.iret B.exec B.bytes B.returns (fun t ht hW => ⟨⟨_, (), rfl, rfl, by rw [ht]; exact hP9, va_K.moved hW.alike hK, hD9⟩, hS.F ht⟩) hS.2.2 hd) hm s.heap [] ls hP hD0.self va_S.rf hl

theorem k_459 : ((.fieldLink "SpaceCyclesModel" 123 "SpaceCyclesModel" "far" "[I") : Cond) ∈ gl := gl_i 1174 (by decide +kernel) (by decide +kernel)
-- SpaceCyclesModel.passes(II)Z
abbrev b_Mo_passes : ByteArray := prog_13_method_49_code
abbrev y_Mo_passes : MethodName := ⟨"SpaceCyclesModel", "passes", "(II)Z"⟩
abbrev w_Mo_passes : List Cond := Cond.code y_Mo_passes b_Mo_passes 11 (some .boolean) :: gl
abbrev rm_Mo_passes : Room := { frames := 1, cells := 0, slots := 0, locals := 25 }
theorem d_Mo_passes_0 : decode b_Mo_passes 0 = .ok (.aload_n 0, 1) := by decide +kernel
theorem d_Mo_passes_1 : decode b_Mo_passes 1 = .ok (.getfield 78, 3) := by decide +kernel
theorem d_Mo_passes_4 : decode b_Mo_passes 4 = .ok (.iload_n 1, 1) := by decide +kernel
theorem d_Mo_passes_5 : decode b_Mo_passes 5 = .ok (.iaload, 1) := by decide +kernel
theorem d_Mo_passes_6 : decode b_Mo_passes 6 = .ok (.istore_n 3, 1) := by decide +kernel
theorem d_Mo_passes_7 : decode b_Mo_passes 7 = .ok (.aload_n 0, 1) := by decide +kernel
theorem d_Mo_passes_8 : decode b_Mo_passes 8 = .ok (.getfield 7, 3) := by decide +kernel
theorem d_Mo_passes_11 : decode b_Mo_passes 11 = .ok (.iload_n 3, 1) := by decide +kernel
theorem d_Mo_passes_12 : decode b_Mo_passes 12 = .ok (.baload, 1) := by decide +kernel
theorem d_Mo_passes_13 : decode b_Mo_passes 13 = .ok (.ifCond .eq 20, 3) := by decide +kernel
theorem d_Mo_passes_16 : decode b_Mo_passes 16 = .ok (.aload_n 0, 1) := by decide +kernel
theorem d_Mo_passes_17 : decode b_Mo_passes 17 = .ok (.getfield 35, 3) := by decide +kernel
theorem d_Mo_passes_20 : decode b_Mo_passes 20 = .ok (.aload_n 0, 1) := by decide +kernel
theorem d_Mo_passes_21 : decode b_Mo_passes 21 = .ok (.getfield 81, 3) := by decide +kernel
theorem d_Mo_passes_24 : decode b_Mo_passes 24 = .ok (.iload_n 1, 1) := by decide +kernel
theorem d_Mo_passes_25 : decode b_Mo_passes 25 = .ok (.iaload, 1) := by decide +kernel
theorem d_Mo_passes_26 : decode b_Mo_passes 26 = .ok (.bipush 42, 2) := by decide +kernel
theorem d_Mo_passes_28 : decode b_Mo_passes 28 = .ok (.idiv, 1) := by decide +kernel
theorem d_Mo_passes_29 : decode b_Mo_passes 29 = .ok (.iaload, 1) := by decide +kernel
theorem d_Mo_passes_30 : decode b_Mo_passes 30 = .ok (.goto 17, 3) := by decide +kernel
theorem d_Mo_passes_33 : decode b_Mo_passes 33 = .ok (.aload_n 0, 1) := by decide +kernel
theorem d_Mo_passes_34 : decode b_Mo_passes 34 = .ok (.getfield 38, 3) := by decide +kernel
theorem d_Mo_passes_37 : decode b_Mo_passes 37 = .ok (.aload_n 0, 1) := by decide +kernel
theorem d_Mo_passes_38 : decode b_Mo_passes 38 = .ok (.getfield 81, 3) := by decide +kernel
theorem d_Mo_passes_41 : decode b_Mo_passes 41 = .ok (.iload_n 1, 1) := by decide +kernel
theorem d_Mo_passes_42 : decode b_Mo_passes 42 = .ok (.iaload, 1) := by decide +kernel
theorem d_Mo_passes_43 : decode b_Mo_passes 43 = .ok (.bipush 42, 2) := by decide +kernel
theorem d_Mo_passes_45 : decode b_Mo_passes 45 = .ok (.irem, 1) := by decide +kernel
theorem d_Mo_passes_46 : decode b_Mo_passes 46 = .ok (.iaload, 1) := by decide +kernel
theorem d_Mo_passes_47 : decode b_Mo_passes 47 = .ok (.aload_n 0, 1) := by decide +kernel
theorem d_Mo_passes_48 : decode b_Mo_passes 48 = .ok (.getfield 17, 3) := by decide +kernel
theorem d_Mo_passes_51 : decode b_Mo_passes 51 = .ok (.iload_n 3, 1) := by decide +kernel
theorem d_Mo_passes_52 : decode b_Mo_passes 52 = .ok (.iaload, 1) := by decide +kernel
theorem d_Mo_passes_53 : decode b_Mo_passes 53 = .ok (.isub, 1) := by decide +kernel
theorem d_Mo_passes_54 : decode b_Mo_passes 54 = .ok (.istore 4, 2) := by decide +kernel
theorem d_Mo_passes_56 : decode b_Mo_passes 56 = .ok (.iload 4, 2) := by decide +kernel
theorem d_Mo_passes_58 : decode b_Mo_passes 58 = .ok (.aload_n 0, 1) := by decide +kernel
theorem d_Mo_passes_59 : decode b_Mo_passes 59 = .ok (.iload_n 1, 1) := by decide +kernel
theorem d_Mo_passes_60 : decode b_Mo_passes 60 = .ok (.invokevirtual 292, 3) := by decide +kernel
theorem d_Mo_passes_63 : decode b_Mo_passes 63 = .ok (.iadd, 1) := by decide +kernel
theorem d_Mo_passes_64 : decode b_Mo_passes 64 = .ok (.istore 5, 2) := by decide +kernel
theorem d_Mo_passes_66 : decode b_Mo_passes 66 = .ok (.iconst 0, 1) := by decide +kernel
theorem d_Mo_passes_67 : decode b_Mo_passes 67 = .ok (.istore 6, 2) := by decide +kernel
theorem d_Mo_passes_69 : decode b_Mo_passes 69 = .ok (.iconst 0, 1) := by decide +kernel
theorem d_Mo_passes_70 : decode b_Mo_passes 70 = .ok (.istore 7, 2) := by decide +kernel
theorem d_Mo_passes_72 : decode b_Mo_passes 72 = .ok (.iload 7, 2) := by decide +kernel
theorem d_Mo_passes_74 : decode b_Mo_passes 74 = .ok (.aload_n 0, 1) := by decide +kernel
theorem d_Mo_passes_75 : decode b_Mo_passes 75 = .ok (.getfield 26, 3) := by decide +kernel
theorem d_Mo_passes_78 : decode b_Mo_passes 78 = .ok (.iload_n 3, 1) := by decide +kernel
theorem d_Mo_passes_79 : decode b_Mo_passes 79 = .ok (.iaload, 1) := by decide +kernel
theorem d_Mo_passes_80 : decode b_Mo_passes 80 = .ok (.if_icmp .ge 55, 3) := by decide +kernel
theorem d_Mo_passes_83 : decode b_Mo_passes 83 = .ok (.iload 6, 2) := by decide +kernel
theorem d_Mo_passes_85 : decode b_Mo_passes 85 = .ok (.ifCond .ne 37, 3) := by decide +kernel
theorem d_Mo_passes_88 : decode b_Mo_passes 88 = .ok (.iload 4, 2) := by decide +kernel
theorem d_Mo_passes_90 : decode b_Mo_passes 90 = .ok (.iload 5, 2) := by decide +kernel
theorem d_Mo_passes_92 : decode b_Mo_passes 92 = .ok (.aload_n 0, 1) := by decide +kernel
theorem d_Mo_passes_93 : decode b_Mo_passes 93 = .ok (.getfield 29, 3) := by decide +kernel
theorem d_Mo_passes_96 : decode b_Mo_passes 96 = .ok (.bipush 6, 2) := by decide +kernel
theorem d_Mo_passes_98 : decode b_Mo_passes 98 = .ok (.iload_n 3, 1) := by decide +kernel
theorem d_Mo_passes_99 : decode b_Mo_passes 99 = .ok (.imul, 1) := by decide +kernel
theorem d_Mo_passes_100 : decode b_Mo_passes 100 = .ok (.iload 7, 2) := by decide +kernel
theorem d_Mo_passes_102 : decode b_Mo_passes 102 = .ok (.iadd, 1) := by decide +kernel
theorem d_Mo_passes_103 : decode b_Mo_passes 103 = .ok (.iaload, 1) := by decide +kernel
theorem d_Mo_passes_104 : decode b_Mo_passes 104 = .ok (.aload_n 0, 1) := by decide +kernel
theorem d_Mo_passes_105 : decode b_Mo_passes 105 = .ok (.getfield 32, 3) := by decide +kernel
theorem d_Mo_passes_108 : decode b_Mo_passes 108 = .ok (.bipush 6, 2) := by decide +kernel
theorem d_Mo_passes_110 : decode b_Mo_passes 110 = .ok (.iload_n 3, 1) := by decide +kernel
theorem d_Mo_passes_111 : decode b_Mo_passes 111 = .ok (.imul, 1) := by decide +kernel
theorem d_Mo_passes_112 : decode b_Mo_passes 112 = .ok (.iload 7, 2) := by decide +kernel
theorem d_Mo_passes_114 : decode b_Mo_passes 114 = .ok (.iadd, 1) := by decide +kernel
theorem d_Mo_passes_115 : decode b_Mo_passes 115 = .ok (.iaload, 1) := by decide +kernel
theorem d_Mo_passes_116 : decode b_Mo_passes 116 = .ok (.invokestatic 224, 3) := by decide +kernel
theorem d_Mo_passes_119 : decode b_Mo_passes 119 = .ok (.ifCond .le 7, 3) := by decide +kernel
theorem d_Mo_passes_122 : decode b_Mo_passes 122 = .ok (.iconst 1, 1) := by decide +kernel
theorem d_Mo_passes_123 : decode b_Mo_passes 123 = .ok (.goto 4, 3) := by decide +kernel
theorem d_Mo_passes_126 : decode b_Mo_passes 126 = .ok (.iconst 0, 1) := by decide +kernel
theorem d_Mo_passes_127 : decode b_Mo_passes 127 = .ok (.istore 6, 2) := by decide +kernel
theorem d_Mo_passes_129 : decode b_Mo_passes 129 = .ok (.iinc 7 1, 3) := by decide +kernel
theorem d_Mo_passes_132 : decode b_Mo_passes 132 = .ok (.goto (-60), 3) := by decide +kernel
theorem d_Mo_passes_135 : decode b_Mo_passes 135 = .ok (.aload_n 0, 1) := by decide +kernel
theorem d_Mo_passes_136 : decode b_Mo_passes 136 = .ok (.getfield 87, 3) := by decide +kernel
theorem d_Mo_passes_139 : decode b_Mo_passes 139 = .ok (.iload_n 1, 1) := by decide +kernel
theorem d_Mo_passes_140 : decode b_Mo_passes 140 = .ok (.iaload, 1) := by decide +kernel
theorem d_Mo_passes_141 : decode b_Mo_passes 141 = .ok (.iconst 1, 1) := by decide +kernel
theorem d_Mo_passes_142 : decode b_Mo_passes 142 = .ok (.iadd, 1) := by decide +kernel
theorem d_Mo_passes_143 : decode b_Mo_passes 143 = .ok (.istore 7, 2) := by decide +kernel
theorem d_Mo_passes_145 : decode b_Mo_passes 145 = .ok (.aload_n 0, 1) := by decide +kernel
theorem d_Mo_passes_146 : decode b_Mo_passes 146 = .ok (.getfield 90, 3) := by decide +kernel
theorem d_Mo_passes_149 : decode b_Mo_passes 149 = .ok (.iload_n 1, 1) := by decide +kernel
theorem d_Mo_passes_150 : decode b_Mo_passes 150 = .ok (.iaload, 1) := by decide +kernel
theorem d_Mo_passes_151 : decode b_Mo_passes 151 = .ok (.iconst 1, 1) := by decide +kernel
theorem d_Mo_passes_152 : decode b_Mo_passes 152 = .ok (.iadd, 1) := by decide +kernel
theorem d_Mo_passes_153 : decode b_Mo_passes 153 = .ok (.istore 8, 2) := by decide +kernel
theorem d_Mo_passes_155 : decode b_Mo_passes 155 = .ok (.iload 6, 2) := by decide +kernel
theorem d_Mo_passes_157 : decode b_Mo_passes 157 = .ok (.ifCond .eq 30, 3) := by decide +kernel
theorem d_Mo_passes_160 : decode b_Mo_passes 160 = .ok (.aload_n 0, 1) := by decide +kernel
theorem d_Mo_passes_161 : decode b_Mo_passes 161 = .ok (.getfield 123, 3) := by decide +kernel
theorem d_Mo_passes_164 : decode b_Mo_passes 164 = .ok (.iload 7, 2) := by decide +kernel
theorem d_Mo_passes_166 : decode b_Mo_passes 166 = .ok (.iaload, 1) := by decide +kernel
theorem d_Mo_passes_167 : decode b_Mo_passes 167 = .ok (.iload_n 2, 1) := by decide +kernel
theorem d_Mo_passes_168 : decode b_Mo_passes 168 = .ok (.if_icmp .ne 19, 3) := by decide +kernel
theorem d_Mo_passes_171 : decode b_Mo_passes 171 = .ok (.aload_n 0, 1) := by decide +kernel
theorem d_Mo_passes_172 : decode b_Mo_passes 172 = .ok (.getfield 123, 3) := by decide +kernel
theorem d_Mo_passes_175 : decode b_Mo_passes 175 = .ok (.iload 8, 2) := by decide +kernel
theorem d_Mo_passes_177 : decode b_Mo_passes 177 = .ok (.iaload, 1) := by decide +kernel
theorem d_Mo_passes_178 : decode b_Mo_passes 178 = .ok (.bipush (-2), 2) := by decide +kernel
theorem d_Mo_passes_180 : decode b_Mo_passes 180 = .ok (.if_icmp .ne 7, 3) := by decide +kernel
theorem d_Mo_passes_183 : decode b_Mo_passes 183 = .ok (.iconst 1, 1) := by decide +kernel
theorem d_Mo_passes_184 : decode b_Mo_passes 184 = .ok (.goto 4, 3) := by decide +kernel
theorem d_Mo_passes_187 : decode b_Mo_passes 187 = .ok (.iconst 0, 1) := by decide +kernel
theorem d_Mo_passes_188 : decode b_Mo_passes 188 = .ok (.istore 9, 2) := by decide +kernel
theorem d_Mo_passes_190 : decode b_Mo_passes 190 = .ok (.iload 6, 2) := by decide +kernel
theorem d_Mo_passes_192 : decode b_Mo_passes 192 = .ok (.ifCond .eq 30, 3) := by decide +kernel
theorem d_Mo_passes_195 : decode b_Mo_passes 195 = .ok (.aload_n 0, 1) := by decide +kernel
theorem d_Mo_passes_196 : decode b_Mo_passes 196 = .ok (.getfield 123, 3) := by decide +kernel
theorem d_Mo_passes_199 : decode b_Mo_passes 199 = .ok (.iload 8, 2) := by decide +kernel
theorem d_Mo_passes_201 : decode b_Mo_passes 201 = .ok (.iaload, 1) := by decide +kernel
theorem d_Mo_passes_202 : decode b_Mo_passes 202 = .ok (.iload_n 2, 1) := by decide +kernel
theorem d_Mo_passes_203 : decode b_Mo_passes 203 = .ok (.if_icmp .ne 19, 3) := by decide +kernel
theorem d_Mo_passes_206 : decode b_Mo_passes 206 = .ok (.aload_n 0, 1) := by decide +kernel
theorem d_Mo_passes_207 : decode b_Mo_passes 207 = .ok (.getfield 123, 3) := by decide +kernel
theorem d_Mo_passes_210 : decode b_Mo_passes 210 = .ok (.iload 7, 2) := by decide +kernel
theorem d_Mo_passes_212 : decode b_Mo_passes 212 = .ok (.iaload, 1) := by decide +kernel
theorem d_Mo_passes_213 : decode b_Mo_passes 213 = .ok (.bipush (-2), 2) := by decide +kernel
theorem d_Mo_passes_215 : decode b_Mo_passes 215 = .ok (.if_icmp .ne 7, 3) := by decide +kernel
theorem d_Mo_passes_218 : decode b_Mo_passes 218 = .ok (.iconst 1, 1) := by decide +kernel
theorem d_Mo_passes_219 : decode b_Mo_passes 219 = .ok (.goto 4, 3) := by decide +kernel
theorem d_Mo_passes_222 : decode b_Mo_passes 222 = .ok (.iconst 0, 1) := by decide +kernel
theorem d_Mo_passes_223 : decode b_Mo_passes 223 = .ok (.istore 10, 2) := by decide +kernel
theorem d_Mo_passes_225 : decode b_Mo_passes 225 = .ok (.aload_n 0, 1) := by decide +kernel
theorem d_Mo_passes_226 : decode b_Mo_passes 226 = .ok (.getfield 123, 3) := by decide +kernel
theorem d_Mo_passes_229 : decode b_Mo_passes 229 = .ok (.iload 8, 2) := by decide +kernel
theorem d_Mo_passes_231 : decode b_Mo_passes 231 = .ok (.iload 9, 2) := by decide +kernel
theorem d_Mo_passes_233 : decode b_Mo_passes 233 = .ok (.ifCond .eq 9, 3) := by decide +kernel
theorem d_Mo_passes_236 : decode b_Mo_passes 236 = .ok (.iload_n 2, 1) := by decide +kernel
theorem d_Mo_passes_237 : decode b_Mo_passes 237 = .ok (.iconst 1, 1) := by decide +kernel
theorem d_Mo_passes_238 : decode b_Mo_passes 238 = .ok (.iadd, 1) := by decide +kernel
theorem d_Mo_passes_239 : decode b_Mo_passes 239 = .ok (.goto 10, 3) := by decide +kernel
theorem d_Mo_passes_242 : decode b_Mo_passes 242 = .ok (.aload_n 0, 1) := by decide +kernel
theorem d_Mo_passes_243 : decode b_Mo_passes 243 = .ok (.getfield 123, 3) := by decide +kernel
theorem d_Mo_passes_246 : decode b_Mo_passes 246 = .ok (.iload 8, 2) := by decide +kernel
theorem d_Mo_passes_248 : decode b_Mo_passes 248 = .ok (.iaload, 1) := by decide +kernel
theorem d_Mo_passes_249 : decode b_Mo_passes 249 = .ok (.iastore, 1) := by decide +kernel
theorem d_Mo_passes_250 : decode b_Mo_passes 250 = .ok (.aload_n 0, 1) := by decide +kernel
theorem d_Mo_passes_251 : decode b_Mo_passes 251 = .ok (.getfield 123, 3) := by decide +kernel
theorem d_Mo_passes_254 : decode b_Mo_passes 254 = .ok (.iload 7, 2) := by decide +kernel
theorem d_Mo_passes_256 : decode b_Mo_passes 256 = .ok (.iload 10, 2) := by decide +kernel
theorem d_Mo_passes_258 : decode b_Mo_passes 258 = .ok (.ifCond .eq 9, 3) := by decide +kernel
theorem d_Mo_passes_261 : decode b_Mo_passes 261 = .ok (.iload_n 2, 1) := by decide +kernel
theorem d_Mo_passes_262 : decode b_Mo_passes 262 = .ok (.iconst 1, 1) := by decide +kernel
theorem d_Mo_passes_263 : decode b_Mo_passes 263 = .ok (.iadd, 1) := by decide +kernel
theorem d_Mo_passes_264 : decode b_Mo_passes 264 = .ok (.goto 10, 3) := by decide +kernel
theorem d_Mo_passes_267 : decode b_Mo_passes 267 = .ok (.aload_n 0, 1) := by decide +kernel
theorem d_Mo_passes_268 : decode b_Mo_passes 268 = .ok (.getfield 123, 3) := by decide +kernel
theorem d_Mo_passes_271 : decode b_Mo_passes 271 = .ok (.iload 7, 2) := by decide +kernel
theorem d_Mo_passes_273 : decode b_Mo_passes 273 = .ok (.iaload, 1) := by decide +kernel
theorem d_Mo_passes_274 : decode b_Mo_passes 274 = .ok (.iastore, 1) := by decide +kernel
theorem d_Mo_passes_275 : decode b_Mo_passes 275 = .ok (.iload 9, 2) := by decide +kernel
theorem d_Mo_passes_277 : decode b_Mo_passes 277 = .ok (.ifCond .ne 8, 3) := by decide +kernel
theorem d_Mo_passes_280 : decode b_Mo_passes 280 = .ok (.iload 10, 2) := by decide +kernel
theorem d_Mo_passes_282 : decode b_Mo_passes 282 = .ok (.ifCond .eq 7, 3) := by decide +kernel
theorem d_Mo_passes_285 : decode b_Mo_passes 285 = .ok (.iconst 1, 1) := by decide +kernel
theorem d_Mo_passes_286 : decode b_Mo_passes 286 = .ok (.goto 4, 3) := by decide +kernel
theorem d_Mo_passes_289 : decode b_Mo_passes 289 = .ok (.iconst 0, 1) := by decide +kernel
theorem d_Mo_passes_290 : decode b_Mo_passes 290 = .ok (.ireturn, 1) := by decide +kernel
abbrev wl_Mo_passes (a_0 : Nat) (a_0_isFlat : Nat) (a_0_lows : Nat) (a_0_doorCounts : Nat) (a_0_doorFrom : Nat) (a_0_doorTo : Nat) (a_0_xs : Nat) (a_0_ys : Nat) (a_0_pieceLines : Nat) (a_0_pieceBegins : Nat) (a_0_pieceEnds : Nat) (a_0_pieceLeft : Nat) (a_0_pieceRight : Nat) (a_0_far : Nat) (b_0_across : Nat) (b_0_highs : Nat) (b_0_thick : Nat) (b_0_labels : Nat) (b_0_oldXs : Nat) (b_0_oldYs : Nat) (b_0_oldLabels : Nat) (b_0_names : Nat) (b_0_oldNames : Nat) (b_0_wanted : Nat) (b_0_common : Nat) (b_0_flatEdges : Nat) (b_0_upEdges : Nat) (b_0_isPoint : Nat) (b_0_stack : Nat) (b_0_outs : Nat) (b_0_isSeen : Nat) (b_0_ringSpaces : Nat) (b_0_ringStarts : Nat) (b_0_ringSizes : Nat) (b_0_ringLeast : Nat) (b_0_looseLines : Nat) (b_0_looseXs : Nat) (b_0_looseYs : Nat) (b_0_looseReaches : Nat) (cZ : ClassId) (cI : ClassId) (v_0_code : Int32) (v_0_lines : Int32) (v_0_isFresh : Int32) (v_0_hasRun : Int32) (v_0_runs : Int32) (v_0_nx : Int32) (v_0_ny : Int32) (v_0_spaces : Int32) (v_0_oldNx : Int32) (v_0_oldNy : Int32) (v_0_oldSpaces : Int32) (v_0_points : Int32) (v_0_pieces : Int32) (v_0_rings : Int32) (v_0_outsideSides : Int32) (v_0_looseCount : Int32) (f_0_isFlat : Nat → Int32) (f_0_lows : Nat → Int32) (f_0_doorCounts : Nat → Int32) (f_0_doorFrom : Nat → Int32) (f_0_doorTo : Nat → Int32) (f_0_xs : Nat → Int32) (f_0_ys : Nat → Int32) (f_0_pieceLines : Nat → Int32) (f_0_pieceBegins : Nat → Int32) (f_0_pieceEnds : Nat → Int32) (f_0_pieceLeft : Nat → Int32) (f_0_pieceRight : Nat → Int32) (f_0_far : Nat → Int32) : va_W := [(a_0, .inr (11, [.int v_0_code, .ref a_0_isFlat, .ref b_0_across, .ref a_0_lows, .ref b_0_highs, .ref b_0_thick, .int v_0_lines, .ref a_0_doorCounts, .ref a_0_doorFrom, .ref a_0_doorTo, .int v_0_isFresh, .int v_0_hasRun, .int v_0_runs, .ref a_0_xs, .ref a_0_ys, .int v_0_nx, .int v_0_ny, .ref b_0_labels, .int v_0_spaces, .ref b_0_oldXs, .ref b_0_oldYs, .int v_0_oldNx, .int v_0_oldNy, .ref b_0_oldLabels, .int v_0_oldSpaces, .ref b_0_names, .ref b_0_oldNames, .ref b_0_wanted, .ref b_0_common, .ref b_0_flatEdges, .ref b_0_upEdges, .ref b_0_isPoint, .int v_0_points, .ref b_0_stack, .ref a_0_pieceLines, .ref a_0_pieceBegins, .ref a_0_pieceEnds, .ref a_0_pieceLeft, .ref a_0_pieceRight, .int v_0_pieces, .ref b_0_outs, .ref b_0_isSeen, .ref b_0_ringSpaces, .ref b_0_ringStarts, .ref b_0_ringSizes, .ref b_0_ringLeast, .int v_0_rings, .int v_0_outsideSides, .ref b_0_looseLines, .ref b_0_looseXs, .ref b_0_looseYs, .ref b_0_looseReaches, .int v_0_looseCount, .ref a_0_far])), (a_0_isFlat, .inl (cZ, 20, .inl f_0_isFlat)), (a_0_lows, .inl (cI, 20, .inl f_0_lows)), (a_0_doorCounts, .inl (cI, 20, .inl f_0_doorCounts)), (a_0_doorFrom, .inl (cI, 120, .inl f_0_doorFrom)), (a_0_doorTo, .inl (cI, 120, .inl f_0_doorTo)), (a_0_xs, .inl (cI, 42, .inl f_0_xs)), (a_0_ys, .inl (cI, 42, .inl f_0_ys)), (a_0_pieceLines, .inl (cI, 900, .inl f_0_pieceLines)), (a_0_pieceBegins, .inl (cI, 900, .inl f_0_pieceBegins)), (a_0_pieceEnds, .inl (cI, 900, .inl f_0_pieceEnds)), (a_0_pieceLeft, .inl (cI, 900, .inl f_0_pieceLeft)), (a_0_pieceRight, .inl (cI, 900, .inl f_0_pieceRight)), (a_0_far, .inl (cI, 201, .inl f_0_far))]
def m_Mo_passes_L72 (l3 : Int32) (l4 : Int32) (l5 : Int32) (f_0_doorCounts : Nat → Int32) (f_0_doorFrom : Nat → Int32) (f_0_doorTo : Nat → Int32) : Nat → Int32 → Int32 → Option (Int32)
  | 0, _, _ => none
  | n + 1, l6, l7 =>
    gI l3 20 <|
    if (f_0_doorCounts l3.toNatClampNeg) ≤ l7 then (
      some l6)
    else (
      bd1 (
        if l6 = 0 then (
        gI ((6 * l3) + l7) 120 <|
        gI ((6 * l3) + l7) 120 <|
        bd1 (m_Mo_both l4 l5 (f_0_doorFrom ((6 * l3) + l7).toNatClampNeg) (f_0_doorTo ((6 * l3) + l7).toNatClampNeg)) fun r27 =>
        if r27 ≤ 0 then (
          some 0)
        else (
          some 1))
      else (
        some 1))
      fun (x23 : Int32) =>
      lt_ (l7 + 1) fun x30 =>
        m_Mo_passes_L72 l3 l4 l5 f_0_doorCounts f_0_doorFrom f_0_doorTo n x23 x30)
def m_Mo_passes (p1 : Int32) (p2 : Int32) (f_0_isFlat : Nat → Int32) (f_0_lows : Nat → Int32) (f_0_doorCounts : Nat → Int32) (f_0_doorFrom : Nat → Int32) (f_0_doorTo : Nat → Int32) (f_0_xs : Nat → Int32) (f_0_ys : Nat → Int32) (f_0_pieceLines : Nat → Int32) (f_0_pieceBegins : Nat → Int32) (f_0_pieceEnds : Nat → Int32) (f_0_pieceLeft : Nat → Int32) (f_0_pieceRight : Nat → Int32) (f_0_far : Nat → Int32) : Option (Int32 × (Nat → Int32)) :=
  gI p1 900 <|
  lt_ (f_0_pieceLines p1.toNatClampNeg) fun x2 =>
  gI x2 20 <|
  bd1 (
    if (f_0_isFlat x2.toNatClampNeg) = 0 then (
    gI p1 900 <|
    gI ((f_0_pieceBegins p1.toNatClampNeg) - (f_0_pieceBegins p1.toNatClampNeg) / 42 * 42) 42 <|
    some (f_0_ys ((f_0_pieceBegins p1.toNatClampNeg) - (f_0_pieceBegins p1.toNatClampNeg) / 42 * 42).toNatClampNeg))
  else (
    gI p1 900 <|
    gI ((f_0_pieceBegins p1.toNatClampNeg) / 42) 42 <|
    some (f_0_xs ((f_0_pieceBegins p1.toNatClampNeg) / 42).toNatClampNeg)))
  fun (x7 : Int32) =>
  gI x2 20 <|
    lt_ (x7 - (f_0_lows x2.toNatClampNeg)) fun x14 =>
    bd1 (m_Mo_lengthOf p1 f_0_xs f_0_ys f_0_pieceBegins f_0_pieceEnds) fun r15 =>
    lt_ (x14 + r15) fun x17 =>
    bd1 (m_Mo_passes_L72 x2 x14 x17 f_0_doorCounts f_0_doorFrom f_0_doorTo fu 0 0) fun x20 =>
    gI p1 900 <|
    lt_ ((f_0_pieceLeft p1.toNatClampNeg) + 1) fun x37 =>
    gI p1 900 <|
    lt_ ((f_0_pieceRight p1.toNatClampNeg) + 1) fun x39 =>
    bd1 (
      if x20 = 0 then (
      some 0)
    else (
      gI x37 201 <|
      if (f_0_far x37.toNatClampNeg) = p2 then (
        gI x39 201 <|
        if (f_0_far x39.toNatClampNeg) = (-2) then (
          some 1)
        else (
          some 0))
      else (
        some 0)))
    fun (x43 : Int32) =>
    bd1 (
        if x20 = 0 then (
        some 0)
      else (
        gI x39 201 <|
        if (f_0_far x39.toNatClampNeg) = p2 then (
          gI x37 201 <|
          if (f_0_far x37.toNatClampNeg) = (-2) then (
            some 1)
          else (
            some 0))
        else (
          some 0)))
      fun (x52 : Int32) =>
      bd1 (
          if x43 = 0 then (
          gI x39 201 <|
          some (f_0_far x39.toNatClampNeg))
        else (
          some (p2 + 1)))
        fun (x61 : Int32) =>
        gI x39 201 <|
          lt_ (upd f_0_far x39.toNatClampNeg x61) fun f65 =>
          bd1 (
            if x52 = 0 then (
            gI x37 201 <|
            some (f65 x37.toNatClampNeg))
          else (
            some (p2 + 1)))
          fun (x69 : Int32) =>
          gI x37 201 <|
            lt_ (upd f65 x37.toNatClampNeg x69) fun f73 =>
            bd1 (
              if x43 = 0 then (
              if x52 = 0 then (
                some 0)
              else (
                some 1))
            else (
              some 1))
            fun (x77 : Int32) =>
            gB x77 <|
              some (x77, f73)

set_option maxHeartbeats 4000000 in
set_option maxRecDepth 100000 in
theorem t_Mo_passes {p : Program} {l : Launch} {e : Env} {s : State} {m : MethodId} {args : Array Value} {below : List Frame} {meth : Method} {c : Code} {A : Nat → Prop} {Q : State → Prop} {dC : Nat → ClassId} {dI : Nat → Nat → Nat} {cI cZ cJ : ClassId} (a_0 a_0_isFlat a_0_lows a_0_doorCounts a_0_doorFrom a_0_doorTo a_0_xs a_0_ys a_0_pieceLines a_0_pieceBegins a_0_pieceEnds a_0_pieceLeft a_0_pieceRight a_0_far b_0_across b_0_highs b_0_thick b_0_labels b_0_oldXs b_0_oldYs b_0_oldLabels b_0_names b_0_oldNames b_0_wanted b_0_common b_0_flatEdges b_0_upEdges b_0_isPoint b_0_stack b_0_outs b_0_isSeen b_0_ringSpaces b_0_ringStarts b_0_ringSizes b_0_ringLeast b_0_looseLines b_0_looseXs b_0_looseYs b_0_looseReaches : Nat) (v_0_code : Int32) (v_0_lines : Int32) (v_0_isFresh : Int32) (v_0_hasRun : Int32) (v_0_runs : Int32) (v_0_nx : Int32) (v_0_ny : Int32) (v_0_spaces : Int32) (v_0_oldNx : Int32) (v_0_oldNy : Int32) (v_0_oldSpaces : Int32) (v_0_points : Int32) (v_0_pieces : Int32) (v_0_rings : Int32) (v_0_outsideSides : Int32) (v_0_looseCount : Int32) (f_0_isFlat : Nat → Int32) (f_0_lows : Nat → Int32) (f_0_doorCounts : Nat → Int32) (f_0_doorFrom : Nat → Int32) (f_0_doorTo : Nat → Int32) (f_0_xs : Nat → Int32) (f_0_ys : Nat → Int32) (f_0_pieceLines : Nat → Int32) (f_0_pieceBegins : Nat → Int32) (f_0_pieceEnds : Nat → Int32) (f_0_pieceLeft : Nat → Int32) (f_0_pieceRight : Nat → Int32) (f_0_far : Nat → Int32) (p1 : Int32) (p2 : Int32) (R0 : Int32) (of_0_far : Nat → Int32) (hx : p.tables.exec = Jvm.exec) (hb : c.code = b_Mo_passes) (hml : c.maxLocals = 11) (hown : s.vm.findClass "SpaceCyclesModel" = some m.cls) (hts : ∀ w ∈ w_Mo_passes, w.before args s = true) (hK : va_K (dC, dI) vwCl [(cI, .int), (cZ, .boolean), (cJ, .long)] s) (hN : NX s) (hA : ∀ q : Nat, s.heap.size ≤ q → A q)
    (hret : ∀ (pc : Nat) (H : Heap) (locs : List Loc) (ls : Array Slot), decode b_Mo_passes pc = .ok (.ireturn, 1) → (R0 = 0 ∨ R0 = 1) → va_P (dC, dI) vwCl (wl_Mo_passes a_0 a_0_isFlat a_0_lows a_0_doorCounts a_0_doorFrom a_0_doorTo a_0_xs a_0_ys a_0_pieceLines a_0_pieceBegins a_0_pieceEnds a_0_pieceLeft a_0_pieceRight a_0_far b_0_across b_0_highs b_0_thick b_0_labels b_0_oldXs b_0_oldYs b_0_oldLabels b_0_names b_0_oldNames b_0_wanted b_0_common b_0_flatEdges b_0_upEdges b_0_isPoint b_0_stack b_0_outs b_0_isSeen b_0_ringSpaces b_0_ringStarts b_0_ringSizes b_0_ringLeast b_0_looseLines b_0_looseXs b_0_looseYs b_0_looseReaches cZ cI v_0_code v_0_lines v_0_isFresh v_0_hasRun v_0_runs v_0_nx v_0_ny v_0_spaces v_0_oldNx v_0_oldNy v_0_oldSpaces v_0_points v_0_pieces v_0_rings v_0_outsideSides v_0_looseCount f_0_isFlat f_0_lows f_0_doorCounts f_0_doorFrom f_0_doorTo f_0_xs f_0_ys f_0_pieceLines f_0_pieceBegins f_0_pieceEnds f_0_pieceLeft f_0_pieceRight of_0_far) H → va_D A (wl_Mo_passes a_0 a_0_isFlat a_0_lows a_0_doorCounts a_0_doorFrom a_0_doorTo a_0_xs a_0_ys a_0_pieceLines a_0_pieceBegins a_0_pieceEnds a_0_pieceLeft a_0_pieceRight a_0_far b_0_across b_0_highs b_0_thick b_0_labels b_0_oldXs b_0_oldYs b_0_oldLabels b_0_names b_0_oldNames b_0_wanted b_0_common b_0_flatEdges b_0_upEdges b_0_isPoint b_0_stack b_0_outs b_0_isSeen b_0_ringSpaces b_0_ringStarts b_0_ringSizes b_0_ringLeast b_0_looseLines b_0_looseXs b_0_looseYs b_0_looseReaches cZ cI v_0_code v_0_lines v_0_isFresh v_0_hasRun v_0_runs v_0_nx v_0_ny v_0_spaces v_0_oldNx v_0_oldNy v_0_oldSpaces v_0_points v_0_pieces v_0_rings v_0_outsideSides v_0_looseCount f_0_isFlat f_0_lows f_0_doorCounts f_0_doorFrom f_0_doorTo f_0_xs f_0_ys f_0_pieceLines f_0_pieceBegins f_0_pieceEnds f_0_pieceLeft f_0_pieceRight of_0_far) → va_S A s.heap H locs → W p l e rm_Mo_passes s m args below meth c H locs 0 0 Q (F0 m pc ls [.int R0]))
    (hm : m_Mo_passes p1 p2 f_0_isFlat f_0_lows f_0_doorCounts f_0_doorFrom f_0_doorTo f_0_xs f_0_ys f_0_pieceLines f_0_pieceBegins f_0_pieceEnds f_0_pieceLeft f_0_pieceRight f_0_far = some (R0, of_0_far)) : ∀ (H : Heap) (locs : List Loc) (ls : Array Slot), va_P (dC, dI) vwCl (wl_Mo_passes a_0 a_0_isFlat a_0_lows a_0_doorCounts a_0_doorFrom a_0_doorTo a_0_xs a_0_ys a_0_pieceLines a_0_pieceBegins a_0_pieceEnds a_0_pieceLeft a_0_pieceRight a_0_far b_0_across b_0_highs b_0_thick b_0_labels b_0_oldXs b_0_oldYs b_0_oldLabels b_0_names b_0_oldNames b_0_wanted b_0_common b_0_flatEdges b_0_upEdges b_0_isPoint b_0_stack b_0_outs b_0_isSeen b_0_ringSpaces b_0_ringStarts b_0_ringSizes b_0_ringLeast b_0_looseLines b_0_looseXs b_0_looseYs b_0_looseReaches cZ cI v_0_code v_0_lines v_0_isFresh v_0_hasRun v_0_runs v_0_nx v_0_ny v_0_spaces v_0_oldNx v_0_oldNy v_0_oldSpaces v_0_points v_0_pieces v_0_rings v_0_outsideSides v_0_looseCount f_0_isFlat f_0_lows f_0_doorCounts f_0_doorFrom f_0_doorTo f_0_xs f_0_ys f_0_pieceLines f_0_pieceBegins f_0_pieceEnds f_0_pieceLeft f_0_pieceRight f_0_far) H → va_D A (wl_Mo_passes a_0 a_0_isFlat a_0_lows a_0_doorCounts a_0_doorFrom a_0_doorTo a_0_xs a_0_ys a_0_pieceLines a_0_pieceBegins a_0_pieceEnds a_0_pieceLeft a_0_pieceRight a_0_far b_0_across b_0_highs b_0_thick b_0_labels b_0_oldXs b_0_oldYs b_0_oldLabels b_0_names b_0_oldNames b_0_wanted b_0_common b_0_flatEdges b_0_upEdges b_0_isPoint b_0_stack b_0_outs b_0_isSeen b_0_ringSpaces b_0_ringStarts b_0_ringSizes b_0_ringLeast b_0_looseLines b_0_looseXs b_0_looseYs b_0_looseReaches cZ cI v_0_code v_0_lines v_0_isFresh v_0_hasRun v_0_runs v_0_nx v_0_ny v_0_spaces v_0_oldNx v_0_oldNy v_0_oldSpaces v_0_points v_0_pieces v_0_rings v_0_outsideSides v_0_looseCount f_0_isFlat f_0_lows f_0_doorCounts f_0_doorFrom f_0_doorTo f_0_xs f_0_ys f_0_pieceLines f_0_pieceBegins f_0_pieceEnds f_0_pieceLeft f_0_pieceRight f_0_far) → va_S A s.heap H locs → lv_has ls 11 [(0, .ref a_0), (1, .int p1), (2, .int p2)] → W p l e rm_Mo_passes s m args below meth c H locs 0 0 Q (F0 m 0 ls []) := by
  intro H locs ls hP hD hS hl
  unfold m_Mo_passes at hm
  refine lv_aload_n hx hb d_Mo_passes_0 rfl (lv_at hl 0 rfl) ?_
  refine va_get (D := (dC, dI)) (ci := 11) (v := .ref a_0_pieceLines) (C := "SpaceCyclesModel") (T := F_Mo) (N := 54) hx hb hts (in_F i_Mo) hown hK hP 0 rfl rfl 34 (by decide) (hts _ (in_c k_331)) (fun _ h9 => h9) rfl d_Mo_passes_1 ?_
  refine lv_iload_n hx hb d_Mo_passes_4 rfl (lv_at hl 1 rfl) ?_
  obtain ⟨hi1, hm⟩ := gI_e hm
  refine va_iald hx hb hK hP 8 0 rfl rfl hi1 d_Mo_passes_5 ?_
  refine lv_topi (fun x2 ex2 => ?_)
  replace hm := lt_el hm ex2
  refine lv_istore_n (lv' := [(3, .int x2), (0, .ref a_0), (1, .int p1), (2, .int p2)]) hx hb d_Mo_passes_6 rfl hl (by decide) rfl (fun ls hl => ?_)
  refine lv_aload_n hx hb d_Mo_passes_7 rfl (lv_at hl 1 rfl) ?_
  refine va_get (D := (dC, dI)) (ci := 11) (v := .ref a_0_isFlat) (C := "SpaceCyclesModel") (T := F_Mo) (N := 54) hx hb hts (in_F i_Mo) hown hK hP 0 rfl rfl 1 (by decide) (hts _ (in_c k_279)) (fun _ h9 => h9) rfl d_Mo_passes_8 ?_
  refine lv_iload_n hx hb d_Mo_passes_11 rfl (lv_at hl 0 rfl) ?_
  obtain ⟨hi3, hm⟩ := gI_e hm
  refine va_zald hx hb hK hP 1 1 rfl rfl hi3 d_Mo_passes_12 ?_
  obtain ⟨x7, hb5, hm⟩ := bd1_e hm
  have K4 : ∀ (H : Heap) (locs : List Loc) (ls : Array Slot), va_P (dC, dI) vwCl (wl_Mo_passes a_0 a_0_isFlat a_0_lows a_0_doorCounts a_0_doorFrom a_0_doorTo a_0_xs a_0_ys a_0_pieceLines a_0_pieceBegins a_0_pieceEnds a_0_pieceLeft a_0_pieceRight a_0_far b_0_across b_0_highs b_0_thick b_0_labels b_0_oldXs b_0_oldYs b_0_oldLabels b_0_names b_0_oldNames b_0_wanted b_0_common b_0_flatEdges b_0_upEdges b_0_isPoint b_0_stack b_0_outs b_0_isSeen b_0_ringSpaces b_0_ringStarts b_0_ringSizes b_0_ringLeast b_0_looseLines b_0_looseXs b_0_looseYs b_0_looseReaches cZ cI v_0_code v_0_lines v_0_isFresh v_0_hasRun v_0_runs v_0_nx v_0_ny v_0_spaces v_0_oldNx v_0_oldNy v_0_oldSpaces v_0_points v_0_pieces v_0_rings v_0_outsideSides v_0_looseCount f_0_isFlat f_0_lows f_0_doorCounts f_0_doorFrom f_0_doorTo f_0_xs f_0_ys f_0_pieceLines f_0_pieceBegins f_0_pieceEnds f_0_pieceLeft f_0_pieceRight f_0_far) H → va_D A (wl_Mo_passes a_0 a_0_isFlat a_0_lows a_0_doorCounts a_0_doorFrom a_0_doorTo a_0_xs a_0_ys a_0_pieceLines a_0_pieceBegins a_0_pieceEnds a_0_pieceLeft a_0_pieceRight a_0_far b_0_across b_0_highs b_0_thick b_0_labels b_0_oldXs b_0_oldYs b_0_oldLabels b_0_names b_0_oldNames b_0_wanted b_0_common b_0_flatEdges b_0_upEdges b_0_isPoint b_0_stack b_0_outs b_0_isSeen b_0_ringSpaces b_0_ringStarts b_0_ringSizes b_0_ringLeast b_0_looseLines b_0_looseXs b_0_looseYs b_0_looseReaches cZ cI v_0_code v_0_lines v_0_isFresh v_0_hasRun v_0_runs v_0_nx v_0_ny v_0_spaces v_0_oldNx v_0_oldNy v_0_oldSpaces v_0_points v_0_pieces v_0_rings v_0_outsideSides v_0_looseCount f_0_isFlat f_0_lows f_0_doorCounts f_0_doorFrom f_0_doorTo f_0_xs f_0_ys f_0_pieceLines f_0_pieceBegins f_0_pieceEnds f_0_pieceLeft f_0_pieceRight f_0_far) → va_S A s.heap H locs → lv_has ls 11 [(0, .ref a_0), (1, .int p1), (2, .int p2), (3, .int x2)] → W p l e rm_Mo_passes s m args below meth c H locs 0 0 Q (F0 m 47 ls [.int x7]) := by
    intro H locs ls hP hD hS hl
    refine lv_aload_n hx hb d_Mo_passes_47 rfl (lv_at hl 0 rfl) ?_
    refine va_get (D := (dC, dI)) (ci := 11) (v := .ref a_0_lows) (C := "SpaceCyclesModel") (T := F_Mo) (N := 54) hx hb hts (in_F i_Mo) hown hK hP 0 rfl rfl 3 (by decide) (hts _ (in_c k_281)) (fun _ h9 => h9) rfl d_Mo_passes_48 ?_
    refine lv_iload_n hx hb d_Mo_passes_51 rfl (lv_at hl 3 rfl) ?_
    obtain ⟨hi13, hm⟩ := gI_e hm
    refine va_iald hx hb hK hP 2 0 rfl rfl hi13 d_Mo_passes_52 ?_
    refine lv_isub hx hb d_Mo_passes_53 ?_
    refine lv_topi (fun x14 ex14 => ?_)
    replace hm := lt_el hm ex14
    refine lv_istore (lv' := [(4, .int x14), (0, .ref a_0), (1, .int p1), (2, .int p2), (3, .int x2)]) hx hb d_Mo_passes_54 hl (by decide) rfl (fun ls hl => ?_)
    refine lv_iload hx hb d_Mo_passes_56 (lv_at hl 0 rfl) ?_
    refine lv_aload_n hx hb d_Mo_passes_58 rfl (lv_at hl 1 rfl) ?_
    refine lv_iload_n hx hb d_Mo_passes_59 rfl (lv_at hl 2 rfl) ?_
    obtain ⟨r15, hb16, hm⟩ := bd1_e hm
    have hPc := hP.sub (ws' := (wl_Mo_lengthOf a_0 a_0_xs a_0_ys a_0_pieceBegins a_0_pieceEnds a_0_isFlat b_0_across a_0_lows b_0_highs b_0_thick a_0_doorCounts a_0_doorFrom a_0_doorTo b_0_labels b_0_oldXs b_0_oldYs b_0_oldLabels b_0_names b_0_oldNames b_0_wanted b_0_common b_0_flatEdges b_0_upEdges b_0_isPoint b_0_stack a_0_pieceLines a_0_pieceLeft a_0_pieceRight b_0_outs b_0_isSeen b_0_ringSpaces b_0_ringStarts b_0_ringSizes b_0_ringLeast b_0_looseLines b_0_looseXs b_0_looseYs b_0_looseReaches a_0_far cI v_0_code v_0_lines v_0_isFresh v_0_hasRun v_0_runs v_0_nx v_0_ny v_0_spaces v_0_oldNx v_0_oldNy v_0_oldSpaces v_0_points v_0_pieces v_0_rings v_0_outsideSides v_0_looseCount f_0_xs f_0_ys f_0_pieceBegins f_0_pieceEnds)) [0, 6, 7, 9, 10] rfl
    have hDc := hD.sub (ws' := (wl_Mo_lengthOf a_0 a_0_xs a_0_ys a_0_pieceBegins a_0_pieceEnds a_0_isFlat b_0_across a_0_lows b_0_highs b_0_thick a_0_doorCounts a_0_doorFrom a_0_doorTo b_0_labels b_0_oldXs b_0_oldYs b_0_oldLabels b_0_names b_0_oldNames b_0_wanted b_0_common b_0_flatEdges b_0_upEdges b_0_isPoint b_0_stack a_0_pieceLines a_0_pieceLeft a_0_pieceRight b_0_outs b_0_isSeen b_0_ringSpaces b_0_ringStarts b_0_ringSizes b_0_ringLeast b_0_looseLines b_0_looseXs b_0_looseYs b_0_looseReaches a_0_far cI v_0_code v_0_lines v_0_isFresh v_0_hasRun v_0_runs v_0_nx v_0_ny v_0_spaces v_0_oldNx v_0_oldNy v_0_oldSpaces v_0_points v_0_pieces v_0_rings v_0_outsideSides v_0_looseCount f_0_xs f_0_ys f_0_pieceBegins f_0_pieceEnds)) [0, 6, 7, 9, 10] (by decide) rfl
    refine cl_i (wc' := (wl_Mo_lengthOf a_0 a_0_xs a_0_ys a_0_pieceBegins a_0_pieceEnds a_0_isFlat b_0_across a_0_lows b_0_highs b_0_thick a_0_doorCounts a_0_doorFrom a_0_doorTo b_0_labels b_0_oldXs b_0_oldYs b_0_oldLabels b_0_names b_0_oldNames b_0_wanted b_0_common b_0_flatEdges b_0_upEdges b_0_isPoint b_0_stack a_0_pieceLines a_0_pieceLeft a_0_pieceRight b_0_outs b_0_isSeen b_0_ringSpaces b_0_ringStarts b_0_ringSizes b_0_ringLeast b_0_looseLines b_0_looseXs b_0_looseYs b_0_looseReaches a_0_far cI v_0_code v_0_lines v_0_isFresh v_0_hasRun v_0_runs v_0_nx v_0_ny v_0_spaces v_0_oldNx v_0_oldNy v_0_oldSpaces v_0_points v_0_pieces v_0_rings v_0_outsideSides v_0_looseCount f_0_xs f_0_ys f_0_pieceBegins f_0_pieceEnds)) (va_runV (As := [.int p1]) (rest := [.int x14]) ⟨hx, hb, hml, hown, hts⟩ (c_Mo_lengthOf l dC dI (cI := cI) (cZ := cZ) (cJ := cJ) a_0 a_0_xs a_0_ys a_0_pieceBegins a_0_pieceEnds a_0_isFlat b_0_across a_0_lows b_0_highs b_0_thick a_0_doorCounts a_0_doorFrom a_0_doorTo b_0_labels b_0_oldXs b_0_oldYs b_0_oldLabels b_0_names b_0_oldNames b_0_wanted b_0_common b_0_flatEdges b_0_upEdges b_0_isPoint b_0_stack a_0_pieceLines a_0_pieceLeft a_0_pieceRight b_0_outs b_0_isSeen b_0_ringSpaces b_0_ringStarts b_0_ringSizes b_0_ringLeast b_0_looseLines b_0_looseXs b_0_looseYs b_0_looseReaches a_0_far H.size v_0_code v_0_lines v_0_isFresh v_0_hasRun v_0_runs v_0_nx v_0_ny v_0_spaces v_0_oldNx v_0_oldNy v_0_oldSpaces v_0_points v_0_pieces v_0_rings v_0_outsideSides v_0_looseCount f_0_xs f_0_ys f_0_pieceBegins f_0_pieceEnds p1 r15 hb16) (cwV 1 hts (gl_V k_446 k_445 k_444 k_277 k_443) rfl rfl rfl (by decide +kernel) ⟨Nat.le_of_ble_eq_true rfl, Nat.le_of_ble_eq_true rfl⟩) ⟨PP_blind, va_recv hK hPc (ci := 11) (q0 := 0) rfl rfl, fun U hU hW => PP_at hK hN hPc hDc hU hW⟩ rfl rfl hl.1 rfl (lv_room (Nat.le_of_ble_eq_true rfl)) d_Mo_passes_60 ⟨Nat.zero_le _, Nat.zero_le _⟩) hP hD hS hA [0, 6, 7, 9, 10] [1, 2, 3, 4, 5, 8, 11, 12, 13] rfl rfl (by decide) (by decide) (fun H locs hP hD hS => ?_)
    have hP : va_P (dC, dI) vwCl (wl_Mo_passes a_0 a_0_isFlat a_0_lows a_0_doorCounts a_0_doorFrom a_0_doorTo a_0_xs a_0_ys a_0_pieceLines a_0_pieceBegins a_0_pieceEnds a_0_pieceLeft a_0_pieceRight a_0_far b_0_across b_0_highs b_0_thick b_0_labels b_0_oldXs b_0_oldYs b_0_oldLabels b_0_names b_0_oldNames b_0_wanted b_0_common b_0_flatEdges b_0_upEdges b_0_isPoint b_0_stack b_0_outs b_0_isSeen b_0_ringSpaces b_0_ringStarts b_0_ringSizes b_0_ringLeast b_0_looseLines b_0_looseXs b_0_looseYs b_0_looseReaches cZ cI v_0_code v_0_lines v_0_isFresh v_0_hasRun v_0_runs v_0_nx v_0_ny v_0_spaces v_0_oldNx v_0_oldNy v_0_oldSpaces v_0_points v_0_pieces v_0_rings v_0_outsideSides v_0_looseCount f_0_isFlat f_0_lows f_0_doorCounts f_0_doorFrom f_0_doorTo f_0_xs f_0_ys f_0_pieceLines f_0_pieceBegins f_0_pieceEnds f_0_pieceLeft f_0_pieceRight f_0_far) H := hP.sub [9, 0, 1, 2, 3, 4, 10, 11, 5, 12, 13, 6, 7, 8] rfl
    have hD : va_D A (wl_Mo_passes a_0 a_0_isFlat a_0_lows a_0_doorCounts a_0_doorFrom a_0_doorTo a_0_xs a_0_ys a_0_pieceLines a_0_pieceBegins a_0_pieceEnds a_0_pieceLeft a_0_pieceRight a_0_far b_0_across b_0_highs b_0_thick b_0_labels b_0_oldXs b_0_oldYs b_0_oldLabels b_0_names b_0_oldNames b_0_wanted b_0_common b_0_flatEdges b_0_upEdges b_0_isPoint b_0_stack b_0_outs b_0_isSeen b_0_ringSpaces b_0_ringStarts b_0_ringSizes b_0_ringLeast b_0_looseLines b_0_looseXs b_0_looseYs b_0_looseReaches cZ cI v_0_code v_0_lines v_0_isFresh v_0_hasRun v_0_runs v_0_nx v_0_ny v_0_spaces v_0_oldNx v_0_oldNy v_0_oldSpaces v_0_points v_0_pieces v_0_rings v_0_outsideSides v_0_looseCount f_0_isFlat f_0_lows f_0_doorCounts f_0_doorFrom f_0_doorTo f_0_xs f_0_ys f_0_pieceLines f_0_pieceBegins f_0_pieceEnds f_0_pieceLeft f_0_pieceRight f_0_far) := hD.sub [9, 0, 1, 2, 3, 4, 10, 11, 5, 12, 13, 6, 7, 8] (by decide) rfl
    refine lv_iadd hx hb d_Mo_passes_63 ?_
    refine lv_topi (fun x17 ex17 => ?_)
    replace hm := lt_el hm ex17
    refine lv_istore (lv' := [(5, .int x17), (4, .int x14), (0, .ref a_0), (1, .int p1), (2, .int p2), (3, .int x2)]) hx hb d_Mo_passes_64 hl (by decide) rfl (fun ls hl => ?_)
    refine lv_iconst (v := 0) hx hb d_Mo_passes_66 (by decide) ?_
    refine lv_istore (lv' := [(6, .int 0), (5, .int x17), (4, .int x14), (0, .ref a_0), (1, .int p1), (2, .int p2), (3, .int x2)]) hx hb d_Mo_passes_67 hl (by decide) rfl (fun ls hl => ?_)
    refine lv_iconst (v := 0) hx hb d_Mo_passes_69 (by decide) ?_
    refine lv_istore (lv' := [(7, .int 0), (6, .int 0), (5, .int x17), (4, .int x14), (0, .ref a_0), (1, .int p1), (2, .int p2), (3, .int x2)]) hx hb d_Mo_passes_70 hl (by decide) rfl (fun ls hl => ?_)
    have L72_21 : ∀ (n : Nat) (x18 : Int32) (x19 : Int32) (x20 : Int32), m_Mo_passes_L72 x2 x14 x17 f_0_doorCounts f_0_doorFrom f_0_doorTo n x18 x19 = some x20 → (∀ (H : Heap) (locs : List Loc) (ls : Array Slot), va_P (dC, dI) vwCl (wl_Mo_passes a_0 a_0_isFlat a_0_lows a_0_doorCounts a_0_doorFrom a_0_doorTo a_0_xs a_0_ys a_0_pieceLines a_0_pieceBegins a_0_pieceEnds a_0_pieceLeft a_0_pieceRight a_0_far b_0_across b_0_highs b_0_thick b_0_labels b_0_oldXs b_0_oldYs b_0_oldLabels b_0_names b_0_oldNames b_0_wanted b_0_common b_0_flatEdges b_0_upEdges b_0_isPoint b_0_stack b_0_outs b_0_isSeen b_0_ringSpaces b_0_ringStarts b_0_ringSizes b_0_ringLeast b_0_looseLines b_0_looseXs b_0_looseYs b_0_looseReaches cZ cI v_0_code v_0_lines v_0_isFresh v_0_hasRun v_0_runs v_0_nx v_0_ny v_0_spaces v_0_oldNx v_0_oldNy v_0_oldSpaces v_0_points v_0_pieces v_0_rings v_0_outsideSides v_0_looseCount f_0_isFlat f_0_lows f_0_doorCounts f_0_doorFrom f_0_doorTo f_0_xs f_0_ys f_0_pieceLines f_0_pieceBegins f_0_pieceEnds f_0_pieceLeft f_0_pieceRight f_0_far) H → va_D A (wl_Mo_passes a_0 a_0_isFlat a_0_lows a_0_doorCounts a_0_doorFrom a_0_doorTo a_0_xs a_0_ys a_0_pieceLines a_0_pieceBegins a_0_pieceEnds a_0_pieceLeft a_0_pieceRight a_0_far b_0_across b_0_highs b_0_thick b_0_labels b_0_oldXs b_0_oldYs b_0_oldLabels b_0_names b_0_oldNames b_0_wanted b_0_common b_0_flatEdges b_0_upEdges b_0_isPoint b_0_stack b_0_outs b_0_isSeen b_0_ringSpaces b_0_ringStarts b_0_ringSizes b_0_ringLeast b_0_looseLines b_0_looseXs b_0_looseYs b_0_looseReaches cZ cI v_0_code v_0_lines v_0_isFresh v_0_hasRun v_0_runs v_0_nx v_0_ny v_0_spaces v_0_oldNx v_0_oldNy v_0_oldSpaces v_0_points v_0_pieces v_0_rings v_0_outsideSides v_0_looseCount f_0_isFlat f_0_lows f_0_doorCounts f_0_doorFrom f_0_doorTo f_0_xs f_0_ys f_0_pieceLines f_0_pieceBegins f_0_pieceEnds f_0_pieceLeft f_0_pieceRight f_0_far) → va_S A s.heap H locs → lv_has ls 11 [(0, .ref a_0), (1, .int p1), (2, .int p2), (6, .int x20)] → W p l e rm_Mo_passes s m args below meth c H locs 0 0 Q (F0 m 135 ls [])) → ∀ (H : Heap) (locs : List Loc) (ls : Array Slot), va_P (dC, dI) vwCl (wl_Mo_passes a_0 a_0_isFlat a_0_lows a_0_doorCounts a_0_doorFrom a_0_doorTo a_0_xs a_0_ys a_0_pieceLines a_0_pieceBegins a_0_pieceEnds a_0_pieceLeft a_0_pieceRight a_0_far b_0_across b_0_highs b_0_thick b_0_labels b_0_oldXs b_0_oldYs b_0_oldLabels b_0_names b_0_oldNames b_0_wanted b_0_common b_0_flatEdges b_0_upEdges b_0_isPoint b_0_stack b_0_outs b_0_isSeen b_0_ringSpaces b_0_ringStarts b_0_ringSizes b_0_ringLeast b_0_looseLines b_0_looseXs b_0_looseYs b_0_looseReaches cZ cI v_0_code v_0_lines v_0_isFresh v_0_hasRun v_0_runs v_0_nx v_0_ny v_0_spaces v_0_oldNx v_0_oldNy v_0_oldSpaces v_0_points v_0_pieces v_0_rings v_0_outsideSides v_0_looseCount f_0_isFlat f_0_lows f_0_doorCounts f_0_doorFrom f_0_doorTo f_0_xs f_0_ys f_0_pieceLines f_0_pieceBegins f_0_pieceEnds f_0_pieceLeft f_0_pieceRight f_0_far) H → va_D A (wl_Mo_passes a_0 a_0_isFlat a_0_lows a_0_doorCounts a_0_doorFrom a_0_doorTo a_0_xs a_0_ys a_0_pieceLines a_0_pieceBegins a_0_pieceEnds a_0_pieceLeft a_0_pieceRight a_0_far b_0_across b_0_highs b_0_thick b_0_labels b_0_oldXs b_0_oldYs b_0_oldLabels b_0_names b_0_oldNames b_0_wanted b_0_common b_0_flatEdges b_0_upEdges b_0_isPoint b_0_stack b_0_outs b_0_isSeen b_0_ringSpaces b_0_ringStarts b_0_ringSizes b_0_ringLeast b_0_looseLines b_0_looseXs b_0_looseYs b_0_looseReaches cZ cI v_0_code v_0_lines v_0_isFresh v_0_hasRun v_0_runs v_0_nx v_0_ny v_0_spaces v_0_oldNx v_0_oldNy v_0_oldSpaces v_0_points v_0_pieces v_0_rings v_0_outsideSides v_0_looseCount f_0_isFlat f_0_lows f_0_doorCounts f_0_doorFrom f_0_doorTo f_0_xs f_0_ys f_0_pieceLines f_0_pieceBegins f_0_pieceEnds f_0_pieceLeft f_0_pieceRight f_0_far) → va_S A s.heap H locs → lv_has ls 11 [(0, .ref a_0), (1, .int p1), (2, .int p2), (3, .int x2), (4, .int x14), (5, .int x17), (6, .int x18), (7, .int x19)] → W p l e rm_Mo_passes s m args below meth c H locs 0 0 Q (F0 m 72 ls []) := by
      intro n
      induction n with
      | zero => intro x18 x19 x20 hm; simp [m_Mo_passes_L72] at hm
      | succ n ih =>
        intro x18 x19 x20 hm KE H locs ls hP hD hS hl
        rw [m_Mo_passes_L72] at hm
        refine lv_iload hx hb d_Mo_passes_72 (lv_at hl 7 rfl) ?_
        refine lv_aload_n hx hb d_Mo_passes_74 rfl (lv_at hl 0 rfl) ?_
        refine va_get (D := (dC, dI)) (ci := 11) (v := .ref a_0_doorCounts) (C := "SpaceCyclesModel") (T := F_Mo) (N := 54) hx hb hts (in_F i_Mo) hown hK hP 0 rfl rfl 7 (by decide) (hts _ (in_c k_288)) (fun _ h9 => h9) rfl d_Mo_passes_75 ?_
        refine lv_iload_n hx hb d_Mo_passes_78 rfl (lv_at hl 3 rfl) ?_
        obtain ⟨hi22, hm⟩ := gI_e hm
        refine va_iald hx hb hK hP 3 0 rfl rfl hi22 d_Mo_passes_79 ?_
        refine lv_icmp_ge (tgt := 135) hx hb d_Mo_passes_80 (by decide) (fun c23 => ?_) (fun c23 => ?_)
        · replace hm := if_t hm c23
          cases hm
          exact KE H locs ls hP hD hS (lv_sub hl [0, 1, 2, 6] rfl)
        · replace hm := if_f hm c23
          refine lv_iload hx hb d_Mo_passes_83 (lv_at hl 6 rfl) ?_
          obtain ⟨x27, hb25, hm⟩ := bd1_e hm
          have K24 : ∀ (H : Heap) (locs : List Loc) (ls : Array Slot), va_P (dC, dI) vwCl (wl_Mo_passes a_0 a_0_isFlat a_0_lows a_0_doorCounts a_0_doorFrom a_0_doorTo a_0_xs a_0_ys a_0_pieceLines a_0_pieceBegins a_0_pieceEnds a_0_pieceLeft a_0_pieceRight a_0_far b_0_across b_0_highs b_0_thick b_0_labels b_0_oldXs b_0_oldYs b_0_oldLabels b_0_names b_0_oldNames b_0_wanted b_0_common b_0_flatEdges b_0_upEdges b_0_isPoint b_0_stack b_0_outs b_0_isSeen b_0_ringSpaces b_0_ringStarts b_0_ringSizes b_0_ringLeast b_0_looseLines b_0_looseXs b_0_looseYs b_0_looseReaches cZ cI v_0_code v_0_lines v_0_isFresh v_0_hasRun v_0_runs v_0_nx v_0_ny v_0_spaces v_0_oldNx v_0_oldNy v_0_oldSpaces v_0_points v_0_pieces v_0_rings v_0_outsideSides v_0_looseCount f_0_isFlat f_0_lows f_0_doorCounts f_0_doorFrom f_0_doorTo f_0_xs f_0_ys f_0_pieceLines f_0_pieceBegins f_0_pieceEnds f_0_pieceLeft f_0_pieceRight f_0_far) H → va_D A (wl_Mo_passes a_0 a_0_isFlat a_0_lows a_0_doorCounts a_0_doorFrom a_0_doorTo a_0_xs a_0_ys a_0_pieceLines a_0_pieceBegins a_0_pieceEnds a_0_pieceLeft a_0_pieceRight a_0_far b_0_across b_0_highs b_0_thick b_0_labels b_0_oldXs b_0_oldYs b_0_oldLabels b_0_names b_0_oldNames b_0_wanted b_0_common b_0_flatEdges b_0_upEdges b_0_isPoint b_0_stack b_0_outs b_0_isSeen b_0_ringSpaces b_0_ringStarts b_0_ringSizes b_0_ringLeast b_0_looseLines b_0_looseXs b_0_looseYs b_0_looseReaches cZ cI v_0_code v_0_lines v_0_isFresh v_0_hasRun v_0_runs v_0_nx v_0_ny v_0_spaces v_0_oldNx v_0_oldNy v_0_oldSpaces v_0_points v_0_pieces v_0_rings v_0_outsideSides v_0_looseCount f_0_isFlat f_0_lows f_0_doorCounts f_0_doorFrom f_0_doorTo f_0_xs f_0_ys f_0_pieceLines f_0_pieceBegins f_0_pieceEnds f_0_pieceLeft f_0_pieceRight f_0_far) → va_S A s.heap H locs → lv_has ls 11 [(0, .ref a_0), (1, .int p1), (2, .int p2), (3, .int x2), (4, .int x14), (5, .int x17), (7, .int x19)] → W p l e rm_Mo_passes s m args below meth c H locs 0 0 Q (F0 m 127 ls [.int x27]) := by
            intro H locs ls hP hD hS hl
            refine lv_istore (lv' := [(6, .int x27), (0, .ref a_0), (1, .int p1), (2, .int p2), (3, .int x2), (4, .int x14), (5, .int x17), (7, .int x19)]) hx hb d_Mo_passes_127 hl (by decide) rfl (fun ls hl => ?_)
            obtain ⟨x34, ex34⟩ : ∃ y : Int32, y = x19 + 1 := ⟨_, rfl⟩
            replace hm := lt_el hm ex34
            refine lv_iinc (v := x34) (lv' := [(7, .int x34), (6, .int x27), (0, .ref a_0), (1, .int p1), (2, .int p2), (3, .int x2), (4, .int x14), (5, .int x17)]) hx hb d_Mo_passes_129 hl (k := 7) rfl (by rw [ex34]; rfl) (by decide) rfl (fun ls hl => ?_)
            refine lv_goto (tgt := 72) hx hb d_Mo_passes_132 (by decide) ?_
            exact ih _ _ _ hm KE H locs ls hP hD hS (lv_sub hl [2, 3, 4, 5, 6, 7, 1, 0] rfl)
          replace hm := hb25
          refine lv_if_ne (tgt := 122) hx hb d_Mo_passes_85 (by decide) (fun c28 => ?_) (fun c28 => ?_)
          · replace hm := if_f hm c28
            refine lv_iconst (v := 1) hx hb d_Mo_passes_122 (by decide) ?_
            refine lv_goto (tgt := 127) hx hb d_Mo_passes_123 (by decide) ?_
            cases hm
            exact K24 H locs ls hP hD hS (lv_sub hl [0, 1, 2, 3, 4, 5, 7] rfl)
          · replace hm := if_t hm c28
            refine lv_iload hx hb d_Mo_passes_88 (lv_at hl 4 rfl) ?_
            refine lv_iload hx hb d_Mo_passes_90 (lv_at hl 5 rfl) ?_
            refine lv_aload_n hx hb d_Mo_passes_92 rfl (lv_at hl 0 rfl) ?_
            refine va_get (D := (dC, dI)) (ci := 11) (v := .ref a_0_doorFrom) (C := "SpaceCyclesModel") (T := F_Mo) (N := 54) hx hb hts (in_F i_Mo) hown hK hP 0 rfl rfl 8 (by decide) (hts _ (in_c k_294)) (fun _ h9 => h9) rfl d_Mo_passes_93 ?_
            refine lv_bipush (v := 6) hx hb d_Mo_passes_96 (by decide) ?_
            refine lv_iload_n hx hb d_Mo_passes_98 rfl (lv_at hl 3 rfl) ?_
            refine lv_imul hx hb d_Mo_passes_99 ?_
            refine lv_iload hx hb d_Mo_passes_100 (lv_at hl 7 rfl) ?_
            refine lv_iadd hx hb d_Mo_passes_102 ?_
            obtain ⟨hi29, hm⟩ := gI_e hm
            refine va_iald hx hb hK hP 4 0 rfl rfl hi29 d_Mo_passes_103 ?_
            refine lv_aload_n hx hb d_Mo_passes_104 rfl (lv_at hl 0 rfl) ?_
            refine va_get (D := (dC, dI)) (ci := 11) (v := .ref a_0_doorTo) (C := "SpaceCyclesModel") (T := F_Mo) (N := 54) hx hb hts (in_F i_Mo) hown hK hP 0 rfl rfl 9 (by decide) (hts _ (in_c k_295)) (fun _ h9 => h9) rfl d_Mo_passes_105 ?_
            refine lv_bipush (v := 6) hx hb d_Mo_passes_108 (by decide) ?_
            refine lv_iload_n hx hb d_Mo_passes_110 rfl (lv_at hl 3 rfl) ?_
            refine lv_imul hx hb d_Mo_passes_111 ?_
            refine lv_iload hx hb d_Mo_passes_112 (lv_at hl 7 rfl) ?_
            refine lv_iadd hx hb d_Mo_passes_114 ?_
            obtain ⟨hi30, hm⟩ := gI_e hm
            refine va_iald hx hb hK hP 5 0 rfl rfl hi30 d_Mo_passes_115 ?_
            obtain ⟨r31, hb32, hm⟩ := bd1_e hm
            have hPc := hP.sub (ws' := (wl_Mo_both)) [] rfl
            have hDc := hD.sub (ws' := (wl_Mo_both)) [] (by decide) rfl
            refine cl_i (wc' := (wl_Mo_both)) (va_runS (As := [.int x14, .int x17, .int (f_0_doorFrom ((6 * x2) + x19).toNatClampNeg), .int (f_0_doorTo ((6 * x2) + x19).toNatClampNeg)]) (rest := []) ⟨hx, hb, hml, hown, hts⟩ (c_Mo_both l dC dI (cI := cI) (cZ := cZ) (cJ := cJ) H.size x14 x17 (f_0_doorFrom ((6 * x2) + x19).toNatClampNeg) (f_0_doorTo ((6 * x2) + x19).toNatClampNeg) r31 hb32) (va_cwS 4 hts (gl_S k_378 k_377 k_277 k_376) rfl rfl rfl (by decide +kernel) ⟨Nat.le_of_ble_eq_true rfl, Nat.le_of_ble_eq_true rfl⟩) ⟨PP_blind, fun U hU hW => PP_at hK hN hPc hDc hU hW⟩ rfl rfl hl.1 rfl (lv_room (Nat.le_of_ble_eq_true rfl)) d_Mo_passes_116 ⟨Nat.zero_le _, Nat.zero_le _⟩) hP hD hS hA [] [0, 1, 2, 3, 4, 5, 6, 7, 8, 9, 10, 11, 12, 13] rfl rfl (by decide) (by decide) (fun H locs hP hD hS => ?_)
            have hP : va_P (dC, dI) vwCl (wl_Mo_passes a_0 a_0_isFlat a_0_lows a_0_doorCounts a_0_doorFrom a_0_doorTo a_0_xs a_0_ys a_0_pieceLines a_0_pieceBegins a_0_pieceEnds a_0_pieceLeft a_0_pieceRight a_0_far b_0_across b_0_highs b_0_thick b_0_labels b_0_oldXs b_0_oldYs b_0_oldLabels b_0_names b_0_oldNames b_0_wanted b_0_common b_0_flatEdges b_0_upEdges b_0_isPoint b_0_stack b_0_outs b_0_isSeen b_0_ringSpaces b_0_ringStarts b_0_ringSizes b_0_ringLeast b_0_looseLines b_0_looseXs b_0_looseYs b_0_looseReaches cZ cI v_0_code v_0_lines v_0_isFresh v_0_hasRun v_0_runs v_0_nx v_0_ny v_0_spaces v_0_oldNx v_0_oldNy v_0_oldSpaces v_0_points v_0_pieces v_0_rings v_0_outsideSides v_0_looseCount f_0_isFlat f_0_lows f_0_doorCounts f_0_doorFrom f_0_doorTo f_0_xs f_0_ys f_0_pieceLines f_0_pieceBegins f_0_pieceEnds f_0_pieceLeft f_0_pieceRight f_0_far) H := hP.sub [0, 1, 2, 3, 4, 5, 6, 7, 8, 9, 10, 11, 12, 13] rfl
            have hD : va_D A (wl_Mo_passes a_0 a_0_isFlat a_0_lows a_0_doorCounts a_0_doorFrom a_0_doorTo a_0_xs a_0_ys a_0_pieceLines a_0_pieceBegins a_0_pieceEnds a_0_pieceLeft a_0_pieceRight a_0_far b_0_across b_0_highs b_0_thick b_0_labels b_0_oldXs b_0_oldYs b_0_oldLabels b_0_names b_0_oldNames b_0_wanted b_0_common b_0_flatEdges b_0_upEdges b_0_isPoint b_0_stack b_0_outs b_0_isSeen b_0_ringSpaces b_0_ringStarts b_0_ringSizes b_0_ringLeast b_0_looseLines b_0_looseXs b_0_looseYs b_0_looseReaches cZ cI v_0_code v_0_lines v_0_isFresh v_0_hasRun v_0_runs v_0_nx v_0_ny v_0_spaces v_0_oldNx v_0_oldNy v_0_oldSpaces v_0_points v_0_pieces v_0_rings v_0_outsideSides v_0_looseCount f_0_isFlat f_0_lows f_0_doorCounts f_0_doorFrom f_0_doorTo f_0_xs f_0_ys f_0_pieceLines f_0_pieceBegins f_0_pieceEnds f_0_pieceLeft f_0_pieceRight f_0_far) := hD.sub [0, 1, 2, 3, 4, 5, 6, 7, 8, 9, 10, 11, 12, 13] (by decide) rfl
            refine lv_if_le (tgt := 126) hx hb d_Mo_passes_119 (by decide) (fun c33 => ?_) (fun c33 => ?_)
            · replace hm := if_t hm c33
              refine lv_iconst (v := 0) hx hb d_Mo_passes_126 (by decide) ?_
              cases hm
              exact K24 H locs ls hP hD hS (lv_sub hl [0, 1, 2, 3, 4, 5, 7] rfl)
            · replace hm := if_f hm c33
              refine lv_iconst (v := 1) hx hb d_Mo_passes_122 (by decide) ?_
              refine lv_goto (tgt := 127) hx hb d_Mo_passes_123 (by decide) ?_
              cases hm
              exact K24 H locs ls hP hD hS (lv_sub hl [0, 1, 2, 3, 4, 5, 7] rfl)
    obtain ⟨x20, hb35, hm⟩ := bd1_e hm
    refine L72_21 fu _ _ _ hb35 (fun H locs ls hP hD hS hl => ?_) H locs ls hP hD hS (lv_sub hl [4, 5, 6, 7, 3, 2, 1, 0] rfl)
    refine lv_aload_n hx hb d_Mo_passes_135 rfl (lv_at hl 0 rfl) ?_
    refine va_get (D := (dC, dI)) (ci := 11) (v := .ref a_0_pieceLeft) (C := "SpaceCyclesModel") (T := F_Mo) (N := 54) hx hb hts (in_F i_Mo) hown hK hP 0 rfl rfl 37 (by decide) (hts _ (in_c k_334)) (fun _ h9 => h9) rfl d_Mo_passes_136 ?_
    refine lv_iload_n hx hb d_Mo_passes_139 rfl (lv_at hl 1 rfl) ?_
    obtain ⟨hi36, hm⟩ := gI_e hm
    refine va_iald hx hb hK hP 11 0 rfl rfl hi36 d_Mo_passes_140 ?_
    refine lv_iconst (v := 1) hx hb d_Mo_passes_141 (by decide) ?_
    refine lv_iadd hx hb d_Mo_passes_142 ?_
    refine lv_topi (fun x37 ex37 => ?_)
    replace hm := lt_el hm ex37
    refine lv_istore (lv' := [(7, .int x37), (0, .ref a_0), (1, .int p1), (2, .int p2), (6, .int x20)]) hx hb d_Mo_passes_143 hl (by decide) rfl (fun ls hl => ?_)
    refine lv_aload_n hx hb d_Mo_passes_145 rfl (lv_at hl 1 rfl) ?_
    refine va_get (D := (dC, dI)) (ci := 11) (v := .ref a_0_pieceRight) (C := "SpaceCyclesModel") (T := F_Mo) (N := 54) hx hb hts (in_F i_Mo) hown hK hP 0 rfl rfl 38 (by decide) (hts _ (in_c k_335)) (fun _ h9 => h9) rfl d_Mo_passes_146 ?_
    refine lv_iload_n hx hb d_Mo_passes_149 rfl (lv_at hl 2 rfl) ?_
    obtain ⟨hi38, hm⟩ := gI_e hm
    refine va_iald hx hb hK hP 12 0 rfl rfl hi38 d_Mo_passes_150 ?_
    refine lv_iconst (v := 1) hx hb d_Mo_passes_151 (by decide) ?_
    refine lv_iadd hx hb d_Mo_passes_152 ?_
    refine lv_topi (fun x39 ex39 => ?_)
    replace hm := lt_el hm ex39
    refine lv_istore (lv' := [(8, .int x39), (7, .int x37), (0, .ref a_0), (1, .int p1), (2, .int p2), (6, .int x20)]) hx hb d_Mo_passes_153 hl (by decide) rfl (fun ls hl => ?_)
    refine lv_iload hx hb d_Mo_passes_155 (lv_at hl 5 rfl) ?_
    obtain ⟨x43, hb41, hm⟩ := bd1_e hm
    have K40 : ∀ (H : Heap) (locs : List Loc) (ls : Array Slot), va_P (dC, dI) vwCl (wl_Mo_passes a_0 a_0_isFlat a_0_lows a_0_doorCounts a_0_doorFrom a_0_doorTo a_0_xs a_0_ys a_0_pieceLines a_0_pieceBegins a_0_pieceEnds a_0_pieceLeft a_0_pieceRight a_0_far b_0_across b_0_highs b_0_thick b_0_labels b_0_oldXs b_0_oldYs b_0_oldLabels b_0_names b_0_oldNames b_0_wanted b_0_common b_0_flatEdges b_0_upEdges b_0_isPoint b_0_stack b_0_outs b_0_isSeen b_0_ringSpaces b_0_ringStarts b_0_ringSizes b_0_ringLeast b_0_looseLines b_0_looseXs b_0_looseYs b_0_looseReaches cZ cI v_0_code v_0_lines v_0_isFresh v_0_hasRun v_0_runs v_0_nx v_0_ny v_0_spaces v_0_oldNx v_0_oldNy v_0_oldSpaces v_0_points v_0_pieces v_0_rings v_0_outsideSides v_0_looseCount f_0_isFlat f_0_lows f_0_doorCounts f_0_doorFrom f_0_doorTo f_0_xs f_0_ys f_0_pieceLines f_0_pieceBegins f_0_pieceEnds f_0_pieceLeft f_0_pieceRight f_0_far) H → va_D A (wl_Mo_passes a_0 a_0_isFlat a_0_lows a_0_doorCounts a_0_doorFrom a_0_doorTo a_0_xs a_0_ys a_0_pieceLines a_0_pieceBegins a_0_pieceEnds a_0_pieceLeft a_0_pieceRight a_0_far b_0_across b_0_highs b_0_thick b_0_labels b_0_oldXs b_0_oldYs b_0_oldLabels b_0_names b_0_oldNames b_0_wanted b_0_common b_0_flatEdges b_0_upEdges b_0_isPoint b_0_stack b_0_outs b_0_isSeen b_0_ringSpaces b_0_ringStarts b_0_ringSizes b_0_ringLeast b_0_looseLines b_0_looseXs b_0_looseYs b_0_looseReaches cZ cI v_0_code v_0_lines v_0_isFresh v_0_hasRun v_0_runs v_0_nx v_0_ny v_0_spaces v_0_oldNx v_0_oldNy v_0_oldSpaces v_0_points v_0_pieces v_0_rings v_0_outsideSides v_0_looseCount f_0_isFlat f_0_lows f_0_doorCounts f_0_doorFrom f_0_doorTo f_0_xs f_0_ys f_0_pieceLines f_0_pieceBegins f_0_pieceEnds f_0_pieceLeft f_0_pieceRight f_0_far) → va_S A s.heap H locs → lv_has ls 11 [(0, .ref a_0), (2, .int p2), (6, .int x20), (7, .int x37), (8, .int x39)] → W p l e rm_Mo_passes s m args below meth c H locs 0 0 Q (F0 m 188 ls [.int x43]) := by
      intro H locs ls hP hD hS hl
      refine lv_istore (lv' := [(9, .int x43), (0, .ref a_0), (2, .int p2), (6, .int x20), (7, .int x37), (8, .int x39)]) hx hb d_Mo_passes_188 hl (by decide) rfl (fun ls hl => ?_)
      refine lv_iload hx hb d_Mo_passes_190 (lv_at hl 3 rfl) ?_
      obtain ⟨x52, hb50, hm⟩ := bd1_e hm
      have K49 : ∀ (H : Heap) (locs : List Loc) (ls : Array Slot), va_P (dC, dI) vwCl (wl_Mo_passes a_0 a_0_isFlat a_0_lows a_0_doorCounts a_0_doorFrom a_0_doorTo a_0_xs a_0_ys a_0_pieceLines a_0_pieceBegins a_0_pieceEnds a_0_pieceLeft a_0_pieceRight a_0_far b_0_across b_0_highs b_0_thick b_0_labels b_0_oldXs b_0_oldYs b_0_oldLabels b_0_names b_0_oldNames b_0_wanted b_0_common b_0_flatEdges b_0_upEdges b_0_isPoint b_0_stack b_0_outs b_0_isSeen b_0_ringSpaces b_0_ringStarts b_0_ringSizes b_0_ringLeast b_0_looseLines b_0_looseXs b_0_looseYs b_0_looseReaches cZ cI v_0_code v_0_lines v_0_isFresh v_0_hasRun v_0_runs v_0_nx v_0_ny v_0_spaces v_0_oldNx v_0_oldNy v_0_oldSpaces v_0_points v_0_pieces v_0_rings v_0_outsideSides v_0_looseCount f_0_isFlat f_0_lows f_0_doorCounts f_0_doorFrom f_0_doorTo f_0_xs f_0_ys f_0_pieceLines f_0_pieceBegins f_0_pieceEnds f_0_pieceLeft f_0_pieceRight f_0_far) H → va_D A (wl_Mo_passes a_0 a_0_isFlat a_0_lows a_0_doorCounts a_0_doorFrom a_0_doorTo a_0_xs a_0_ys a_0_pieceLines a_0_pieceBegins a_0_pieceEnds a_0_pieceLeft a_0_pieceRight a_0_far b_0_across b_0_highs b_0_thick b_0_labels b_0_oldXs b_0_oldYs b_0_oldLabels b_0_names b_0_oldNames b_0_wanted b_0_common b_0_flatEdges b_0_upEdges b_0_isPoint b_0_stack b_0_outs b_0_isSeen b_0_ringSpaces b_0_ringStarts b_0_ringSizes b_0_ringLeast b_0_looseLines b_0_looseXs b_0_looseYs b_0_looseReaches cZ cI v_0_code v_0_lines v_0_isFresh v_0_hasRun v_0_runs v_0_nx v_0_ny v_0_spaces v_0_oldNx v_0_oldNy v_0_oldSpaces v_0_points v_0_pieces v_0_rings v_0_outsideSides v_0_looseCount f_0_isFlat f_0_lows f_0_doorCounts f_0_doorFrom f_0_doorTo f_0_xs f_0_ys f_0_pieceLines f_0_pieceBegins f_0_pieceEnds f_0_pieceLeft f_0_pieceRight f_0_far) → va_S A s.heap H locs → lv_has ls 11 [(0, .ref a_0), (2, .int p2), (7, .int x37), (8, .int x39), (9, .int x43)] → W p l e rm_Mo_passes s m args below meth c H locs 0 0 Q (F0 m 223 ls [.int x52]) := by
        intro H locs ls hP hD hS hl
        refine lv_istore (lv' := [(10, .int x52), (0, .ref a_0), (2, .int p2), (7, .int x37), (8, .int x39), (9, .int x43)]) hx hb d_Mo_passes_223 hl (by decide) rfl (fun ls hl => ?_)
        refine lv_aload_n hx hb d_Mo_passes_225 rfl (lv_at hl 1 rfl) ?_
        refine va_get (D := (dC, dI)) (ci := 11) (v := .ref a_0_far) (C := "SpaceCyclesModel") (T := F_Mo) (N := 54) hx hb hts (in_F i_Mo) hown hK hP 0 rfl rfl 53 (by decide) (hts _ (in_c k_459)) (fun _ h9 => h9) rfl d_Mo_passes_226 ?_
        refine lv_iload hx hb d_Mo_passes_229 (lv_at hl 4 rfl) ?_
        refine lv_iload hx hb d_Mo_passes_231 (lv_at hl 5 rfl) ?_
        obtain ⟨x61, hb59, hm⟩ := bd1_e hm
        have K58 : ∀ (H : Heap) (locs : List Loc) (ls : Array Slot), va_P (dC, dI) vwCl (wl_Mo_passes a_0 a_0_isFlat a_0_lows a_0_doorCounts a_0_doorFrom a_0_doorTo a_0_xs a_0_ys a_0_pieceLines a_0_pieceBegins a_0_pieceEnds a_0_pieceLeft a_0_pieceRight a_0_far b_0_across b_0_highs b_0_thick b_0_labels b_0_oldXs b_0_oldYs b_0_oldLabels b_0_names b_0_oldNames b_0_wanted b_0_common b_0_flatEdges b_0_upEdges b_0_isPoint b_0_stack b_0_outs b_0_isSeen b_0_ringSpaces b_0_ringStarts b_0_ringSizes b_0_ringLeast b_0_looseLines b_0_looseXs b_0_looseYs b_0_looseReaches cZ cI v_0_code v_0_lines v_0_isFresh v_0_hasRun v_0_runs v_0_nx v_0_ny v_0_spaces v_0_oldNx v_0_oldNy v_0_oldSpaces v_0_points v_0_pieces v_0_rings v_0_outsideSides v_0_looseCount f_0_isFlat f_0_lows f_0_doorCounts f_0_doorFrom f_0_doorTo f_0_xs f_0_ys f_0_pieceLines f_0_pieceBegins f_0_pieceEnds f_0_pieceLeft f_0_pieceRight f_0_far) H → va_D A (wl_Mo_passes a_0 a_0_isFlat a_0_lows a_0_doorCounts a_0_doorFrom a_0_doorTo a_0_xs a_0_ys a_0_pieceLines a_0_pieceBegins a_0_pieceEnds a_0_pieceLeft a_0_pieceRight a_0_far b_0_across b_0_highs b_0_thick b_0_labels b_0_oldXs b_0_oldYs b_0_oldLabels b_0_names b_0_oldNames b_0_wanted b_0_common b_0_flatEdges b_0_upEdges b_0_isPoint b_0_stack b_0_outs b_0_isSeen b_0_ringSpaces b_0_ringStarts b_0_ringSizes b_0_ringLeast b_0_looseLines b_0_looseXs b_0_looseYs b_0_looseReaches cZ cI v_0_code v_0_lines v_0_isFresh v_0_hasRun v_0_runs v_0_nx v_0_ny v_0_spaces v_0_oldNx v_0_oldNy v_0_oldSpaces v_0_points v_0_pieces v_0_rings v_0_outsideSides v_0_looseCount f_0_isFlat f_0_lows f_0_doorCounts f_0_doorFrom f_0_doorTo f_0_xs f_0_ys f_0_pieceLines f_0_pieceBegins f_0_pieceEnds f_0_pieceLeft f_0_pieceRight f_0_far) → va_S A s.heap H locs → lv_has ls 11 [(0, .ref a_0), (2, .int p2), (7, .int x37), (9, .int x43), (10, .int x52)] → W p l e rm_Mo_passes s m args below meth c H locs 0 0 Q (F0 m 249 ls [.int x61, .int x39, .ref a_0_far]) := by
          intro H locs ls hP hD hS hl
          obtain ⟨hi64, hm⟩ := gI_e hm
          obtain ⟨f65, ef65⟩ : ∃ y : Nat → Int32, y = upd f_0_far x39.toNatClampNeg x61 := ⟨_, rfl⟩
          replace hm := lt_el hm ef65
          refine va_iast hx hb hK hP hD hS 13 0 rfl rfl hi64 d_Mo_passes_249 (fun H locs hP hD hS => ?_)
          rw [← ef65] at hP hD
          have hP : va_P (dC, dI) vwCl (wl_Mo_passes a_0 a_0_isFlat a_0_lows a_0_doorCounts a_0_doorFrom a_0_doorTo a_0_xs a_0_ys a_0_pieceLines a_0_pieceBegins a_0_pieceEnds a_0_pieceLeft a_0_pieceRight a_0_far b_0_across b_0_highs b_0_thick b_0_labels b_0_oldXs b_0_oldYs b_0_oldLabels b_0_names b_0_oldNames b_0_wanted b_0_common b_0_flatEdges b_0_upEdges b_0_isPoint b_0_stack b_0_outs b_0_isSeen b_0_ringSpaces b_0_ringStarts b_0_ringSizes b_0_ringLeast b_0_looseLines b_0_looseXs b_0_looseYs b_0_looseReaches cZ cI v_0_code v_0_lines v_0_isFresh v_0_hasRun v_0_runs v_0_nx v_0_ny v_0_spaces v_0_oldNx v_0_oldNy v_0_oldSpaces v_0_points v_0_pieces v_0_rings v_0_outsideSides v_0_looseCount f_0_isFlat f_0_lows f_0_doorCounts f_0_doorFrom f_0_doorTo f_0_xs f_0_ys f_0_pieceLines f_0_pieceBegins f_0_pieceEnds f_0_pieceLeft f_0_pieceRight f65) H := hP
          have hD : va_D A (wl_Mo_passes a_0 a_0_isFlat a_0_lows a_0_doorCounts a_0_doorFrom a_0_doorTo a_0_xs a_0_ys a_0_pieceLines a_0_pieceBegins a_0_pieceEnds a_0_pieceLeft a_0_pieceRight a_0_far b_0_across b_0_highs b_0_thick b_0_labels b_0_oldXs b_0_oldYs b_0_oldLabels b_0_names b_0_oldNames b_0_wanted b_0_common b_0_flatEdges b_0_upEdges b_0_isPoint b_0_stack b_0_outs b_0_isSeen b_0_ringSpaces b_0_ringStarts b_0_ringSizes b_0_ringLeast b_0_looseLines b_0_looseXs b_0_looseYs b_0_looseReaches cZ cI v_0_code v_0_lines v_0_isFresh v_0_hasRun v_0_runs v_0_nx v_0_ny v_0_spaces v_0_oldNx v_0_oldNy v_0_oldSpaces v_0_points v_0_pieces v_0_rings v_0_outsideSides v_0_looseCount f_0_isFlat f_0_lows f_0_doorCounts f_0_doorFrom f_0_doorTo f_0_xs f_0_ys f_0_pieceLines f_0_pieceBegins f_0_pieceEnds f_0_pieceLeft f_0_pieceRight f65) := hD
          refine lv_aload_n hx hb d_Mo_passes_250 rfl (lv_at hl 0 rfl) ?_
          refine va_get (D := (dC, dI)) (ci := 11) (v := .ref a_0_far) (C := "SpaceCyclesModel") (T := F_Mo) (N := 54) hx hb hts (in_F i_Mo) hown hK hP 0 rfl rfl 53 (by decide) (hts _ (in_c k_459)) (fun _ h9 => h9) rfl d_Mo_passes_251 ?_
          refine lv_iload hx hb d_Mo_passes_254 (lv_at hl 2 rfl) ?_
          refine lv_iload hx hb d_Mo_passes_256 (lv_at hl 4 rfl) ?_
          obtain ⟨x69, hb67, hm⟩ := bd1_e hm
          have K66 : ∀ (H : Heap) (locs : List Loc) (ls : Array Slot), va_P (dC, dI) vwCl (wl_Mo_passes a_0 a_0_isFlat a_0_lows a_0_doorCounts a_0_doorFrom a_0_doorTo a_0_xs a_0_ys a_0_pieceLines a_0_pieceBegins a_0_pieceEnds a_0_pieceLeft a_0_pieceRight a_0_far b_0_across b_0_highs b_0_thick b_0_labels b_0_oldXs b_0_oldYs b_0_oldLabels b_0_names b_0_oldNames b_0_wanted b_0_common b_0_flatEdges b_0_upEdges b_0_isPoint b_0_stack b_0_outs b_0_isSeen b_0_ringSpaces b_0_ringStarts b_0_ringSizes b_0_ringLeast b_0_looseLines b_0_looseXs b_0_looseYs b_0_looseReaches cZ cI v_0_code v_0_lines v_0_isFresh v_0_hasRun v_0_runs v_0_nx v_0_ny v_0_spaces v_0_oldNx v_0_oldNy v_0_oldSpaces v_0_points v_0_pieces v_0_rings v_0_outsideSides v_0_looseCount f_0_isFlat f_0_lows f_0_doorCounts f_0_doorFrom f_0_doorTo f_0_xs f_0_ys f_0_pieceLines f_0_pieceBegins f_0_pieceEnds f_0_pieceLeft f_0_pieceRight f65) H → va_D A (wl_Mo_passes a_0 a_0_isFlat a_0_lows a_0_doorCounts a_0_doorFrom a_0_doorTo a_0_xs a_0_ys a_0_pieceLines a_0_pieceBegins a_0_pieceEnds a_0_pieceLeft a_0_pieceRight a_0_far b_0_across b_0_highs b_0_thick b_0_labels b_0_oldXs b_0_oldYs b_0_oldLabels b_0_names b_0_oldNames b_0_wanted b_0_common b_0_flatEdges b_0_upEdges b_0_isPoint b_0_stack b_0_outs b_0_isSeen b_0_ringSpaces b_0_ringStarts b_0_ringSizes b_0_ringLeast b_0_looseLines b_0_looseXs b_0_looseYs b_0_looseReaches cZ cI v_0_code v_0_lines v_0_isFresh v_0_hasRun v_0_runs v_0_nx v_0_ny v_0_spaces v_0_oldNx v_0_oldNy v_0_oldSpaces v_0_points v_0_pieces v_0_rings v_0_outsideSides v_0_looseCount f_0_isFlat f_0_lows f_0_doorCounts f_0_doorFrom f_0_doorTo f_0_xs f_0_ys f_0_pieceLines f_0_pieceBegins f_0_pieceEnds f_0_pieceLeft f_0_pieceRight f65) → va_S A s.heap H locs → lv_has ls 11 [(9, .int x43), (10, .int x52)] → W p l e rm_Mo_passes s m args below meth c H locs 0 0 Q (F0 m 274 ls [.int x69, .int x37, .ref a_0_far]) := by
            intro H locs ls hP hD hS hl
            obtain ⟨hi72, hm⟩ := gI_e hm
            obtain ⟨f73, ef73⟩ : ∃ y : Nat → Int32, y = upd f65 x37.toNatClampNeg x69 := ⟨_, rfl⟩
            replace hm := lt_el hm ef73
            refine va_iast hx hb hK hP hD hS 13 0 rfl rfl hi72 d_Mo_passes_274 (fun H locs hP hD hS => ?_)
            rw [← ef73] at hP hD
            have hP : va_P (dC, dI) vwCl (wl_Mo_passes a_0 a_0_isFlat a_0_lows a_0_doorCounts a_0_doorFrom a_0_doorTo a_0_xs a_0_ys a_0_pieceLines a_0_pieceBegins a_0_pieceEnds a_0_pieceLeft a_0_pieceRight a_0_far b_0_across b_0_highs b_0_thick b_0_labels b_0_oldXs b_0_oldYs b_0_oldLabels b_0_names b_0_oldNames b_0_wanted b_0_common b_0_flatEdges b_0_upEdges b_0_isPoint b_0_stack b_0_outs b_0_isSeen b_0_ringSpaces b_0_ringStarts b_0_ringSizes b_0_ringLeast b_0_looseLines b_0_looseXs b_0_looseYs b_0_looseReaches cZ cI v_0_code v_0_lines v_0_isFresh v_0_hasRun v_0_runs v_0_nx v_0_ny v_0_spaces v_0_oldNx v_0_oldNy v_0_oldSpaces v_0_points v_0_pieces v_0_rings v_0_outsideSides v_0_looseCount f_0_isFlat f_0_lows f_0_doorCounts f_0_doorFrom f_0_doorTo f_0_xs f_0_ys f_0_pieceLines f_0_pieceBegins f_0_pieceEnds f_0_pieceLeft f_0_pieceRight f73) H := hP
            have hD : va_D A (wl_Mo_passes a_0 a_0_isFlat a_0_lows a_0_doorCounts a_0_doorFrom a_0_doorTo a_0_xs a_0_ys a_0_pieceLines a_0_pieceBegins a_0_pieceEnds a_0_pieceLeft a_0_pieceRight a_0_far b_0_across b_0_highs b_0_thick b_0_labels b_0_oldXs b_0_oldYs b_0_oldLabels b_0_names b_0_oldNames b_0_wanted b_0_common b_0_flatEdges b_0_upEdges b_0_isPoint b_0_stack b_0_outs b_0_isSeen b_0_ringSpaces b_0_ringStarts b_0_ringSizes b_0_ringLeast b_0_looseLines b_0_looseXs b_0_looseYs b_0_looseReaches cZ cI v_0_code v_0_lines v_0_isFresh v_0_hasRun v_0_runs v_0_nx v_0_ny v_0_spaces v_0_oldNx v_0_oldNy v_0_oldSpaces v_0_points v_0_pieces v_0_rings v_0_outsideSides v_0_looseCount f_0_isFlat f_0_lows f_0_doorCounts f_0_doorFrom f_0_doorTo f_0_xs f_0_ys f_0_pieceLines f_0_pieceBegins f_0_pieceEnds f_0_pieceLeft f_0_pieceRight f73) := hD
            refine lv_iload hx hb d_Mo_passes_275 (lv_at hl 0 rfl) ?_
            obtain ⟨x77, hb75, hm⟩ := bd1_e hm
            have K74 : ∀ (H : Heap) (locs : List Loc) (ls : Array Slot), va_P (dC, dI) vwCl (wl_Mo_passes a_0 a_0_isFlat a_0_lows a_0_doorCounts a_0_doorFrom a_0_doorTo a_0_xs a_0_ys a_0_pieceLines a_0_pieceBegins a_0_pieceEnds a_0_pieceLeft a_0_pieceRight a_0_far b_0_across b_0_highs b_0_thick b_0_labels b_0_oldXs b_0_oldYs b_0_oldLabels b_0_names b_0_oldNames b_0_wanted b_0_common b_0_flatEdges b_0_upEdges b_0_isPoint b_0_stack b_0_outs b_0_isSeen b_0_ringSpaces b_0_ringStarts b_0_ringSizes b_0_ringLeast b_0_looseLines b_0_looseXs b_0_looseYs b_0_looseReaches cZ cI v_0_code v_0_lines v_0_isFresh v_0_hasRun v_0_runs v_0_nx v_0_ny v_0_spaces v_0_oldNx v_0_oldNy v_0_oldSpaces v_0_points v_0_pieces v_0_rings v_0_outsideSides v_0_looseCount f_0_isFlat f_0_lows f_0_doorCounts f_0_doorFrom f_0_doorTo f_0_xs f_0_ys f_0_pieceLines f_0_pieceBegins f_0_pieceEnds f_0_pieceLeft f_0_pieceRight f73) H → va_D A (wl_Mo_passes a_0 a_0_isFlat a_0_lows a_0_doorCounts a_0_doorFrom a_0_doorTo a_0_xs a_0_ys a_0_pieceLines a_0_pieceBegins a_0_pieceEnds a_0_pieceLeft a_0_pieceRight a_0_far b_0_across b_0_highs b_0_thick b_0_labels b_0_oldXs b_0_oldYs b_0_oldLabels b_0_names b_0_oldNames b_0_wanted b_0_common b_0_flatEdges b_0_upEdges b_0_isPoint b_0_stack b_0_outs b_0_isSeen b_0_ringSpaces b_0_ringStarts b_0_ringSizes b_0_ringLeast b_0_looseLines b_0_looseXs b_0_looseYs b_0_looseReaches cZ cI v_0_code v_0_lines v_0_isFresh v_0_hasRun v_0_runs v_0_nx v_0_ny v_0_spaces v_0_oldNx v_0_oldNy v_0_oldSpaces v_0_points v_0_pieces v_0_rings v_0_outsideSides v_0_looseCount f_0_isFlat f_0_lows f_0_doorCounts f_0_doorFrom f_0_doorTo f_0_xs f_0_ys f_0_pieceLines f_0_pieceBegins f_0_pieceEnds f_0_pieceLeft f_0_pieceRight f73) → va_S A s.heap H locs → lv_has ls 11 [] → W p l e rm_Mo_passes s m args below meth c H locs 0 0 Q (F0 m 290 ls [.int x77]) := by
              intro H locs ls hP hD hS hl
              obtain ⟨hB, hm⟩ := gB_e hm
              cases hm
              exact hret _ H locs ls d_Mo_passes_290 hB hP hD hS
            replace hm := hb75
            refine lv_if_ne (tgt := 285) hx hb d_Mo_passes_277 (by decide) (fun c78 => ?_) (fun c78 => ?_)
            · replace hm := if_f hm c78
              refine lv_iconst (v := 1) hx hb d_Mo_passes_285 (by decide) ?_
              refine lv_goto (tgt := 290) hx hb d_Mo_passes_286 (by decide) ?_
              cases hm
              exact K74 H locs ls hP hD hS (lv_sub hl [] rfl)
            · replace hm := if_t hm c78
              refine lv_iload hx hb d_Mo_passes_280 (lv_at hl 1 rfl) ?_
              refine lv_if_eq (tgt := 289) hx hb d_Mo_passes_282 (by decide) (fun c79 => ?_) (fun c79 => ?_)
              · replace hm := if_t hm c79
                refine lv_iconst (v := 0) hx hb d_Mo_passes_289 (by decide) ?_
                cases hm
                exact K74 H locs ls hP hD hS (lv_sub hl [] rfl)
              · replace hm := if_f hm c79
                refine lv_iconst (v := 1) hx hb d_Mo_passes_285 (by decide) ?_
                refine lv_goto (tgt := 290) hx hb d_Mo_passes_286 (by decide) ?_
                cases hm
                exact K74 H locs ls hP hD hS (lv_sub hl [] rfl)
          replace hm := hb67
          refine lv_if_eq (tgt := 267) hx hb d_Mo_passes_258 (by decide) (fun c70 => ?_) (fun c70 => ?_)
          · replace hm := if_t hm c70
            refine lv_aload_n hx hb d_Mo_passes_267 rfl (lv_at hl 0 rfl) ?_
            refine va_get (D := (dC, dI)) (ci := 11) (v := .ref a_0_far) (C := "SpaceCyclesModel") (T := F_Mo) (N := 54) hx hb hts (in_F i_Mo) hown hK hP 0 rfl rfl 53 (by decide) (hts _ (in_c k_459)) (fun _ h9 => h9) rfl d_Mo_passes_268 ?_
            refine lv_iload hx hb d_Mo_passes_271 (lv_at hl 2 rfl) ?_
            obtain ⟨hi71, hm⟩ := gI_e hm
            refine va_iald hx hb hK hP 13 0 rfl rfl hi71 d_Mo_passes_273 ?_
            cases hm
            exact K66 H locs ls hP hD hS (lv_sub hl [3, 4] rfl)
          · replace hm := if_f hm c70
            refine lv_iload_n hx hb d_Mo_passes_261 rfl (lv_at hl 1 rfl) ?_
            refine lv_iconst (v := 1) hx hb d_Mo_passes_262 (by decide) ?_
            refine lv_iadd hx hb d_Mo_passes_263 ?_
            refine lv_goto (tgt := 274) hx hb d_Mo_passes_264 (by decide) ?_
            cases hm
            exact K66 H locs ls hP hD hS (lv_sub hl [3, 4] rfl)
        replace hm := hb59
        refine lv_if_eq (tgt := 242) hx hb d_Mo_passes_233 (by decide) (fun c62 => ?_) (fun c62 => ?_)
        · replace hm := if_t hm c62
          refine lv_aload_n hx hb d_Mo_passes_242 rfl (lv_at hl 1 rfl) ?_
          refine va_get (D := (dC, dI)) (ci := 11) (v := .ref a_0_far) (C := "SpaceCyclesModel") (T := F_Mo) (N := 54) hx hb hts (in_F i_Mo) hown hK hP 0 rfl rfl 53 (by decide) (hts _ (in_c k_459)) (fun _ h9 => h9) rfl d_Mo_passes_243 ?_
          refine lv_iload hx hb d_Mo_passes_246 (lv_at hl 4 rfl) ?_
          obtain ⟨hi63, hm⟩ := gI_e hm
          refine va_iald hx hb hK hP 13 0 rfl rfl hi63 d_Mo_passes_248 ?_
          cases hm
          exact K58 H locs ls hP hD hS (lv_sub hl [1, 2, 3, 5, 0] rfl)
        · replace hm := if_f hm c62
          refine lv_iload_n hx hb d_Mo_passes_236 rfl (lv_at hl 2 rfl) ?_
          refine lv_iconst (v := 1) hx hb d_Mo_passes_237 (by decide) ?_
          refine lv_iadd hx hb d_Mo_passes_238 ?_
          refine lv_goto (tgt := 249) hx hb d_Mo_passes_239 (by decide) ?_
          cases hm
          exact K58 H locs ls hP hD hS (lv_sub hl [1, 2, 3, 5, 0] rfl)
      replace hm := hb50
      refine lv_if_eq (tgt := 222) hx hb d_Mo_passes_192 (by decide) (fun c53 => ?_) (fun c53 => ?_)
      · replace hm := if_t hm c53
        refine lv_iconst (v := 0) hx hb d_Mo_passes_222 (by decide) ?_
        cases hm
        exact K49 H locs ls hP hD hS (lv_sub hl [1, 2, 4, 5, 0] rfl)
      · replace hm := if_f hm c53
        refine lv_aload_n hx hb d_Mo_passes_195 rfl (lv_at hl 1 rfl) ?_
        refine va_get (D := (dC, dI)) (ci := 11) (v := .ref a_0_far) (C := "SpaceCyclesModel") (T := F_Mo) (N := 54) hx hb hts (in_F i_Mo) hown hK hP 0 rfl rfl 53 (by decide) (hts _ (in_c k_459)) (fun _ h9 => h9) rfl d_Mo_passes_196 ?_
        refine lv_iload hx hb d_Mo_passes_199 (lv_at hl 5 rfl) ?_
        obtain ⟨hi54, hm⟩ := gI_e hm
        refine va_iald hx hb hK hP 13 0 rfl rfl hi54 d_Mo_passes_201 ?_
        refine lv_iload_n hx hb d_Mo_passes_202 rfl (lv_at hl 2 rfl) ?_
        refine lv_icmp_ne (tgt := 222) hx hb d_Mo_passes_203 (by decide) (fun c55 => ?_) (fun c55 => ?_)
        · replace hm := if_f hm c55
          refine lv_iconst (v := 0) hx hb d_Mo_passes_222 (by decide) ?_
          cases hm
          exact K49 H locs ls hP hD hS (lv_sub hl [1, 2, 4, 5, 0] rfl)
        · replace hm := if_t hm c55
          refine lv_aload_n hx hb d_Mo_passes_206 rfl (lv_at hl 1 rfl) ?_
          refine va_get (D := (dC, dI)) (ci := 11) (v := .ref a_0_far) (C := "SpaceCyclesModel") (T := F_Mo) (N := 54) hx hb hts (in_F i_Mo) hown hK hP 0 rfl rfl 53 (by decide) (hts _ (in_c k_459)) (fun _ h9 => h9) rfl d_Mo_passes_207 ?_
          refine lv_iload hx hb d_Mo_passes_210 (lv_at hl 4 rfl) ?_
          obtain ⟨hi56, hm⟩ := gI_e hm
          refine va_iald hx hb hK hP 13 0 rfl rfl hi56 d_Mo_passes_212 ?_
          refine lv_bipush (v := (-2)) hx hb d_Mo_passes_213 (by decide) ?_
          refine lv_icmp_ne (tgt := 222) hx hb d_Mo_passes_215 (by decide) (fun c57 => ?_) (fun c57 => ?_)
          · replace hm := if_f hm c57
            refine lv_iconst (v := 0) hx hb d_Mo_passes_222 (by decide) ?_
            cases hm
            exact K49 H locs ls hP hD hS (lv_sub hl [1, 2, 4, 5, 0] rfl)
          · replace hm := if_t hm c57
            refine lv_iconst (v := 1) hx hb d_Mo_passes_218 (by decide) ?_
            refine lv_goto (tgt := 223) hx hb d_Mo_passes_219 (by decide) ?_
            cases hm
            exact K49 H locs ls hP hD hS (lv_sub hl [1, 2, 4, 5, 0] rfl)
    replace hm := hb41
    refine lv_if_eq (tgt := 187) hx hb d_Mo_passes_157 (by decide) (fun c44 => ?_) (fun c44 => ?_)
    · replace hm := if_t hm c44
      refine lv_iconst (v := 0) hx hb d_Mo_passes_187 (by decide) ?_
      cases hm
      exact K40 H locs ls hP hD hS (lv_sub hl [2, 4, 5, 1, 0] rfl)
    · replace hm := if_f hm c44
      refine lv_aload_n hx hb d_Mo_passes_160 rfl (lv_at hl 2 rfl) ?_
      refine va_get (D := (dC, dI)) (ci := 11) (v := .ref a_0_far) (C := "SpaceCyclesModel") (T := F_Mo) (N := 54) hx hb hts (in_F i_Mo) hown hK hP 0 rfl rfl 53 (by decide) (hts _ (in_c k_459)) (fun _ h9 => h9) rfl d_Mo_passes_161 ?_
      refine lv_iload hx hb d_Mo_passes_164 (lv_at hl 1 rfl) ?_
      obtain ⟨hi45, hm⟩ := gI_e hm
      refine va_iald hx hb hK hP 13 0 rfl rfl hi45 d_Mo_passes_166 ?_
      refine lv_iload_n hx hb d_Mo_passes_167 rfl (lv_at hl 4 rfl) ?_
      refine lv_icmp_ne (tgt := 187) hx hb d_Mo_passes_168 (by decide) (fun c46 => ?_) (fun c46 => ?_)
      · replace hm := if_f hm c46
        refine lv_iconst (v := 0) hx hb d_Mo_passes_187 (by decide) ?_
        cases hm
        exact K40 H locs ls hP hD hS (lv_sub hl [2, 4, 5, 1, 0] rfl)
      · replace hm := if_t hm c46
        refine lv_aload_n hx hb d_Mo_passes_171 rfl (lv_at hl 2 rfl) ?_
        refine va_get (D := (dC, dI)) (ci := 11) (v := .ref a_0_far) (C := "SpaceCyclesModel") (T := F_Mo) (N := 54) hx hb hts (in_F i_Mo) hown hK hP 0 rfl rfl 53 (by decide) (hts _ (in_c k_459)) (fun _ h9 => h9) rfl d_Mo_passes_172 ?_
        refine lv_iload hx hb d_Mo_passes_175 (lv_at hl 0 rfl) ?_
        obtain ⟨hi47, hm⟩ := gI_e hm
        refine va_iald hx hb hK hP 13 0 rfl rfl hi47 d_Mo_passes_177 ?_
        refine lv_bipush (v := (-2)) hx hb d_Mo_passes_178 (by decide) ?_
        refine lv_icmp_ne (tgt := 187) hx hb d_Mo_passes_180 (by decide) (fun c48 => ?_) (fun c48 => ?_)
        · replace hm := if_f hm c48
          refine lv_iconst (v := 0) hx hb d_Mo_passes_187 (by decide) ?_
          cases hm
          exact K40 H locs ls hP hD hS (lv_sub hl [2, 4, 5, 1, 0] rfl)
        · replace hm := if_t hm c48
          refine lv_iconst (v := 1) hx hb d_Mo_passes_183 (by decide) ?_
          refine lv_goto (tgt := 188) hx hb d_Mo_passes_184 (by decide) ?_
          cases hm
          exact K40 H locs ls hP hD hS (lv_sub hl [2, 4, 5, 1, 0] rfl)
  replace hm := hb5
  refine lv_if_eq (tgt := 33) hx hb d_Mo_passes_13 (by decide) (fun c8 => ?_) (fun c8 => ?_)
  · replace hm := if_t hm c8
    refine lv_aload_n hx hb d_Mo_passes_33 rfl (lv_at hl 1 rfl) ?_
    refine va_get (D := (dC, dI)) (ci := 11) (v := .ref a_0_ys) (C := "SpaceCyclesModel") (T := F_Mo) (N := 54) hx hb hts (in_F i_Mo) hown hK hP 0 rfl rfl 14 (by decide) (hts _ (in_c k_306)) (fun _ h9 => h9) rfl d_Mo_passes_34 ?_
    refine lv_aload_n hx hb d_Mo_passes_37 rfl (lv_at hl 1 rfl) ?_
    refine va_get (D := (dC, dI)) (ci := 11) (v := .ref a_0_pieceBegins) (C := "SpaceCyclesModel") (T := F_Mo) (N := 54) hx hb hts (in_F i_Mo) hown hK hP 0 rfl rfl 35 (by decide) (hts _ (in_c k_332)) (fun _ h9 => h9) rfl d_Mo_passes_38 ?_
    refine lv_iload_n hx hb d_Mo_passes_41 rfl (lv_at hl 2 rfl) ?_
    obtain ⟨hi9, hm⟩ := gI_e hm
    refine va_iald hx hb hK hP 9 0 rfl rfl hi9 d_Mo_passes_42 ?_
    refine lv_bipush (v := 42) hx hb d_Mo_passes_43 (by decide) ?_
    refine lv_irem hx hb d_Mo_passes_45 (by decide) ?_
    obtain ⟨hi10, hm⟩ := gI_e hm
    refine va_iald hx hb hK hP 7 0 rfl rfl hi10 d_Mo_passes_46 ?_
    cases hm
    exact K4 H locs ls hP hD hS (lv_sub hl [1, 2, 3, 0] rfl)
  · replace hm := if_f hm c8
    refine lv_aload_n hx hb d_Mo_passes_16 rfl (lv_at hl 1 rfl) ?_
    refine va_get (D := (dC, dI)) (ci := 11) (v := .ref a_0_xs) (C := "SpaceCyclesModel") (T := F_Mo) (N := 54) hx hb hts (in_F i_Mo) hown hK hP 0 rfl rfl 13 (by decide) (hts _ (in_c k_302)) (fun _ h9 => h9) rfl d_Mo_passes_17 ?_
    refine lv_aload_n hx hb d_Mo_passes_20 rfl (lv_at hl 1 rfl) ?_
    refine va_get (D := (dC, dI)) (ci := 11) (v := .ref a_0_pieceBegins) (C := "SpaceCyclesModel") (T := F_Mo) (N := 54) hx hb hts (in_F i_Mo) hown hK hP 0 rfl rfl 35 (by decide) (hts _ (in_c k_332)) (fun _ h9 => h9) rfl d_Mo_passes_21 ?_
    refine lv_iload_n hx hb d_Mo_passes_24 rfl (lv_at hl 2 rfl) ?_
    obtain ⟨hi11, hm⟩ := gI_e hm
    refine va_iald hx hb hK hP 9 0 rfl rfl hi11 d_Mo_passes_25 ?_
    refine lv_bipush (v := 42) hx hb d_Mo_passes_26 (by decide) ?_
    refine lv_idiv hx hb d_Mo_passes_28 (by decide) ?_
    obtain ⟨hi12, hm⟩ := gI_e hm
    refine va_iald hx hb hK hP 6 0 rfl rfl hi12 d_Mo_passes_29 ?_
    refine lv_goto (tgt := 47) hx hb d_Mo_passes_30 (by decide) ?_
    cases hm
    exact K4 H locs ls hP hD hS (lv_sub hl [1, 2, 3, 0] rfl)
set_option maxHeartbeats 4000000 in
set_option maxRecDepth 100000 in
theorem c_Mo_passes (l : Launch) (dC : Nat → ClassId) (dI : Nat → Nat → Nat) {cI cZ cJ : ClassId} (a_0 a_0_isFlat a_0_lows a_0_doorCounts a_0_doorFrom a_0_doorTo a_0_xs a_0_ys a_0_pieceLines a_0_pieceBegins a_0_pieceEnds a_0_pieceLeft a_0_pieceRight a_0_far b_0_across b_0_highs b_0_thick b_0_labels b_0_oldXs b_0_oldYs b_0_oldLabels b_0_names b_0_oldNames b_0_wanted b_0_common b_0_flatEdges b_0_upEdges b_0_isPoint b_0_stack b_0_outs b_0_isSeen b_0_ringSpaces b_0_ringStarts b_0_ringSizes b_0_ringLeast b_0_looseLines b_0_looseXs b_0_looseYs b_0_looseReaches : Nat) (sz : Nat) (v_0_code : Int32) (v_0_lines : Int32) (v_0_isFresh : Int32) (v_0_hasRun : Int32) (v_0_runs : Int32) (v_0_nx : Int32) (v_0_ny : Int32) (v_0_spaces : Int32) (v_0_oldNx : Int32) (v_0_oldNy : Int32) (v_0_oldSpaces : Int32) (v_0_points : Int32) (v_0_pieces : Int32) (v_0_rings : Int32) (v_0_outsideSides : Int32) (v_0_looseCount : Int32) (f_0_isFlat : Nat → Int32) (f_0_lows : Nat → Int32) (f_0_doorCounts : Nat → Int32) (f_0_doorFrom : Nat → Int32) (f_0_doorTo : Nat → Int32) (f_0_xs : Nat → Int32) (f_0_ys : Nat → Int32) (f_0_pieceLines : Nat → Int32) (f_0_pieceBegins : Nat → Int32) (f_0_pieceEnds : Nat → Int32) (f_0_pieceLeft : Nat → Int32) (f_0_pieceRight : Nat → Int32) (f_0_far : Nat → Int32) (p1 : Int32) (p2 : Int32) (R0 : Int32) (of_0_far : Nat → Int32) (hm : m_Mo_passes p1 p2 f_0_isFlat f_0_lows f_0_doorCounts f_0_doorFrom f_0_doorTo f_0_xs f_0_ys f_0_pieceLines f_0_pieceBegins f_0_pieceEnds f_0_pieceLeft f_0_pieceRight f_0_far = some (R0, of_0_far)) : Met l y_Mo_passes w_Mo_passes rm_Mo_passes (PP dC dI [(cI, .int), (cZ, .boolean), (cJ, .long)] [.ref a_0, .int p1, .int p2] sz (wl_Mo_passes a_0 a_0_isFlat a_0_lows a_0_doorCounts a_0_doorFrom a_0_doorTo a_0_xs a_0_ys a_0_pieceLines a_0_pieceBegins a_0_pieceEnds a_0_pieceLeft a_0_pieceRight a_0_far b_0_across b_0_highs b_0_thick b_0_labels b_0_oldXs b_0_oldYs b_0_oldLabels b_0_names b_0_oldNames b_0_wanted b_0_common b_0_flatEdges b_0_upEdges b_0_isPoint b_0_stack b_0_outs b_0_isSeen b_0_ringSpaces b_0_ringStarts b_0_ringSizes b_0_ringLeast b_0_looseLines b_0_looseXs b_0_looseYs b_0_looseReaches cZ cI v_0_code v_0_lines v_0_isFresh v_0_hasRun v_0_runs v_0_nx v_0_ny v_0_spaces v_0_oldNx v_0_oldNy v_0_oldSpaces v_0_points v_0_pieces v_0_rings v_0_outsideSides v_0_looseCount f_0_isFlat f_0_lows f_0_doorCounts f_0_doorFrom f_0_doorTo f_0_xs f_0_ys f_0_pieceLines f_0_pieceBegins f_0_pieceEnds f_0_pieceLeft f_0_pieceRight f_0_far)) (QI dC dI [(cI, .int), (cZ, .boolean), (cJ, .long)] sz (wl_Mo_passes a_0 a_0_isFlat a_0_lows a_0_doorCounts a_0_doorFrom a_0_doorTo a_0_xs a_0_ys a_0_pieceLines a_0_pieceBegins a_0_pieceEnds a_0_pieceLeft a_0_pieceRight a_0_far b_0_across b_0_highs b_0_thick b_0_labels b_0_oldXs b_0_oldYs b_0_oldLabels b_0_names b_0_oldNames b_0_wanted b_0_common b_0_flatEdges b_0_upEdges b_0_isPoint b_0_stack b_0_outs b_0_isSeen b_0_ringSpaces b_0_ringStarts b_0_ringSizes b_0_ringLeast b_0_looseLines b_0_looseXs b_0_looseYs b_0_looseReaches cZ cI v_0_code v_0_lines v_0_isFresh v_0_hasRun v_0_runs v_0_nx v_0_ny v_0_spaces v_0_oldNx v_0_oldNy v_0_oldSpaces v_0_points v_0_pieces v_0_rings v_0_outsideSides v_0_looseCount f_0_isFlat f_0_lows f_0_doorCounts f_0_doorFrom f_0_doorTo f_0_xs f_0_ys f_0_pieceLines f_0_pieceBegins f_0_pieceEnds f_0_pieceLeft f_0_pieceRight f_0_far) (wl_Mo_passes a_0 a_0_isFlat a_0_lows a_0_doorCounts a_0_doorFrom a_0_doorTo a_0_xs a_0_ys a_0_pieceLines a_0_pieceBegins a_0_pieceEnds a_0_pieceLeft a_0_pieceRight a_0_far b_0_across b_0_highs b_0_thick b_0_labels b_0_oldXs b_0_oldYs b_0_oldLabels b_0_names b_0_oldNames b_0_wanted b_0_common b_0_flatEdges b_0_upEdges b_0_isPoint b_0_stack b_0_outs b_0_isSeen b_0_ringSpaces b_0_ringStarts b_0_ringSizes b_0_ringLeast b_0_looseLines b_0_looseXs b_0_looseYs b_0_looseReaches cZ cI v_0_code v_0_lines v_0_isFresh v_0_hasRun v_0_runs v_0_nx v_0_ny v_0_spaces v_0_oldNx v_0_oldNy v_0_oldSpaces v_0_points v_0_pieces v_0_rings v_0_outsideSides v_0_looseCount f_0_isFlat f_0_lows f_0_doorCounts f_0_doorFrom f_0_doorTo f_0_xs f_0_ys f_0_pieceLines f_0_pieceBegins f_0_pieceEnds f_0_pieceLeft f_0_pieceRight of_0_far) R0) 0 0 (va_A (wl_Mo_passes a_0 a_0_isFlat a_0_lows a_0_doorCounts a_0_doorFrom a_0_doorTo a_0_xs a_0_ys a_0_pieceLines a_0_pieceBegins a_0_pieceEnds a_0_pieceLeft a_0_pieceRight a_0_far b_0_across b_0_highs b_0_thick b_0_labels b_0_oldXs b_0_oldYs b_0_oldLabels b_0_names b_0_oldNames b_0_wanted b_0_common b_0_flatEdges b_0_upEdges b_0_isPoint b_0_stack b_0_outs b_0_isSeen b_0_ringSpaces b_0_ringStarts b_0_ringSizes b_0_ringLeast b_0_looseLines b_0_looseXs b_0_looseYs b_0_looseReaches cZ cI v_0_code v_0_lines v_0_isFresh v_0_hasRun v_0_runs v_0_nx v_0_ny v_0_spaces v_0_oldNx v_0_oldNy v_0_oldSpaces v_0_points v_0_pieces v_0_rings v_0_outsideSides v_0_looseCount f_0_isFlat f_0_lows f_0_doorCounts f_0_doorFrom f_0_doorTo f_0_xs f_0_ys f_0_pieceLines f_0_pieceBegins f_0_pieceEnds f_0_pieceLeft f_0_pieceRight f_0_far) sz) := by
  refine Met.ofW (cc := b_Mo_passes) (maxL := 11) (ret := (some .boolean)) (by decide) rfl ?_
  intro p e s m args below meth c s₁ B hml hv
  obtain ⟨rfl, hsz, hP, hK, hD0, hN⟩ := hv
  subst hsz
  have hl := lv_entry ([.ref a_0, .int p1, .int p2]) (n := 11) (Nat.le_of_ble_eq_true rfl)
  rw [lg_entry_eq]
  generalize (lg_sl ([.ref a_0, .int p1, .int p2]) ++ List.replicate (11 - (lg_sl ([.ref a_0, .int p1, .int p2])).length) Slot.unset).toArray = ls at hl ⊢
  exact t_Mo_passes a_0 a_0_isFlat a_0_lows a_0_doorCounts a_0_doorFrom a_0_doorTo a_0_xs a_0_ys a_0_pieceLines a_0_pieceBegins a_0_pieceEnds a_0_pieceLeft a_0_pieceRight a_0_far b_0_across b_0_highs b_0_thick b_0_labels b_0_oldXs b_0_oldYs b_0_oldLabels b_0_names b_0_oldNames b_0_wanted b_0_common b_0_flatEdges b_0_upEdges b_0_isPoint b_0_stack b_0_outs b_0_isSeen b_0_ringSpaces b_0_ringStarts b_0_ringSizes b_0_ringLeast b_0_looseLines b_0_looseXs b_0_looseYs b_0_looseReaches v_0_code v_0_lines v_0_isFresh v_0_hasRun v_0_runs v_0_nx v_0_ny v_0_spaces v_0_oldNx v_0_oldNy v_0_oldSpaces v_0_points v_0_pieces v_0_rings v_0_outsideSides v_0_looseCount f_0_isFlat f_0_lows f_0_doorCounts f_0_doorFrom f_0_doorTo f_0_xs f_0_ys f_0_pieceLines f_0_pieceBegins f_0_pieceEnds f_0_pieceLeft f_0_pieceRight f_0_far p1 p2 R0 of_0_far B.exec B.bytes hml (findClass_of_methodNamed B.named) (atoms_spec (ws := w_Mo_passes) B.pre) hK hN (fun q h => Or.inr h) (fun pc H locs ls hd hz hP9 hD9 hS => W.zret B.exec B.bytes B.returns (nar_b hz) (fun t ht hW => ⟨⟨_, (), rfl, rfl, by rw [ht]; exact hP9, va_K.moved hW.alike hK, hD9⟩, hS.F ht⟩) hS.2.2 hd) hm s.heap [] ls hP hD0.self va_S.rf hl

theorem k_460 : ((.code ⟨"SpaceCyclesModel", "passes", "(II)Z"⟩ prog_13_method_49_code 11 (some .boolean)) : Cond) ∈ gl := gl_i 1480 (by decide +kernel) (by decide +kernel)
theorem k_461 : ((.selects "SpaceCyclesModel" ⟨"SpaceCyclesModel", "passes", "(II)Z"⟩ ⟨"SpaceCyclesModel", "passes", "(II)Z"⟩) : Cond) ∈ gl := gl_s (by decide +kernel) (by decide +kernel)
theorem k_462 : ((.instanceMethod ⟨"SpaceCyclesModel", "passes", "(II)Z"⟩) : Cond) ∈ gl := gl_i 1479 (by decide +kernel) (by decide +kernel)
theorem k_463 : ((.methodLink "SpaceCyclesModel" 305 ⟨"SpaceCyclesModel", "passes", "(II)Z"⟩) : Cond) ∈ gl := gl_i 1477 (by decide +kernel) (by decide +kernel)
-- SpaceCyclesModel.way(II)I
abbrev b_Mo_way : ByteArray := prog_13_method_50_code
abbrev y_Mo_way : MethodName := ⟨"SpaceCyclesModel", "way", "(II)I"⟩
abbrev w_Mo_way : List Cond := Cond.code y_Mo_way b_Mo_way 7 (some .int) :: gl
abbrev rm_Mo_way : Room := { frames := 3, cells := 0, slots := 0, locals := 67 }
theorem d_Mo_way_0 : decode b_Mo_way 0 = .ok (.aload_n 0, 1) := by decide +kernel
theorem d_Mo_way_1 : decode b_Mo_way 1 = .ok (.aload_n 0, 1) := by decide +kernel
theorem d_Mo_way_2 : decode b_Mo_way 2 = .ok (.getfield 266, 3) := by decide +kernel
theorem d_Mo_way_5 : decode b_Mo_way 5 = .ok (.ifCond .eq 23, 3) := by decide +kernel
theorem d_Mo_way_8 : decode b_Mo_way 8 = .ok (.aload_n 0, 1) := by decide +kernel
theorem d_Mo_way_9 : decode b_Mo_way 9 = .ok (.iload_n 1, 1) := by decide +kernel
theorem d_Mo_way_10 : decode b_Mo_way 10 = .ok (.invokevirtual 302, 3) := by decide +kernel
theorem d_Mo_way_13 : decode b_Mo_way 13 = .ok (.ifCond .eq 15, 3) := by decide +kernel
theorem d_Mo_way_16 : decode b_Mo_way 16 = .ok (.aload_n 0, 1) := by decide +kernel
theorem d_Mo_way_17 : decode b_Mo_way 17 = .ok (.iload_n 2, 1) := by decide +kernel
theorem d_Mo_way_18 : decode b_Mo_way 18 = .ok (.invokevirtual 302, 3) := by decide +kernel
theorem d_Mo_way_21 : decode b_Mo_way 21 = .ok (.ifCond .eq 7, 3) := by decide +kernel
theorem d_Mo_way_24 : decode b_Mo_way 24 = .ok (.iconst 1, 1) := by decide +kernel
theorem d_Mo_way_25 : decode b_Mo_way 25 = .ok (.goto 4, 3) := by decide +kernel
theorem d_Mo_way_28 : decode b_Mo_way 28 = .ok (.iconst 0, 1) := by decide +kernel
theorem d_Mo_way_29 : decode b_Mo_way 29 = .ok (.invokevirtual 271, 3) := by decide +kernel
theorem d_Mo_way_32 : decode b_Mo_way 32 = .ok (.ifCond .ne 5, 3) := by decide +kernel
theorem d_Mo_way_35 : decode b_Mo_way 35 = .ok (.iconst 0, 1) := by decide +kernel
theorem d_Mo_way_36 : decode b_Mo_way 36 = .ok (.ireturn, 1) := by decide +kernel
theorem d_Mo_way_37 : decode b_Mo_way 37 = .ok (.iconst 0, 1) := by decide +kernel
theorem d_Mo_way_38 : decode b_Mo_way 38 = .ok (.istore_n 3, 1) := by decide +kernel
theorem d_Mo_way_39 : decode b_Mo_way 39 = .ok (.iload_n 3, 1) := by decide +kernel
theorem d_Mo_way_40 : decode b_Mo_way 40 = .ok (.aload_n 0, 1) := by decide +kernel
theorem d_Mo_way_41 : decode b_Mo_way 41 = .ok (.getfield 185, 3) := by decide +kernel
theorem d_Mo_way_44 : decode b_Mo_way 44 = .ok (.if_icmp .gt 28, 3) := by decide +kernel
theorem d_Mo_way_47 : decode b_Mo_way 47 = .ok (.aload_n 0, 1) := by decide +kernel
theorem d_Mo_way_48 : decode b_Mo_way 48 = .ok (.getfield 123, 3) := by decide +kernel
theorem d_Mo_way_51 : decode b_Mo_way 51 = .ok (.iload_n 3, 1) := by decide +kernel
theorem d_Mo_way_52 : decode b_Mo_way 52 = .ok (.iload_n 3, 1) := by decide +kernel
theorem d_Mo_way_53 : decode b_Mo_way 53 = .ok (.iload_n 1, 1) := by decide +kernel
theorem d_Mo_way_54 : decode b_Mo_way 54 = .ok (.iconst 1, 1) := by decide +kernel
theorem d_Mo_way_55 : decode b_Mo_way 55 = .ok (.iadd, 1) := by decide +kernel
theorem d_Mo_way_56 : decode b_Mo_way 56 = .ok (.if_icmp .ne 7, 3) := by decide +kernel
theorem d_Mo_way_59 : decode b_Mo_way 59 = .ok (.iconst 0, 1) := by decide +kernel
theorem d_Mo_way_60 : decode b_Mo_way 60 = .ok (.goto 5, 3) := by decide +kernel
theorem d_Mo_way_63 : decode b_Mo_way 63 = .ok (.bipush (-2), 2) := by decide +kernel
theorem d_Mo_way_65 : decode b_Mo_way 65 = .ok (.iastore, 1) := by decide +kernel
theorem d_Mo_way_66 : decode b_Mo_way 66 = .ok (.iinc 3 1, 3) := by decide +kernel
theorem d_Mo_way_69 : decode b_Mo_way 69 = .ok (.goto (-30), 3) := by decide +kernel
theorem d_Mo_way_72 : decode b_Mo_way 72 = .ok (.iconst 0, 1) := by decide +kernel
theorem d_Mo_way_73 : decode b_Mo_way 73 = .ok (.istore_n 3, 1) := by decide +kernel
theorem d_Mo_way_74 : decode b_Mo_way 74 = .ok (.iconst 1, 1) := by decide +kernel
theorem d_Mo_way_75 : decode b_Mo_way 75 = .ok (.istore 4, 2) := by decide +kernel
theorem d_Mo_way_77 : decode b_Mo_way 77 = .ok (.iload 4, 2) := by decide +kernel
theorem d_Mo_way_79 : decode b_Mo_way 79 = .ok (.ifCond .eq 56, 3) := by decide +kernel
theorem d_Mo_way_82 : decode b_Mo_way 82 = .ok (.iconst 0, 1) := by decide +kernel
theorem d_Mo_way_83 : decode b_Mo_way 83 = .ok (.istore 4, 2) := by decide +kernel
theorem d_Mo_way_85 : decode b_Mo_way 85 = .ok (.iconst 0, 1) := by decide +kernel
theorem d_Mo_way_86 : decode b_Mo_way 86 = .ok (.istore 5, 2) := by decide +kernel
theorem d_Mo_way_88 : decode b_Mo_way 88 = .ok (.iload 5, 2) := by decide +kernel
theorem d_Mo_way_90 : decode b_Mo_way 90 = .ok (.aload_n 0, 1) := by decide +kernel
theorem d_Mo_way_91 : decode b_Mo_way 91 = .ok (.getfield 188, 3) := by decide +kernel
theorem d_Mo_way_94 : decode b_Mo_way 94 = .ok (.if_icmp .ge 35, 3) := by decide +kernel
theorem d_Mo_way_97 : decode b_Mo_way 97 = .ok (.aload_n 0, 1) := by decide +kernel
theorem d_Mo_way_98 : decode b_Mo_way 98 = .ok (.iload 5, 2) := by decide +kernel
theorem d_Mo_way_100 : decode b_Mo_way 100 = .ok (.iload_n 3, 1) := by decide +kernel
theorem d_Mo_way_101 : decode b_Mo_way 101 = .ok (.invokevirtual 305, 3) := by decide +kernel
theorem d_Mo_way_104 : decode b_Mo_way 104 = .ok (.istore 6, 2) := by decide +kernel
theorem d_Mo_way_106 : decode b_Mo_way 106 = .ok (.iload 4, 2) := by decide +kernel
theorem d_Mo_way_108 : decode b_Mo_way 108 = .ok (.ifCond .ne 8, 3) := by decide +kernel
theorem d_Mo_way_111 : decode b_Mo_way 111 = .ok (.iload 6, 2) := by decide +kernel
theorem d_Mo_way_113 : decode b_Mo_way 113 = .ok (.ifCond .eq 7, 3) := by decide +kernel
theorem d_Mo_way_116 : decode b_Mo_way 116 = .ok (.iconst 1, 1) := by decide +kernel
theorem d_Mo_way_117 : decode b_Mo_way 117 = .ok (.goto 4, 3) := by decide +kernel
theorem d_Mo_way_120 : decode b_Mo_way 120 = .ok (.iconst 0, 1) := by decide +kernel
theorem d_Mo_way_121 : decode b_Mo_way 121 = .ok (.istore 4, 2) := by decide +kernel
theorem d_Mo_way_123 : decode b_Mo_way 123 = .ok (.iinc 5 1, 3) := by decide +kernel
theorem d_Mo_way_126 : decode b_Mo_way 126 = .ok (.goto (-38), 3) := by decide +kernel
theorem d_Mo_way_129 : decode b_Mo_way 129 = .ok (.iinc 3 1, 3) := by decide +kernel
theorem d_Mo_way_132 : decode b_Mo_way 132 = .ok (.goto (-55), 3) := by decide +kernel
theorem d_Mo_way_135 : decode b_Mo_way 135 = .ok (.aload_n 0, 1) := by decide +kernel
theorem d_Mo_way_136 : decode b_Mo_way 136 = .ok (.getfield 123, 3) := by decide +kernel
theorem d_Mo_way_139 : decode b_Mo_way 139 = .ok (.iload_n 2, 1) := by decide +kernel
theorem d_Mo_way_140 : decode b_Mo_way 140 = .ok (.iconst 1, 1) := by decide +kernel
theorem d_Mo_way_141 : decode b_Mo_way 141 = .ok (.iadd, 1) := by decide +kernel
theorem d_Mo_way_142 : decode b_Mo_way 142 = .ok (.iaload, 1) := by decide +kernel
theorem d_Mo_way_143 : decode b_Mo_way 143 = .ok (.ireturn, 1) := by decide +kernel
abbrev wl_Mo_way (a_0 : Nat) (a_0_isFlat : Nat) (a_0_lows : Nat) (a_0_doorCounts : Nat) (a_0_doorFrom : Nat) (a_0_doorTo : Nat) (a_0_xs : Nat) (a_0_ys : Nat) (a_0_pieceLines : Nat) (a_0_pieceBegins : Nat) (a_0_pieceEnds : Nat) (a_0_pieceLeft : Nat) (a_0_pieceRight : Nat) (a_0_far : Nat) (b_0_across : Nat) (b_0_highs : Nat) (b_0_thick : Nat) (b_0_labels : Nat) (b_0_oldXs : Nat) (b_0_oldYs : Nat) (b_0_oldLabels : Nat) (b_0_names : Nat) (b_0_oldNames : Nat) (b_0_wanted : Nat) (b_0_common : Nat) (b_0_flatEdges : Nat) (b_0_upEdges : Nat) (b_0_isPoint : Nat) (b_0_stack : Nat) (b_0_outs : Nat) (b_0_isSeen : Nat) (b_0_ringSpaces : Nat) (b_0_ringStarts : Nat) (b_0_ringSizes : Nat) (b_0_ringLeast : Nat) (b_0_looseLines : Nat) (b_0_looseXs : Nat) (b_0_looseYs : Nat) (b_0_looseReaches : Nat) (cZ : ClassId) (cI : ClassId) (v_0_code : Int32) (v_0_lines : Int32) (v_0_isFresh : Int32) (v_0_hasRun : Int32) (v_0_runs : Int32) (v_0_nx : Int32) (v_0_ny : Int32) (v_0_spaces : Int32) (v_0_oldNx : Int32) (v_0_oldNy : Int32) (v_0_oldSpaces : Int32) (v_0_points : Int32) (v_0_pieces : Int32) (v_0_rings : Int32) (v_0_outsideSides : Int32) (v_0_looseCount : Int32) (f_0_isFlat : Nat → Int32) (f_0_lows : Nat → Int32) (f_0_doorCounts : Nat → Int32) (f_0_doorFrom : Nat → Int32) (f_0_doorTo : Nat → Int32) (f_0_xs : Nat → Int32) (f_0_ys : Nat → Int32) (f_0_pieceLines : Nat → Int32) (f_0_pieceBegins : Nat → Int32) (f_0_pieceEnds : Nat → Int32) (f_0_pieceLeft : Nat → Int32) (f_0_pieceRight : Nat → Int32) (f_0_far : Nat → Int32) : va_W := [(a_0, .inr (11, [.int v_0_code, .ref a_0_isFlat, .ref b_0_across, .ref a_0_lows, .ref b_0_highs, .ref b_0_thick, .int v_0_lines, .ref a_0_doorCounts, .ref a_0_doorFrom, .ref a_0_doorTo, .int v_0_isFresh, .int v_0_hasRun, .int v_0_runs, .ref a_0_xs, .ref a_0_ys, .int v_0_nx, .int v_0_ny, .ref b_0_labels, .int v_0_spaces, .ref b_0_oldXs, .ref b_0_oldYs, .int v_0_oldNx, .int v_0_oldNy, .ref b_0_oldLabels, .int v_0_oldSpaces, .ref b_0_names, .ref b_0_oldNames, .ref b_0_wanted, .ref b_0_common, .ref b_0_flatEdges, .ref b_0_upEdges, .ref b_0_isPoint, .int v_0_points, .ref b_0_stack, .ref a_0_pieceLines, .ref a_0_pieceBegins, .ref a_0_pieceEnds, .ref a_0_pieceLeft, .ref a_0_pieceRight, .int v_0_pieces, .ref b_0_outs, .ref b_0_isSeen, .ref b_0_ringSpaces, .ref b_0_ringStarts, .ref b_0_ringSizes, .ref b_0_ringLeast, .int v_0_rings, .int v_0_outsideSides, .ref b_0_looseLines, .ref b_0_looseXs, .ref b_0_looseYs, .ref b_0_looseReaches, .int v_0_looseCount, .ref a_0_far])), (a_0_isFlat, .inl (cZ, 20, .inl f_0_isFlat)), (a_0_lows, .inl (cI, 20, .inl f_0_lows)), (a_0_doorCounts, .inl (cI, 20, .inl f_0_doorCounts)), (a_0_doorFrom, .inl (cI, 120, .inl f_0_doorFrom)), (a_0_doorTo, .inl (cI, 120, .inl f_0_doorTo)), (a_0_xs, .inl (cI, 42, .inl f_0_xs)), (a_0_ys, .inl (cI, 42, .inl f_0_ys)), (a_0_pieceLines, .inl (cI, 900, .inl f_0_pieceLines)), (a_0_pieceBegins, .inl (cI, 900, .inl f_0_pieceBegins)), (a_0_pieceEnds, .inl (cI, 900, .inl f_0_pieceEnds)), (a_0_pieceLeft, .inl (cI, 900, .inl f_0_pieceLeft)), (a_0_pieceRight, .inl (cI, 900, .inl f_0_pieceRight)), (a_0_far, .inl (cI, 201, .inl f_0_far))]
def m_Mo_way_L39 (l1 : Int32) (v_0_spaces : Int32) : Nat → Int32 → (Nat → Int32) → Option ((Nat → Int32))
  | 0, _, _ => none
  | n + 1, l3, f_0_far =>
    if v_0_spaces < l3 then (
      some f_0_far)
    else (
      bd1 (
        if l3 = (l1 + 1) then (
        some 0)
      else (
        some (-2)))
      fun (x20 : Int32) =>
      gI l3 201 <|
        lt_ (upd f_0_far l3.toNatClampNeg x20) fun f23 =>
        lt_ (l3 + 1) fun x24 =>
        m_Mo_way_L39 l1 v_0_spaces n x24 f23)

def m_Mo_way_L88 (l3 : Int32) (v_0_pieces : Int32) (f_0_isFlat : Nat → Int32) (f_0_lows : Nat → Int32) (f_0_doorCounts : Nat → Int32) (f_0_doorFrom : Nat → Int32) (f_0_doorTo : Nat → Int32) (f_0_xs : Nat → Int32) (f_0_ys : Nat → Int32) (f_0_pieceLines : Nat → Int32) (f_0_pieceBegins : Nat → Int32) (f_0_pieceEnds : Nat → Int32) (f_0_pieceLeft : Nat → Int32) (f_0_pieceRight : Nat → Int32) : Nat → Int32 → Int32 → (Nat → Int32) → Option (Int32 × (Nat → Int32))
  | 0, _, _, _ => none
  | n + 1, l4, l5, f_0_far =>
    if v_0_pieces ≤ l5 then (
      some (l4, f_0_far))
    else (
      bd2 (m_Mo_passes l5 l3 f_0_isFlat f_0_lows f_0_doorCounts f_0_doorFrom f_0_doorTo f_0_xs f_0_ys f_0_pieceLines f_0_pieceBegins f_0_pieceEnds f_0_pieceLeft f_0_pieceRight f_0_far) fun r32 f33 =>
      bd1 (
        if l4 = 0 then (
        if r32 = 0 then (
          some 0)
        else (
          some 1))
      else (
        some 1))
      fun (x38 : Int32) =>
      lt_ (l5 + 1) fun x41 =>
        m_Mo_way_L88 l3 v_0_pieces f_0_isFlat f_0_lows f_0_doorCounts f_0_doorFrom f_0_doorTo f_0_xs f_0_ys f_0_pieceLines f_0_pieceBegins f_0_pieceEnds f_0_pieceLeft f_0_pieceRight n x38 x41 f33)

def m_Mo_way_L77 (v_0_pieces : Int32) (f_0_isFlat : Nat → Int32) (f_0_lows : Nat → Int32) (f_0_doorCounts : Nat → Int32) (f_0_doorFrom : Nat → Int32) (f_0_doorTo : Nat → Int32) (f_0_xs : Nat → Int32) (f_0_ys : Nat → Int32) (f_0_pieceLines : Nat → Int32) (f_0_pieceBegins : Nat → Int32) (f_0_pieceEnds : Nat → Int32) (f_0_pieceLeft : Nat → Int32) (f_0_pieceRight : Nat → Int32) : Nat → Int32 → Int32 → (Nat → Int32) → Option ((Nat → Int32))
  | 0, _, _, _ => none
  | n + 1, l3, l4, f_0_far =>
    if l4 = 0 then (
      some f_0_far)
    else (
      bd2 (m_Mo_way_L88 l3 v_0_pieces f_0_isFlat f_0_lows f_0_doorCounts f_0_doorFrom f_0_doorTo f_0_xs f_0_ys f_0_pieceLines f_0_pieceBegins f_0_pieceEnds f_0_pieceLeft f_0_pieceRight fu 0 0 f_0_far) fun x34 f35 =>
      lt_ (l3 + 1) fun x49 =>
      m_Mo_way_L77 v_0_pieces f_0_isFlat f_0_lows f_0_doorCounts f_0_doorFrom f_0_doorTo f_0_xs f_0_ys f_0_pieceLines f_0_pieceBegins f_0_pieceEnds f_0_pieceLeft f_0_pieceRight n x49 x34 f35)
def m_Mo_way (p1 : Int32) (p2 : Int32) (v_0_code : Int32) (v_0_isFresh : Int32) (v_0_hasRun : Int32) (v_0_spaces : Int32) (v_0_pieces : Int32) (f_0_isFlat : Nat → Int32) (f_0_lows : Nat → Int32) (f_0_doorCounts : Nat → Int32) (f_0_doorFrom : Nat → Int32) (f_0_doorTo : Nat → Int32) (f_0_xs : Nat → Int32) (f_0_ys : Nat → Int32) (f_0_pieceLines : Nat → Int32) (f_0_pieceBegins : Nat → Int32) (f_0_pieceEnds : Nat → Int32) (f_0_pieceLeft : Nat → Int32) (f_0_pieceRight : Nat → Int32) (f_0_far : Nat → Int32) : Option (Int32 × (Int32) × (Nat → Int32)) :=
  bd1 (
    if v_0_hasRun = 0 then (
    some 0)
  else (
    bd1 (m_Mo_isAny p1 v_0_spaces) fun r6 =>
    if r6 = 0 then (
      some 0)
    else (
      bd1 (m_Mo_isAny p2 v_0_spaces) fun r9 =>
      if r9 = 0 then (
        some 0)
      else (
        some 1))))
  fun (x4 : Int32) =>
  bd2 (m_Mo_goes x4 v_0_code v_0_isFresh) fun r12 x13 =>
    if r12 = 0 then (
      some (0, x13, f_0_far))
    else (
      bd1 (m_Mo_way_L39 p1 v_0_spaces fu 0 f_0_far) fun f18 =>
      bd1 (m_Mo_way_L77 v_0_pieces f_0_isFlat f_0_lows f_0_doorCounts f_0_doorFrom f_0_doorTo f_0_xs f_0_ys f_0_pieceLines f_0_pieceBegins f_0_pieceEnds f_0_pieceLeft f_0_pieceRight fu 0 1 f18) fun f33 =>
      gI (p2 + 1) 201 <|
      some (f33 (p2 + 1).toNatClampNeg, x13, f33))

set_option maxHeartbeats 4000000 in
set_option maxRecDepth 100000 in
theorem t_Mo_way {p : Program} {l : Launch} {e : Env} {s : State} {m : MethodId} {args : Array Value} {below : List Frame} {meth : Method} {c : Code} {A : Nat → Prop} {Q : State → Prop} {dC : Nat → ClassId} {dI : Nat → Nat → Nat} {cI cZ cJ : ClassId} (a_0 a_0_isFlat a_0_lows a_0_doorCounts a_0_doorFrom a_0_doorTo a_0_xs a_0_ys a_0_pieceLines a_0_pieceBegins a_0_pieceEnds a_0_pieceLeft a_0_pieceRight a_0_far b_0_across b_0_highs b_0_thick b_0_labels b_0_oldXs b_0_oldYs b_0_oldLabels b_0_names b_0_oldNames b_0_wanted b_0_common b_0_flatEdges b_0_upEdges b_0_isPoint b_0_stack b_0_outs b_0_isSeen b_0_ringSpaces b_0_ringStarts b_0_ringSizes b_0_ringLeast b_0_looseLines b_0_looseXs b_0_looseYs b_0_looseReaches : Nat) (v_0_code : Int32) (v_0_lines : Int32) (v_0_isFresh : Int32) (v_0_hasRun : Int32) (v_0_runs : Int32) (v_0_nx : Int32) (v_0_ny : Int32) (v_0_spaces : Int32) (v_0_oldNx : Int32) (v_0_oldNy : Int32) (v_0_oldSpaces : Int32) (v_0_points : Int32) (v_0_pieces : Int32) (v_0_rings : Int32) (v_0_outsideSides : Int32) (v_0_looseCount : Int32) (f_0_isFlat : Nat → Int32) (f_0_lows : Nat → Int32) (f_0_doorCounts : Nat → Int32) (f_0_doorFrom : Nat → Int32) (f_0_doorTo : Nat → Int32) (f_0_xs : Nat → Int32) (f_0_ys : Nat → Int32) (f_0_pieceLines : Nat → Int32) (f_0_pieceBegins : Nat → Int32) (f_0_pieceEnds : Nat → Int32) (f_0_pieceLeft : Nat → Int32) (f_0_pieceRight : Nat → Int32) (f_0_far : Nat → Int32) (p1 : Int32) (p2 : Int32) (R0 : Int32) (ov_0_code : Int32) (of_0_far : Nat → Int32) (hx : p.tables.exec = Jvm.exec) (hb : c.code = b_Mo_way) (hml : c.maxLocals = 7) (hown : s.vm.findClass "SpaceCyclesModel" = some m.cls) (hts : ∀ w ∈ w_Mo_way, w.before args s = true) (hK : va_K (dC, dI) vwCl [(cI, .int), (cZ, .boolean), (cJ, .long)] s) (hN : NX s) (hA : ∀ q : Nat, s.heap.size ≤ q → A q)
    (hret : ∀ (pc : Nat) (H : Heap) (locs : List Loc) (ls : Array Slot), decode b_Mo_way pc = .ok (.ireturn, 1) → va_P (dC, dI) vwCl (wl_Mo_way a_0 a_0_isFlat a_0_lows a_0_doorCounts a_0_doorFrom a_0_doorTo a_0_xs a_0_ys a_0_pieceLines a_0_pieceBegins a_0_pieceEnds a_0_pieceLeft a_0_pieceRight a_0_far b_0_across b_0_highs b_0_thick b_0_labels b_0_oldXs b_0_oldYs b_0_oldLabels b_0_names b_0_oldNames b_0_wanted b_0_common b_0_flatEdges b_0_upEdges b_0_isPoint b_0_stack b_0_outs b_0_isSeen b_0_ringSpaces b_0_ringStarts b_0_ringSizes b_0_ringLeast b_0_looseLines b_0_looseXs b_0_looseYs b_0_looseReaches cZ cI ov_0_code v_0_lines v_0_isFresh v_0_hasRun v_0_runs v_0_nx v_0_ny v_0_spaces v_0_oldNx v_0_oldNy v_0_oldSpaces v_0_points v_0_pieces v_0_rings v_0_outsideSides v_0_looseCount f_0_isFlat f_0_lows f_0_doorCounts f_0_doorFrom f_0_doorTo f_0_xs f_0_ys f_0_pieceLines f_0_pieceBegins f_0_pieceEnds f_0_pieceLeft f_0_pieceRight of_0_far) H → va_D A (wl_Mo_way a_0 a_0_isFlat a_0_lows a_0_doorCounts a_0_doorFrom a_0_doorTo a_0_xs a_0_ys a_0_pieceLines a_0_pieceBegins a_0_pieceEnds a_0_pieceLeft a_0_pieceRight a_0_far b_0_across b_0_highs b_0_thick b_0_labels b_0_oldXs b_0_oldYs b_0_oldLabels b_0_names b_0_oldNames b_0_wanted b_0_common b_0_flatEdges b_0_upEdges b_0_isPoint b_0_stack b_0_outs b_0_isSeen b_0_ringSpaces b_0_ringStarts b_0_ringSizes b_0_ringLeast b_0_looseLines b_0_looseXs b_0_looseYs b_0_looseReaches cZ cI ov_0_code v_0_lines v_0_isFresh v_0_hasRun v_0_runs v_0_nx v_0_ny v_0_spaces v_0_oldNx v_0_oldNy v_0_oldSpaces v_0_points v_0_pieces v_0_rings v_0_outsideSides v_0_looseCount f_0_isFlat f_0_lows f_0_doorCounts f_0_doorFrom f_0_doorTo f_0_xs f_0_ys f_0_pieceLines f_0_pieceBegins f_0_pieceEnds f_0_pieceLeft f_0_pieceRight of_0_far) → va_S A s.heap H locs → W p l e rm_Mo_way s m args below meth c H locs 0 0 Q (F0 m pc ls [.int R0]))
    (hm : m_Mo_way p1 p2 v_0_code v_0_isFresh v_0_hasRun v_0_spaces v_0_pieces f_0_isFlat f_0_lows f_0_doorCounts f_0_doorFrom f_0_doorTo f_0_xs f_0_ys f_0_pieceLines f_0_pieceBegins f_0_pieceEnds f_0_pieceLeft f_0_pieceRight f_0_far = some (R0, ov_0_code, of_0_far)) : ∀ (H : Heap) (locs : List Loc) (ls : Array Slot), va_P (dC, dI) vwCl (wl_Mo_way a_0 a_0_isFlat a_0_lows a_0_doorCounts a_0_doorFrom a_0_doorTo a_0_xs a_0_ys a_0_pieceLines a_0_pieceBegins a_0_pieceEnds a_0_pieceLeft a_0_pieceRight a_0_far b_0_across b_0_highs b_0_thick b_0_labels b_0_oldXs b_0_oldYs b_0_oldLabels b_0_names b_0_oldNames b_0_wanted b_0_common b_0_flatEdges b_0_upEdges b_0_isPoint b_0_stack b_0_outs b_0_isSeen b_0_ringSpaces b_0_ringStarts b_0_ringSizes b_0_ringLeast b_0_looseLines b_0_looseXs b_0_looseYs b_0_looseReaches cZ cI v_0_code v_0_lines v_0_isFresh v_0_hasRun v_0_runs v_0_nx v_0_ny v_0_spaces v_0_oldNx v_0_oldNy v_0_oldSpaces v_0_points v_0_pieces v_0_rings v_0_outsideSides v_0_looseCount f_0_isFlat f_0_lows f_0_doorCounts f_0_doorFrom f_0_doorTo f_0_xs f_0_ys f_0_pieceLines f_0_pieceBegins f_0_pieceEnds f_0_pieceLeft f_0_pieceRight f_0_far) H → va_D A (wl_Mo_way a_0 a_0_isFlat a_0_lows a_0_doorCounts a_0_doorFrom a_0_doorTo a_0_xs a_0_ys a_0_pieceLines a_0_pieceBegins a_0_pieceEnds a_0_pieceLeft a_0_pieceRight a_0_far b_0_across b_0_highs b_0_thick b_0_labels b_0_oldXs b_0_oldYs b_0_oldLabels b_0_names b_0_oldNames b_0_wanted b_0_common b_0_flatEdges b_0_upEdges b_0_isPoint b_0_stack b_0_outs b_0_isSeen b_0_ringSpaces b_0_ringStarts b_0_ringSizes b_0_ringLeast b_0_looseLines b_0_looseXs b_0_looseYs b_0_looseReaches cZ cI v_0_code v_0_lines v_0_isFresh v_0_hasRun v_0_runs v_0_nx v_0_ny v_0_spaces v_0_oldNx v_0_oldNy v_0_oldSpaces v_0_points v_0_pieces v_0_rings v_0_outsideSides v_0_looseCount f_0_isFlat f_0_lows f_0_doorCounts f_0_doorFrom f_0_doorTo f_0_xs f_0_ys f_0_pieceLines f_0_pieceBegins f_0_pieceEnds f_0_pieceLeft f_0_pieceRight f_0_far) → va_S A s.heap H locs → lv_has ls 7 [(0, .ref a_0), (1, .int p1), (2, .int p2)] → W p l e rm_Mo_way s m args below meth c H locs 0 0 Q (F0 m 0 ls []) := by
  intro H locs ls hP hD hS hl
  unfold m_Mo_way at hm
  refine lv_aload_n hx hb d_Mo_way_0 rfl (lv_at hl 0 rfl) ?_
  refine lv_aload_n hx hb d_Mo_way_1 rfl (lv_at hl 0 rfl) ?_
  refine va_get (D := (dC, dI)) (ci := 11) (v := .int v_0_hasRun) (C := "SpaceCyclesModel") (T := F_Mo) (N := 54) hx hb hts (in_F i_Mo) hown hK hP 0 rfl rfl 11 (by decide) (hts _ (in_c k_422)) (fun _ h9 => h9) rfl d_Mo_way_2 ?_
  obtain ⟨x4, hb2, hm⟩ := bd1_e hm
  have K1 : ∀ (H : Heap) (locs : List Loc) (ls : Array Slot), va_P (dC, dI) vwCl (wl_Mo_way a_0 a_0_isFlat a_0_lows a_0_doorCounts a_0_doorFrom a_0_doorTo a_0_xs a_0_ys a_0_pieceLines a_0_pieceBegins a_0_pieceEnds a_0_pieceLeft a_0_pieceRight a_0_far b_0_across b_0_highs b_0_thick b_0_labels b_0_oldXs b_0_oldYs b_0_oldLabels b_0_names b_0_oldNames b_0_wanted b_0_common b_0_flatEdges b_0_upEdges b_0_isPoint b_0_stack b_0_outs b_0_isSeen b_0_ringSpaces b_0_ringStarts b_0_ringSizes b_0_ringLeast b_0_looseLines b_0_looseXs b_0_looseYs b_0_looseReaches cZ cI v_0_code v_0_lines v_0_isFresh v_0_hasRun v_0_runs v_0_nx v_0_ny v_0_spaces v_0_oldNx v_0_oldNy v_0_oldSpaces v_0_points v_0_pieces v_0_rings v_0_outsideSides v_0_looseCount f_0_isFlat f_0_lows f_0_doorCounts f_0_doorFrom f_0_doorTo f_0_xs f_0_ys f_0_pieceLines f_0_pieceBegins f_0_pieceEnds f_0_pieceLeft f_0_pieceRight f_0_far) H → va_D A (wl_Mo_way a_0 a_0_isFlat a_0_lows a_0_doorCounts a_0_doorFrom a_0_doorTo a_0_xs a_0_ys a_0_pieceLines a_0_pieceBegins a_0_pieceEnds a_0_pieceLeft a_0_pieceRight a_0_far b_0_across b_0_highs b_0_thick b_0_labels b_0_oldXs b_0_oldYs b_0_oldLabels b_0_names b_0_oldNames b_0_wanted b_0_common b_0_flatEdges b_0_upEdges b_0_isPoint b_0_stack b_0_outs b_0_isSeen b_0_ringSpaces b_0_ringStarts b_0_ringSizes b_0_ringLeast b_0_looseLines b_0_looseXs b_0_looseYs b_0_looseReaches cZ cI v_0_code v_0_lines v_0_isFresh v_0_hasRun v_0_runs v_0_nx v_0_ny v_0_spaces v_0_oldNx v_0_oldNy v_0_oldSpaces v_0_points v_0_pieces v_0_rings v_0_outsideSides v_0_looseCount f_0_isFlat f_0_lows f_0_doorCounts f_0_doorFrom f_0_doorTo f_0_xs f_0_ys f_0_pieceLines f_0_pieceBegins f_0_pieceEnds f_0_pieceLeft f_0_pieceRight f_0_far) → va_S A s.heap H locs → lv_has ls 7 [(0, .ref a_0), (1, .int p1), (2, .int p2)] → W p l e rm_Mo_way s m args below meth c H locs 0 0 Q (F0 m 29 ls [.int x4, .ref a_0]) := by
    intro H locs ls hP hD hS hl
    obtain ⟨r12, x13, hb14, hm⟩ := bd2_e hm
    have hPc := hP.sub (ws' := (wl_Mo_goes a_0 a_0_isFlat b_0_across a_0_lows b_0_highs b_0_thick a_0_doorCounts a_0_doorFrom a_0_doorTo a_0_xs a_0_ys b_0_labels b_0_oldXs b_0_oldYs b_0_oldLabels b_0_names b_0_oldNames b_0_wanted b_0_common b_0_flatEdges b_0_upEdges b_0_isPoint b_0_stack a_0_pieceLines a_0_pieceBegins a_0_pieceEnds a_0_pieceLeft a_0_pieceRight b_0_outs b_0_isSeen b_0_ringSpaces b_0_ringStarts b_0_ringSizes b_0_ringLeast b_0_looseLines b_0_looseXs b_0_looseYs b_0_looseReaches a_0_far v_0_code v_0_lines v_0_isFresh v_0_hasRun v_0_runs v_0_nx v_0_ny v_0_spaces v_0_oldNx v_0_oldNy v_0_oldSpaces v_0_points v_0_pieces v_0_rings v_0_outsideSides v_0_looseCount)) [0] rfl
    have hDc := hD.sub (ws' := (wl_Mo_goes a_0 a_0_isFlat b_0_across a_0_lows b_0_highs b_0_thick a_0_doorCounts a_0_doorFrom a_0_doorTo a_0_xs a_0_ys b_0_labels b_0_oldXs b_0_oldYs b_0_oldLabels b_0_names b_0_oldNames b_0_wanted b_0_common b_0_flatEdges b_0_upEdges b_0_isPoint b_0_stack a_0_pieceLines a_0_pieceBegins a_0_pieceEnds a_0_pieceLeft a_0_pieceRight b_0_outs b_0_isSeen b_0_ringSpaces b_0_ringStarts b_0_ringSizes b_0_ringLeast b_0_looseLines b_0_looseXs b_0_looseYs b_0_looseReaches a_0_far v_0_code v_0_lines v_0_isFresh v_0_hasRun v_0_runs v_0_nx v_0_ny v_0_spaces v_0_oldNx v_0_oldNy v_0_oldSpaces v_0_points v_0_pieces v_0_rings v_0_outsideSides v_0_looseCount)) [0] (by decide) rfl
    refine cl_i (wc' := (wl_Mo_goes a_0 a_0_isFlat b_0_across a_0_lows b_0_highs b_0_thick a_0_doorCounts a_0_doorFrom a_0_doorTo a_0_xs a_0_ys b_0_labels b_0_oldXs b_0_oldYs b_0_oldLabels b_0_names b_0_oldNames b_0_wanted b_0_common b_0_flatEdges b_0_upEdges b_0_isPoint b_0_stack a_0_pieceLines a_0_pieceBegins a_0_pieceEnds a_0_pieceLeft a_0_pieceRight b_0_outs b_0_isSeen b_0_ringSpaces b_0_ringStarts b_0_ringSizes b_0_ringLeast b_0_looseLines b_0_looseXs b_0_looseYs b_0_looseReaches a_0_far x13 v_0_lines v_0_isFresh v_0_hasRun v_0_runs v_0_nx v_0_ny v_0_spaces v_0_oldNx v_0_oldNy v_0_oldSpaces v_0_points v_0_pieces v_0_rings v_0_outsideSides v_0_looseCount)) (va_runV (As := [.int x4]) (rest := []) ⟨hx, hb, hml, hown, hts⟩ (c_Mo_goes l dC dI (cI := cI) (cZ := cZ) (cJ := cJ) a_0 a_0_isFlat b_0_across a_0_lows b_0_highs b_0_thick a_0_doorCounts a_0_doorFrom a_0_doorTo a_0_xs a_0_ys b_0_labels b_0_oldXs b_0_oldYs b_0_oldLabels b_0_names b_0_oldNames b_0_wanted b_0_common b_0_flatEdges b_0_upEdges b_0_isPoint b_0_stack a_0_pieceLines a_0_pieceBegins a_0_pieceEnds a_0_pieceLeft a_0_pieceRight b_0_outs b_0_isSeen b_0_ringSpaces b_0_ringStarts b_0_ringSizes b_0_ringLeast b_0_looseLines b_0_looseXs b_0_looseYs b_0_looseReaches a_0_far H.size v_0_code v_0_lines v_0_isFresh v_0_hasRun v_0_runs v_0_nx v_0_ny v_0_spaces v_0_oldNx v_0_oldNy v_0_oldSpaces v_0_points v_0_pieces v_0_rings v_0_outsideSides v_0_looseCount x4 r12 x13 hb14) (cwV 1 hts (gl_V k_426 k_425 k_424 k_277 k_423) rfl rfl rfl (by decide +kernel) ⟨Nat.le_of_ble_eq_true rfl, Nat.le_of_ble_eq_true rfl⟩) ⟨PP_blind, va_recv hK hPc (ci := 11) (q0 := 0) rfl rfl, fun U hU hW => PP_at hK hN hPc hDc hU hW⟩ rfl rfl hl.1 rfl (lv_room (Nat.le_of_ble_eq_true rfl)) d_Mo_way_29 ⟨Nat.zero_le _, Nat.zero_le _⟩) hP hD hS hA [0] [1, 2, 3, 4, 5, 6, 7, 8, 9, 10, 11, 12, 13] rfl rfl (by decide) (by decide) (fun H locs hP hD hS => ?_)
    have hP : va_P (dC, dI) vwCl (wl_Mo_way a_0 a_0_isFlat a_0_lows a_0_doorCounts a_0_doorFrom a_0_doorTo a_0_xs a_0_ys a_0_pieceLines a_0_pieceBegins a_0_pieceEnds a_0_pieceLeft a_0_pieceRight a_0_far b_0_across b_0_highs b_0_thick b_0_labels b_0_oldXs b_0_oldYs b_0_oldLabels b_0_names b_0_oldNames b_0_wanted b_0_common b_0_flatEdges b_0_upEdges b_0_isPoint b_0_stack b_0_outs b_0_isSeen b_0_ringSpaces b_0_ringStarts b_0_ringSizes b_0_ringLeast b_0_looseLines b_0_looseXs b_0_looseYs b_0_looseReaches cZ cI x13 v_0_lines v_0_isFresh v_0_hasRun v_0_runs v_0_nx v_0_ny v_0_spaces v_0_oldNx v_0_oldNy v_0_oldSpaces v_0_points v_0_pieces v_0_rings v_0_outsideSides v_0_looseCount f_0_isFlat f_0_lows f_0_doorCounts f_0_doorFrom f_0_doorTo f_0_xs f_0_ys f_0_pieceLines f_0_pieceBegins f_0_pieceEnds f_0_pieceLeft f_0_pieceRight f_0_far) H := hP.sub [13, 0, 1, 2, 3, 4, 5, 6, 7, 8, 9, 10, 11, 12] rfl
    have hD : va_D A (wl_Mo_way a_0 a_0_isFlat a_0_lows a_0_doorCounts a_0_doorFrom a_0_doorTo a_0_xs a_0_ys a_0_pieceLines a_0_pieceBegins a_0_pieceEnds a_0_pieceLeft a_0_pieceRight a_0_far b_0_across b_0_highs b_0_thick b_0_labels b_0_oldXs b_0_oldYs b_0_oldLabels b_0_names b_0_oldNames b_0_wanted b_0_common b_0_flatEdges b_0_upEdges b_0_isPoint b_0_stack b_0_outs b_0_isSeen b_0_ringSpaces b_0_ringStarts b_0_ringSizes b_0_ringLeast b_0_looseLines b_0_looseXs b_0_looseYs b_0_looseReaches cZ cI x13 v_0_lines v_0_isFresh v_0_hasRun v_0_runs v_0_nx v_0_ny v_0_spaces v_0_oldNx v_0_oldNy v_0_oldSpaces v_0_points v_0_pieces v_0_rings v_0_outsideSides v_0_looseCount f_0_isFlat f_0_lows f_0_doorCounts f_0_doorFrom f_0_doorTo f_0_xs f_0_ys f_0_pieceLines f_0_pieceBegins f_0_pieceEnds f_0_pieceLeft f_0_pieceRight f_0_far) := hD.sub [13, 0, 1, 2, 3, 4, 5, 6, 7, 8, 9, 10, 11, 12] (by decide) rfl
    refine lv_if_ne (tgt := 37) hx hb d_Mo_way_32 (by decide) (fun c15 => ?_) (fun c15 => ?_)
    · replace hm := if_f hm c15
      refine lv_iconst (v := 0) hx hb d_Mo_way_37 (by decide) ?_
      refine lv_istore_n (lv' := [(3, .int 0), (0, .ref a_0), (1, .int p1), (2, .int p2)]) hx hb d_Mo_way_38 rfl hl (by decide) rfl (fun ls hl => ?_)
      have L39_19 : ∀ (n : Nat) (x16 : Int32) (f17 : Nat → Int32) (f18 : Nat → Int32), m_Mo_way_L39 p1 v_0_spaces n x16 f17 = some f18 → (∀ (H : Heap) (locs : List Loc) (ls : Array Slot), va_P (dC, dI) vwCl (wl_Mo_way a_0 a_0_isFlat a_0_lows a_0_doorCounts a_0_doorFrom a_0_doorTo a_0_xs a_0_ys a_0_pieceLines a_0_pieceBegins a_0_pieceEnds a_0_pieceLeft a_0_pieceRight a_0_far b_0_across b_0_highs b_0_thick b_0_labels b_0_oldXs b_0_oldYs b_0_oldLabels b_0_names b_0_oldNames b_0_wanted b_0_common b_0_flatEdges b_0_upEdges b_0_isPoint b_0_stack b_0_outs b_0_isSeen b_0_ringSpaces b_0_ringStarts b_0_ringSizes b_0_ringLeast b_0_looseLines b_0_looseXs b_0_looseYs b_0_looseReaches cZ cI x13 v_0_lines v_0_isFresh v_0_hasRun v_0_runs v_0_nx v_0_ny v_0_spaces v_0_oldNx v_0_oldNy v_0_oldSpaces v_0_points v_0_pieces v_0_rings v_0_outsideSides v_0_looseCount f_0_isFlat f_0_lows f_0_doorCounts f_0_doorFrom f_0_doorTo f_0_xs f_0_ys f_0_pieceLines f_0_pieceBegins f_0_pieceEnds f_0_pieceLeft f_0_pieceRight f18) H → va_D A (wl_Mo_way a_0 a_0_isFlat a_0_lows a_0_doorCounts a_0_doorFrom a_0_doorTo a_0_xs a_0_ys a_0_pieceLines a_0_pieceBegins a_0_pieceEnds a_0_pieceLeft a_0_pieceRight a_0_far b_0_across b_0_highs b_0_thick b_0_labels b_0_oldXs b_0_oldYs b_0_oldLabels b_0_names b_0_oldNames b_0_wanted b_0_common b_0_flatEdges b_0_upEdges b_0_isPoint b_0_stack b_0_outs b_0_isSeen b_0_ringSpaces b_0_ringStarts b_0_ringSizes b_0_ringLeast b_0_looseLines b_0_looseXs b_0_looseYs b_0_looseReaches cZ cI x13 v_0_lines v_0_isFresh v_0_hasRun v_0_runs v_0_nx v_0_ny v_0_spaces v_0_oldNx v_0_oldNy v_0_oldSpaces v_0_points v_0_pieces v_0_rings v_0_outsideSides v_0_looseCount f_0_isFlat f_0_lows f_0_doorCounts f_0_doorFrom f_0_doorTo f_0_xs f_0_ys f_0_pieceLines f_0_pieceBegins f_0_pieceEnds f_0_pieceLeft f_0_pieceRight f18) → va_S A s.heap H locs → lv_has ls 7 [(0, .ref a_0), (2, .int p2)] → W p l e rm_Mo_way s m args below meth c H locs 0 0 Q (F0 m 72 ls [])) → ∀ (H : Heap) (locs : List Loc) (ls : Array Slot), va_P (dC, dI) vwCl (wl_Mo_way a_0 a_0_isFlat a_0_lows a_0_doorCounts a_0_doorFrom a_0_doorTo a_0_xs a_0_ys a_0_pieceLines a_0_pieceBegins a_0_pieceEnds a_0_pieceLeft a_0_pieceRight a_0_far b_0_across b_0_highs b_0_thick b_0_labels b_0_oldXs b_0_oldYs b_0_oldLabels b_0_names b_0_oldNames b_0_wanted b_0_common b_0_flatEdges b_0_upEdges b_0_isPoint b_0_stack b_0_outs b_0_isSeen b_0_ringSpaces b_0_ringStarts b_0_ringSizes b_0_ringLeast b_0_looseLines b_0_looseXs b_0_looseYs b_0_looseReaches cZ cI x13 v_0_lines v_0_isFresh v_0_hasRun v_0_runs v_0_nx v_0_ny v_0_spaces v_0_oldNx v_0_oldNy v_0_oldSpaces v_0_points v_0_pieces v_0_rings v_0_outsideSides v_0_looseCount f_0_isFlat f_0_lows f_0_doorCounts f_0_doorFrom f_0_doorTo f_0_xs f_0_ys f_0_pieceLines f_0_pieceBegins f_0_pieceEnds f_0_pieceLeft f_0_pieceRight f17) H → va_D A (wl_Mo_way a_0 a_0_isFlat a_0_lows a_0_doorCounts a_0_doorFrom a_0_doorTo a_0_xs a_0_ys a_0_pieceLines a_0_pieceBegins a_0_pieceEnds a_0_pieceLeft a_0_pieceRight a_0_far b_0_across b_0_highs b_0_thick b_0_labels b_0_oldXs b_0_oldYs b_0_oldLabels b_0_names b_0_oldNames b_0_wanted b_0_common b_0_flatEdges b_0_upEdges b_0_isPoint b_0_stack b_0_outs b_0_isSeen b_0_ringSpaces b_0_ringStarts b_0_ringSizes b_0_ringLeast b_0_looseLines b_0_looseXs b_0_looseYs b_0_looseReaches cZ cI x13 v_0_lines v_0_isFresh v_0_hasRun v_0_runs v_0_nx v_0_ny v_0_spaces v_0_oldNx v_0_oldNy v_0_oldSpaces v_0_points v_0_pieces v_0_rings v_0_outsideSides v_0_looseCount f_0_isFlat f_0_lows f_0_doorCounts f_0_doorFrom f_0_doorTo f_0_xs f_0_ys f_0_pieceLines f_0_pieceBegins f_0_pieceEnds f_0_pieceLeft f_0_pieceRight f17) → va_S A s.heap H locs → lv_has ls 7 [(0, .ref a_0), (1, .int p1), (2, .int p2), (3, .int x16)] → W p l e rm_Mo_way s m args below meth c H locs 0 0 Q (F0 m 39 ls []) := by
        intro n
        induction n with
        | zero => intro x16 f17 f18 hm; simp [m_Mo_way_L39] at hm
        | succ n ih =>
          intro x16 f17 f18 hm KE H locs ls hP hD hS hl
          rw [m_Mo_way_L39] at hm
          refine lv_iload_n hx hb d_Mo_way_39 rfl (lv_at hl 3 rfl) ?_
          refine lv_aload_n hx hb d_Mo_way_40 rfl (lv_at hl 0 rfl) ?_
          refine va_get (D := (dC, dI)) (ci := 11) (v := .int v_0_spaces) (C := "SpaceCyclesModel") (T := F_Mo) (N := 54) hx hb hts (in_F i_Mo) hown hK hP 0 rfl rfl 18 (by decide) (hts _ (in_c k_328)) (fun _ h9 => h9) rfl d_Mo_way_41 ?_
          refine lv_icmp_gt (tgt := 72) hx hb d_Mo_way_44 (by decide) (fun c20 => ?_) (fun c20 => ?_)
          · replace hm := if_t hm c20
            cases hm
            exact KE H locs ls hP hD hS (lv_sub hl [0, 2] rfl)
          · replace hm := if_f hm c20
            refine lv_aload_n hx hb d_Mo_way_47 rfl (lv_at hl 0 rfl) ?_
            refine va_get (D := (dC, dI)) (ci := 11) (v := .ref a_0_far) (C := "SpaceCyclesModel") (T := F_Mo) (N := 54) hx hb hts (in_F i_Mo) hown hK hP 0 rfl rfl 53 (by decide) (hts _ (in_c k_459)) (fun _ h9 => h9) rfl d_Mo_way_48 ?_
            refine lv_iload_n hx hb d_Mo_way_51 rfl (lv_at hl 3 rfl) ?_
            refine lv_iload_n hx hb d_Mo_way_52 rfl (lv_at hl 3 rfl) ?_
            refine lv_iload_n hx hb d_Mo_way_53 rfl (lv_at hl 1 rfl) ?_
            refine lv_iconst (v := 1) hx hb d_Mo_way_54 (by decide) ?_
            refine lv_iadd hx hb d_Mo_way_55 ?_
            obtain ⟨x24, hb22, hm⟩ := bd1_e hm
            have K21 : ∀ (H : Heap) (locs : List Loc) (ls : Array Slot), va_P (dC, dI) vwCl (wl_Mo_way a_0 a_0_isFlat a_0_lows a_0_doorCounts a_0_doorFrom a_0_doorTo a_0_xs a_0_ys a_0_pieceLines a_0_pieceBegins a_0_pieceEnds a_0_pieceLeft a_0_pieceRight a_0_far b_0_across b_0_highs b_0_thick b_0_labels b_0_oldXs b_0_oldYs b_0_oldLabels b_0_names b_0_oldNames b_0_wanted b_0_common b_0_flatEdges b_0_upEdges b_0_isPoint b_0_stack b_0_outs b_0_isSeen b_0_ringSpaces b_0_ringStarts b_0_ringSizes b_0_ringLeast b_0_looseLines b_0_looseXs b_0_looseYs b_0_looseReaches cZ cI x13 v_0_lines v_0_isFresh v_0_hasRun v_0_runs v_0_nx v_0_ny v_0_spaces v_0_oldNx v_0_oldNy v_0_oldSpaces v_0_points v_0_pieces v_0_rings v_0_outsideSides v_0_looseCount f_0_isFlat f_0_lows f_0_doorCounts f_0_doorFrom f_0_doorTo f_0_xs f_0_ys f_0_pieceLines f_0_pieceBegins f_0_pieceEnds f_0_pieceLeft f_0_pieceRight f17) H → va_D A (wl_Mo_way a_0 a_0_isFlat a_0_lows a_0_doorCounts a_0_doorFrom a_0_doorTo a_0_xs a_0_ys a_0_pieceLines a_0_pieceBegins a_0_pieceEnds a_0_pieceLeft a_0_pieceRight a_0_far b_0_across b_0_highs b_0_thick b_0_labels b_0_oldXs b_0_oldYs b_0_oldLabels b_0_names b_0_oldNames b_0_wanted b_0_common b_0_flatEdges b_0_upEdges b_0_isPoint b_0_stack b_0_outs b_0_isSeen b_0_ringSpaces b_0_ringStarts b_0_ringSizes b_0_ringLeast b_0_looseLines b_0_looseXs b_0_looseYs b_0_looseReaches cZ cI x13 v_0_lines v_0_isFresh v_0_hasRun v_0_runs v_0_nx v_0_ny v_0_spaces v_0_oldNx v_0_oldNy v_0_oldSpaces v_0_points v_0_pieces v_0_rings v_0_outsideSides v_0_looseCount f_0_isFlat f_0_lows f_0_doorCounts f_0_doorFrom f_0_doorTo f_0_xs f_0_ys f_0_pieceLines f_0_pieceBegins f_0_pieceEnds f_0_pieceLeft f_0_pieceRight f17) → va_S A s.heap H locs → lv_has ls 7 [(0, .ref a_0), (1, .int p1), (2, .int p2), (3, .int x16)] → W p l e rm_Mo_way s m args below meth c H locs 0 0 Q (F0 m 65 ls [.int x24, .int x16, .ref a_0_far]) := by
              intro H locs ls hP hD hS hl
              obtain ⟨hi26, hm⟩ := gI_e hm
              obtain ⟨f27, ef27⟩ : ∃ y : Nat → Int32, y = upd f17 x16.toNatClampNeg x24 := ⟨_, rfl⟩
              replace hm := lt_el hm ef27
              refine va_iast hx hb hK hP hD hS 13 0 rfl rfl hi26 d_Mo_way_65 (fun H locs hP hD hS => ?_)
              rw [← ef27] at hP hD
              have hP : va_P (dC, dI) vwCl (wl_Mo_way a_0 a_0_isFlat a_0_lows a_0_doorCounts a_0_doorFrom a_0_doorTo a_0_xs a_0_ys a_0_pieceLines a_0_pieceBegins a_0_pieceEnds a_0_pieceLeft a_0_pieceRight a_0_far b_0_across b_0_highs b_0_thick b_0_labels b_0_oldXs b_0_oldYs b_0_oldLabels b_0_names b_0_oldNames b_0_wanted b_0_common b_0_flatEdges b_0_upEdges b_0_isPoint b_0_stack b_0_outs b_0_isSeen b_0_ringSpaces b_0_ringStarts b_0_ringSizes b_0_ringLeast b_0_looseLines b_0_looseXs b_0_looseYs b_0_looseReaches cZ cI x13 v_0_lines v_0_isFresh v_0_hasRun v_0_runs v_0_nx v_0_ny v_0_spaces v_0_oldNx v_0_oldNy v_0_oldSpaces v_0_points v_0_pieces v_0_rings v_0_outsideSides v_0_looseCount f_0_isFlat f_0_lows f_0_doorCounts f_0_doorFrom f_0_doorTo f_0_xs f_0_ys f_0_pieceLines f_0_pieceBegins f_0_pieceEnds f_0_pieceLeft f_0_pieceRight f27) H := hP
              have hD : va_D A (wl_Mo_way a_0 a_0_isFlat a_0_lows a_0_doorCounts a_0_doorFrom a_0_doorTo a_0_xs a_0_ys a_0_pieceLines a_0_pieceBegins a_0_pieceEnds a_0_pieceLeft a_0_pieceRight a_0_far b_0_across b_0_highs b_0_thick b_0_labels b_0_oldXs b_0_oldYs b_0_oldLabels b_0_names b_0_oldNames b_0_wanted b_0_common b_0_flatEdges b_0_upEdges b_0_isPoint b_0_stack b_0_outs b_0_isSeen b_0_ringSpaces b_0_ringStarts b_0_ringSizes b_0_ringLeast b_0_looseLines b_0_looseXs b_0_looseYs b_0_looseReaches cZ cI x13 v_0_lines v_0_isFresh v_0_hasRun v_0_runs v_0_nx v_0_ny v_0_spaces v_0_oldNx v_0_oldNy v_0_oldSpaces v_0_points v_0_pieces v_0_rings v_0_outsideSides v_0_looseCount f_0_isFlat f_0_lows f_0_doorCounts f_0_doorFrom f_0_doorTo f_0_xs f_0_ys f_0_pieceLines f_0_pieceBegins f_0_pieceEnds f_0_pieceLeft f_0_pieceRight f27) := hD
              obtain ⟨x28, ex28⟩ : ∃ y : Int32, y = x16 + 1 := ⟨_, rfl⟩
              replace hm := lt_el hm ex28
              refine lv_iinc (v := x28) (lv' := [(3, .int x28), (0, .ref a_0), (1, .int p1), (2, .int p2)]) hx hb d_Mo_way_66 hl (k := 3) rfl (by rw [ex28]; rfl) (by decide) rfl (fun ls hl => ?_)
              refine lv_goto (tgt := 39) hx hb d_Mo_way_69 (by decide) ?_
              exact ih _ _ _ hm KE H locs ls hP hD hS (lv_sub hl [1, 2, 3, 0] rfl)
            replace hm := hb22
            refine lv_icmp_ne (tgt := 63) hx hb d_Mo_way_56 (by decide) (fun c25 => ?_) (fun c25 => ?_)
            · replace hm := if_f hm c25
              refine lv_bipush (v := (-2)) hx hb d_Mo_way_63 (by decide) ?_
              cases hm
              exact K21 H locs ls hP hD hS (lv_sub hl [0, 1, 2, 3] rfl)
            · replace hm := if_t hm c25
              refine lv_iconst (v := 0) hx hb d_Mo_way_59 (by decide) ?_
              refine lv_goto (tgt := 65) hx hb d_Mo_way_60 (by decide) ?_
              cases hm
              exact K21 H locs ls hP hD hS (lv_sub hl [0, 1, 2, 3] rfl)
      obtain ⟨f18, hb29, hm⟩ := bd1_e hm
      refine L39_19 fu _ _ _ hb29 (fun H locs ls hP hD hS hl => ?_) H locs ls hP hD hS (lv_sub hl [1, 2, 3, 0] rfl)
      refine lv_iconst (v := 0) hx hb d_Mo_way_72 (by decide) ?_
      refine lv_istore_n (lv' := [(3, .int 0), (0, .ref a_0), (2, .int p2)]) hx hb d_Mo_way_73 rfl hl (by decide) rfl (fun ls hl => ?_)
      refine lv_iconst (v := 1) hx hb d_Mo_way_74 (by decide) ?_
      refine lv_istore (lv' := [(4, .int 1), (3, .int 0), (0, .ref a_0), (2, .int p2)]) hx hb d_Mo_way_75 hl (by decide) rfl (fun ls hl => ?_)
      have L77_34 : ∀ (n : Nat) (x30 : Int32) (x31 : Int32) (f32 : Nat → Int32) (f33 : Nat → Int32), m_Mo_way_L77 v_0_pieces f_0_isFlat f_0_lows f_0_doorCounts f_0_doorFrom f_0_doorTo f_0_xs f_0_ys f_0_pieceLines f_0_pieceBegins f_0_pieceEnds f_0_pieceLeft f_0_pieceRight n x30 x31 f32 = some f33 → (∀ (H : Heap) (locs : List Loc) (ls : Array Slot), va_P (dC, dI) vwCl (wl_Mo_way a_0 a_0_isFlat a_0_lows a_0_doorCounts a_0_doorFrom a_0_doorTo a_0_xs a_0_ys a_0_pieceLines a_0_pieceBegins a_0_pieceEnds a_0_pieceLeft a_0_pieceRight a_0_far b_0_across b_0_highs b_0_thick b_0_labels b_0_oldXs b_0_oldYs b_0_oldLabels b_0_names b_0_oldNames b_0_wanted b_0_common b_0_flatEdges b_0_upEdges b_0_isPoint b_0_stack b_0_outs b_0_isSeen b_0_ringSpaces b_0_ringStarts b_0_ringSizes b_0_ringLeast b_0_looseLines b_0_looseXs b_0_looseYs b_0_looseReaches cZ cI x13 v_0_lines v_0_isFresh v_0_hasRun v_0_runs v_0_nx v_0_ny v_0_spaces v_0_oldNx v_0_oldNy v_0_oldSpaces v_0_points v_0_pieces v_0_rings v_0_outsideSides v_0_looseCount f_0_isFlat f_0_lows f_0_doorCounts f_0_doorFrom f_0_doorTo f_0_xs f_0_ys f_0_pieceLines f_0_pieceBegins f_0_pieceEnds f_0_pieceLeft f_0_pieceRight f33) H → va_D A (wl_Mo_way a_0 a_0_isFlat a_0_lows a_0_doorCounts a_0_doorFrom a_0_doorTo a_0_xs a_0_ys a_0_pieceLines a_0_pieceBegins a_0_pieceEnds a_0_pieceLeft a_0_pieceRight a_0_far b_0_across b_0_highs b_0_thick b_0_labels b_0_oldXs b_0_oldYs b_0_oldLabels b_0_names b_0_oldNames b_0_wanted b_0_common b_0_flatEdges b_0_upEdges b_0_isPoint b_0_stack b_0_outs b_0_isSeen b_0_ringSpaces b_0_ringStarts b_0_ringSizes b_0_ringLeast b_0_looseLines b_0_looseXs b_0_looseYs b_0_looseReaches cZ cI x13 v_0_lines v_0_isFresh v_0_hasRun v_0_runs v_0_nx v_0_ny v_0_spaces v_0_oldNx v_0_oldNy v_0_oldSpaces v_0_points v_0_pieces v_0_rings v_0_outsideSides v_0_looseCount f_0_isFlat f_0_lows f_0_doorCounts f_0_doorFrom f_0_doorTo f_0_xs f_0_ys f_0_pieceLines f_0_pieceBegins f_0_pieceEnds f_0_pieceLeft f_0_pieceRight f33) → va_S A s.heap H locs → lv_has ls 7 [(0, .ref a_0), (2, .int p2)] → W p l e rm_Mo_way s m args below meth c H locs 0 0 Q (F0 m 135 ls [])) → ∀ (H : Heap) (locs : List Loc) (ls : Array Slot), va_P (dC, dI) vwCl (wl_Mo_way a_0 a_0_isFlat a_0_lows a_0_doorCounts a_0_doorFrom a_0_doorTo a_0_xs a_0_ys a_0_pieceLines a_0_pieceBegins a_0_pieceEnds a_0_pieceLeft a_0_pieceRight a_0_far b_0_across b_0_highs b_0_thick b_0_labels b_0_oldXs b_0_oldYs b_0_oldLabels b_0_names b_0_oldNames b_0_wanted b_0_common b_0_flatEdges b_0_upEdges b_0_isPoint b_0_stack b_0_outs b_0_isSeen b_0_ringSpaces b_0_ringStarts b_0_ringSizes b_0_ringLeast b_0_looseLines b_0_looseXs b_0_looseYs b_0_looseReaches cZ cI x13 v_0_lines v_0_isFresh v_0_hasRun v_0_runs v_0_nx v_0_ny v_0_spaces v_0_oldNx v_0_oldNy v_0_oldSpaces v_0_points v_0_pieces v_0_rings v_0_outsideSides v_0_looseCount f_0_isFlat f_0_lows f_0_doorCounts f_0_doorFrom f_0_doorTo f_0_xs f_0_ys f_0_pieceLines f_0_pieceBegins f_0_pieceEnds f_0_pieceLeft f_0_pieceRight f32) H → va_D A (wl_Mo_way a_0 a_0_isFlat a_0_lows a_0_doorCounts a_0_doorFrom a_0_doorTo a_0_xs a_0_ys a_0_pieceLines a_0_pieceBegins a_0_pieceEnds a_0_pieceLeft a_0_pieceRight a_0_far b_0_across b_0_highs b_0_thick b_0_labels b_0_oldXs b_0_oldYs b_0_oldLabels b_0_names b_0_oldNames b_0_wanted b_0_common b_0_flatEdges b_0_upEdges b_0_isPoint b_0_stack b_0_outs b_0_isSeen b_0_ringSpaces b_0_ringStarts b_0_ringSizes b_0_ringLeast b_0_looseLines b_0_looseXs b_0_looseYs b_0_looseReaches cZ cI x13 v_0_lines v_0_isFresh v_0_hasRun v_0_runs v_0_nx v_0_ny v_0_spaces v_0_oldNx v_0_oldNy v_0_oldSpaces v_0_points v_0_pieces v_0_rings v_0_outsideSides v_0_looseCount f_0_isFlat f_0_lows f_0_doorCounts f_0_doorFrom f_0_doorTo f_0_xs f_0_ys f_0_pieceLines f_0_pieceBegins f_0_pieceEnds f_0_pieceLeft f_0_pieceRight f32) → va_S A s.heap H locs → lv_has ls 7 [(0, .ref a_0), (2, .int p2), (3, .int x30), (4, .int x31)] → W p l e rm_Mo_way s m args below meth c H locs 0 0 Q (F0 m 77 ls []) := by
        intro n
        induction n with
        | zero => intro x30 x31 f32 f33 hm; simp [m_Mo_way_L77] at hm
        | succ n ih =>
          intro x30 x31 f32 f33 hm KE H locs ls hP hD hS hl
          rw [m_Mo_way_L77] at hm
          refine lv_iload hx hb d_Mo_way_77 (lv_at hl 3 rfl) ?_
          refine lv_if_eq (tgt := 135) hx hb d_Mo_way_79 (by decide) (fun c35 => ?_) (fun c35 => ?_)
          · replace hm := if_t hm c35
            cases hm
            exact KE H locs ls hP hD hS (lv_sub hl [0, 1] rfl)
          · replace hm := if_f hm c35
            refine lv_iconst (v := 0) hx hb d_Mo_way_82 (by decide) ?_
            refine lv_istore (lv' := [(4, .int 0), (0, .ref a_0), (2, .int p2), (3, .int x30)]) hx hb d_Mo_way_83 hl (by decide) rfl (fun ls hl => ?_)
            refine lv_iconst (v := 0) hx hb d_Mo_way_85 (by decide) ?_
            refine lv_istore (lv' := [(5, .int 0), (4, .int 0), (0, .ref a_0), (2, .int p2), (3, .int x30)]) hx hb d_Mo_way_86 hl (by decide) rfl (fun ls hl => ?_)
            have L88_41 : ∀ (n : Nat) (x36 : Int32) (x37 : Int32) (f38 : Nat → Int32) (x39 : Int32) (f40 : Nat → Int32), m_Mo_way_L88 x30 v_0_pieces f_0_isFlat f_0_lows f_0_doorCounts f_0_doorFrom f_0_doorTo f_0_xs f_0_ys f_0_pieceLines f_0_pieceBegins f_0_pieceEnds f_0_pieceLeft f_0_pieceRight n x36 x37 f38 = some (x39, f40) → (∀ (H : Heap) (locs : List Loc) (ls : Array Slot), va_P (dC, dI) vwCl (wl_Mo_way a_0 a_0_isFlat a_0_lows a_0_doorCounts a_0_doorFrom a_0_doorTo a_0_xs a_0_ys a_0_pieceLines a_0_pieceBegins a_0_pieceEnds a_0_pieceLeft a_0_pieceRight a_0_far b_0_across b_0_highs b_0_thick b_0_labels b_0_oldXs b_0_oldYs b_0_oldLabels b_0_names b_0_oldNames b_0_wanted b_0_common b_0_flatEdges b_0_upEdges b_0_isPoint b_0_stack b_0_outs b_0_isSeen b_0_ringSpaces b_0_ringStarts b_0_ringSizes b_0_ringLeast b_0_looseLines b_0_looseXs b_0_looseYs b_0_looseReaches cZ cI x13 v_0_lines v_0_isFresh v_0_hasRun v_0_runs v_0_nx v_0_ny v_0_spaces v_0_oldNx v_0_oldNy v_0_oldSpaces v_0_points v_0_pieces v_0_rings v_0_outsideSides v_0_looseCount f_0_isFlat f_0_lows f_0_doorCounts f_0_doorFrom f_0_doorTo f_0_xs f_0_ys f_0_pieceLines f_0_pieceBegins f_0_pieceEnds f_0_pieceLeft f_0_pieceRight f40) H → va_D A (wl_Mo_way a_0 a_0_isFlat a_0_lows a_0_doorCounts a_0_doorFrom a_0_doorTo a_0_xs a_0_ys a_0_pieceLines a_0_pieceBegins a_0_pieceEnds a_0_pieceLeft a_0_pieceRight a_0_far b_0_across b_0_highs b_0_thick b_0_labels b_0_oldXs b_0_oldYs b_0_oldLabels b_0_names b_0_oldNames b_0_wanted b_0_common b_0_flatEdges b_0_upEdges b_0_isPoint b_0_stack b_0_outs b_0_isSeen b_0_ringSpaces b_0_ringStarts b_0_ringSizes b_0_ringLeast b_0_looseLines b_0_looseXs b_0_looseYs b_0_looseReaches cZ cI x13 v_0_lines v_0_isFresh v_0_hasRun v_0_runs v_0_nx v_0_ny v_0_spaces v_0_oldNx v_0_oldNy v_0_oldSpaces v_0_points v_0_pieces v_0_rings v_0_outsideSides v_0_looseCount f_0_isFlat f_0_lows f_0_doorCounts f_0_doorFrom f_0_doorTo f_0_xs f_0_ys f_0_pieceLines f_0_pieceBegins f_0_pieceEnds f_0_pieceLeft f_0_pieceRight f40) → va_S A s.heap H locs → lv_has ls 7 [(0, .ref a_0), (2, .int p2), (3, .int x30), (4, .int x39)] → W p l e rm_Mo_way s m args below meth c H locs 0 0 Q (F0 m 129 ls [])) → ∀ (H : Heap) (locs : List Loc) (ls : Array Slot), va_P (dC, dI) vwCl (wl_Mo_way a_0 a_0_isFlat a_0_lows a_0_doorCounts a_0_doorFrom a_0_doorTo a_0_xs a_0_ys a_0_pieceLines a_0_pieceBegins a_0_pieceEnds a_0_pieceLeft a_0_pieceRight a_0_far b_0_across b_0_highs b_0_thick b_0_labels b_0_oldXs b_0_oldYs b_0_oldLabels b_0_names b_0_oldNames b_0_wanted b_0_common b_0_flatEdges b_0_upEdges b_0_isPoint b_0_stack b_0_outs b_0_isSeen b_0_ringSpaces b_0_ringStarts b_0_ringSizes b_0_ringLeast b_0_looseLines b_0_looseXs b_0_looseYs b_0_looseReaches cZ cI x13 v_0_lines v_0_isFresh v_0_hasRun v_0_runs v_0_nx v_0_ny v_0_spaces v_0_oldNx v_0_oldNy v_0_oldSpaces v_0_points v_0_pieces v_0_rings v_0_outsideSides v_0_looseCount f_0_isFlat f_0_lows f_0_doorCounts f_0_doorFrom f_0_doorTo f_0_xs f_0_ys f_0_pieceLines f_0_pieceBegins f_0_pieceEnds f_0_pieceLeft f_0_pieceRight f38) H → va_D A (wl_Mo_way a_0 a_0_isFlat a_0_lows a_0_doorCounts a_0_doorFrom a_0_doorTo a_0_xs a_0_ys a_0_pieceLines a_0_pieceBegins a_0_pieceEnds a_0_pieceLeft a_0_pieceRight a_0_far b_0_across b_0_highs b_0_thick b_0_labels b_0_oldXs b_0_oldYs b_0_oldLabels b_0_names b_0_oldNames b_0_wanted b_0_common b_0_flatEdges b_0_upEdges b_0_isPoint b_0_stack b_0_outs b_0_isSeen b_0_ringSpaces b_0_ringStarts b_0_ringSizes b_0_ringLeast b_0_looseLines b_0_looseXs b_0_looseYs b_0_looseReaches cZ cI x13 v_0_lines v_0_isFresh v_0_hasRun v_0_runs v_0_nx v_0_ny v_0_spaces v_0_oldNx v_0_oldNy v_0_oldSpaces v_0_points v_0_pieces v_0_rings v_0_outsideSides v_0_looseCount f_0_isFlat f_0_lows f_0_doorCounts f_0_doorFrom f_0_doorTo f_0_xs f_0_ys f_0_pieceLines f_0_pieceBegins f_0_pieceEnds f_0_pieceLeft f_0_pieceRight f38) → va_S A s.heap H locs → lv_has ls 7 [(0, .ref a_0), (2, .int p2), (3, .int x30), (4, .int x36), (5, .int x37)] → W p l e rm_Mo_way s m args below meth c H locs 0 0 Q (F0 m 88 ls []) := by
              intro n
              induction n with
              | zero => intro x36 x37 f38 x39 f40 hm; simp [m_Mo_way_L88] at hm
              | succ n ih =>
                intro x36 x37 f38 x39 f40 hm KE H locs ls hP hD hS hl
                rw [m_Mo_way_L88] at hm
                refine lv_iload hx hb d_Mo_way_88 (lv_at hl 4 rfl) ?_
                refine lv_aload_n hx hb d_Mo_way_90 rfl (lv_at hl 0 rfl) ?_
                refine va_get (D := (dC, dI)) (ci := 11) (v := .int v_0_pieces) (C := "SpaceCyclesModel") (T := F_Mo) (N := 54) hx hb hts (in_F i_Mo) hown hK hP 0 rfl rfl 39 (by decide) (hts _ (in_c k_329)) (fun _ h9 => h9) rfl d_Mo_way_91 ?_
                refine lv_icmp_ge (tgt := 129) hx hb d_Mo_way_94 (by decide) (fun c42 => ?_) (fun c42 => ?_)
                · replace hm := if_t hm c42
                  cases hm
                  exact KE H locs ls hP hD hS (lv_sub hl [0, 1, 2, 3] rfl)
                · replace hm := if_f hm c42
                  refine lv_aload_n hx hb d_Mo_way_97 rfl (lv_at hl 0 rfl) ?_
                  refine lv_iload hx hb d_Mo_way_98 (lv_at hl 4 rfl) ?_
                  refine lv_iload_n hx hb d_Mo_way_100 rfl (lv_at hl 2 rfl) ?_
                  obtain ⟨r43, f44, hb45, hm⟩ := bd2_e hm
                  have hPc := hP.sub (ws' := (wl_Mo_passes a_0 a_0_isFlat a_0_lows a_0_doorCounts a_0_doorFrom a_0_doorTo a_0_xs a_0_ys a_0_pieceLines a_0_pieceBegins a_0_pieceEnds a_0_pieceLeft a_0_pieceRight a_0_far b_0_across b_0_highs b_0_thick b_0_labels b_0_oldXs b_0_oldYs b_0_oldLabels b_0_names b_0_oldNames b_0_wanted b_0_common b_0_flatEdges b_0_upEdges b_0_isPoint b_0_stack b_0_outs b_0_isSeen b_0_ringSpaces b_0_ringStarts b_0_ringSizes b_0_ringLeast b_0_looseLines b_0_looseXs b_0_looseYs b_0_looseReaches cZ cI x13 v_0_lines v_0_isFresh v_0_hasRun v_0_runs v_0_nx v_0_ny v_0_spaces v_0_oldNx v_0_oldNy v_0_oldSpaces v_0_points v_0_pieces v_0_rings v_0_outsideSides v_0_looseCount f_0_isFlat f_0_lows f_0_doorCounts f_0_doorFrom f_0_doorTo f_0_xs f_0_ys f_0_pieceLines f_0_pieceBegins f_0_pieceEnds f_0_pieceLeft f_0_pieceRight f38)) [0, 1, 2, 3, 4, 5, 6, 7, 8, 9, 10, 11, 12, 13] rfl
                  have hDc := hD.sub (ws' := (wl_Mo_passes a_0 a_0_isFlat a_0_lows a_0_doorCounts a_0_doorFrom a_0_doorTo a_0_xs a_0_ys a_0_pieceLines a_0_pieceBegins a_0_pieceEnds a_0_pieceLeft a_0_pieceRight a_0_far b_0_across b_0_highs b_0_thick b_0_labels b_0_oldXs b_0_oldYs b_0_oldLabels b_0_names b_0_oldNames b_0_wanted b_0_common b_0_flatEdges b_0_upEdges b_0_isPoint b_0_stack b_0_outs b_0_isSeen b_0_ringSpaces b_0_ringStarts b_0_ringSizes b_0_ringLeast b_0_looseLines b_0_looseXs b_0_looseYs b_0_looseReaches cZ cI x13 v_0_lines v_0_isFresh v_0_hasRun v_0_runs v_0_nx v_0_ny v_0_spaces v_0_oldNx v_0_oldNy v_0_oldSpaces v_0_points v_0_pieces v_0_rings v_0_outsideSides v_0_looseCount f_0_isFlat f_0_lows f_0_doorCounts f_0_doorFrom f_0_doorTo f_0_xs f_0_ys f_0_pieceLines f_0_pieceBegins f_0_pieceEnds f_0_pieceLeft f_0_pieceRight f38)) [0, 1, 2, 3, 4, 5, 6, 7, 8, 9, 10, 11, 12, 13] (by decide) rfl
                  refine cl_i (wc' := (wl_Mo_passes a_0 a_0_isFlat a_0_lows a_0_doorCounts a_0_doorFrom a_0_doorTo a_0_xs a_0_ys a_0_pieceLines a_0_pieceBegins a_0_pieceEnds a_0_pieceLeft a_0_pieceRight a_0_far b_0_across b_0_highs b_0_thick b_0_labels b_0_oldXs b_0_oldYs b_0_oldLabels b_0_names b_0_oldNames b_0_wanted b_0_common b_0_flatEdges b_0_upEdges b_0_isPoint b_0_stack b_0_outs b_0_isSeen b_0_ringSpaces b_0_ringStarts b_0_ringSizes b_0_ringLeast b_0_looseLines b_0_looseXs b_0_looseYs b_0_looseReaches cZ cI x13 v_0_lines v_0_isFresh v_0_hasRun v_0_runs v_0_nx v_0_ny v_0_spaces v_0_oldNx v_0_oldNy v_0_oldSpaces v_0_points v_0_pieces v_0_rings v_0_outsideSides v_0_looseCount f_0_isFlat f_0_lows f_0_doorCounts f_0_doorFrom f_0_doorTo f_0_xs f_0_ys f_0_pieceLines f_0_pieceBegins f_0_pieceEnds f_0_pieceLeft f_0_pieceRight f44)) (va_runV (As := [.int x37, .int x30]) (rest := []) ⟨hx, hb, hml, hown, hts⟩ (c_Mo_passes l dC dI (cI := cI) (cZ := cZ) (cJ := cJ) a_0 a_0_isFlat a_0_lows a_0_doorCounts a_0_doorFrom a_0_doorTo a_0_xs a_0_ys a_0_pieceLines a_0_pieceBegins a_0_pieceEnds a_0_pieceLeft a_0_pieceRight a_0_far b_0_across b_0_highs b_0_thick b_0_labels b_0_oldXs b_0_oldYs b_0_oldLabels b_0_names b_0_oldNames b_0_wanted b_0_common b_0_flatEdges b_0_upEdges b_0_isPoint b_0_stack b_0_outs b_0_isSeen b_0_ringSpaces b_0_ringStarts b_0_ringSizes b_0_ringLeast b_0_looseLines b_0_looseXs b_0_looseYs b_0_looseReaches H.size x13 v_0_lines v_0_isFresh v_0_hasRun v_0_runs v_0_nx v_0_ny v_0_spaces v_0_oldNx v_0_oldNy v_0_oldSpaces v_0_points v_0_pieces v_0_rings v_0_outsideSides v_0_looseCount f_0_isFlat f_0_lows f_0_doorCounts f_0_doorFrom f_0_doorTo f_0_xs f_0_ys f_0_pieceLines f_0_pieceBegins f_0_pieceEnds f_0_pieceLeft f_0_pieceRight f38 x37 x30 r43 f44 hb45) (cwV 2 hts (gl_V k_463 k_462 k_461 k_277 k_460) rfl rfl rfl (by decide +kernel) ⟨Nat.le_of_ble_eq_true rfl, Nat.le_of_ble_eq_true rfl⟩) ⟨PP_blind, va_recv hK hPc (ci := 11) (q0 := 0) rfl rfl, fun U hU hW => PP_at hK hN hPc hDc hU hW⟩ rfl rfl hl.1 rfl (lv_room (Nat.le_of_ble_eq_true rfl)) d_Mo_way_101 ⟨Nat.zero_le _, Nat.zero_le _⟩) hP hD hS hA [0, 1, 2, 3, 4, 5, 6, 7, 8, 9, 10, 11, 12, 13] [] rfl rfl (by decide) (by decide) (fun H locs hP hD hS => ?_)
                  have hP : va_P (dC, dI) vwCl (wl_Mo_way a_0 a_0_isFlat a_0_lows a_0_doorCounts a_0_doorFrom a_0_doorTo a_0_xs a_0_ys a_0_pieceLines a_0_pieceBegins a_0_pieceEnds a_0_pieceLeft a_0_pieceRight a_0_far b_0_across b_0_highs b_0_thick b_0_labels b_0_oldXs b_0_oldYs b_0_oldLabels b_0_names b_0_oldNames b_0_wanted b_0_common b_0_flatEdges b_0_upEdges b_0_isPoint b_0_stack b_0_outs b_0_isSeen b_0_ringSpaces b_0_ringStarts b_0_ringSizes b_0_ringLeast b_0_looseLines b_0_looseXs b_0_looseYs b_0_looseReaches cZ cI x13 v_0_lines v_0_isFresh v_0_hasRun v_0_runs v_0_nx v_0_ny v_0_spaces v_0_oldNx v_0_oldNy v_0_oldSpaces v_0_points v_0_pieces v_0_rings v_0_outsideSides v_0_looseCount f_0_isFlat f_0_lows f_0_doorCounts f_0_doorFrom f_0_doorTo f_0_xs f_0_ys f_0_pieceLines f_0_pieceBegins f_0_pieceEnds f_0_pieceLeft f_0_pieceRight f44) H := hP.sub [0, 1, 2, 3, 4, 5, 6, 7, 8, 9, 10, 11, 12, 13] rfl
                  have hD : va_D A (wl_Mo_way a_0 a_0_isFlat a_0_lows a_0_doorCounts a_0_doorFrom a_0_doorTo a_0_xs a_0_ys a_0_pieceLines a_0_pieceBegins a_0_pieceEnds a_0_pieceLeft a_0_pieceRight a_0_far b_0_across b_0_highs b_0_thick b_0_labels b_0_oldXs b_0_oldYs b_0_oldLabels b_0_names b_0_oldNames b_0_wanted b_0_common b_0_flatEdges b_0_upEdges b_0_isPoint b_0_stack b_0_outs b_0_isSeen b_0_ringSpaces b_0_ringStarts b_0_ringSizes b_0_ringLeast b_0_looseLines b_0_looseXs b_0_looseYs b_0_looseReaches cZ cI x13 v_0_lines v_0_isFresh v_0_hasRun v_0_runs v_0_nx v_0_ny v_0_spaces v_0_oldNx v_0_oldNy v_0_oldSpaces v_0_points v_0_pieces v_0_rings v_0_outsideSides v_0_looseCount f_0_isFlat f_0_lows f_0_doorCounts f_0_doorFrom f_0_doorTo f_0_xs f_0_ys f_0_pieceLines f_0_pieceBegins f_0_pieceEnds f_0_pieceLeft f_0_pieceRight f44) := hD.sub [0, 1, 2, 3, 4, 5, 6, 7, 8, 9, 10, 11, 12, 13] (by decide) rfl
                  refine lv_istore (lv' := [(6, .int r43), (0, .ref a_0), (2, .int p2), (3, .int x30), (4, .int x36), (5, .int x37)]) hx hb d_Mo_way_104 hl (by decide) rfl (fun ls hl => ?_)
                  refine lv_iload hx hb d_Mo_way_106 (lv_at hl 4 rfl) ?_
                  obtain ⟨x49, hb47, hm⟩ := bd1_e hm
                  have K46 : ∀ (H : Heap) (locs : List Loc) (ls : Array Slot), va_P (dC, dI) vwCl (wl_Mo_way a_0 a_0_isFlat a_0_lows a_0_doorCounts a_0_doorFrom a_0_doorTo a_0_xs a_0_ys a_0_pieceLines a_0_pieceBegins a_0_pieceEnds a_0_pieceLeft a_0_pieceRight a_0_far b_0_across b_0_highs b_0_thick b_0_labels b_0_oldXs b_0_oldYs b_0_oldLabels b_0_names b_0_oldNames b_0_wanted b_0_common b_0_flatEdges b_0_upEdges b_0_isPoint b_0_stack b_0_outs b_0_isSeen b_0_ringSpaces b_0_ringStarts b_0_ringSizes b_0_ringLeast b_0_looseLines b_0_looseXs b_0_looseYs b_0_looseReaches cZ cI x13 v_0_lines v_0_isFresh v_0_hasRun v_0_runs v_0_nx v_0_ny v_0_spaces v_0_oldNx v_0_oldNy v_0_oldSpaces v_0_points v_0_pieces v_0_rings v_0_outsideSides v_0_looseCount f_0_isFlat f_0_lows f_0_doorCounts f_0_doorFrom f_0_doorTo f_0_xs f_0_ys f_0_pieceLines f_0_pieceBegins f_0_pieceEnds f_0_pieceLeft f_0_pieceRight f44) H → va_D A (wl_Mo_way a_0 a_0_isFlat a_0_lows a_0_doorCounts a_0_doorFrom a_0_doorTo a_0_xs a_0_ys a_0_pieceLines a_0_pieceBegins a_0_pieceEnds a_0_pieceLeft a_0_pieceRight a_0_far b_0_across b_0_highs b_0_thick b_0_labels b_0_oldXs b_0_oldYs b_0_oldLabels b_0_names b_0_oldNames b_0_wanted b_0_common b_0_flatEdges b_0_upEdges b_0_isPoint b_0_stack b_0_outs b_0_isSeen b_0_ringSpaces b_0_ringStarts b_0_ringSizes b_0_ringLeast b_0_looseLines b_0_looseXs b_0_looseYs b_0_looseReaches cZ cI x13 v_0_lines v_0_isFresh v_0_hasRun v_0_runs v_0_nx v_0_ny v_0_spaces v_0_oldNx v_0_oldNy v_0_oldSpaces v_0_points v_0_pieces v_0_rings v_0_outsideSides v_0_looseCount f_0_isFlat f_0_lows f_0_doorCounts f_0_doorFrom f_0_doorTo f_0_xs f_0_ys f_0_pieceLines f_0_pieceBegins f_0_pieceEnds f_0_pieceLeft f_0_pieceRight f44) → va_S A s.heap H locs → lv_has ls 7 [(0, .ref a_0), (2, .int p2), (3, .int x30), (5, .int x37)] → W p l e rm_Mo_way s m args below meth c H locs 0 0 Q (F0 m 121 ls [.int x49]) := by
                    intro H locs ls hP hD hS hl
                    refine lv_istore (lv' := [(4, .int x49), (0, .ref a_0), (2, .int p2), (3, .int x30), (5, .int x37)]) hx hb d_Mo_way_121 hl (by decide) rfl (fun ls hl => ?_)
                    obtain ⟨x52, ex52⟩ : ∃ y : Int32, y = x37 + 1 := ⟨_, rfl⟩
                    replace hm := lt_el hm ex52
                    refine lv_iinc (v := x52) (lv' := [(5, .int x52), (4, .int x49), (0, .ref a_0), (2, .int p2), (3, .int x30)]) hx hb d_Mo_way_123 hl (k := 4) rfl (by rw [ex52]; rfl) (by decide) rfl (fun ls hl => ?_)
                    refine lv_goto (tgt := 88) hx hb d_Mo_way_126 (by decide) ?_
                    exact ih _ _ _ _ _ hm KE H locs ls hP hD hS (lv_sub hl [2, 3, 4, 1, 0] rfl)
                  replace hm := hb47
                  refine lv_if_ne (tgt := 116) hx hb d_Mo_way_108 (by decide) (fun c50 => ?_) (fun c50 => ?_)
                  · replace hm := if_f hm c50
                    refine lv_iconst (v := 1) hx hb d_Mo_way_116 (by decide) ?_
                    refine lv_goto (tgt := 121) hx hb d_Mo_way_117 (by decide) ?_
                    cases hm
                    exact K46 H locs ls hP hD hS (lv_sub hl [1, 2, 3, 5] rfl)
                  · replace hm := if_t hm c50
                    refine lv_iload hx hb d_Mo_way_111 (lv_at hl 0 rfl) ?_
                    refine lv_if_eq (tgt := 120) hx hb d_Mo_way_113 (by decide) (fun c51 => ?_) (fun c51 => ?_)
                    · replace hm := if_t hm c51
                      refine lv_iconst (v := 0) hx hb d_Mo_way_120 (by decide) ?_
                      cases hm
                      exact K46 H locs ls hP hD hS (lv_sub hl [1, 2, 3, 5] rfl)
                    · replace hm := if_f hm c51
                      refine lv_iconst (v := 1) hx hb d_Mo_way_116 (by decide) ?_
                      refine lv_goto (tgt := 121) hx hb d_Mo_way_117 (by decide) ?_
                      cases hm
                      exact K46 H locs ls hP hD hS (lv_sub hl [1, 2, 3, 5] rfl)
            obtain ⟨x39, f40, hb53, hm⟩ := bd2_e hm
            refine L88_41 fu _ _ _ _ _ hb53 (fun H locs ls hP hD hS hl => ?_) H locs ls hP hD hS (lv_sub hl [2, 3, 4, 1, 0] rfl)
            obtain ⟨x54, ex54⟩ : ∃ y : Int32, y = x30 + 1 := ⟨_, rfl⟩
            replace hm := lt_el hm ex54
            refine lv_iinc (v := x54) (lv' := [(3, .int x54), (0, .ref a_0), (2, .int p2), (4, .int x39)]) hx hb d_Mo_way_129 hl (k := 2) rfl (by rw [ex54]; rfl) (by decide) rfl (fun ls hl => ?_)
            refine lv_goto (tgt := 77) hx hb d_Mo_way_132 (by decide) ?_
            exact ih _ _ _ _ hm KE H locs ls hP hD hS (lv_sub hl [1, 2, 0, 3] rfl)
      obtain ⟨f33, hb55, hm⟩ := bd1_e hm
      refine L77_34 fu _ _ _ _ hb55 (fun H locs ls hP hD hS hl => ?_) H locs ls hP hD hS (lv_sub hl [2, 3, 1, 0] rfl)
      refine lv_aload_n hx hb d_Mo_way_135 rfl (lv_at hl 0 rfl) ?_
      refine va_get (D := (dC, dI)) (ci := 11) (v := .ref a_0_far) (C := "SpaceCyclesModel") (T := F_Mo) (N := 54) hx hb hts (in_F i_Mo) hown hK hP 0 rfl rfl 53 (by decide) (hts _ (in_c k_459)) (fun _ h9 => h9) rfl d_Mo_way_136 ?_
      refine lv_iload_n hx hb d_Mo_way_139 rfl (lv_at hl 1 rfl) ?_
      refine lv_iconst (v := 1) hx hb d_Mo_way_140 (by decide) ?_
      refine lv_iadd hx hb d_Mo_way_141 ?_
      obtain ⟨hi56, hm⟩ := gI_e hm
      refine va_iald hx hb hK hP 13 0 rfl rfl hi56 d_Mo_way_142 ?_
      cases hm
      exact hret _ H locs ls d_Mo_way_143 hP hD hS
    · replace hm := if_t hm c15
      refine lv_iconst (v := 0) hx hb d_Mo_way_35 (by decide) ?_
      cases hm
      exact hret _ H locs ls d_Mo_way_36 hP hD hS
  replace hm := hb2
  refine lv_if_eq (tgt := 28) hx hb d_Mo_way_5 (by decide) (fun c5 => ?_) (fun c5 => ?_)
  · replace hm := if_t hm c5
    refine lv_iconst (v := 0) hx hb d_Mo_way_28 (by decide) ?_
    cases hm
    exact K1 H locs ls hP hD hS (lv_sub hl [0, 1, 2] rfl)
  · replace hm := if_f hm c5
    refine lv_aload_n hx hb d_Mo_way_8 rfl (lv_at hl 0 rfl) ?_
    refine lv_iload_n hx hb d_Mo_way_9 rfl (lv_at hl 1 rfl) ?_
    obtain ⟨r6, hb7, hm⟩ := bd1_e hm
    have hPc := hP.sub (ws' := (wl_Mo_isAny a_0 a_0_isFlat b_0_across a_0_lows b_0_highs b_0_thick a_0_doorCounts a_0_doorFrom a_0_doorTo a_0_xs a_0_ys b_0_labels b_0_oldXs b_0_oldYs b_0_oldLabels b_0_names b_0_oldNames b_0_wanted b_0_common b_0_flatEdges b_0_upEdges b_0_isPoint b_0_stack a_0_pieceLines a_0_pieceBegins a_0_pieceEnds a_0_pieceLeft a_0_pieceRight b_0_outs b_0_isSeen b_0_ringSpaces b_0_ringStarts b_0_ringSizes b_0_ringLeast b_0_looseLines b_0_looseXs b_0_looseYs b_0_looseReaches a_0_far v_0_code v_0_lines v_0_isFresh v_0_hasRun v_0_runs v_0_nx v_0_ny v_0_spaces v_0_oldNx v_0_oldNy v_0_oldSpaces v_0_points v_0_pieces v_0_rings v_0_outsideSides v_0_looseCount)) [0] rfl
    have hDc := hD.sub (ws' := (wl_Mo_isAny a_0 a_0_isFlat b_0_across a_0_lows b_0_highs b_0_thick a_0_doorCounts a_0_doorFrom a_0_doorTo a_0_xs a_0_ys b_0_labels b_0_oldXs b_0_oldYs b_0_oldLabels b_0_names b_0_oldNames b_0_wanted b_0_common b_0_flatEdges b_0_upEdges b_0_isPoint b_0_stack a_0_pieceLines a_0_pieceBegins a_0_pieceEnds a_0_pieceLeft a_0_pieceRight b_0_outs b_0_isSeen b_0_ringSpaces b_0_ringStarts b_0_ringSizes b_0_ringLeast b_0_looseLines b_0_looseXs b_0_looseYs b_0_looseReaches a_0_far v_0_code v_0_lines v_0_isFresh v_0_hasRun v_0_runs v_0_nx v_0_ny v_0_spaces v_0_oldNx v_0_oldNy v_0_oldSpaces v_0_points v_0_pieces v_0_rings v_0_outsideSides v_0_looseCount)) [0] (by decide) rfl
    refine cl_i (wc' := (wl_Mo_isAny a_0 a_0_isFlat b_0_across a_0_lows b_0_highs b_0_thick a_0_doorCounts a_0_doorFrom a_0_doorTo a_0_xs a_0_ys b_0_labels b_0_oldXs b_0_oldYs b_0_oldLabels b_0_names b_0_oldNames b_0_wanted b_0_common b_0_flatEdges b_0_upEdges b_0_isPoint b_0_stack a_0_pieceLines a_0_pieceBegins a_0_pieceEnds a_0_pieceLeft a_0_pieceRight b_0_outs b_0_isSeen b_0_ringSpaces b_0_ringStarts b_0_ringSizes b_0_ringLeast b_0_looseLines b_0_looseXs b_0_looseYs b_0_looseReaches a_0_far v_0_code v_0_lines v_0_isFresh v_0_hasRun v_0_runs v_0_nx v_0_ny v_0_spaces v_0_oldNx v_0_oldNy v_0_oldSpaces v_0_points v_0_pieces v_0_rings v_0_outsideSides v_0_looseCount)) (va_runV (As := [.int p1]) (rest := [.ref a_0]) ⟨hx, hb, hml, hown, hts⟩ (c_Mo_isAny l dC dI (cI := cI) (cZ := cZ) (cJ := cJ) a_0 a_0_isFlat b_0_across a_0_lows b_0_highs b_0_thick a_0_doorCounts a_0_doorFrom a_0_doorTo a_0_xs a_0_ys b_0_labels b_0_oldXs b_0_oldYs b_0_oldLabels b_0_names b_0_oldNames b_0_wanted b_0_common b_0_flatEdges b_0_upEdges b_0_isPoint b_0_stack a_0_pieceLines a_0_pieceBegins a_0_pieceEnds a_0_pieceLeft a_0_pieceRight b_0_outs b_0_isSeen b_0_ringSpaces b_0_ringStarts b_0_ringSizes b_0_ringLeast b_0_looseLines b_0_looseXs b_0_looseYs b_0_looseReaches a_0_far H.size v_0_code v_0_lines v_0_isFresh v_0_hasRun v_0_runs v_0_nx v_0_ny v_0_spaces v_0_oldNx v_0_oldNy v_0_oldSpaces v_0_points v_0_pieces v_0_rings v_0_outsideSides v_0_looseCount p1 r6 hb7) (cwV 1 hts (gl_V k_458 k_457 k_456 k_277 k_455) rfl rfl rfl (by decide +kernel) ⟨Nat.le_of_ble_eq_true rfl, Nat.le_of_ble_eq_true rfl⟩) ⟨PP_blind, va_recv hK hPc (ci := 11) (q0 := 0) rfl rfl, fun U hU hW => PP_at hK hN hPc hDc hU hW⟩ rfl rfl hl.1 rfl (lv_room (Nat.le_of_ble_eq_true rfl)) d_Mo_way_10 ⟨Nat.zero_le _, Nat.zero_le _⟩) hP hD hS hA [0] [1, 2, 3, 4, 5, 6, 7, 8, 9, 10, 11, 12, 13] rfl rfl (by decide) (by decide) (fun H locs hP hD hS => ?_)
    have hP : va_P (dC, dI) vwCl (wl_Mo_way a_0 a_0_isFlat a_0_lows a_0_doorCounts a_0_doorFrom a_0_doorTo a_0_xs a_0_ys a_0_pieceLines a_0_pieceBegins a_0_pieceEnds a_0_pieceLeft a_0_pieceRight a_0_far b_0_across b_0_highs b_0_thick b_0_labels b_0_oldXs b_0_oldYs b_0_oldLabels b_0_names b_0_oldNames b_0_wanted b_0_common b_0_flatEdges b_0_upEdges b_0_isPoint b_0_stack b_0_outs b_0_isSeen b_0_ringSpaces b_0_ringStarts b_0_ringSizes b_0_ringLeast b_0_looseLines b_0_looseXs b_0_looseYs b_0_looseReaches cZ cI v_0_code v_0_lines v_0_isFresh v_0_hasRun v_0_runs v_0_nx v_0_ny v_0_spaces v_0_oldNx v_0_oldNy v_0_oldSpaces v_0_points v_0_pieces v_0_rings v_0_outsideSides v_0_looseCount f_0_isFlat f_0_lows f_0_doorCounts f_0_doorFrom f_0_doorTo f_0_xs f_0_ys f_0_pieceLines f_0_pieceBegins f_0_pieceEnds f_0_pieceLeft f_0_pieceRight f_0_far) H := hP.sub [13, 0, 1, 2, 3, 4, 5, 6, 7, 8, 9, 10, 11, 12] rfl
    have hD : va_D A (wl_Mo_way a_0 a_0_isFlat a_0_lows a_0_doorCounts a_0_doorFrom a_0_doorTo a_0_xs a_0_ys a_0_pieceLines a_0_pieceBegins a_0_pieceEnds a_0_pieceLeft a_0_pieceRight a_0_far b_0_across b_0_highs b_0_thick b_0_labels b_0_oldXs b_0_oldYs b_0_oldLabels b_0_names b_0_oldNames b_0_wanted b_0_common b_0_flatEdges b_0_upEdges b_0_isPoint b_0_stack b_0_outs b_0_isSeen b_0_ringSpaces b_0_ringStarts b_0_ringSizes b_0_ringLeast b_0_looseLines b_0_looseXs b_0_looseYs b_0_looseReaches cZ cI v_0_code v_0_lines v_0_isFresh v_0_hasRun v_0_runs v_0_nx v_0_ny v_0_spaces v_0_oldNx v_0_oldNy v_0_oldSpaces v_0_points v_0_pieces v_0_rings v_0_outsideSides v_0_looseCount f_0_isFlat f_0_lows f_0_doorCounts f_0_doorFrom f_0_doorTo f_0_xs f_0_ys f_0_pieceLines f_0_pieceBegins f_0_pieceEnds f_0_pieceLeft f_0_pieceRight f_0_far) := hD.sub [13, 0, 1, 2, 3, 4, 5, 6, 7, 8, 9, 10, 11, 12] (by decide) rfl
    refine lv_if_eq (tgt := 28) hx hb d_Mo_way_13 (by decide) (fun c8 => ?_) (fun c8 => ?_)
    · replace hm := if_t hm c8
      refine lv_iconst (v := 0) hx hb d_Mo_way_28 (by decide) ?_
      cases hm
      exact K1 H locs ls hP hD hS (lv_sub hl [0, 1, 2] rfl)
    · replace hm := if_f hm c8
      refine lv_aload_n hx hb d_Mo_way_16 rfl (lv_at hl 0 rfl) ?_
      refine lv_iload_n hx hb d_Mo_way_17 rfl (lv_at hl 2 rfl) ?_
      obtain ⟨r9, hb10, hm⟩ := bd1_e hm
      have hPc := hP.sub (ws' := (wl_Mo_isAny a_0 a_0_isFlat b_0_across a_0_lows b_0_highs b_0_thick a_0_doorCounts a_0_doorFrom a_0_doorTo a_0_xs a_0_ys b_0_labels b_0_oldXs b_0_oldYs b_0_oldLabels b_0_names b_0_oldNames b_0_wanted b_0_common b_0_flatEdges b_0_upEdges b_0_isPoint b_0_stack a_0_pieceLines a_0_pieceBegins a_0_pieceEnds a_0_pieceLeft a_0_pieceRight b_0_outs b_0_isSeen b_0_ringSpaces b_0_ringStarts b_0_ringSizes b_0_ringLeast b_0_looseLines b_0_looseXs b_0_looseYs b_0_looseReaches a_0_far v_0_code v_0_lines v_0_isFresh v_0_hasRun v_0_runs v_0_nx v_0_ny v_0_spaces v_0_oldNx v_0_oldNy v_0_oldSpaces v_0_points v_0_pieces v_0_rings v_0_outsideSides v_0_looseCount)) [0] rfl
      have hDc := hD.sub (ws' := (wl_Mo_isAny a_0 a_0_isFlat b_0_across a_0_lows b_0_highs b_0_thick a_0_doorCounts a_0_doorFrom a_0_doorTo a_0_xs a_0_ys b_0_labels b_0_oldXs b_0_oldYs b_0_oldLabels b_0_names b_0_oldNames b_0_wanted b_0_common b_0_flatEdges b_0_upEdges b_0_isPoint b_0_stack a_0_pieceLines a_0_pieceBegins a_0_pieceEnds a_0_pieceLeft a_0_pieceRight b_0_outs b_0_isSeen b_0_ringSpaces b_0_ringStarts b_0_ringSizes b_0_ringLeast b_0_looseLines b_0_looseXs b_0_looseYs b_0_looseReaches a_0_far v_0_code v_0_lines v_0_isFresh v_0_hasRun v_0_runs v_0_nx v_0_ny v_0_spaces v_0_oldNx v_0_oldNy v_0_oldSpaces v_0_points v_0_pieces v_0_rings v_0_outsideSides v_0_looseCount)) [0] (by decide) rfl
      refine cl_i (wc' := (wl_Mo_isAny a_0 a_0_isFlat b_0_across a_0_lows b_0_highs b_0_thick a_0_doorCounts a_0_doorFrom a_0_doorTo a_0_xs a_0_ys b_0_labels b_0_oldXs b_0_oldYs b_0_oldLabels b_0_names b_0_oldNames b_0_wanted b_0_common b_0_flatEdges b_0_upEdges b_0_isPoint b_0_stack a_0_pieceLines a_0_pieceBegins a_0_pieceEnds a_0_pieceLeft a_0_pieceRight b_0_outs b_0_isSeen b_0_ringSpaces b_0_ringStarts b_0_ringSizes b_0_ringLeast b_0_looseLines b_0_looseXs b_0_looseYs b_0_looseReaches a_0_far v_0_code v_0_lines v_0_isFresh v_0_hasRun v_0_runs v_0_nx v_0_ny v_0_spaces v_0_oldNx v_0_oldNy v_0_oldSpaces v_0_points v_0_pieces v_0_rings v_0_outsideSides v_0_looseCount)) (va_runV (As := [.int p2]) (rest := [.ref a_0]) ⟨hx, hb, hml, hown, hts⟩ (c_Mo_isAny l dC dI (cI := cI) (cZ := cZ) (cJ := cJ) a_0 a_0_isFlat b_0_across a_0_lows b_0_highs b_0_thick a_0_doorCounts a_0_doorFrom a_0_doorTo a_0_xs a_0_ys b_0_labels b_0_oldXs b_0_oldYs b_0_oldLabels b_0_names b_0_oldNames b_0_wanted b_0_common b_0_flatEdges b_0_upEdges b_0_isPoint b_0_stack a_0_pieceLines a_0_pieceBegins a_0_pieceEnds a_0_pieceLeft a_0_pieceRight b_0_outs b_0_isSeen b_0_ringSpaces b_0_ringStarts b_0_ringSizes b_0_ringLeast b_0_looseLines b_0_looseXs b_0_looseYs b_0_looseReaches a_0_far H.size v_0_code v_0_lines v_0_isFresh v_0_hasRun v_0_runs v_0_nx v_0_ny v_0_spaces v_0_oldNx v_0_oldNy v_0_oldSpaces v_0_points v_0_pieces v_0_rings v_0_outsideSides v_0_looseCount p2 r9 hb10) (cwV 1 hts (gl_V k_458 k_457 k_456 k_277 k_455) rfl rfl rfl (by decide +kernel) ⟨Nat.le_of_ble_eq_true rfl, Nat.le_of_ble_eq_true rfl⟩) ⟨PP_blind, va_recv hK hPc (ci := 11) (q0 := 0) rfl rfl, fun U hU hW => PP_at hK hN hPc hDc hU hW⟩ rfl rfl hl.1 rfl (lv_room (Nat.le_of_ble_eq_true rfl)) d_Mo_way_18 ⟨Nat.zero_le _, Nat.zero_le _⟩) hP hD hS hA [0] [1, 2, 3, 4, 5, 6, 7, 8, 9, 10, 11, 12, 13] rfl rfl (by decide) (by decide) (fun H locs hP hD hS => ?_)
      have hP : va_P (dC, dI) vwCl (wl_Mo_way a_0 a_0_isFlat a_0_lows a_0_doorCounts a_0_doorFrom a_0_doorTo a_0_xs a_0_ys a_0_pieceLines a_0_pieceBegins a_0_pieceEnds a_0_pieceLeft a_0_pieceRight a_0_far b_0_across b_0_highs b_0_thick b_0_labels b_0_oldXs b_0_oldYs b_0_oldLabels b_0_names b_0_oldNames b_0_wanted b_0_common b_0_flatEdges b_0_upEdges b_0_isPoint b_0_stack b_0_outs b_0_isSeen b_0_ringSpaces b_0_ringStarts b_0_ringSizes b_0_ringLeast b_0_looseLines b_0_looseXs b_0_looseYs b_0_looseReaches cZ cI v_0_code v_0_lines v_0_isFresh v_0_hasRun v_0_runs v_0_nx v_0_ny v_0_spaces v_0_oldNx v_0_oldNy v_0_oldSpaces v_0_points v_0_pieces v_0_rings v_0_outsideSides v_0_looseCount f_0_isFlat f_0_lows f_0_doorCounts f_0_doorFrom f_0_doorTo f_0_xs f_0_ys f_0_pieceLines f_0_pieceBegins f_0_pieceEnds f_0_pieceLeft f_0_pieceRight f_0_far) H := hP.sub [13, 0, 1, 2, 3, 4, 5, 6, 7, 8, 9, 10, 11, 12] rfl
      have hD : va_D A (wl_Mo_way a_0 a_0_isFlat a_0_lows a_0_doorCounts a_0_doorFrom a_0_doorTo a_0_xs a_0_ys a_0_pieceLines a_0_pieceBegins a_0_pieceEnds a_0_pieceLeft a_0_pieceRight a_0_far b_0_across b_0_highs b_0_thick b_0_labels b_0_oldXs b_0_oldYs b_0_oldLabels b_0_names b_0_oldNames b_0_wanted b_0_common b_0_flatEdges b_0_upEdges b_0_isPoint b_0_stack b_0_outs b_0_isSeen b_0_ringSpaces b_0_ringStarts b_0_ringSizes b_0_ringLeast b_0_looseLines b_0_looseXs b_0_looseYs b_0_looseReaches cZ cI v_0_code v_0_lines v_0_isFresh v_0_hasRun v_0_runs v_0_nx v_0_ny v_0_spaces v_0_oldNx v_0_oldNy v_0_oldSpaces v_0_points v_0_pieces v_0_rings v_0_outsideSides v_0_looseCount f_0_isFlat f_0_lows f_0_doorCounts f_0_doorFrom f_0_doorTo f_0_xs f_0_ys f_0_pieceLines f_0_pieceBegins f_0_pieceEnds f_0_pieceLeft f_0_pieceRight f_0_far) := hD.sub [13, 0, 1, 2, 3, 4, 5, 6, 7, 8, 9, 10, 11, 12] (by decide) rfl
      refine lv_if_eq (tgt := 28) hx hb d_Mo_way_21 (by decide) (fun c11 => ?_) (fun c11 => ?_)
      · replace hm := if_t hm c11
        refine lv_iconst (v := 0) hx hb d_Mo_way_28 (by decide) ?_
        cases hm
        exact K1 H locs ls hP hD hS (lv_sub hl [0, 1, 2] rfl)
      · replace hm := if_f hm c11
        refine lv_iconst (v := 1) hx hb d_Mo_way_24 (by decide) ?_
        refine lv_goto (tgt := 29) hx hb d_Mo_way_25 (by decide) ?_
        cases hm
        exact K1 H locs ls hP hD hS (lv_sub hl [0, 1, 2] rfl)
set_option maxHeartbeats 4000000 in
set_option maxRecDepth 100000 in
theorem c_Mo_way (l : Launch) (dC : Nat → ClassId) (dI : Nat → Nat → Nat) {cI cZ cJ : ClassId} (a_0 a_0_isFlat a_0_lows a_0_doorCounts a_0_doorFrom a_0_doorTo a_0_xs a_0_ys a_0_pieceLines a_0_pieceBegins a_0_pieceEnds a_0_pieceLeft a_0_pieceRight a_0_far b_0_across b_0_highs b_0_thick b_0_labels b_0_oldXs b_0_oldYs b_0_oldLabels b_0_names b_0_oldNames b_0_wanted b_0_common b_0_flatEdges b_0_upEdges b_0_isPoint b_0_stack b_0_outs b_0_isSeen b_0_ringSpaces b_0_ringStarts b_0_ringSizes b_0_ringLeast b_0_looseLines b_0_looseXs b_0_looseYs b_0_looseReaches : Nat) (sz : Nat) (v_0_code : Int32) (v_0_lines : Int32) (v_0_isFresh : Int32) (v_0_hasRun : Int32) (v_0_runs : Int32) (v_0_nx : Int32) (v_0_ny : Int32) (v_0_spaces : Int32) (v_0_oldNx : Int32) (v_0_oldNy : Int32) (v_0_oldSpaces : Int32) (v_0_points : Int32) (v_0_pieces : Int32) (v_0_rings : Int32) (v_0_outsideSides : Int32) (v_0_looseCount : Int32) (f_0_isFlat : Nat → Int32) (f_0_lows : Nat → Int32) (f_0_doorCounts : Nat → Int32) (f_0_doorFrom : Nat → Int32) (f_0_doorTo : Nat → Int32) (f_0_xs : Nat → Int32) (f_0_ys : Nat → Int32) (f_0_pieceLines : Nat → Int32) (f_0_pieceBegins : Nat → Int32) (f_0_pieceEnds : Nat → Int32) (f_0_pieceLeft : Nat → Int32) (f_0_pieceRight : Nat → Int32) (f_0_far : Nat → Int32) (p1 : Int32) (p2 : Int32) (R0 : Int32) (ov_0_code : Int32) (of_0_far : Nat → Int32) (hm : m_Mo_way p1 p2 v_0_code v_0_isFresh v_0_hasRun v_0_spaces v_0_pieces f_0_isFlat f_0_lows f_0_doorCounts f_0_doorFrom f_0_doorTo f_0_xs f_0_ys f_0_pieceLines f_0_pieceBegins f_0_pieceEnds f_0_pieceLeft f_0_pieceRight f_0_far = some (R0, ov_0_code, of_0_far)) : Met l y_Mo_way w_Mo_way rm_Mo_way (PP dC dI [(cI, .int), (cZ, .boolean), (cJ, .long)] [.ref a_0, .int p1, .int p2] sz (wl_Mo_way a_0 a_0_isFlat a_0_lows a_0_doorCounts a_0_doorFrom a_0_doorTo a_0_xs a_0_ys a_0_pieceLines a_0_pieceBegins a_0_pieceEnds a_0_pieceLeft a_0_pieceRight a_0_far b_0_across b_0_highs b_0_thick b_0_labels b_0_oldXs b_0_oldYs b_0_oldLabels b_0_names b_0_oldNames b_0_wanted b_0_common b_0_flatEdges b_0_upEdges b_0_isPoint b_0_stack b_0_outs b_0_isSeen b_0_ringSpaces b_0_ringStarts b_0_ringSizes b_0_ringLeast b_0_looseLines b_0_looseXs b_0_looseYs b_0_looseReaches cZ cI v_0_code v_0_lines v_0_isFresh v_0_hasRun v_0_runs v_0_nx v_0_ny v_0_spaces v_0_oldNx v_0_oldNy v_0_oldSpaces v_0_points v_0_pieces v_0_rings v_0_outsideSides v_0_looseCount f_0_isFlat f_0_lows f_0_doorCounts f_0_doorFrom f_0_doorTo f_0_xs f_0_ys f_0_pieceLines f_0_pieceBegins f_0_pieceEnds f_0_pieceLeft f_0_pieceRight f_0_far)) (QI dC dI [(cI, .int), (cZ, .boolean), (cJ, .long)] sz (wl_Mo_way a_0 a_0_isFlat a_0_lows a_0_doorCounts a_0_doorFrom a_0_doorTo a_0_xs a_0_ys a_0_pieceLines a_0_pieceBegins a_0_pieceEnds a_0_pieceLeft a_0_pieceRight a_0_far b_0_across b_0_highs b_0_thick b_0_labels b_0_oldXs b_0_oldYs b_0_oldLabels b_0_names b_0_oldNames b_0_wanted b_0_common b_0_flatEdges b_0_upEdges b_0_isPoint b_0_stack b_0_outs b_0_isSeen b_0_ringSpaces b_0_ringStarts b_0_ringSizes b_0_ringLeast b_0_looseLines b_0_looseXs b_0_looseYs b_0_looseReaches cZ cI v_0_code v_0_lines v_0_isFresh v_0_hasRun v_0_runs v_0_nx v_0_ny v_0_spaces v_0_oldNx v_0_oldNy v_0_oldSpaces v_0_points v_0_pieces v_0_rings v_0_outsideSides v_0_looseCount f_0_isFlat f_0_lows f_0_doorCounts f_0_doorFrom f_0_doorTo f_0_xs f_0_ys f_0_pieceLines f_0_pieceBegins f_0_pieceEnds f_0_pieceLeft f_0_pieceRight f_0_far) (wl_Mo_way a_0 a_0_isFlat a_0_lows a_0_doorCounts a_0_doorFrom a_0_doorTo a_0_xs a_0_ys a_0_pieceLines a_0_pieceBegins a_0_pieceEnds a_0_pieceLeft a_0_pieceRight a_0_far b_0_across b_0_highs b_0_thick b_0_labels b_0_oldXs b_0_oldYs b_0_oldLabels b_0_names b_0_oldNames b_0_wanted b_0_common b_0_flatEdges b_0_upEdges b_0_isPoint b_0_stack b_0_outs b_0_isSeen b_0_ringSpaces b_0_ringStarts b_0_ringSizes b_0_ringLeast b_0_looseLines b_0_looseXs b_0_looseYs b_0_looseReaches cZ cI ov_0_code v_0_lines v_0_isFresh v_0_hasRun v_0_runs v_0_nx v_0_ny v_0_spaces v_0_oldNx v_0_oldNy v_0_oldSpaces v_0_points v_0_pieces v_0_rings v_0_outsideSides v_0_looseCount f_0_isFlat f_0_lows f_0_doorCounts f_0_doorFrom f_0_doorTo f_0_xs f_0_ys f_0_pieceLines f_0_pieceBegins f_0_pieceEnds f_0_pieceLeft f_0_pieceRight of_0_far) R0) 0 0 (va_A (wl_Mo_way a_0 a_0_isFlat a_0_lows a_0_doorCounts a_0_doorFrom a_0_doorTo a_0_xs a_0_ys a_0_pieceLines a_0_pieceBegins a_0_pieceEnds a_0_pieceLeft a_0_pieceRight a_0_far b_0_across b_0_highs b_0_thick b_0_labels b_0_oldXs b_0_oldYs b_0_oldLabels b_0_names b_0_oldNames b_0_wanted b_0_common b_0_flatEdges b_0_upEdges b_0_isPoint b_0_stack b_0_outs b_0_isSeen b_0_ringSpaces b_0_ringStarts b_0_ringSizes b_0_ringLeast b_0_looseLines b_0_looseXs b_0_looseYs b_0_looseReaches cZ cI v_0_code v_0_lines v_0_isFresh v_0_hasRun v_0_runs v_0_nx v_0_ny v_0_spaces v_0_oldNx v_0_oldNy v_0_oldSpaces v_0_points v_0_pieces v_0_rings v_0_outsideSides v_0_looseCount f_0_isFlat f_0_lows f_0_doorCounts f_0_doorFrom f_0_doorTo f_0_xs f_0_ys f_0_pieceLines f_0_pieceBegins f_0_pieceEnds f_0_pieceLeft f_0_pieceRight f_0_far) sz) := by
  refine Met.ofW (cc := b_Mo_way) (maxL := 7) (ret := (some .int)) (by decide) rfl ?_
  intro p e s m args below meth c s₁ B hml hv
  obtain ⟨rfl, hsz, hP, hK, hD0, hN⟩ := hv
  subst hsz
  have hl := lv_entry ([.ref a_0, .int p1, .int p2]) (n := 7) (Nat.le_of_ble_eq_true rfl)
  rw [lg_entry_eq]
  generalize (lg_sl ([.ref a_0, .int p1, .int p2]) ++ List.replicate (7 - (lg_sl ([.ref a_0, .int p1, .int p2])).length) Slot.unset).toArray = ls at hl ⊢
  exact t_Mo_way a_0 a_0_isFlat a_0_lows a_0_doorCounts a_0_doorFrom a_0_doorTo a_0_xs a_0_ys a_0_pieceLines a_0_pieceBegins a_0_pieceEnds a_0_pieceLeft a_0_pieceRight a_0_far b_0_across b_0_highs b_0_thick b_0_labels b_0_oldXs b_0_oldYs b_0_oldLabels b_0_names b_0_oldNames b_0_wanted b_0_common b_0_flatEdges b_0_upEdges b_0_isPoint b_0_stack b_0_outs b_0_isSeen b_0_ringSpaces b_0_ringStarts b_0_ringSizes b_0_ringLeast b_0_looseLines b_0_looseXs b_0_looseYs b_0_looseReaches v_0_code v_0_lines v_0_isFresh v_0_hasRun v_0_runs v_0_nx v_0_ny v_0_spaces v_0_oldNx v_0_oldNy v_0_oldSpaces v_0_points v_0_pieces v_0_rings v_0_outsideSides v_0_looseCount f_0_isFlat f_0_lows f_0_doorCounts f_0_doorFrom f_0_doorTo f_0_xs f_0_ys f_0_pieceLines f_0_pieceBegins f_0_pieceEnds f_0_pieceLeft f_0_pieceRight f_0_far p1 p2 R0 ov_0_code of_0_far B.exec B.bytes hml (findClass_of_methodNamed B.named) (atoms_spec (ws := w_Mo_way) B.pre) hK hN (fun q h => Or.inr h) (fun pc H locs ls hd hP9 hD9 hS => W.iret B.exec B.bytes B.returns (fun t ht hW => ⟨⟨_, (), rfl, rfl, by rw [ht]; exact hP9, va_K.moved hW.alike hK, hD9⟩, hS.F ht⟩) hS.2.2 hd) hm s.heap [] ls hP hD0.self va_S.rf hl

-- SpaceCyclesModel.loose(II)I
abbrev b_Mo_loose : ByteArray := prog_13_method_51_code
abbrev y_Mo_loose : MethodName := ⟨"SpaceCyclesModel", "loose", "(II)I"⟩
abbrev w_Mo_loose : List Cond := Cond.code y_Mo_loose b_Mo_loose 3 (some .int) :: gl
abbrev rm_Mo_loose : Room := { frames := 1, cells := 0, slots := 0, locals := 25 }
theorem d_Mo_loose_0 : decode b_Mo_loose 0 = .ok (.aload_n 0, 1) := by decide +kernel
theorem d_Mo_loose_1 : decode b_Mo_loose 1 = .ok (.iload_n 1, 1) := by decide +kernel
theorem d_Mo_loose_2 : decode b_Mo_loose 2 = .ok (.ifCond .lt 19, 3) := by decide +kernel
theorem d_Mo_loose_5 : decode b_Mo_loose 5 = .ok (.iload_n 2, 1) := by decide +kernel
theorem d_Mo_loose_6 : decode b_Mo_loose 6 = .ok (.i2l, 1) := by decide +kernel
theorem d_Mo_loose_7 : decode b_Mo_loose 7 = .ok (.lconst 0, 1) := by decide +kernel
theorem d_Mo_loose_8 : decode b_Mo_loose 8 = .ok (.ldc2_w 308, 3) := by decide +kernel
theorem d_Mo_loose_11 : decode b_Mo_loose 11 = .ok (.invokestatic 133, 3) := by decide +kernel
theorem d_Mo_loose_14 : decode b_Mo_loose 14 = .ok (.ifCond .eq 7, 3) := by decide +kernel
theorem d_Mo_loose_17 : decode b_Mo_loose 17 = .ok (.iconst 1, 1) := by decide +kernel
theorem d_Mo_loose_18 : decode b_Mo_loose 18 = .ok (.goto 4, 3) := by decide +kernel
theorem d_Mo_loose_21 : decode b_Mo_loose 21 = .ok (.iconst 0, 1) := by decide +kernel
theorem d_Mo_loose_22 : decode b_Mo_loose 22 = .ok (.invokevirtual 271, 3) := by decide +kernel
theorem d_Mo_loose_25 : decode b_Mo_loose 25 = .ok (.ifCond .ne 5, 3) := by decide +kernel
theorem d_Mo_loose_28 : decode b_Mo_loose 28 = .ok (.iconst 0, 1) := by decide +kernel
theorem d_Mo_loose_29 : decode b_Mo_loose 29 = .ok (.ireturn, 1) := by decide +kernel
theorem d_Mo_loose_30 : decode b_Mo_loose 30 = .ok (.iload_n 1, 1) := by decide +kernel
theorem d_Mo_loose_31 : decode b_Mo_loose 31 = .ok (.aload_n 0, 1) := by decide +kernel
theorem d_Mo_loose_32 : decode b_Mo_loose 32 = .ok (.getfield 214, 3) := by decide +kernel
theorem d_Mo_loose_35 : decode b_Mo_loose 35 = .ok (.if_icmp .lt 10, 3) := by decide +kernel
theorem d_Mo_loose_38 : decode b_Mo_loose 38 = .ok (.aload_n 0, 1) := by decide +kernel
theorem d_Mo_loose_39 : decode b_Mo_loose 39 = .ok (.iconst 1, 1) := by decide +kernel
theorem d_Mo_loose_40 : decode b_Mo_loose 40 = .ok (.putfield 126, 3) := by decide +kernel
theorem d_Mo_loose_43 : decode b_Mo_loose 43 = .ok (.iconst 0, 1) := by decide +kernel
theorem d_Mo_loose_44 : decode b_Mo_loose 44 = .ok (.ireturn, 1) := by decide +kernel
theorem d_Mo_loose_45 : decode b_Mo_loose 45 = .ok (.iload_n 2, 1) := by decide +kernel
theorem d_Mo_loose_46 : decode b_Mo_loose 46 = .ok (.ifCond .ne 12, 3) := by decide +kernel
theorem d_Mo_loose_49 : decode b_Mo_loose 49 = .ok (.aload_n 0, 1) := by decide +kernel
theorem d_Mo_loose_50 : decode b_Mo_loose 50 = .ok (.getfield 111, 3) := by decide +kernel
theorem d_Mo_loose_53 : decode b_Mo_loose 53 = .ok (.iload_n 1, 1) := by decide +kernel
theorem d_Mo_loose_54 : decode b_Mo_loose 54 = .ok (.iaload, 1) := by decide +kernel
theorem d_Mo_loose_55 : decode b_Mo_loose 55 = .ok (.goto 37, 3) := by decide +kernel
theorem d_Mo_loose_58 : decode b_Mo_loose 58 = .ok (.iload_n 2, 1) := by decide +kernel
theorem d_Mo_loose_59 : decode b_Mo_loose 59 = .ok (.iconst 1, 1) := by decide +kernel
theorem d_Mo_loose_60 : decode b_Mo_loose 60 = .ok (.if_icmp .ne 12, 3) := by decide +kernel
theorem d_Mo_loose_63 : decode b_Mo_loose 63 = .ok (.aload_n 0, 1) := by decide +kernel
theorem d_Mo_loose_64 : decode b_Mo_loose 64 = .ok (.getfield 114, 3) := by decide +kernel
theorem d_Mo_loose_67 : decode b_Mo_loose 67 = .ok (.iload_n 1, 1) := by decide +kernel
theorem d_Mo_loose_68 : decode b_Mo_loose 68 = .ok (.iaload, 1) := by decide +kernel
theorem d_Mo_loose_69 : decode b_Mo_loose 69 = .ok (.goto 23, 3) := by decide +kernel
theorem d_Mo_loose_72 : decode b_Mo_loose 72 = .ok (.iload_n 2, 1) := by decide +kernel
theorem d_Mo_loose_73 : decode b_Mo_loose 73 = .ok (.iconst 2, 1) := by decide +kernel
theorem d_Mo_loose_74 : decode b_Mo_loose 74 = .ok (.if_icmp .ne 12, 3) := by decide +kernel
theorem d_Mo_loose_77 : decode b_Mo_loose 77 = .ok (.aload_n 0, 1) := by decide +kernel
theorem d_Mo_loose_78 : decode b_Mo_loose 78 = .ok (.getfield 117, 3) := by decide +kernel
theorem d_Mo_loose_81 : decode b_Mo_loose 81 = .ok (.iload_n 1, 1) := by decide +kernel
theorem d_Mo_loose_82 : decode b_Mo_loose 82 = .ok (.iaload, 1) := by decide +kernel
theorem d_Mo_loose_83 : decode b_Mo_loose 83 = .ok (.goto 9, 3) := by decide +kernel
theorem d_Mo_loose_86 : decode b_Mo_loose 86 = .ok (.aload_n 0, 1) := by decide +kernel
theorem d_Mo_loose_87 : decode b_Mo_loose 87 = .ok (.getfield 120, 3) := by decide +kernel
theorem d_Mo_loose_90 : decode b_Mo_loose 90 = .ok (.iload_n 1, 1) := by decide +kernel
theorem d_Mo_loose_91 : decode b_Mo_loose 91 = .ok (.iaload, 1) := by decide +kernel
theorem d_Mo_loose_92 : decode b_Mo_loose 92 = .ok (.ireturn, 1) := by decide +kernel
abbrev wl_Mo_loose (a_0 : Nat) (a_0_looseLines : Nat) (a_0_looseXs : Nat) (a_0_looseYs : Nat) (a_0_looseReaches : Nat) (b_0_isFlat : Nat) (b_0_across : Nat) (b_0_lows : Nat) (b_0_highs : Nat) (b_0_thick : Nat) (b_0_doorCounts : Nat) (b_0_doorFrom : Nat) (b_0_doorTo : Nat) (b_0_xs : Nat) (b_0_ys : Nat) (b_0_labels : Nat) (b_0_oldXs : Nat) (b_0_oldYs : Nat) (b_0_oldLabels : Nat) (b_0_names : Nat) (b_0_oldNames : Nat) (b_0_wanted : Nat) (b_0_common : Nat) (b_0_flatEdges : Nat) (b_0_upEdges : Nat) (b_0_isPoint : Nat) (b_0_stack : Nat) (b_0_pieceLines : Nat) (b_0_pieceBegins : Nat) (b_0_pieceEnds : Nat) (b_0_pieceLeft : Nat) (b_0_pieceRight : Nat) (b_0_outs : Nat) (b_0_isSeen : Nat) (b_0_ringSpaces : Nat) (b_0_ringStarts : Nat) (b_0_ringSizes : Nat) (b_0_ringLeast : Nat) (b_0_far : Nat) (cI : ClassId) (v_0_code : Int32) (v_0_lines : Int32) (v_0_isFresh : Int32) (v_0_hasRun : Int32) (v_0_runs : Int32) (v_0_nx : Int32) (v_0_ny : Int32) (v_0_spaces : Int32) (v_0_oldNx : Int32) (v_0_oldNy : Int32) (v_0_oldSpaces : Int32) (v_0_points : Int32) (v_0_pieces : Int32) (v_0_rings : Int32) (v_0_outsideSides : Int32) (v_0_looseCount : Int32) (f_0_looseLines : Nat → Int32) (f_0_looseXs : Nat → Int32) (f_0_looseYs : Nat → Int32) (f_0_looseReaches : Nat → Int32) : va_W := [(a_0, .inr (11, [.int v_0_code, .ref b_0_isFlat, .ref b_0_across, .ref b_0_lows, .ref b_0_highs, .ref b_0_thick, .int v_0_lines, .ref b_0_doorCounts, .ref b_0_doorFrom, .ref b_0_doorTo, .int v_0_isFresh, .int v_0_hasRun, .int v_0_runs, .ref b_0_xs, .ref b_0_ys, .int v_0_nx, .int v_0_ny, .ref b_0_labels, .int v_0_spaces, .ref b_0_oldXs, .ref b_0_oldYs, .int v_0_oldNx, .int v_0_oldNy, .ref b_0_oldLabels, .int v_0_oldSpaces, .ref b_0_names, .ref b_0_oldNames, .ref b_0_wanted, .ref b_0_common, .ref b_0_flatEdges, .ref b_0_upEdges, .ref b_0_isPoint, .int v_0_points, .ref b_0_stack, .ref b_0_pieceLines, .ref b_0_pieceBegins, .ref b_0_pieceEnds, .ref b_0_pieceLeft, .ref b_0_pieceRight, .int v_0_pieces, .ref b_0_outs, .ref b_0_isSeen, .ref b_0_ringSpaces, .ref b_0_ringStarts, .ref b_0_ringSizes, .ref b_0_ringLeast, .int v_0_rings, .int v_0_outsideSides, .ref a_0_looseLines, .ref a_0_looseXs, .ref a_0_looseYs, .ref a_0_looseReaches, .int v_0_looseCount, .ref b_0_far])), (a_0_looseLines, .inl (cI, 40, .inl f_0_looseLines)), (a_0_looseXs, .inl (cI, 40, .inl f_0_looseXs)), (a_0_looseYs, .inl (cI, 40, .inl f_0_looseYs)), (a_0_looseReaches, .inl (cI, 40, .inl f_0_looseReaches))]
def m_Mo_loose (p1 : Int32) (p2 : Int32) (v_0_code : Int32) (v_0_isFresh : Int32) (v_0_looseCount : Int32) (f_0_looseLines : Nat → Int32) (f_0_looseXs : Nat → Int32) (f_0_looseYs : Nat → Int32) (f_0_looseReaches : Nat → Int32) : Option (Int32 × (Int32)) :=
  bd1 (
    if p1 < 0 then (
    some 0)
  else (
    bd1 (m_Mo_isIn (Int32.toInt64 p2) 0 3) fun r6 =>
    if r6 = 0 then (
      some 0)
    else (
      some 1)))
  fun (x4 : Int32) =>
  bd2 (m_Mo_goes x4 v_0_code v_0_isFresh) fun r9 x10 =>
    if r9 = 0 then (
      some (0, x10))
    else (
      if p1 < v_0_looseCount then (
        bd1 (
          if p2 = 0 then (
          gI p1 40 <|
          some (f_0_looseLines p1.toNatClampNeg))
        else (
          if p2 = 1 then (
            gI p1 40 <|
            some (f_0_looseXs p1.toNatClampNeg))
          else (
            if p2 = 2 then (
              gI p1 40 <|
              some (f_0_looseYs p1.toNatClampNeg))
            else (
              gI p1 40 <|
              some (f_0_looseReaches p1.toNatClampNeg)))))
        fun (x17 : Int32) =>
        some (x17, x10))
      else (
        some (0, 1)))

set_option maxHeartbeats 4000000 in
set_option maxRecDepth 100000 in
theorem t_Mo_loose {p : Program} {l : Launch} {e : Env} {s : State} {m : MethodId} {args : Array Value} {below : List Frame} {meth : Method} {c : Code} {A : Nat → Prop} {Q : State → Prop} {dC : Nat → ClassId} {dI : Nat → Nat → Nat} {cI cZ cJ : ClassId} (a_0 a_0_looseLines a_0_looseXs a_0_looseYs a_0_looseReaches b_0_isFlat b_0_across b_0_lows b_0_highs b_0_thick b_0_doorCounts b_0_doorFrom b_0_doorTo b_0_xs b_0_ys b_0_labels b_0_oldXs b_0_oldYs b_0_oldLabels b_0_names b_0_oldNames b_0_wanted b_0_common b_0_flatEdges b_0_upEdges b_0_isPoint b_0_stack b_0_pieceLines b_0_pieceBegins b_0_pieceEnds b_0_pieceLeft b_0_pieceRight b_0_outs b_0_isSeen b_0_ringSpaces b_0_ringStarts b_0_ringSizes b_0_ringLeast b_0_far : Nat) (v_0_code : Int32) (v_0_lines : Int32) (v_0_isFresh : Int32) (v_0_hasRun : Int32) (v_0_runs : Int32) (v_0_nx : Int32) (v_0_ny : Int32) (v_0_spaces : Int32) (v_0_oldNx : Int32) (v_0_oldNy : Int32) (v_0_oldSpaces : Int32) (v_0_points : Int32) (v_0_pieces : Int32) (v_0_rings : Int32) (v_0_outsideSides : Int32) (v_0_looseCount : Int32) (f_0_looseLines : Nat → Int32) (f_0_looseXs : Nat → Int32) (f_0_looseYs : Nat → Int32) (f_0_looseReaches : Nat → Int32) (p1 : Int32) (p2 : Int32) (R0 : Int32) (ov_0_code : Int32) (hx : p.tables.exec = Jvm.exec) (hb : c.code = b_Mo_loose) (hml : c.maxLocals = 3) (hown : s.vm.findClass "SpaceCyclesModel" = some m.cls) (hts : ∀ w ∈ w_Mo_loose, w.before args s = true) (hK : va_K (dC, dI) vwCl [(cI, .int), (cZ, .boolean), (cJ, .long)] s) (hN : NX s) (hA : ∀ q : Nat, s.heap.size ≤ q → A q)
    (hret : ∀ (pc : Nat) (H : Heap) (locs : List Loc) (ls : Array Slot), decode b_Mo_loose pc = .ok (.ireturn, 1) → va_P (dC, dI) vwCl (wl_Mo_loose a_0 a_0_looseLines a_0_looseXs a_0_looseYs a_0_looseReaches b_0_isFlat b_0_across b_0_lows b_0_highs b_0_thick b_0_doorCounts b_0_doorFrom b_0_doorTo b_0_xs b_0_ys b_0_labels b_0_oldXs b_0_oldYs b_0_oldLabels b_0_names b_0_oldNames b_0_wanted b_0_common b_0_flatEdges b_0_upEdges b_0_isPoint b_0_stack b_0_pieceLines b_0_pieceBegins b_0_pieceEnds b_0_pieceLeft b_0_pieceRight b_0_outs b_0_isSeen b_0_ringSpaces b_0_ringStarts b_0_ringSizes b_0_ringLeast b_0_far cI ov_0_code v_0_lines v_0_isFresh v_0_hasRun v_0_runs v_0_nx v_0_ny v_0_spaces v_0_oldNx v_0_oldNy v_0_oldSpaces v_0_points v_0_pieces v_0_rings v_0_outsideSides v_0_looseCount f_0_looseLines f_0_looseXs f_0_looseYs f_0_looseReaches) H → va_D A (wl_Mo_loose a_0 a_0_looseLines a_0_looseXs a_0_looseYs a_0_looseReaches b_0_isFlat b_0_across b_0_lows b_0_highs b_0_thick b_0_doorCounts b_0_doorFrom b_0_doorTo b_0_xs b_0_ys b_0_labels b_0_oldXs b_0_oldYs b_0_oldLabels b_0_names b_0_oldNames b_0_wanted b_0_common b_0_flatEdges b_0_upEdges b_0_isPoint b_0_stack b_0_pieceLines b_0_pieceBegins b_0_pieceEnds b_0_pieceLeft b_0_pieceRight b_0_outs b_0_isSeen b_0_ringSpaces b_0_ringStarts b_0_ringSizes b_0_ringLeast b_0_far cI ov_0_code v_0_lines v_0_isFresh v_0_hasRun v_0_runs v_0_nx v_0_ny v_0_spaces v_0_oldNx v_0_oldNy v_0_oldSpaces v_0_points v_0_pieces v_0_rings v_0_outsideSides v_0_looseCount f_0_looseLines f_0_looseXs f_0_looseYs f_0_looseReaches) → va_S A s.heap H locs → W p l e rm_Mo_loose s m args below meth c H locs 0 0 Q (F0 m pc ls [.int R0]))
    (hm : m_Mo_loose p1 p2 v_0_code v_0_isFresh v_0_looseCount f_0_looseLines f_0_looseXs f_0_looseYs f_0_looseReaches = some (R0, ov_0_code)) : ∀ (H : Heap) (locs : List Loc) (ls : Array Slot), va_P (dC, dI) vwCl (wl_Mo_loose a_0 a_0_looseLines a_0_looseXs a_0_looseYs a_0_looseReaches b_0_isFlat b_0_across b_0_lows b_0_highs b_0_thick b_0_doorCounts b_0_doorFrom b_0_doorTo b_0_xs b_0_ys b_0_labels b_0_oldXs b_0_oldYs b_0_oldLabels b_0_names b_0_oldNames b_0_wanted b_0_common b_0_flatEdges b_0_upEdges b_0_isPoint b_0_stack b_0_pieceLines b_0_pieceBegins b_0_pieceEnds b_0_pieceLeft b_0_pieceRight b_0_outs b_0_isSeen b_0_ringSpaces b_0_ringStarts b_0_ringSizes b_0_ringLeast b_0_far cI v_0_code v_0_lines v_0_isFresh v_0_hasRun v_0_runs v_0_nx v_0_ny v_0_spaces v_0_oldNx v_0_oldNy v_0_oldSpaces v_0_points v_0_pieces v_0_rings v_0_outsideSides v_0_looseCount f_0_looseLines f_0_looseXs f_0_looseYs f_0_looseReaches) H → va_D A (wl_Mo_loose a_0 a_0_looseLines a_0_looseXs a_0_looseYs a_0_looseReaches b_0_isFlat b_0_across b_0_lows b_0_highs b_0_thick b_0_doorCounts b_0_doorFrom b_0_doorTo b_0_xs b_0_ys b_0_labels b_0_oldXs b_0_oldYs b_0_oldLabels b_0_names b_0_oldNames b_0_wanted b_0_common b_0_flatEdges b_0_upEdges b_0_isPoint b_0_stack b_0_pieceLines b_0_pieceBegins b_0_pieceEnds b_0_pieceLeft b_0_pieceRight b_0_outs b_0_isSeen b_0_ringSpaces b_0_ringStarts b_0_ringSizes b_0_ringLeast b_0_far cI v_0_code v_0_lines v_0_isFresh v_0_hasRun v_0_runs v_0_nx v_0_ny v_0_spaces v_0_oldNx v_0_oldNy v_0_oldSpaces v_0_points v_0_pieces v_0_rings v_0_outsideSides v_0_looseCount f_0_looseLines f_0_looseXs f_0_looseYs f_0_looseReaches) → va_S A s.heap H locs → lv_has ls 3 [(0, .ref a_0), (1, .int p1), (2, .int p2)] → W p l e rm_Mo_loose s m args below meth c H locs 0 0 Q (F0 m 0 ls []) := by
  intro H locs ls hP hD hS hl
  unfold m_Mo_loose at hm
  refine lv_aload_n hx hb d_Mo_loose_0 rfl (lv_at hl 0 rfl) ?_
  refine lv_iload_n hx hb d_Mo_loose_1 rfl (lv_at hl 1 rfl) ?_
  obtain ⟨x4, hb2, hm⟩ := bd1_e hm
  have K1 : ∀ (H : Heap) (locs : List Loc) (ls : Array Slot), va_P (dC, dI) vwCl (wl_Mo_loose a_0 a_0_looseLines a_0_looseXs a_0_looseYs a_0_looseReaches b_0_isFlat b_0_across b_0_lows b_0_highs b_0_thick b_0_doorCounts b_0_doorFrom b_0_doorTo b_0_xs b_0_ys b_0_labels b_0_oldXs b_0_oldYs b_0_oldLabels b_0_names b_0_oldNames b_0_wanted b_0_common b_0_flatEdges b_0_upEdges b_0_isPoint b_0_stack b_0_pieceLines b_0_pieceBegins b_0_pieceEnds b_0_pieceLeft b_0_pieceRight b_0_outs b_0_isSeen b_0_ringSpaces b_0_ringStarts b_0_ringSizes b_0_ringLeast b_0_far cI v_0_code v_0_lines v_0_isFresh v_0_hasRun v_0_runs v_0_nx v_0_ny v_0_spaces v_0_oldNx v_0_oldNy v_0_oldSpaces v_0_points v_0_pieces v_0_rings v_0_outsideSides v_0_looseCount f_0_looseLines f_0_looseXs f_0_looseYs f_0_looseReaches) H → va_D A (wl_Mo_loose a_0 a_0_looseLines a_0_looseXs a_0_looseYs a_0_looseReaches b_0_isFlat b_0_across b_0_lows b_0_highs b_0_thick b_0_doorCounts b_0_doorFrom b_0_doorTo b_0_xs b_0_ys b_0_labels b_0_oldXs b_0_oldYs b_0_oldLabels b_0_names b_0_oldNames b_0_wanted b_0_common b_0_flatEdges b_0_upEdges b_0_isPoint b_0_stack b_0_pieceLines b_0_pieceBegins b_0_pieceEnds b_0_pieceLeft b_0_pieceRight b_0_outs b_0_isSeen b_0_ringSpaces b_0_ringStarts b_0_ringSizes b_0_ringLeast b_0_far cI v_0_code v_0_lines v_0_isFresh v_0_hasRun v_0_runs v_0_nx v_0_ny v_0_spaces v_0_oldNx v_0_oldNy v_0_oldSpaces v_0_points v_0_pieces v_0_rings v_0_outsideSides v_0_looseCount f_0_looseLines f_0_looseXs f_0_looseYs f_0_looseReaches) → va_S A s.heap H locs → lv_has ls 3 [(0, .ref a_0), (1, .int p1), (2, .int p2)] → W p l e rm_Mo_loose s m args below meth c H locs 0 0 Q (F0 m 22 ls [.int x4, .ref a_0]) := by
    intro H locs ls hP hD hS hl
    obtain ⟨r9, x10, hb11, hm⟩ := bd2_e hm
    have hPc := hP.sub (ws' := (wl_Mo_goes a_0 b_0_isFlat b_0_across b_0_lows b_0_highs b_0_thick b_0_doorCounts b_0_doorFrom b_0_doorTo b_0_xs b_0_ys b_0_labels b_0_oldXs b_0_oldYs b_0_oldLabels b_0_names b_0_oldNames b_0_wanted b_0_common b_0_flatEdges b_0_upEdges b_0_isPoint b_0_stack b_0_pieceLines b_0_pieceBegins b_0_pieceEnds b_0_pieceLeft b_0_pieceRight b_0_outs b_0_isSeen b_0_ringSpaces b_0_ringStarts b_0_ringSizes b_0_ringLeast a_0_looseLines a_0_looseXs a_0_looseYs a_0_looseReaches b_0_far v_0_code v_0_lines v_0_isFresh v_0_hasRun v_0_runs v_0_nx v_0_ny v_0_spaces v_0_oldNx v_0_oldNy v_0_oldSpaces v_0_points v_0_pieces v_0_rings v_0_outsideSides v_0_looseCount)) [0] rfl
    have hDc := hD.sub (ws' := (wl_Mo_goes a_0 b_0_isFlat b_0_across b_0_lows b_0_highs b_0_thick b_0_doorCounts b_0_doorFrom b_0_doorTo b_0_xs b_0_ys b_0_labels b_0_oldXs b_0_oldYs b_0_oldLabels b_0_names b_0_oldNames b_0_wanted b_0_common b_0_flatEdges b_0_upEdges b_0_isPoint b_0_stack b_0_pieceLines b_0_pieceBegins b_0_pieceEnds b_0_pieceLeft b_0_pieceRight b_0_outs b_0_isSeen b_0_ringSpaces b_0_ringStarts b_0_ringSizes b_0_ringLeast a_0_looseLines a_0_looseXs a_0_looseYs a_0_looseReaches b_0_far v_0_code v_0_lines v_0_isFresh v_0_hasRun v_0_runs v_0_nx v_0_ny v_0_spaces v_0_oldNx v_0_oldNy v_0_oldSpaces v_0_points v_0_pieces v_0_rings v_0_outsideSides v_0_looseCount)) [0] (by decide) rfl
    refine cl_i (wc' := (wl_Mo_goes a_0 b_0_isFlat b_0_across b_0_lows b_0_highs b_0_thick b_0_doorCounts b_0_doorFrom b_0_doorTo b_0_xs b_0_ys b_0_labels b_0_oldXs b_0_oldYs b_0_oldLabels b_0_names b_0_oldNames b_0_wanted b_0_common b_0_flatEdges b_0_upEdges b_0_isPoint b_0_stack b_0_pieceLines b_0_pieceBegins b_0_pieceEnds b_0_pieceLeft b_0_pieceRight b_0_outs b_0_isSeen b_0_ringSpaces b_0_ringStarts b_0_ringSizes b_0_ringLeast a_0_looseLines a_0_looseXs a_0_looseYs a_0_looseReaches b_0_far x10 v_0_lines v_0_isFresh v_0_hasRun v_0_runs v_0_nx v_0_ny v_0_spaces v_0_oldNx v_0_oldNy v_0_oldSpaces v_0_points v_0_pieces v_0_rings v_0_outsideSides v_0_looseCount)) (va_runV (As := [.int x4]) (rest := []) ⟨hx, hb, hml, hown, hts⟩ (c_Mo_goes l dC dI (cI := cI) (cZ := cZ) (cJ := cJ) a_0 b_0_isFlat b_0_across b_0_lows b_0_highs b_0_thick b_0_doorCounts b_0_doorFrom b_0_doorTo b_0_xs b_0_ys b_0_labels b_0_oldXs b_0_oldYs b_0_oldLabels b_0_names b_0_oldNames b_0_wanted b_0_common b_0_flatEdges b_0_upEdges b_0_isPoint b_0_stack b_0_pieceLines b_0_pieceBegins b_0_pieceEnds b_0_pieceLeft b_0_pieceRight b_0_outs b_0_isSeen b_0_ringSpaces b_0_ringStarts b_0_ringSizes b_0_ringLeast a_0_looseLines a_0_looseXs a_0_looseYs a_0_looseReaches b_0_far H.size v_0_code v_0_lines v_0_isFresh v_0_hasRun v_0_runs v_0_nx v_0_ny v_0_spaces v_0_oldNx v_0_oldNy v_0_oldSpaces v_0_points v_0_pieces v_0_rings v_0_outsideSides v_0_looseCount x4 r9 x10 hb11) (cwV 1 hts (gl_V k_426 k_425 k_424 k_277 k_423) rfl rfl rfl (by decide +kernel) ⟨Nat.le_of_ble_eq_true rfl, Nat.le_of_ble_eq_true rfl⟩) ⟨PP_blind, va_recv hK hPc (ci := 11) (q0 := 0) rfl rfl, fun U hU hW => PP_at hK hN hPc hDc hU hW⟩ rfl rfl hl.1 rfl (lv_room (Nat.le_of_ble_eq_true rfl)) d_Mo_loose_22 ⟨Nat.zero_le _, Nat.zero_le _⟩) hP hD hS hA [0] [1, 2, 3, 4] rfl rfl (by decide) (by decide) (fun H locs hP hD hS => ?_)
    have hP : va_P (dC, dI) vwCl (wl_Mo_loose a_0 a_0_looseLines a_0_looseXs a_0_looseYs a_0_looseReaches b_0_isFlat b_0_across b_0_lows b_0_highs b_0_thick b_0_doorCounts b_0_doorFrom b_0_doorTo b_0_xs b_0_ys b_0_labels b_0_oldXs b_0_oldYs b_0_oldLabels b_0_names b_0_oldNames b_0_wanted b_0_common b_0_flatEdges b_0_upEdges b_0_isPoint b_0_stack b_0_pieceLines b_0_pieceBegins b_0_pieceEnds b_0_pieceLeft b_0_pieceRight b_0_outs b_0_isSeen b_0_ringSpaces b_0_ringStarts b_0_ringSizes b_0_ringLeast b_0_far cI x10 v_0_lines v_0_isFresh v_0_hasRun v_0_runs v_0_nx v_0_ny v_0_spaces v_0_oldNx v_0_oldNy v_0_oldSpaces v_0_points v_0_pieces v_0_rings v_0_outsideSides v_0_looseCount f_0_looseLines f_0_looseXs f_0_looseYs f_0_looseReaches) H := hP.sub [4, 0, 1, 2, 3] rfl
    have hD : va_D A (wl_Mo_loose a_0 a_0_looseLines a_0_looseXs a_0_looseYs a_0_looseReaches b_0_isFlat b_0_across b_0_lows b_0_highs b_0_thick b_0_doorCounts b_0_doorFrom b_0_doorTo b_0_xs b_0_ys b_0_labels b_0_oldXs b_0_oldYs b_0_oldLabels b_0_names b_0_oldNames b_0_wanted b_0_common b_0_flatEdges b_0_upEdges b_0_isPoint b_0_stack b_0_pieceLines b_0_pieceBegins b_0_pieceEnds b_0_pieceLeft b_0_pieceRight b_0_outs b_0_isSeen b_0_ringSpaces b_0_ringStarts b_0_ringSizes b_0_ringLeast b_0_far cI x10 v_0_lines v_0_isFresh v_0_hasRun v_0_runs v_0_nx v_0_ny v_0_spaces v_0_oldNx v_0_oldNy v_0_oldSpaces v_0_points v_0_pieces v_0_rings v_0_outsideSides v_0_looseCount f_0_looseLines f_0_looseXs f_0_looseYs f_0_looseReaches) := hD.sub [4, 0, 1, 2, 3] (by decide) rfl
    refine lv_if_ne (tgt := 30) hx hb d_Mo_loose_25 (by decide) (fun c12 => ?_) (fun c12 => ?_)
    · replace hm := if_f hm c12
      refine lv_iload_n hx hb d_Mo_loose_30 rfl (lv_at hl 1 rfl) ?_
      refine lv_aload_n hx hb d_Mo_loose_31 rfl (lv_at hl 0 rfl) ?_
      refine va_get (D := (dC, dI)) (ci := 11) (v := .int v_0_looseCount) (C := "SpaceCyclesModel") (T := F_Mo) (N := 54) hx hb hts (in_F i_Mo) hown hK hP 0 rfl rfl 52 (by decide) (hts _ (in_c k_363)) (fun _ h9 => h9) rfl d_Mo_loose_32 ?_
      refine lv_icmp_lt (tgt := 45) hx hb d_Mo_loose_35 (by decide) (fun c13 => ?_) (fun c13 => ?_)
      · replace hm := if_t hm c13
        refine lv_iload_n hx hb d_Mo_loose_45 rfl (lv_at hl 2 rfl) ?_
        obtain ⟨x17, hb15, hm⟩ := bd1_e hm
        have K14 : ∀ (H : Heap) (locs : List Loc) (ls : Array Slot), va_P (dC, dI) vwCl (wl_Mo_loose a_0 a_0_looseLines a_0_looseXs a_0_looseYs a_0_looseReaches b_0_isFlat b_0_across b_0_lows b_0_highs b_0_thick b_0_doorCounts b_0_doorFrom b_0_doorTo b_0_xs b_0_ys b_0_labels b_0_oldXs b_0_oldYs b_0_oldLabels b_0_names b_0_oldNames b_0_wanted b_0_common b_0_flatEdges b_0_upEdges b_0_isPoint b_0_stack b_0_pieceLines b_0_pieceBegins b_0_pieceEnds b_0_pieceLeft b_0_pieceRight b_0_outs b_0_isSeen b_0_ringSpaces b_0_ringStarts b_0_ringSizes b_0_ringLeast b_0_far cI x10 v_0_lines v_0_isFresh v_0_hasRun v_0_runs v_0_nx v_0_ny v_0_spaces v_0_oldNx v_0_oldNy v_0_oldSpaces v_0_points v_0_pieces v_0_rings v_0_outsideSides v_0_looseCount f_0_looseLines f_0_looseXs f_0_looseYs f_0_looseReaches) H → va_D A (wl_Mo_loose a_0 a_0_looseLines a_0_looseXs a_0_looseYs a_0_looseReaches b_0_isFlat b_0_across b_0_lows b_0_highs b_0_thick b_0_doorCounts b_0_doorFrom b_0_doorTo b_0_xs b_0_ys b_0_labels b_0_oldXs b_0_oldYs b_0_oldLabels b_0_names b_0_oldNames b_0_wanted b_0_common b_0_flatEdges b_0_upEdges b_0_isPoint b_0_stack b_0_pieceLines b_0_pieceBegins b_0_pieceEnds b_0_pieceLeft b_0_pieceRight b_0_outs b_0_isSeen b_0_ringSpaces b_0_ringStarts b_0_ringSizes b_0_ringLeast b_0_far cI x10 v_0_lines v_0_isFresh v_0_hasRun v_0_runs v_0_nx v_0_ny v_0_spaces v_0_oldNx v_0_oldNy v_0_oldSpaces v_0_points v_0_pieces v_0_rings v_0_outsideSides v_0_looseCount f_0_looseLines f_0_looseXs f_0_looseYs f_0_looseReaches) → va_S A s.heap H locs → lv_has ls 3 [] → W p l e rm_Mo_loose s m args below meth c H locs 0 0 Q (F0 m 92 ls [.int x17]) := by
          intro H locs ls hP hD hS hl
          cases hm
          exact hret _ H locs ls d_Mo_loose_92 hP hD hS
        replace hm := hb15
        refine lv_if_ne (tgt := 58) hx hb d_Mo_loose_46 (by decide) (fun c18 => ?_) (fun c18 => ?_)
        · replace hm := if_f hm c18
          refine lv_iload_n hx hb d_Mo_loose_58 rfl (lv_at hl 2 rfl) ?_
          refine lv_iconst (v := 1) hx hb d_Mo_loose_59 (by decide) ?_
          refine lv_icmp_ne (tgt := 72) hx hb d_Mo_loose_60 (by decide) (fun c19 => ?_) (fun c19 => ?_)
          · replace hm := if_f hm c19
            refine lv_iload_n hx hb d_Mo_loose_72 rfl (lv_at hl 2 rfl) ?_
            refine lv_iconst (v := 2) hx hb d_Mo_loose_73 (by decide) ?_
            refine lv_icmp_ne (tgt := 86) hx hb d_Mo_loose_74 (by decide) (fun c20 => ?_) (fun c20 => ?_)
            · replace hm := if_f hm c20
              refine lv_aload_n hx hb d_Mo_loose_86 rfl (lv_at hl 0 rfl) ?_
              refine va_get (D := (dC, dI)) (ci := 11) (v := .ref a_0_looseReaches) (C := "SpaceCyclesModel") (T := F_Mo) (N := 54) hx hb hts (in_F i_Mo) hown hK hP 0 rfl rfl 51 (by decide) (hts _ (in_c k_367)) (fun _ h9 => h9) rfl d_Mo_loose_87 ?_
              refine lv_iload_n hx hb d_Mo_loose_90 rfl (lv_at hl 1 rfl) ?_
              obtain ⟨hi21, hm⟩ := gI_e hm
              refine va_iald hx hb hK hP 4 0 rfl rfl hi21 d_Mo_loose_91 ?_
              cases hm
              exact K14 H locs ls hP hD hS (lv_sub hl [] rfl)
            · replace hm := if_t hm c20
              refine lv_aload_n hx hb d_Mo_loose_77 rfl (lv_at hl 0 rfl) ?_
              refine va_get (D := (dC, dI)) (ci := 11) (v := .ref a_0_looseYs) (C := "SpaceCyclesModel") (T := F_Mo) (N := 54) hx hb hts (in_F i_Mo) hown hK hP 0 rfl rfl 50 (by decide) (hts _ (in_c k_366)) (fun _ h9 => h9) rfl d_Mo_loose_78 ?_
              refine lv_iload_n hx hb d_Mo_loose_81 rfl (lv_at hl 1 rfl) ?_
              obtain ⟨hi22, hm⟩ := gI_e hm
              refine va_iald hx hb hK hP 3 0 rfl rfl hi22 d_Mo_loose_82 ?_
              refine lv_goto (tgt := 92) hx hb d_Mo_loose_83 (by decide) ?_
              cases hm
              exact K14 H locs ls hP hD hS (lv_sub hl [] rfl)
          · replace hm := if_t hm c19
            refine lv_aload_n hx hb d_Mo_loose_63 rfl (lv_at hl 0 rfl) ?_
            refine va_get (D := (dC, dI)) (ci := 11) (v := .ref a_0_looseXs) (C := "SpaceCyclesModel") (T := F_Mo) (N := 54) hx hb hts (in_F i_Mo) hown hK hP 0 rfl rfl 49 (by decide) (hts _ (in_c k_364)) (fun _ h9 => h9) rfl d_Mo_loose_64 ?_
            refine lv_iload_n hx hb d_Mo_loose_67 rfl (lv_at hl 1 rfl) ?_
            obtain ⟨hi23, hm⟩ := gI_e hm
            refine va_iald hx hb hK hP 2 0 rfl rfl hi23 d_Mo_loose_68 ?_
            refine lv_goto (tgt := 92) hx hb d_Mo_loose_69 (by decide) ?_
            cases hm
            exact K14 H locs ls hP hD hS (lv_sub hl [] rfl)
        · replace hm := if_t hm c18
          refine lv_aload_n hx hb d_Mo_loose_49 rfl (lv_at hl 0 rfl) ?_
          refine va_get (D := (dC, dI)) (ci := 11) (v := .ref a_0_looseLines) (C := "SpaceCyclesModel") (T := F_Mo) (N := 54) hx hb hts (in_F i_Mo) hown hK hP 0 rfl rfl 48 (by decide) (hts _ (in_c k_365)) (fun _ h9 => h9) rfl d_Mo_loose_50 ?_
          refine lv_iload_n hx hb d_Mo_loose_53 rfl (lv_at hl 1 rfl) ?_
          obtain ⟨hi24, hm⟩ := gI_e hm
          refine va_iald hx hb hK hP 1 0 rfl rfl hi24 d_Mo_loose_54 ?_
          refine lv_goto (tgt := 92) hx hb d_Mo_loose_55 (by decide) ?_
          cases hm
          exact K14 H locs ls hP hD hS (lv_sub hl [] rfl)
      · replace hm := if_f hm c13
        refine lv_aload_n hx hb d_Mo_loose_38 rfl (lv_at hl 0 rfl) ?_
        refine lv_iconst (v := 1) hx hb d_Mo_loose_39 (by decide) ?_
        refine va_put (D := (dC, dI)) (ci := 11) (v := .int 1) (ty := .int) (C := "SpaceCyclesModel") (T := F_Mo) (N := 54) hx hb hts (in_F i_Mo) t_Mo t_Mo_ok n_Mo hown hK hP hD hS 0 rfl rfl 0 (by decide) (hts _ (in_c k_273)) (fun _ h9 => h9) rfl (by decide +kernel) rfl rfl (Nat.le_of_ble_eq_true rfl) d_Mo_loose_40 (fun H locs hP hD hS => ?_)
        have hP : va_P (dC, dI) vwCl (wl_Mo_loose a_0 a_0_looseLines a_0_looseXs a_0_looseYs a_0_looseReaches b_0_isFlat b_0_across b_0_lows b_0_highs b_0_thick b_0_doorCounts b_0_doorFrom b_0_doorTo b_0_xs b_0_ys b_0_labels b_0_oldXs b_0_oldYs b_0_oldLabels b_0_names b_0_oldNames b_0_wanted b_0_common b_0_flatEdges b_0_upEdges b_0_isPoint b_0_stack b_0_pieceLines b_0_pieceBegins b_0_pieceEnds b_0_pieceLeft b_0_pieceRight b_0_outs b_0_isSeen b_0_ringSpaces b_0_ringStarts b_0_ringSizes b_0_ringLeast b_0_far cI 1 v_0_lines v_0_isFresh v_0_hasRun v_0_runs v_0_nx v_0_ny v_0_spaces v_0_oldNx v_0_oldNy v_0_oldSpaces v_0_points v_0_pieces v_0_rings v_0_outsideSides v_0_looseCount f_0_looseLines f_0_looseXs f_0_looseYs f_0_looseReaches) H := hP
        have hD : va_D A (wl_Mo_loose a_0 a_0_looseLines a_0_looseXs a_0_looseYs a_0_looseReaches b_0_isFlat b_0_across b_0_lows b_0_highs b_0_thick b_0_doorCounts b_0_doorFrom b_0_doorTo b_0_xs b_0_ys b_0_labels b_0_oldXs b_0_oldYs b_0_oldLabels b_0_names b_0_oldNames b_0_wanted b_0_common b_0_flatEdges b_0_upEdges b_0_isPoint b_0_stack b_0_pieceLines b_0_pieceBegins b_0_pieceEnds b_0_pieceLeft b_0_pieceRight b_0_outs b_0_isSeen b_0_ringSpaces b_0_ringStarts b_0_ringSizes b_0_ringLeast b_0_far cI 1 v_0_lines v_0_isFresh v_0_hasRun v_0_runs v_0_nx v_0_ny v_0_spaces v_0_oldNx v_0_oldNy v_0_oldSpaces v_0_points v_0_pieces v_0_rings v_0_outsideSides v_0_looseCount f_0_looseLines f_0_looseXs f_0_looseYs f_0_looseReaches) := hD
        refine lv_iconst (v := 0) hx hb d_Mo_loose_43 (by decide) ?_
        cases hm
        exact hret _ H locs ls d_Mo_loose_44 hP hD hS
    · replace hm := if_t hm c12
      refine lv_iconst (v := 0) hx hb d_Mo_loose_28 (by decide) ?_
      cases hm
      exact hret _ H locs ls d_Mo_loose_29 hP hD hS
  replace hm := hb2
  refine lv_if_lt (tgt := 21) hx hb d_Mo_loose_2 (by decide) (fun c5 => ?_) (fun c5 => ?_)
  · replace hm := if_t hm c5
    refine lv_iconst (v := 0) hx hb d_Mo_loose_21 (by decide) ?_
    cases hm
    exact K1 H locs ls hP hD hS (lv_sub hl [0, 1, 2] rfl)
  · replace hm := if_f hm c5
    refine lv_iload_n hx hb d_Mo_loose_5 rfl (lv_at hl 2 rfl) ?_
    refine lv_i2l hx hb d_Mo_loose_6 rfl ?_
    refine lv_lconst (v := 0) hx hb d_Mo_loose_7 (by decide) ?_
    refine lv_ldc2 (v := 3) hx hb hown (hts (.constantLong "SpaceCyclesModel" 308 3) (by decide +kernel)) d_Mo_loose_8 ?_
    obtain ⟨r6, hb7, hm⟩ := bd1_e hm
    have hPc := hP.sub (ws' := (wl_Mo_isIn)) [] rfl
    have hDc := hD.sub (ws' := (wl_Mo_isIn)) [] (by decide) rfl
    refine cl_i (wc' := (wl_Mo_isIn)) (va_runS (As := [.long (Int32.toInt64 p2), .long 0, .long 3]) (rest := [.ref a_0]) ⟨hx, hb, hml, hown, hts⟩ (c_Mo_isIn l dC dI (cI := cI) (cZ := cZ) (cJ := cJ) H.size (Int32.toInt64 p2) 0 3 r6 hb7) (va_cwS 3 hts (gl_S k_278 k_276 k_277 k_275) rfl rfl rfl (by decide +kernel) ⟨Nat.le_of_ble_eq_true rfl, Nat.le_of_ble_eq_true rfl⟩) ⟨PP_blind, fun U hU hW => PP_at hK hN hPc hDc hU hW⟩ rfl rfl hl.1 rfl (lv_room (Nat.le_of_ble_eq_true rfl)) d_Mo_loose_11 ⟨Nat.zero_le _, Nat.zero_le _⟩) hP hD hS hA [] [0, 1, 2, 3, 4] rfl rfl (by decide) (by decide) (fun H locs hP hD hS => ?_)
    have hP : va_P (dC, dI) vwCl (wl_Mo_loose a_0 a_0_looseLines a_0_looseXs a_0_looseYs a_0_looseReaches b_0_isFlat b_0_across b_0_lows b_0_highs b_0_thick b_0_doorCounts b_0_doorFrom b_0_doorTo b_0_xs b_0_ys b_0_labels b_0_oldXs b_0_oldYs b_0_oldLabels b_0_names b_0_oldNames b_0_wanted b_0_common b_0_flatEdges b_0_upEdges b_0_isPoint b_0_stack b_0_pieceLines b_0_pieceBegins b_0_pieceEnds b_0_pieceLeft b_0_pieceRight b_0_outs b_0_isSeen b_0_ringSpaces b_0_ringStarts b_0_ringSizes b_0_ringLeast b_0_far cI v_0_code v_0_lines v_0_isFresh v_0_hasRun v_0_runs v_0_nx v_0_ny v_0_spaces v_0_oldNx v_0_oldNy v_0_oldSpaces v_0_points v_0_pieces v_0_rings v_0_outsideSides v_0_looseCount f_0_looseLines f_0_looseXs f_0_looseYs f_0_looseReaches) H := hP.sub [0, 1, 2, 3, 4] rfl
    have hD : va_D A (wl_Mo_loose a_0 a_0_looseLines a_0_looseXs a_0_looseYs a_0_looseReaches b_0_isFlat b_0_across b_0_lows b_0_highs b_0_thick b_0_doorCounts b_0_doorFrom b_0_doorTo b_0_xs b_0_ys b_0_labels b_0_oldXs b_0_oldYs b_0_oldLabels b_0_names b_0_oldNames b_0_wanted b_0_common b_0_flatEdges b_0_upEdges b_0_isPoint b_0_stack b_0_pieceLines b_0_pieceBegins b_0_pieceEnds b_0_pieceLeft b_0_pieceRight b_0_outs b_0_isSeen b_0_ringSpaces b_0_ringStarts b_0_ringSizes b_0_ringLeast b_0_far cI v_0_code v_0_lines v_0_isFresh v_0_hasRun v_0_runs v_0_nx v_0_ny v_0_spaces v_0_oldNx v_0_oldNy v_0_oldSpaces v_0_points v_0_pieces v_0_rings v_0_outsideSides v_0_looseCount f_0_looseLines f_0_looseXs f_0_looseYs f_0_looseReaches) := hD.sub [0, 1, 2, 3, 4] (by decide) rfl
    refine lv_if_eq (tgt := 21) hx hb d_Mo_loose_14 (by decide) (fun c8 => ?_) (fun c8 => ?_)
    · replace hm := if_t hm c8
      refine lv_iconst (v := 0) hx hb d_Mo_loose_21 (by decide) ?_
      cases hm
      exact K1 H locs ls hP hD hS (lv_sub hl [0, 1, 2] rfl)
    · replace hm := if_f hm c8
      refine lv_iconst (v := 1) hx hb d_Mo_loose_17 (by decide) ?_
      refine lv_goto (tgt := 22) hx hb d_Mo_loose_18 (by decide) ?_
      cases hm
      exact K1 H locs ls hP hD hS (lv_sub hl [0, 1, 2] rfl)
set_option maxHeartbeats 4000000 in
set_option maxRecDepth 100000 in
theorem c_Mo_loose (l : Launch) (dC : Nat → ClassId) (dI : Nat → Nat → Nat) {cI cZ cJ : ClassId} (a_0 a_0_looseLines a_0_looseXs a_0_looseYs a_0_looseReaches b_0_isFlat b_0_across b_0_lows b_0_highs b_0_thick b_0_doorCounts b_0_doorFrom b_0_doorTo b_0_xs b_0_ys b_0_labels b_0_oldXs b_0_oldYs b_0_oldLabels b_0_names b_0_oldNames b_0_wanted b_0_common b_0_flatEdges b_0_upEdges b_0_isPoint b_0_stack b_0_pieceLines b_0_pieceBegins b_0_pieceEnds b_0_pieceLeft b_0_pieceRight b_0_outs b_0_isSeen b_0_ringSpaces b_0_ringStarts b_0_ringSizes b_0_ringLeast b_0_far : Nat) (sz : Nat) (v_0_code : Int32) (v_0_lines : Int32) (v_0_isFresh : Int32) (v_0_hasRun : Int32) (v_0_runs : Int32) (v_0_nx : Int32) (v_0_ny : Int32) (v_0_spaces : Int32) (v_0_oldNx : Int32) (v_0_oldNy : Int32) (v_0_oldSpaces : Int32) (v_0_points : Int32) (v_0_pieces : Int32) (v_0_rings : Int32) (v_0_outsideSides : Int32) (v_0_looseCount : Int32) (f_0_looseLines : Nat → Int32) (f_0_looseXs : Nat → Int32) (f_0_looseYs : Nat → Int32) (f_0_looseReaches : Nat → Int32) (p1 : Int32) (p2 : Int32) (R0 : Int32) (ov_0_code : Int32) (hm : m_Mo_loose p1 p2 v_0_code v_0_isFresh v_0_looseCount f_0_looseLines f_0_looseXs f_0_looseYs f_0_looseReaches = some (R0, ov_0_code)) : Met l y_Mo_loose w_Mo_loose rm_Mo_loose (PP dC dI [(cI, .int), (cZ, .boolean), (cJ, .long)] [.ref a_0, .int p1, .int p2] sz (wl_Mo_loose a_0 a_0_looseLines a_0_looseXs a_0_looseYs a_0_looseReaches b_0_isFlat b_0_across b_0_lows b_0_highs b_0_thick b_0_doorCounts b_0_doorFrom b_0_doorTo b_0_xs b_0_ys b_0_labels b_0_oldXs b_0_oldYs b_0_oldLabels b_0_names b_0_oldNames b_0_wanted b_0_common b_0_flatEdges b_0_upEdges b_0_isPoint b_0_stack b_0_pieceLines b_0_pieceBegins b_0_pieceEnds b_0_pieceLeft b_0_pieceRight b_0_outs b_0_isSeen b_0_ringSpaces b_0_ringStarts b_0_ringSizes b_0_ringLeast b_0_far cI v_0_code v_0_lines v_0_isFresh v_0_hasRun v_0_runs v_0_nx v_0_ny v_0_spaces v_0_oldNx v_0_oldNy v_0_oldSpaces v_0_points v_0_pieces v_0_rings v_0_outsideSides v_0_looseCount f_0_looseLines f_0_looseXs f_0_looseYs f_0_looseReaches)) (QI dC dI [(cI, .int), (cZ, .boolean), (cJ, .long)] sz (wl_Mo_loose a_0 a_0_looseLines a_0_looseXs a_0_looseYs a_0_looseReaches b_0_isFlat b_0_across b_0_lows b_0_highs b_0_thick b_0_doorCounts b_0_doorFrom b_0_doorTo b_0_xs b_0_ys b_0_labels b_0_oldXs b_0_oldYs b_0_oldLabels b_0_names b_0_oldNames b_0_wanted b_0_common b_0_flatEdges b_0_upEdges b_0_isPoint b_0_stack b_0_pieceLines b_0_pieceBegins b_0_pieceEnds b_0_pieceLeft b_0_pieceRight b_0_outs b_0_isSeen b_0_ringSpaces b_0_ringStarts b_0_ringSizes b_0_ringLeast b_0_far cI v_0_code v_0_lines v_0_isFresh v_0_hasRun v_0_runs v_0_nx v_0_ny v_0_spaces v_0_oldNx v_0_oldNy v_0_oldSpaces v_0_points v_0_pieces v_0_rings v_0_outsideSides v_0_looseCount f_0_looseLines f_0_looseXs f_0_looseYs f_0_looseReaches) (wl_Mo_loose a_0 a_0_looseLines a_0_looseXs a_0_looseYs a_0_looseReaches b_0_isFlat b_0_across b_0_lows b_0_highs b_0_thick b_0_doorCounts b_0_doorFrom b_0_doorTo b_0_xs b_0_ys b_0_labels b_0_oldXs b_0_oldYs b_0_oldLabels b_0_names b_0_oldNames b_0_wanted b_0_common b_0_flatEdges b_0_upEdges b_0_isPoint b_0_stack b_0_pieceLines b_0_pieceBegins b_0_pieceEnds b_0_pieceLeft b_0_pieceRight b_0_outs b_0_isSeen b_0_ringSpaces b_0_ringStarts b_0_ringSizes b_0_ringLeast b_0_far cI ov_0_code v_0_lines v_0_isFresh v_0_hasRun v_0_runs v_0_nx v_0_ny v_0_spaces v_0_oldNx v_0_oldNy v_0_oldSpaces v_0_points v_0_pieces v_0_rings v_0_outsideSides v_0_looseCount f_0_looseLines f_0_looseXs f_0_looseYs f_0_looseReaches) R0) 0 0 (va_A (wl_Mo_loose a_0 a_0_looseLines a_0_looseXs a_0_looseYs a_0_looseReaches b_0_isFlat b_0_across b_0_lows b_0_highs b_0_thick b_0_doorCounts b_0_doorFrom b_0_doorTo b_0_xs b_0_ys b_0_labels b_0_oldXs b_0_oldYs b_0_oldLabels b_0_names b_0_oldNames b_0_wanted b_0_common b_0_flatEdges b_0_upEdges b_0_isPoint b_0_stack b_0_pieceLines b_0_pieceBegins b_0_pieceEnds b_0_pieceLeft b_0_pieceRight b_0_outs b_0_isSeen b_0_ringSpaces b_0_ringStarts b_0_ringSizes b_0_ringLeast b_0_far cI v_0_code v_0_lines v_0_isFresh v_0_hasRun v_0_runs v_0_nx v_0_ny v_0_spaces v_0_oldNx v_0_oldNy v_0_oldSpaces v_0_points v_0_pieces v_0_rings v_0_outsideSides v_0_looseCount f_0_looseLines f_0_looseXs f_0_looseYs f_0_looseReaches) sz) := by
  refine Met.ofW (cc := b_Mo_loose) (maxL := 3) (ret := (some .int)) (by decide) rfl ?_
  intro p e s m args below meth c s₁ B hml hv
  obtain ⟨rfl, hsz, hP, hK, hD0, hN⟩ := hv
  subst hsz
  have hl := lv_entry ([.ref a_0, .int p1, .int p2]) (n := 3) (Nat.le_of_ble_eq_true rfl)
  rw [lg_entry_eq]
  generalize (lg_sl ([.ref a_0, .int p1, .int p2]) ++ List.replicate (3 - (lg_sl ([.ref a_0, .int p1, .int p2])).length) Slot.unset).toArray = ls at hl ⊢
  exact t_Mo_loose a_0 a_0_looseLines a_0_looseXs a_0_looseYs a_0_looseReaches b_0_isFlat b_0_across b_0_lows b_0_highs b_0_thick b_0_doorCounts b_0_doorFrom b_0_doorTo b_0_xs b_0_ys b_0_labels b_0_oldXs b_0_oldYs b_0_oldLabels b_0_names b_0_oldNames b_0_wanted b_0_common b_0_flatEdges b_0_upEdges b_0_isPoint b_0_stack b_0_pieceLines b_0_pieceBegins b_0_pieceEnds b_0_pieceLeft b_0_pieceRight b_0_outs b_0_isSeen b_0_ringSpaces b_0_ringStarts b_0_ringSizes b_0_ringLeast b_0_far v_0_code v_0_lines v_0_isFresh v_0_hasRun v_0_runs v_0_nx v_0_ny v_0_spaces v_0_oldNx v_0_oldNy v_0_oldSpaces v_0_points v_0_pieces v_0_rings v_0_outsideSides v_0_looseCount f_0_looseLines f_0_looseXs f_0_looseYs f_0_looseReaches p1 p2 R0 ov_0_code B.exec B.bytes hml (findClass_of_methodNamed B.named) (atoms_spec (ws := w_Mo_loose) B.pre) hK hN (fun q h => Or.inr h) (fun pc H locs ls hd hP9 hD9 hS => W.iret B.exec B.bytes B.returns (fun t ht hW => ⟨⟨_, (), rfl, rfl, by rw [ht]; exact hP9, va_K.moved hW.alike hK, hD9⟩, hS.F ht⟩) hS.2.2 hd) hm s.heap [] ls hP hD0.self va_S.rf hl

-- SpaceCyclesModel.name(II)I
abbrev b_Mo_name : ByteArray := prog_13_method_52_code
abbrev y_Mo_name : MethodName := ⟨"SpaceCyclesModel", "name", "(II)I"⟩
abbrev w_Mo_name : List Cond := Cond.code y_Mo_name b_Mo_name 4 (some .int) :: gl
abbrev rm_Mo_name : Room := { frames := 2, cells := 0, slots := 0, locals := 46 }
theorem d_Mo_name_0 : decode b_Mo_name 0 = .ok (.aload_n 0, 1) := by decide +kernel
theorem d_Mo_name_1 : decode b_Mo_name 1 = .ok (.aload_n 0, 1) := by decide +kernel
theorem d_Mo_name_2 : decode b_Mo_name 2 = .ok (.iload_n 1, 1) := by decide +kernel
theorem d_Mo_name_3 : decode b_Mo_name 3 = .ok (.invokevirtual 275, 3) := by decide +kernel
theorem d_Mo_name_6 : decode b_Mo_name 6 = .ok (.ifCond .eq 19, 3) := by decide +kernel
theorem d_Mo_name_9 : decode b_Mo_name 9 = .ok (.iload_n 2, 1) := by decide +kernel
theorem d_Mo_name_10 : decode b_Mo_name 10 = .ok (.i2l, 1) := by decide +kernel
theorem d_Mo_name_11 : decode b_Mo_name 11 = .ok (.lconst 0, 1) := by decide +kernel
theorem d_Mo_name_12 : decode b_Mo_name 12 = .ok (.ldc2_w 310, 3) := by decide +kernel
theorem d_Mo_name_15 : decode b_Mo_name 15 = .ok (.invokestatic 133, 3) := by decide +kernel
theorem d_Mo_name_18 : decode b_Mo_name 18 = .ok (.ifCond .eq 7, 3) := by decide +kernel
theorem d_Mo_name_21 : decode b_Mo_name 21 = .ok (.iconst 1, 1) := by decide +kernel
theorem d_Mo_name_22 : decode b_Mo_name 22 = .ok (.goto 4, 3) := by decide +kernel
theorem d_Mo_name_25 : decode b_Mo_name 25 = .ok (.iconst 0, 1) := by decide +kernel
theorem d_Mo_name_26 : decode b_Mo_name 26 = .ok (.invokevirtual 271, 3) := by decide +kernel
theorem d_Mo_name_29 : decode b_Mo_name 29 = .ok (.ifCond .ne 5, 3) := by decide +kernel
theorem d_Mo_name_32 : decode b_Mo_name 32 = .ok (.iconst 0, 1) := by decide +kernel
theorem d_Mo_name_33 : decode b_Mo_name 33 = .ok (.ireturn, 1) := by decide +kernel
theorem d_Mo_name_34 : decode b_Mo_name 34 = .ok (.aload_n 0, 1) := by decide +kernel
theorem d_Mo_name_35 : decode b_Mo_name 35 = .ok (.getfield 53, 3) := by decide +kernel
theorem d_Mo_name_38 : decode b_Mo_name 38 = .ok (.iload_n 1, 1) := by decide +kernel
theorem d_Mo_name_39 : decode b_Mo_name 39 = .ok (.iaload, 1) := by decide +kernel
theorem d_Mo_name_40 : decode b_Mo_name 40 = .ok (.istore_n 3, 1) := by decide +kernel
theorem d_Mo_name_41 : decode b_Mo_name 41 = .ok (.aload_n 0, 1) := by decide +kernel
theorem d_Mo_name_42 : decode b_Mo_name 42 = .ok (.getfield 53, 3) := by decide +kernel
theorem d_Mo_name_45 : decode b_Mo_name 45 = .ok (.iload_n 1, 1) := by decide +kernel
theorem d_Mo_name_46 : decode b_Mo_name 46 = .ok (.iload_n 2, 1) := by decide +kernel
theorem d_Mo_name_47 : decode b_Mo_name 47 = .ok (.iastore, 1) := by decide +kernel
theorem d_Mo_name_48 : decode b_Mo_name 48 = .ok (.iload_n 3, 1) := by decide +kernel
theorem d_Mo_name_49 : decode b_Mo_name 49 = .ok (.ireturn, 1) := by decide +kernel
abbrev wl_Mo_name (a_0 : Nat) (a_0_names : Nat) (b_0_isFlat : Nat) (b_0_across : Nat) (b_0_lows : Nat) (b_0_highs : Nat) (b_0_thick : Nat) (b_0_doorCounts : Nat) (b_0_doorFrom : Nat) (b_0_doorTo : Nat) (b_0_xs : Nat) (b_0_ys : Nat) (b_0_labels : Nat) (b_0_oldXs : Nat) (b_0_oldYs : Nat) (b_0_oldLabels : Nat) (b_0_oldNames : Nat) (b_0_wanted : Nat) (b_0_common : Nat) (b_0_flatEdges : Nat) (b_0_upEdges : Nat) (b_0_isPoint : Nat) (b_0_stack : Nat) (b_0_pieceLines : Nat) (b_0_pieceBegins : Nat) (b_0_pieceEnds : Nat) (b_0_pieceLeft : Nat) (b_0_pieceRight : Nat) (b_0_outs : Nat) (b_0_isSeen : Nat) (b_0_ringSpaces : Nat) (b_0_ringStarts : Nat) (b_0_ringSizes : Nat) (b_0_ringLeast : Nat) (b_0_looseLines : Nat) (b_0_looseXs : Nat) (b_0_looseYs : Nat) (b_0_looseReaches : Nat) (b_0_far : Nat) (cI : ClassId) (v_0_code : Int32) (v_0_lines : Int32) (v_0_isFresh : Int32) (v_0_hasRun : Int32) (v_0_runs : Int32) (v_0_nx : Int32) (v_0_ny : Int32) (v_0_spaces : Int32) (v_0_oldNx : Int32) (v_0_oldNy : Int32) (v_0_oldSpaces : Int32) (v_0_points : Int32) (v_0_pieces : Int32) (v_0_rings : Int32) (v_0_outsideSides : Int32) (v_0_looseCount : Int32) (f_0_names : Nat → Int32) : va_W := [(a_0, .inr (11, [.int v_0_code, .ref b_0_isFlat, .ref b_0_across, .ref b_0_lows, .ref b_0_highs, .ref b_0_thick, .int v_0_lines, .ref b_0_doorCounts, .ref b_0_doorFrom, .ref b_0_doorTo, .int v_0_isFresh, .int v_0_hasRun, .int v_0_runs, .ref b_0_xs, .ref b_0_ys, .int v_0_nx, .int v_0_ny, .ref b_0_labels, .int v_0_spaces, .ref b_0_oldXs, .ref b_0_oldYs, .int v_0_oldNx, .int v_0_oldNy, .ref b_0_oldLabels, .int v_0_oldSpaces, .ref a_0_names, .ref b_0_oldNames, .ref b_0_wanted, .ref b_0_common, .ref b_0_flatEdges, .ref b_0_upEdges, .ref b_0_isPoint, .int v_0_points, .ref b_0_stack, .ref b_0_pieceLines, .ref b_0_pieceBegins, .ref b_0_pieceEnds, .ref b_0_pieceLeft, .ref b_0_pieceRight, .int v_0_pieces, .ref b_0_outs, .ref b_0_isSeen, .ref b_0_ringSpaces, .ref b_0_ringStarts, .ref b_0_ringSizes, .ref b_0_ringLeast, .int v_0_rings, .int v_0_outsideSides, .ref b_0_looseLines, .ref b_0_looseXs, .ref b_0_looseYs, .ref b_0_looseReaches, .int v_0_looseCount, .ref b_0_far])), (a_0_names, .inl (cI, 200, .inl f_0_names))]
def m_Mo_name (p1 : Int32) (p2 : Int32) (v_0_code : Int32) (v_0_isFresh : Int32) (v_0_spaces : Int32) (f_0_names : Nat → Int32) : Option (Int32 × (Int32) × (Nat → Int32)) :=
  bd1 (m_Mo_isSpace p1 v_0_spaces) fun r1 =>
  bd1 (
    if r1 = 0 then (
    some 0)
  else (
    bd1 (m_Mo_isIn (Int32.toInt64 p2) 0 1000) fun r8 =>
    if r8 = 0 then (
      some 0)
    else (
      some 1)))
  fun (x6 : Int32) =>
  bd2 (m_Mo_goes x6 v_0_code v_0_isFresh) fun r11 x12 =>
    if r11 = 0 then (
      some (0, x12, f_0_names))
    else (
      gI p1 200 <|
      lt_ (f_0_names p1.toNatClampNeg) fun x16 =>
      gI p1 200 <|
      lt_ (upd f_0_names p1.toNatClampNeg p2) fun f18 =>
      some (x16, x12, f18))

set_option maxHeartbeats 4000000 in
set_option maxRecDepth 100000 in
theorem t_Mo_name {p : Program} {l : Launch} {e : Env} {s : State} {m : MethodId} {args : Array Value} {below : List Frame} {meth : Method} {c : Code} {A : Nat → Prop} {Q : State → Prop} {dC : Nat → ClassId} {dI : Nat → Nat → Nat} {cI cZ cJ : ClassId} (a_0 a_0_names b_0_isFlat b_0_across b_0_lows b_0_highs b_0_thick b_0_doorCounts b_0_doorFrom b_0_doorTo b_0_xs b_0_ys b_0_labels b_0_oldXs b_0_oldYs b_0_oldLabels b_0_oldNames b_0_wanted b_0_common b_0_flatEdges b_0_upEdges b_0_isPoint b_0_stack b_0_pieceLines b_0_pieceBegins b_0_pieceEnds b_0_pieceLeft b_0_pieceRight b_0_outs b_0_isSeen b_0_ringSpaces b_0_ringStarts b_0_ringSizes b_0_ringLeast b_0_looseLines b_0_looseXs b_0_looseYs b_0_looseReaches b_0_far : Nat) (v_0_code : Int32) (v_0_lines : Int32) (v_0_isFresh : Int32) (v_0_hasRun : Int32) (v_0_runs : Int32) (v_0_nx : Int32) (v_0_ny : Int32) (v_0_spaces : Int32) (v_0_oldNx : Int32) (v_0_oldNy : Int32) (v_0_oldSpaces : Int32) (v_0_points : Int32) (v_0_pieces : Int32) (v_0_rings : Int32) (v_0_outsideSides : Int32) (v_0_looseCount : Int32) (f_0_names : Nat → Int32) (p1 : Int32) (p2 : Int32) (R0 : Int32) (ov_0_code : Int32) (of_0_names : Nat → Int32) (hx : p.tables.exec = Jvm.exec) (hb : c.code = b_Mo_name) (hml : c.maxLocals = 4) (hown : s.vm.findClass "SpaceCyclesModel" = some m.cls) (hts : ∀ w ∈ w_Mo_name, w.before args s = true) (hK : va_K (dC, dI) vwCl [(cI, .int), (cZ, .boolean), (cJ, .long)] s) (hN : NX s) (hA : ∀ q : Nat, s.heap.size ≤ q → A q)
    (hret : ∀ (pc : Nat) (H : Heap) (locs : List Loc) (ls : Array Slot), decode b_Mo_name pc = .ok (.ireturn, 1) → va_P (dC, dI) vwCl (wl_Mo_name a_0 a_0_names b_0_isFlat b_0_across b_0_lows b_0_highs b_0_thick b_0_doorCounts b_0_doorFrom b_0_doorTo b_0_xs b_0_ys b_0_labels b_0_oldXs b_0_oldYs b_0_oldLabels b_0_oldNames b_0_wanted b_0_common b_0_flatEdges b_0_upEdges b_0_isPoint b_0_stack b_0_pieceLines b_0_pieceBegins b_0_pieceEnds b_0_pieceLeft b_0_pieceRight b_0_outs b_0_isSeen b_0_ringSpaces b_0_ringStarts b_0_ringSizes b_0_ringLeast b_0_looseLines b_0_looseXs b_0_looseYs b_0_looseReaches b_0_far cI ov_0_code v_0_lines v_0_isFresh v_0_hasRun v_0_runs v_0_nx v_0_ny v_0_spaces v_0_oldNx v_0_oldNy v_0_oldSpaces v_0_points v_0_pieces v_0_rings v_0_outsideSides v_0_looseCount of_0_names) H → va_D A (wl_Mo_name a_0 a_0_names b_0_isFlat b_0_across b_0_lows b_0_highs b_0_thick b_0_doorCounts b_0_doorFrom b_0_doorTo b_0_xs b_0_ys b_0_labels b_0_oldXs b_0_oldYs b_0_oldLabels b_0_oldNames b_0_wanted b_0_common b_0_flatEdges b_0_upEdges b_0_isPoint b_0_stack b_0_pieceLines b_0_pieceBegins b_0_pieceEnds b_0_pieceLeft b_0_pieceRight b_0_outs b_0_isSeen b_0_ringSpaces b_0_ringStarts b_0_ringSizes b_0_ringLeast b_0_looseLines b_0_looseXs b_0_looseYs b_0_looseReaches b_0_far cI ov_0_code v_0_lines v_0_isFresh v_0_hasRun v_0_runs v_0_nx v_0_ny v_0_spaces v_0_oldNx v_0_oldNy v_0_oldSpaces v_0_points v_0_pieces v_0_rings v_0_outsideSides v_0_looseCount of_0_names) → va_S A s.heap H locs → W p l e rm_Mo_name s m args below meth c H locs 0 0 Q (F0 m pc ls [.int R0]))
    (hm : m_Mo_name p1 p2 v_0_code v_0_isFresh v_0_spaces f_0_names = some (R0, ov_0_code, of_0_names)) : ∀ (H : Heap) (locs : List Loc) (ls : Array Slot), va_P (dC, dI) vwCl (wl_Mo_name a_0 a_0_names b_0_isFlat b_0_across b_0_lows b_0_highs b_0_thick b_0_doorCounts b_0_doorFrom b_0_doorTo b_0_xs b_0_ys b_0_labels b_0_oldXs b_0_oldYs b_0_oldLabels b_0_oldNames b_0_wanted b_0_common b_0_flatEdges b_0_upEdges b_0_isPoint b_0_stack b_0_pieceLines b_0_pieceBegins b_0_pieceEnds b_0_pieceLeft b_0_pieceRight b_0_outs b_0_isSeen b_0_ringSpaces b_0_ringStarts b_0_ringSizes b_0_ringLeast b_0_looseLines b_0_looseXs b_0_looseYs b_0_looseReaches b_0_far cI v_0_code v_0_lines v_0_isFresh v_0_hasRun v_0_runs v_0_nx v_0_ny v_0_spaces v_0_oldNx v_0_oldNy v_0_oldSpaces v_0_points v_0_pieces v_0_rings v_0_outsideSides v_0_looseCount f_0_names) H → va_D A (wl_Mo_name a_0 a_0_names b_0_isFlat b_0_across b_0_lows b_0_highs b_0_thick b_0_doorCounts b_0_doorFrom b_0_doorTo b_0_xs b_0_ys b_0_labels b_0_oldXs b_0_oldYs b_0_oldLabels b_0_oldNames b_0_wanted b_0_common b_0_flatEdges b_0_upEdges b_0_isPoint b_0_stack b_0_pieceLines b_0_pieceBegins b_0_pieceEnds b_0_pieceLeft b_0_pieceRight b_0_outs b_0_isSeen b_0_ringSpaces b_0_ringStarts b_0_ringSizes b_0_ringLeast b_0_looseLines b_0_looseXs b_0_looseYs b_0_looseReaches b_0_far cI v_0_code v_0_lines v_0_isFresh v_0_hasRun v_0_runs v_0_nx v_0_ny v_0_spaces v_0_oldNx v_0_oldNy v_0_oldSpaces v_0_points v_0_pieces v_0_rings v_0_outsideSides v_0_looseCount f_0_names) → va_S A s.heap H locs → lv_has ls 4 [(0, .ref a_0), (1, .int p1), (2, .int p2)] → W p l e rm_Mo_name s m args below meth c H locs 0 0 Q (F0 m 0 ls []) := by
  intro H locs ls hP hD hS hl
  unfold m_Mo_name at hm
  refine lv_aload_n hx hb d_Mo_name_0 rfl (lv_at hl 0 rfl) ?_
  refine lv_aload_n hx hb d_Mo_name_1 rfl (lv_at hl 0 rfl) ?_
  refine lv_iload_n hx hb d_Mo_name_2 rfl (lv_at hl 1 rfl) ?_
  obtain ⟨r1, hb2, hm⟩ := bd1_e hm
  have hPc := hP.sub (ws' := (wl_Mo_isSpace a_0 b_0_isFlat b_0_across b_0_lows b_0_highs b_0_thick b_0_doorCounts b_0_doorFrom b_0_doorTo b_0_xs b_0_ys b_0_labels b_0_oldXs b_0_oldYs b_0_oldLabels a_0_names b_0_oldNames b_0_wanted b_0_common b_0_flatEdges b_0_upEdges b_0_isPoint b_0_stack b_0_pieceLines b_0_pieceBegins b_0_pieceEnds b_0_pieceLeft b_0_pieceRight b_0_outs b_0_isSeen b_0_ringSpaces b_0_ringStarts b_0_ringSizes b_0_ringLeast b_0_looseLines b_0_looseXs b_0_looseYs b_0_looseReaches b_0_far v_0_code v_0_lines v_0_isFresh v_0_hasRun v_0_runs v_0_nx v_0_ny v_0_spaces v_0_oldNx v_0_oldNy v_0_oldSpaces v_0_points v_0_pieces v_0_rings v_0_outsideSides v_0_looseCount)) [0] rfl
  have hDc := hD.sub (ws' := (wl_Mo_isSpace a_0 b_0_isFlat b_0_across b_0_lows b_0_highs b_0_thick b_0_doorCounts b_0_doorFrom b_0_doorTo b_0_xs b_0_ys b_0_labels b_0_oldXs b_0_oldYs b_0_oldLabels a_0_names b_0_oldNames b_0_wanted b_0_common b_0_flatEdges b_0_upEdges b_0_isPoint b_0_stack b_0_pieceLines b_0_pieceBegins b_0_pieceEnds b_0_pieceLeft b_0_pieceRight b_0_outs b_0_isSeen b_0_ringSpaces b_0_ringStarts b_0_ringSizes b_0_ringLeast b_0_looseLines b_0_looseXs b_0_looseYs b_0_looseReaches b_0_far v_0_code v_0_lines v_0_isFresh v_0_hasRun v_0_runs v_0_nx v_0_ny v_0_spaces v_0_oldNx v_0_oldNy v_0_oldSpaces v_0_points v_0_pieces v_0_rings v_0_outsideSides v_0_looseCount)) [0] (by decide) rfl
  refine cl_i (wc' := (wl_Mo_isSpace a_0 b_0_isFlat b_0_across b_0_lows b_0_highs b_0_thick b_0_doorCounts b_0_doorFrom b_0_doorTo b_0_xs b_0_ys b_0_labels b_0_oldXs b_0_oldYs b_0_oldLabels a_0_names b_0_oldNames b_0_wanted b_0_common b_0_flatEdges b_0_upEdges b_0_isPoint b_0_stack b_0_pieceLines b_0_pieceBegins b_0_pieceEnds b_0_pieceLeft b_0_pieceRight b_0_outs b_0_isSeen b_0_ringSpaces b_0_ringStarts b_0_ringSizes b_0_ringLeast b_0_looseLines b_0_looseXs b_0_looseYs b_0_looseReaches b_0_far v_0_code v_0_lines v_0_isFresh v_0_hasRun v_0_runs v_0_nx v_0_ny v_0_spaces v_0_oldNx v_0_oldNy v_0_oldSpaces v_0_points v_0_pieces v_0_rings v_0_outsideSides v_0_looseCount)) (va_runV (As := [.int p1]) (rest := [.ref a_0]) ⟨hx, hb, hml, hown, hts⟩ (c_Mo_isSpace l dC dI (cI := cI) (cZ := cZ) (cJ := cJ) a_0 b_0_isFlat b_0_across b_0_lows b_0_highs b_0_thick b_0_doorCounts b_0_doorFrom b_0_doorTo b_0_xs b_0_ys b_0_labels b_0_oldXs b_0_oldYs b_0_oldLabels a_0_names b_0_oldNames b_0_wanted b_0_common b_0_flatEdges b_0_upEdges b_0_isPoint b_0_stack b_0_pieceLines b_0_pieceBegins b_0_pieceEnds b_0_pieceLeft b_0_pieceRight b_0_outs b_0_isSeen b_0_ringSpaces b_0_ringStarts b_0_ringSizes b_0_ringLeast b_0_looseLines b_0_looseXs b_0_looseYs b_0_looseReaches b_0_far H.size v_0_code v_0_lines v_0_isFresh v_0_hasRun v_0_runs v_0_nx v_0_ny v_0_spaces v_0_oldNx v_0_oldNy v_0_oldSpaces v_0_points v_0_pieces v_0_rings v_0_outsideSides v_0_looseCount p1 r1 hb2) (cwV 1 hts (gl_V k_430 k_429 k_428 k_277 k_427) rfl rfl rfl (by decide +kernel) ⟨Nat.le_of_ble_eq_true rfl, Nat.le_of_ble_eq_true rfl⟩) ⟨PP_blind, va_recv hK hPc (ci := 11) (q0 := 0) rfl rfl, fun U hU hW => PP_at hK hN hPc hDc hU hW⟩ rfl rfl hl.1 rfl (lv_room (Nat.le_of_ble_eq_true rfl)) d_Mo_name_3 ⟨Nat.zero_le _, Nat.zero_le _⟩) hP hD hS hA [0] [1] rfl rfl (by decide) (by decide) (fun H locs hP hD hS => ?_)
  have hP : va_P (dC, dI) vwCl (wl_Mo_name a_0 a_0_names b_0_isFlat b_0_across b_0_lows b_0_highs b_0_thick b_0_doorCounts b_0_doorFrom b_0_doorTo b_0_xs b_0_ys b_0_labels b_0_oldXs b_0_oldYs b_0_oldLabels b_0_oldNames b_0_wanted b_0_common b_0_flatEdges b_0_upEdges b_0_isPoint b_0_stack b_0_pieceLines b_0_pieceBegins b_0_pieceEnds b_0_pieceLeft b_0_pieceRight b_0_outs b_0_isSeen b_0_ringSpaces b_0_ringStarts b_0_ringSizes b_0_ringLeast b_0_looseLines b_0_looseXs b_0_looseYs b_0_looseReaches b_0_far cI v_0_code v_0_lines v_0_isFresh v_0_hasRun v_0_runs v_0_nx v_0_ny v_0_spaces v_0_oldNx v_0_oldNy v_0_oldSpaces v_0_points v_0_pieces v_0_rings v_0_outsideSides v_0_looseCount f_0_names) H := hP.sub [1, 0] rfl
  have hD : va_D A (wl_Mo_name a_0 a_0_names b_0_isFlat b_0_across b_0_lows b_0_highs b_0_thick b_0_doorCounts b_0_doorFrom b_0_doorTo b_0_xs b_0_ys b_0_labels b_0_oldXs b_0_oldYs b_0_oldLabels b_0_oldNames b_0_wanted b_0_common b_0_flatEdges b_0_upEdges b_0_isPoint b_0_stack b_0_pieceLines b_0_pieceBegins b_0_pieceEnds b_0_pieceLeft b_0_pieceRight b_0_outs b_0_isSeen b_0_ringSpaces b_0_ringStarts b_0_ringSizes b_0_ringLeast b_0_looseLines b_0_looseXs b_0_looseYs b_0_looseReaches b_0_far cI v_0_code v_0_lines v_0_isFresh v_0_hasRun v_0_runs v_0_nx v_0_ny v_0_spaces v_0_oldNx v_0_oldNy v_0_oldSpaces v_0_points v_0_pieces v_0_rings v_0_outsideSides v_0_looseCount f_0_names) := hD.sub [1, 0] (by decide) rfl
  obtain ⟨x6, hb4, hm⟩ := bd1_e hm
  have K3 : ∀ (H : Heap) (locs : List Loc) (ls : Array Slot), va_P (dC, dI) vwCl (wl_Mo_name a_0 a_0_names b_0_isFlat b_0_across b_0_lows b_0_highs b_0_thick b_0_doorCounts b_0_doorFrom b_0_doorTo b_0_xs b_0_ys b_0_labels b_0_oldXs b_0_oldYs b_0_oldLabels b_0_oldNames b_0_wanted b_0_common b_0_flatEdges b_0_upEdges b_0_isPoint b_0_stack b_0_pieceLines b_0_pieceBegins b_0_pieceEnds b_0_pieceLeft b_0_pieceRight b_0_outs b_0_isSeen b_0_ringSpaces b_0_ringStarts b_0_ringSizes b_0_ringLeast b_0_looseLines b_0_looseXs b_0_looseYs b_0_looseReaches b_0_far cI v_0_code v_0_lines v_0_isFresh v_0_hasRun v_0_runs v_0_nx v_0_ny v_0_spaces v_0_oldNx v_0_oldNy v_0_oldSpaces v_0_points v_0_pieces v_0_rings v_0_outsideSides v_0_looseCount f_0_names) H → va_D A (wl_Mo_name a_0 a_0_names b_0_isFlat b_0_across b_0_lows b_0_highs b_0_thick b_0_doorCounts b_0_doorFrom b_0_doorTo b_0_xs b_0_ys b_0_labels b_0_oldXs b_0_oldYs b_0_oldLabels b_0_oldNames b_0_wanted b_0_common b_0_flatEdges b_0_upEdges b_0_isPoint b_0_stack b_0_pieceLines b_0_pieceBegins b_0_pieceEnds b_0_pieceLeft b_0_pieceRight b_0_outs b_0_isSeen b_0_ringSpaces b_0_ringStarts b_0_ringSizes b_0_ringLeast b_0_looseLines b_0_looseXs b_0_looseYs b_0_looseReaches b_0_far cI v_0_code v_0_lines v_0_isFresh v_0_hasRun v_0_runs v_0_nx v_0_ny v_0_spaces v_0_oldNx v_0_oldNy v_0_oldSpaces v_0_points v_0_pieces v_0_rings v_0_outsideSides v_0_looseCount f_0_names) → va_S A s.heap H locs → lv_has ls 4 [(0, .ref a_0), (1, .int p1), (2, .int p2)] → W p l e rm_Mo_name s m args below meth c H locs 0 0 Q (F0 m 26 ls [.int x6, .ref a_0]) := by
    intro H locs ls hP hD hS hl
    obtain ⟨r11, x12, hb13, hm⟩ := bd2_e hm
    have hPc := hP.sub (ws' := (wl_Mo_goes a_0 b_0_isFlat b_0_across b_0_lows b_0_highs b_0_thick b_0_doorCounts b_0_doorFrom b_0_doorTo b_0_xs b_0_ys b_0_labels b_0_oldXs b_0_oldYs b_0_oldLabels a_0_names b_0_oldNames b_0_wanted b_0_common b_0_flatEdges b_0_upEdges b_0_isPoint b_0_stack b_0_pieceLines b_0_pieceBegins b_0_pieceEnds b_0_pieceLeft b_0_pieceRight b_0_outs b_0_isSeen b_0_ringSpaces b_0_ringStarts b_0_ringSizes b_0_ringLeast b_0_looseLines b_0_looseXs b_0_looseYs b_0_looseReaches b_0_far v_0_code v_0_lines v_0_isFresh v_0_hasRun v_0_runs v_0_nx v_0_ny v_0_spaces v_0_oldNx v_0_oldNy v_0_oldSpaces v_0_points v_0_pieces v_0_rings v_0_outsideSides v_0_looseCount)) [0] rfl
    have hDc := hD.sub (ws' := (wl_Mo_goes a_0 b_0_isFlat b_0_across b_0_lows b_0_highs b_0_thick b_0_doorCounts b_0_doorFrom b_0_doorTo b_0_xs b_0_ys b_0_labels b_0_oldXs b_0_oldYs b_0_oldLabels a_0_names b_0_oldNames b_0_wanted b_0_common b_0_flatEdges b_0_upEdges b_0_isPoint b_0_stack b_0_pieceLines b_0_pieceBegins b_0_pieceEnds b_0_pieceLeft b_0_pieceRight b_0_outs b_0_isSeen b_0_ringSpaces b_0_ringStarts b_0_ringSizes b_0_ringLeast b_0_looseLines b_0_looseXs b_0_looseYs b_0_looseReaches b_0_far v_0_code v_0_lines v_0_isFresh v_0_hasRun v_0_runs v_0_nx v_0_ny v_0_spaces v_0_oldNx v_0_oldNy v_0_oldSpaces v_0_points v_0_pieces v_0_rings v_0_outsideSides v_0_looseCount)) [0] (by decide) rfl
    refine cl_i (wc' := (wl_Mo_goes a_0 b_0_isFlat b_0_across b_0_lows b_0_highs b_0_thick b_0_doorCounts b_0_doorFrom b_0_doorTo b_0_xs b_0_ys b_0_labels b_0_oldXs b_0_oldYs b_0_oldLabels a_0_names b_0_oldNames b_0_wanted b_0_common b_0_flatEdges b_0_upEdges b_0_isPoint b_0_stack b_0_pieceLines b_0_pieceBegins b_0_pieceEnds b_0_pieceLeft b_0_pieceRight b_0_outs b_0_isSeen b_0_ringSpaces b_0_ringStarts b_0_ringSizes b_0_ringLeast b_0_looseLines b_0_looseXs b_0_looseYs b_0_looseReaches b_0_far x12 v_0_lines v_0_isFresh v_0_hasRun v_0_runs v_0_nx v_0_ny v_0_spaces v_0_oldNx v_0_oldNy v_0_oldSpaces v_0_points v_0_pieces v_0_rings v_0_outsideSides v_0_looseCount)) (va_runV (As := [.int x6]) (rest := []) ⟨hx, hb, hml, hown, hts⟩ (c_Mo_goes l dC dI (cI := cI) (cZ := cZ) (cJ := cJ) a_0 b_0_isFlat b_0_across b_0_lows b_0_highs b_0_thick b_0_doorCounts b_0_doorFrom b_0_doorTo b_0_xs b_0_ys b_0_labels b_0_oldXs b_0_oldYs b_0_oldLabels a_0_names b_0_oldNames b_0_wanted b_0_common b_0_flatEdges b_0_upEdges b_0_isPoint b_0_stack b_0_pieceLines b_0_pieceBegins b_0_pieceEnds b_0_pieceLeft b_0_pieceRight b_0_outs b_0_isSeen b_0_ringSpaces b_0_ringStarts b_0_ringSizes b_0_ringLeast b_0_looseLines b_0_looseXs b_0_looseYs b_0_looseReaches b_0_far H.size v_0_code v_0_lines v_0_isFresh v_0_hasRun v_0_runs v_0_nx v_0_ny v_0_spaces v_0_oldNx v_0_oldNy v_0_oldSpaces v_0_points v_0_pieces v_0_rings v_0_outsideSides v_0_looseCount x6 r11 x12 hb13) (cwV 1 hts (gl_V k_426 k_425 k_424 k_277 k_423) rfl rfl rfl (by decide +kernel) ⟨Nat.le_of_ble_eq_true rfl, Nat.le_of_ble_eq_true rfl⟩) ⟨PP_blind, va_recv hK hPc (ci := 11) (q0 := 0) rfl rfl, fun U hU hW => PP_at hK hN hPc hDc hU hW⟩ rfl rfl hl.1 rfl (lv_room (Nat.le_of_ble_eq_true rfl)) d_Mo_name_26 ⟨Nat.zero_le _, Nat.zero_le _⟩) hP hD hS hA [0] [1] rfl rfl (by decide) (by decide) (fun H locs hP hD hS => ?_)
    have hP : va_P (dC, dI) vwCl (wl_Mo_name a_0 a_0_names b_0_isFlat b_0_across b_0_lows b_0_highs b_0_thick b_0_doorCounts b_0_doorFrom b_0_doorTo b_0_xs b_0_ys b_0_labels b_0_oldXs b_0_oldYs b_0_oldLabels b_0_oldNames b_0_wanted b_0_common b_0_flatEdges b_0_upEdges b_0_isPoint b_0_stack b_0_pieceLines b_0_pieceBegins b_0_pieceEnds b_0_pieceLeft b_0_pieceRight b_0_outs b_0_isSeen b_0_ringSpaces b_0_ringStarts b_0_ringSizes b_0_ringLeast b_0_looseLines b_0_looseXs b_0_looseYs b_0_looseReaches b_0_far cI x12 v_0_lines v_0_isFresh v_0_hasRun v_0_runs v_0_nx v_0_ny v_0_spaces v_0_oldNx v_0_oldNy v_0_oldSpaces v_0_points v_0_pieces v_0_rings v_0_outsideSides v_0_looseCount f_0_names) H := hP.sub [1, 0] rfl
    have hD : va_D A (wl_Mo_name a_0 a_0_names b_0_isFlat b_0_across b_0_lows b_0_highs b_0_thick b_0_doorCounts b_0_doorFrom b_0_doorTo b_0_xs b_0_ys b_0_labels b_0_oldXs b_0_oldYs b_0_oldLabels b_0_oldNames b_0_wanted b_0_common b_0_flatEdges b_0_upEdges b_0_isPoint b_0_stack b_0_pieceLines b_0_pieceBegins b_0_pieceEnds b_0_pieceLeft b_0_pieceRight b_0_outs b_0_isSeen b_0_ringSpaces b_0_ringStarts b_0_ringSizes b_0_ringLeast b_0_looseLines b_0_looseXs b_0_looseYs b_0_looseReaches b_0_far cI x12 v_0_lines v_0_isFresh v_0_hasRun v_0_runs v_0_nx v_0_ny v_0_spaces v_0_oldNx v_0_oldNy v_0_oldSpaces v_0_points v_0_pieces v_0_rings v_0_outsideSides v_0_looseCount f_0_names) := hD.sub [1, 0] (by decide) rfl
    refine lv_if_ne (tgt := 34) hx hb d_Mo_name_29 (by decide) (fun c14 => ?_) (fun c14 => ?_)
    · replace hm := if_f hm c14
      refine lv_aload_n hx hb d_Mo_name_34 rfl (lv_at hl 0 rfl) ?_
      refine va_get (D := (dC, dI)) (ci := 11) (v := .ref a_0_names) (C := "SpaceCyclesModel") (T := F_Mo) (N := 54) hx hb hts (in_F i_Mo) hown hK hP 0 rfl rfl 25 (by decide) (hts _ (in_c k_385)) (fun _ h9 => h9) rfl d_Mo_name_35 ?_
      refine lv_iload_n hx hb d_Mo_name_38 rfl (lv_at hl 1 rfl) ?_
      obtain ⟨hi15, hm⟩ := gI_e hm
      refine va_iald hx hb hK hP 1 0 rfl rfl hi15 d_Mo_name_39 ?_
      refine lv_topi (fun x16 ex16 => ?_)
      replace hm := lt_el hm ex16
      refine lv_istore_n (lv' := [(3, .int x16), (0, .ref a_0), (1, .int p1), (2, .int p2)]) hx hb d_Mo_name_40 rfl hl (by decide) rfl (fun ls hl => ?_)
      refine lv_aload_n hx hb d_Mo_name_41 rfl (lv_at hl 1 rfl) ?_
      refine va_get (D := (dC, dI)) (ci := 11) (v := .ref a_0_names) (C := "SpaceCyclesModel") (T := F_Mo) (N := 54) hx hb hts (in_F i_Mo) hown hK hP 0 rfl rfl 25 (by decide) (hts _ (in_c k_385)) (fun _ h9 => h9) rfl d_Mo_name_42 ?_
      refine lv_iload_n hx hb d_Mo_name_45 rfl (lv_at hl 2 rfl) ?_
      refine lv_iload_n hx hb d_Mo_name_46 rfl (lv_at hl 3 rfl) ?_
      obtain ⟨hi17, hm⟩ := gI_e hm
      obtain ⟨f18, ef18⟩ : ∃ y : Nat → Int32, y = upd f_0_names p1.toNatClampNeg p2 := ⟨_, rfl⟩
      replace hm := lt_el hm ef18
      refine va_iast hx hb hK hP hD hS 1 0 rfl rfl hi17 d_Mo_name_47 (fun H locs hP hD hS => ?_)
      rw [← ef18] at hP hD
      have hP : va_P (dC, dI) vwCl (wl_Mo_name a_0 a_0_names b_0_isFlat b_0_across b_0_lows b_0_highs b_0_thick b_0_doorCounts b_0_doorFrom b_0_doorTo b_0_xs b_0_ys b_0_labels b_0_oldXs b_0_oldYs b_0_oldLabels b_0_oldNames b_0_wanted b_0_common b_0_flatEdges b_0_upEdges b_0_isPoint b_0_stack b_0_pieceLines b_0_pieceBegins b_0_pieceEnds b_0_pieceLeft b_0_pieceRight b_0_outs b_0_isSeen b_0_ringSpaces b_0_ringStarts b_0_ringSizes b_0_ringLeast b_0_looseLines b_0_looseXs b_0_looseYs b_0_looseReaches b_0_far cI x12 v_0_lines v_0_isFresh v_0_hasRun v_0_runs v_0_nx v_0_ny v_0_spaces v_0_oldNx v_0_oldNy v_0_oldSpaces v_0_points v_0_pieces v_0_rings v_0_outsideSides v_0_looseCount f18) H := hP
      have hD : va_D A (wl_Mo_name a_0 a_0_names b_0_isFlat b_0_across b_0_lows b_0_highs b_0_thick b_0_doorCounts b_0_doorFrom b_0_doorTo b_0_xs b_0_ys b_0_labels b_0_oldXs b_0_oldYs b_0_oldLabels b_0_oldNames b_0_wanted b_0_common b_0_flatEdges b_0_upEdges b_0_isPoint b_0_stack b_0_pieceLines b_0_pieceBegins b_0_pieceEnds b_0_pieceLeft b_0_pieceRight b_0_outs b_0_isSeen b_0_ringSpaces b_0_ringStarts b_0_ringSizes b_0_ringLeast b_0_looseLines b_0_looseXs b_0_looseYs b_0_looseReaches b_0_far cI x12 v_0_lines v_0_isFresh v_0_hasRun v_0_runs v_0_nx v_0_ny v_0_spaces v_0_oldNx v_0_oldNy v_0_oldSpaces v_0_points v_0_pieces v_0_rings v_0_outsideSides v_0_looseCount f18) := hD
      refine lv_iload_n hx hb d_Mo_name_48 rfl (lv_at hl 0 rfl) ?_
      cases hm
      exact hret _ H locs ls d_Mo_name_49 hP hD hS
    · replace hm := if_t hm c14
      refine lv_iconst (v := 0) hx hb d_Mo_name_32 (by decide) ?_
      cases hm
      exact hret _ H locs ls d_Mo_name_33 hP hD hS
  replace hm := hb4
  refine lv_if_eq (tgt := 25) hx hb d_Mo_name_6 (by decide) (fun c7 => ?_) (fun c7 => ?_)
  · replace hm := if_t hm c7
    refine lv_iconst (v := 0) hx hb d_Mo_name_25 (by decide) ?_
    cases hm
    exact K3 H locs ls hP hD hS (lv_sub hl [0, 1, 2] rfl)
  · replace hm := if_f hm c7
    refine lv_iload_n hx hb d_Mo_name_9 rfl (lv_at hl 2 rfl) ?_
    refine lv_i2l hx hb d_Mo_name_10 rfl ?_
    refine lv_lconst (v := 0) hx hb d_Mo_name_11 (by decide) ?_
    refine lv_ldc2 (v := 1000) hx hb hown (hts (.constantLong "SpaceCyclesModel" 310 1000) (by decide +kernel)) d_Mo_name_12 ?_
    obtain ⟨r8, hb9, hm⟩ := bd1_e hm
    have hPc := hP.sub (ws' := (wl_Mo_isIn)) [] rfl
    have hDc := hD.sub (ws' := (wl_Mo_isIn)) [] (by decide) rfl
    refine cl_i (wc' := (wl_Mo_isIn)) (va_runS (As := [.long (Int32.toInt64 p2), .long 0, .long 1000]) (rest := [.ref a_0]) ⟨hx, hb, hml, hown, hts⟩ (c_Mo_isIn l dC dI (cI := cI) (cZ := cZ) (cJ := cJ) H.size (Int32.toInt64 p2) 0 1000 r8 hb9) (va_cwS 3 hts (gl_S k_278 k_276 k_277 k_275) rfl rfl rfl (by decide +kernel) ⟨Nat.le_of_ble_eq_true rfl, Nat.le_of_ble_eq_true rfl⟩) ⟨PP_blind, fun U hU hW => PP_at hK hN hPc hDc hU hW⟩ rfl rfl hl.1 rfl (lv_room (Nat.le_of_ble_eq_true rfl)) d_Mo_name_15 ⟨Nat.zero_le _, Nat.zero_le _⟩) hP hD hS hA [] [0, 1] rfl rfl (by decide) (by decide) (fun H locs hP hD hS => ?_)
    have hP : va_P (dC, dI) vwCl (wl_Mo_name a_0 a_0_names b_0_isFlat b_0_across b_0_lows b_0_highs b_0_thick b_0_doorCounts b_0_doorFrom b_0_doorTo b_0_xs b_0_ys b_0_labels b_0_oldXs b_0_oldYs b_0_oldLabels b_0_oldNames b_0_wanted b_0_common b_0_flatEdges b_0_upEdges b_0_isPoint b_0_stack b_0_pieceLines b_0_pieceBegins b_0_pieceEnds b_0_pieceLeft b_0_pieceRight b_0_outs b_0_isSeen b_0_ringSpaces b_0_ringStarts b_0_ringSizes b_0_ringLeast b_0_looseLines b_0_looseXs b_0_looseYs b_0_looseReaches b_0_far cI v_0_code v_0_lines v_0_isFresh v_0_hasRun v_0_runs v_0_nx v_0_ny v_0_spaces v_0_oldNx v_0_oldNy v_0_oldSpaces v_0_points v_0_pieces v_0_rings v_0_outsideSides v_0_looseCount f_0_names) H := hP.sub [0, 1] rfl
    have hD : va_D A (wl_Mo_name a_0 a_0_names b_0_isFlat b_0_across b_0_lows b_0_highs b_0_thick b_0_doorCounts b_0_doorFrom b_0_doorTo b_0_xs b_0_ys b_0_labels b_0_oldXs b_0_oldYs b_0_oldLabels b_0_oldNames b_0_wanted b_0_common b_0_flatEdges b_0_upEdges b_0_isPoint b_0_stack b_0_pieceLines b_0_pieceBegins b_0_pieceEnds b_0_pieceLeft b_0_pieceRight b_0_outs b_0_isSeen b_0_ringSpaces b_0_ringStarts b_0_ringSizes b_0_ringLeast b_0_looseLines b_0_looseXs b_0_looseYs b_0_looseReaches b_0_far cI v_0_code v_0_lines v_0_isFresh v_0_hasRun v_0_runs v_0_nx v_0_ny v_0_spaces v_0_oldNx v_0_oldNy v_0_oldSpaces v_0_points v_0_pieces v_0_rings v_0_outsideSides v_0_looseCount f_0_names) := hD.sub [0, 1] (by decide) rfl
    refine lv_if_eq (tgt := 25) hx hb d_Mo_name_18 (by decide) (fun c10 => ?_) (fun c10 => ?_)
    · replace hm := if_t hm c10
      refine lv_iconst (v := 0) hx hb d_Mo_name_25 (by decide) ?_
      cases hm
      exact K3 H locs ls hP hD hS (lv_sub hl [0, 1, 2] rfl)
    · replace hm := if_f hm c10
      refine lv_iconst (v := 1) hx hb d_Mo_name_21 (by decide) ?_
      refine lv_goto (tgt := 26) hx hb d_Mo_name_22 (by decide) ?_
      cases hm
      exact K3 H locs ls hP hD hS (lv_sub hl [0, 1, 2] rfl)
set_option maxHeartbeats 4000000 in
set_option maxRecDepth 100000 in
theorem c_Mo_name (l : Launch) (dC : Nat → ClassId) (dI : Nat → Nat → Nat) {cI cZ cJ : ClassId} (a_0 a_0_names b_0_isFlat b_0_across b_0_lows b_0_highs b_0_thick b_0_doorCounts b_0_doorFrom b_0_doorTo b_0_xs b_0_ys b_0_labels b_0_oldXs b_0_oldYs b_0_oldLabels b_0_oldNames b_0_wanted b_0_common b_0_flatEdges b_0_upEdges b_0_isPoint b_0_stack b_0_pieceLines b_0_pieceBegins b_0_pieceEnds b_0_pieceLeft b_0_pieceRight b_0_outs b_0_isSeen b_0_ringSpaces b_0_ringStarts b_0_ringSizes b_0_ringLeast b_0_looseLines b_0_looseXs b_0_looseYs b_0_looseReaches b_0_far : Nat) (sz : Nat) (v_0_code : Int32) (v_0_lines : Int32) (v_0_isFresh : Int32) (v_0_hasRun : Int32) (v_0_runs : Int32) (v_0_nx : Int32) (v_0_ny : Int32) (v_0_spaces : Int32) (v_0_oldNx : Int32) (v_0_oldNy : Int32) (v_0_oldSpaces : Int32) (v_0_points : Int32) (v_0_pieces : Int32) (v_0_rings : Int32) (v_0_outsideSides : Int32) (v_0_looseCount : Int32) (f_0_names : Nat → Int32) (p1 : Int32) (p2 : Int32) (R0 : Int32) (ov_0_code : Int32) (of_0_names : Nat → Int32) (hm : m_Mo_name p1 p2 v_0_code v_0_isFresh v_0_spaces f_0_names = some (R0, ov_0_code, of_0_names)) : Met l y_Mo_name w_Mo_name rm_Mo_name (PP dC dI [(cI, .int), (cZ, .boolean), (cJ, .long)] [.ref a_0, .int p1, .int p2] sz (wl_Mo_name a_0 a_0_names b_0_isFlat b_0_across b_0_lows b_0_highs b_0_thick b_0_doorCounts b_0_doorFrom b_0_doorTo b_0_xs b_0_ys b_0_labels b_0_oldXs b_0_oldYs b_0_oldLabels b_0_oldNames b_0_wanted b_0_common b_0_flatEdges b_0_upEdges b_0_isPoint b_0_stack b_0_pieceLines b_0_pieceBegins b_0_pieceEnds b_0_pieceLeft b_0_pieceRight b_0_outs b_0_isSeen b_0_ringSpaces b_0_ringStarts b_0_ringSizes b_0_ringLeast b_0_looseLines b_0_looseXs b_0_looseYs b_0_looseReaches b_0_far cI v_0_code v_0_lines v_0_isFresh v_0_hasRun v_0_runs v_0_nx v_0_ny v_0_spaces v_0_oldNx v_0_oldNy v_0_oldSpaces v_0_points v_0_pieces v_0_rings v_0_outsideSides v_0_looseCount f_0_names)) (QI dC dI [(cI, .int), (cZ, .boolean), (cJ, .long)] sz (wl_Mo_name a_0 a_0_names b_0_isFlat b_0_across b_0_lows b_0_highs b_0_thick b_0_doorCounts b_0_doorFrom b_0_doorTo b_0_xs b_0_ys b_0_labels b_0_oldXs b_0_oldYs b_0_oldLabels b_0_oldNames b_0_wanted b_0_common b_0_flatEdges b_0_upEdges b_0_isPoint b_0_stack b_0_pieceLines b_0_pieceBegins b_0_pieceEnds b_0_pieceLeft b_0_pieceRight b_0_outs b_0_isSeen b_0_ringSpaces b_0_ringStarts b_0_ringSizes b_0_ringLeast b_0_looseLines b_0_looseXs b_0_looseYs b_0_looseReaches b_0_far cI v_0_code v_0_lines v_0_isFresh v_0_hasRun v_0_runs v_0_nx v_0_ny v_0_spaces v_0_oldNx v_0_oldNy v_0_oldSpaces v_0_points v_0_pieces v_0_rings v_0_outsideSides v_0_looseCount f_0_names) (wl_Mo_name a_0 a_0_names b_0_isFlat b_0_across b_0_lows b_0_highs b_0_thick b_0_doorCounts b_0_doorFrom b_0_doorTo b_0_xs b_0_ys b_0_labels b_0_oldXs b_0_oldYs b_0_oldLabels b_0_oldNames b_0_wanted b_0_common b_0_flatEdges b_0_upEdges b_0_isPoint b_0_stack b_0_pieceLines b_0_pieceBegins b_0_pieceEnds b_0_pieceLeft b_0_pieceRight b_0_outs b_0_isSeen b_0_ringSpaces b_0_ringStarts b_0_ringSizes b_0_ringLeast b_0_looseLines b_0_looseXs b_0_looseYs b_0_looseReaches b_0_far cI ov_0_code v_0_lines v_0_isFresh v_0_hasRun v_0_runs v_0_nx v_0_ny v_0_spaces v_0_oldNx v_0_oldNy v_0_oldSpaces v_0_points v_0_pieces v_0_rings v_0_outsideSides v_0_looseCount of_0_names) R0) 0 0 (va_A (wl_Mo_name a_0 a_0_names b_0_isFlat b_0_across b_0_lows b_0_highs b_0_thick b_0_doorCounts b_0_doorFrom b_0_doorTo b_0_xs b_0_ys b_0_labels b_0_oldXs b_0_oldYs b_0_oldLabels b_0_oldNames b_0_wanted b_0_common b_0_flatEdges b_0_upEdges b_0_isPoint b_0_stack b_0_pieceLines b_0_pieceBegins b_0_pieceEnds b_0_pieceLeft b_0_pieceRight b_0_outs b_0_isSeen b_0_ringSpaces b_0_ringStarts b_0_ringSizes b_0_ringLeast b_0_looseLines b_0_looseXs b_0_looseYs b_0_looseReaches b_0_far cI v_0_code v_0_lines v_0_isFresh v_0_hasRun v_0_runs v_0_nx v_0_ny v_0_spaces v_0_oldNx v_0_oldNy v_0_oldSpaces v_0_points v_0_pieces v_0_rings v_0_outsideSides v_0_looseCount f_0_names) sz) := by
  refine Met.ofW (cc := b_Mo_name) (maxL := 4) (ret := (some .int)) (by decide) rfl ?_
  intro p e s m args below meth c s₁ B hml hv
  obtain ⟨rfl, hsz, hP, hK, hD0, hN⟩ := hv
  subst hsz
  have hl := lv_entry ([.ref a_0, .int p1, .int p2]) (n := 4) (Nat.le_of_ble_eq_true rfl)
  rw [lg_entry_eq]
  generalize (lg_sl ([.ref a_0, .int p1, .int p2]) ++ List.replicate (4 - (lg_sl ([.ref a_0, .int p1, .int p2])).length) Slot.unset).toArray = ls at hl ⊢
  exact t_Mo_name a_0 a_0_names b_0_isFlat b_0_across b_0_lows b_0_highs b_0_thick b_0_doorCounts b_0_doorFrom b_0_doorTo b_0_xs b_0_ys b_0_labels b_0_oldXs b_0_oldYs b_0_oldLabels b_0_oldNames b_0_wanted b_0_common b_0_flatEdges b_0_upEdges b_0_isPoint b_0_stack b_0_pieceLines b_0_pieceBegins b_0_pieceEnds b_0_pieceLeft b_0_pieceRight b_0_outs b_0_isSeen b_0_ringSpaces b_0_ringStarts b_0_ringSizes b_0_ringLeast b_0_looseLines b_0_looseXs b_0_looseYs b_0_looseReaches b_0_far v_0_code v_0_lines v_0_isFresh v_0_hasRun v_0_runs v_0_nx v_0_ny v_0_spaces v_0_oldNx v_0_oldNy v_0_oldSpaces v_0_points v_0_pieces v_0_rings v_0_outsideSides v_0_looseCount f_0_names p1 p2 R0 ov_0_code of_0_names B.exec B.bytes hml (findClass_of_methodNamed B.named) (atoms_spec (ws := w_Mo_name) B.pre) hK hN (fun q h => Or.inr h) (fun pc H locs ls hd hP9 hD9 hS => W.iret B.exec B.bytes B.returns (fun t ht hW => ⟨⟨_, (), rfl, rfl, by rw [ht]; exact hP9, va_K.moved hW.alike hK, hD9⟩, hS.F ht⟩) hS.2.2 hd) hm s.heap [] ls hP hD0.self va_S.rf hl

-- SpaceCyclesModel.nameOf(I)I
abbrev b_Mo_nameOf : ByteArray := prog_13_method_53_code
abbrev y_Mo_nameOf : MethodName := ⟨"SpaceCyclesModel", "nameOf", "(I)I"⟩
abbrev w_Mo_nameOf : List Cond := Cond.code y_Mo_nameOf b_Mo_nameOf 2 (some .int) :: gl
abbrev rm_Mo_nameOf : Room := { frames := 2, cells := 0, slots := 0, locals := 46 }
theorem d_Mo_nameOf_0 : decode b_Mo_nameOf 0 = .ok (.aload_n 0, 1) := by decide +kernel
theorem d_Mo_nameOf_1 : decode b_Mo_nameOf 1 = .ok (.aload_n 0, 1) := by decide +kernel
theorem d_Mo_nameOf_2 : decode b_Mo_nameOf 2 = .ok (.iload_n 1, 1) := by decide +kernel
theorem d_Mo_nameOf_3 : decode b_Mo_nameOf 3 = .ok (.invokevirtual 275, 3) := by decide +kernel
theorem d_Mo_nameOf_6 : decode b_Mo_nameOf 6 = .ok (.invokevirtual 271, 3) := by decide +kernel
theorem d_Mo_nameOf_9 : decode b_Mo_nameOf 9 = .ok (.ifCond .eq 12, 3) := by decide +kernel
theorem d_Mo_nameOf_12 : decode b_Mo_nameOf 12 = .ok (.aload_n 0, 1) := by decide +kernel
theorem d_Mo_nameOf_13 : decode b_Mo_nameOf 13 = .ok (.getfield 53, 3) := by decide +kernel
theorem d_Mo_nameOf_16 : decode b_Mo_nameOf 16 = .ok (.iload_n 1, 1) := by decide +kernel
theorem d_Mo_nameOf_17 : decode b_Mo_nameOf 17 = .ok (.iaload, 1) := by decide +kernel
theorem d_Mo_nameOf_18 : decode b_Mo_nameOf 18 = .ok (.goto 4, 3) := by decide +kernel
theorem d_Mo_nameOf_21 : decode b_Mo_nameOf 21 = .ok (.iconst 0, 1) := by decide +kernel
theorem d_Mo_nameOf_22 : decode b_Mo_nameOf 22 = .ok (.ireturn, 1) := by decide +kernel
abbrev wl_Mo_nameOf (a_0 : Nat) (a_0_names : Nat) (b_0_isFlat : Nat) (b_0_across : Nat) (b_0_lows : Nat) (b_0_highs : Nat) (b_0_thick : Nat) (b_0_doorCounts : Nat) (b_0_doorFrom : Nat) (b_0_doorTo : Nat) (b_0_xs : Nat) (b_0_ys : Nat) (b_0_labels : Nat) (b_0_oldXs : Nat) (b_0_oldYs : Nat) (b_0_oldLabels : Nat) (b_0_oldNames : Nat) (b_0_wanted : Nat) (b_0_common : Nat) (b_0_flatEdges : Nat) (b_0_upEdges : Nat) (b_0_isPoint : Nat) (b_0_stack : Nat) (b_0_pieceLines : Nat) (b_0_pieceBegins : Nat) (b_0_pieceEnds : Nat) (b_0_pieceLeft : Nat) (b_0_pieceRight : Nat) (b_0_outs : Nat) (b_0_isSeen : Nat) (b_0_ringSpaces : Nat) (b_0_ringStarts : Nat) (b_0_ringSizes : Nat) (b_0_ringLeast : Nat) (b_0_looseLines : Nat) (b_0_looseXs : Nat) (b_0_looseYs : Nat) (b_0_looseReaches : Nat) (b_0_far : Nat) (cI : ClassId) (v_0_code : Int32) (v_0_lines : Int32) (v_0_isFresh : Int32) (v_0_hasRun : Int32) (v_0_runs : Int32) (v_0_nx : Int32) (v_0_ny : Int32) (v_0_spaces : Int32) (v_0_oldNx : Int32) (v_0_oldNy : Int32) (v_0_oldSpaces : Int32) (v_0_points : Int32) (v_0_pieces : Int32) (v_0_rings : Int32) (v_0_outsideSides : Int32) (v_0_looseCount : Int32) (f_0_names : Nat → Int32) : va_W := [(a_0, .inr (11, [.int v_0_code, .ref b_0_isFlat, .ref b_0_across, .ref b_0_lows, .ref b_0_highs, .ref b_0_thick, .int v_0_lines, .ref b_0_doorCounts, .ref b_0_doorFrom, .ref b_0_doorTo, .int v_0_isFresh, .int v_0_hasRun, .int v_0_runs, .ref b_0_xs, .ref b_0_ys, .int v_0_nx, .int v_0_ny, .ref b_0_labels, .int v_0_spaces, .ref b_0_oldXs, .ref b_0_oldYs, .int v_0_oldNx, .int v_0_oldNy, .ref b_0_oldLabels, .int v_0_oldSpaces, .ref a_0_names, .ref b_0_oldNames, .ref b_0_wanted, .ref b_0_common, .ref b_0_flatEdges, .ref b_0_upEdges, .ref b_0_isPoint, .int v_0_points, .ref b_0_stack, .ref b_0_pieceLines, .ref b_0_pieceBegins, .ref b_0_pieceEnds, .ref b_0_pieceLeft, .ref b_0_pieceRight, .int v_0_pieces, .ref b_0_outs, .ref b_0_isSeen, .ref b_0_ringSpaces, .ref b_0_ringStarts, .ref b_0_ringSizes, .ref b_0_ringLeast, .int v_0_rings, .int v_0_outsideSides, .ref b_0_looseLines, .ref b_0_looseXs, .ref b_0_looseYs, .ref b_0_looseReaches, .int v_0_looseCount, .ref b_0_far])), (a_0_names, .inl (cI, 200, .inl f_0_names))]
def m_Mo_nameOf (p1 : Int32) (v_0_code : Int32) (v_0_isFresh : Int32) (v_0_spaces : Int32) (f_0_names : Nat → Int32) : Option (Int32 × (Int32)) :=
  bd1 (m_Mo_isSpace p1 v_0_spaces) fun r1 =>
  bd2 (m_Mo_goes r1 v_0_code v_0_isFresh) fun r3 x4 =>
  bd1 (
    if r3 = 0 then (
    some 0)
  else (
    gI p1 200 <|
    some (f_0_names p1.toNatClampNeg)))
  fun (x9 : Int32) =>
  some (x9, x4)

set_option maxHeartbeats 4000000 in
set_option maxRecDepth 100000 in
theorem t_Mo_nameOf {p : Program} {l : Launch} {e : Env} {s : State} {m : MethodId} {args : Array Value} {below : List Frame} {meth : Method} {c : Code} {A : Nat → Prop} {Q : State → Prop} {dC : Nat → ClassId} {dI : Nat → Nat → Nat} {cI cZ cJ : ClassId} (a_0 a_0_names b_0_isFlat b_0_across b_0_lows b_0_highs b_0_thick b_0_doorCounts b_0_doorFrom b_0_doorTo b_0_xs b_0_ys b_0_labels b_0_oldXs b_0_oldYs b_0_oldLabels b_0_oldNames b_0_wanted b_0_common b_0_flatEdges b_0_upEdges b_0_isPoint b_0_stack b_0_pieceLines b_0_pieceBegins b_0_pieceEnds b_0_pieceLeft b_0_pieceRight b_0_outs b_0_isSeen b_0_ringSpaces b_0_ringStarts b_0_ringSizes b_0_ringLeast b_0_looseLines b_0_looseXs b_0_looseYs b_0_looseReaches b_0_far : Nat) (v_0_code : Int32) (v_0_lines : Int32) (v_0_isFresh : Int32) (v_0_hasRun : Int32) (v_0_runs : Int32) (v_0_nx : Int32) (v_0_ny : Int32) (v_0_spaces : Int32) (v_0_oldNx : Int32) (v_0_oldNy : Int32) (v_0_oldSpaces : Int32) (v_0_points : Int32) (v_0_pieces : Int32) (v_0_rings : Int32) (v_0_outsideSides : Int32) (v_0_looseCount : Int32) (f_0_names : Nat → Int32) (p1 : Int32) (R0 : Int32) (ov_0_code : Int32) (hx : p.tables.exec = Jvm.exec) (hb : c.code = b_Mo_nameOf) (hml : c.maxLocals = 2) (hown : s.vm.findClass "SpaceCyclesModel" = some m.cls) (hts : ∀ w ∈ w_Mo_nameOf, w.before args s = true) (hK : va_K (dC, dI) vwCl [(cI, .int), (cZ, .boolean), (cJ, .long)] s) (hN : NX s) (hA : ∀ q : Nat, s.heap.size ≤ q → A q)
    (hret : ∀ (pc : Nat) (H : Heap) (locs : List Loc) (ls : Array Slot), decode b_Mo_nameOf pc = .ok (.ireturn, 1) → va_P (dC, dI) vwCl (wl_Mo_nameOf a_0 a_0_names b_0_isFlat b_0_across b_0_lows b_0_highs b_0_thick b_0_doorCounts b_0_doorFrom b_0_doorTo b_0_xs b_0_ys b_0_labels b_0_oldXs b_0_oldYs b_0_oldLabels b_0_oldNames b_0_wanted b_0_common b_0_flatEdges b_0_upEdges b_0_isPoint b_0_stack b_0_pieceLines b_0_pieceBegins b_0_pieceEnds b_0_pieceLeft b_0_pieceRight b_0_outs b_0_isSeen b_0_ringSpaces b_0_ringStarts b_0_ringSizes b_0_ringLeast b_0_looseLines b_0_looseXs b_0_looseYs b_0_looseReaches b_0_far cI ov_0_code v_0_lines v_0_isFresh v_0_hasRun v_0_runs v_0_nx v_0_ny v_0_spaces v_0_oldNx v_0_oldNy v_0_oldSpaces v_0_points v_0_pieces v_0_rings v_0_outsideSides v_0_looseCount f_0_names) H → va_D A (wl_Mo_nameOf a_0 a_0_names b_0_isFlat b_0_across b_0_lows b_0_highs b_0_thick b_0_doorCounts b_0_doorFrom b_0_doorTo b_0_xs b_0_ys b_0_labels b_0_oldXs b_0_oldYs b_0_oldLabels b_0_oldNames b_0_wanted b_0_common b_0_flatEdges b_0_upEdges b_0_isPoint b_0_stack b_0_pieceLines b_0_pieceBegins b_0_pieceEnds b_0_pieceLeft b_0_pieceRight b_0_outs b_0_isSeen b_0_ringSpaces b_0_ringStarts b_0_ringSizes b_0_ringLeast b_0_looseLines b_0_looseXs b_0_looseYs b_0_looseReaches b_0_far cI ov_0_code v_0_lines v_0_isFresh v_0_hasRun v_0_runs v_0_nx v_0_ny v_0_spaces v_0_oldNx v_0_oldNy v_0_oldSpaces v_0_points v_0_pieces v_0_rings v_0_outsideSides v_0_looseCount f_0_names) → va_S A s.heap H locs → W p l e rm_Mo_nameOf s m args below meth c H locs 0 0 Q (F0 m pc ls [.int R0]))
    (hm : m_Mo_nameOf p1 v_0_code v_0_isFresh v_0_spaces f_0_names = some (R0, ov_0_code)) : ∀ (H : Heap) (locs : List Loc) (ls : Array Slot), va_P (dC, dI) vwCl (wl_Mo_nameOf a_0 a_0_names b_0_isFlat b_0_across b_0_lows b_0_highs b_0_thick b_0_doorCounts b_0_doorFrom b_0_doorTo b_0_xs b_0_ys b_0_labels b_0_oldXs b_0_oldYs b_0_oldLabels b_0_oldNames b_0_wanted b_0_common b_0_flatEdges b_0_upEdges b_0_isPoint b_0_stack b_0_pieceLines b_0_pieceBegins b_0_pieceEnds b_0_pieceLeft b_0_pieceRight b_0_outs b_0_isSeen b_0_ringSpaces b_0_ringStarts b_0_ringSizes b_0_ringLeast b_0_looseLines b_0_looseXs b_0_looseYs b_0_looseReaches b_0_far cI v_0_code v_0_lines v_0_isFresh v_0_hasRun v_0_runs v_0_nx v_0_ny v_0_spaces v_0_oldNx v_0_oldNy v_0_oldSpaces v_0_points v_0_pieces v_0_rings v_0_outsideSides v_0_looseCount f_0_names) H → va_D A (wl_Mo_nameOf a_0 a_0_names b_0_isFlat b_0_across b_0_lows b_0_highs b_0_thick b_0_doorCounts b_0_doorFrom b_0_doorTo b_0_xs b_0_ys b_0_labels b_0_oldXs b_0_oldYs b_0_oldLabels b_0_oldNames b_0_wanted b_0_common b_0_flatEdges b_0_upEdges b_0_isPoint b_0_stack b_0_pieceLines b_0_pieceBegins b_0_pieceEnds b_0_pieceLeft b_0_pieceRight b_0_outs b_0_isSeen b_0_ringSpaces b_0_ringStarts b_0_ringSizes b_0_ringLeast b_0_looseLines b_0_looseXs b_0_looseYs b_0_looseReaches b_0_far cI v_0_code v_0_lines v_0_isFresh v_0_hasRun v_0_runs v_0_nx v_0_ny v_0_spaces v_0_oldNx v_0_oldNy v_0_oldSpaces v_0_points v_0_pieces v_0_rings v_0_outsideSides v_0_looseCount f_0_names) → va_S A s.heap H locs → lv_has ls 2 [(0, .ref a_0), (1, .int p1)] → W p l e rm_Mo_nameOf s m args below meth c H locs 0 0 Q (F0 m 0 ls []) := by
  intro H locs ls hP hD hS hl
  unfold m_Mo_nameOf at hm
  refine lv_aload_n hx hb d_Mo_nameOf_0 rfl (lv_at hl 0 rfl) ?_
  refine lv_aload_n hx hb d_Mo_nameOf_1 rfl (lv_at hl 0 rfl) ?_
  refine lv_iload_n hx hb d_Mo_nameOf_2 rfl (lv_at hl 1 rfl) ?_
  obtain ⟨r1, hb2, hm⟩ := bd1_e hm
  have hPc := hP.sub (ws' := (wl_Mo_isSpace a_0 b_0_isFlat b_0_across b_0_lows b_0_highs b_0_thick b_0_doorCounts b_0_doorFrom b_0_doorTo b_0_xs b_0_ys b_0_labels b_0_oldXs b_0_oldYs b_0_oldLabels a_0_names b_0_oldNames b_0_wanted b_0_common b_0_flatEdges b_0_upEdges b_0_isPoint b_0_stack b_0_pieceLines b_0_pieceBegins b_0_pieceEnds b_0_pieceLeft b_0_pieceRight b_0_outs b_0_isSeen b_0_ringSpaces b_0_ringStarts b_0_ringSizes b_0_ringLeast b_0_looseLines b_0_looseXs b_0_looseYs b_0_looseReaches b_0_far v_0_code v_0_lines v_0_isFresh v_0_hasRun v_0_runs v_0_nx v_0_ny v_0_spaces v_0_oldNx v_0_oldNy v_0_oldSpaces v_0_points v_0_pieces v_0_rings v_0_outsideSides v_0_looseCount)) [0] rfl
  have hDc := hD.sub (ws' := (wl_Mo_isSpace a_0 b_0_isFlat b_0_across b_0_lows b_0_highs b_0_thick b_0_doorCounts b_0_doorFrom b_0_doorTo b_0_xs b_0_ys b_0_labels b_0_oldXs b_0_oldYs b_0_oldLabels a_0_names b_0_oldNames b_0_wanted b_0_common b_0_flatEdges b_0_upEdges b_0_isPoint b_0_stack b_0_pieceLines b_0_pieceBegins b_0_pieceEnds b_0_pieceLeft b_0_pieceRight b_0_outs b_0_isSeen b_0_ringSpaces b_0_ringStarts b_0_ringSizes b_0_ringLeast b_0_looseLines b_0_looseXs b_0_looseYs b_0_looseReaches b_0_far v_0_code v_0_lines v_0_isFresh v_0_hasRun v_0_runs v_0_nx v_0_ny v_0_spaces v_0_oldNx v_0_oldNy v_0_oldSpaces v_0_points v_0_pieces v_0_rings v_0_outsideSides v_0_looseCount)) [0] (by decide) rfl
  refine cl_i (wc' := (wl_Mo_isSpace a_0 b_0_isFlat b_0_across b_0_lows b_0_highs b_0_thick b_0_doorCounts b_0_doorFrom b_0_doorTo b_0_xs b_0_ys b_0_labels b_0_oldXs b_0_oldYs b_0_oldLabels a_0_names b_0_oldNames b_0_wanted b_0_common b_0_flatEdges b_0_upEdges b_0_isPoint b_0_stack b_0_pieceLines b_0_pieceBegins b_0_pieceEnds b_0_pieceLeft b_0_pieceRight b_0_outs b_0_isSeen b_0_ringSpaces b_0_ringStarts b_0_ringSizes b_0_ringLeast b_0_looseLines b_0_looseXs b_0_looseYs b_0_looseReaches b_0_far v_0_code v_0_lines v_0_isFresh v_0_hasRun v_0_runs v_0_nx v_0_ny v_0_spaces v_0_oldNx v_0_oldNy v_0_oldSpaces v_0_points v_0_pieces v_0_rings v_0_outsideSides v_0_looseCount)) (va_runV (As := [.int p1]) (rest := [.ref a_0]) ⟨hx, hb, hml, hown, hts⟩ (c_Mo_isSpace l dC dI (cI := cI) (cZ := cZ) (cJ := cJ) a_0 b_0_isFlat b_0_across b_0_lows b_0_highs b_0_thick b_0_doorCounts b_0_doorFrom b_0_doorTo b_0_xs b_0_ys b_0_labels b_0_oldXs b_0_oldYs b_0_oldLabels a_0_names b_0_oldNames b_0_wanted b_0_common b_0_flatEdges b_0_upEdges b_0_isPoint b_0_stack b_0_pieceLines b_0_pieceBegins b_0_pieceEnds b_0_pieceLeft b_0_pieceRight b_0_outs b_0_isSeen b_0_ringSpaces b_0_ringStarts b_0_ringSizes b_0_ringLeast b_0_looseLines b_0_looseXs b_0_looseYs b_0_looseReaches b_0_far H.size v_0_code v_0_lines v_0_isFresh v_0_hasRun v_0_runs v_0_nx v_0_ny v_0_spaces v_0_oldNx v_0_oldNy v_0_oldSpaces v_0_points v_0_pieces v_0_rings v_0_outsideSides v_0_looseCount p1 r1 hb2) (cwV 1 hts (gl_V k_430 k_429 k_428 k_277 k_427) rfl rfl rfl (by decide +kernel) ⟨Nat.le_of_ble_eq_true rfl, Nat.le_of_ble_eq_true rfl⟩) ⟨PP_blind, va_recv hK hPc (ci := 11) (q0 := 0) rfl rfl, fun U hU hW => PP_at hK hN hPc hDc hU hW⟩ rfl rfl hl.1 rfl (lv_room (Nat.le_of_ble_eq_true rfl)) d_Mo_nameOf_3 ⟨Nat.zero_le _, Nat.zero_le _⟩) hP hD hS hA [0] [1] rfl rfl (by decide) (by decide) (fun H locs hP hD hS => ?_)
  have hP : va_P (dC, dI) vwCl (wl_Mo_nameOf a_0 a_0_names b_0_isFlat b_0_across b_0_lows b_0_highs b_0_thick b_0_doorCounts b_0_doorFrom b_0_doorTo b_0_xs b_0_ys b_0_labels b_0_oldXs b_0_oldYs b_0_oldLabels b_0_oldNames b_0_wanted b_0_common b_0_flatEdges b_0_upEdges b_0_isPoint b_0_stack b_0_pieceLines b_0_pieceBegins b_0_pieceEnds b_0_pieceLeft b_0_pieceRight b_0_outs b_0_isSeen b_0_ringSpaces b_0_ringStarts b_0_ringSizes b_0_ringLeast b_0_looseLines b_0_looseXs b_0_looseYs b_0_looseReaches b_0_far cI v_0_code v_0_lines v_0_isFresh v_0_hasRun v_0_runs v_0_nx v_0_ny v_0_spaces v_0_oldNx v_0_oldNy v_0_oldSpaces v_0_points v_0_pieces v_0_rings v_0_outsideSides v_0_looseCount f_0_names) H := hP.sub [1, 0] rfl
  have hD : va_D A (wl_Mo_nameOf a_0 a_0_names b_0_isFlat b_0_across b_0_lows b_0_highs b_0_thick b_0_doorCounts b_0_doorFrom b_0_doorTo b_0_xs b_0_ys b_0_labels b_0_oldXs b_0_oldYs b_0_oldLabels b_0_oldNames b_0_wanted b_0_common b_0_flatEdges b_0_upEdges b_0_isPoint b_0_stack b_0_pieceLines b_0_pieceBegins b_0_pieceEnds b_0_pieceLeft b_0_pieceRight b_0_outs b_0_isSeen b_0_ringSpaces b_0_ringStarts b_0_ringSizes b_0_ringLeast b_0_looseLines b_0_looseXs b_0_looseYs b_0_looseReaches b_0_far cI v_0_code v_0_lines v_0_isFresh v_0_hasRun v_0_runs v_0_nx v_0_ny v_0_spaces v_0_oldNx v_0_oldNy v_0_oldSpaces v_0_points v_0_pieces v_0_rings v_0_outsideSides v_0_looseCount f_0_names) := hD.sub [1, 0] (by decide) rfl
  obtain ⟨r3, x4, hb5, hm⟩ := bd2_e hm
  have hPc := hP.sub (ws' := (wl_Mo_goes a_0 b_0_isFlat b_0_across b_0_lows b_0_highs b_0_thick b_0_doorCounts b_0_doorFrom b_0_doorTo b_0_xs b_0_ys b_0_labels b_0_oldXs b_0_oldYs b_0_oldLabels a_0_names b_0_oldNames b_0_wanted b_0_common b_0_flatEdges b_0_upEdges b_0_isPoint b_0_stack b_0_pieceLines b_0_pieceBegins b_0_pieceEnds b_0_pieceLeft b_0_pieceRight b_0_outs b_0_isSeen b_0_ringSpaces b_0_ringStarts b_0_ringSizes b_0_ringLeast b_0_looseLines b_0_looseXs b_0_looseYs b_0_looseReaches b_0_far v_0_code v_0_lines v_0_isFresh v_0_hasRun v_0_runs v_0_nx v_0_ny v_0_spaces v_0_oldNx v_0_oldNy v_0_oldSpaces v_0_points v_0_pieces v_0_rings v_0_outsideSides v_0_looseCount)) [0] rfl
  have hDc := hD.sub (ws' := (wl_Mo_goes a_0 b_0_isFlat b_0_across b_0_lows b_0_highs b_0_thick b_0_doorCounts b_0_doorFrom b_0_doorTo b_0_xs b_0_ys b_0_labels b_0_oldXs b_0_oldYs b_0_oldLabels a_0_names b_0_oldNames b_0_wanted b_0_common b_0_flatEdges b_0_upEdges b_0_isPoint b_0_stack b_0_pieceLines b_0_pieceBegins b_0_pieceEnds b_0_pieceLeft b_0_pieceRight b_0_outs b_0_isSeen b_0_ringSpaces b_0_ringStarts b_0_ringSizes b_0_ringLeast b_0_looseLines b_0_looseXs b_0_looseYs b_0_looseReaches b_0_far v_0_code v_0_lines v_0_isFresh v_0_hasRun v_0_runs v_0_nx v_0_ny v_0_spaces v_0_oldNx v_0_oldNy v_0_oldSpaces v_0_points v_0_pieces v_0_rings v_0_outsideSides v_0_looseCount)) [0] (by decide) rfl
  refine cl_i (wc' := (wl_Mo_goes a_0 b_0_isFlat b_0_across b_0_lows b_0_highs b_0_thick b_0_doorCounts b_0_doorFrom b_0_doorTo b_0_xs b_0_ys b_0_labels b_0_oldXs b_0_oldYs b_0_oldLabels a_0_names b_0_oldNames b_0_wanted b_0_common b_0_flatEdges b_0_upEdges b_0_isPoint b_0_stack b_0_pieceLines b_0_pieceBegins b_0_pieceEnds b_0_pieceLeft b_0_pieceRight b_0_outs b_0_isSeen b_0_ringSpaces b_0_ringStarts b_0_ringSizes b_0_ringLeast b_0_looseLines b_0_looseXs b_0_looseYs b_0_looseReaches b_0_far x4 v_0_lines v_0_isFresh v_0_hasRun v_0_runs v_0_nx v_0_ny v_0_spaces v_0_oldNx v_0_oldNy v_0_oldSpaces v_0_points v_0_pieces v_0_rings v_0_outsideSides v_0_looseCount)) (va_runV (As := [.int r1]) (rest := []) ⟨hx, hb, hml, hown, hts⟩ (c_Mo_goes l dC dI (cI := cI) (cZ := cZ) (cJ := cJ) a_0 b_0_isFlat b_0_across b_0_lows b_0_highs b_0_thick b_0_doorCounts b_0_doorFrom b_0_doorTo b_0_xs b_0_ys b_0_labels b_0_oldXs b_0_oldYs b_0_oldLabels a_0_names b_0_oldNames b_0_wanted b_0_common b_0_flatEdges b_0_upEdges b_0_isPoint b_0_stack b_0_pieceLines b_0_pieceBegins b_0_pieceEnds b_0_pieceLeft b_0_pieceRight b_0_outs b_0_isSeen b_0_ringSpaces b_0_ringStarts b_0_ringSizes b_0_ringLeast b_0_looseLines b_0_looseXs b_0_looseYs b_0_looseReaches b_0_far H.size v_0_code v_0_lines v_0_isFresh v_0_hasRun v_0_runs v_0_nx v_0_ny v_0_spaces v_0_oldNx v_0_oldNy v_0_oldSpaces v_0_points v_0_pieces v_0_rings v_0_outsideSides v_0_looseCount r1 r3 x4 hb5) (cwV 1 hts (gl_V k_426 k_425 k_424 k_277 k_423) rfl rfl rfl (by decide +kernel) ⟨Nat.le_of_ble_eq_true rfl, Nat.le_of_ble_eq_true rfl⟩) ⟨PP_blind, va_recv hK hPc (ci := 11) (q0 := 0) rfl rfl, fun U hU hW => PP_at hK hN hPc hDc hU hW⟩ rfl rfl hl.1 rfl (lv_room (Nat.le_of_ble_eq_true rfl)) d_Mo_nameOf_6 ⟨Nat.zero_le _, Nat.zero_le _⟩) hP hD hS hA [0] [1] rfl rfl (by decide) (by decide) (fun H locs hP hD hS => ?_)
  have hP : va_P (dC, dI) vwCl (wl_Mo_nameOf a_0 a_0_names b_0_isFlat b_0_across b_0_lows b_0_highs b_0_thick b_0_doorCounts b_0_doorFrom b_0_doorTo b_0_xs b_0_ys b_0_labels b_0_oldXs b_0_oldYs b_0_oldLabels b_0_oldNames b_0_wanted b_0_common b_0_flatEdges b_0_upEdges b_0_isPoint b_0_stack b_0_pieceLines b_0_pieceBegins b_0_pieceEnds b_0_pieceLeft b_0_pieceRight b_0_outs b_0_isSeen b_0_ringSpaces b_0_ringStarts b_0_ringSizes b_0_ringLeast b_0_looseLines b_0_looseXs b_0_looseYs b_0_looseReaches b_0_far cI x4 v_0_lines v_0_isFresh v_0_hasRun v_0_runs v_0_nx v_0_ny v_0_spaces v_0_oldNx v_0_oldNy v_0_oldSpaces v_0_points v_0_pieces v_0_rings v_0_outsideSides v_0_looseCount f_0_names) H := hP.sub [1, 0] rfl
  have hD : va_D A (wl_Mo_nameOf a_0 a_0_names b_0_isFlat b_0_across b_0_lows b_0_highs b_0_thick b_0_doorCounts b_0_doorFrom b_0_doorTo b_0_xs b_0_ys b_0_labels b_0_oldXs b_0_oldYs b_0_oldLabels b_0_oldNames b_0_wanted b_0_common b_0_flatEdges b_0_upEdges b_0_isPoint b_0_stack b_0_pieceLines b_0_pieceBegins b_0_pieceEnds b_0_pieceLeft b_0_pieceRight b_0_outs b_0_isSeen b_0_ringSpaces b_0_ringStarts b_0_ringSizes b_0_ringLeast b_0_looseLines b_0_looseXs b_0_looseYs b_0_looseReaches b_0_far cI x4 v_0_lines v_0_isFresh v_0_hasRun v_0_runs v_0_nx v_0_ny v_0_spaces v_0_oldNx v_0_oldNy v_0_oldSpaces v_0_points v_0_pieces v_0_rings v_0_outsideSides v_0_looseCount f_0_names) := hD.sub [1, 0] (by decide) rfl
  obtain ⟨x9, hb7, hm⟩ := bd1_e hm
  have K6 : ∀ (H : Heap) (locs : List Loc) (ls : Array Slot), va_P (dC, dI) vwCl (wl_Mo_nameOf a_0 a_0_names b_0_isFlat b_0_across b_0_lows b_0_highs b_0_thick b_0_doorCounts b_0_doorFrom b_0_doorTo b_0_xs b_0_ys b_0_labels b_0_oldXs b_0_oldYs b_0_oldLabels b_0_oldNames b_0_wanted b_0_common b_0_flatEdges b_0_upEdges b_0_isPoint b_0_stack b_0_pieceLines b_0_pieceBegins b_0_pieceEnds b_0_pieceLeft b_0_pieceRight b_0_outs b_0_isSeen b_0_ringSpaces b_0_ringStarts b_0_ringSizes b_0_ringLeast b_0_looseLines b_0_looseXs b_0_looseYs b_0_looseReaches b_0_far cI x4 v_0_lines v_0_isFresh v_0_hasRun v_0_runs v_0_nx v_0_ny v_0_spaces v_0_oldNx v_0_oldNy v_0_oldSpaces v_0_points v_0_pieces v_0_rings v_0_outsideSides v_0_looseCount f_0_names) H → va_D A (wl_Mo_nameOf a_0 a_0_names b_0_isFlat b_0_across b_0_lows b_0_highs b_0_thick b_0_doorCounts b_0_doorFrom b_0_doorTo b_0_xs b_0_ys b_0_labels b_0_oldXs b_0_oldYs b_0_oldLabels b_0_oldNames b_0_wanted b_0_common b_0_flatEdges b_0_upEdges b_0_isPoint b_0_stack b_0_pieceLines b_0_pieceBegins b_0_pieceEnds b_0_pieceLeft b_0_pieceRight b_0_outs b_0_isSeen b_0_ringSpaces b_0_ringStarts b_0_ringSizes b_0_ringLeast b_0_looseLines b_0_looseXs b_0_looseYs b_0_looseReaches b_0_far cI x4 v_0_lines v_0_isFresh v_0_hasRun v_0_runs v_0_nx v_0_ny v_0_spaces v_0_oldNx v_0_oldNy v_0_oldSpaces v_0_points v_0_pieces v_0_rings v_0_outsideSides v_0_looseCount f_0_names) → va_S A s.heap H locs → lv_has ls 2 [] → W p l e rm_Mo_nameOf s m args below meth c H locs 0 0 Q (F0 m 22 ls [.int x9]) := by
    intro H locs ls hP hD hS hl
    cases hm
    exact hret _ H locs ls d_Mo_nameOf_22 hP hD hS
  replace hm := hb7
  refine lv_if_eq (tgt := 21) hx hb d_Mo_nameOf_9 (by decide) (fun c10 => ?_) (fun c10 => ?_)
  · replace hm := if_t hm c10
    refine lv_iconst (v := 0) hx hb d_Mo_nameOf_21 (by decide) ?_
    cases hm
    exact K6 H locs ls hP hD hS (lv_sub hl [] rfl)
  · replace hm := if_f hm c10
    refine lv_aload_n hx hb d_Mo_nameOf_12 rfl (lv_at hl 0 rfl) ?_
    refine va_get (D := (dC, dI)) (ci := 11) (v := .ref a_0_names) (C := "SpaceCyclesModel") (T := F_Mo) (N := 54) hx hb hts (in_F i_Mo) hown hK hP 0 rfl rfl 25 (by decide) (hts _ (in_c k_385)) (fun _ h9 => h9) rfl d_Mo_nameOf_13 ?_
    refine lv_iload_n hx hb d_Mo_nameOf_16 rfl (lv_at hl 1 rfl) ?_
    obtain ⟨hi11, hm⟩ := gI_e hm
    refine va_iald hx hb hK hP 1 0 rfl rfl hi11 d_Mo_nameOf_17 ?_
    refine lv_goto (tgt := 22) hx hb d_Mo_nameOf_18 (by decide) ?_
    cases hm
    exact K6 H locs ls hP hD hS (lv_sub hl [] rfl)
set_option maxHeartbeats 4000000 in
set_option maxRecDepth 100000 in
theorem c_Mo_nameOf (l : Launch) (dC : Nat → ClassId) (dI : Nat → Nat → Nat) {cI cZ cJ : ClassId} (a_0 a_0_names b_0_isFlat b_0_across b_0_lows b_0_highs b_0_thick b_0_doorCounts b_0_doorFrom b_0_doorTo b_0_xs b_0_ys b_0_labels b_0_oldXs b_0_oldYs b_0_oldLabels b_0_oldNames b_0_wanted b_0_common b_0_flatEdges b_0_upEdges b_0_isPoint b_0_stack b_0_pieceLines b_0_pieceBegins b_0_pieceEnds b_0_pieceLeft b_0_pieceRight b_0_outs b_0_isSeen b_0_ringSpaces b_0_ringStarts b_0_ringSizes b_0_ringLeast b_0_looseLines b_0_looseXs b_0_looseYs b_0_looseReaches b_0_far : Nat) (sz : Nat) (v_0_code : Int32) (v_0_lines : Int32) (v_0_isFresh : Int32) (v_0_hasRun : Int32) (v_0_runs : Int32) (v_0_nx : Int32) (v_0_ny : Int32) (v_0_spaces : Int32) (v_0_oldNx : Int32) (v_0_oldNy : Int32) (v_0_oldSpaces : Int32) (v_0_points : Int32) (v_0_pieces : Int32) (v_0_rings : Int32) (v_0_outsideSides : Int32) (v_0_looseCount : Int32) (f_0_names : Nat → Int32) (p1 : Int32) (R0 : Int32) (ov_0_code : Int32) (hm : m_Mo_nameOf p1 v_0_code v_0_isFresh v_0_spaces f_0_names = some (R0, ov_0_code)) : Met l y_Mo_nameOf w_Mo_nameOf rm_Mo_nameOf (PP dC dI [(cI, .int), (cZ, .boolean), (cJ, .long)] [.ref a_0, .int p1] sz (wl_Mo_nameOf a_0 a_0_names b_0_isFlat b_0_across b_0_lows b_0_highs b_0_thick b_0_doorCounts b_0_doorFrom b_0_doorTo b_0_xs b_0_ys b_0_labels b_0_oldXs b_0_oldYs b_0_oldLabels b_0_oldNames b_0_wanted b_0_common b_0_flatEdges b_0_upEdges b_0_isPoint b_0_stack b_0_pieceLines b_0_pieceBegins b_0_pieceEnds b_0_pieceLeft b_0_pieceRight b_0_outs b_0_isSeen b_0_ringSpaces b_0_ringStarts b_0_ringSizes b_0_ringLeast b_0_looseLines b_0_looseXs b_0_looseYs b_0_looseReaches b_0_far cI v_0_code v_0_lines v_0_isFresh v_0_hasRun v_0_runs v_0_nx v_0_ny v_0_spaces v_0_oldNx v_0_oldNy v_0_oldSpaces v_0_points v_0_pieces v_0_rings v_0_outsideSides v_0_looseCount f_0_names)) (QI dC dI [(cI, .int), (cZ, .boolean), (cJ, .long)] sz (wl_Mo_nameOf a_0 a_0_names b_0_isFlat b_0_across b_0_lows b_0_highs b_0_thick b_0_doorCounts b_0_doorFrom b_0_doorTo b_0_xs b_0_ys b_0_labels b_0_oldXs b_0_oldYs b_0_oldLabels b_0_oldNames b_0_wanted b_0_common b_0_flatEdges b_0_upEdges b_0_isPoint b_0_stack b_0_pieceLines b_0_pieceBegins b_0_pieceEnds b_0_pieceLeft b_0_pieceRight b_0_outs b_0_isSeen b_0_ringSpaces b_0_ringStarts b_0_ringSizes b_0_ringLeast b_0_looseLines b_0_looseXs b_0_looseYs b_0_looseReaches b_0_far cI v_0_code v_0_lines v_0_isFresh v_0_hasRun v_0_runs v_0_nx v_0_ny v_0_spaces v_0_oldNx v_0_oldNy v_0_oldSpaces v_0_points v_0_pieces v_0_rings v_0_outsideSides v_0_looseCount f_0_names) (wl_Mo_nameOf a_0 a_0_names b_0_isFlat b_0_across b_0_lows b_0_highs b_0_thick b_0_doorCounts b_0_doorFrom b_0_doorTo b_0_xs b_0_ys b_0_labels b_0_oldXs b_0_oldYs b_0_oldLabels b_0_oldNames b_0_wanted b_0_common b_0_flatEdges b_0_upEdges b_0_isPoint b_0_stack b_0_pieceLines b_0_pieceBegins b_0_pieceEnds b_0_pieceLeft b_0_pieceRight b_0_outs b_0_isSeen b_0_ringSpaces b_0_ringStarts b_0_ringSizes b_0_ringLeast b_0_looseLines b_0_looseXs b_0_looseYs b_0_looseReaches b_0_far cI ov_0_code v_0_lines v_0_isFresh v_0_hasRun v_0_runs v_0_nx v_0_ny v_0_spaces v_0_oldNx v_0_oldNy v_0_oldSpaces v_0_points v_0_pieces v_0_rings v_0_outsideSides v_0_looseCount f_0_names) R0) 0 0 (va_A (wl_Mo_nameOf a_0 a_0_names b_0_isFlat b_0_across b_0_lows b_0_highs b_0_thick b_0_doorCounts b_0_doorFrom b_0_doorTo b_0_xs b_0_ys b_0_labels b_0_oldXs b_0_oldYs b_0_oldLabels b_0_oldNames b_0_wanted b_0_common b_0_flatEdges b_0_upEdges b_0_isPoint b_0_stack b_0_pieceLines b_0_pieceBegins b_0_pieceEnds b_0_pieceLeft b_0_pieceRight b_0_outs b_0_isSeen b_0_ringSpaces b_0_ringStarts b_0_ringSizes b_0_ringLeast b_0_looseLines b_0_looseXs b_0_looseYs b_0_looseReaches b_0_far cI v_0_code v_0_lines v_0_isFresh v_0_hasRun v_0_runs v_0_nx v_0_ny v_0_spaces v_0_oldNx v_0_oldNy v_0_oldSpaces v_0_points v_0_pieces v_0_rings v_0_outsideSides v_0_looseCount f_0_names) sz) := by
  refine Met.ofW (cc := b_Mo_nameOf) (maxL := 2) (ret := (some .int)) (by decide) rfl ?_
  intro p e s m args below meth c s₁ B hml hv
  obtain ⟨rfl, hsz, hP, hK, hD0, hN⟩ := hv
  subst hsz
  have hl := lv_entry ([.ref a_0, .int p1]) (n := 2) (Nat.le_of_ble_eq_true rfl)
  rw [lg_entry_eq]
  generalize (lg_sl ([.ref a_0, .int p1]) ++ List.replicate (2 - (lg_sl ([.ref a_0, .int p1])).length) Slot.unset).toArray = ls at hl ⊢
  exact t_Mo_nameOf a_0 a_0_names b_0_isFlat b_0_across b_0_lows b_0_highs b_0_thick b_0_doorCounts b_0_doorFrom b_0_doorTo b_0_xs b_0_ys b_0_labels b_0_oldXs b_0_oldYs b_0_oldLabels b_0_oldNames b_0_wanted b_0_common b_0_flatEdges b_0_upEdges b_0_isPoint b_0_stack b_0_pieceLines b_0_pieceBegins b_0_pieceEnds b_0_pieceLeft b_0_pieceRight b_0_outs b_0_isSeen b_0_ringSpaces b_0_ringStarts b_0_ringSizes b_0_ringLeast b_0_looseLines b_0_looseXs b_0_looseYs b_0_looseReaches b_0_far v_0_code v_0_lines v_0_isFresh v_0_hasRun v_0_runs v_0_nx v_0_ny v_0_spaces v_0_oldNx v_0_oldNy v_0_oldSpaces v_0_points v_0_pieces v_0_rings v_0_outsideSides v_0_looseCount f_0_names p1 R0 ov_0_code B.exec B.bytes hml (findClass_of_methodNamed B.named) (atoms_spec (ws := w_Mo_nameOf) B.pre) hK hN (fun q h => Or.inr h) (fun pc H locs ls hd hP9 hD9 hS => W.iret B.exec B.bytes B.returns (fun t ht hW => ⟨⟨_, (), rfl, rfl, by rw [ht]; exact hP9, va_K.moved hW.alike hK, hD9⟩, hS.F ht⟩) hS.2.2 hd) hm s.heap [] ls hP hD0.self va_S.rf hl

-- SpaceCyclesModel.overlap(II)I
abbrev b_Mo_overlap : ByteArray := prog_13_method_54_code
abbrev y_Mo_overlap : MethodName := ⟨"SpaceCyclesModel", "overlap", "(II)I"⟩
abbrev w_Mo_overlap : List Cond := Cond.code y_Mo_overlap b_Mo_overlap 3 (some .int) :: gl
abbrev rm_Mo_overlap : Room := { frames := 2, cells := 0, slots := 0, locals := 46 }
theorem d_Mo_overlap_0 : decode b_Mo_overlap 0 = .ok (.aload_n 0, 1) := by decide +kernel
theorem d_Mo_overlap_1 : decode b_Mo_overlap 1 = .ok (.iload_n 1, 1) := by decide +kernel
theorem d_Mo_overlap_2 : decode b_Mo_overlap 2 = .ok (.ifCond .lt 15, 3) := by decide +kernel
theorem d_Mo_overlap_5 : decode b_Mo_overlap 5 = .ok (.aload_n 0, 1) := by decide +kernel
theorem d_Mo_overlap_6 : decode b_Mo_overlap 6 = .ok (.iload_n 2, 1) := by decide +kernel
theorem d_Mo_overlap_7 : decode b_Mo_overlap 7 = .ok (.invokevirtual 275, 3) := by decide +kernel
theorem d_Mo_overlap_10 : decode b_Mo_overlap 10 = .ok (.ifCond .eq 7, 3) := by decide +kernel
theorem d_Mo_overlap_13 : decode b_Mo_overlap 13 = .ok (.iconst 1, 1) := by decide +kernel
theorem d_Mo_overlap_14 : decode b_Mo_overlap 14 = .ok (.goto 4, 3) := by decide +kernel
theorem d_Mo_overlap_17 : decode b_Mo_overlap 17 = .ok (.iconst 0, 1) := by decide +kernel
theorem d_Mo_overlap_18 : decode b_Mo_overlap 18 = .ok (.invokevirtual 271, 3) := by decide +kernel
theorem d_Mo_overlap_21 : decode b_Mo_overlap 21 = .ok (.ifCond .ne 5, 3) := by decide +kernel
theorem d_Mo_overlap_24 : decode b_Mo_overlap 24 = .ok (.iconst 0, 1) := by decide +kernel
theorem d_Mo_overlap_25 : decode b_Mo_overlap 25 = .ok (.ireturn, 1) := by decide +kernel
theorem d_Mo_overlap_26 : decode b_Mo_overlap 26 = .ok (.iload_n 1, 1) := by decide +kernel
theorem d_Mo_overlap_27 : decode b_Mo_overlap 27 = .ok (.aload_n 0, 1) := by decide +kernel
theorem d_Mo_overlap_28 : decode b_Mo_overlap 28 = .ok (.getfield 235, 3) := by decide +kernel
theorem d_Mo_overlap_31 : decode b_Mo_overlap 31 = .ok (.if_icmp .ge 18, 3) := by decide +kernel
theorem d_Mo_overlap_34 : decode b_Mo_overlap 34 = .ok (.aload_n 0, 1) := by decide +kernel
theorem d_Mo_overlap_35 : decode b_Mo_overlap 35 = .ok (.getfield 63, 3) := by decide +kernel
theorem d_Mo_overlap_38 : decode b_Mo_overlap 38 = .ok (.sipush 200, 3) := by decide +kernel
theorem d_Mo_overlap_41 : decode b_Mo_overlap 41 = .ok (.iload_n 1, 1) := by decide +kernel
theorem d_Mo_overlap_42 : decode b_Mo_overlap 42 = .ok (.imul, 1) := by decide +kernel
theorem d_Mo_overlap_43 : decode b_Mo_overlap 43 = .ok (.iload_n 2, 1) := by decide +kernel
theorem d_Mo_overlap_44 : decode b_Mo_overlap 44 = .ok (.iadd, 1) := by decide +kernel
theorem d_Mo_overlap_45 : decode b_Mo_overlap 45 = .ok (.iaload, 1) := by decide +kernel
theorem d_Mo_overlap_46 : decode b_Mo_overlap 46 = .ok (.goto 4, 3) := by decide +kernel
theorem d_Mo_overlap_49 : decode b_Mo_overlap 49 = .ok (.iconst 0, 1) := by decide +kernel
theorem d_Mo_overlap_50 : decode b_Mo_overlap 50 = .ok (.ireturn, 1) := by decide +kernel
abbrev wl_Mo_overlap (a_0 : Nat) (a_0_common : Nat) (b_0_isFlat : Nat) (b_0_across : Nat) (b_0_lows : Nat) (b_0_highs : Nat) (b_0_thick : Nat) (b_0_doorCounts : Nat) (b_0_doorFrom : Nat) (b_0_doorTo : Nat) (b_0_xs : Nat) (b_0_ys : Nat) (b_0_labels : Nat) (b_0_oldXs : Nat) (b_0_oldYs : Nat) (b_0_oldLabels : Nat) (b_0_names : Nat) (b_0_oldNames : Nat) (b_0_wanted : Nat) (b_0_flatEdges : Nat) (b_0_upEdges : Nat) (b_0_isPoint : Nat) (b_0_stack : Nat) (b_0_pieceLines : Nat) (b_0_pieceBegins : Nat) (b_0_pieceEnds : Nat) (b_0_pieceLeft : Nat) (b_0_pieceRight : Nat) (b_0_outs : Nat) (b_0_isSeen : Nat) (b_0_ringSpaces : Nat) (b_0_ringStarts : Nat) (b_0_ringSizes : Nat) (b_0_ringLeast : Nat) (b_0_looseLines : Nat) (b_0_looseXs : Nat) (b_0_looseYs : Nat) (b_0_looseReaches : Nat) (b_0_far : Nat) (cI : ClassId) (v_0_code : Int32) (v_0_lines : Int32) (v_0_isFresh : Int32) (v_0_hasRun : Int32) (v_0_runs : Int32) (v_0_nx : Int32) (v_0_ny : Int32) (v_0_spaces : Int32) (v_0_oldNx : Int32) (v_0_oldNy : Int32) (v_0_oldSpaces : Int32) (v_0_points : Int32) (v_0_pieces : Int32) (v_0_rings : Int32) (v_0_outsideSides : Int32) (v_0_looseCount : Int32) (f_0_common : Nat → Int32) : va_W := [(a_0, .inr (11, [.int v_0_code, .ref b_0_isFlat, .ref b_0_across, .ref b_0_lows, .ref b_0_highs, .ref b_0_thick, .int v_0_lines, .ref b_0_doorCounts, .ref b_0_doorFrom, .ref b_0_doorTo, .int v_0_isFresh, .int v_0_hasRun, .int v_0_runs, .ref b_0_xs, .ref b_0_ys, .int v_0_nx, .int v_0_ny, .ref b_0_labels, .int v_0_spaces, .ref b_0_oldXs, .ref b_0_oldYs, .int v_0_oldNx, .int v_0_oldNy, .ref b_0_oldLabels, .int v_0_oldSpaces, .ref b_0_names, .ref b_0_oldNames, .ref b_0_wanted, .ref a_0_common, .ref b_0_flatEdges, .ref b_0_upEdges, .ref b_0_isPoint, .int v_0_points, .ref b_0_stack, .ref b_0_pieceLines, .ref b_0_pieceBegins, .ref b_0_pieceEnds, .ref b_0_pieceLeft, .ref b_0_pieceRight, .int v_0_pieces, .ref b_0_outs, .ref b_0_isSeen, .ref b_0_ringSpaces, .ref b_0_ringStarts, .ref b_0_ringSizes, .ref b_0_ringLeast, .int v_0_rings, .int v_0_outsideSides, .ref b_0_looseLines, .ref b_0_looseXs, .ref b_0_looseYs, .ref b_0_looseReaches, .int v_0_looseCount, .ref b_0_far])), (a_0_common, .inl (cI, 40000, .inl f_0_common))]
def m_Mo_overlap (p1 : Int32) (p2 : Int32) (v_0_code : Int32) (v_0_isFresh : Int32) (v_0_spaces : Int32) (v_0_oldSpaces : Int32) (f_0_common : Nat → Int32) : Option (Int32 × (Int32)) :=
  bd1 (
    if p1 < 0 then (
    some 0)
  else (
    bd1 (m_Mo_isSpace p2 v_0_spaces) fun r6 =>
    if r6 = 0 then (
      some 0)
    else (
      some 1)))
  fun (x4 : Int32) =>
  bd2 (m_Mo_goes x4 v_0_code v_0_isFresh) fun r9 x10 =>
    if r9 = 0 then (
      some (0, x10))
    else (
      bd1 (
        if v_0_oldSpaces ≤ p1 then (
        some 0)
      else (
        gI ((200 * p1) + p2) 40000 <|
        some (f_0_common ((200 * p1) + p2).toNatClampNeg)))
      fun (x16 : Int32) =>
      some (x16, x10))

set_option maxHeartbeats 4000000 in
set_option maxRecDepth 100000 in
theorem t_Mo_overlap {p : Program} {l : Launch} {e : Env} {s : State} {m : MethodId} {args : Array Value} {below : List Frame} {meth : Method} {c : Code} {A : Nat → Prop} {Q : State → Prop} {dC : Nat → ClassId} {dI : Nat → Nat → Nat} {cI cZ cJ : ClassId} (a_0 a_0_common b_0_isFlat b_0_across b_0_lows b_0_highs b_0_thick b_0_doorCounts b_0_doorFrom b_0_doorTo b_0_xs b_0_ys b_0_labels b_0_oldXs b_0_oldYs b_0_oldLabels b_0_names b_0_oldNames b_0_wanted b_0_flatEdges b_0_upEdges b_0_isPoint b_0_stack b_0_pieceLines b_0_pieceBegins b_0_pieceEnds b_0_pieceLeft b_0_pieceRight b_0_outs b_0_isSeen b_0_ringSpaces b_0_ringStarts b_0_ringSizes b_0_ringLeast b_0_looseLines b_0_looseXs b_0_looseYs b_0_looseReaches b_0_far : Nat) (v_0_code : Int32) (v_0_lines : Int32) (v_0_isFresh : Int32) (v_0_hasRun : Int32) (v_0_runs : Int32) (v_0_nx : Int32) (v_0_ny : Int32) (v_0_spaces : Int32) (v_0_oldNx : Int32) (v_0_oldNy : Int32) (v_0_oldSpaces : Int32) (v_0_points : Int32) (v_0_pieces : Int32) (v_0_rings : Int32) (v_0_outsideSides : Int32) (v_0_looseCount : Int32) (f_0_common : Nat → Int32) (p1 : Int32) (p2 : Int32) (R0 : Int32) (ov_0_code : Int32) (hx : p.tables.exec = Jvm.exec) (hb : c.code = b_Mo_overlap) (hml : c.maxLocals = 3) (hown : s.vm.findClass "SpaceCyclesModel" = some m.cls) (hts : ∀ w ∈ w_Mo_overlap, w.before args s = true) (hK : va_K (dC, dI) vwCl [(cI, .int), (cZ, .boolean), (cJ, .long)] s) (hN : NX s) (hA : ∀ q : Nat, s.heap.size ≤ q → A q)
    (hret : ∀ (pc : Nat) (H : Heap) (locs : List Loc) (ls : Array Slot), decode b_Mo_overlap pc = .ok (.ireturn, 1) → va_P (dC, dI) vwCl (wl_Mo_overlap a_0 a_0_common b_0_isFlat b_0_across b_0_lows b_0_highs b_0_thick b_0_doorCounts b_0_doorFrom b_0_doorTo b_0_xs b_0_ys b_0_labels b_0_oldXs b_0_oldYs b_0_oldLabels b_0_names b_0_oldNames b_0_wanted b_0_flatEdges b_0_upEdges b_0_isPoint b_0_stack b_0_pieceLines b_0_pieceBegins b_0_pieceEnds b_0_pieceLeft b_0_pieceRight b_0_outs b_0_isSeen b_0_ringSpaces b_0_ringStarts b_0_ringSizes b_0_ringLeast b_0_looseLines b_0_looseXs b_0_looseYs b_0_looseReaches b_0_far cI ov_0_code v_0_lines v_0_isFresh v_0_hasRun v_0_runs v_0_nx v_0_ny v_0_spaces v_0_oldNx v_0_oldNy v_0_oldSpaces v_0_points v_0_pieces v_0_rings v_0_outsideSides v_0_looseCount f_0_common) H → va_D A (wl_Mo_overlap a_0 a_0_common b_0_isFlat b_0_across b_0_lows b_0_highs b_0_thick b_0_doorCounts b_0_doorFrom b_0_doorTo b_0_xs b_0_ys b_0_labels b_0_oldXs b_0_oldYs b_0_oldLabels b_0_names b_0_oldNames b_0_wanted b_0_flatEdges b_0_upEdges b_0_isPoint b_0_stack b_0_pieceLines b_0_pieceBegins b_0_pieceEnds b_0_pieceLeft b_0_pieceRight b_0_outs b_0_isSeen b_0_ringSpaces b_0_ringStarts b_0_ringSizes b_0_ringLeast b_0_looseLines b_0_looseXs b_0_looseYs b_0_looseReaches b_0_far cI ov_0_code v_0_lines v_0_isFresh v_0_hasRun v_0_runs v_0_nx v_0_ny v_0_spaces v_0_oldNx v_0_oldNy v_0_oldSpaces v_0_points v_0_pieces v_0_rings v_0_outsideSides v_0_looseCount f_0_common) → va_S A s.heap H locs → W p l e rm_Mo_overlap s m args below meth c H locs 0 0 Q (F0 m pc ls [.int R0]))
    (hm : m_Mo_overlap p1 p2 v_0_code v_0_isFresh v_0_spaces v_0_oldSpaces f_0_common = some (R0, ov_0_code)) : ∀ (H : Heap) (locs : List Loc) (ls : Array Slot), va_P (dC, dI) vwCl (wl_Mo_overlap a_0 a_0_common b_0_isFlat b_0_across b_0_lows b_0_highs b_0_thick b_0_doorCounts b_0_doorFrom b_0_doorTo b_0_xs b_0_ys b_0_labels b_0_oldXs b_0_oldYs b_0_oldLabels b_0_names b_0_oldNames b_0_wanted b_0_flatEdges b_0_upEdges b_0_isPoint b_0_stack b_0_pieceLines b_0_pieceBegins b_0_pieceEnds b_0_pieceLeft b_0_pieceRight b_0_outs b_0_isSeen b_0_ringSpaces b_0_ringStarts b_0_ringSizes b_0_ringLeast b_0_looseLines b_0_looseXs b_0_looseYs b_0_looseReaches b_0_far cI v_0_code v_0_lines v_0_isFresh v_0_hasRun v_0_runs v_0_nx v_0_ny v_0_spaces v_0_oldNx v_0_oldNy v_0_oldSpaces v_0_points v_0_pieces v_0_rings v_0_outsideSides v_0_looseCount f_0_common) H → va_D A (wl_Mo_overlap a_0 a_0_common b_0_isFlat b_0_across b_0_lows b_0_highs b_0_thick b_0_doorCounts b_0_doorFrom b_0_doorTo b_0_xs b_0_ys b_0_labels b_0_oldXs b_0_oldYs b_0_oldLabels b_0_names b_0_oldNames b_0_wanted b_0_flatEdges b_0_upEdges b_0_isPoint b_0_stack b_0_pieceLines b_0_pieceBegins b_0_pieceEnds b_0_pieceLeft b_0_pieceRight b_0_outs b_0_isSeen b_0_ringSpaces b_0_ringStarts b_0_ringSizes b_0_ringLeast b_0_looseLines b_0_looseXs b_0_looseYs b_0_looseReaches b_0_far cI v_0_code v_0_lines v_0_isFresh v_0_hasRun v_0_runs v_0_nx v_0_ny v_0_spaces v_0_oldNx v_0_oldNy v_0_oldSpaces v_0_points v_0_pieces v_0_rings v_0_outsideSides v_0_looseCount f_0_common) → va_S A s.heap H locs → lv_has ls 3 [(0, .ref a_0), (1, .int p1), (2, .int p2)] → W p l e rm_Mo_overlap s m args below meth c H locs 0 0 Q (F0 m 0 ls []) := by
  intro H locs ls hP hD hS hl
  unfold m_Mo_overlap at hm
  refine lv_aload_n hx hb d_Mo_overlap_0 rfl (lv_at hl 0 rfl) ?_
  refine lv_iload_n hx hb d_Mo_overlap_1 rfl (lv_at hl 1 rfl) ?_
  obtain ⟨x4, hb2, hm⟩ := bd1_e hm
  have K1 : ∀ (H : Heap) (locs : List Loc) (ls : Array Slot), va_P (dC, dI) vwCl (wl_Mo_overlap a_0 a_0_common b_0_isFlat b_0_across b_0_lows b_0_highs b_0_thick b_0_doorCounts b_0_doorFrom b_0_doorTo b_0_xs b_0_ys b_0_labels b_0_oldXs b_0_oldYs b_0_oldLabels b_0_names b_0_oldNames b_0_wanted b_0_flatEdges b_0_upEdges b_0_isPoint b_0_stack b_0_pieceLines b_0_pieceBegins b_0_pieceEnds b_0_pieceLeft b_0_pieceRight b_0_outs b_0_isSeen b_0_ringSpaces b_0_ringStarts b_0_ringSizes b_0_ringLeast b_0_looseLines b_0_looseXs b_0_looseYs b_0_looseReaches b_0_far cI v_0_code v_0_lines v_0_isFresh v_0_hasRun v_0_runs v_0_nx v_0_ny v_0_spaces v_0_oldNx v_0_oldNy v_0_oldSpaces v_0_points v_0_pieces v_0_rings v_0_outsideSides v_0_looseCount f_0_common) H → va_D A (wl_Mo_overlap a_0 a_0_common b_0_isFlat b_0_across b_0_lows b_0_highs b_0_thick b_0_doorCounts b_0_doorFrom b_0_doorTo b_0_xs b_0_ys b_0_labels b_0_oldXs b_0_oldYs b_0_oldLabels b_0_names b_0_oldNames b_0_wanted b_0_flatEdges b_0_upEdges b_0_isPoint b_0_stack b_0_pieceLines b_0_pieceBegins b_0_pieceEnds b_0_pieceLeft b_0_pieceRight b_0_outs b_0_isSeen b_0_ringSpaces b_0_ringStarts b_0_ringSizes b_0_ringLeast b_0_looseLines b_0_looseXs b_0_looseYs b_0_looseReaches b_0_far cI v_0_code v_0_lines v_0_isFresh v_0_hasRun v_0_runs v_0_nx v_0_ny v_0_spaces v_0_oldNx v_0_oldNy v_0_oldSpaces v_0_points v_0_pieces v_0_rings v_0_outsideSides v_0_looseCount f_0_common) → va_S A s.heap H locs → lv_has ls 3 [(0, .ref a_0), (1, .int p1), (2, .int p2)] → W p l e rm_Mo_overlap s m args below meth c H locs 0 0 Q (F0 m 18 ls [.int x4, .ref a_0]) := by
    intro H locs ls hP hD hS hl
    obtain ⟨r9, x10, hb11, hm⟩ := bd2_e hm
    have hPc := hP.sub (ws' := (wl_Mo_goes a_0 b_0_isFlat b_0_across b_0_lows b_0_highs b_0_thick b_0_doorCounts b_0_doorFrom b_0_doorTo b_0_xs b_0_ys b_0_labels b_0_oldXs b_0_oldYs b_0_oldLabels b_0_names b_0_oldNames b_0_wanted a_0_common b_0_flatEdges b_0_upEdges b_0_isPoint b_0_stack b_0_pieceLines b_0_pieceBegins b_0_pieceEnds b_0_pieceLeft b_0_pieceRight b_0_outs b_0_isSeen b_0_ringSpaces b_0_ringStarts b_0_ringSizes b_0_ringLeast b_0_looseLines b_0_looseXs b_0_looseYs b_0_looseReaches b_0_far v_0_code v_0_lines v_0_isFresh v_0_hasRun v_0_runs v_0_nx v_0_ny v_0_spaces v_0_oldNx v_0_oldNy v_0_oldSpaces v_0_points v_0_pieces v_0_rings v_0_outsideSides v_0_looseCount)) [0] rfl
    have hDc := hD.sub (ws' := (wl_Mo_goes a_0 b_0_isFlat b_0_across b_0_lows b_0_highs b_0_thick b_0_doorCounts b_0_doorFrom b_0_doorTo b_0_xs b_0_ys b_0_labels b_0_oldXs b_0_oldYs b_0_oldLabels b_0_names b_0_oldNames b_0_wanted a_0_common b_0_flatEdges b_0_upEdges b_0_isPoint b_0_stack b_0_pieceLines b_0_pieceBegins b_0_pieceEnds b_0_pieceLeft b_0_pieceRight b_0_outs b_0_isSeen b_0_ringSpaces b_0_ringStarts b_0_ringSizes b_0_ringLeast b_0_looseLines b_0_looseXs b_0_looseYs b_0_looseReaches b_0_far v_0_code v_0_lines v_0_isFresh v_0_hasRun v_0_runs v_0_nx v_0_ny v_0_spaces v_0_oldNx v_0_oldNy v_0_oldSpaces v_0_points v_0_pieces v_0_rings v_0_outsideSides v_0_looseCount)) [0] (by decide) rfl
    refine cl_i (wc' := (wl_Mo_goes a_0 b_0_isFlat b_0_across b_0_lows b_0_highs b_0_thick b_0_doorCounts b_0_doorFrom b_0_doorTo b_0_xs b_0_ys b_0_labels b_0_oldXs b_0_oldYs b_0_oldLabels b_0_names b_0_oldNames b_0_wanted a_0_common b_0_flatEdges b_0_upEdges b_0_isPoint b_0_stack b_0_pieceLines b_0_pieceBegins b_0_pieceEnds b_0_pieceLeft b_0_pieceRight b_0_outs b_0_isSeen b_0_ringSpaces b_0_ringStarts b_0_ringSizes b_0_ringLeast b_0_looseLines b_0_looseXs b_0_looseYs b_0_looseReaches b_0_far x10 v_0_lines v_0_isFresh v_0_hasRun v_0_runs v_0_nx v_0_ny v_0_spaces v_0_oldNx v_0_oldNy v_0_oldSpaces v_0_points v_0_pieces v_0_rings v_0_outsideSides v_0_looseCount)) (va_runV (As := [.int x4]) (rest := []) ⟨hx, hb, hml, hown, hts⟩ (c_Mo_goes l dC dI (cI := cI) (cZ := cZ) (cJ := cJ) a_0 b_0_isFlat b_0_across b_0_lows b_0_highs b_0_thick b_0_doorCounts b_0_doorFrom b_0_doorTo b_0_xs b_0_ys b_0_labels b_0_oldXs b_0_oldYs b_0_oldLabels b_0_names b_0_oldNames b_0_wanted a_0_common b_0_flatEdges b_0_upEdges b_0_isPoint b_0_stack b_0_pieceLines b_0_pieceBegins b_0_pieceEnds b_0_pieceLeft b_0_pieceRight b_0_outs b_0_isSeen b_0_ringSpaces b_0_ringStarts b_0_ringSizes b_0_ringLeast b_0_looseLines b_0_looseXs b_0_looseYs b_0_looseReaches b_0_far H.size v_0_code v_0_lines v_0_isFresh v_0_hasRun v_0_runs v_0_nx v_0_ny v_0_spaces v_0_oldNx v_0_oldNy v_0_oldSpaces v_0_points v_0_pieces v_0_rings v_0_outsideSides v_0_looseCount x4 r9 x10 hb11) (cwV 1 hts (gl_V k_426 k_425 k_424 k_277 k_423) rfl rfl rfl (by decide +kernel) ⟨Nat.le_of_ble_eq_true rfl, Nat.le_of_ble_eq_true rfl⟩) ⟨PP_blind, va_recv hK hPc (ci := 11) (q0 := 0) rfl rfl, fun U hU hW => PP_at hK hN hPc hDc hU hW⟩ rfl rfl hl.1 rfl (lv_room (Nat.le_of_ble_eq_true rfl)) d_Mo_overlap_18 ⟨Nat.zero_le _, Nat.zero_le _⟩) hP hD hS hA [0] [1] rfl rfl (by decide) (by decide) (fun H locs hP hD hS => ?_)
    have hP : va_P (dC, dI) vwCl (wl_Mo_overlap a_0 a_0_common b_0_isFlat b_0_across b_0_lows b_0_highs b_0_thick b_0_doorCounts b_0_doorFrom b_0_doorTo b_0_xs b_0_ys b_0_labels b_0_oldXs b_0_oldYs b_0_oldLabels b_0_names b_0_oldNames b_0_wanted b_0_flatEdges b_0_upEdges b_0_isPoint b_0_stack b_0_pieceLines b_0_pieceBegins b_0_pieceEnds b_0_pieceLeft b_0_pieceRight b_0_outs b_0_isSeen b_0_ringSpaces b_0_ringStarts b_0_ringSizes b_0_ringLeast b_0_looseLines b_0_looseXs b_0_looseYs b_0_looseReaches b_0_far cI x10 v_0_lines v_0_isFresh v_0_hasRun v_0_runs v_0_nx v_0_ny v_0_spaces v_0_oldNx v_0_oldNy v_0_oldSpaces v_0_points v_0_pieces v_0_rings v_0_outsideSides v_0_looseCount f_0_common) H := hP.sub [1, 0] rfl
    have hD : va_D A (wl_Mo_overlap a_0 a_0_common b_0_isFlat b_0_across b_0_lows b_0_highs b_0_thick b_0_doorCounts b_0_doorFrom b_0_doorTo b_0_xs b_0_ys b_0_labels b_0_oldXs b_0_oldYs b_0_oldLabels b_0_names b_0_oldNames b_0_wanted b_0_flatEdges b_0_upEdges b_0_isPoint b_0_stack b_0_pieceLines b_0_pieceBegins b_0_pieceEnds b_0_pieceLeft b_0_pieceRight b_0_outs b_0_isSeen b_0_ringSpaces b_0_ringStarts b_0_ringSizes b_0_ringLeast b_0_looseLines b_0_looseXs b_0_looseYs b_0_looseReaches b_0_far cI x10 v_0_lines v_0_isFresh v_0_hasRun v_0_runs v_0_nx v_0_ny v_0_spaces v_0_oldNx v_0_oldNy v_0_oldSpaces v_0_points v_0_pieces v_0_rings v_0_outsideSides v_0_looseCount f_0_common) := hD.sub [1, 0] (by decide) rfl
    refine lv_if_ne (tgt := 26) hx hb d_Mo_overlap_21 (by decide) (fun c12 => ?_) (fun c12 => ?_)
    · replace hm := if_f hm c12
      refine lv_iload_n hx hb d_Mo_overlap_26 rfl (lv_at hl 1 rfl) ?_
      refine lv_aload_n hx hb d_Mo_overlap_27 rfl (lv_at hl 0 rfl) ?_
      refine va_get (D := (dC, dI)) (ci := 11) (v := .int v_0_oldSpaces) (C := "SpaceCyclesModel") (T := F_Mo) (N := 54) hx hb hts (in_F i_Mo) hown hK hP 0 rfl rfl 24 (by decide) (hts _ (in_c k_387)) (fun _ h9 => h9) rfl d_Mo_overlap_28 ?_
      obtain ⟨x16, hb14, hm⟩ := bd1_e hm
      have K13 : ∀ (H : Heap) (locs : List Loc) (ls : Array Slot), va_P (dC, dI) vwCl (wl_Mo_overlap a_0 a_0_common b_0_isFlat b_0_across b_0_lows b_0_highs b_0_thick b_0_doorCounts b_0_doorFrom b_0_doorTo b_0_xs b_0_ys b_0_labels b_0_oldXs b_0_oldYs b_0_oldLabels b_0_names b_0_oldNames b_0_wanted b_0_flatEdges b_0_upEdges b_0_isPoint b_0_stack b_0_pieceLines b_0_pieceBegins b_0_pieceEnds b_0_pieceLeft b_0_pieceRight b_0_outs b_0_isSeen b_0_ringSpaces b_0_ringStarts b_0_ringSizes b_0_ringLeast b_0_looseLines b_0_looseXs b_0_looseYs b_0_looseReaches b_0_far cI x10 v_0_lines v_0_isFresh v_0_hasRun v_0_runs v_0_nx v_0_ny v_0_spaces v_0_oldNx v_0_oldNy v_0_oldSpaces v_0_points v_0_pieces v_0_rings v_0_outsideSides v_0_looseCount f_0_common) H → va_D A (wl_Mo_overlap a_0 a_0_common b_0_isFlat b_0_across b_0_lows b_0_highs b_0_thick b_0_doorCounts b_0_doorFrom b_0_doorTo b_0_xs b_0_ys b_0_labels b_0_oldXs b_0_oldYs b_0_oldLabels b_0_names b_0_oldNames b_0_wanted b_0_flatEdges b_0_upEdges b_0_isPoint b_0_stack b_0_pieceLines b_0_pieceBegins b_0_pieceEnds b_0_pieceLeft b_0_pieceRight b_0_outs b_0_isSeen b_0_ringSpaces b_0_ringStarts b_0_ringSizes b_0_ringLeast b_0_looseLines b_0_looseXs b_0_looseYs b_0_looseReaches b_0_far cI x10 v_0_lines v_0_isFresh v_0_hasRun v_0_runs v_0_nx v_0_ny v_0_spaces v_0_oldNx v_0_oldNy v_0_oldSpaces v_0_points v_0_pieces v_0_rings v_0_outsideSides v_0_looseCount f_0_common) → va_S A s.heap H locs → lv_has ls 3 [] → W p l e rm_Mo_overlap s m args below meth c H locs 0 0 Q (F0 m 50 ls [.int x16]) := by
        intro H locs ls hP hD hS hl
        cases hm
        exact hret _ H locs ls d_Mo_overlap_50 hP hD hS
      replace hm := hb14
      refine lv_icmp_ge (tgt := 49) hx hb d_Mo_overlap_31 (by decide) (fun c17 => ?_) (fun c17 => ?_)
      · replace hm := if_t hm c17
        refine lv_iconst (v := 0) hx hb d_Mo_overlap_49 (by decide) ?_
        cases hm
        exact K13 H locs ls hP hD hS (lv_sub hl [] rfl)
      · replace hm := if_f hm c17
        refine lv_aload_n hx hb d_Mo_overlap_34 rfl (lv_at hl 0 rfl) ?_
        refine va_get (D := (dC, dI)) (ci := 11) (v := .ref a_0_common) (C := "SpaceCyclesModel") (T := F_Mo) (N := 54) hx hb hts (in_F i_Mo) hown hK hP 0 rfl rfl 28 (by decide) (hts _ (in_c k_374)) (fun _ h9 => h9) rfl d_Mo_overlap_35 ?_
        refine lv_sipush (v := 200) hx hb d_Mo_overlap_38 (by decide) ?_
        refine lv_iload_n hx hb d_Mo_overlap_41 rfl (lv_at hl 1 rfl) ?_
        refine lv_imul hx hb d_Mo_overlap_42 ?_
        refine lv_iload_n hx hb d_Mo_overlap_43 rfl (lv_at hl 2 rfl) ?_
        refine lv_iadd hx hb d_Mo_overlap_44 ?_
        obtain ⟨hi18, hm⟩ := gI_e hm
        refine va_iald hx hb hK hP 1 0 rfl rfl hi18 d_Mo_overlap_45 ?_
        refine lv_goto (tgt := 50) hx hb d_Mo_overlap_46 (by decide) ?_
        cases hm
        exact K13 H locs ls hP hD hS (lv_sub hl [] rfl)
    · replace hm := if_t hm c12
      refine lv_iconst (v := 0) hx hb d_Mo_overlap_24 (by decide) ?_
      cases hm
      exact hret _ H locs ls d_Mo_overlap_25 hP hD hS
  replace hm := hb2
  refine lv_if_lt (tgt := 17) hx hb d_Mo_overlap_2 (by decide) (fun c5 => ?_) (fun c5 => ?_)
  · replace hm := if_t hm c5
    refine lv_iconst (v := 0) hx hb d_Mo_overlap_17 (by decide) ?_
    cases hm
    exact K1 H locs ls hP hD hS (lv_sub hl [0, 1, 2] rfl)
  · replace hm := if_f hm c5
    refine lv_aload_n hx hb d_Mo_overlap_5 rfl (lv_at hl 0 rfl) ?_
    refine lv_iload_n hx hb d_Mo_overlap_6 rfl (lv_at hl 2 rfl) ?_
    obtain ⟨r6, hb7, hm⟩ := bd1_e hm
    have hPc := hP.sub (ws' := (wl_Mo_isSpace a_0 b_0_isFlat b_0_across b_0_lows b_0_highs b_0_thick b_0_doorCounts b_0_doorFrom b_0_doorTo b_0_xs b_0_ys b_0_labels b_0_oldXs b_0_oldYs b_0_oldLabels b_0_names b_0_oldNames b_0_wanted a_0_common b_0_flatEdges b_0_upEdges b_0_isPoint b_0_stack b_0_pieceLines b_0_pieceBegins b_0_pieceEnds b_0_pieceLeft b_0_pieceRight b_0_outs b_0_isSeen b_0_ringSpaces b_0_ringStarts b_0_ringSizes b_0_ringLeast b_0_looseLines b_0_looseXs b_0_looseYs b_0_looseReaches b_0_far v_0_code v_0_lines v_0_isFresh v_0_hasRun v_0_runs v_0_nx v_0_ny v_0_spaces v_0_oldNx v_0_oldNy v_0_oldSpaces v_0_points v_0_pieces v_0_rings v_0_outsideSides v_0_looseCount)) [0] rfl
    have hDc := hD.sub (ws' := (wl_Mo_isSpace a_0 b_0_isFlat b_0_across b_0_lows b_0_highs b_0_thick b_0_doorCounts b_0_doorFrom b_0_doorTo b_0_xs b_0_ys b_0_labels b_0_oldXs b_0_oldYs b_0_oldLabels b_0_names b_0_oldNames b_0_wanted a_0_common b_0_flatEdges b_0_upEdges b_0_isPoint b_0_stack b_0_pieceLines b_0_pieceBegins b_0_pieceEnds b_0_pieceLeft b_0_pieceRight b_0_outs b_0_isSeen b_0_ringSpaces b_0_ringStarts b_0_ringSizes b_0_ringLeast b_0_looseLines b_0_looseXs b_0_looseYs b_0_looseReaches b_0_far v_0_code v_0_lines v_0_isFresh v_0_hasRun v_0_runs v_0_nx v_0_ny v_0_spaces v_0_oldNx v_0_oldNy v_0_oldSpaces v_0_points v_0_pieces v_0_rings v_0_outsideSides v_0_looseCount)) [0] (by decide) rfl
    refine cl_i (wc' := (wl_Mo_isSpace a_0 b_0_isFlat b_0_across b_0_lows b_0_highs b_0_thick b_0_doorCounts b_0_doorFrom b_0_doorTo b_0_xs b_0_ys b_0_labels b_0_oldXs b_0_oldYs b_0_oldLabels b_0_names b_0_oldNames b_0_wanted a_0_common b_0_flatEdges b_0_upEdges b_0_isPoint b_0_stack b_0_pieceLines b_0_pieceBegins b_0_pieceEnds b_0_pieceLeft b_0_pieceRight b_0_outs b_0_isSeen b_0_ringSpaces b_0_ringStarts b_0_ringSizes b_0_ringLeast b_0_looseLines b_0_looseXs b_0_looseYs b_0_looseReaches b_0_far v_0_code v_0_lines v_0_isFresh v_0_hasRun v_0_runs v_0_nx v_0_ny v_0_spaces v_0_oldNx v_0_oldNy v_0_oldSpaces v_0_points v_0_pieces v_0_rings v_0_outsideSides v_0_looseCount)) (va_runV (As := [.int p2]) (rest := [.ref a_0]) ⟨hx, hb, hml, hown, hts⟩ (c_Mo_isSpace l dC dI (cI := cI) (cZ := cZ) (cJ := cJ) a_0 b_0_isFlat b_0_across b_0_lows b_0_highs b_0_thick b_0_doorCounts b_0_doorFrom b_0_doorTo b_0_xs b_0_ys b_0_labels b_0_oldXs b_0_oldYs b_0_oldLabels b_0_names b_0_oldNames b_0_wanted a_0_common b_0_flatEdges b_0_upEdges b_0_isPoint b_0_stack b_0_pieceLines b_0_pieceBegins b_0_pieceEnds b_0_pieceLeft b_0_pieceRight b_0_outs b_0_isSeen b_0_ringSpaces b_0_ringStarts b_0_ringSizes b_0_ringLeast b_0_looseLines b_0_looseXs b_0_looseYs b_0_looseReaches b_0_far H.size v_0_code v_0_lines v_0_isFresh v_0_hasRun v_0_runs v_0_nx v_0_ny v_0_spaces v_0_oldNx v_0_oldNy v_0_oldSpaces v_0_points v_0_pieces v_0_rings v_0_outsideSides v_0_looseCount p2 r6 hb7) (cwV 1 hts (gl_V k_430 k_429 k_428 k_277 k_427) rfl rfl rfl (by decide +kernel) ⟨Nat.le_of_ble_eq_true rfl, Nat.le_of_ble_eq_true rfl⟩) ⟨PP_blind, va_recv hK hPc (ci := 11) (q0 := 0) rfl rfl, fun U hU hW => PP_at hK hN hPc hDc hU hW⟩ rfl rfl hl.1 rfl (lv_room (Nat.le_of_ble_eq_true rfl)) d_Mo_overlap_7 ⟨Nat.zero_le _, Nat.zero_le _⟩) hP hD hS hA [0] [1] rfl rfl (by decide) (by decide) (fun H locs hP hD hS => ?_)
    have hP : va_P (dC, dI) vwCl (wl_Mo_overlap a_0 a_0_common b_0_isFlat b_0_across b_0_lows b_0_highs b_0_thick b_0_doorCounts b_0_doorFrom b_0_doorTo b_0_xs b_0_ys b_0_labels b_0_oldXs b_0_oldYs b_0_oldLabels b_0_names b_0_oldNames b_0_wanted b_0_flatEdges b_0_upEdges b_0_isPoint b_0_stack b_0_pieceLines b_0_pieceBegins b_0_pieceEnds b_0_pieceLeft b_0_pieceRight b_0_outs b_0_isSeen b_0_ringSpaces b_0_ringStarts b_0_ringSizes b_0_ringLeast b_0_looseLines b_0_looseXs b_0_looseYs b_0_looseReaches b_0_far cI v_0_code v_0_lines v_0_isFresh v_0_hasRun v_0_runs v_0_nx v_0_ny v_0_spaces v_0_oldNx v_0_oldNy v_0_oldSpaces v_0_points v_0_pieces v_0_rings v_0_outsideSides v_0_looseCount f_0_common) H := hP.sub [1, 0] rfl
    have hD : va_D A (wl_Mo_overlap a_0 a_0_common b_0_isFlat b_0_across b_0_lows b_0_highs b_0_thick b_0_doorCounts b_0_doorFrom b_0_doorTo b_0_xs b_0_ys b_0_labels b_0_oldXs b_0_oldYs b_0_oldLabels b_0_names b_0_oldNames b_0_wanted b_0_flatEdges b_0_upEdges b_0_isPoint b_0_stack b_0_pieceLines b_0_pieceBegins b_0_pieceEnds b_0_pieceLeft b_0_pieceRight b_0_outs b_0_isSeen b_0_ringSpaces b_0_ringStarts b_0_ringSizes b_0_ringLeast b_0_looseLines b_0_looseXs b_0_looseYs b_0_looseReaches b_0_far cI v_0_code v_0_lines v_0_isFresh v_0_hasRun v_0_runs v_0_nx v_0_ny v_0_spaces v_0_oldNx v_0_oldNy v_0_oldSpaces v_0_points v_0_pieces v_0_rings v_0_outsideSides v_0_looseCount f_0_common) := hD.sub [1, 0] (by decide) rfl
    refine lv_if_eq (tgt := 17) hx hb d_Mo_overlap_10 (by decide) (fun c8 => ?_) (fun c8 => ?_)
    · replace hm := if_t hm c8
      refine lv_iconst (v := 0) hx hb d_Mo_overlap_17 (by decide) ?_
      cases hm
      exact K1 H locs ls hP hD hS (lv_sub hl [0, 1, 2] rfl)
    · replace hm := if_f hm c8
      refine lv_iconst (v := 1) hx hb d_Mo_overlap_13 (by decide) ?_
      refine lv_goto (tgt := 18) hx hb d_Mo_overlap_14 (by decide) ?_
      cases hm
      exact K1 H locs ls hP hD hS (lv_sub hl [0, 1, 2] rfl)
set_option maxHeartbeats 4000000 in
set_option maxRecDepth 100000 in
theorem c_Mo_overlap (l : Launch) (dC : Nat → ClassId) (dI : Nat → Nat → Nat) {cI cZ cJ : ClassId} (a_0 a_0_common b_0_isFlat b_0_across b_0_lows b_0_highs b_0_thick b_0_doorCounts b_0_doorFrom b_0_doorTo b_0_xs b_0_ys b_0_labels b_0_oldXs b_0_oldYs b_0_oldLabels b_0_names b_0_oldNames b_0_wanted b_0_flatEdges b_0_upEdges b_0_isPoint b_0_stack b_0_pieceLines b_0_pieceBegins b_0_pieceEnds b_0_pieceLeft b_0_pieceRight b_0_outs b_0_isSeen b_0_ringSpaces b_0_ringStarts b_0_ringSizes b_0_ringLeast b_0_looseLines b_0_looseXs b_0_looseYs b_0_looseReaches b_0_far : Nat) (sz : Nat) (v_0_code : Int32) (v_0_lines : Int32) (v_0_isFresh : Int32) (v_0_hasRun : Int32) (v_0_runs : Int32) (v_0_nx : Int32) (v_0_ny : Int32) (v_0_spaces : Int32) (v_0_oldNx : Int32) (v_0_oldNy : Int32) (v_0_oldSpaces : Int32) (v_0_points : Int32) (v_0_pieces : Int32) (v_0_rings : Int32) (v_0_outsideSides : Int32) (v_0_looseCount : Int32) (f_0_common : Nat → Int32) (p1 : Int32) (p2 : Int32) (R0 : Int32) (ov_0_code : Int32) (hm : m_Mo_overlap p1 p2 v_0_code v_0_isFresh v_0_spaces v_0_oldSpaces f_0_common = some (R0, ov_0_code)) : Met l y_Mo_overlap w_Mo_overlap rm_Mo_overlap (PP dC dI [(cI, .int), (cZ, .boolean), (cJ, .long)] [.ref a_0, .int p1, .int p2] sz (wl_Mo_overlap a_0 a_0_common b_0_isFlat b_0_across b_0_lows b_0_highs b_0_thick b_0_doorCounts b_0_doorFrom b_0_doorTo b_0_xs b_0_ys b_0_labels b_0_oldXs b_0_oldYs b_0_oldLabels b_0_names b_0_oldNames b_0_wanted b_0_flatEdges b_0_upEdges b_0_isPoint b_0_stack b_0_pieceLines b_0_pieceBegins b_0_pieceEnds b_0_pieceLeft b_0_pieceRight b_0_outs b_0_isSeen b_0_ringSpaces b_0_ringStarts b_0_ringSizes b_0_ringLeast b_0_looseLines b_0_looseXs b_0_looseYs b_0_looseReaches b_0_far cI v_0_code v_0_lines v_0_isFresh v_0_hasRun v_0_runs v_0_nx v_0_ny v_0_spaces v_0_oldNx v_0_oldNy v_0_oldSpaces v_0_points v_0_pieces v_0_rings v_0_outsideSides v_0_looseCount f_0_common)) (QI dC dI [(cI, .int), (cZ, .boolean), (cJ, .long)] sz (wl_Mo_overlap a_0 a_0_common b_0_isFlat b_0_across b_0_lows b_0_highs b_0_thick b_0_doorCounts b_0_doorFrom b_0_doorTo b_0_xs b_0_ys b_0_labels b_0_oldXs b_0_oldYs b_0_oldLabels b_0_names b_0_oldNames b_0_wanted b_0_flatEdges b_0_upEdges b_0_isPoint b_0_stack b_0_pieceLines b_0_pieceBegins b_0_pieceEnds b_0_pieceLeft b_0_pieceRight b_0_outs b_0_isSeen b_0_ringSpaces b_0_ringStarts b_0_ringSizes b_0_ringLeast b_0_looseLines b_0_looseXs b_0_looseYs b_0_looseReaches b_0_far cI v_0_code v_0_lines v_0_isFresh v_0_hasRun v_0_runs v_0_nx v_0_ny v_0_spaces v_0_oldNx v_0_oldNy v_0_oldSpaces v_0_points v_0_pieces v_0_rings v_0_outsideSides v_0_looseCount f_0_common) (wl_Mo_overlap a_0 a_0_common b_0_isFlat b_0_across b_0_lows b_0_highs b_0_thick b_0_doorCounts b_0_doorFrom b_0_doorTo b_0_xs b_0_ys b_0_labels b_0_oldXs b_0_oldYs b_0_oldLabels b_0_names b_0_oldNames b_0_wanted b_0_flatEdges b_0_upEdges b_0_isPoint b_0_stack b_0_pieceLines b_0_pieceBegins b_0_pieceEnds b_0_pieceLeft b_0_pieceRight b_0_outs b_0_isSeen b_0_ringSpaces b_0_ringStarts b_0_ringSizes b_0_ringLeast b_0_looseLines b_0_looseXs b_0_looseYs b_0_looseReaches b_0_far cI ov_0_code v_0_lines v_0_isFresh v_0_hasRun v_0_runs v_0_nx v_0_ny v_0_spaces v_0_oldNx v_0_oldNy v_0_oldSpaces v_0_points v_0_pieces v_0_rings v_0_outsideSides v_0_looseCount f_0_common) R0) 0 0 (va_A (wl_Mo_overlap a_0 a_0_common b_0_isFlat b_0_across b_0_lows b_0_highs b_0_thick b_0_doorCounts b_0_doorFrom b_0_doorTo b_0_xs b_0_ys b_0_labels b_0_oldXs b_0_oldYs b_0_oldLabels b_0_names b_0_oldNames b_0_wanted b_0_flatEdges b_0_upEdges b_0_isPoint b_0_stack b_0_pieceLines b_0_pieceBegins b_0_pieceEnds b_0_pieceLeft b_0_pieceRight b_0_outs b_0_isSeen b_0_ringSpaces b_0_ringStarts b_0_ringSizes b_0_ringLeast b_0_looseLines b_0_looseXs b_0_looseYs b_0_looseReaches b_0_far cI v_0_code v_0_lines v_0_isFresh v_0_hasRun v_0_runs v_0_nx v_0_ny v_0_spaces v_0_oldNx v_0_oldNy v_0_oldSpaces v_0_points v_0_pieces v_0_rings v_0_outsideSides v_0_looseCount f_0_common) sz) := by
  refine Met.ofW (cc := b_Mo_overlap) (maxL := 3) (ret := (some .int)) (by decide) rfl ?_
  intro p e s m args below meth c s₁ B hml hv
  obtain ⟨rfl, hsz, hP, hK, hD0, hN⟩ := hv
  subst hsz
  have hl := lv_entry ([.ref a_0, .int p1, .int p2]) (n := 3) (Nat.le_of_ble_eq_true rfl)
  rw [lg_entry_eq]
  generalize (lg_sl ([.ref a_0, .int p1, .int p2]) ++ List.replicate (3 - (lg_sl ([.ref a_0, .int p1, .int p2])).length) Slot.unset).toArray = ls at hl ⊢
  exact t_Mo_overlap a_0 a_0_common b_0_isFlat b_0_across b_0_lows b_0_highs b_0_thick b_0_doorCounts b_0_doorFrom b_0_doorTo b_0_xs b_0_ys b_0_labels b_0_oldXs b_0_oldYs b_0_oldLabels b_0_names b_0_oldNames b_0_wanted b_0_flatEdges b_0_upEdges b_0_isPoint b_0_stack b_0_pieceLines b_0_pieceBegins b_0_pieceEnds b_0_pieceLeft b_0_pieceRight b_0_outs b_0_isSeen b_0_ringSpaces b_0_ringStarts b_0_ringSizes b_0_ringLeast b_0_looseLines b_0_looseXs b_0_looseYs b_0_looseReaches b_0_far v_0_code v_0_lines v_0_isFresh v_0_hasRun v_0_runs v_0_nx v_0_ny v_0_spaces v_0_oldNx v_0_oldNy v_0_oldSpaces v_0_points v_0_pieces v_0_rings v_0_outsideSides v_0_looseCount f_0_common p1 p2 R0 ov_0_code B.exec B.bytes hml (findClass_of_methodNamed B.named) (atoms_spec (ws := w_Mo_overlap) B.pre) hK hN (fun q h => Or.inr h) (fun pc H locs ls hd hP9 hD9 hS => W.iret B.exec B.bytes B.returns (fun t ht hW => ⟨⟨_, (), rfl, rfl, by rw [ht]; exact hP9, va_K.moved hW.alike hK, hD9⟩, hS.F ht⟩) hS.2.2 hd) hm s.heap [] ls hP hD0.self va_S.rf hl
