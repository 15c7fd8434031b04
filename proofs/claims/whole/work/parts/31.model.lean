-- SpaceCyclesModel.isOn(III)Z
abbrev b_Mo_isOn : ByteArray := prog_13_method_11_code
abbrev y_Mo_isOn : MethodName := ⟨"SpaceCyclesModel", "isOn", "(III)Z"⟩
abbrev w_Mo_isOn : List Cond := Cond.code y_Mo_isOn b_Mo_isOn 4 (some .boolean) :: gl
abbrev rm_Mo_isOn : Room := { frames := 1, cells := 0, slots := 0, locals := 25 }
theorem d_Mo_isOn_0 : decode b_Mo_isOn 0 = .ok (.aload_n 0, 1) := by decide +kernel
theorem d_Mo_isOn_1 : decode b_Mo_isOn 1 = .ok (.getfield 7, 3) := by decide +kernel
theorem d_Mo_isOn_4 : decode b_Mo_isOn 4 = .ok (.iload_n 1, 1) := by decide +kernel
theorem d_Mo_isOn_5 : decode b_Mo_isOn 5 = .ok (.baload, 1) := by decide +kernel
theorem d_Mo_isOn_6 : decode b_Mo_isOn 6 = .ok (.ifCond .eq 43, 3) := by decide +kernel
theorem d_Mo_isOn_9 : decode b_Mo_isOn 9 = .ok (.aload_n 0, 1) := by decide +kernel
theorem d_Mo_isOn_10 : decode b_Mo_isOn 10 = .ok (.getfield 13, 3) := by decide +kernel
theorem d_Mo_isOn_13 : decode b_Mo_isOn 13 = .ok (.iload_n 1, 1) := by decide +kernel
theorem d_Mo_isOn_14 : decode b_Mo_isOn 14 = .ok (.iaload, 1) := by decide +kernel
theorem d_Mo_isOn_15 : decode b_Mo_isOn 15 = .ok (.iload_n 3, 1) := by decide +kernel
theorem d_Mo_isOn_16 : decode b_Mo_isOn 16 = .ok (.if_icmp .ne 29, 3) := by decide +kernel
theorem d_Mo_isOn_19 : decode b_Mo_isOn 19 = .ok (.iload_n 2, 1) := by decide +kernel
theorem d_Mo_isOn_20 : decode b_Mo_isOn 20 = .ok (.i2l, 1) := by decide +kernel
theorem d_Mo_isOn_21 : decode b_Mo_isOn 21 = .ok (.aload_n 0, 1) := by decide +kernel
theorem d_Mo_isOn_22 : decode b_Mo_isOn 22 = .ok (.getfield 17, 3) := by decide +kernel
theorem d_Mo_isOn_25 : decode b_Mo_isOn 25 = .ok (.iload_n 1, 1) := by decide +kernel
theorem d_Mo_isOn_26 : decode b_Mo_isOn 26 = .ok (.iaload, 1) := by decide +kernel
theorem d_Mo_isOn_27 : decode b_Mo_isOn 27 = .ok (.i2l, 1) := by decide +kernel
theorem d_Mo_isOn_28 : decode b_Mo_isOn 28 = .ok (.aload_n 0, 1) := by decide +kernel
theorem d_Mo_isOn_29 : decode b_Mo_isOn 29 = .ok (.getfield 20, 3) := by decide +kernel
theorem d_Mo_isOn_32 : decode b_Mo_isOn 32 = .ok (.iload_n 1, 1) := by decide +kernel
theorem d_Mo_isOn_33 : decode b_Mo_isOn 33 = .ok (.iaload, 1) := by decide +kernel
theorem d_Mo_isOn_34 : decode b_Mo_isOn 34 = .ok (.i2l, 1) := by decide +kernel
theorem d_Mo_isOn_35 : decode b_Mo_isOn 35 = .ok (.invokestatic 133, 3) := by decide +kernel
theorem d_Mo_isOn_38 : decode b_Mo_isOn 38 = .ok (.ifCond .eq 7, 3) := by decide +kernel
theorem d_Mo_isOn_41 : decode b_Mo_isOn 41 = .ok (.iconst 1, 1) := by decide +kernel
theorem d_Mo_isOn_42 : decode b_Mo_isOn 42 = .ok (.goto 44, 3) := by decide +kernel
theorem d_Mo_isOn_45 : decode b_Mo_isOn 45 = .ok (.iconst 0, 1) := by decide +kernel
theorem d_Mo_isOn_46 : decode b_Mo_isOn 46 = .ok (.goto 40, 3) := by decide +kernel
theorem d_Mo_isOn_49 : decode b_Mo_isOn 49 = .ok (.aload_n 0, 1) := by decide +kernel
theorem d_Mo_isOn_50 : decode b_Mo_isOn 50 = .ok (.getfield 13, 3) := by decide +kernel
theorem d_Mo_isOn_53 : decode b_Mo_isOn 53 = .ok (.iload_n 1, 1) := by decide +kernel
theorem d_Mo_isOn_54 : decode b_Mo_isOn 54 = .ok (.iaload, 1) := by decide +kernel
theorem d_Mo_isOn_55 : decode b_Mo_isOn 55 = .ok (.iload_n 2, 1) := by decide +kernel
theorem d_Mo_isOn_56 : decode b_Mo_isOn 56 = .ok (.if_icmp .ne 29, 3) := by decide +kernel
theorem d_Mo_isOn_59 : decode b_Mo_isOn 59 = .ok (.iload_n 3, 1) := by decide +kernel
theorem d_Mo_isOn_60 : decode b_Mo_isOn 60 = .ok (.i2l, 1) := by decide +kernel
theorem d_Mo_isOn_61 : decode b_Mo_isOn 61 = .ok (.aload_n 0, 1) := by decide +kernel
theorem d_Mo_isOn_62 : decode b_Mo_isOn 62 = .ok (.getfield 17, 3) := by decide +kernel
theorem d_Mo_isOn_65 : decode b_Mo_isOn 65 = .ok (.iload_n 1, 1) := by decide +kernel
theorem d_Mo_isOn_66 : decode b_Mo_isOn 66 = .ok (.iaload, 1) := by decide +kernel
theorem d_Mo_isOn_67 : decode b_Mo_isOn 67 = .ok (.i2l, 1) := by decide +kernel
theorem d_Mo_isOn_68 : decode b_Mo_isOn 68 = .ok (.aload_n 0, 1) := by decide +kernel
theorem d_Mo_isOn_69 : decode b_Mo_isOn 69 = .ok (.getfield 20, 3) := by decide +kernel
theorem d_Mo_isOn_72 : decode b_Mo_isOn 72 = .ok (.iload_n 1, 1) := by decide +kernel
theorem d_Mo_isOn_73 : decode b_Mo_isOn 73 = .ok (.iaload, 1) := by decide +kernel
theorem d_Mo_isOn_74 : decode b_Mo_isOn 74 = .ok (.i2l, 1) := by decide +kernel
theorem d_Mo_isOn_75 : decode b_Mo_isOn 75 = .ok (.invokestatic 133, 3) := by decide +kernel
theorem d_Mo_isOn_78 : decode b_Mo_isOn 78 = .ok (.ifCond .eq 7, 3) := by decide +kernel
theorem d_Mo_isOn_81 : decode b_Mo_isOn 81 = .ok (.iconst 1, 1) := by decide +kernel
theorem d_Mo_isOn_82 : decode b_Mo_isOn 82 = .ok (.goto 4, 3) := by decide +kernel
theorem d_Mo_isOn_85 : decode b_Mo_isOn 85 = .ok (.iconst 0, 1) := by decide +kernel
theorem d_Mo_isOn_86 : decode b_Mo_isOn 86 = .ok (.ireturn, 1) := by decide +kernel
abbrev wl_Mo_isOn (a_0 : Nat) (a_0_isFlat : Nat) (a_0_across : Nat) (a_0_lows : Nat) (a_0_highs : Nat) (b_0_thick : Nat) (b_0_doorCounts : Nat) (b_0_doorFrom : Nat) (b_0_doorTo : Nat) (b_0_xs : Nat) (b_0_ys : Nat) (b_0_labels : Nat) (b_0_oldXs : Nat) (b_0_oldYs : Nat) (b_0_oldLabels : Nat) (b_0_names : Nat) (b_0_oldNames : Nat) (b_0_wanted : Nat) (b_0_common : Nat) (b_0_flatEdges : Nat) (b_0_upEdges : Nat) (b_0_isPoint : Nat) (b_0_stack : Nat) (b_0_pieceLines : Nat) (b_0_pieceBegins : Nat) (b_0_pieceEnds : Nat) (b_0_pieceLeft : Nat) (b_0_pieceRight : Nat) (b_0_outs : Nat) (b_0_isSeen : Nat) (b_0_ringSpaces : Nat) (b_0_ringStarts : Nat) (b_0_ringSizes : Nat) (b_0_ringLeast : Nat) (b_0_looseLines : Nat) (b_0_looseXs : Nat) (b_0_looseYs : Nat) (b_0_looseReaches : Nat) (b_0_far : Nat) (cZ : ClassId) (cI : ClassId) (v_0_code : Int32) (v_0_lines : Int32) (v_0_isFresh : Int32) (v_0_hasRun : Int32) (v_0_runs : Int32) (v_0_nx : Int32) (v_0_ny : Int32) (v_0_spaces : Int32) (v_0_oldNx : Int32) (v_0_oldNy : Int32) (v_0_oldSpaces : Int32) (v_0_points : Int32) (v_0_pieces : Int32) (v_0_rings : Int32) (v_0_outsideSides : Int32) (v_0_looseCount : Int32) (f_0_isFlat : Nat → Int32) (f_0_across : Nat → Int32) (f_0_lows : Nat → Int32) (f_0_highs : Nat → Int32) : va_W := [(a_0, .inr (11, [.int v_0_code, .ref a_0_isFlat, .ref a_0_across, .ref a_0_lows, .ref a_0_highs, .ref b_0_thick, .int v_0_lines, .ref b_0_doorCounts, .ref b_0_doorFrom, .ref b_0_doorTo, .int v_0_isFresh, .int v_0_hasRun, .int v_0_runs, .ref b_0_xs, .ref b_0_ys, .int v_0_nx, .int v_0_ny, .ref b_0_labels, .int v_0_spaces, .ref b_0_oldXs, .ref b_0_oldYs, .int v_0_oldNx, .int v_0_oldNy, .ref b_0_oldLabels, .int v_0_oldSpaces, .ref b_0_names, .ref b_0_oldNames, .ref b_0_wanted, .ref b_0_common, .ref b_0_flatEdges, .ref b_0_upEdges, .ref b_0_isPoint, .int v_0_points, .ref b_0_stack, .ref b_0_pieceLines, .ref b_0_pieceBegins, .ref b_0_pieceEnds, .ref b_0_pieceLeft, .ref b_0_pieceRight, .int v_0_pieces, .ref b_0_outs, .ref b_0_isSeen, .ref b_0_ringSpaces, .ref b_0_ringStarts, .ref b_0_ringSizes, .ref b_0_ringLeast, .int v_0_rings, .int v_0_outsideSides, .ref b_0_looseLines, .ref b_0_looseXs, .ref b_0_looseYs, .ref b_0_looseReaches, .int v_0_looseCount, .ref b_0_far])), (a_0_isFlat, .inl (cZ, 20, .inl f_0_isFlat)), (a_0_across, .inl (cI, 20, .inl f_0_across)), (a_0_lows, .inl (cI, 20, .inl f_0_lows)), (a_0_highs, .inl (cI, 20, .inl f_0_highs))]
def m_Mo_isOn (p1 : Int32) (p2 : Int32) (p3 : Int32) (f_0_isFlat : Nat → Int32) (f_0_across : Nat → Int32) (f_0_lows : Nat → Int32) (f_0_highs : Nat → Int32) : Option (Int32) :=
  gI p1 20 <|
  bd1 (
    if (f_0_isFlat p1.toNatClampNeg) = 0 then (
    gI p1 20 <|
    if (f_0_across p1.toNatClampNeg) = p2 then (
      gI p1 20 <|
      gI p1 20 <|
      bd1 (m_Mo_isIn (Int32.toInt64 p3) (Int32.toInt64 (f_0_lows p1.toNatClampNeg)) (Int32.toInt64 (f_0_highs p1.toNatClampNeg))) fun r11 =>
      if r11 = 0 then (
        some 0)
      else (
        some 1))
    else (
      some 0))
  else (
    gI p1 20 <|
    if (f_0_across p1.toNatClampNeg) = p3 then (
      gI p1 20 <|
      gI p1 20 <|
      bd1 (m_Mo_isIn (Int32.toInt64 p2) (Int32.toInt64 (f_0_lows p1.toNatClampNeg)) (Int32.toInt64 (f_0_highs p1.toNatClampNeg))) fun r18 =>
      if r18 = 0 then (
        some 0)
      else (
        some 1))
    else (
      some 0)))
  fun (x5 : Int32) =>
  gB x5 <|
    some x5

set_option maxHeartbeats 4000000 in
set_option maxRecDepth 100000 in
theorem t_Mo_isOn {p : Program} {l : Launch} {e : Env} {s : State} {m : MethodId} {args : Array Value} {below : List Frame} {meth : Method} {c : Code} {A : Nat → Prop} {Q : State → Prop} {dC : Nat → ClassId} {dI : Nat → Nat → Nat} {cI cZ cJ : ClassId} (a_0 a_0_isFlat a_0_across a_0_lows a_0_highs b_0_thick b_0_doorCounts b_0_doorFrom b_0_doorTo b_0_xs b_0_ys b_0_labels b_0_oldXs b_0_oldYs b_0_oldLabels b_0_names b_0_oldNames b_0_wanted b_0_common b_0_flatEdges b_0_upEdges b_0_isPoint b_0_stack b_0_pieceLines b_0_pieceBegins b_0_pieceEnds b_0_pieceLeft b_0_pieceRight b_0_outs b_0_isSeen b_0_ringSpaces b_0_ringStarts b_0_ringSizes b_0_ringLeast b_0_looseLines b_0_looseXs b_0_looseYs b_0_looseReaches b_0_far : Nat) (v_0_code : Int32) (v_0_lines : Int32) (v_0_isFresh : Int32) (v_0_hasRun : Int32) (v_0_runs : Int32) (v_0_nx : Int32) (v_0_ny : Int32) (v_0_spaces : Int32) (v_0_oldNx : Int32) (v_0_oldNy : Int32) (v_0_oldSpaces : Int32) (v_0_points : Int32) (v_0_pieces : Int32) (v_0_rings : Int32) (v_0_outsideSides : Int32) (v_0_looseCount : Int32) (f_0_isFlat : Nat → Int32) (f_0_across : Nat → Int32) (f_0_lows : Nat → Int32) (f_0_highs : Nat → Int32) (p1 : Int32) (p2 : Int32) (p3 : Int32) (R0 : Int32) (hx : p.tables.exec = Jvm.exec) (hb : c.code = b_Mo_isOn) (hml : c.maxLocals = 4) (hown : s.vm.findClass "SpaceCyclesModel" = some m.cls) (hts : ∀ w ∈ w_Mo_isOn, w.before args s = true) (hK : va_K (dC, dI) vwCl [(cI, .int), (cZ, .boolean), (cJ, .long)] s) (hN : NX s) (hA : ∀ q : Nat, s.heap.size ≤ q → A q)
    (hret : ∀ (pc : Nat) (H : Heap) (locs : List Loc) (ls : Array Slot), decode b_Mo_isOn pc = .ok (.ireturn, 1) → (R0 = 0 ∨ R0 = 1) → va_P (dC, dI) vwCl (wl_Mo_isOn a_0 a_0_isFlat a_0_across a_0_lows a_0_highs b_0_thick b_0_doorCounts b_0_doorFrom b_0_doorTo b_0_xs b_0_ys b_0_labels b_0_oldXs b_0_oldYs b_0_oldLabels b_0_names b_0_oldNames b_0_wanted b_0_common b_0_flatEdges b_0_upEdges b_0_isPoint b_0_stack b_0_pieceLines b_0_pieceBegins b_0_pieceEnds b_0_pieceLeft b_0_pieceRight b_0_outs b_0_isSeen b_0_ringSpaces b_0_ringStarts b_0_ringSizes b_0_ringLeast b_0_looseLines b_0_looseXs b_0_looseYs b_0_looseReaches b_0_far cZ cI v_0_code v_0_lines v_0_isFresh v_0_hasRun v_0_runs v_0_nx v_0_ny v_0_spaces v_0_oldNx v_0_oldNy v_0_oldSpaces v_0_points v_0_pieces v_0_rings v_0_outsideSides v_0_looseCount f_0_isFlat f_0_across f_0_lows f_0_highs) H → va_D A (wl_Mo_isOn a_0 a_0_isFlat a_0_across a_0_lows a_0_highs b_0_thick b_0_doorCounts b_0_doorFrom b_0_doorTo b_0_xs b_0_ys b_0_labels b_0_oldXs b_0_oldYs b_0_oldLabels b_0_names b_0_oldNames b_0_wanted b_0_common b_0_flatEdges b_0_upEdges b_0_isPoint b_0_stack b_0_pieceLines b_0_pieceBegins b_0_pieceEnds b_0_pieceLeft b_0_pieceRight b_0_outs b_0_isSeen b_0_ringSpaces b_0_ringStarts b_0_ringSizes b_0_ringLeast b_0_looseLines b_0_looseXs b_0_looseYs b_0_looseReaches b_0_far cZ cI v_0_code v_0_lines v_0_isFresh v_0_hasRun v_0_runs v_0_nx v_0_ny v_0_spaces v_0_oldNx v_0_oldNy v_0_oldSpaces v_0_points v_0_pieces v_0_rings v_0_outsideSides v_0_looseCount f_0_isFlat f_0_across f_0_lows f_0_highs) → va_S A s.heap H locs → W p l e rm_Mo_isOn s m args below meth c H locs 0 0 Q (F0 m pc ls [.int R0]))
    (hm : m_Mo_isOn p1 p2 p3 f_0_isFlat f_0_across f_0_lows f_0_highs = some R0) : ∀ (H : Heap) (locs : List Loc) (ls : Array Slot), va_P (dC, dI) vwCl (wl_Mo_isOn a_0 a_0_isFlat a_0_across a_0_lows a_0_highs b_0_thick b_0_doorCounts b_0_doorFrom b_0_doorTo b_0_xs b_0_ys b_0_labels b_0_oldXs b_0_oldYs b_0_oldLabels b_0_names b_0_oldNames b_0_wanted b_0_common b_0_flatEdges b_0_upEdges b_0_isPoint b_0_stack b_0_pieceLines b_0_pieceBegins b_0_pieceEnds b_0_pieceLeft b_0_pieceRight b_0_outs b_0_isSeen b_0_ringSpaces b_0_ringStarts b_0_ringSizes b_0_ringLeast b_0_looseLines b_0_looseXs b_0_looseYs b_0_looseReaches b_0_far cZ cI v_0_code v_0_lines v_0_isFresh v_0_hasRun v_0_runs v_0_nx v_0_ny v_0_spaces v_0_oldNx v_0_oldNy v_0_oldSpaces v_0_points v_0_pieces v_0_rings v_0_outsideSides v_0_looseCount f_0_isFlat f_0_across f_0_lows f_0_highs) H → va_D A (wl_Mo_isOn a_0 a_0_isFlat a_0_across a_0_lows a_0_highs b_0_thick b_0_doorCounts b_0_doorFrom b_0_doorTo b_0_xs b_0_ys b_0_labels b_0_oldXs b_0_oldYs b_0_oldLabels b_0_names b_0_oldNames b_0_wanted b_0_common b_0_flatEdges b_0_upEdges b_0_isPoint b_0_stack b_0_pieceLines b_0_pieceBegins b_0_pieceEnds b_0_pieceLeft b_0_pieceRight b_0_outs b_0_isSeen b_0_ringSpaces b_0_ringStarts b_0_ringSizes b_0_ringLeast b_0_looseLines b_0_looseXs b_0_looseYs b_0_looseReaches b_0_far cZ cI v_0_code v_0_lines v_0_isFresh v_0_hasRun v_0_runs v_0_nx v_0_ny v_0_spaces v_0_oldNx v_0_oldNy v_0_oldSpaces v_0_points v_0_pieces v_0_rings v_0_outsideSides v_0_looseCount f_0_isFlat f_0_across f_0_lows f_0_highs) → va_S A s.heap H locs → lv_has ls 4 [(0, .ref a_0), (1, .int p1), (2, .int p2), (3, .int p3)] → W p l e rm_Mo_isOn s m args below meth c H locs 0 0 Q (F0 m 0 ls []) := by
  intro H locs ls hP hD hS hl
  unfold m_Mo_isOn at hm
  refine lv_aload_n hx hb d_Mo_isOn_0 rfl (lv_at hl 0 rfl) ?_
  refine va_get (D := (dC, dI)) (ci := 11) (v := .ref a_0_isFlat) (C := "SpaceCyclesModel") (T := F_Mo) (N := 54) hx hb hts (in_F i_Mo) hown hK hP 0 rfl rfl 1 (by decide) (hts _ (in_c k_279)) (fun _ h9 => h9) rfl d_Mo_isOn_1 ?_
  refine lv_iload_n hx hb d_Mo_isOn_4 rfl (lv_at hl 1 rfl) ?_
  obtain ⟨hi1, hm⟩ := gI_e hm
  refine va_zald hx hb hK hP 1 1 rfl rfl hi1 d_Mo_isOn_5 ?_
  obtain ⟨x5, hb3, hm⟩ := bd1_e hm
  have K2 : ∀ (H : Heap) (locs : List Loc) (ls : Array Slot), va_P (dC, dI) vwCl (wl_Mo_isOn a_0 a_0_isFlat a_0_across a_0_lows a_0_highs b_0_thick b_0_doorCounts b_0_doorFrom b_0_doorTo b_0_xs b_0_ys b_0_labels b_0_oldXs b_0_oldYs b_0_oldLabels b_0_names b_0_oldNames b_0_wanted b_0_common b_0_flatEdges b_0_upEdges b_0_isPoint b_0_stack b_0_pieceLines b_0_pieceBegins b_0_pieceEnds b_0_pieceLeft b_0_pieceRight b_0_outs b_0_isSeen b_0_ringSpaces b_0_ringStarts b_0_ringSizes b_0_ringLeast b_0_looseLines b_0_looseXs b_0_looseYs b_0_looseReaches b_0_far cZ cI v_0_code v_0_lines v_0_isFresh v_0_hasRun v_0_runs v_0_nx v_0_ny v_0_spaces v_0_oldNx v_0_oldNy v_0_oldSpaces v_0_points v_0_pieces v_0_rings v_0_outsideSides v_0_looseCount f_0_isFlat f_0_across f_0_lows f_0_highs) H → va_D A (wl_Mo_isOn a_0 a_0_isFlat a_0_across a_0_lows a_0_highs b_0_thick b_0_doorCounts b_0_doorFrom b_0_doorTo b_0_xs b_0_ys b_0_labels b_0_oldXs b_0_oldYs b_0_oldLabels b_0_names b_0_oldNames b_0_wanted b_0_common b_0_flatEdges b_0_upEdges b_0_isPoint b_0_stack b_0_pieceLines b_0_pieceBegins b_0_pieceEnds b_0_pieceLeft b_0_pieceRight b_0_outs b_0_isSeen b_0_ringSpaces b_0_ringStarts b_0_ringSizes b_0_ringLeast b_0_looseLines b_0_looseXs b_0_looseYs b_0_looseReaches b_0_far cZ cI v_0_code v_0_lines v_0_isFresh v_0_hasRun v_0_runs v_0_nx v_0_ny v_0_spaces v_0_oldNx v_0_oldNy v_0_oldSpaces v_0_points v_0_pieces v_0_rings v_0_outsideSides v_0_looseCount f_0_isFlat f_0_across f_0_lows f_0_highs) → va_S A s.heap H locs → lv_has ls 4 [] → W p l e rm_Mo_isOn s m args below meth c H locs 0 0 Q (F0 m 86 ls [.int x5]) := by
    intro H locs ls hP hD hS hl
    obtain ⟨hB, hm⟩ := gB_e hm
    cases hm
    exact hret _ H locs ls d_Mo_isOn_86 hB hP hD hS
  replace hm := hb3
  refine lv_if_eq (tgt := 49) hx hb d_Mo_isOn_6 (by decide) (fun c6 => ?_) (fun c6 => ?_)
  · replace hm := if_t hm c6
    refine lv_aload_n hx hb d_Mo_isOn_49 rfl (lv_at hl 0 rfl) ?_
    refine va_get (D := (dC, dI)) (ci := 11) (v := .ref a_0_across) (C := "SpaceCyclesModel") (T := F_Mo) (N := 54) hx hb hts (in_F i_Mo) hown hK hP 0 rfl rfl 2 (by decide) (hts _ (in_c k_280)) (fun _ h9 => h9) rfl d_Mo_isOn_50 ?_
    refine lv_iload_n hx hb d_Mo_isOn_53 rfl (lv_at hl 1 rfl) ?_
    obtain ⟨hi7, hm⟩ := gI_e hm
    refine va_iald hx hb hK hP 2 0 rfl rfl hi7 d_Mo_isOn_54 ?_
    refine lv_iload_n hx hb d_Mo_isOn_55 rfl (lv_at hl 2 rfl) ?_
    refine lv_icmp_ne (tgt := 85) hx hb d_Mo_isOn_56 (by decide) (fun c8 => ?_) (fun c8 => ?_)
    · replace hm := if_f hm c8
      refine lv_iconst (v := 0) hx hb d_Mo_isOn_85 (by decide) ?_
      cases hm
      exact K2 H locs ls hP hD hS (lv_sub hl [] rfl)
    · replace hm := if_t hm c8
      refine lv_iload_n hx hb d_Mo_isOn_59 rfl (lv_at hl 3 rfl) ?_
      refine lv_i2l hx hb d_Mo_isOn_60 rfl ?_
      refine lv_aload_n hx hb d_Mo_isOn_61 rfl (lv_at hl 0 rfl) ?_
      refine va_get (D := (dC, dI)) (ci := 11) (v := .ref a_0_lows) (C := "SpaceCyclesModel") (T := F_Mo) (N := 54) hx hb hts (in_F i_Mo) hown hK hP 0 rfl rfl 3 (by decide) (hts _ (in_c k_281)) (fun _ h9 => h9) rfl d_Mo_isOn_62 ?_
      refine lv_iload_n hx hb d_Mo_isOn_65 rfl (lv_at hl 1 rfl) ?_
      obtain ⟨hi9, hm⟩ := gI_e hm
      refine va_iald hx hb hK hP 3 0 rfl rfl hi9 d_Mo_isOn_66 ?_
      refine lv_i2l hx hb d_Mo_isOn_67 rfl ?_
      refine lv_aload_n hx hb d_Mo_isOn_68 rfl (lv_at hl 0 rfl) ?_
      refine va_get (D := (dC, dI)) (ci := 11) (v := .ref a_0_highs) (C := "SpaceCyclesModel") (T := F_Mo) (N := 54) hx hb hts (in_F i_Mo) hown hK hP 0 rfl rfl 4 (by decide) (hts _ (in_c k_282)) (fun _ h9 => h9) rfl d_Mo_isOn_69 ?_
      refine lv_iload_n hx hb d_Mo_isOn_72 rfl (lv_at hl 1 rfl) ?_
      obtain ⟨hi10, hm⟩ := gI_e hm
      refine va_iald hx hb hK hP 4 0 rfl rfl hi10 d_Mo_isOn_73 ?_
      refine lv_i2l hx hb d_Mo_isOn_74 rfl ?_
      obtain ⟨r11, hb12, hm⟩ := bd1_e hm
      have hPc := hP.sub (ws' := (wl_Mo_isIn)) [] rfl
      have hDc := hD.sub (ws' := (wl_Mo_isIn)) [] (by decide) rfl
      refine cl_i (wc' := (wl_Mo_isIn)) (va_runS (As := [.long (Int32.toInt64 p3), .long (Int32.toInt64 (f_0_lows p1.toNatClampNeg)), .long (Int32.toInt64 (f_0_highs p1.toNatClampNeg))]) (rest := []) ⟨hx, hb, hml, hown, hts⟩ (c_Mo_isIn l dC dI (cI := cI) (cZ := cZ) (cJ := cJ) H.size (Int32.toInt64 p3) (Int32.toInt64 (f_0_lows p1.toNatClampNeg)) (Int32.toInt64 (f_0_highs p1.toNatClampNeg)) r11 hb12) (va_cwS 3 hts (gl_S k_278 k_276 k_277 k_275) rfl rfl rfl (by decide +kernel) ⟨Nat.le_of_ble_eq_true rfl, Nat.le_of_ble_eq_true rfl⟩) ⟨PP_blind, fun U hU hW => PP_at hK hN hPc hDc hU hW⟩ rfl rfl hl.1 rfl (lv_room (Nat.le_of_ble_eq_true rfl)) d_Mo_isOn_75 ⟨Nat.zero_le _, Nat.zero_le _⟩) hP hD hS hA [] [0, 1, 2, 3, 4] rfl rfl (by decide) (by decide) (fun H locs hP hD hS => ?_)
      have hP : va_P (dC, dI) vwCl (wl_Mo_isOn a_0 a_0_isFlat a_0_across a_0_lows a_0_highs b_0_thick b_0_doorCounts b_0_doorFrom b_0_doorTo b_0_xs b_0_ys b_0_labels b_0_oldXs b_0_oldYs b_0_oldLabels b_0_names b_0_oldNames b_0_wanted b_0_common b_0_flatEdges b_0_upEdges b_0_isPoint b_0_stack b_0_pieceLines b_0_pieceBegins b_0_pieceEnds b_0_pieceLeft b_0_pieceRight b_0_outs b_0_isSeen b_0_ringSpaces b_0_ringStarts b_0_ringSizes b_0_ringLeast b_0_looseLines b_0_looseXs b_0_looseYs b_0_looseReaches b_0_far cZ cI v_0_code v_0_lines v_0_isFresh v_0_hasRun v_0_runs v_0_nx v_0_ny v_0_spaces v_0_oldNx v_0_oldNy v_0_oldSpaces v_0_points v_0_pieces v_0_rings v_0_outsideSides v_0_looseCount f_0_isFlat f_0_across f_0_lows f_0_highs) H := hP.sub [0, 1, 2, 3, 4] rfl
      have hD : va_D A (wl_Mo_isOn a_0 a_0_isFlat a_0_across a_0_lows a_0_highs b_0_thick b_0_doorCounts b_0_doorFrom b_0_doorTo b_0_xs b_0_ys b_0_labels b_0_oldXs b_0_oldYs b_0_oldLabels b_0_names b_0_oldNames b_0_wanted b_0_common b_0_flatEdges b_0_upEdges b_0_isPoint b_0_stack b_0_pieceLines b_0_pieceBegins b_0_pieceEnds b_0_pieceLeft b_0_pieceRight b_0_outs b_0_isSeen b_0_ringSpaces b_0_ringStarts b_0_ringSizes b_0_ringLeast b_0_looseLines b_0_looseXs b_0_looseYs b_0_looseReaches b_0_far cZ cI v_0_code v_0_lines v_0_isFresh v_0_hasRun v_0_runs v_0_nx v_0_ny v_0_spaces v_0_oldNx v_0_oldNy v_0_oldSpaces v_0_points v_0_pieces v_0_rings v_0_outsideSides v_0_looseCount f_0_isFlat f_0_across f_0_lows f_0_highs) := hD.sub [0, 1, 2, 3, 4] (by decide) rfl
      refine lv_if_eq (tgt := 85) hx hb d_Mo_isOn_78 (by decide) (fun c13 => ?_) (fun c13 => ?_)
      · replace hm := if_t hm c13
        refine lv_iconst (v := 0) hx hb d_Mo_isOn_85 (by decide) ?_
        cases hm
        exact K2 H locs ls hP hD hS (lv_sub hl [] rfl)
      · replace hm := if_f hm c13
        refine lv_iconst (v := 1) hx hb d_Mo_isOn_81 (by decide) ?_
        refine lv_goto (tgt := 86) hx hb d_Mo_isOn_82 (by decide) ?_
        cases hm
        exact K2 H locs ls hP hD hS (lv_sub hl [] rfl)
  · replace hm := if_f hm c6
    refine lv_aload_n hx hb d_Mo_isOn_9 rfl (lv_at hl 0 rfl) ?_
    refine va_get (D := (dC, dI)) (ci := 11) (v := .ref a_0_across) (C := "SpaceCyclesModel") (T := F_Mo) (N := 54) hx hb hts (in_F i_Mo) hown hK hP 0 rfl rfl 2 (by decide) (hts _ (in_c k_280)) (fun _ h9 => h9) rfl d_Mo_isOn_10 ?_
    refine lv_iload_n hx hb d_Mo_isOn_13 rfl (lv_at hl 1 rfl) ?_
    obtain ⟨hi14, hm⟩ := gI_e hm
    refine va_iald hx hb hK hP 2 0 rfl rfl hi14 d_Mo_isOn_14 ?_
    refine lv_iload_n hx hb d_Mo_isOn_15 rfl (lv_at hl 3 rfl) ?_
    refine lv_icmp_ne (tgt := 45) hx hb d_Mo_isOn_16 (by decide) (fun c15 => ?_) (fun c15 => ?_)
    · replace hm := if_f hm c15
      refine lv_iconst (v := 0) hx hb d_Mo_isOn_45 (by decide) ?_
      refine lv_goto (tgt := 86) hx hb d_Mo_isOn_46 (by decide) ?_
      cases hm
      exact K2 H locs ls hP hD hS (lv_sub hl [] rfl)
    · replace hm := if_t hm c15
      refine lv_iload_n hx hb d_Mo_isOn_19 rfl (lv_at hl 2 rfl) ?_
      refine lv_i2l hx hb d_Mo_isOn_20 rfl ?_
      refine lv_aload_n hx hb d_Mo_isOn_21 rfl (lv_at hl 0 rfl) ?_
      refine va_get (D := (dC, dI)) (ci := 11) (v := .ref a_0_lows) (C := "SpaceCyclesModel") (T := F_Mo) (N := 54) hx hb hts (in_F i_Mo) hown hK hP 0 rfl rfl 3 (by decide) (hts _ (in_c k_281)) (fun _ h9 => h9) rfl d_Mo_isOn_22 ?_
      refine lv_iload_n hx hb d_Mo_isOn_25 rfl (lv_at hl 1 rfl) ?_
      obtain ⟨hi16, hm⟩ := gI_e hm
      refine va_iald hx hb hK hP 3 0 rfl rfl hi16 d_Mo_isOn_26 ?_
      refine lv_i2l hx hb d_Mo_isOn_27 rfl ?_
      refine lv_aload_n hx hb d_Mo_isOn_28 rfl (lv_at hl 0 rfl) ?_
      refine va_get (D := (dC, dI)) (ci := 11) (v := .ref a_0_highs) (C := "SpaceCyclesModel") (T := F_Mo) (N := 54) hx hb hts (in_F i_Mo) hown hK hP 0 rfl rfl 4 (by decide) (hts _ (in_c k_282)) (fun _ h9 => h9) rfl d_Mo_isOn_29 ?_
      refine lv_iload_n hx hb d_Mo_isOn_32 rfl (lv_at hl 1 rfl) ?_
      obtain ⟨hi17, hm⟩ := gI_e hm
      refine va_iald hx hb hK hP 4 0 rfl rfl hi17 d_Mo_isOn_33 ?_
      refine lv_i2l hx hb d_Mo_isOn_34 rfl ?_
      obtain ⟨r18, hb19, hm⟩ := bd1_e hm
      have hPc := hP.sub (ws' := (wl_Mo_isIn)) [] rfl
      have hDc := hD.sub (ws' := (wl_Mo_isIn)) [] (by decide) rfl
      refine cl_i (wc' := (wl_Mo_isIn)) (va_runS (As := [.long (Int32.toInt64 p2), .long (Int32.toInt64 (f_0_lows p1.toNatClampNeg)), .long (Int32.toInt64 (f_0_highs p1.toNatClampNeg))]) (rest := []) ⟨hx, hb, hml, hown, hts⟩ (c_Mo_isIn l dC dI (cI := cI) (cZ := cZ) (cJ := cJ) H.size (Int32.toInt64 p2) (Int32.toInt64 (f_0_lows p1.toNatClampNeg)) (Int32.toInt64 (f_0_highs p1.toNatClampNeg)) r18 hb19) (va_cwS 3 hts (gl_S k_278 k_276 k_277 k_275) rfl rfl rfl (by decide +kernel) ⟨Nat.le_of_ble_eq_true rfl, Nat.le_of_ble_eq_true rfl⟩) ⟨PP_blind, fun U hU hW => PP_at hK hN hPc hDc hU hW⟩ rfl rfl hl.1 rfl (lv_room (Nat.le_of_ble_eq_true rfl)) d_Mo_isOn_35 ⟨Nat.zero_le _, Nat.zero_le _⟩) hP hD hS hA [] [0, 1, 2, 3, 4] rfl rfl (by decide) (by decide) (fun H locs hP hD hS => ?_)
      have hP : va_P (dC, dI) vwCl (wl_Mo_isOn a_0 a_0_isFlat a_0_across a_0_lows a_0_highs b_0_thick b_0_doorCounts b_0_doorFrom b_0_doorTo b_0_xs b_0_ys b_0_labels b_0_oldXs b_0_oldYs b_0_oldLabels b_0_names b_0_oldNames b_0_wanted b_0_common b_0_flatEdges b_0_upEdges b_0_isPoint b_0_stack b_0_pieceLines b_0_pieceBegins b_0_pieceEnds b_0_pieceLeft b_0_pieceRight b_0_outs b_0_isSeen b_0_ringSpaces b_0_ringStarts b_0_ringSizes b_0_ringLeast b_0_looseLines b_0_looseXs b_0_looseYs b_0_looseReaches b_0_far cZ cI v_0_code v_0_lines v_0_isFresh v_0_hasRun v_0_runs v_0_nx v_0_ny v_0_spaces v_0_oldNx v_0_oldNy v_0_oldSpaces v_0_points v_0_pieces v_0_rings v_0_outsideSides v_0_looseCount f_0_isFlat f_0_across f_0_lows f_0_highs) H := hP.sub [0, 1, 2, 3, 4] rfl
      have hD : va_D A (wl_Mo_isOn a_0 a_0_isFlat a_0_across a_0_lows a_0_highs b_0_thick b_0_doorCounts b_0_doorFrom b_0_doorTo b_0_xs b_0_ys b_0_labels b_0_oldXs b_0_oldYs b_0_oldLabels b_0_names b_0_oldNames b_0_wanted b_0_common b_0_flatEdges b_0_upEdges b_0_isPoint b_0_stack b_0_pieceLines b_0_pieceBegins b_0_pieceEnds b_0_pieceLeft b_0_pieceRight b_0_outs b_0_isSeen b_0_ringSpaces b_0_ringStarts b_0_ringSizes b_0_ringLeast b_0_looseLines b_0_looseXs b_0_looseYs b_0_looseReaches b_0_far cZ cI v_0_code v_0_lines v_0_isFresh v_0_hasRun v_0_runs v_0_nx v_0_ny v_0_spaces v_0_oldNx v_0_oldNy v_0_oldSpaces v_0_points v_0_pieces v_0_rings v_0_outsideSides v_0_looseCount f_0_isFlat f_0_across f_0_lows f_0_highs) := hD.sub [0, 1, 2, 3, 4] (by decide) rfl
      refine lv_if_eq (tgt := 45) hx hb d_Mo_isOn_38 (by decide) (fun c20 => ?_) (fun c20 => ?_)
      · replace hm := if_t hm c20
        refine lv_iconst (v := 0) hx hb d_Mo_isOn_45 (by decide) ?_
        refine lv_goto (tgt := 86) hx hb d_Mo_isOn_46 (by decide) ?_
        cases hm
        exact K2 H locs ls hP hD hS (lv_sub hl [] rfl)
      · replace hm := if_f hm c20
        refine lv_iconst (v := 1) hx hb d_Mo_isOn_41 (by decide) ?_
        refine lv_goto (tgt := 86) hx hb d_Mo_isOn_42 (by decide) ?_
        cases hm
        exact K2 H locs ls hP hD hS (lv_sub hl [] rfl)
set_option maxHeartbeats 4000000 in
set_option maxRecDepth 100000 in
theorem c_Mo_isOn (l : Launch) (dC : Nat → ClassId) (dI : Nat → Nat → Nat) {cI cZ cJ : ClassId} (a_0 a_0_isFlat a_0_across a_0_lows a_0_highs b_0_thick b_0_doorCounts b_0_doorFrom b_0_doorTo b_0_xs b_0_ys b_0_labels b_0_oldXs b_0_oldYs b_0_oldLabels b_0_names b_0_oldNames b_0_wanted b_0_common b_0_flatEdges b_0_upEdges b_0_isPoint b_0_stack b_0_pieceLines b_0_pieceBegins b_0_pieceEnds b_0_pieceLeft b_0_pieceRight b_0_outs b_0_isSeen b_0_ringSpaces b_0_ringStarts b_0_ringSizes b_0_ringLeast b_0_looseLines b_0_looseXs b_0_looseYs b_0_looseReaches b_0_far : Nat) (sz : Nat) (v_0_code : Int32) (v_0_lines : Int32) (v_0_isFresh : Int32) (v_0_hasRun : Int32) (v_0_runs : Int32) (v_0_nx : Int32) (v_0_ny : Int32) (v_0_spaces : Int32) (v_0_oldNx : Int32) (v_0_oldNy : Int32) (v_0_oldSpaces : Int32) (v_0_points : Int32) (v_0_pieces : Int32) (v_0_rings : Int32) (v_0_outsideSides : Int32) (v_0_looseCount : Int32) (f_0_isFlat : Nat → Int32) (f_0_across : Nat → Int32) (f_0_lows : Nat → Int32) (f_0_highs : Nat → Int32) (p1 : Int32) (p2 : Int32) (p3 : Int32) (R0 : Int32) (hm : m_Mo_isOn p1 p2 p3 f_0_isFlat f_0_across f_0_lows f_0_highs = some R0) : Met l y_Mo_isOn w_Mo_isOn rm_Mo_isOn (PP dC dI [(cI, .int), (cZ, .boolean), (cJ, .long)] [.ref a_0, .int p1, .int p2, .int p3] sz (wl_Mo_isOn a_0 a_0_isFlat a_0_across a_0_lows a_0_highs b_0_thick b_0_doorCounts b_0_doorFrom b_0_doorTo b_0_xs b_0_ys b_0_labels b_0_oldXs b_0_oldYs b_0_oldLabels b_0_names b_0_oldNames b_0_wanted b_0_common b_0_flatEdges b_0_upEdges b_0_isPoint b_0_stack b_0_pieceLines b_0_pieceBegins b_0_pieceEnds b_0_pieceLeft b_0_pieceRight b_0_outs b_0_isSeen b_0_ringSpaces b_0_ringStarts b_0_ringSizes b_0_ringLeast b_0_looseLines b_0_looseXs b_0_looseYs b_0_looseReaches b_0_far cZ cI v_0_code v_0_lines v_0_isFresh v_0_hasRun v_0_runs v_0_nx v_0_ny v_0_spaces v_0_oldNx v_0_oldNy v_0_oldSpaces v_0_points v_0_pieces v_0_rings v_0_outsideSides v_0_looseCount f_0_isFlat f_0_across f_0_lows f_0_highs)) (QI dC dI [(cI, .int), (cZ, .boolean), (cJ, .long)] sz (wl_Mo_isOn a_0 a_0_isFlat a_0_across a_0_lows a_0_highs b_0_thick b_0_doorCounts b_0_doorFrom b_0_doorTo b_0_xs b_0_ys b_0_labels b_0_oldXs b_0_oldYs b_0_oldLabels b_0_names b_0_oldNames b_0_wanted b_0_common b_0_flatEdges b_0_upEdges b_0_isPoint b_0_stack b_0_pieceLines b_0_pieceBegins b_0_pieceEnds b_0_pieceLeft b_0_pieceRight b_0_outs b_0_isSeen b_0_ringSpaces b_0_ringStarts b_0_ringSizes b_0_ringLeast b_0_looseLines b_0_looseXs b_0_looseYs b_0_looseReaches b_0_far cZ cI v_0_code v_0_lines v_0_isFresh v_0_hasRun v_0_runs v_0_nx v_0_ny v_0_spaces v_0_oldNx v_0_oldNy v_0_oldSpaces v_0_points v_0_pieces v_0_rings v_0_outsideSides v_0_looseCount f_0_isFlat f_0_across f_0_lows f_0_highs) (wl_Mo_isOn a_0 a_0_isFlat a_0_across a_0_lows a_0_highs b_0_thick b_0_doorCounts b_0_doorFrom b_0_doorTo b_0_xs b_0_ys b_0_labels b_0_oldXs b_0_oldYs b_0_oldLabels b_0_names b_0_oldNames b_0_wanted b_0_common b_0_flatEdges b_0_upEdges b_0_isPoint b_0_stack b_0_pieceLines b_0_pieceBegins b_0_pieceEnds b_0_pieceLeft b_0_pieceRight b_0_outs b_0_isSeen b_0_ringSpaces b_0_ringStarts b_0_ringSizes b_0_ringLeast b_0_looseLines b_0_looseXs b_0_looseYs b_0_looseReaches b_0_far cZ cI v_0_code v_0_lines v_0_isFresh v_0_hasRun v_0_runs v_0_nx v_0_ny v_0_spaces v_0_oldNx v_0_oldNy v_0_oldSpaces v_0_points v_0_pieces v_0_rings v_0_outsideSides v_0_looseCount f_0_isFlat f_0_across f_0_lows f_0_highs) R0) 0 0 (va_A (wl_Mo_isOn a_0 a_0_isFlat a_0_across a_0_lows a_0_highs b_0_thick b_0_doorCounts b_0_doorFrom b_0_doorTo b_0_xs b_0_ys b_0_labels b_0_oldXs b_0_oldYs b_0_oldLabels b_0_names b_0_oldNames b_0_wanted b_0_common b_0_flatEdges b_0_upEdges b_0_isPoint b_0_stack b_0_pieceLines b_0_pieceBegins b_0_pieceEnds b_0_pieceLeft b_0_pieceRight b_0_outs b_0_isSeen b_0_ringSpaces b_0_ringStarts b_0_ringSizes b_0_ringLeast b_0_looseLines b_0_looseXs b_0_looseYs b_0_looseReaches b_0_far cZ cI v_0_code v_0_lines v_0_isFresh v_0_hasRun v_0_runs v_0_nx v_0_ny v_0_spaces v_0_oldNx v_0_oldNy v_0_oldSpaces v_0_points v_0_pieces v_0_rings v_0_outsideSides v_0_looseCount f_0_isFlat f_0_across f_0_lows f_0_highs) sz) := by
  refine Met.ofW (cc := b_Mo_isOn) (maxL := 4) (ret := (some .boolean)) (by decide) rfl ?_
  intro p e s m args below meth c s₁ B hml hv
  obtain ⟨rfl, hsz, hP, hK, hD0, hN⟩ := hv
  subst hsz
  have hl := lv_entry ([.ref a_0, .int p1, .int p2, .int p3]) (n := 4) (Nat.le_of_ble_eq_true rfl)
  rw [lg_entry_eq]
  generalize (lg_sl ([.ref a_0, .int p1, .int p2, .int p3]) ++ List.replicate (4 - (lg_sl ([.ref a_0, .int p1, .int p2, .int p3])).length) Slot.unset).toArray = ls at hl ⊢
  exact t_Mo_isOn a_0 a_0_isFlat a_0_across a_0_lows a_0_highs b_0_thick b_0_doorCounts b_0_doorFrom b_0_doorTo b_0_xs b_0_ys b_0_labels b_0_oldXs b_0_oldYs b_0_oldLabels b_0_names b_0_oldNames b_0_wanted b_0_common b_0_flatEdges b_0_upEdges b_0_isPoint b_0_stack b_0_pieceLines b_0_pieceBegins b_0_pieceEnds b_0_pieceLeft b_0_pieceRight b_0_outs b_0_isSeen b_0_ringSpaces b_0_ringStarts b_0_ringSizes b_0_ringLeast b_0_looseLines b_0_looseXs b_0_looseYs b_0_looseReaches b_0_far v_0_code v_0_lines v_0_isFresh v_0_hasRun v_0_runs v_0_nx v_0_ny v_0_spaces v_0_oldNx v_0_oldNy v_0_oldSpaces v_0_points v_0_pieces v_0_rings v_0_outsideSides v_0_looseCount f_0_isFlat f_0_across f_0_lows f_0_highs p1 p2 p3 R0 B.exec B.bytes hml (findClass_of_methodNamed B.named) (atoms_spec (ws := w_Mo_isOn) B.pre) hK hN (fun q h => Or.inr h) (fun pc H locs ls hd hz hP9 hD9 hS => W.zret B.exec B.bytes B.returns (nar_b hz) (fun t ht hW => ⟨⟨_, (), rfl, rfl, by rw [ht]; exact hP9, va_K.moved hW.alike hK, hD9⟩, hS.F ht⟩) hS.2.2 hd) hm s.heap [] ls hP hD0.self va_S.rf hl

theorem k_296 : ((.code ⟨"SpaceCyclesModel", "isOn", "(III)Z"⟩ prog_13_method_11_code 4 (some .boolean)) : Cond) ∈ gl := gl_i 1334 (by decide +kernel) (by decide +kernel)
theorem k_297 : ((.selects "SpaceCyclesModel" ⟨"SpaceCyclesModel", "isOn", "(III)Z"⟩ ⟨"SpaceCyclesModel", "isOn", "(III)Z"⟩) : Cond) ∈ gl := gl_s (by decide +kernel) (by decide +kernel)
theorem k_298 : ((.instanceMethod ⟨"SpaceCyclesModel", "isOn", "(III)Z"⟩) : Cond) ∈ gl := gl_i 1333 (by decide +kernel) (by decide +kernel)
theorem k_299 : ((.methodLink "SpaceCyclesModel" 153 ⟨"SpaceCyclesModel", "isOn", "(III)Z"⟩) : Cond) ∈ gl := gl_i 1331 (by decide +kernel) (by decide +kernel)
-- SpaceCyclesModel.isEnd(III)Z
abbrev b_Mo_isEnd : ByteArray := prog_13_method_12_code
abbrev y_Mo_isEnd : MethodName := ⟨"SpaceCyclesModel", "isEnd", "(III)Z"⟩
abbrev w_Mo_isEnd : List Cond := Cond.code y_Mo_isEnd b_Mo_isEnd 4 (some .boolean) :: gl
abbrev rm_Mo_isEnd : Room := { frames := 2, cells := 0, slots := 0, locals := 48 }
theorem d_Mo_isEnd_0 : decode b_Mo_isEnd 0 = .ok (.aload_n 0, 1) := by decide +kernel
theorem d_Mo_isEnd_1 : decode b_Mo_isEnd 1 = .ok (.iload_n 1, 1) := by decide +kernel
theorem d_Mo_isEnd_2 : decode b_Mo_isEnd 2 = .ok (.iload_n 2, 1) := by decide +kernel
theorem d_Mo_isEnd_3 : decode b_Mo_isEnd 3 = .ok (.iload_n 3, 1) := by decide +kernel
theorem d_Mo_isEnd_4 : decode b_Mo_isEnd 4 = .ok (.invokevirtual 153, 3) := by decide +kernel
theorem d_Mo_isEnd_7 : decode b_Mo_isEnd 7 = .ok (.ifCond .eq 59, 3) := by decide +kernel
theorem d_Mo_isEnd_10 : decode b_Mo_isEnd 10 = .ok (.aload_n 0, 1) := by decide +kernel
theorem d_Mo_isEnd_11 : decode b_Mo_isEnd 11 = .ok (.getfield 7, 3) := by decide +kernel
theorem d_Mo_isEnd_14 : decode b_Mo_isEnd 14 = .ok (.iload_n 1, 1) := by decide +kernel
theorem d_Mo_isEnd_15 : decode b_Mo_isEnd 15 = .ok (.baload, 1) := by decide +kernel
theorem d_Mo_isEnd_16 : decode b_Mo_isEnd 16 = .ok (.ifCond .eq 26, 3) := by decide +kernel
theorem d_Mo_isEnd_19 : decode b_Mo_isEnd 19 = .ok (.iload_n 2, 1) := by decide +kernel
theorem d_Mo_isEnd_20 : decode b_Mo_isEnd 20 = .ok (.aload_n 0, 1) := by decide +kernel
theorem d_Mo_isEnd_21 : decode b_Mo_isEnd 21 = .ok (.getfield 17, 3) := by decide +kernel
theorem d_Mo_isEnd_24 : decode b_Mo_isEnd 24 = .ok (.iload_n 1, 1) := by decide +kernel
theorem d_Mo_isEnd_25 : decode b_Mo_isEnd 25 = .ok (.iaload, 1) := by decide +kernel
theorem d_Mo_isEnd_26 : decode b_Mo_isEnd 26 = .ok (.if_icmp .eq 36, 3) := by decide +kernel
theorem d_Mo_isEnd_29 : decode b_Mo_isEnd 29 = .ok (.iload_n 2, 1) := by decide +kernel
theorem d_Mo_isEnd_30 : decode b_Mo_isEnd 30 = .ok (.aload_n 0, 1) := by decide +kernel
theorem d_Mo_isEnd_31 : decode b_Mo_isEnd 31 = .ok (.getfield 20, 3) := by decide +kernel
theorem d_Mo_isEnd_34 : decode b_Mo_isEnd 34 = .ok (.iload_n 1, 1) := by decide +kernel
theorem d_Mo_isEnd_35 : decode b_Mo_isEnd 35 = .ok (.iaload, 1) := by decide +kernel
theorem d_Mo_isEnd_36 : decode b_Mo_isEnd 36 = .ok (.if_icmp .ne 30, 3) := by decide +kernel
theorem d_Mo_isEnd_39 : decode b_Mo_isEnd 39 = .ok (.goto 23, 3) := by decide +kernel
theorem d_Mo_isEnd_42 : decode b_Mo_isEnd 42 = .ok (.iload_n 3, 1) := by decide +kernel
theorem d_Mo_isEnd_43 : decode b_Mo_isEnd 43 = .ok (.aload_n 0, 1) := by decide +kernel
theorem d_Mo_isEnd_44 : decode b_Mo_isEnd 44 = .ok (.getfield 17, 3) := by decide +kernel
theorem d_Mo_isEnd_47 : decode b_Mo_isEnd 47 = .ok (.iload_n 1, 1) := by decide +kernel
theorem d_Mo_isEnd_48 : decode b_Mo_isEnd 48 = .ok (.iaload, 1) := by decide +kernel
theorem d_Mo_isEnd_49 : decode b_Mo_isEnd 49 = .ok (.if_icmp .eq 13, 3) := by decide +kernel
theorem d_Mo_isEnd_52 : decode b_Mo_isEnd 52 = .ok (.iload_n 3, 1) := by decide +kernel
theorem d_Mo_isEnd_53 : decode b_Mo_isEnd 53 = .ok (.aload_n 0, 1) := by decide +kernel
theorem d_Mo_isEnd_54 : decode b_Mo_isEnd 54 = .ok (.getfield 20, 3) := by decide +kernel
theorem d_Mo_isEnd_57 : decode b_Mo_isEnd 57 = .ok (.iload_n 1, 1) := by decide +kernel
theorem d_Mo_isEnd_58 : decode b_Mo_isEnd 58 = .ok (.iaload, 1) := by decide +kernel
theorem d_Mo_isEnd_59 : decode b_Mo_isEnd 59 = .ok (.if_icmp .ne 7, 3) := by decide +kernel
theorem d_Mo_isEnd_62 : decode b_Mo_isEnd 62 = .ok (.iconst 1, 1) := by decide +kernel
theorem d_Mo_isEnd_63 : decode b_Mo_isEnd 63 = .ok (.goto 4, 3) := by decide +kernel
theorem d_Mo_isEnd_66 : decode b_Mo_isEnd 66 = .ok (.iconst 0, 1) := by decide +kernel
theorem d_Mo_isEnd_67 : decode b_Mo_isEnd 67 = .ok (.ireturn, 1) := by decide +kernel
abbrev wl_Mo_isEnd (a_0 : Nat) (a_0_isFlat : Nat) (a_0_across : Nat) (a_0_lows : Nat) (a_0_highs : Nat) (b_0_thick : Nat) (b_0_doorCounts : Nat) (b_0_doorFrom : Nat) (b_0_doorTo : Nat) (b_0_xs : Nat) (b_0_ys : Nat) (b_0_labels : Nat) (b_0_oldXs : Nat) (b_0_oldYs : Nat) (b_0_oldLabels : Nat) (b_0_names : Nat) (b_0_oldNames : Nat) (b_0_wanted : Nat) (b_0_common : Nat) (b_0_flatEdges : Nat) (b_0_upEdges : Nat) (b_0_isPoint : Nat) (b_0_stack : Nat) (b_0_pieceLines : Nat) (b_0_pieceBegins : Nat) (b_0_pieceEnds : Nat) (b_0_pieceLeft : Nat) (b_0_pieceRight : Nat) (b_0_outs : Nat) (b_0_isSeen : Nat) (b_0_ringSpaces : Nat) (b_0_ringStarts : Nat) (b_0_ringSizes : Nat) (b_0_ringLeast : Nat) (b_0_looseLines : Nat) (b_0_looseXs : Nat) (b_0_looseYs : Nat) (b_0_looseReaches : Nat) (b_0_far : Nat) (cZ : ClassId) (cI : ClassId) (v_0_code : Int32) (v_0_lines : Int32) (v_0_isFresh : Int32) (v_0_hasRun : Int32) (v_0_runs : Int32) (v_0_nx : Int32) (v_0_ny : Int32) (v_0_spaces : Int32) (v_0_oldNx : Int32) (v_0_oldNy : Int32) (v_0_oldSpaces : Int32) (v_0_points : Int32) (v_0_pieces : Int32) (v_0_rings : Int32) (v_0_outsideSides : Int32) (v_0_looseCount : Int32) (f_0_isFlat : Nat → Int32) (f_0_across : Nat → Int32) (f_0_lows : Nat → Int32) (f_0_highs : Nat → Int32) : va_W := [(a_0, .inr (11, [.int v_0_code, .ref a_0_isFlat, .ref a_0_across, .ref a_0_lows, .ref a_0_highs, .ref b_0_thick, .int v_0_lines, .ref b_0_doorCounts, .ref b_0_doorFrom, .ref b_0_doorTo, .int v_0_isFresh, .int v_0_hasRun, .int v_0_runs, .ref b_0_xs, .ref b_0_ys, .int v_0_nx, .int v_0_ny, .ref b_0_labels, .int v_0_spaces, .ref b_0_oldXs, .ref b_0_oldYs, .int v_0_oldNx, .int v_0_oldNy, .ref b_0_oldLabels, .int v_0_oldSpaces, .ref b_0_names, .ref b_0_oldNames, .ref b_0_wanted, .ref b_0_common, .ref b_0_flatEdges, .ref b_0_upEdges, .ref b_0_isPoint, .int v_0_points, .ref b_0_stack, .ref b_0_pieceLines, .ref b_0_pieceBegins, .ref b_0_pieceEnds, .ref b_0_pieceLeft, .ref b_0_pieceRight, .int v_0_pieces, .ref b_0_outs, .ref b_0_isSeen, .ref b_0_ringSpaces, .ref b_0_ringStarts, .ref b_0_ringSizes, .ref b_0_ringLeast, .int v_0_rings, .int v_0_outsideSides, .ref b_0_looseLines, .ref b_0_looseXs, .ref b_0_looseYs, .ref b_0_looseReaches, .int v_0_looseCount, .ref b_0_far])), (a_0_isFlat, .inl (cZ, 20, .inl f_0_isFlat)), (a_0_across, .inl (cI, 20, .inl f_0_across)), (a_0_lows, .inl (cI, 20, .inl f_0_lows)), (a_0_highs, .inl (cI, 20, .inl f_0_highs))]
def m_Mo_isEnd (p1 : Int32) (p2 : Int32) (p3 : Int32) (f_0_isFlat : Nat → Int32) (f_0_across : Nat → Int32) (f_0_lows : Nat → Int32) (f_0_highs : Nat → Int32) : Option (Int32) :=
  bd1 (m_Mo_isOn p1 p2 p3 f_0_isFlat f_0_across f_0_lows f_0_highs) fun r1 =>
  bd1 (
    if r1 = 0 then (
    some 0)
  else (
    gI p1 20 <|
    if (f_0_isFlat p1.toNatClampNeg) = 0 then (
      gI p1 20 <|
      if p3 = (f_0_lows p1.toNatClampNeg) then (
        some 1)
      else (
        gI p1 20 <|
        if p3 = (f_0_highs p1.toNatClampNeg) then (
          some 1)
        else (
          some 0)))
    else (
      gI p1 20 <|
      if p2 = (f_0_lows p1.toNatClampNeg) then (
        some 1)
      else (
        gI p1 20 <|
        if p2 = (f_0_highs p1.toNatClampNeg) then (
          some 1)
        else (
          some 0)))))
  fun (x6 : Int32) =>
  gB x6 <|
    some x6

set_option maxHeartbeats 4000000 in
set_option maxRecDepth 100000 in
theorem t_Mo_isEnd {p : Program} {l : Launch} {e : Env} {s : State} {m : MethodId} {args : Array Value} {below : List Frame} {meth : Method} {c : Code} {A : Nat → Prop} {Q : State → Prop} {dC : Nat → ClassId} {dI : Nat → Nat → Nat} {cI cZ cJ : ClassId} (a_0 a_0_isFlat a_0_across a_0_lows a_0_highs b_0_thick b_0_doorCounts b_0_doorFrom b_0_doorTo b_0_xs b_0_ys b_0_labels b_0_oldXs b_0_oldYs b_0_oldLabels b_0_names b_0_oldNames b_0_wanted b_0_common b_0_flatEdges b_0_upEdges b_0_isPoint b_0_stack b_0_pieceLines b_0_pieceBegins b_0_pieceEnds b_0_pieceLeft b_0_pieceRight b_0_outs b_0_isSeen b_0_ringSpaces b_0_ringStarts b_0_ringSizes b_0_ringLeast b_0_looseLines b_0_looseXs b_0_looseYs b_0_looseReaches b_0_far : Nat) (v_0_code : Int32) (v_0_lines : Int32) (v_0_isFresh : Int32) (v_0_hasRun : Int32) (v_0_runs : Int32) (v_0_nx : Int32) (v_0_ny : Int32) (v_0_spaces : Int32) (v_0_oldNx : Int32) (v_0_oldNy : Int32) (v_0_oldSpaces : Int32) (v_0_points : Int32) (v_0_pieces : Int32) (v_0_rings : Int32) (v_0_outsideSides : Int32) (v_0_looseCount : Int32) (f_0_isFlat : Nat → Int32) (f_0_across : Nat → Int32) (f_0_lows : Nat → Int32) (f_0_highs : Nat → Int32) (p1 : Int32) (p2 : Int32) (p3 : Int32) (R0 : Int32) (hx : p.tables.exec = Jvm.exec) (hb : c.code = b_Mo_isEnd) (hml : c.maxLocals = 4) (hown : s.vm.findClass "SpaceCyclesModel" = some m.cls) (hts : ∀ w ∈ w_Mo_isEnd, w.before args s = true) (hK : va_K (dC, dI) vwCl [(cI, .int), (cZ, .boolean), (cJ, .long)] s) (hN : NX s) (hA : ∀ q : Nat, s.heap.size ≤ q → A q)
    (hret : ∀ (pc : Nat) (H : Heap) (locs : List Loc) (ls : Array Slot), decode b_Mo_isEnd pc = .ok (.ireturn, 1) → (R0 = 0 ∨ R0 = 1) → va_P (dC, dI) vwCl (wl_Mo_isEnd a_0 a_0_isFlat a_0_across a_0_lows a_0_highs b_0_thick b_0_doorCounts b_0_doorFrom b_0_doorTo b_0_xs b_0_ys b_0_labels b_0_oldXs b_0_oldYs b_0_oldLabels b_0_names b_0_oldNames b_0_wanted b_0_common b_0_flatEdges b_0_upEdges b_0_isPoint b_0_stack b_0_pieceLines b_0_pieceBegins b_0_pieceEnds b_0_pieceLeft b_0_pieceRight b_0_outs b_0_isSeen b_0_ringSpaces b_0_ringStarts b_0_ringSizes b_0_ringLeast b_0_looseLines b_0_looseXs b_0_looseYs b_0_looseReaches b_0_far cZ cI v_0_code v_0_lines v_0_isFresh v_0_hasRun v_0_runs v_0_nx v_0_ny v_0_spaces v_0_oldNx v_0_oldNy v_0_oldSpaces v_0_points v_0_pieces v_0_rings v_0_outsideSides v_0_looseCount f_0_isFlat f_0_across f_0_lows f_0_highs) H → va_D A (wl_Mo_isEnd a_0 a_0_isFlat a_0_across a_0_lows a_0_highs b_0_thick b_0_doorCounts b_0_doorFrom b_0_doorTo b_0_xs b_0_ys b_0_labels b_0_oldXs b_0_oldYs b_0_oldLabels b_0_names b_0_oldNames b_0_wanted b_0_common b_0_flatEdges b_0_upEdges b_0_isPoint b_0_stack b_0_pieceLines b_0_pieceBegins b_0_pieceEnds b_0_pieceLeft b_0_pieceRight b_0_outs b_0_isSeen b_0_ringSpaces b_0_ringStarts b_0_ringSizes b_0_ringLeast b_0_looseLines b_0_looseXs b_0_looseYs b_0_looseReaches b_0_far cZ cI v_0_code v_0_lines v_0_isFresh v_0_hasRun v_0_runs v_0_nx v_0_ny v_0_spaces v_0_oldNx v_0_oldNy v_0_oldSpaces v_0_points v_0_pieces v_0_rings v_0_outsideSides v_0_looseCount f_0_isFlat f_0_across f_0_lows f_0_highs) → va_S A s.heap H locs → W p l e rm_Mo_isEnd s m args below meth c H locs 0 0 Q (F0 m pc ls [.int R0]))
    (hm : m_Mo_isEnd p1 p2 p3 f_0_isFlat f_0_across f_0_lows f_0_highs = some R0) : ∀ (H : Heap) (locs : List Loc) (ls : Array Slot), va_P (dC, dI) vwCl (wl_Mo_isEnd a_0 a_0_isFlat a_0_across a_0_lows a_0_highs b_0_thick b_0_doorCounts b_0_doorFrom b_0_doorTo b_0_xs b_0_ys b_0_labels b_0_oldXs b_0_oldYs b_0_oldLabels b_0_names b_0_oldNames b_0_wanted b_0_common b_0_flatEdges b_0_upEdges b_0_isPoint b_0_stack b_0_pieceLines b_0_pieceBegins b_0_pieceEnds b_0_pieceLeft b_0_pieceRight b_0_outs b_0_isSeen b_0_ringSpaces b_0_ringStarts b_0_ringSizes b_0_ringLeast b_0_looseLines b_0_looseXs b_0_looseYs b_0_looseReaches b_0_far cZ cI v_0_code v_0_lines v_0_isFresh v_0_hasRun v_0_runs v_0_nx v_0_ny v_0_spaces v_0_oldNx v_0_oldNy v_0_oldSpaces v_0_points v_0_pieces v_0_rings v_0_outsideSides v_0_looseCount f_0_isFlat f_0_across f_0_lows f_0_highs) H → va_D A (wl_Mo_isEnd a_0 a_0_isFlat a_0_across a_0_lows a_0_highs b_0_thick b_0_doorCounts b_0_doorFrom b_0_doorTo b_0_xs b_0_ys b_0_labels b_0_oldXs b_0_oldYs b_0_oldLabels b_0_names b_0_oldNames b_0_wanted b_0_common b_0_flatEdges b_0_upEdges b_0_isPoint b_0_stack b_0_pieceLines b_0_pieceBegins b_0_pieceEnds b_0_pieceLeft b_0_pieceRight b_0_outs b_0_isSeen b_0_ringSpaces b_0_ringStarts b_0_ringSizes b_0_ringLeast b_0_looseLines b_0_looseXs b_0_looseYs b_0_looseReaches b_0_far cZ cI v_0_code v_0_lines v_0_isFresh v_0_hasRun v_0_runs v_0_nx v_0_ny v_0_spaces v_0_oldNx v_0_oldNy v_0_oldSpaces v_0_points v_0_pieces v_0_rings v_0_outsideSides v_0_looseCount f_0_isFlat f_0_across f_0_lows f_0_highs) → va_S A s.heap H locs → lv_has ls 4 [(0, .ref a_0), (1, .int p1), (2, .int p2), (3, .int p3)] → W p l e rm_Mo_isEnd s m args below meth c H locs 0 0 Q (F0 m 0 ls []) := by
  intro H locs ls hP hD hS hl
  unfold m_Mo_isEnd at hm
  refine lv_aload_n hx hb d_Mo_isEnd_0 rfl (lv_at hl 0 rfl) ?_
  refine lv_iload_n hx hb d_Mo_isEnd_1 rfl (lv_at hl 1 rfl) ?_
  refine lv_iload_n hx hb d_Mo_isEnd_2 rfl (lv_at hl 2 rfl) ?_
  refine lv_iload_n hx hb d_Mo_isEnd_3 rfl (lv_at hl 3 rfl) ?_
  obtain ⟨r1, hb2, hm⟩ := bd1_e hm
  have hPc := hP.sub (ws' := (wl_Mo_isOn a_0 a_0_isFlat a_0_across a_0_lows a_0_highs b_0_thick b_0_doorCounts b_0_doorFrom b_0_doorTo b_0_xs b_0_ys b_0_labels b_0_oldXs b_0_oldYs b_0_oldLabels b_0_names b_0_oldNames b_0_wanted b_0_common b_0_flatEdges b_0_upEdges b_0_isPoint b_0_stack b_0_pieceLines b_0_pieceBegins b_0_pieceEnds b_0_pieceLeft b_0_pieceRight b_0_outs b_0_isSeen b_0_ringSpaces b_0_ringStarts b_0_ringSizes b_0_ringLeast b_0_looseLines b_0_looseXs b_0_looseYs b_0_looseReaches b_0_far cZ cI v_0_code v_0_lines v_0_isFresh v_0_hasRun v_0_runs v_0_nx v_0_ny v_0_spaces v_0_oldNx v_0_oldNy v_0_oldSpaces v_0_points v_0_pieces v_0_rings v_0_outsideSides v_0_looseCount f_0_isFlat f_0_across f_0_lows f_0_highs)) [0, 1, 2, 3, 4] rfl
  have hDc := hD.sub (ws' := (wl_Mo_isOn a_0 a_0_isFlat a_0_across a_0_lows a_0_highs b_0_thick b_0_doorCounts b_0_doorFrom b_0_doorTo b_0_xs b_0_ys b_0_labels b_0_oldXs b_0_oldYs b_0_oldLabels b_0_names b_0_oldNames b_0_wanted b_0_common b_0_flatEdges b_0_upEdges b_0_isPoint b_0_stack b_0_pieceLines b_0_pieceBegins b_0_pieceEnds b_0_pieceLeft b_0_pieceRight b_0_outs b_0_isSeen b_0_ringSpaces b_0_ringStarts b_0_ringSizes b_0_ringLeast b_0_looseLines b_0_looseXs b_0_looseYs b_0_looseReaches b_0_far cZ cI v_0_code v_0_lines v_0_isFresh v_0_hasRun v_0_runs v_0_nx v_0_ny v_0_spaces v_0_oldNx v_0_oldNy v_0_oldSpaces v_0_points v_0_pieces v_0_rings v_0_outsideSides v_0_looseCount f_0_isFlat f_0_across f_0_lows f_0_highs)) [0, 1, 2, 3, 4] (by decide) rfl
  refine cl_i (wc' := (wl_Mo_isOn a_0 a_0_isFlat a_0_across a_0_lows a_0_highs b_0_thick b_0_doorCounts b_0_doorFrom b_0_doorTo b_0_xs b_0_ys b_0_labels b_0_oldXs b_0_oldYs b_0_oldLabels b_0_names b_0_oldNames b_0_wanted b_0_common b_0_flatEdges b_0_upEdges b_0_isPoint b_0_stack b_0_pieceLines b_0_pieceBegins b_0_pieceEnds b_0_pieceLeft b_0_pieceRight b_0_outs b_0_isSeen b_0_ringSpaces b_0_ringStarts b_0_ringSizes b_0_ringLeast b_0_looseLines b_0_looseXs b_0_looseYs b_0_looseReaches b_0_far cZ cI v_0_code v_0_lines v_0_isFresh v_0_hasRun v_0_runs v_0_nx v_0_ny v_0_spaces v_0_oldNx v_0_oldNy v_0_oldSpaces v_0_points v_0_pieces v_0_rings v_0_outsideSides v_0_looseCount f_0_isFlat f_0_across f_0_lows f_0_highs)) (va_runV (As := [.int p1, .int p2, .int p3]) (rest := []) ⟨hx, hb, hml, hown, hts⟩ (c_Mo_isOn l dC dI (cI := cI) (cZ := cZ) (cJ := cJ) a_0 a_0_isFlat a_0_across a_0_lows a_0_highs b_0_thick b_0_doorCounts b_0_doorFrom b_0_doorTo b_0_xs b_0_ys b_0_labels b_0_oldXs b_0_oldYs b_0_oldLabels b_0_names b_0_oldNames b_0_wanted b_0_common b_0_flatEdges b_0_upEdges b_0_isPoint b_0_stack b_0_pieceLines b_0_pieceBegins b_0_pieceEnds b_0_pieceLeft b_0_pieceRight b_0_outs b_0_isSeen b_0_ringSpaces b_0_ringStarts b_0_ringSizes b_0_ringLeast b_0_looseLines b_0_looseXs b_0_looseYs b_0_looseReaches b_0_far H.size v_0_code v_0_lines v_0_isFresh v_0_hasRun v_0_runs v_0_nx v_0_ny v_0_spaces v_0_oldNx v_0_oldNy v_0_oldSpaces v_0_points v_0_pieces v_0_rings v_0_outsideSides v_0_looseCount f_0_isFlat f_0_across f_0_lows f_0_highs p1 p2 p3 r1 hb2) (cwV 3 hts (gl_V k_299 k_298 k_297 k_277 k_296) rfl rfl rfl (by decide +kernel) ⟨Nat.le_of_ble_eq_true rfl, Nat.le_of_ble_eq_true rfl⟩) ⟨PP_blind, va_recv hK hPc (ci := 11) (q0 := 0) rfl rfl, fun U hU hW => PP_at hK hN hPc hDc hU hW⟩ rfl rfl hl.1 rfl (lv_room (Nat.le_of_ble_eq_true rfl)) d_Mo_isEnd_4 ⟨Nat.zero_le _, Nat.zero_le _⟩) hP hD hS hA [0, 1, 2, 3, 4] [] rfl rfl (by decide) (by decide) (fun H locs hP hD hS => ?_)
  have hP : va_P (dC, dI) vwCl (wl_Mo_isEnd a_0 a_0_isFlat a_0_across a_0_lows a_0_highs b_0_thick b_0_doorCounts b_0_doorFrom b_0_doorTo b_0_xs b_0_ys b_0_labels b_0_oldXs b_0_oldYs b_0_oldLabels b_0_names b_0_oldNames b_0_wanted b_0_common b_0_flatEdges b_0_upEdges b_0_isPoint b_0_stack b_0_pieceLines b_0_pieceBegins b_0_pieceEnds b_0_pieceLeft b_0_pieceRight b_0_outs b_0_isSeen b_0_ringSpaces b_0_ringStarts b_0_ringSizes b_0_ringLeast b_0_looseLines b_0_looseXs b_0_looseYs b_0_looseReaches b_0_far cZ cI v_0_code v_0_lines v_0_isFresh v_0_hasRun v_0_runs v_0_nx v_0_ny v_0_spaces v_0_oldNx v_0_oldNy v_0_oldSpaces v_0_points v_0_pieces v_0_rings v_0_outsideSides v_0_looseCount f_0_isFlat f_0_across f_0_lows f_0_highs) H := hP.sub [0, 1, 2, 3, 4] rfl
  have hD : va_D A (wl_Mo_isEnd a_0 a_0_isFlat a_0_across a_0_lows a_0_highs b_0_thick b_0_doorCounts b_0_doorFrom b_0_doorTo b_0_xs b_0_ys b_0_labels b_0_oldXs b_0_oldYs b_0_oldLabels b_0_names b_0_oldNames b_0_wanted b_0_common b_0_flatEdges b_0_upEdges b_0_isPoint b_0_stack b_0_pieceLines b_0_pieceBegins b_0_pieceEnds b_0_pieceLeft b_0_pieceRight b_0_outs b_0_isSeen b_0_ringSpaces b_0_ringStarts b_0_ringSizes b_0_ringLeast b_0_looseLines b_0_looseXs b_0_looseYs b_0_looseReaches b_0_far cZ cI v_0_code v_0_lines v_0_isFresh v_0_hasRun v_0_runs v_0_nx v_0_ny v_0_spaces v_0_oldNx v_0_oldNy v_0_oldSpaces v_0_points v_0_pieces v_0_rings v_0_outsideSides v_0_looseCount f_0_isFlat f_0_across f_0_lows f_0_highs) := hD.sub [0, 1, 2, 3, 4] (by decide) rfl
  obtain ⟨x6, hb4, hm⟩ := bd1_e hm
  have K3 : ∀ (H : Heap) (locs : List Loc) (ls : Array Slot), va_P (dC, dI) vwCl (wl_Mo_isEnd a_0 a_0_isFlat a_0_across a_0_lows a_0_highs b_0_thick b_0_doorCounts b_0_doorFrom b_0_doorTo b_0_xs b_0_ys b_0_labels b_0_oldXs b_0_oldYs b_0_oldLabels b_0_names b_0_oldNames b_0_wanted b_0_common b_0_flatEdges b_0_upEdges b_0_isPoint b_0_stack b_0_pieceLines b_0_pieceBegins b_0_pieceEnds b_0_pieceLeft b_0_pieceRight b_0_outs b_0_isSeen b_0_ringSpaces b_0_ringStarts b_0_ringSizes b_0_ringLeast b_0_looseLines b_0_looseXs b_0_looseYs b_0_looseReaches b_0_far cZ cI v_0_code v_0_lines v_0_isFresh v_0_hasRun v_0_runs v_0_nx v_0_ny v_0_spaces v_0_oldNx v_0_oldNy v_0_oldSpaces v_0_points v_0_pieces v_0_rings v_0_outsideSides v_0_looseCount f_0_isFlat f_0_across f_0_lows f_0_highs) H → va_D A (wl_Mo_isEnd a_0 a_0_isFlat a_0_across a_0_lows a_0_highs b_0_thick b_0_doorCounts b_0_doorFrom b_0_doorTo b_0_xs b_0_ys b_0_labels b_0_oldXs b_0_oldYs b_0_oldLabels b_0_names b_0_oldNames b_0_wanted b_0_common b_0_flatEdges b_0_upEdges b_0_isPoint b_0_stack b_0_pieceLines b_0_pieceBegins b_0_pieceEnds b_0_pieceLeft b_0_pieceRight b_0_outs b_0_isSeen b_0_ringSpaces b_0_ringStarts b_0_ringSizes b_0_ringLeast b_0_looseLines b_0_looseXs b_0_looseYs b_0_looseReaches b_0_far cZ cI v_0_code v_0_lines v_0_isFresh v_0_hasRun v_0_runs v_0_nx v_0_ny v_0_spaces v_0_oldNx v_0_oldNy v_0_oldSpaces v_0_points v_0_pieces v_0_rings v_0_outsideSides v_0_looseCount f_0_isFlat f_0_across f_0_lows f_0_highs) → va_S A s.heap H locs → lv_has ls 4 [] → W p l e rm_Mo_isEnd s m args below meth c H locs 0 0 Q (F0 m 67 ls [.int x6]) := by
    intro H locs ls hP hD hS hl
    obtain ⟨hB, hm⟩ := gB_e hm
    cases hm
    exact hret _ H locs ls d_Mo_isEnd_67 hB hP hD hS
  replace hm := hb4
  refine lv_if_eq (tgt := 66) hx hb d_Mo_isEnd_7 (by decide) (fun c7 => ?_) (fun c7 => ?_)
  · replace hm := if_t hm c7
    refine lv_iconst (v := 0) hx hb d_Mo_isEnd_66 (by decide) ?_
    cases hm
    exact K3 H locs ls hP hD hS (lv_sub hl [] rfl)
  · replace hm := if_f hm c7
    refine lv_aload_n hx hb d_Mo_isEnd_10 rfl (lv_at hl 0 rfl) ?_
    refine va_get (D := (dC, dI)) (ci := 11) (v := .ref a_0_isFlat) (C := "SpaceCyclesModel") (T := F_Mo) (N := 54) hx hb hts (in_F i_Mo) hown hK hP 0 rfl rfl 1 (by decide) (hts _ (in_c k_279)) (fun _ h9 => h9) rfl d_Mo_isEnd_11 ?_
    refine lv_iload_n hx hb d_Mo_isEnd_14 rfl (lv_at hl 1 rfl) ?_
    obtain ⟨hi8, hm⟩ := gI_e hm
    refine va_zald hx hb hK hP 1 1 rfl rfl hi8 d_Mo_isEnd_15 ?_
    refine lv_if_eq (tgt := 42) hx hb d_Mo_isEnd_16 (by decide) (fun c9 => ?_) (fun c9 => ?_)
    · replace hm := if_t hm c9
      refine lv_iload_n hx hb d_Mo_isEnd_42 rfl (lv_at hl 3 rfl) ?_
      refine lv_aload_n hx hb d_Mo_isEnd_43 rfl (lv_at hl 0 rfl) ?_
      refine va_get (D := (dC, dI)) (ci := 11) (v := .ref a_0_lows) (C := "SpaceCyclesModel") (T := F_Mo) (N := 54) hx hb hts (in_F i_Mo) hown hK hP 0 rfl rfl 3 (by decide) (hts _ (in_c k_281)) (fun _ h9 => h9) rfl d_Mo_isEnd_44 ?_
      refine lv_iload_n hx hb d_Mo_isEnd_47 rfl (lv_at hl 1 rfl) ?_
      obtain ⟨hi10, hm⟩ := gI_e hm
      refine va_iald hx hb hK hP 3 0 rfl rfl hi10 d_Mo_isEnd_48 ?_
      refine lv_icmp_eq (tgt := 62) hx hb d_Mo_isEnd_49 (by decide) (fun c11 => ?_) (fun c11 => ?_)
      · replace hm := if_t hm c11
        refine lv_iconst (v := 1) hx hb d_Mo_isEnd_62 (by decide) ?_
        refine lv_goto (tgt := 67) hx hb d_Mo_isEnd_63 (by decide) ?_
        cases hm
        exact K3 H locs ls hP hD hS (lv_sub hl [] rfl)
      · replace hm := if_f hm c11
        refine lv_iload_n hx hb d_Mo_isEnd_52 rfl (lv_at hl 3 rfl) ?_
        refine lv_aload_n hx hb d_Mo_isEnd_53 rfl (lv_at hl 0 rfl) ?_
        refine va_get (D := (dC, dI)) (ci := 11) (v := .ref a_0_highs) (C := "SpaceCyclesModel") (T := F_Mo) (N := 54) hx hb hts (in_F i_Mo) hown hK hP 0 rfl rfl 4 (by decide) (hts _ (in_c k_282)) (fun _ h9 => h9) rfl d_Mo_isEnd_54 ?_
        refine lv_iload_n hx hb d_Mo_isEnd_57 rfl (lv_at hl 1 rfl) ?_
        obtain ⟨hi12, hm⟩ := gI_e hm
        refine va_iald hx hb hK hP 4 0 rfl rfl hi12 d_Mo_isEnd_58 ?_
        refine lv_icmp_ne (tgt := 66) hx hb d_Mo_isEnd_59 (by decide) (fun c13 => ?_) (fun c13 => ?_)
        · replace hm := if_f hm c13
          refine lv_iconst (v := 0) hx hb d_Mo_isEnd_66 (by decide) ?_
          cases hm
          exact K3 H locs ls hP hD hS (lv_sub hl [] rfl)
        · replace hm := if_t hm c13
          refine lv_iconst (v := 1) hx hb d_Mo_isEnd_62 (by decide) ?_
          refine lv_goto (tgt := 67) hx hb d_Mo_isEnd_63 (by decide) ?_
          cases hm
          exact K3 H locs ls hP hD hS (lv_sub hl [] rfl)
    · replace hm := if_f hm c9
      refine lv_iload_n hx hb d_Mo_isEnd_19 rfl (lv_at hl 2 rfl) ?_
      refine lv_aload_n hx hb d_Mo_isEnd_20 rfl (lv_at hl 0 rfl) ?_
      refine va_get (D := (dC, dI)) (ci := 11) (v := .ref a_0_lows) (C := "SpaceCyclesModel") (T := F_Mo) (N := 54) hx hb hts (in_F i_Mo) hown hK hP 0 rfl rfl 3 (by decide) (hts _ (in_c k_281)) (fun _ h9 => h9) rfl d_Mo_isEnd_21 ?_
      refine lv_iload_n hx hb d_Mo_isEnd_24 rfl (lv_at hl 1 rfl) ?_
      obtain ⟨hi14, hm⟩ := gI_e hm
      refine va_iald hx hb hK hP 3 0 rfl rfl hi14 d_Mo_isEnd_25 ?_
      refine lv_icmp_eq (tgt := 62) hx hb d_Mo_isEnd_26 (by decide) (fun c15 => ?_) (fun c15 => ?_)
      · replace hm := if_t hm c15
        refine lv_iconst (v := 1) hx hb d_Mo_isEnd_62 (by decide) ?_
        refine lv_goto (tgt := 67) hx hb d_Mo_isEnd_63 (by decide) ?_
        cases hm
        exact K3 H locs ls hP hD hS (lv_sub hl [] rfl)
      · replace hm := if_f hm c15
        refine lv_iload_n hx hb d_Mo_isEnd_29 rfl (lv_at hl 2 rfl) ?_
        refine lv_aload_n hx hb d_Mo_isEnd_30 rfl (lv_at hl 0 rfl) ?_
        refine va_get (D := (dC, dI)) (ci := 11) (v := .ref a_0_highs) (C := "SpaceCyclesModel") (T := F_Mo) (N := 54) hx hb hts (in_F i_Mo) hown hK hP 0 rfl rfl 4 (by decide) (hts _ (in_c k_282)) (fun _ h9 => h9) rfl d_Mo_isEnd_31 ?_
        refine lv_iload_n hx hb d_Mo_isEnd_34 rfl (lv_at hl 1 rfl) ?_
        obtain ⟨hi16, hm⟩ := gI_e hm
        refine va_iald hx hb hK hP 4 0 rfl rfl hi16 d_Mo_isEnd_35 ?_
        refine lv_icmp_ne (tgt := 66) hx hb d_Mo_isEnd_36 (by decide) (fun c17 => ?_) (fun c17 => ?_)
        · replace hm := if_f hm c17
          refine lv_iconst (v := 0) hx hb d_Mo_isEnd_66 (by decide) ?_
          cases hm
          exact K3 H locs ls hP hD hS (lv_sub hl [] rfl)
        · replace hm := if_t hm c17
          refine lv_goto (tgt := 62) hx hb d_Mo_isEnd_39 (by decide) ?_
          refine lv_iconst (v := 1) hx hb d_Mo_isEnd_62 (by decide) ?_
          refine lv_goto (tgt := 67) hx hb d_Mo_isEnd_63 (by decide) ?_
          cases hm
          exact K3 H locs ls hP hD hS (lv_sub hl [] rfl)
set_option maxHeartbeats 4000000 in
set_option maxRecDepth 100000 in
theorem c_Mo_isEnd (l : Launch) (dC : Nat → ClassId) (dI : Nat → Nat → Nat) {cI cZ cJ : ClassId} (a_0 a_0_isFlat a_0_across a_0_lows a_0_highs b_0_thick b_0_doorCounts b_0_doorFrom b_0_doorTo b_0_xs b_0_ys b_0_labels b_0_oldXs b_0_oldYs b_0_oldLabels b_0_names b_0_oldNames b_0_wanted b_0_common b_0_flatEdges b_0_upEdges b_0_isPoint b_0_stack b_0_pieceLines b_0_pieceBegins b_0_pieceEnds b_0_pieceLeft b_0_pieceRight b_0_outs b_0_isSeen b_0_ringSpaces b_0_ringStarts b_0_ringSizes b_0_ringLeast b_0_looseLines b_0_looseXs b_0_looseYs b_0_looseReaches b_0_far : Nat) (sz : Nat) (v_0_code : Int32) (v_0_lines : Int32) (v_0_isFresh : Int32) (v_0_hasRun : Int32) (v_0_runs : Int32) (v_0_nx : Int32) (v_0_ny : Int32) (v_0_spaces : Int32) (v_0_oldNx : Int32) (v_0_oldNy : Int32) (v_0_oldSpaces : Int32) (v_0_points : Int32) (v_0_pieces : Int32) (v_0_rings : Int32) (v_0_outsideSides : Int32) (v_0_looseCount : Int32) (f_0_isFlat : Nat → Int32) (f_0_across : Nat → Int32) (f_0_lows : Nat → Int32) (f_0_highs : Nat → Int32) (p1 : Int32) (p2 : Int32) (p3 : Int32) (R0 : Int32) (hm : m_Mo_isEnd p1 p2 p3 f_0_isFlat f_0_across f_0_lows f_0_highs = some R0) : Met l y_Mo_isEnd w_Mo_isEnd rm_Mo_isEnd (PP dC dI [(cI, .int), (cZ, .boolean), (cJ, .long)] [.ref a_0, .int p1, .int p2, .int p3] sz (wl_Mo_isEnd a_0 a_0_isFlat a_0_across a_0_lows a_0_highs b_0_thick b_0_doorCounts b_0_doorFrom b_0_doorTo b_0_xs b_0_ys b_0_labels b_0_oldXs b_0_oldYs b_0_oldLabels b_0_names b_0_oldNames b_0_wanted b_0_common b_0_flatEdges b_0_upEdges b_0_isPoint b_0_stack b_0_pieceLines b_0_pieceBegins b_0_pieceEnds b_0_pieceLeft b_0_pieceRight b_0_outs b_0_isSeen b_0_ringSpaces b_0_ringStarts b_0_ringSizes b_0_ringLeast b_0_looseLines b_0_looseXs b_0_looseYs b_0_looseReaches b_0_far cZ cI v_0_code v_0_lines v_0_isFresh v_0_hasRun v_0_runs v_0_nx v_0_ny v_0_spaces v_0_oldNx v_0_oldNy v_0_oldSpaces v_0_points v_0_pieces v_0_rings v_0_outsideSides v_0_looseCount f_0_isFlat f_0_across f_0_lows f_0_highs)) (QI dC dI [(cI, .int), (cZ, .boolean), (cJ, .long)] sz (wl_Mo_isEnd a_0 a_0_isFlat a_0_across a_0_lows a_0_highs b_0_thick b_0_doorCounts b_0_doorFrom b_0_doorTo b_0_xs b_0_ys b_0_labels b_0_oldXs b_0_oldYs b_0_oldLabels b_0_names b_0_oldNames b_0_wanted b_0_common b_0_flatEdges b_0_upEdges b_0_isPoint b_0_stack b_0_pieceLines b_0_pieceBegins b_0_pieceEnds b_0_pieceLeft b_0_pieceRight b_0_outs b_0_isSeen b_0_ringSpaces b_0_ringStarts b_0_ringSizes b_0_ringLeast b_0_looseLines b_0_looseXs b_0_looseYs b_0_looseReaches b_0_far cZ cI v_0_code v_0_lines v_0_isFresh v_0_hasRun v_0_runs v_0_nx v_0_ny v_0_spaces v_0_oldNx v_0_oldNy v_0_oldSpaces v_0_points v_0_pieces v_0_rings v_0_outsideSides v_0_looseCount f_0_isFlat f_0_across f_0_lows f_0_highs) (wl_Mo_isEnd a_0 a_0_isFlat a_0_across a_0_lows a_0_highs b_0_thick b_0_doorCounts b_0_doorFrom b_0_doorTo b_0_xs b_0_ys b_0_labels b_0_oldXs b_0_oldYs b_0_oldLabels b_0_names b_0_oldNames b_0_wanted b_0_common b_0_flatEdges b_0_upEdges b_0_isPoint b_0_stack b_0_pieceLines b_0_pieceBegins b_0_pieceEnds b_0_pieceLeft b_0_pieceRight b_0_outs b_0_isSeen b_0_ringSpaces b_0_ringStarts b_0_ringSizes b_0_ringLeast b_0_looseLines b_0_looseXs b_0_looseYs b_0_looseReaches b_0_far cZ cI v_0_code v_0_lines v_0_isFresh v_0_hasRun v_0_runs v_0_nx v_0_ny v_0_spaces v_0_oldNx v_0_oldNy v_0_oldSpaces v_0_points v_0_pieces v_0_rings v_0_outsideSides v_0_looseCount f_0_isFlat f_0_across f_0_lows f_0_highs) R0) 0 0 (va_A (wl_Mo_isEnd a_0 a_0_isFlat a_0_across a_0_lows a_0_highs b_0_thick b_0_doorCounts b_0_doorFrom b_0_doorTo b_0_xs b_0_ys b_0_labels b_0_oldXs b_0_oldYs b_0_oldLabels b_0_names b_0_oldNames b_0_wanted b_0_common b_0_flatEdges b_0_upEdges b_0_isPoint b_0_stack b_0_pieceLines b_0_pieceBegins b_0_pieceEnds b_0_pieceLeft b_0_pieceRight b_0_outs b_0_isSeen b_0_ringSpaces b_0_ringStarts b_0_ringSizes b_0_ringLeast b_0_looseLines b_0_looseXs b_0_looseYs b_0_looseReaches b_0_far cZ cI v_0_code v_0_lines v_0_isFresh v_0_hasRun v_0_runs v_0_nx v_0_ny v_0_spaces v_0_oldNx v_0_oldNy v_0_oldSpaces v_0_points v_0_pieces v_0_rings v_0_outsideSides v_0_looseCount f_0_isFlat f_0_across f_0_lows f_0_highs) sz) := by
  refine Met.ofW (cc := b_Mo_isEnd) (maxL := 4) (ret := (some .boolean)) (by decide) rfl ?_
  intro p e s m args below meth c s₁ B hml hv
  obtain ⟨rfl, hsz, hP, hK, hD0, hN⟩ := hv
  subst hsz
  have hl := lv_entry ([.ref a_0, .int p1, .int p2, .int p3]) (n := 4) (Nat.le_of_ble_eq_true rfl)
  rw [lg_entry_eq]
  generalize (lg_sl ([.ref a_0, .int p1, .int p2, .int p3]) ++ List.replicate (4 - (lg_sl ([.ref a_0, .int p1, .int p2, .int p3])).length) Slot.unset).toArray = ls at hl ⊢
  exact t_Mo_isEnd a_0 a_0_isFlat a_0_across a_0_lows a_0_highs b_0_thick b_0_doorCounts b_0_doorFrom b_0_doorTo b_0_xs b_0_ys b_0_labels b_0_oldXs b_0_oldYs b_0_oldLabels b_0_names b_0_oldNames b_0_wanted b_0_common b_0_flatEdges b_0_upEdges b_0_isPoint b_0_stack b_0_pieceLines b_0_pieceBegins b_0_pieceEnds b_0_pieceLeft b_0_pieceRight b_0_outs b_0_isSeen b_0_ringSpaces b_0_ringStarts b_0_ringSizes b_0_ringLeast b_0_looseLines b_0_looseXs b_0_looseYs b_0_looseReaches b_0_far v_0_code v_0_lines v_0_isFresh v_0_hasRun v_0_runs v_0_nx v_0_ny v_0_spaces v_0_oldNx v_0_oldNy v_0_oldSpaces v_0_points v_0_pieces v_0_rings v_0_outsideSides v_0_looseCount f_0_isFlat f_0_across f_0_lows f_0_highs p1 p2 p3 R0 B.exec B.bytes hml (findClass_of_methodNamed B.named) (atoms_spec (ws := w_Mo_isEnd) B.pre) hK hN (fun q h => Or.inr h) (fun pc H locs ls hd hz hP9 hD9 hS => W.zret B.exec B.bytes B.returns (nar_b hz) (fun t ht hW => ⟨⟨_, (), rfl, rfl, by rw [ht]; exact hP9, va_K.moved hW.alike hK, hD9⟩, hS.F ht⟩) hS.2.2 hd) hm s.heap [] ls hP hD0.self va_S.rf hl

theorem k_300 : ((.fieldLink "SpaceCyclesModel" 157 "SpaceCyclesModel" "nx" "I") : Cond) ∈ gl := gl_i 1136 (by decide +kernel) (by decide +kernel)
theorem k_301 : ((.fieldLink "SpaceCyclesModel" 160 "SpaceCyclesModel" "ny" "I") : Cond) ∈ gl := gl_i 1137 (by decide +kernel) (by decide +kernel)
theorem k_302 : ((.fieldLink "SpaceCyclesModel" 35 "SpaceCyclesModel" "xs" "[I") : Cond) ∈ gl := gl_i 1134 (by decide +kernel) (by decide +kernel)
theorem k_303 : ((.code ⟨"SpaceCyclesModel", "put", "([III)I"⟩ prog_13_method_9_code 5 (some .int)) : Cond) ∈ gl := gl_i 1327 (by decide +kernel) (by decide +kernel)
theorem k_304 : ((.static ⟨"SpaceCyclesModel", "put", "([III)I"⟩) : Cond) ∈ gl := gl_i 1326 (by decide +kernel) (by decide +kernel)
theorem k_305 : ((.methodLink "SpaceCyclesModel" 163 ⟨"SpaceCyclesModel", "put", "([III)I"⟩) : Cond) ∈ gl := gl_i 1325 (by decide +kernel) (by decide +kernel)
theorem k_306 : ((.fieldLink "SpaceCyclesModel" 38 "SpaceCyclesModel" "ys" "[I") : Cond) ∈ gl := gl_i 1135 (by decide +kernel) (by decide +kernel)
theorem k_307 : ((.fieldLink "SpaceCyclesModel" 66 "SpaceCyclesModel" "flatEdges" "[I") : Cond) ∈ gl := gl_i 1150 (by decide +kernel) (by decide +kernel)
theorem k_308 : ((.fieldLink "SpaceCyclesModel" 69 "SpaceCyclesModel" "upEdges" "[I") : Cond) ∈ gl := gl_i 1151 (by decide +kernel) (by decide +kernel)
theorem k_309 : ((.fieldLink "SpaceCyclesModel" 72 "SpaceCyclesModel" "isPoint" "[Z") : Cond) ∈ gl := gl_i 1152 (by decide +kernel) (by decide +kernel)
theorem k_310 : ((.code ⟨"SpaceCyclesModel", "find", "([II)I"⟩ prog_13_method_10_code 3 (some .int)) : Cond) ∈ gl := gl_i 1330 (by decide +kernel) (by decide +kernel)
theorem k_311 : ((.static ⟨"SpaceCyclesModel", "find", "([II)I"⟩) : Cond) ∈ gl := gl_i 1329 (by decide +kernel) (by decide +kernel)
theorem k_312 : ((.methodLink "SpaceCyclesModel" 167 ⟨"SpaceCyclesModel", "find", "([II)I"⟩) : Cond) ∈ gl := gl_i 1328 (by decide +kernel) (by decide +kernel)
theorem k_313 : ((.fieldLink "SpaceCyclesModel" 171 "SpaceCyclesModel" "points" "I") : Cond) ∈ gl := gl_i 1153 (by decide +kernel) (by decide +kernel)
theorem k_314 : ((.code ⟨"SpaceCyclesModel", "isEnd", "(III)Z"⟩ prog_13_method_12_code 4 (some .boolean)) : Cond) ∈ gl := gl_i 1338 (by decide +kernel) (by decide +kernel)
theorem k_315 : ((.selects "SpaceCyclesModel" ⟨"SpaceCyclesModel", "isEnd", "(III)Z"⟩ ⟨"SpaceCyclesModel", "isEnd", "(III)Z"⟩) : Cond) ∈ gl := gl_s (by decide +kernel) (by decide +kernel)
theorem k_316 : ((.instanceMethod ⟨"SpaceCyclesModel", "isEnd", "(III)Z"⟩) : Cond) ∈ gl := gl_i 1337 (by decide +kernel) (by decide +kernel)
theorem k_317 : ((.methodLink "SpaceCyclesModel" 174 ⟨"SpaceCyclesModel", "isEnd", "(III)Z"⟩) : Cond) ∈ gl := gl_i 1335 (by decide +kernel) (by decide +kernel)
-- SpaceCyclesModel.layGrid()V
abbrev b_Mo_layGrid : ByteArray := prog_13_method_13_code
abbrev y_Mo_layGrid : MethodName := ⟨"SpaceCyclesModel", "layGrid", "()V"⟩
abbrev w_Mo_layGrid : List Cond := Cond.code y_Mo_layGrid b_Mo_layGrid 6 none :: gl
abbrev rm_Mo_layGrid : Room := { frames := 3, cells := 0, slots := 0, locals := 71 }
theorem d_Mo_layGrid_0 : decode b_Mo_layGrid 0 = .ok (.aload_n 0, 1) := by decide +kernel
theorem d_Mo_layGrid_1 : decode b_Mo_layGrid 1 = .ok (.iconst 0, 1) := by decide +kernel
theorem d_Mo_layGrid_2 : decode b_Mo_layGrid 2 = .ok (.putfield 157, 3) := by decide +kernel
theorem d_Mo_layGrid_5 : decode b_Mo_layGrid 5 = .ok (.aload_n 0, 1) := by decide +kernel
theorem d_Mo_layGrid_6 : decode b_Mo_layGrid 6 = .ok (.iconst 0, 1) := by decide +kernel
theorem d_Mo_layGrid_7 : decode b_Mo_layGrid 7 = .ok (.putfield 160, 3) := by decide +kernel
theorem d_Mo_layGrid_10 : decode b_Mo_layGrid 10 = .ok (.iconst 0, 1) := by decide +kernel
theorem d_Mo_layGrid_11 : decode b_Mo_layGrid 11 = .ok (.istore_n 1, 1) := by decide +kernel
theorem d_Mo_layGrid_12 : decode b_Mo_layGrid 12 = .ok (.iload_n 1, 1) := by decide +kernel
theorem d_Mo_layGrid_13 : decode b_Mo_layGrid 13 = .ok (.aload_n 0, 1) := by decide +kernel
theorem d_Mo_layGrid_14 : decode b_Mo_layGrid 14 = .ok (.getfield 130, 3) := by decide +kernel
theorem d_Mo_layGrid_17 : decode b_Mo_layGrid 17 = .ok (.if_icmp .ge 147, 3) := by decide +kernel
theorem d_Mo_layGrid_20 : decode b_Mo_layGrid 20 = .ok (.aload_n 0, 1) := by decide +kernel
theorem d_Mo_layGrid_21 : decode b_Mo_layGrid 21 = .ok (.getfield 7, 3) := by decide +kernel
theorem d_Mo_layGrid_24 : decode b_Mo_layGrid 24 = .ok (.iload_n 1, 1) := by decide +kernel
theorem d_Mo_layGrid_25 : decode b_Mo_layGrid 25 = .ok (.baload, 1) := by decide +kernel
theorem d_Mo_layGrid_26 : decode b_Mo_layGrid 26 = .ok (.ifCond .eq 69, 3) := by decide +kernel
theorem d_Mo_layGrid_29 : decode b_Mo_layGrid 29 = .ok (.aload_n 0, 1) := by decide +kernel
theorem d_Mo_layGrid_30 : decode b_Mo_layGrid 30 = .ok (.aload_n 0, 1) := by decide +kernel
theorem d_Mo_layGrid_31 : decode b_Mo_layGrid 31 = .ok (.getfield 35, 3) := by decide +kernel
theorem d_Mo_layGrid_34 : decode b_Mo_layGrid 34 = .ok (.aload_n 0, 1) := by decide +kernel
theorem d_Mo_layGrid_35 : decode b_Mo_layGrid 35 = .ok (.getfield 157, 3) := by decide +kernel
theorem d_Mo_layGrid_38 : decode b_Mo_layGrid 38 = .ok (.aload_n 0, 1) := by decide +kernel
theorem d_Mo_layGrid_39 : decode b_Mo_layGrid 39 = .ok (.getfield 17, 3) := by decide +kernel
theorem d_Mo_layGrid_42 : decode b_Mo_layGrid 42 = .ok (.iload_n 1, 1) := by decide +kernel
theorem d_Mo_layGrid_43 : decode b_Mo_layGrid 43 = .ok (.iaload, 1) := by decide +kernel
theorem d_Mo_layGrid_44 : decode b_Mo_layGrid 44 = .ok (.invokestatic 163, 3) := by decide +kernel
theorem d_Mo_layGrid_47 : decode b_Mo_layGrid 47 = .ok (.putfield 157, 3) := by decide +kernel
theorem d_Mo_layGrid_50 : decode b_Mo_layGrid 50 = .ok (.aload_n 0, 1) := by decide +kernel
theorem d_Mo_layGrid_51 : decode b_Mo_layGrid 51 = .ok (.aload_n 0, 1) := by decide +kernel
theorem d_Mo_layGrid_52 : decode b_Mo_layGrid 52 = .ok (.getfield 35, 3) := by decide +kernel
theorem d_Mo_layGrid_55 : decode b_Mo_layGrid 55 = .ok (.aload_n 0, 1) := by decide +kernel
theorem d_Mo_layGrid_56 : decode b_Mo_layGrid 56 = .ok (.getfield 157, 3) := by decide +kernel
theorem d_Mo_layGrid_59 : decode b_Mo_layGrid 59 = .ok (.aload_n 0, 1) := by decide +kernel
theorem d_Mo_layGrid_60 : decode b_Mo_layGrid 60 = .ok (.getfield 20, 3) := by decide +kernel
theorem d_Mo_layGrid_63 : decode b_Mo_layGrid 63 = .ok (.iload_n 1, 1) := by decide +kernel
theorem d_Mo_layGrid_64 : decode b_Mo_layGrid 64 = .ok (.iaload, 1) := by decide +kernel
theorem d_Mo_layGrid_65 : decode b_Mo_layGrid 65 = .ok (.invokestatic 163, 3) := by decide +kernel
theorem d_Mo_layGrid_68 : decode b_Mo_layGrid 68 = .ok (.putfield 157, 3) := by decide +kernel
theorem d_Mo_layGrid_71 : decode b_Mo_layGrid 71 = .ok (.aload_n 0, 1) := by decide +kernel
theorem d_Mo_layGrid_72 : decode b_Mo_layGrid 72 = .ok (.aload_n 0, 1) := by decide +kernel
theorem d_Mo_layGrid_73 : decode b_Mo_layGrid 73 = .ok (.getfield 38, 3) := by decide +kernel
theorem d_Mo_layGrid_76 : decode b_Mo_layGrid 76 = .ok (.aload_n 0, 1) := by decide +kernel
theorem d_Mo_layGrid_77 : decode b_Mo_layGrid 77 = .ok (.getfield 160, 3) := by decide +kernel
theorem d_Mo_layGrid_80 : decode b_Mo_layGrid 80 = .ok (.aload_n 0, 1) := by decide +kernel
theorem d_Mo_layGrid_81 : decode b_Mo_layGrid 81 = .ok (.getfield 13, 3) := by decide +kernel
theorem d_Mo_layGrid_84 : decode b_Mo_layGrid 84 = .ok (.iload_n 1, 1) := by decide +kernel
theorem d_Mo_layGrid_85 : decode b_Mo_layGrid 85 = .ok (.iaload, 1) := by decide +kernel
theorem d_Mo_layGrid_86 : decode b_Mo_layGrid 86 = .ok (.invokestatic 163, 3) := by decide +kernel
theorem d_Mo_layGrid_89 : decode b_Mo_layGrid 89 = .ok (.putfield 160, 3) := by decide +kernel
theorem d_Mo_layGrid_92 : decode b_Mo_layGrid 92 = .ok (.goto 66, 3) := by decide +kernel
theorem d_Mo_layGrid_95 : decode b_Mo_layGrid 95 = .ok (.aload_n 0, 1) := by decide +kernel
theorem d_Mo_layGrid_96 : decode b_Mo_layGrid 96 = .ok (.aload_n 0, 1) := by decide +kernel
theorem d_Mo_layGrid_97 : decode b_Mo_layGrid 97 = .ok (.getfield 35, 3) := by decide +kernel
theorem d_Mo_layGrid_100 : decode b_Mo_layGrid 100 = .ok (.aload_n 0, 1) := by decide +kernel
theorem d_Mo_layGrid_101 : decode b_Mo_layGrid 101 = .ok (.getfield 157, 3) := by decide +kernel
theorem d_Mo_layGrid_104 : decode b_Mo_layGrid 104 = .ok (.aload_n 0, 1) := by decide +kernel
theorem d_Mo_layGrid_105 : decode b_Mo_layGrid 105 = .ok (.getfield 13, 3) := by decide +kernel
theorem d_Mo_layGrid_108 : decode b_Mo_layGrid 108 = .ok (.iload_n 1, 1) := by decide +kernel
theorem d_Mo_layGrid_109 : decode b_Mo_layGrid 109 = .ok (.iaload, 1) := by decide +kernel
theorem d_Mo_layGrid_110 : decode b_Mo_layGrid 110 = .ok (.invokestatic 163, 3) := by decide +kernel
theorem d_Mo_layGrid_113 : decode b_Mo_layGrid 113 = .ok (.putfield 157, 3) := by decide +kernel
theorem d_Mo_layGrid_116 : decode b_Mo_layGrid 116 = .ok (.aload_n 0, 1) := by decide +kernel
theorem d_Mo_layGrid_117 : decode b_Mo_layGrid 117 = .ok (.aload_n 0, 1) := by decide +kernel
theorem d_Mo_layGrid_118 : decode b_Mo_layGrid 118 = .ok (.getfield 38, 3) := by decide +kernel
theorem d_Mo_layGrid_121 : decode b_Mo_layGrid 121 = .ok (.aload_n 0, 1) := by decide +kernel
theorem d_Mo_layGrid_122 : decode b_Mo_layGrid 122 = .ok (.getfield 160, 3) := by decide +kernel
theorem d_Mo_layGrid_125 : decode b_Mo_layGrid 125 = .ok (.aload_n 0, 1) := by decide +kernel
theorem d_Mo_layGrid_126 : decode b_Mo_layGrid 126 = .ok (.getfield 17, 3) := by decide +kernel
theorem d_Mo_layGrid_129 : decode b_Mo_layGrid 129 = .ok (.iload_n 1, 1) := by decide +kernel
theorem d_Mo_layGrid_130 : decode b_Mo_layGrid 130 = .ok (.iaload, 1) := by decide +kernel
theorem d_Mo_layGrid_131 : decode b_Mo_layGrid 131 = .ok (.invokestatic 163, 3) := by decide +kernel
theorem d_Mo_layGrid_134 : decode b_Mo_layGrid 134 = .ok (.putfield 160, 3) := by decide +kernel
theorem d_Mo_layGrid_137 : decode b_Mo_layGrid 137 = .ok (.aload_n 0, 1) := by decide +kernel
theorem d_Mo_layGrid_138 : decode b_Mo_layGrid 138 = .ok (.aload_n 0, 1) := by decide +kernel
theorem d_Mo_layGrid_139 : decode b_Mo_layGrid 139 = .ok (.getfield 38, 3) := by decide +kernel
theorem d_Mo_layGrid_142 : decode b_Mo_layGrid 142 = .ok (.aload_n 0, 1) := by decide +kernel
theorem d_Mo_layGrid_143 : decode b_Mo_layGrid 143 = .ok (.getfield 160, 3) := by decide +kernel
theorem d_Mo_layGrid_146 : decode b_Mo_layGrid 146 = .ok (.aload_n 0, 1) := by decide +kernel
theorem d_Mo_layGrid_147 : decode b_Mo_layGrid 147 = .ok (.getfield 20, 3) := by decide +kernel
theorem d_Mo_layGrid_150 : decode b_Mo_layGrid 150 = .ok (.iload_n 1, 1) := by decide +kernel
theorem d_Mo_layGrid_151 : decode b_Mo_layGrid 151 = .ok (.iaload, 1) := by decide +kernel
theorem d_Mo_layGrid_152 : decode b_Mo_layGrid 152 = .ok (.invokestatic 163, 3) := by decide +kernel
theorem d_Mo_layGrid_155 : decode b_Mo_layGrid 155 = .ok (.putfield 160, 3) := by decide +kernel
theorem d_Mo_layGrid_158 : decode b_Mo_layGrid 158 = .ok (.iinc 1 1, 3) := by decide +kernel
theorem d_Mo_layGrid_161 : decode b_Mo_layGrid 161 = .ok (.goto (-149), 3) := by decide +kernel
theorem d_Mo_layGrid_164 : decode b_Mo_layGrid 164 = .ok (.iconst 0, 1) := by decide +kernel
theorem d_Mo_layGrid_165 : decode b_Mo_layGrid 165 = .ok (.istore_n 1, 1) := by decide +kernel
theorem d_Mo_layGrid_166 : decode b_Mo_layGrid 166 = .ok (.iload_n 1, 1) := by decide +kernel
theorem d_Mo_layGrid_167 : decode b_Mo_layGrid 167 = .ok (.sipush 1764, 3) := by decide +kernel
theorem d_Mo_layGrid_170 : decode b_Mo_layGrid 170 = .ok (.if_icmp .ge 30, 3) := by decide +kernel
theorem d_Mo_layGrid_173 : decode b_Mo_layGrid 173 = .ok (.aload_n 0, 1) := by decide +kernel
theorem d_Mo_layGrid_174 : decode b_Mo_layGrid 174 = .ok (.getfield 66, 3) := by decide +kernel
theorem d_Mo_layGrid_177 : decode b_Mo_layGrid 177 = .ok (.iload_n 1, 1) := by decide +kernel
theorem d_Mo_layGrid_178 : decode b_Mo_layGrid 178 = .ok (.iconst (-1), 1) := by decide +kernel
theorem d_Mo_layGrid_179 : decode b_Mo_layGrid 179 = .ok (.iastore, 1) := by decide +kernel
theorem d_Mo_layGrid_180 : decode b_Mo_layGrid 180 = .ok (.aload_n 0, 1) := by decide +kernel
theorem d_Mo_layGrid_181 : decode b_Mo_layGrid 181 = .ok (.getfield 69, 3) := by decide +kernel
theorem d_Mo_layGrid_184 : decode b_Mo_layGrid 184 = .ok (.iload_n 1, 1) := by decide +kernel
theorem d_Mo_layGrid_185 : decode b_Mo_layGrid 185 = .ok (.iconst (-1), 1) := by decide +kernel
theorem d_Mo_layGrid_186 : decode b_Mo_layGrid 186 = .ok (.iastore, 1) := by decide +kernel
theorem d_Mo_layGrid_187 : decode b_Mo_layGrid 187 = .ok (.aload_n 0, 1) := by decide +kernel
theorem d_Mo_layGrid_188 : decode b_Mo_layGrid 188 = .ok (.getfield 72, 3) := by decide +kernel
theorem d_Mo_layGrid_191 : decode b_Mo_layGrid 191 = .ok (.iload_n 1, 1) := by decide +kernel
theorem d_Mo_layGrid_192 : decode b_Mo_layGrid 192 = .ok (.iconst 0, 1) := by decide +kernel
theorem d_Mo_layGrid_193 : decode b_Mo_layGrid 193 = .ok (.bastore, 1) := by decide +kernel
theorem d_Mo_layGrid_194 : decode b_Mo_layGrid 194 = .ok (.iinc 1 1, 3) := by decide +kernel
theorem d_Mo_layGrid_197 : decode b_Mo_layGrid 197 = .ok (.goto (-31), 3) := by decide +kernel
theorem d_Mo_layGrid_200 : decode b_Mo_layGrid 200 = .ok (.iconst 0, 1) := by decide +kernel
theorem d_Mo_layGrid_201 : decode b_Mo_layGrid 201 = .ok (.istore_n 1, 1) := by decide +kernel
theorem d_Mo_layGrid_202 : decode b_Mo_layGrid 202 = .ok (.iload_n 1, 1) := by decide +kernel
theorem d_Mo_layGrid_203 : decode b_Mo_layGrid 203 = .ok (.aload_n 0, 1) := by decide +kernel
theorem d_Mo_layGrid_204 : decode b_Mo_layGrid 204 = .ok (.getfield 130, 3) := by decide +kernel
theorem d_Mo_layGrid_207 : decode b_Mo_layGrid 207 = .ok (.if_icmp .ge 181, 3) := by decide +kernel
theorem d_Mo_layGrid_210 : decode b_Mo_layGrid 210 = .ok (.aload_n 0, 1) := by decide +kernel
theorem d_Mo_layGrid_211 : decode b_Mo_layGrid 211 = .ok (.getfield 7, 3) := by decide +kernel
theorem d_Mo_layGrid_214 : decode b_Mo_layGrid 214 = .ok (.iload_n 1, 1) := by decide +kernel
theorem d_Mo_layGrid_215 : decode b_Mo_layGrid 215 = .ok (.baload, 1) := by decide +kernel
theorem d_Mo_layGrid_216 : decode b_Mo_layGrid 216 = .ok (.ifCond .eq 19, 3) := by decide +kernel
theorem d_Mo_layGrid_219 : decode b_Mo_layGrid 219 = .ok (.aload_n 0, 1) := by decide +kernel
theorem d_Mo_layGrid_220 : decode b_Mo_layGrid 220 = .ok (.getfield 38, 3) := by decide +kernel
theorem d_Mo_layGrid_223 : decode b_Mo_layGrid 223 = .ok (.aload_n 0, 1) := by decide +kernel
theorem d_Mo_layGrid_224 : decode b_Mo_layGrid 224 = .ok (.getfield 13, 3) := by decide +kernel
theorem d_Mo_layGrid_227 : decode b_Mo_layGrid 227 = .ok (.iload_n 1, 1) := by decide +kernel
theorem d_Mo_layGrid_228 : decode b_Mo_layGrid 228 = .ok (.iaload, 1) := by decide +kernel
theorem d_Mo_layGrid_229 : decode b_Mo_layGrid 229 = .ok (.invokestatic 167, 3) := by decide +kernel
theorem d_Mo_layGrid_232 : decode b_Mo_layGrid 232 = .ok (.goto 16, 3) := by decide +kernel
theorem d_Mo_layGrid_235 : decode b_Mo_layGrid 235 = .ok (.aload_n 0, 1) := by decide +kernel
theorem d_Mo_layGrid_236 : decode b_Mo_layGrid 236 = .ok (.getfield 35, 3) := by decide +kernel
theorem d_Mo_layGrid_239 : decode b_Mo_layGrid 239 = .ok (.aload_n 0, 1) := by decide +kernel
theorem d_Mo_layGrid_240 : decode b_Mo_layGrid 240 = .ok (.getfield 13, 3) := by decide +kernel
theorem d_Mo_layGrid_243 : decode b_Mo_layGrid 243 = .ok (.iload_n 1, 1) := by decide +kernel
theorem d_Mo_layGrid_244 : decode b_Mo_layGrid 244 = .ok (.iaload, 1) := by decide +kernel
theorem d_Mo_layGrid_245 : decode b_Mo_layGrid 245 = .ok (.invokestatic 167, 3) := by decide +kernel
theorem d_Mo_layGrid_248 : decode b_Mo_layGrid 248 = .ok (.istore_n 2, 1) := by decide +kernel
theorem d_Mo_layGrid_249 : decode b_Mo_layGrid 249 = .ok (.aload_n 0, 1) := by decide +kernel
theorem d_Mo_layGrid_250 : decode b_Mo_layGrid 250 = .ok (.getfield 7, 3) := by decide +kernel
theorem d_Mo_layGrid_253 : decode b_Mo_layGrid 253 = .ok (.iload_n 1, 1) := by decide +kernel
theorem d_Mo_layGrid_254 : decode b_Mo_layGrid 254 = .ok (.baload, 1) := by decide +kernel
theorem d_Mo_layGrid_255 : decode b_Mo_layGrid 255 = .ok (.ifCond .eq 19, 3) := by decide +kernel
theorem d_Mo_layGrid_258 : decode b_Mo_layGrid 258 = .ok (.aload_n 0, 1) := by decide +kernel
theorem d_Mo_layGrid_259 : decode b_Mo_layGrid 259 = .ok (.getfield 35, 3) := by decide +kernel
theorem d_Mo_layGrid_262 : decode b_Mo_layGrid 262 = .ok (.aload_n 0, 1) := by decide +kernel
theorem d_Mo_layGrid_263 : decode b_Mo_layGrid 263 = .ok (.getfield 17, 3) := by decide +kernel
theorem d_Mo_layGrid_266 : decode b_Mo_layGrid 266 = .ok (.iload_n 1, 1) := by decide +kernel
theorem d_Mo_layGrid_267 : decode b_Mo_layGrid 267 = .ok (.iaload, 1) := by decide +kernel
theorem d_Mo_layGrid_268 : decode b_Mo_layGrid 268 = .ok (.invokestatic 167, 3) := by decide +kernel
theorem d_Mo_layGrid_271 : decode b_Mo_layGrid 271 = .ok (.goto 16, 3) := by decide +kernel
theorem d_Mo_layGrid_274 : decode b_Mo_layGrid 274 = .ok (.aload_n 0, 1) := by decide +kernel
theorem d_Mo_layGrid_275 : decode b_Mo_layGrid 275 = .ok (.getfield 38, 3) := by decide +kernel
theorem d_Mo_layGrid_278 : decode b_Mo_layGrid 278 = .ok (.aload_n 0, 1) := by decide +kernel
theorem d_Mo_layGrid_279 : decode b_Mo_layGrid 279 = .ok (.getfield 17, 3) := by decide +kernel
theorem d_Mo_layGrid_282 : decode b_Mo_layGrid 282 = .ok (.iload_n 1, 1) := by decide +kernel
theorem d_Mo_layGrid_283 : decode b_Mo_layGrid 283 = .ok (.iaload, 1) := by decide +kernel
theorem d_Mo_layGrid_284 : decode b_Mo_layGrid 284 = .ok (.invokestatic 167, 3) := by decide +kernel
theorem d_Mo_layGrid_287 : decode b_Mo_layGrid 287 = .ok (.istore_n 3, 1) := by decide +kernel
theorem d_Mo_layGrid_288 : decode b_Mo_layGrid 288 = .ok (.aload_n 0, 1) := by decide +kernel
theorem d_Mo_layGrid_289 : decode b_Mo_layGrid 289 = .ok (.getfield 7, 3) := by decide +kernel
theorem d_Mo_layGrid_292 : decode b_Mo_layGrid 292 = .ok (.iload_n 1, 1) := by decide +kernel
theorem d_Mo_layGrid_293 : decode b_Mo_layGrid 293 = .ok (.baload, 1) := by decide +kernel
theorem d_Mo_layGrid_294 : decode b_Mo_layGrid 294 = .ok (.ifCond .eq 19, 3) := by decide +kernel
theorem d_Mo_layGrid_297 : decode b_Mo_layGrid 297 = .ok (.aload_n 0, 1) := by decide +kernel
theorem d_Mo_layGrid_298 : decode b_Mo_layGrid 298 = .ok (.getfield 35, 3) := by decide +kernel
theorem d_Mo_layGrid_301 : decode b_Mo_layGrid 301 = .ok (.aload_n 0, 1) := by decide +kernel
theorem d_Mo_layGrid_302 : decode b_Mo_layGrid 302 = .ok (.getfield 20, 3) := by decide +kernel
theorem d_Mo_layGrid_305 : decode b_Mo_layGrid 305 = .ok (.iload_n 1, 1) := by decide +kernel
theorem d_Mo_layGrid_306 : decode b_Mo_layGrid 306 = .ok (.iaload, 1) := by decide +kernel
theorem d_Mo_layGrid_307 : decode b_Mo_layGrid 307 = .ok (.invokestatic 167, 3) := by decide +kernel
theorem d_Mo_layGrid_310 : decode b_Mo_layGrid 310 = .ok (.goto 16, 3) := by decide +kernel
theorem d_Mo_layGrid_313 : decode b_Mo_layGrid 313 = .ok (.aload_n 0, 1) := by decide +kernel
theorem d_Mo_layGrid_314 : decode b_Mo_layGrid 314 = .ok (.getfield 38, 3) := by decide +kernel
theorem d_Mo_layGrid_317 : decode b_Mo_layGrid 317 = .ok (.aload_n 0, 1) := by decide +kernel
theorem d_Mo_layGrid_318 : decode b_Mo_layGrid 318 = .ok (.getfield 20, 3) := by decide +kernel
theorem d_Mo_layGrid_321 : decode b_Mo_layGrid 321 = .ok (.iload_n 1, 1) := by decide +kernel
theorem d_Mo_layGrid_322 : decode b_Mo_layGrid 322 = .ok (.iaload, 1) := by decide +kernel
theorem d_Mo_layGrid_323 : decode b_Mo_layGrid 323 = .ok (.invokestatic 167, 3) := by decide +kernel
theorem d_Mo_layGrid_326 : decode b_Mo_layGrid 326 = .ok (.istore 4, 2) := by decide +kernel
theorem d_Mo_layGrid_328 : decode b_Mo_layGrid 328 = .ok (.iload_n 3, 1) := by decide +kernel
theorem d_Mo_layGrid_329 : decode b_Mo_layGrid 329 = .ok (.istore 5, 2) := by decide +kernel
theorem d_Mo_layGrid_331 : decode b_Mo_layGrid 331 = .ok (.iload 5, 2) := by decide +kernel
theorem d_Mo_layGrid_333 : decode b_Mo_layGrid 333 = .ok (.iload 4, 2) := by decide +kernel
theorem d_Mo_layGrid_335 : decode b_Mo_layGrid 335 = .ok (.if_icmp .ge 47, 3) := by decide +kernel
theorem d_Mo_layGrid_338 : decode b_Mo_layGrid 338 = .ok (.aload_n 0, 1) := by decide +kernel
theorem d_Mo_layGrid_339 : decode b_Mo_layGrid 339 = .ok (.getfield 7, 3) := by decide +kernel
theorem d_Mo_layGrid_342 : decode b_Mo_layGrid 342 = .ok (.iload_n 1, 1) := by decide +kernel
theorem d_Mo_layGrid_343 : decode b_Mo_layGrid 343 = .ok (.baload, 1) := by decide +kernel
theorem d_Mo_layGrid_344 : decode b_Mo_layGrid 344 = .ok (.ifCond .eq 19, 3) := by decide +kernel
theorem d_Mo_layGrid_347 : decode b_Mo_layGrid 347 = .ok (.aload_n 0, 1) := by decide +kernel
theorem d_Mo_layGrid_348 : decode b_Mo_layGrid 348 = .ok (.getfield 66, 3) := by decide +kernel
theorem d_Mo_layGrid_351 : decode b_Mo_layGrid 351 = .ok (.bipush 42, 2) := by decide +kernel
theorem d_Mo_layGrid_353 : decode b_Mo_layGrid 353 = .ok (.iload 5, 2) := by decide +kernel
theorem d_Mo_layGrid_355 : decode b_Mo_layGrid 355 = .ok (.imul, 1) := by decide +kernel
theorem d_Mo_layGrid_356 : decode b_Mo_layGrid 356 = .ok (.iload_n 2, 1) := by decide +kernel
theorem d_Mo_layGrid_357 : decode b_Mo_layGrid 357 = .ok (.iadd, 1) := by decide +kernel
theorem d_Mo_layGrid_358 : decode b_Mo_layGrid 358 = .ok (.iload_n 1, 1) := by decide +kernel
theorem d_Mo_layGrid_359 : decode b_Mo_layGrid 359 = .ok (.iastore, 1) := by decide +kernel
theorem d_Mo_layGrid_360 : decode b_Mo_layGrid 360 = .ok (.goto 16, 3) := by decide +kernel
theorem d_Mo_layGrid_363 : decode b_Mo_layGrid 363 = .ok (.aload_n 0, 1) := by decide +kernel
theorem d_Mo_layGrid_364 : decode b_Mo_layGrid 364 = .ok (.getfield 69, 3) := by decide +kernel
theorem d_Mo_layGrid_367 : decode b_Mo_layGrid 367 = .ok (.bipush 42, 2) := by decide +kernel
theorem d_Mo_layGrid_369 : decode b_Mo_layGrid 369 = .ok (.iload_n 2, 1) := by decide +kernel
theorem d_Mo_layGrid_370 : decode b_Mo_layGrid 370 = .ok (.imul, 1) := by decide +kernel
theorem d_Mo_layGrid_371 : decode b_Mo_layGrid 371 = .ok (.iload 5, 2) := by decide +kernel
theorem d_Mo_layGrid_373 : decode b_Mo_layGrid 373 = .ok (.iadd, 1) := by decide +kernel
theorem d_Mo_layGrid_374 : decode b_Mo_layGrid 374 = .ok (.iload_n 1, 1) := by decide +kernel
theorem d_Mo_layGrid_375 : decode b_Mo_layGrid 375 = .ok (.iastore, 1) := by decide +kernel
theorem d_Mo_layGrid_376 : decode b_Mo_layGrid 376 = .ok (.iinc 5 1, 3) := by decide +kernel
theorem d_Mo_layGrid_379 : decode b_Mo_layGrid 379 = .ok (.goto (-48), 3) := by decide +kernel
theorem d_Mo_layGrid_382 : decode b_Mo_layGrid 382 = .ok (.iinc 1 1, 3) := by decide +kernel
theorem d_Mo_layGrid_385 : decode b_Mo_layGrid 385 = .ok (.goto (-183), 3) := by decide +kernel
theorem d_Mo_layGrid_388 : decode b_Mo_layGrid 388 = .ok (.aload_n 0, 1) := by decide +kernel
theorem d_Mo_layGrid_389 : decode b_Mo_layGrid 389 = .ok (.iconst 0, 1) := by decide +kernel
theorem d_Mo_layGrid_390 : decode b_Mo_layGrid 390 = .ok (.putfield 171, 3) := by decide +kernel
theorem d_Mo_layGrid_393 : decode b_Mo_layGrid 393 = .ok (.iconst 0, 1) := by decide +kernel
theorem d_Mo_layGrid_394 : decode b_Mo_layGrid 394 = .ok (.istore_n 1, 1) := by decide +kernel
theorem d_Mo_layGrid_395 : decode b_Mo_layGrid 395 = .ok (.iload_n 1, 1) := by decide +kernel
theorem d_Mo_layGrid_396 : decode b_Mo_layGrid 396 = .ok (.aload_n 0, 1) := by decide +kernel
theorem d_Mo_layGrid_397 : decode b_Mo_layGrid 397 = .ok (.getfield 157, 3) := by decide +kernel
theorem d_Mo_layGrid_400 : decode b_Mo_layGrid 400 = .ok (.if_icmp .ge 160, 3) := by decide +kernel
theorem d_Mo_layGrid_403 : decode b_Mo_layGrid 403 = .ok (.iconst 0, 1) := by decide +kernel
theorem d_Mo_layGrid_404 : decode b_Mo_layGrid 404 = .ok (.istore_n 2, 1) := by decide +kernel
theorem d_Mo_layGrid_405 : decode b_Mo_layGrid 405 = .ok (.iload_n 2, 1) := by decide +kernel
theorem d_Mo_layGrid_406 : decode b_Mo_layGrid 406 = .ok (.aload_n 0, 1) := by decide +kernel
theorem d_Mo_layGrid_407 : decode b_Mo_layGrid 407 = .ok (.getfield 160, 3) := by decide +kernel
theorem d_Mo_layGrid_410 : decode b_Mo_layGrid 410 = .ok (.if_icmp .ge 144, 3) := by decide +kernel
theorem d_Mo_layGrid_413 : decode b_Mo_layGrid 413 = .ok (.iconst 0, 1) := by decide +kernel
theorem d_Mo_layGrid_414 : decode b_Mo_layGrid 414 = .ok (.istore_n 3, 1) := by decide +kernel
theorem d_Mo_layGrid_415 : decode b_Mo_layGrid 415 = .ok (.iconst 0, 1) := by decide +kernel
theorem d_Mo_layGrid_416 : decode b_Mo_layGrid 416 = .ok (.istore 4, 2) := by decide +kernel
theorem d_Mo_layGrid_418 : decode b_Mo_layGrid 418 = .ok (.iconst 0, 1) := by decide +kernel
theorem d_Mo_layGrid_419 : decode b_Mo_layGrid 419 = .ok (.istore 5, 2) := by decide +kernel
theorem d_Mo_layGrid_421 : decode b_Mo_layGrid 421 = .ok (.iload 5, 2) := by decide +kernel
theorem d_Mo_layGrid_423 : decode b_Mo_layGrid 423 = .ok (.aload_n 0, 1) := by decide +kernel
theorem d_Mo_layGrid_424 : decode b_Mo_layGrid 424 = .ok (.getfield 130, 3) := by decide +kernel
theorem d_Mo_layGrid_427 : decode b_Mo_layGrid 427 = .ok (.if_icmp .ge 71, 3) := by decide +kernel
theorem d_Mo_layGrid_430 : decode b_Mo_layGrid 430 = .ok (.iload_n 3, 1) := by decide +kernel
theorem d_Mo_layGrid_431 : decode b_Mo_layGrid 431 = .ok (.aload_n 0, 1) := by decide +kernel
theorem d_Mo_layGrid_432 : decode b_Mo_layGrid 432 = .ok (.iload 5, 2) := by decide +kernel
theorem d_Mo_layGrid_434 : decode b_Mo_layGrid 434 = .ok (.aload_n 0, 1) := by decide +kernel
theorem d_Mo_layGrid_435 : decode b_Mo_layGrid 435 = .ok (.getfield 35, 3) := by decide +kernel
theorem d_Mo_layGrid_438 : decode b_Mo_layGrid 438 = .ok (.iload_n 1, 1) := by decide +kernel
theorem d_Mo_layGrid_439 : decode b_Mo_layGrid 439 = .ok (.iaload, 1) := by decide +kernel
theorem d_Mo_layGrid_440 : decode b_Mo_layGrid 440 = .ok (.aload_n 0, 1) := by decide +kernel
theorem d_Mo_layGrid_441 : decode b_Mo_layGrid 441 = .ok (.getfield 38, 3) := by decide +kernel
theorem d_Mo_layGrid_444 : decode b_Mo_layGrid 444 = .ok (.iload_n 2, 1) := by decide +kernel
theorem d_Mo_layGrid_445 : decode b_Mo_layGrid 445 = .ok (.iaload, 1) := by decide +kernel
theorem d_Mo_layGrid_446 : decode b_Mo_layGrid 446 = .ok (.invokevirtual 153, 3) := by decide +kernel
theorem d_Mo_layGrid_449 : decode b_Mo_layGrid 449 = .ok (.ifCond .eq 7, 3) := by decide +kernel
theorem d_Mo_layGrid_452 : decode b_Mo_layGrid 452 = .ok (.iconst 1, 1) := by decide +kernel
theorem d_Mo_layGrid_453 : decode b_Mo_layGrid 453 = .ok (.goto 4, 3) := by decide +kernel
theorem d_Mo_layGrid_456 : decode b_Mo_layGrid 456 = .ok (.iconst 0, 1) := by decide +kernel
theorem d_Mo_layGrid_457 : decode b_Mo_layGrid 457 = .ok (.iadd, 1) := by decide +kernel
theorem d_Mo_layGrid_458 : decode b_Mo_layGrid 458 = .ok (.istore_n 3, 1) := by decide +kernel
theorem d_Mo_layGrid_459 : decode b_Mo_layGrid 459 = .ok (.iload 4, 2) := by decide +kernel
theorem d_Mo_layGrid_461 : decode b_Mo_layGrid 461 = .ok (.ifCond .ne 24, 3) := by decide +kernel
theorem d_Mo_layGrid_464 : decode b_Mo_layGrid 464 = .ok (.aload_n 0, 1) := by decide +kernel
theorem d_Mo_layGrid_465 : decode b_Mo_layGrid 465 = .ok (.iload 5, 2) := by decide +kernel
theorem d_Mo_layGrid_467 : decode b_Mo_layGrid 467 = .ok (.aload_n 0, 1) := by decide +kernel
theorem d_Mo_layGrid_468 : decode b_Mo_layGrid 468 = .ok (.getfield 35, 3) := by decide +kernel
theorem d_Mo_layGrid_471 : decode b_Mo_layGrid 471 = .ok (.iload_n 1, 1) := by decide +kernel
theorem d_Mo_layGrid_472 : decode b_Mo_layGrid 472 = .ok (.iaload, 1) := by decide +kernel
theorem d_Mo_layGrid_473 : decode b_Mo_layGrid 473 = .ok (.aload_n 0, 1) := by decide +kernel
theorem d_Mo_layGrid_474 : decode b_Mo_layGrid 474 = .ok (.getfield 38, 3) := by decide +kernel
theorem d_Mo_layGrid_477 : decode b_Mo_layGrid 477 = .ok (.iload_n 2, 1) := by decide +kernel
theorem d_Mo_layGrid_478 : decode b_Mo_layGrid 478 = .ok (.iaload, 1) := by decide +kernel
theorem d_Mo_layGrid_479 : decode b_Mo_layGrid 479 = .ok (.invokevirtual 174, 3) := by decide +kernel
theorem d_Mo_layGrid_482 : decode b_Mo_layGrid 482 = .ok (.ifCond .eq 7, 3) := by decide +kernel
theorem d_Mo_layGrid_485 : decode b_Mo_layGrid 485 = .ok (.iconst 1, 1) := by decide +kernel
theorem d_Mo_layGrid_486 : decode b_Mo_layGrid 486 = .ok (.goto 4, 3) := by decide +kernel
theorem d_Mo_layGrid_489 : decode b_Mo_layGrid 489 = .ok (.iconst 0, 1) := by decide +kernel
theorem d_Mo_layGrid_490 : decode b_Mo_layGrid 490 = .ok (.istore 4, 2) := by decide +kernel
theorem d_Mo_layGrid_492 : decode b_Mo_layGrid 492 = .ok (.iinc 5 1, 3) := by decide +kernel
theorem d_Mo_layGrid_495 : decode b_Mo_layGrid 495 = .ok (.goto (-74), 3) := by decide +kernel
theorem d_Mo_layGrid_498 : decode b_Mo_layGrid 498 = .ok (.aload_n 0, 1) := by decide +kernel
theorem d_Mo_layGrid_499 : decode b_Mo_layGrid 499 = .ok (.getfield 72, 3) := by decide +kernel
theorem d_Mo_layGrid_502 : decode b_Mo_layGrid 502 = .ok (.bipush 42, 2) := by decide +kernel
theorem d_Mo_layGrid_504 : decode b_Mo_layGrid 504 = .ok (.iload_n 1, 1) := by decide +kernel
theorem d_Mo_layGrid_505 : decode b_Mo_layGrid 505 = .ok (.imul, 1) := by decide +kernel
theorem d_Mo_layGrid_506 : decode b_Mo_layGrid 506 = .ok (.iload_n 2, 1) := by decide +kernel
theorem d_Mo_layGrid_507 : decode b_Mo_layGrid 507 = .ok (.iadd, 1) := by decide +kernel
theorem d_Mo_layGrid_508 : decode b_Mo_layGrid 508 = .ok (.iload 4, 2) := by decide +kernel
theorem d_Mo_layGrid_510 : decode b_Mo_layGrid 510 = .ok (.ifCond .ne 8, 3) := by decide +kernel
theorem d_Mo_layGrid_513 : decode b_Mo_layGrid 513 = .ok (.iload_n 3, 1) := by decide +kernel
theorem d_Mo_layGrid_514 : decode b_Mo_layGrid 514 = .ok (.iconst 1, 1) := by decide +kernel
theorem d_Mo_layGrid_515 : decode b_Mo_layGrid 515 = .ok (.if_icmp .le 7, 3) := by decide +kernel
theorem d_Mo_layGrid_518 : decode b_Mo_layGrid 518 = .ok (.iconst 1, 1) := by decide +kernel
theorem d_Mo_layGrid_519 : decode b_Mo_layGrid 519 = .ok (.goto 4, 3) := by decide +kernel
theorem d_Mo_layGrid_522 : decode b_Mo_layGrid 522 = .ok (.iconst 0, 1) := by decide +kernel
theorem d_Mo_layGrid_523 : decode b_Mo_layGrid 523 = .ok (.bastore, 1) := by decide +kernel
theorem d_Mo_layGrid_524 : decode b_Mo_layGrid 524 = .ok (.aload_n 0, 1) := by decide +kernel
theorem d_Mo_layGrid_525 : decode b_Mo_layGrid 525 = .ok (.dup, 1) := by decide +kernel
theorem d_Mo_layGrid_526 : decode b_Mo_layGrid 526 = .ok (.getfield 171, 3) := by decide +kernel
theorem d_Mo_layGrid_529 : decode b_Mo_layGrid 529 = .ok (.iload 4, 2) := by decide +kernel
theorem d_Mo_layGrid_531 : decode b_Mo_layGrid 531 = .ok (.ifCond .ne 8, 3) := by decide +kernel
theorem d_Mo_layGrid_534 : decode b_Mo_layGrid 534 = .ok (.iload_n 3, 1) := by decide +kernel
theorem d_Mo_layGrid_535 : decode b_Mo_layGrid 535 = .ok (.iconst 1, 1) := by decide +kernel
theorem d_Mo_layGrid_536 : decode b_Mo_layGrid 536 = .ok (.if_icmp .le 7, 3) := by decide +kernel
theorem d_Mo_layGrid_539 : decode b_Mo_layGrid 539 = .ok (.iconst 1, 1) := by decide +kernel
theorem d_Mo_layGrid_540 : decode b_Mo_layGrid 540 = .ok (.goto 4, 3) := by decide +kernel
theorem d_Mo_layGrid_543 : decode b_Mo_layGrid 543 = .ok (.iconst 0, 1) := by decide +kernel
theorem d_Mo_layGrid_544 : decode b_Mo_layGrid 544 = .ok (.iadd, 1) := by decide +kernel
theorem d_Mo_layGrid_545 : decode b_Mo_layGrid 545 = .ok (.putfield 171, 3) := by decide +kernel
theorem d_Mo_layGrid_548 : decode b_Mo_layGrid 548 = .ok (.iinc 2 1, 3) := by decide +kernel
theorem d_Mo_layGrid_551 : decode b_Mo_layGrid 551 = .ok (.goto (-146), 3) := by decide +kernel
theorem d_Mo_layGrid_554 : decode b_Mo_layGrid 554 = .ok (.iinc 1 1, 3) := by decide +kernel
theorem d_Mo_layGrid_557 : decode b_Mo_layGrid 557 = .ok (.goto (-162), 3) := by decide +kernel
theorem d_Mo_layGrid_560 : decode b_Mo_layGrid 560 = .ok (.return_, 1) := by decide +kernel
abbrev wl_Mo_layGrid (a_0 : Nat) (a_0_isFlat : Nat) (a_0_across : Nat) (a_0_lows : Nat) (a_0_highs : Nat) (a_0_xs : Nat) (a_0_ys : Nat) (a_0_flatEdges : Nat) (a_0_upEdges : Nat) (a_0_isPoint : Nat) (b_0_thick : Nat) (b_0_doorCounts : Nat) (b_0_doorFrom : Nat) (b_0_doorTo : Nat) (b_0_labels : Nat) (b_0_oldXs : Nat) (b_0_oldYs : Nat) (b_0_oldLabels : Nat) (b_0_names : Nat) (b_0_oldNames : Nat) (b_0_wanted : Nat) (b_0_common : Nat) (b_0_stack : Nat) (b_0_pieceLines : Nat) (b_0_pieceBegins : Nat) (b_0_pieceEnds : Nat) (b_0_pieceLeft : Nat) (b_0_pieceRight : Nat) (b_0_outs : Nat) (b_0_isSeen : Nat) (b_0_ringSpaces : Nat) (b_0_ringStarts : Nat) (b_0_ringSizes : Nat) (b_0_ringLeast : Nat) (b_0_looseLines : Nat) (b_0_looseXs : Nat) (b_0_looseYs : Nat) (b_0_looseReaches : Nat) (b_0_far : Nat) (cZ : ClassId) (cI : ClassId) (v_0_code : Int32) (v_0_lines : Int32) (v_0_isFresh : Int32) (v_0_hasRun : Int32) (v_0_runs : Int32) (v_0_nx : Int32) (v_0_ny : Int32) (v_0_spaces : Int32) (v_0_oldNx : Int32) (v_0_oldNy : Int32) (v_0_oldSpaces : Int32) (v_0_points : Int32) (v_0_pieces : Int32) (v_0_rings : Int32) (v_0_outsideSides : Int32) (v_0_looseCount : Int32) (f_0_isFlat : Nat → Int32) (f_0_across : Nat → Int32) (f_0_lows : Nat → Int32) (f_0_highs : Nat → Int32) (f_0_xs : Nat → Int32) (f_0_ys : Nat → Int32) (f_0_flatEdges : Nat → Int32) (f_0_upEdges : Nat → Int32) (f_0_isPoint : Nat → Int32) : va_W := [(a_0, .inr (11, [.int v_0_code, .ref a_0_isFlat, .ref a_0_across, .ref a_0_lows, .ref a_0_highs, .ref b_0_thick, .int v_0_lines, .ref b_0_doorCounts, .ref b_0_doorFrom, .ref b_0_doorTo, .int v_0_isFresh, .int v_0_hasRun, .int v_0_runs, .ref a_0_xs, .ref a_0_ys, .int v_0_nx, .int v_0_ny, .ref b_0_labels, .int v_0_spaces, .ref b_0_oldXs, .ref b_0_oldYs, .int v_0_oldNx, .int v_0_oldNy, .ref b_0_oldLabels, .int v_0_oldSpaces, .ref b_0_names, .ref b_0_oldNames, .ref b_0_wanted, .ref b_0_common, .ref a_0_flatEdges, .ref a_0_upEdges, .ref a_0_isPoint, .int v_0_points, .ref b_0_stack, .ref b_0_pieceLines, .ref b_0_pieceBegins, .ref b_0_pieceEnds, .ref b_0_pieceLeft, .ref b_0_pieceRight, .int v_0_pieces, .ref b_0_outs, .ref b_0_isSeen, .ref b_0_ringSpaces, .ref b_0_ringStarts, .ref b_0_ringSizes, .ref b_0_ringLeast, .int v_0_rings, .int v_0_outsideSides, .ref b_0_looseLines, .ref b_0_looseXs, .ref b_0_looseYs, .ref b_0_looseReaches, .int v_0_looseCount, .ref b_0_far])), (a_0_isFlat, .inl (cZ, 20, .inl f_0_isFlat)), (a_0_across, .inl (cI, 20, .inl f_0_across)), (a_0_lows, .inl (cI, 20, .inl f_0_lows)), (a_0_highs, .inl (cI, 20, .inl f_0_highs)), (a_0_xs, .inl (cI, 42, .inl f_0_xs)), (a_0_ys, .inl (cI, 42, .inl f_0_ys)), (a_0_flatEdges, .inl (cI, 1764, .inl f_0_flatEdges)), (a_0_upEdges, .inl (cI, 1764, .inl f_0_upEdges)), (a_0_isPoint, .inl (cZ, 1764, .inl f_0_isPoint))]
def m_Mo_layGrid_L12 (v_0_lines : Int32) (f_0_isFlat : Nat → Int32) (f_0_across : Nat → Int32) (f_0_lows : Nat → Int32) (f_0_highs : Nat → Int32) : Nat → Int32 → Int32 → Int32 → (Nat → Int32) → (Nat → Int32) → Option ((Int32) × (Int32) × (Nat → Int32) × (Nat → Int32))
  | 0, _, _, _, _, _ => none
  | n + 1, l1, v_0_nx, v_0_ny, f_0_xs, f_0_ys =>
    if v_0_lines ≤ l1 then (
      some (v_0_nx, v_0_ny, f_0_xs, f_0_ys))
    else (
      gI l1 20 <|
      bd4 (
        if (f_0_isFlat l1.toNatClampNeg) = 0 then (
        gI l1 20 <|
        bd2 (m_Mo_put 42 v_0_nx (f_0_across l1.toNatClampNeg) f_0_xs) fun r12 f13 =>
        gI l1 20 <|
        bd2 (m_Mo_put 42 v_0_ny (f_0_lows l1.toNatClampNeg) f_0_ys) fun r16 f17 =>
        gI l1 20 <|
        bd2 (m_Mo_put 42 r16 (f_0_highs l1.toNatClampNeg) f17) fun r20 f21 =>
        some (r12, r20, f13, f21))
      else (
        gI l1 20 <|
        bd2 (m_Mo_put 42 v_0_nx (f_0_lows l1.toNatClampNeg) f_0_xs) fun r24 f25 =>
        gI l1 20 <|
        bd2 (m_Mo_put 42 r24 (f_0_highs l1.toNatClampNeg) f25) fun r28 f29 =>
        gI l1 20 <|
        bd2 (m_Mo_put 42 v_0_ny (f_0_across l1.toNatClampNeg) f_0_ys) fun r32 f33 =>
        some (r28, r32, f29, f33)))
      fun (x6 : Int32) (x7 : Int32) (f8 : Nat → Int32) (f9 : Nat → Int32) =>
      lt_ (l1 + 1) fun x35 =>
        m_Mo_layGrid_L12 v_0_lines f_0_isFlat f_0_across f_0_lows f_0_highs n x35 x6 x7 f8 f9)

def m_Mo_layGrid_L166  : Nat → Int32 → (Nat → Int32) → (Nat → Int32) → (Nat → Int32) → Option ((Nat → Int32) × (Nat → Int32) × (Nat → Int32))
  | 0, _, _, _, _ => none
  | n + 1, l1, f_0_flatEdges, f_0_upEdges, f_0_isPoint =>
    if 1764 ≤ l1 then (
      some (f_0_flatEdges, f_0_upEdges, f_0_isPoint))
    else (
      gI l1 1764 <|
      lt_ (upd f_0_flatEdges l1.toNatClampNeg (-1)) fun f49 =>
      gI l1 1764 <|
      lt_ (upd f_0_upEdges l1.toNatClampNeg (-1)) fun f51 =>
      gI l1 1764 <|
      lt_ (upd f_0_isPoint l1.toNatClampNeg (vp_nar .boolean 0)) fun f53 =>
      lt_ (l1 + 1) fun x54 =>
      m_Mo_layGrid_L166 n x54 f49 f51 f53)

def m_Mo_layGrid_L331 (l1 : Int32) (l2 : Int32) (l4 : Int32) (f_0_isFlat : Nat → Int32) : Nat → Int32 → (Nat → Int32) → (Nat → Int32) → Option ((Nat → Int32) × (Nat → Int32))
  | 0, _, _, _ => none
  | n + 1, l5, f_0_flatEdges, f_0_upEdges =>
    if l4 ≤ l5 then (
      some (f_0_flatEdges, f_0_upEdges))
    else (
      gI l1 20 <|
      bd2 (
        if (f_0_isFlat l1.toNatClampNeg) = 0 then (
        gI ((42 * l2) + l5) 1764 <|
        lt_ (upd f_0_upEdges ((42 * l2) + l5).toNatClampNeg l1) fun f110 =>
        some (f_0_flatEdges, f110))
      else (
        gI ((42 * l5) + l2) 1764 <|
        lt_ (upd f_0_flatEdges ((42 * l5) + l2).toNatClampNeg l1) fun f112 =>
        some (f112, f_0_upEdges)))
      fun (f106 : Nat → Int32) (f107 : Nat → Int32) =>
      lt_ (l5 + 1) fun x113 =>
        m_Mo_layGrid_L331 l1 l2 l4 f_0_isFlat n x113 f106 f107)

def m_Mo_layGrid_L202 (v_0_lines : Int32) (f_0_isFlat : Nat → Int32) (f_0_across : Nat → Int32) (f_0_lows : Nat → Int32) (f_0_highs : Nat → Int32) (f_0_xs : Nat → Int32) (f_0_ys : Nat → Int32) : Nat → Int32 → (Nat → Int32) → (Nat → Int32) → Option ((Nat → Int32) × (Nat → Int32))
  | 0, _, _, _ => none
  | n + 1, l1, f_0_flatEdges, f_0_upEdges =>
    if v_0_lines ≤ l1 then (
      some (f_0_flatEdges, f_0_upEdges))
    else (
      gI l1 20 <|
      bd1 (
        if (f_0_isFlat l1.toNatClampNeg) = 0 then (
        gI l1 20 <|
        bd1 (m_Mo_find 42 (f_0_across l1.toNatClampNeg) f_0_xs) fun r72 =>
        some r72)
      else (
        gI l1 20 <|
        bd1 (m_Mo_find 42 (f_0_across l1.toNatClampNeg) f_0_ys) fun r75 =>
        some r75))
      fun (x69 : Int32) =>
      gI l1 20 <|
        bd1 (
          if (f_0_isFlat l1.toNatClampNeg) = 0 then (
          gI l1 20 <|
          bd1 (m_Mo_find 42 (f_0_lows l1.toNatClampNeg) f_0_ys) fun r84 =>
          some r84)
        else (
          gI l1 20 <|
          bd1 (m_Mo_find 42 (f_0_lows l1.toNatClampNeg) f_0_xs) fun r87 =>
          some r87))
        fun (x81 : Int32) =>
        gI l1 20 <|
          bd1 (
            if (f_0_isFlat l1.toNatClampNeg) = 0 then (
            gI l1 20 <|
            bd1 (m_Mo_find 42 (f_0_highs l1.toNatClampNeg) f_0_ys) fun r96 =>
            some r96)
          else (
            gI l1 20 <|
            bd1 (m_Mo_find 42 (f_0_highs l1.toNatClampNeg) f_0_xs) fun r99 =>
            some r99))
          fun (x93 : Int32) =>
          bd2 (m_Mo_layGrid_L331 l1 x69 x93 f_0_isFlat fu x81 f_0_flatEdges f_0_upEdges) fun f104 f105 =>
            lt_ (l1 + 1) fun x121 =>
            m_Mo_layGrid_L202 v_0_lines f_0_isFlat f_0_across f_0_lows f_0_highs f_0_xs f_0_ys n x121 f104 f105)

def m_Mo_layGrid_L421 (l1 : Int32) (l2 : Int32) (v_0_lines : Int32) (f_0_isFlat : Nat → Int32) (f_0_across : Nat → Int32) (f_0_lows : Nat → Int32) (f_0_highs : Nat → Int32) (f_0_xs : Nat → Int32) (f_0_ys : Nat → Int32) : Nat → Int32 → Int32 → Int32 → Option (Int32 × Int32)
  | 0, _, _, _ => none
  | n + 1, l3, l4, l5 =>
    if v_0_lines ≤ l5 then (
      some (l3, l4))
    else (
      gI l1 42 <|
      gI l2 42 <|
      bd1 (m_Mo_isOn l5 (f_0_xs l1.toNatClampNeg) (f_0_ys l2.toNatClampNeg) f_0_isFlat f_0_across f_0_lows f_0_highs) fun r134 =>
      bd1 (
        if r134 = 0 then (
        some 0)
      else (
        some 1))
      fun (x139 : Int32) =>
      lt_ (l3 + x139) fun x141 =>
        bd1 (
          if l4 = 0 then (
          gI l1 42 <|
          gI l2 42 <|
          bd1 (m_Mo_isEnd l5 (f_0_xs l1.toNatClampNeg) (f_0_ys l2.toNatClampNeg) f_0_isFlat f_0_across f_0_lows f_0_highs) fun r149 =>
          if r149 = 0 then (
            some 0)
          else (
            some 1))
        else (
          some 1))
        fun (x145 : Int32) =>
        lt_ (l5 + 1) fun x152 =>
          m_Mo_layGrid_L421 l1 l2 v_0_lines f_0_isFlat f_0_across f_0_lows f_0_highs f_0_xs f_0_ys n x141 x145 x152)

def m_Mo_layGrid_L405 (l1 : Int32) (v_0_lines : Int32) (v_0_ny : Int32) (f_0_isFlat : Nat → Int32) (f_0_across : Nat → Int32) (f_0_lows : Nat → Int32) (f_0_highs : Nat → Int32) (f_0_xs : Nat → Int32) (f_0_ys : Nat → Int32) : Nat → Int32 → Int32 → (Nat → Int32) → Option ((Int32) × (Nat → Int32))
  | 0, _, _, _ => none
  | n + 1, l2, v_0_points, f_0_isPoint =>
    if v_0_ny ≤ l2 then (
      some (v_0_points, f_0_isPoint))
    else (
      bd2 (m_Mo_layGrid_L421 l1 l2 v_0_lines f_0_isFlat f_0_across f_0_lows f_0_highs f_0_xs f_0_ys fu 0 0 0) fun x134 x135 =>
      bd1 (
        if x135 = 0 then (
        if x134 ≤ 1 then (
          some 0)
        else (
          some 1))
      else (
        some 1))
      fun (x163 : Int32) =>
      gI ((42 * l1) + l2) 1764 <|
        lt_ (upd f_0_isPoint ((42 * l1) + l2).toNatClampNeg (vp_nar .boolean x163)) fun f167 =>
        bd1 (
          if x135 = 0 then (
          if x134 ≤ 1 then (
            some 0)
          else (
            some 1))
        else (
          some 1))
        fun (x171 : Int32) =>
        lt_ (v_0_points + x171) fun x174 =>
          lt_ (l2 + 1) fun x175 =>
          m_Mo_layGrid_L405 l1 v_0_lines v_0_ny f_0_isFlat f_0_across f_0_lows f_0_highs f_0_xs f_0_ys n x175 x174 f167)

def m_Mo_layGrid_L395 (v_0_lines : Int32) (v_0_nx : Int32) (v_0_ny : Int32) (f_0_isFlat : Nat → Int32) (f_0_across : Nat → Int32) (f_0_lows : Nat → Int32) (f_0_highs : Nat → Int32) (f_0_xs : Nat → Int32) (f_0_ys : Nat → Int32) : Nat → Int32 → Int32 → (Nat → Int32) → Option ((Int32) × (Nat → Int32))
  | 0, _, _, _ => none
  | n + 1, l1, v_0_points, f_0_isPoint =>
    if v_0_nx ≤ l1 then (
      some (v_0_points, f_0_isPoint))
    else (
      bd2 (m_Mo_layGrid_L405 l1 v_0_lines v_0_ny f_0_isFlat f_0_across f_0_lows f_0_highs f_0_xs f_0_ys fu 0 v_0_points f_0_isPoint) fun x133 f134 =>
      lt_ (l1 + 1) fun x183 =>
      m_Mo_layGrid_L395 v_0_lines v_0_nx v_0_ny f_0_isFlat f_0_across f_0_lows f_0_highs f_0_xs f_0_ys n x183 x133 f134)
def m_Mo_layGrid (v_0_lines : Int32) (v_0_nx : Int32) (v_0_ny : Int32) (v_0_points : Int32) (f_0_isFlat : Nat → Int32) (f_0_across : Nat → Int32) (f_0_lows : Nat → Int32) (f_0_highs : Nat → Int32) (f_0_xs : Nat → Int32) (f_0_ys : Nat → Int32) (f_0_flatEdges : Nat → Int32) (f_0_upEdges : Nat → Int32) (f_0_isPoint : Nat → Int32) : Option ((Int32) × (Int32) × (Int32) × (Nat → Int32) × (Nat → Int32) × (Nat → Int32) × (Nat → Int32) × (Nat → Int32)) :=
  bd4 (m_Mo_layGrid_L12 v_0_lines f_0_isFlat f_0_across f_0_lows f_0_highs fu 0 0 0 f_0_xs f_0_ys) fun x6 x7 f8 f9 =>
  bd3 (m_Mo_layGrid_L166 fu 0 f_0_flatEdges f_0_upEdges f_0_isPoint) fun f51 f52 f53 =>
  bd2 (m_Mo_layGrid_L202 v_0_lines f_0_isFlat f_0_across f_0_lows f_0_highs f8 f9 fu 0 f51 f52) fun f67 f68 =>
  bd2 (m_Mo_layGrid_L395 v_0_lines x6 x7 f_0_isFlat f_0_across f_0_lows f_0_highs f8 f9 fu 0 0 f53) fun x132 f133 =>
  some (x6, x7, x132, f8, f9, f67, f68, f133)

set_option maxHeartbeats 4000000 in
set_option maxRecDepth 100000 in
theorem t_Mo_layGrid {p : Program} {l : Launch} {e : Env} {s : State} {m : MethodId} {args : Array Value} {below : List Frame} {meth : Method} {c : Code} {A : Nat → Prop} {Q : State → Prop} {dC : Nat → ClassId} {dI : Nat → Nat → Nat} {cI cZ cJ : ClassId} (a_0 a_0_isFlat a_0_across a_0_lows a_0_highs a_0_xs a_0_ys a_0_flatEdges a_0_upEdges a_0_isPoint b_0_thick b_0_doorCounts b_0_doorFrom b_0_doorTo b_0_labels b_0_oldXs b_0_oldYs b_0_oldLabels b_0_names b_0_oldNames b_0_wanted b_0_common b_0_stack b_0_pieceLines b_0_pieceBegins b_0_pieceEnds b_0_pieceLeft b_0_pieceRight b_0_outs b_0_isSeen b_0_ringSpaces b_0_ringStarts b_0_ringSizes b_0_ringLeast b_0_looseLines b_0_looseXs b_0_looseYs b_0_looseReaches b_0_far : Nat) (v_0_code : Int32) (v_0_lines : Int32) (v_0_isFresh : Int32) (v_0_hasRun : Int32) (v_0_runs : Int32) (v_0_nx : Int32) (v_0_ny : Int32) (v_0_spaces : Int32) (v_0_oldNx : Int32) (v_0_oldNy : Int32) (v_0_oldSpaces : Int32) (v_0_points : Int32) (v_0_pieces : Int32) (v_0_rings : Int32) (v_0_outsideSides : Int32) (v_0_looseCount : Int32) (f_0_isFlat : Nat → Int32) (f_0_across : Nat → Int32) (f_0_lows : Nat → Int32) (f_0_highs : Nat → Int32) (f_0_xs : Nat → Int32) (f_0_ys : Nat → Int32) (f_0_flatEdges : Nat → Int32) (f_0_upEdges : Nat → Int32) (f_0_isPoint : Nat → Int32)  (ov_0_nx : Int32) (ov_0_ny : Int32) (ov_0_points : Int32) (of_0_xs : Nat → Int32) (of_0_ys : Nat → Int32) (of_0_flatEdges : Nat → Int32) (of_0_upEdges : Nat → Int32) (of_0_isPoint : Nat → Int32) (hx : p.tables.exec = Jvm.exec) (hb : c.code = b_Mo_layGrid) (hml : c.maxLocals = 6) (hown : s.vm.findClass "SpaceCyclesModel" = some m.cls) (hts : ∀ w ∈ w_Mo_layGrid, w.before args s = true) (hK : va_K (dC, dI) vwCl [(cI, .int), (cZ, .boolean), (cJ, .long)] s) (hN : NX s) (hA : ∀ q : Nat, s.heap.size ≤ q → A q)
    (hret : ∀ (pc : Nat) (H : Heap) (locs : List Loc) (ls : Array Slot), decode b_Mo_layGrid pc = .ok (.return_, 1) → va_P (dC, dI) vwCl (wl_Mo_layGrid a_0 a_0_isFlat a_0_across a_0_lows a_0_highs a_0_xs a_0_ys a_0_flatEdges a_0_upEdges a_0_isPoint b_0_thick b_0_doorCounts b_0_doorFrom b_0_doorTo b_0_labels b_0_oldXs b_0_oldYs b_0_oldLabels b_0_names b_0_oldNames b_0_wanted b_0_common b_0_stack b_0_pieceLines b_0_pieceBegins b_0_pieceEnds b_0_pieceLeft b_0_pieceRight b_0_outs b_0_isSeen b_0_ringSpaces b_0_ringStarts b_0_ringSizes b_0_ringLeast b_0_looseLines b_0_looseXs b_0_looseYs b_0_looseReaches b_0_far cZ cI v_0_code v_0_lines v_0_isFresh v_0_hasRun v_0_runs ov_0_nx ov_0_ny v_0_spaces v_0_oldNx v_0_oldNy v_0_oldSpaces ov_0_points v_0_pieces v_0_rings v_0_outsideSides v_0_looseCount f_0_isFlat f_0_across f_0_lows f_0_highs of_0_xs of_0_ys of_0_flatEdges of_0_upEdges of_0_isPoint) H → va_D A (wl_Mo_layGrid a_0 a_0_isFlat a_0_across a_0_lows a_0_highs a_0_xs a_0_ys a_0_flatEdges a_0_upEdges a_0_isPoint b_0_thick b_0_doorCounts b_0_doorFrom b_0_doorTo b_0_labels b_0_oldXs b_0_oldYs b_0_oldLabels b_0_names b_0_oldNames b_0_wanted b_0_common b_0_stack b_0_pieceLines b_0_pieceBegins b_0_pieceEnds b_0_pieceLeft b_0_pieceRight b_0_outs b_0_isSeen b_0_ringSpaces b_0_ringStarts b_0_ringSizes b_0_ringLeast b_0_looseLines b_0_looseXs b_0_looseYs b_0_looseReaches b_0_far cZ cI v_0_code v_0_lines v_0_isFresh v_0_hasRun v_0_runs ov_0_nx ov_0_ny v_0_spaces v_0_oldNx v_0_oldNy v_0_oldSpaces ov_0_points v_0_pieces v_0_rings v_0_outsideSides v_0_looseCount f_0_isFlat f_0_across f_0_lows f_0_highs of_0_xs of_0_ys of_0_flatEdges of_0_upEdges of_0_isPoint) → va_S A s.heap H locs → W p l e rm_Mo_layGrid s m args below meth c H locs 0 0 Q (F0 m pc ls []))
    (hm : m_Mo_layGrid v_0_lines v_0_nx v_0_ny v_0_points f_0_isFlat f_0_across f_0_lows f_0_highs f_0_xs f_0_ys f_0_flatEdges f_0_upEdges f_0_isPoint = some (ov_0_nx, ov_0_ny, ov_0_points, of_0_xs, of_0_ys, of_0_flatEdges, of_0_upEdges, of_0_isPoint)) : ∀ (H : Heap) (locs : List Loc) (ls : Array Slot), va_P (dC, dI) vwCl (wl_Mo_layGrid a_0 a_0_isFlat a_0_across a_0_lows a_0_highs a_0_xs a_0_ys a_0_flatEdges a_0_upEdges a_0_isPoint b_0_thick b_0_doorCounts b_0_doorFrom b_0_doorTo b_0_labels b_0_oldXs b_0_oldYs b_0_oldLabels b_0_names b_0_oldNames b_0_wanted b_0_common b_0_stack b_0_pieceLines b_0_pieceBegins b_0_pieceEnds b_0_pieceLeft b_0_pieceRight b_0_outs b_0_isSeen b_0_ringSpaces b_0_ringStarts b_0_ringSizes b_0_ringLeast b_0_looseLines b_0_looseXs b_0_looseYs b_0_looseReaches b_0_far cZ cI v_0_code v_0_lines v_0_isFresh v_0_hasRun v_0_runs v_0_nx v_0_ny v_0_spaces v_0_oldNx v_0_oldNy v_0_oldSpaces v_0_points v_0_pieces v_0_rings v_0_outsideSides v_0_looseCount f_0_isFlat f_0_across f_0_lows f_0_highs f_0_xs f_0_ys f_0_flatEdges f_0_upEdges f_0_isPoint) H → va_D A (wl_Mo_layGrid a_0 a_0_isFlat a_0_across a_0_lows a_0_highs a_0_xs a_0_ys a_0_flatEdges a_0_upEdges a_0_isPoint b_0_thick b_0_doorCounts b_0_doorFrom b_0_doorTo b_0_labels b_0_oldXs b_0_oldYs b_0_oldLabels b_0_names b_0_oldNames b_0_wanted b_0_common b_0_stack b_0_pieceLines b_0_pieceBegins b_0_pieceEnds b_0_pieceLeft b_0_pieceRight b_0_outs b_0_isSeen b_0_ringSpaces b_0_ringStarts b_0_ringSizes b_0_ringLeast b_0_looseLines b_0_looseXs b_0_looseYs b_0_looseReaches b_0_far cZ cI v_0_code v_0_lines v_0_isFresh v_0_hasRun v_0_runs v_0_nx v_0_ny v_0_spaces v_0_oldNx v_0_oldNy v_0_oldSpaces v_0_points v_0_pieces v_0_rings v_0_outsideSides v_0_looseCount f_0_isFlat f_0_across f_0_lows f_0_highs f_0_xs f_0_ys f_0_flatEdges f_0_upEdges f_0_isPoint) → va_S A s.heap H locs → lv_has ls 6 [(0, .ref a_0)] → W p l e rm_Mo_layGrid s m args below meth c H locs 0 0 Q (F0 m 0 ls []) := by
  intro H locs ls hP hD hS hl
  unfold m_Mo_layGrid at hm
  refine lv_aload_n hx hb d_Mo_layGrid_0 rfl (lv_at hl 0 rfl) ?_
  refine lv_iconst (v := 0) hx hb d_Mo_layGrid_1 (by decide) ?_
  refine va_put (D := (dC, dI)) (ci := 11) (v := .int 0) (ty := .int) (C := "SpaceCyclesModel") (T := F_Mo) (N := 54) hx hb hts (in_F i_Mo) t_Mo t_Mo_ok n_Mo hown hK hP hD hS 0 rfl rfl 15 (by decide) (hts _ (in_c k_300)) (fun _ h9 => h9) rfl (by decide +kernel) rfl rfl (Nat.le_of_ble_eq_true rfl) d_Mo_layGrid_2 (fun H locs hP hD hS => ?_)
  have hP : va_P (dC, dI) vwCl (wl_Mo_layGrid a_0 a_0_isFlat a_0_across a_0_lows a_0_highs a_0_xs a_0_ys a_0_flatEdges a_0_upEdges a_0_isPoint b_0_thick b_0_doorCounts b_0_doorFrom b_0_doorTo b_0_labels b_0_oldXs b_0_oldYs b_0_oldLabels b_0_names b_0_oldNames b_0_wanted b_0_common b_0_stack b_0_pieceLines b_0_pieceBegins b_0_pieceEnds b_0_pieceLeft b_0_pieceRight b_0_outs b_0_isSeen b_0_ringSpaces b_0_ringStarts b_0_ringSizes b_0_ringLeast b_0_looseLines b_0_looseXs b_0_looseYs b_0_looseReaches b_0_far cZ cI v_0_code v_0_lines v_0_isFresh v_0_hasRun v_0_runs 0 v_0_ny v_0_spaces v_0_oldNx v_0_oldNy v_0_oldSpaces v_0_points v_0_pieces v_0_rings v_0_outsideSides v_0_looseCount f_0_isFlat f_0_across f_0_lows f_0_highs f_0_xs f_0_ys f_0_flatEdges f_0_upEdges f_0_isPoint) H := hP
  have hD : va_D A (wl_Mo_layGrid a_0 a_0_isFlat a_0_across a_0_lows a_0_highs a_0_xs a_0_ys a_0_flatEdges a_0_upEdges a_0_isPoint b_0_thick b_0_doorCounts b_0_doorFrom b_0_doorTo b_0_labels b_0_oldXs b_0_oldYs b_0_oldLabels b_0_names b_0_oldNames b_0_wanted b_0_common b_0_stack b_0_pieceLines b_0_pieceBegins b_0_pieceEnds b_0_pieceLeft b_0_pieceRight b_0_outs b_0_isSeen b_0_ringSpaces b_0_ringStarts b_0_ringSizes b_0_ringLeast b_0_looseLines b_0_looseXs b_0_looseYs b_0_looseReaches b_0_far cZ cI v_0_code v_0_lines v_0_isFresh v_0_hasRun v_0_runs 0 v_0_ny v_0_spaces v_0_oldNx v_0_oldNy v_0_oldSpaces v_0_points v_0_pieces v_0_rings v_0_outsideSides v_0_looseCount f_0_isFlat f_0_across f_0_lows f_0_highs f_0_xs f_0_ys f_0_flatEdges f_0_upEdges f_0_isPoint) := hD
  refine lv_aload_n hx hb d_Mo_layGrid_5 rfl (lv_at hl 0 rfl) ?_
  refine lv_iconst (v := 0) hx hb d_Mo_layGrid_6 (by decide) ?_
  refine va_put (D := (dC, dI)) (ci := 11) (v := .int 0) (ty := .int) (C := "SpaceCyclesModel") (T := F_Mo) (N := 54) hx hb hts (in_F i_Mo) t_Mo t_Mo_ok n_Mo hown hK hP hD hS 0 rfl rfl 16 (by decide) (hts _ (in_c k_301)) (fun _ h9 => h9) rfl (by decide +kernel) rfl rfl (Nat.le_of_ble_eq_true rfl) d_Mo_layGrid_7 (fun H locs hP hD hS => ?_)
  have hP : va_P (dC, dI) vwCl (wl_Mo_layGrid a_0 a_0_isFlat a_0_across a_0_lows a_0_highs a_0_xs a_0_ys a_0_flatEdges a_0_upEdges a_0_isPoint b_0_thick b_0_doorCounts b_0_doorFrom b_0_doorTo b_0_labels b_0_oldXs b_0_oldYs b_0_oldLabels b_0_names b_0_oldNames b_0_wanted b_0_common b_0_stack b_0_pieceLines b_0_pieceBegins b_0_pieceEnds b_0_pieceLeft b_0_pieceRight b_0_outs b_0_isSeen b_0_ringSpaces b_0_ringStarts b_0_ringSizes b_0_ringLeast b_0_looseLines b_0_looseXs b_0_looseYs b_0_looseReaches b_0_far cZ cI v_0_code v_0_lines v_0_isFresh v_0_hasRun v_0_runs 0 0 v_0_spaces v_0_oldNx v_0_oldNy v_0_oldSpaces v_0_points v_0_pieces v_0_rings v_0_outsideSides v_0_looseCount f_0_isFlat f_0_across f_0_lows f_0_highs f_0_xs f_0_ys f_0_flatEdges f_0_upEdges f_0_isPoint) H := hP
  have hD : va_D A (wl_Mo_layGrid a_0 a_0_isFlat a_0_across a_0_lows a_0_highs a_0_xs a_0_ys a_0_flatEdges a_0_upEdges a_0_isPoint b_0_thick b_0_doorCounts b_0_doorFrom b_0_doorTo b_0_labels b_0_oldXs b_0_oldYs b_0_oldLabels b_0_names b_0_oldNames b_0_wanted b_0_common b_0_stack b_0_pieceLines b_0_pieceBegins b_0_pieceEnds b_0_pieceLeft b_0_pieceRight b_0_outs b_0_isSeen b_0_ringSpaces b_0_ringStarts b_0_ringSizes b_0_ringLeast b_0_looseLines b_0_looseXs b_0_looseYs b_0_looseReaches b_0_far cZ cI v_0_code v_0_lines v_0_isFresh v_0_hasRun v_0_runs 0 0 v_0_spaces v_0_oldNx v_0_oldNy v_0_oldSpaces v_0_points v_0_pieces v_0_rings v_0_outsideSides v_0_looseCount f_0_isFlat f_0_across f_0_lows f_0_highs f_0_xs f_0_ys f_0_flatEdges f_0_upEdges f_0_isPoint) := hD
  refine lv_iconst (v := 0) hx hb d_Mo_layGrid_10 (by decide) ?_
  refine lv_istore_n (lv' := [(1, .int 0), (0, .ref a_0)]) hx hb d_Mo_layGrid_11 rfl hl (by decide) rfl (fun ls hl => ?_)
  have L12_10 : ∀ (n : Nat) (x1 : Int32) (x2 : Int32) (x3 : Int32) (f4 : Nat → Int32) (f5 : Nat → Int32) (x6 : Int32) (x7 : Int32) (f8 : Nat → Int32) (f9 : Nat → Int32), m_Mo_layGrid_L12 v_0_lines f_0_isFlat f_0_across f_0_lows f_0_highs n x1 x2 x3 f4 f5 = some (x6, x7, f8, f9) → (∀ (H : Heap) (locs : List Loc) (ls : Array Slot), va_P (dC, dI) vwCl (wl_Mo_layGrid a_0 a_0_isFlat a_0_across a_0_lows a_0_highs a_0_xs a_0_ys a_0_flatEdges a_0_upEdges a_0_isPoint b_0_thick b_0_doorCounts b_0_doorFrom b_0_doorTo b_0_labels b_0_oldXs b_0_oldYs b_0_oldLabels b_0_names b_0_oldNames b_0_wanted b_0_common b_0_stack b_0_pieceLines b_0_pieceBegins b_0_pieceEnds b_0_pieceLeft b_0_pieceRight b_0_outs b_0_isSeen b_0_ringSpaces b_0_ringStarts b_0_ringSizes b_0_ringLeast b_0_looseLines b_0_looseXs b_0_looseYs b_0_looseReaches b_0_far cZ cI v_0_code v_0_lines v_0_isFresh v_0_hasRun v_0_runs x6 x7 v_0_spaces v_0_oldNx v_0_oldNy v_0_oldSpaces v_0_points v_0_pieces v_0_rings v_0_outsideSides v_0_looseCount f_0_isFlat f_0_across f_0_lows f_0_highs f8 f9 f_0_flatEdges f_0_upEdges f_0_isPoint) H → va_D A (wl_Mo_layGrid a_0 a_0_isFlat a_0_across a_0_lows a_0_highs a_0_xs a_0_ys a_0_flatEdges a_0_upEdges a_0_isPoint b_0_thick b_0_doorCounts b_0_doorFrom b_0_doorTo b_0_labels b_0_oldXs b_0_oldYs b_0_oldLabels b_0_names b_0_oldNames b_0_wanted b_0_common b_0_stack b_0_pieceLines b_0_pieceBegins b_0_pieceEnds b_0_pieceLeft b_0_pieceRight b_0_outs b_0_isSeen b_0_ringSpaces b_0_ringStarts b_0_ringSizes b_0_ringLeast b_0_looseLines b_0_looseXs b_0_looseYs b_0_looseReaches b_0_far cZ cI v_0_code v_0_lines v_0_isFresh v_0_hasRun v_0_runs x6 x7 v_0_spaces v_0_oldNx v_0_oldNy v_0_oldSpaces v_0_points v_0_pieces v_0_rings v_0_outsideSides v_0_looseCount f_0_isFlat f_0_across f_0_lows f_0_highs f8 f9 f_0_flatEdges f_0_upEdges f_0_isPoint) → va_S A s.heap H locs → lv_has ls 6 [(0, .ref a_0)] → W p l e rm_Mo_layGrid s m args below meth c H locs 0 0 Q (F0 m 164 ls [])) → ∀ (H : Heap) (locs : List Loc) (ls : Array Slot), va_P (dC, dI) vwCl (wl_Mo_layGrid a_0 a_0_isFlat a_0_across a_0_lows a_0_highs a_0_xs a_0_ys a_0_flatEdges a_0_upEdges a_0_isPoint b_0_thick b_0_doorCounts b_0_doorFrom b_0_doorTo b_0_labels b_0_oldXs b_0_oldYs b_0_oldLabels b_0_names b_0_oldNames b_0_wanted b_0_common b_0_stack b_0_pieceLines b_0_pieceBegins b_0_pieceEnds b_0_pieceLeft b_0_pieceRight b_0_outs b_0_isSeen b_0_ringSpaces b_0_ringStarts b_0_ringSizes b_0_ringLeast b_0_looseLines b_0_looseXs b_0_looseYs b_0_looseReaches b_0_far cZ cI v_0_code v_0_lines v_0_isFresh v_0_hasRun v_0_runs x2 x3 v_0_spaces v_0_oldNx v_0_oldNy v_0_oldSpaces v_0_points v_0_pieces v_0_rings v_0_outsideSides v_0_looseCount f_0_isFlat f_0_across f_0_lows f_0_highs f4 f5 f_0_flatEdges f_0_upEdges f_0_isPoint) H → va_D A (wl_Mo_layGrid a_0 a_0_isFlat a_0_across a_0_lows a_0_highs a_0_xs a_0_ys a_0_flatEdges a_0_upEdges a_0_isPoint b_0_thick b_0_doorCounts b_0_doorFrom b_0_doorTo b_0_labels b_0_oldXs b_0_oldYs b_0_oldLabels b_0_names b_0_oldNames b_0_wanted b_0_common b_0_stack b_0_pieceLines b_0_pieceBegins b_0_pieceEnds b_0_pieceLeft b_0_pieceRight b_0_outs b_0_isSeen b_0_ringSpaces b_0_ringStarts b_0_ringSizes b_0_ringLeast b_0_looseLines b_0_looseXs b_0_looseYs b_0_looseReaches b_0_far cZ cI v_0_code v_0_lines v_0_isFresh v_0_hasRun v_0_runs x2 x3 v_0_spaces v_0_oldNx v_0_oldNy v_0_oldSpaces v_0_points v_0_pieces v_0_rings v_0_outsideSides v_0_looseCount f_0_isFlat f_0_across f_0_lows f_0_highs f4 f5 f_0_flatEdges f_0_upEdges f_0_isPoint) → va_S A s.heap H locs → lv_has ls 6 [(0, .ref a_0), (1, .int x1)] → W p l e rm_Mo_layGrid s m args below meth c H locs 0 0 Q (F0 m 12 ls []) := by
    intro n
    induction n with
    | zero => intro x1 x2 x3 f4 f5 x6 x7 f8 f9 hm; simp [m_Mo_layGrid_L12] at hm
    | succ n ih =>
      intro x1 x2 x3 f4 f5 x6 x7 f8 f9 hm KE H locs ls hP hD hS hl
      rw [m_Mo_layGrid_L12] at hm
      refine lv_iload_n hx hb d_Mo_layGrid_12 rfl (lv_at hl 1 rfl) ?_
      refine lv_aload_n hx hb d_Mo_layGrid_13 rfl (lv_at hl 0 rfl) ?_
      refine va_get (D := (dC, dI)) (ci := 11) (v := .int v_0_lines) (C := "SpaceCyclesModel") (T := F_Mo) (N := 54) hx hb hts (in_F i_Mo) hown hK hP 0 rfl rfl 6 (by decide) (hts _ (in_c k_274)) (fun _ h9 => h9) rfl d_Mo_layGrid_14 ?_
      refine lv_icmp_ge (tgt := 164) hx hb d_Mo_layGrid_17 (by decide) (fun c11 => ?_) (fun c11 => ?_)
      · replace hm := if_t hm c11
        cases hm
        exact KE H locs ls hP hD hS (lv_sub hl [0] rfl)
      · replace hm := if_f hm c11
        refine lv_aload_n hx hb d_Mo_layGrid_20 rfl (lv_at hl 0 rfl) ?_
        refine va_get (D := (dC, dI)) (ci := 11) (v := .ref a_0_isFlat) (C := "SpaceCyclesModel") (T := F_Mo) (N := 54) hx hb hts (in_F i_Mo) hown hK hP 0 rfl rfl 1 (by decide) (hts _ (in_c k_279)) (fun _ h9 => h9) rfl d_Mo_layGrid_21 ?_
        refine lv_iload_n hx hb d_Mo_layGrid_24 rfl (lv_at hl 1 rfl) ?_
        obtain ⟨hi12, hm⟩ := gI_e hm
        refine va_zald hx hb hK hP 1 1 rfl rfl hi12 d_Mo_layGrid_25 ?_
        obtain ⟨x16, x17, f18, f19, hb14, hm⟩ := bd4_e hm
        have K13 : ∀ (H : Heap) (locs : List Loc) (ls : Array Slot), va_P (dC, dI) vwCl (wl_Mo_layGrid a_0 a_0_isFlat a_0_across a_0_lows a_0_highs a_0_xs a_0_ys a_0_flatEdges a_0_upEdges a_0_isPoint b_0_thick b_0_doorCounts b_0_doorFrom b_0_doorTo b_0_labels b_0_oldXs b_0_oldYs b_0_oldLabels b_0_names b_0_oldNames b_0_wanted b_0_common b_0_stack b_0_pieceLines b_0_pieceBegins b_0_pieceEnds b_0_pieceLeft b_0_pieceRight b_0_outs b_0_isSeen b_0_ringSpaces b_0_ringStarts b_0_ringSizes b_0_ringLeast b_0_looseLines b_0_looseXs b_0_looseYs b_0_looseReaches b_0_far cZ cI v_0_code v_0_lines v_0_isFresh v_0_hasRun v_0_runs x16 x17 v_0_spaces v_0_oldNx v_0_oldNy v_0_oldSpaces v_0_points v_0_pieces v_0_rings v_0_outsideSides v_0_looseCount f_0_isFlat f_0_across f_0_lows f_0_highs f18 f19 f_0_flatEdges f_0_upEdges f_0_isPoint) H → va_D A (wl_Mo_layGrid a_0 a_0_isFlat a_0_across a_0_lows a_0_highs a_0_xs a_0_ys a_0_flatEdges a_0_upEdges a_0_isPoint b_0_thick b_0_doorCounts b_0_doorFrom b_0_doorTo b_0_labels b_0_oldXs b_0_oldYs b_0_oldLabels b_0_names b_0_oldNames b_0_wanted b_0_common b_0_stack b_0_pieceLines b_0_pieceBegins b_0_pieceEnds b_0_pieceLeft b_0_pieceRight b_0_outs b_0_isSeen b_0_ringSpaces b_0_ringStarts b_0_ringSizes b_0_ringLeast b_0_looseLines b_0_looseXs b_0_looseYs b_0_looseReaches b_0_far cZ cI v_0_code v_0_lines v_0_isFresh v_0_hasRun v_0_runs x16 x17 v_0_spaces v_0_oldNx v_0_oldNy v_0_oldSpaces v_0_points v_0_pieces v_0_rings v_0_outsideSides v_0_looseCount f_0_isFlat f_0_across f_0_lows f_0_highs f18 f19 f_0_flatEdges f_0_upEdges f_0_isPoint) → va_S A s.heap H locs → lv_has ls 6 [(0, .ref a_0), (1, .int x1)] → W p l e rm_Mo_layGrid s m args below meth c H locs 0 0 Q (F0 m 158 ls []) := by
          intro H locs ls hP hD hS hl
          obtain ⟨x45, ex45⟩ : ∃ y : Int32, y = x1 + 1 := ⟨_, rfl⟩
          replace hm := lt_el hm ex45
          refine lv_iinc (v := x45) (lv' := [(1, .int x45), (0, .ref a_0)]) hx hb d_Mo_layGrid_158 hl (k := 1) rfl (by rw [ex45]; rfl) (by decide) rfl (fun ls hl => ?_)
          refine lv_goto (tgt := 12) hx hb d_Mo_layGrid_161 (by decide) ?_
          exact ih _ _ _ _ _ _ _ _ _ hm KE H locs ls hP hD hS (lv_sub hl [1, 0] rfl)
        replace hm := hb14
        refine lv_if_eq (tgt := 95) hx hb d_Mo_layGrid_26 (by decide) (fun c20 => ?_) (fun c20 => ?_)
        · replace hm := if_t hm c20
          refine lv_aload_n hx hb d_Mo_layGrid_95 rfl (lv_at hl 0 rfl) ?_
          refine lv_aload_n hx hb d_Mo_layGrid_96 rfl (lv_at hl 0 rfl) ?_
          refine va_get (D := (dC, dI)) (ci := 11) (v := .ref a_0_xs) (C := "SpaceCyclesModel") (T := F_Mo) (N := 54) hx hb hts (in_F i_Mo) hown hK hP 0 rfl rfl 13 (by decide) (hts _ (in_c k_302)) (fun _ h9 => h9) rfl d_Mo_layGrid_97 ?_
          refine lv_aload_n hx hb d_Mo_layGrid_100 rfl (lv_at hl 0 rfl) ?_
          refine va_get (D := (dC, dI)) (ci := 11) (v := .int x2) (C := "SpaceCyclesModel") (T := F_Mo) (N := 54) hx hb hts (in_F i_Mo) hown hK hP 0 rfl rfl 15 (by decide) (hts _ (in_c k_300)) (fun _ h9 => h9) rfl d_Mo_layGrid_101 ?_
          refine lv_aload_n hx hb d_Mo_layGrid_104 rfl (lv_at hl 0 rfl) ?_
          refine va_get (D := (dC, dI)) (ci := 11) (v := .ref a_0_across) (C := "SpaceCyclesModel") (T := F_Mo) (N := 54) hx hb hts (in_F i_Mo) hown hK hP 0 rfl rfl 2 (by decide) (hts _ (in_c k_280)) (fun _ h9 => h9) rfl d_Mo_layGrid_105 ?_
          refine lv_iload_n hx hb d_Mo_layGrid_108 rfl (lv_at hl 1 rfl) ?_
          obtain ⟨hi21, hm⟩ := gI_e hm
          refine va_iald hx hb hK hP 2 0 rfl rfl hi21 d_Mo_layGrid_109 ?_
          obtain ⟨r22, f23, hb24, hm⟩ := bd2_e hm
          have hPc := hP.sub (ws' := (wl_Mo_put a_0_xs cI 42 f4)) [5] rfl
          have hDc := hD.sub (ws' := (wl_Mo_put a_0_xs cI 42 f4)) [5] (by decide) rfl
          refine cl_i (wc' := (wl_Mo_put a_0_xs cI 42 f23)) (va_runS (As := [.ref a_0_xs, .int x2, .int (f_0_across x1.toNatClampNeg)]) (rest := [.ref a_0]) ⟨hx, hb, hml, hown, hts⟩ (c_Mo_put l dC dI (cI := cI) (cZ := cZ) (cJ := cJ) a_0_xs H.size 42 f4 x2 (f_0_across x1.toNatClampNeg) r22 f23 hb24) (va_cwS 3 hts (gl_S k_305 k_304 k_277 k_303) rfl rfl rfl (by decide +kernel) ⟨Nat.le_of_ble_eq_true rfl, Nat.le_of_ble_eq_true rfl⟩) ⟨PP_blind, fun U hU hW => PP_at hK hN hPc hDc hU hW⟩ rfl rfl hl.1 rfl (lv_room (Nat.le_of_ble_eq_true rfl)) d_Mo_layGrid_110 ⟨Nat.zero_le _, Nat.zero_le _⟩) hP hD hS hA [5] [0, 1, 2, 3, 4, 6, 7, 8, 9] rfl rfl (by decide) (by decide) (fun H locs hP hD hS => ?_)
          have hP : va_P (dC, dI) vwCl (wl_Mo_layGrid a_0 a_0_isFlat a_0_across a_0_lows a_0_highs a_0_xs a_0_ys a_0_flatEdges a_0_upEdges a_0_isPoint b_0_thick b_0_doorCounts b_0_doorFrom b_0_doorTo b_0_labels b_0_oldXs b_0_oldYs b_0_oldLabels b_0_names b_0_oldNames b_0_wanted b_0_common b_0_stack b_0_pieceLines b_0_pieceBegins b_0_pieceEnds b_0_pieceLeft b_0_pieceRight b_0_outs b_0_isSeen b_0_ringSpaces b_0_ringStarts b_0_ringSizes b_0_ringLeast b_0_looseLines b_0_looseXs b_0_looseYs b_0_looseReaches b_0_far cZ cI v_0_code v_0_lines v_0_isFresh v_0_hasRun v_0_runs x2 x3 v_0_spaces v_0_oldNx v_0_oldNy v_0_oldSpaces v_0_points v_0_pieces v_0_rings v_0_outsideSides v_0_looseCount f_0_isFlat f_0_across f_0_lows f_0_highs f23 f5 f_0_flatEdges f_0_upEdges f_0_isPoint) H := hP.sub [0, 1, 2, 3, 4, 9, 5, 6, 7, 8] rfl
          have hD : va_D A (wl_Mo_layGrid a_0 a_0_isFlat a_0_across a_0_lows a_0_highs a_0_xs a_0_ys a_0_flatEdges a_0_upEdges a_0_isPoint b_0_thick b_0_doorCounts b_0_doorFrom b_0_doorTo b_0_labels b_0_oldXs b_0_oldYs b_0_oldLabels b_0_names b_0_oldNames b_0_wanted b_0_common b_0_stack b_0_pieceLines b_0_pieceBegins b_0_pieceEnds b_0_pieceLeft b_0_pieceRight b_0_outs b_0_isSeen b_0_ringSpaces b_0_ringStarts b_0_ringSizes b_0_ringLeast b_0_looseLines b_0_looseXs b_0_looseYs b_0_looseReaches b_0_far cZ cI v_0_code v_0_lines v_0_isFresh v_0_hasRun v_0_runs x2 x3 v_0_spaces v_0_oldNx v_0_oldNy v_0_oldSpaces v_0_points v_0_pieces v_0_rings v_0_outsideSides v_0_looseCount f_0_isFlat f_0_across f_0_lows f_0_highs f23 f5 f_0_flatEdges f_0_upEdges f_0_isPoint) := hD.sub [0, 1, 2, 3, 4, 9, 5, 6, 7, 8] (by decide) rfl
          refine va_put (D := (dC, dI)) (ci := 11) (v := .int r22) (ty := .int) (C := "SpaceCyclesModel") (T := F_Mo) (N := 54) hx hb hts (in_F i_Mo) t_Mo t_Mo_ok n_Mo hown hK hP hD hS 0 rfl rfl 15 (by decide) (hts _ (in_c k_300)) (fun _ h9 => h9) rfl (by decide +kernel) rfl rfl (Nat.le_of_ble_eq_true rfl) d_Mo_layGrid_113 (fun H locs hP hD hS => ?_)
          have hP : va_P (dC, dI) vwCl (wl_Mo_layGrid a_0 a_0_isFlat a_0_across a_0_lows a_0_highs a_0_xs a_0_ys a_0_flatEdges a_0_upEdges a_0_isPoint b_0_thick b_0_doorCounts b_0_doorFrom b_0_doorTo b_0_labels b_0_oldXs b_0_oldYs b_0_oldLabels b_0_names b_0_oldNames b_0_wanted b_0_common b_0_stack b_0_pieceLines b_0_pieceBegins b_0_pieceEnds b_0_pieceLeft b_0_pieceRight b_0_outs b_0_isSeen b_0_ringSpaces b_0_ringStarts b_0_ringSizes b_0_ringLeast b_0_looseLines b_0_looseXs b_0_looseYs b_0_looseReaches b_0_far cZ cI v_0_code v_0_lines v_0_isFresh v_0_hasRun v_0_runs r22 x3 v_0_spaces v_0_oldNx v_0_oldNy v_0_oldSpaces v_0_points v_0_pieces v_0_rings v_0_outsideSides v_0_looseCount f_0_isFlat f_0_across f_0_lows f_0_highs f23 f5 f_0_flatEdges f_0_upEdges f_0_isPoint) H := hP
          have hD : va_D A (wl_Mo_layGrid a_0 a_0_isFlat a_0_across a_0_lows a_0_highs a_0_xs a_0_ys a_0_flatEdges a_0_upEdges a_0_isPoint b_0_thick b_0_doorCounts b_0_doorFrom b_0_doorTo b_0_labels b_0_oldXs b_0_oldYs b_0_oldLabels b_0_names b_0_oldNames b_0_wanted b_0_common b_0_stack b_0_pieceLines b_0_pieceBegins b_0_pieceEnds b_0_pieceLeft b_0_pieceRight b_0_outs b_0_isSeen b_0_ringSpaces b_0_ringStarts b_0_ringSizes b_0_ringLeast b_0_looseLines b_0_looseXs b_0_looseYs b_0_looseReaches b_0_far cZ cI v_0_code v_0_lines v_0_isFresh v_0_hasRun v_0_runs r22 x3 v_0_spaces v_0_oldNx v_0_oldNy v_0_oldSpaces v_0_points v_0_pieces v_0_rings v_0_outsideSides v_0_looseCount f_0_isFlat f_0_across f_0_lows f_0_highs f23 f5 f_0_flatEdges f_0_upEdges f_0_isPoint) := hD
          refine lv_aload_n hx hb d_Mo_layGrid_116 rfl (lv_at hl 0 rfl) ?_
          refine lv_aload_n hx hb d_Mo_layGrid_117 rfl (lv_at hl 0 rfl) ?_
          refine va_get (D := (dC, dI)) (ci := 11) (v := .ref a_0_ys) (C := "SpaceCyclesModel") (T := F_Mo) (N := 54) hx hb hts (in_F i_Mo) hown hK hP 0 rfl rfl 14 (by decide) (hts _ (in_c k_306)) (fun _ h9 => h9) rfl d_Mo_layGrid_118 ?_
          refine lv_aload_n hx hb d_Mo_layGrid_121 rfl (lv_at hl 0 rfl) ?_
          refine va_get (D := (dC, dI)) (ci := 11) (v := .int x3) (C := "SpaceCyclesModel") (T := F_Mo) (N := 54) hx hb hts (in_F i_Mo) hown hK hP 0 rfl rfl 16 (by decide) (hts _ (in_c k_301)) (fun _ h9 => h9) rfl d_Mo_layGrid_122 ?_
          refine lv_aload_n hx hb d_Mo_layGrid_125 rfl (lv_at hl 0 rfl) ?_
          refine va_get (D := (dC, dI)) (ci := 11) (v := .ref a_0_lows) (C := "SpaceCyclesModel") (T := F_Mo) (N := 54) hx hb hts (in_F i_Mo) hown hK hP 0 rfl rfl 3 (by decide) (hts _ (in_c k_281)) (fun _ h9 => h9) rfl d_Mo_layGrid_126 ?_
          refine lv_iload_n hx hb d_Mo_layGrid_129 rfl (lv_at hl 1 rfl) ?_
          obtain ⟨hi25, hm⟩ := gI_e hm
          refine va_iald hx hb hK hP 3 0 rfl rfl hi25 d_Mo_layGrid_130 ?_
          obtain ⟨r26, f27, hb28, hm⟩ := bd2_e hm
          have hPc := hP.sub (ws' := (wl_Mo_put a_0_ys cI 42 f5)) [6] rfl
          have hDc := hD.sub (ws' := (wl_Mo_put a_0_ys cI 42 f5)) [6] (by decide) rfl
          refine cl_i (wc' := (wl_Mo_put a_0_ys cI 42 f27)) (va_runS (As := [.ref a_0_ys, .int x3, .int (f_0_lows x1.toNatClampNeg)]) (rest := [.ref a_0]) ⟨hx, hb, hml, hown, hts⟩ (c_Mo_put l dC dI (cI := cI) (cZ := cZ) (cJ := cJ) a_0_ys H.size 42 f5 x3 (f_0_lows x1.toNatClampNeg) r26 f27 hb28) (va_cwS 3 hts (gl_S k_305 k_304 k_277 k_303) rfl rfl rfl (by decide +kernel) ⟨Nat.le_of_ble_eq_true rfl, Nat.le_of_ble_eq_true rfl⟩) ⟨PP_blind, fun U hU hW => PP_at hK hN hPc hDc hU hW⟩ rfl rfl hl.1 rfl (lv_room (Nat.le_of_ble_eq_true rfl)) d_Mo_layGrid_131 ⟨Nat.zero_le _, Nat.zero_le _⟩) hP hD hS hA [6] [0, 1, 2, 3, 4, 5, 7, 8, 9] rfl rfl (by decide) (by decide) (fun H locs hP hD hS => ?_)
          have hP : va_P (dC, dI) vwCl (wl_Mo_layGrid a_0 a_0_isFlat a_0_across a_0_lows a_0_highs a_0_xs a_0_ys a_0_flatEdges a_0_upEdges a_0_isPoint b_0_thick b_0_doorCounts b_0_doorFrom b_0_doorTo b_0_labels b_0_oldXs b_0_oldYs b_0_oldLabels b_0_names b_0_oldNames b_0_wanted b_0_common b_0_stack b_0_pieceLines b_0_pieceBegins b_0_pieceEnds b_0_pieceLeft b_0_pieceRight b_0_outs b_0_isSeen b_0_ringSpaces b_0_ringStarts b_0_ringSizes b_0_ringLeast b_0_looseLines b_0_looseXs b_0_looseYs b_0_looseReaches b_0_far cZ cI v_0_code v_0_lines v_0_isFresh v_0_hasRun v_0_runs r22 x3 v_0_spaces v_0_oldNx v_0_oldNy v_0_oldSpaces v_0_points v_0_pieces v_0_rings v_0_outsideSides v_0_looseCount f_0_isFlat f_0_across f_0_lows f_0_highs f23 f27 f_0_flatEdges f_0_upEdges f_0_isPoint) H := hP.sub [0, 1, 2, 3, 4, 5, 9, 6, 7, 8] rfl
          have hD : va_D A (wl_Mo_layGrid a_0 a_0_isFlat a_0_across a_0_lows a_0_highs a_0_xs a_0_ys a_0_flatEdges a_0_upEdges a_0_isPoint b_0_thick b_0_doorCounts b_0_doorFrom b_0_doorTo b_0_labels b_0_oldXs b_0_oldYs b_0_oldLabels b_0_names b_0_oldNames b_0_wanted b_0_common b_0_stack b_0_pieceLines b_0_pieceBegins b_0_pieceEnds b_0_pieceLeft b_0_pieceRight b_0_outs b_0_isSeen b_0_ringSpaces b_0_ringStarts b_0_ringSizes b_0_ringLeast b_0_looseLines b_0_looseXs b_0_looseYs b_0_looseReaches b_0_far cZ cI v_0_code v_0_lines v_0_isFresh v_0_hasRun v_0_runs r22 x3 v_0_spaces v_0_oldNx v_0_oldNy v_0_oldSpaces v_0_points v_0_pieces v_0_rings v_0_outsideSides v_0_looseCount f_0_isFlat f_0_across f_0_lows f_0_highs f23 f27 f_0_flatEdges f_0_upEdges f_0_isPoint) := hD.sub [0, 1, 2, 3, 4, 5, 9, 6, 7, 8] (by decide) rfl
          refine va_put (D := (dC, dI)) (ci := 11) (v := .int r26) (ty := .int) (C := "SpaceCyclesModel") (T := F_Mo) (N := 54) hx hb hts (in_F i_Mo) t_Mo t_Mo_ok n_Mo hown hK hP hD hS 0 rfl rfl 16 (by decide) (hts _ (in_c k_301)) (fun _ h9 => h9) rfl (by decide +kernel) rfl rfl (Nat.le_of_ble_eq_true rfl) d_Mo_layGrid_134 (fun H locs hP hD hS => ?_)
          have hP : va_P (dC, dI) vwCl (wl_Mo_layGrid a_0 a_0_isFlat a_0_across a_0_lows a_0_highs a_0_xs a_0_ys a_0_flatEdges a_0_upEdges a_0_isPoint b_0_thick b_0_doorCounts b_0_doorFrom b_0_doorTo b_0_labels b_0_oldXs b_0_oldYs b_0_oldLabels b_0_names b_0_oldNames b_0_wanted b_0_common b_0_stack b_0_pieceLines b_0_pieceBegins b_0_pieceEnds b_0_pieceLeft b_0_pieceRight b_0_outs b_0_isSeen b_0_ringSpaces b_0_ringStarts b_0_ringSizes b_0_ringLeast b_0_looseLines b_0_looseXs b_0_looseYs b_0_looseReaches b_0_far cZ cI v_0_code v_0_lines v_0_isFresh v_0_hasRun v_0_runs r22 r26 v_0_spaces v_0_oldNx v_0_oldNy v_0_oldSpaces v_0_points v_0_pieces v_0_rings v_0_outsideSides v_0_looseCount f_0_isFlat f_0_across f_0_lows f_0_highs f23 f27 f_0_flatEdges f_0_upEdges f_0_isPoint) H := hP
          have hD : va_D A (wl_Mo_layGrid a_0 a_0_isFlat a_0_across a_0_lows a_0_highs a_0_xs a_0_ys a_0_flatEdges a_0_upEdges a_0_isPoint b_0_thick b_0_doorCounts b_0_doorFrom b_0_doorTo b_0_labels b_0_oldXs b_0_oldYs b_0_oldLabels b_0_names b_0_oldNames b_0_wanted b_0_common b_0_stack b_0_pieceLines b_0_pieceBegins b_0_pieceEnds b_0_pieceLeft b_0_pieceRight b_0_outs b_0_isSeen b_0_ringSpaces b_0_ringStarts b_0_ringSizes b_0_ringLeast b_0_looseLines b_0_looseXs b_0_looseYs b_0_looseReaches b_0_far cZ cI v_0_code v_0_lines v_0_isFresh v_0_hasRun v_0_runs r22 r26 v_0_spaces v_0_oldNx v_0_oldNy v_0_oldSpaces v_0_points v_0_pieces v_0_rings v_0_outsideSides v_0_looseCount f_0_isFlat f_0_across f_0_lows f_0_highs f23 f27 f_0_flatEdges f_0_upEdges f_0_isPoint) := hD
          refine lv_aload_n hx hb d_Mo_layGrid_137 rfl (lv_at hl 0 rfl) ?_
          refine lv_aload_n hx hb d_Mo_layGrid_138 rfl (lv_at hl 0 rfl) ?_
          refine va_get (D := (dC, dI)) (ci := 11) (v := .ref a_0_ys) (C := "SpaceCyclesModel") (T := F_Mo) (N := 54) hx hb hts (in_F i_Mo) hown hK hP 0 rfl rfl 14 (by decide) (hts _ (in_c k_306)) (fun _ h9 => h9) rfl d_Mo_layGrid_139 ?_
          refine lv_aload_n hx hb d_Mo_layGrid_142 rfl (lv_at hl 0 rfl) ?_
          refine va_get (D := (dC, dI)) (ci := 11) (v := .int r26) (C := "SpaceCyclesModel") (T := F_Mo) (N := 54) hx hb hts (in_F i_Mo) hown hK hP 0 rfl rfl 16 (by decide) (hts _ (in_c k_301)) (fun _ h9 => h9) rfl d_Mo_layGrid_143 ?_
          refine lv_aload_n hx hb d_Mo_layGrid_146 rfl (lv_at hl 0 rfl) ?_
          refine va_get (D := (dC, dI)) (ci := 11) (v := .ref a_0_highs) (C := "SpaceCyclesModel") (T := F_Mo) (N := 54) hx hb hts (in_F i_Mo) hown hK hP 0 rfl rfl 4 (by decide) (hts _ (in_c k_282)) (fun _ h9 => h9) rfl d_Mo_layGrid_147 ?_
          refine lv_iload_n hx hb d_Mo_layGrid_150 rfl (lv_at hl 1 rfl) ?_
          obtain ⟨hi29, hm⟩ := gI_e hm
          refine va_iald hx hb hK hP 4 0 rfl rfl hi29 d_Mo_layGrid_151 ?_
          obtain ⟨r30, f31, hb32, hm⟩ := bd2_e hm
          have hPc := hP.sub (ws' := (wl_Mo_put a_0_ys cI 42 f27)) [6] rfl
          have hDc := hD.sub (ws' := (wl_Mo_put a_0_ys cI 42 f27)) [6] (by decide) rfl
          refine cl_i (wc' := (wl_Mo_put a_0_ys cI 42 f31)) (va_runS (As := [.ref a_0_ys, .int r26, .int (f_0_highs x1.toNatClampNeg)]) (rest := [.ref a_0]) ⟨hx, hb, hml, hown, hts⟩ (c_Mo_put l dC dI (cI := cI) (cZ := cZ) (cJ := cJ) a_0_ys H.size 42 f27 r26 (f_0_highs x1.toNatClampNeg) r30 f31 hb32) (va_cwS 3 hts (gl_S k_305 k_304 k_277 k_303) rfl rfl rfl (by decide +kernel) ⟨Nat.le_of_ble_eq_true rfl, Nat.le_of_ble_eq_true rfl⟩) ⟨PP_blind, fun U hU hW => PP_at hK hN hPc hDc hU hW⟩ rfl rfl hl.1 rfl (lv_room (Nat.le_of_ble_eq_true rfl)) d_Mo_layGrid_152 ⟨Nat.zero_le _, Nat.zero_le _⟩) hP hD hS hA [6] [0, 1, 2, 3, 4, 5, 7, 8, 9] rfl rfl (by decide) (by decide) (fun H locs hP hD hS => ?_)
          have hP : va_P (dC, dI) vwCl (wl_Mo_layGrid a_0 a_0_isFlat a_0_across a_0_lows a_0_highs a_0_xs a_0_ys a_0_flatEdges a_0_upEdges a_0_isPoint b_0_thick b_0_doorCounts b_0_doorFrom b_0_doorTo b_0_labels b_0_oldXs b_0_oldYs b_0_oldLabels b_0_names b_0_oldNames b_0_wanted b_0_common b_0_stack b_0_pieceLines b_0_pieceBegins b_0_pieceEnds b_0_pieceLeft b_0_pieceRight b_0_outs b_0_isSeen b_0_ringSpaces b_0_ringStarts b_0_ringSizes b_0_ringLeast b_0_looseLines b_0_looseXs b_0_looseYs b_0_looseReaches b_0_far cZ cI v_0_code v_0_lines v_0_isFresh v_0_hasRun v_0_runs r22 r26 v_0_spaces v_0_oldNx v_0_oldNy v_0_oldSpaces v_0_points v_0_pieces v_0_rings v_0_outsideSides v_0_looseCount f_0_isFlat f_0_across f_0_lows f_0_highs f23 f31 f_0_flatEdges f_0_upEdges f_0_isPoint) H := hP.sub [0, 1, 2, 3, 4, 5, 9, 6, 7, 8] rfl
          have hD : va_D A (wl_Mo_layGrid a_0 a_0_isFlat a_0_across a_0_lows a_0_highs a_0_xs a_0_ys a_0_flatEdges a_0_upEdges a_0_isPoint b_0_thick b_0_doorCounts b_0_doorFrom b_0_doorTo b_0_labels b_0_oldXs b_0_oldYs b_0_oldLabels b_0_names b_0_oldNames b_0_wanted b_0_common b_0_stack b_0_pieceLines b_0_pieceBegins b_0_pieceEnds b_0_pieceLeft b_0_pieceRight b_0_outs b_0_isSeen b_0_ringSpaces b_0_ringStarts b_0_ringSizes b_0_ringLeast b_0_looseLines b_0_looseXs b_0_looseYs b_0_looseReaches b_0_far cZ cI v_0_code v_0_lines v_0_isFresh v_0_hasRun v_0_runs r22 r26 v_0_spaces v_0_oldNx v_0_oldNy v_0_oldSpaces v_0_points v_0_pieces v_0_rings v_0_outsideSides v_0_looseCount f_0_isFlat f_0_across f_0_lows f_0_highs f23 f31 f_0_flatEdges f_0_upEdges f_0_isPoint) := hD.sub [0, 1, 2, 3, 4, 5, 9, 6, 7, 8] (by decide) rfl
          refine va_put (D := (dC, dI)) (ci := 11) (v := .int r30) (ty := .int) (C := "SpaceCyclesModel") (T := F_Mo) (N := 54) hx hb hts (in_F i_Mo) t_Mo t_Mo_ok n_Mo hown hK hP hD hS 0 rfl rfl 16 (by decide) (hts _ (in_c k_301)) (fun _ h9 => h9) rfl (by decide +kernel) rfl rfl (Nat.le_of_ble_eq_true rfl) d_Mo_layGrid_155 (fun H locs hP hD hS => ?_)
          have hP : va_P (dC, dI) vwCl (wl_Mo_layGrid a_0 a_0_isFlat a_0_across a_0_lows a_0_highs a_0_xs a_0_ys a_0_flatEdges a_0_upEdges a_0_isPoint b_0_thick b_0_doorCounts b_0_doorFrom b_0_doorTo b_0_labels b_0_oldXs b_0_oldYs b_0_oldLabels b_0_names b_0_oldNames b_0_wanted b_0_common b_0_stack b_0_pieceLines b_0_pieceBegins b_0_pieceEnds b_0_pieceLeft b_0_pieceRight b_0_outs b_0_isSeen b_0_ringSpaces b_0_ringStarts b_0_ringSizes b_0_ringLeast b_0_looseLines b_0_looseXs b_0_looseYs b_0_looseReaches b_0_far cZ cI v_0_code v_0_lines v_0_isFresh v_0_hasRun v_0_runs r22 r30 v_0_spaces v_0_oldNx v_0_oldNy v_0_oldSpaces v_0_points v_0_pieces v_0_rings v_0_outsideSides v_0_looseCount f_0_isFlat f_0_across f_0_lows f_0_highs f23 f31 f_0_flatEdges f_0_upEdges f_0_isPoint) H := hP
          have hD : va_D A (wl_Mo_layGrid a_0 a_0_isFlat a_0_across a_0_lows a_0_highs a_0_xs a_0_ys a_0_flatEdges a_0_upEdges a_0_isPoint b_0_thick b_0_doorCounts b_0_doorFrom b_0_doorTo b_0_labels b_0_oldXs b_0_oldYs b_0_oldLabels b_0_names b_0_oldNames b_0_wanted b_0_common b_0_stack b_0_pieceLines b_0_pieceBegins b_0_pieceEnds b_0_pieceLeft b_0_pieceRight b_0_outs b_0_isSeen b_0_ringSpaces b_0_ringStarts b_0_ringSizes b_0_ringLeast b_0_looseLines b_0_looseXs b_0_looseYs b_0_looseReaches b_0_far cZ cI v_0_code v_0_lines v_0_isFresh v_0_hasRun v_0_runs r22 r30 v_0_spaces v_0_oldNx v_0_oldNy v_0_oldSpaces v_0_points v_0_pieces v_0_rings v_0_outsideSides v_0_looseCount f_0_isFlat f_0_across f_0_lows f_0_highs f23 f31 f_0_flatEdges f_0_upEdges f_0_isPoint) := hD
          cases hm
          exact K13 H locs ls hP hD hS (lv_sub hl [0, 1] rfl)
        · replace hm := if_f hm c20
          refine lv_aload_n hx hb d_Mo_layGrid_29 rfl (lv_at hl 0 rfl) ?_
          refine lv_aload_n hx hb d_Mo_layGrid_30 rfl (lv_at hl 0 rfl) ?_
          refine va_get (D := (dC, dI)) (ci := 11) (v := .ref a_0_xs) (C := "SpaceCyclesModel") (T := F_Mo) (N := 54) hx hb hts (in_F i_Mo) hown hK hP 0 rfl rfl 13 (by decide) (hts _ (in_c k_302)) (fun _ h9 => h9) rfl d_Mo_layGrid_31 ?_
          refine lv_aload_n hx hb d_Mo_layGrid_34 rfl (lv_at hl 0 rfl) ?_
          refine va_get (D := (dC, dI)) (ci := 11) (v := .int x2) (C := "SpaceCyclesModel") (T := F_Mo) (N := 54) hx hb hts (in_F i_Mo) hown hK hP 0 rfl rfl 15 (by decide) (hts _ (in_c k_300)) (fun _ h9 => h9) rfl d_Mo_layGrid_35 ?_
          refine lv_aload_n hx hb d_Mo_layGrid_38 rfl (lv_at hl 0 rfl) ?_
          refine va_get (D := (dC, dI)) (ci := 11) (v := .ref a_0_lows) (C := "SpaceCyclesModel") (T := F_Mo) (N := 54) hx hb hts (in_F i_Mo) hown hK hP 0 rfl rfl 3 (by decide) (hts _ (in_c k_281)) (fun _ h9 => h9) rfl d_Mo_layGrid_39 ?_
          refine lv_iload_n hx hb d_Mo_layGrid_42 rfl (lv_at hl 1 rfl) ?_
          obtain ⟨hi33, hm⟩ := gI_e hm
          refine va_iald hx hb hK hP 3 0 rfl rfl hi33 d_Mo_layGrid_43 ?_
          obtain ⟨r34, f35, hb36, hm⟩ := bd2_e hm
          have hPc := hP.sub (ws' := (wl_Mo_put a_0_xs cI 42 f4)) [5] rfl
          have hDc := hD.sub (ws' := (wl_Mo_put a_0_xs cI 42 f4)) [5] (by decide) rfl
          refine cl_i (wc' := (wl_Mo_put a_0_xs cI 42 f35)) (va_runS (As := [.ref a_0_xs, .int x2, .int (f_0_lows x1.toNatClampNeg)]) (rest := [.ref a_0]) ⟨hx, hb, hml, hown, hts⟩ (c_Mo_put l dC dI (cI := cI) (cZ := cZ) (cJ := cJ) a_0_xs H.size 42 f4 x2 (f_0_lows x1.toNatClampNeg) r34 f35 hb36) (va_cwS 3 hts (gl_S k_305 k_304 k_277 k_303) rfl rfl rfl (by decide +kernel) ⟨Nat.le_of_ble_eq_true rfl, Nat.le_of_ble_eq_true rfl⟩) ⟨PP_blind, fun U hU hW => PP_at hK hN hPc hDc hU hW⟩ rfl rfl hl.1 rfl (lv_room (Nat.le_of_ble_eq_true rfl)) d_Mo_layGrid_44 ⟨Nat.zero_le _, Nat.zero_le _⟩) hP hD hS hA [5] [0, 1, 2, 3, 4, 6, 7, 8, 9] rfl rfl (by decide) (by decide) (fun H locs hP hD hS => ?_)
          have hP : va_P (dC, dI) vwCl (wl_Mo_layGrid a_0 a_0_isFlat a_0_across a_0_lows a_0_highs a_0_xs a_0_ys a_0_flatEdges a_0_upEdges a_0_isPoint b_0_thick b_0_doorCounts b_0_doorFrom b_0_doorTo b_0_labels b_0_oldXs b_0_oldYs b_0_oldLabels b_0_names b_0_oldNames b_0_wanted b_0_common b_0_stack b_0_pieceLines b_0_pieceBegins b_0_pieceEnds b_0_pieceLeft b_0_pieceRight b_0_outs b_0_isSeen b_0_ringSpaces b_0_ringStarts b_0_ringSizes b_0_ringLeast b_0_looseLines b_0_looseXs b_0_looseYs b_0_looseReaches b_0_far cZ cI v_0_code v_0_lines v_0_isFresh v_0_hasRun v_0_runs x2 x3 v_0_spaces v_0_oldNx v_0_oldNy v_0_oldSpaces v_0_points v_0_pieces v_0_rings v_0_outsideSides v_0_looseCount f_0_isFlat f_0_across f_0_lows f_0_highs f35 f5 f_0_flatEdges f_0_upEdges f_0_isPoint) H := hP.sub [0, 1, 2, 3, 4, 9, 5, 6, 7, 8] rfl
          have hD : va_D A (wl_Mo_layGrid a_0 a_0_isFlat a_0_across a_0_lows a_0_highs a_0_xs a_0_ys a_0_flatEdges a_0_upEdges a_0_isPoint b_0_thick b_0_doorCounts b_0_doorFrom b_0_doorTo b_0_labels b_0_oldXs b_0_oldYs b_0_oldLabels b_0_names b_0_oldNames b_0_wanted b_0_common b_0_stack b_0_pieceLines b_0_pieceBegins b_0_pieceEnds b_0_pieceLeft b_0_pieceRight b_0_outs b_0_isSeen b_0_ringSpaces b_0_ringStarts b_0_ringSizes b_0_ringLeast b_0_looseLines b_0_looseXs b_0_looseYs b_0_looseReaches b_0_far cZ cI v_0_code v_0_lines v_0_isFresh v_0_hasRun v_0_runs x2 x3 v_0_spaces v_0_oldNx v_0_oldNy v_0_oldSpaces v_0_points v_0_pieces v_0_rings v_0_outsideSides v_0_looseCount f_0_isFlat f_0_across f_0_lows f_0_highs f35 f5 f_0_flatEdges f_0_upEdges f_0_isPoint) := hD.sub [0, 1, 2, 3, 4, 9, 5, 6, 7, 8] (by decide) rfl
          refine va_put (D := (dC, dI)) (ci := 11) (v := .int r34) (ty := .int) (C := "SpaceCyclesModel") (T := F_Mo) (N := 54) hx hb hts (in_F i_Mo) t_Mo t_Mo_ok n_Mo hown hK hP hD hS 0 rfl rfl 15 (by decide) (hts _ (in_c k_300)) (fun _ h9 => h9) rfl (by decide +kernel) rfl rfl (Nat.le_of_ble_eq_true rfl) d_Mo_layGrid_47 (fun H locs hP hD hS => ?_)
          have hP : va_P (dC, dI) vwCl (wl_Mo_layGrid a_0 a_0_isFlat a_0_across a_0_lows a_0_highs a_0_xs a_0_ys a_0_flatEdges a_0_upEdges a_0_isPoint b_0_thick b_0_doorCounts b_0_doorFrom b_0_doorTo b_0_labels b_0_oldXs b_0_oldYs b_0_oldLabels b_0_names b_0_oldNames b_0_wanted b_0_common b_0_stack b_0_pieceLines b_0_pieceBegins b_0_pieceEnds b_0_pieceLeft b_0_pieceRight b_0_outs b_0_isSeen b_0_ringSpaces b_0_ringStarts b_0_ringSizes b_0_ringLeast b_0_looseLines b_0_looseXs b_0_looseYs b_0_looseReaches b_0_far cZ cI v_0_code v_0_lines v_0_isFresh v_0_hasRun v_0_runs r34 x3 v_0_spaces v_0_oldNx v_0_oldNy v_0_oldSpaces v_0_points v_0_pieces v_0_rings v_0_outsideSides v_0_looseCount f_0_isFlat f_0_across f_0_lows f_0_highs f35 f5 f_0_flatEdges f_0_upEdges f_0_isPoint) H := hP
          have hD : va_D A (wl_Mo_layGrid a_0 a_0_isFlat a_0_across a_0_lows a_0_highs a_0_xs a_0_ys a_0_flatEdges a_0_upEdges a_0_isPoint b_0_thick b_0_doorCounts b_0_doorFrom b_0_doorTo b_0_labels b_0_oldXs b_0_oldYs b_0_oldLabels b_0_names b_0_oldNames b_0_wanted b_0_common b_0_stack b_0_pieceLines b_0_pieceBegins b_0_pieceEnds b_0_pieceLeft b_0_pieceRight b_0_outs b_0_isSeen b_0_ringSpaces b_0_ringStarts b_0_ringSizes b_0_ringLeast b_0_looseLines b_0_looseXs b_0_looseYs b_0_looseReaches b_0_far cZ cI v_0_code v_0_lines v_0_isFresh v_0_hasRun v_0_runs r34 x3 v_0_spaces v_0_oldNx v_0_oldNy v_0_oldSpaces v_0_points v_0_pieces v_0_rings v_0_outsideSides v_0_looseCount f_0_isFlat f_0_across f_0_lows f_0_highs f35 f5 f_0_flatEdges f_0_upEdges f_0_isPoint) := hD
          refine lv_aload_n hx hb d_Mo_layGrid_50 rfl (lv_at hl 0 rfl) ?_
          refine lv_aload_n hx hb d_Mo_layGrid_51 rfl (lv_at hl 0 rfl) ?_
          refine va_get (D := (dC, dI)) (ci := 11) (v := .ref a_0_xs) (C := "SpaceCyclesModel") (T := F_Mo) (N := 54) hx hb hts (in_F i_Mo) hown hK hP 0 rfl rfl 13 (by decide) (hts _ (in_c k_302)) (fun _ h9 => h9) rfl d_Mo_layGrid_52 ?_
          refine lv_aload_n hx hb d_Mo_layGrid_55 rfl (lv_at hl 0 rfl) ?_
          refine va_get (D := (dC, dI)) (ci := 11) (v := .int r34) (C := "SpaceCyclesModel") (T := F_Mo) (N := 54) hx hb hts (in_F i_Mo) hown hK hP 0 rfl rfl 15 (by decide) (hts _ (in_c k_300)) (fun _ h9 => h9) rfl d_Mo_layGrid_56 ?_
          refine lv_aload_n hx hb d_Mo_layGrid_59 rfl (lv_at hl 0 rfl) ?_
          refine va_get (D := (dC, dI)) (ci := 11) (v := .ref a_0_highs) (C := "SpaceCyclesModel") (T := F_Mo) (N := 54) hx hb hts (in_F i_Mo) hown hK hP 0 rfl rfl 4 (by decide) (hts _ (in_c k_282)) (fun _ h9 => h9) rfl d_Mo_layGrid_60 ?_
          refine lv_iload_n hx hb d_Mo_layGrid_63 rfl (lv_at hl 1 rfl) ?_
          obtain ⟨hi37, hm⟩ := gI_e hm
          refine va_iald hx hb hK hP 4 0 rfl rfl hi37 d_Mo_layGrid_64 ?_
          obtain ⟨r38, f39, hb40, hm⟩ := bd2_e hm
          have hPc := hP.sub (ws' := (wl_Mo_put a_0_xs cI 42 f35)) [5] rfl
          have hDc := hD.sub (ws' := (wl_Mo_put a_0_xs cI 42 f35)) [5] (by decide) rfl
          refine cl_i (wc' := (wl_Mo_put a_0_xs cI 42 f39)) (va_runS (As := [.ref a_0_xs, .int r34, .int (f_0_highs x1.toNatClampNeg)]) (rest := [.ref a_0]) ⟨hx, hb, hml, hown, hts⟩ (c_Mo_put l dC dI (cI := cI) (cZ := cZ) (cJ := cJ) a_0_xs H.size 42 f35 r34 (f_0_highs x1.toNatClampNeg) r38 f39 hb40) (va_cwS 3 hts (gl_S k_305 k_304 k_277 k_303) rfl rfl rfl (by decide +kernel) ⟨Nat.le_of_ble_eq_true rfl, Nat.le_of_ble_eq_true rfl⟩) ⟨PP_blind, fun U hU hW => PP_at hK hN hPc hDc hU hW⟩ rfl rfl hl.1 rfl (lv_room (Nat.le_of_ble_eq_true rfl)) d_Mo_layGrid_65 ⟨Nat.zero_le _, Nat.zero_le _⟩) hP hD hS hA [5] [0, 1, 2, 3, 4, 6, 7, 8, 9] rfl rfl (by decide) (by decide) (fun H locs hP hD hS => ?_)
          have hP : va_P (dC, dI) vwCl (wl_Mo_layGrid a_0 a_0_isFlat a_0_across a_0_lows a_0_highs a_0_xs a_0_ys a_0_flatEdges a_0_upEdges a_0_isPoint b_0_thick b_0_doorCounts b_0_doorFrom b_0_doorTo b_0_labels b_0_oldXs b_0_oldYs b_0_oldLabels b_0_names b_0_oldNames b_0_wanted b_0_common b_0_stack b_0_pieceLines b_0_pieceBegins b_0_pieceEnds b_0_pieceLeft b_0_pieceRight b_0_outs b_0_isSeen b_0_ringSpaces b_0_ringStarts b_0_ringSizes b_0_ringLeast b_0_looseLines b_0_looseXs b_0_looseYs b_0_looseReaches b_0_far cZ cI v_0_code v_0_lines v_0_isFresh v_0_hasRun v_0_runs r34 x3 v_0_spaces v_0_oldNx v_0_oldNy v_0_oldSpaces v_0_points v_0_pieces v_0_rings v_0_outsideSides v_0_looseCount f_0_isFlat f_0_across f_0_lows f_0_highs f39 f5 f_0_flatEdges f_0_upEdges f_0_isPoint) H := hP.sub [0, 1, 2, 3, 4, 9, 5, 6, 7, 8] rfl
          have hD : va_D A (wl_Mo_layGrid a_0 a_0_isFlat a_0_across a_0_lows a_0_highs a_0_xs a_0_ys a_0_flatEdges a_0_upEdges a_0_isPoint b_0_thick b_0_doorCounts b_0_doorFrom b_0_doorTo b_0_labels b_0_oldXs b_0_oldYs b_0_oldLabels b_0_names b_0_oldNames b_0_wanted b_0_common b_0_stack b_0_pieceLines b_0_pieceBegins b_0_pieceEnds b_0_pieceLeft b_0_pieceRight b_0_outs b_0_isSeen b_0_ringSpaces b_0_ringStarts b_0_ringSizes b_0_ringLeast b_0_looseLines b_0_looseXs b_0_looseYs b_0_looseReaches b_0_far cZ cI v_0_code v_0_lines v_0_isFresh v_0_hasRun v_0_runs r34 x3 v_0_spaces v_0_oldNx v_0_oldNy v_0_oldSpaces v_0_points v_0_pieces v_0_rings v_0_outsideSides v_0_looseCount f_0_isFlat f_0_across f_0_lows f_0_highs f39 f5 f_0_flatEdges f_0_upEdges f_0_isPoint) := hD.sub [0, 1, 2, 3, 4, 9, 5, 6, 7, 8] (by decide) rfl
          refine va_put (D := (dC, dI)) (ci := 11) (v := .int r38) (ty := .int) (C := "SpaceCyclesModel") (T := F_Mo) (N := 54) hx hb hts (in_F i_Mo) t_Mo t_Mo_ok n_Mo hown hK hP hD hS 0 rfl rfl 15 (by decide) (hts _ (in_c k_300)) (fun _ h9 => h9) rfl (by decide +kernel) rfl rfl (Nat.le_of_ble_eq_true rfl) d_Mo_layGrid_68 (fun H locs hP hD hS => ?_)
          have hP : va_P (dC, dI) vwCl (wl_Mo_layGrid a_0 a_0_isFlat a_0_across a_0_lows a_0_highs a_0_xs a_0_ys a_0_flatEdges a_0_upEdges a_0_isPoint b_0_thick b_0_doorCounts b_0_doorFrom b_0_doorTo b_0_labels b_0_oldXs b_0_oldYs b_0_oldLabels b_0_names b_0_oldNames b_0_wanted b_0_common b_0_stack b_0_pieceLines b_0_pieceBegins b_0_pieceEnds b_0_pieceLeft b_0_pieceRight b_0_outs b_0_isSeen b_0_ringSpaces b_0_ringStarts b_0_ringSizes b_0_ringLeast b_0_looseLines b_0_looseXs b_0_looseYs b_0_looseReaches b_0_far cZ cI v_0_code v_0_lines v_0_isFresh v_0_hasRun v_0_runs r38 x3 v_0_spaces v_0_oldNx v_0_oldNy v_0_oldSpaces v_0_points v_0_pieces v_0_rings v_0_outsideSides v_0_looseCount f_0_isFlat f_0_across f_0_lows f_0_highs f39 f5 f_0_flatEdges f_0_upEdges f_0_isPoint) H := hP
          have hD : va_D A (wl_Mo_layGrid a_0 a_0_isFlat a_0_across a_0_lows a_0_highs a_0_xs a_0_ys a_0_flatEdges a_0_upEdges a_0_isPoint b_0_thick b_0_doorCounts b_0_doorFrom b_0_doorTo b_0_labels b_0_oldXs b_0_oldYs b_0_oldLabels b_0_names b_0_oldNames b_0_wanted b_0_common b_0_stack b_0_pieceLines b_0_pieceBegins b_0_pieceEnds b_0_pieceLeft b_0_pieceRight b_0_outs b_0_isSeen b_0_ringSpaces b_0_ringStarts b_0_ringSizes b_0_ringLeast b_0_looseLines b_0_looseXs b_0_looseYs b_0_looseReaches b_0_far cZ cI v_0_code v_0_lines v_0_isFresh v_0_hasRun v_0_runs r38 x3 v_0_spaces v_0_oldNx v_0_oldNy v_0_oldSpaces v_0_points v_0_pieces v_0_rings v_0_outsideSides v_0_looseCount f_0_isFlat f_0_across f_0_lows f_0_highs f39 f5 f_0_flatEdges f_0_upEdges f_0_isPoint) := hD
          refine lv_aload_n hx hb d_Mo_layGrid_71 rfl (lv_at hl 0 rfl) ?_
          refine lv_aload_n hx hb d_Mo_layGrid_72 rfl (lv_at hl 0 rfl) ?_
          refine va_get (D := (dC, dI)) (ci := 11) (v := .ref a_0_ys) (C := "SpaceCyclesModel") (T := F_Mo) (N := 54) hx hb hts (in_F i_Mo) hown hK hP 0 rfl rfl 14 (by decide) (hts _ (in_c k_306)) (fun _ h9 => h9) rfl d_Mo_layGrid_73 ?_
          refine lv_aload_n hx hb d_Mo_layGrid_76 rfl (lv_at hl 0 rfl) ?_
          refine va_get (D := (dC, dI)) (ci := 11) (v := .int x3) (C := "SpaceCyclesModel") (T := F_Mo) (N := 54) hx hb hts (in_F i_Mo) hown hK hP 0 rfl rfl 16 (by decide) (hts _ (in_c k_301)) (fun _ h9 => h9) rfl d_Mo_layGrid_77 ?_
          refine lv_aload_n hx hb d_Mo_layGrid_80 rfl (lv_at hl 0 rfl) ?_
          refine va_get (D := (dC, dI)) (ci := 11) (v := .ref a_0_across) (C := "SpaceCyclesModel") (T := F_Mo) (N := 54) hx hb hts (in_F i_Mo) hown hK hP 0 rfl rfl 2 (by decide) (hts _ (in_c k_280)) (fun _ h9 => h9) rfl d_Mo_layGrid_81 ?_
          refine lv_iload_n hx hb d_Mo_layGrid_84 rfl (lv_at hl 1 rfl) ?_
          obtain ⟨hi41, hm⟩ := gI_e hm
          refine va_iald hx hb hK hP 2 0 rfl rfl hi41 d_Mo_layGrid_85 ?_
          obtain ⟨r42, f43, hb44, hm⟩ := bd2_e hm
          have hPc := hP.sub (ws' := (wl_Mo_put a_0_ys cI 42 f5)) [6] rfl
          have hDc := hD.sub (ws' := (wl_Mo_put a_0_ys cI 42 f5)) [6] (by decide) rfl
          refine cl_i (wc' := (wl_Mo_put a_0_ys cI 42 f43)) (va_runS (As := [.ref a_0_ys, .int x3, .int (f_0_across x1.toNatClampNeg)]) (rest := [.ref a_0]) ⟨hx, hb, hml, hown, hts⟩ (c_Mo_put l dC dI (cI := cI) (cZ := cZ) (cJ := cJ) a_0_ys H.size 42 f5 x3 (f_0_across x1.toNatClampNeg) r42 f43 hb44) (va_cwS 3 hts (gl_S k_305 k_304 k_277 k_303) rfl rfl rfl (by decide +kernel) ⟨Nat.le_of_ble_eq_true rfl, Nat.le_of_ble_eq_true rfl⟩) ⟨PP_blind, fun U hU hW => PP_at hK hN hPc hDc hU hW⟩ rfl rfl hl.1 rfl (lv_room (Nat.le_of_ble_eq_true rfl)) d_Mo_layGrid_86 ⟨Nat.zero_le _, Nat.zero_le _⟩) hP hD hS hA [6] [0, 1, 2, 3, 4, 5, 7, 8, 9] rfl rfl (by decide) (by decide) (fun H locs hP hD hS => ?_)
          have hP : va_P (dC, dI) vwCl (wl_Mo_layGrid a_0 a_0_isFlat a_0_across a_0_lows a_0_highs a_0_xs a_0_ys a_0_flatEdges a_0_upEdges a_0_isPoint b_0_thick b_0_doorCounts b_0_doorFrom b_0_doorTo b_0_labels b_0_oldXs b_0_oldYs b_0_oldLabels b_0_names b_0_oldNames b_0_wanted b_0_common b_0_stack b_0_pieceLines b_0_pieceBegins b_0_pieceEnds b_0_pieceLeft b_0_pieceRight b_0_outs b_0_isSeen b_0_ringSpaces b_0_ringStarts b_0_ringSizes b_0_ringLeast b_0_looseLines b_0_looseXs b_0_looseYs b_0_looseReaches b_0_far cZ cI v_0_code v_0_lines v_0_isFresh v_0_hasRun v_0_runs r38 x3 v_0_spaces v_0_oldNx v_0_oldNy v_0_oldSpaces v_0_points v_0_pieces v_0_rings v_0_outsideSides v_0_looseCount f_0_isFlat f_0_across f_0_lows f_0_highs f39 f43 f_0_flatEdges f_0_upEdges f_0_isPoint) H := hP.sub [0, 1, 2, 3, 4, 5, 9, 6, 7, 8] rfl
          have hD : va_D A (wl_Mo_layGrid a_0 a_0_isFlat a_0_across a_0_lows a_0_highs a_0_xs a_0_ys a_0_flatEdges a_0_upEdges a_0_isPoint b_0_thick b_0_doorCounts b_0_doorFrom b_0_doorTo b_0_labels b_0_oldXs b_0_oldYs b_0_oldLabels b_0_names b_0_oldNames b_0_wanted b_0_common b_0_stack b_0_pieceLines b_0_pieceBegins b_0_pieceEnds b_0_pieceLeft b_0_pieceRight b_0_outs b_0_isSeen b_0_ringSpaces b_0_ringStarts b_0_ringSizes b_0_ringLeast b_0_looseLines b_0_looseXs b_0_looseYs b_0_looseReaches b_0_far cZ cI v_0_code v_0_lines v_0_isFresh v_0_hasRun v_0_runs r38 x3 v_0_spaces v_0_oldNx v_0_oldNy v_0_oldSpaces v_0_points v_0_pieces v_0_rings v_0_outsideSides v_0_looseCount f_0_isFlat f_0_across f_0_lows f_0_highs f39 f43 f_0_flatEdges f_0_upEdges f_0_isPoint) := hD.sub [0, 1, 2, 3, 4, 5, 9, 6, 7, 8] (by decide) rfl
          refine va_put (D := (dC, dI)) (ci := 11) (v := .int r42) (ty := .int) (C := "SpaceCyclesModel") (T := F_Mo) (N := 54) hx hb hts (in_F i_Mo) t_Mo t_Mo_ok n_Mo hown hK hP hD hS 0 rfl rfl 16 (by decide) (hts _ (in_c k_301)) (fun _ h9 => h9) rfl (by decide +kernel) rfl rfl (Nat.le_of_ble_eq_true rfl) d_Mo_layGrid_89 (fun H locs hP hD hS => ?_)
          have hP : va_P (dC, dI) vwCl (wl_Mo_layGrid a_0 a_0_isFlat a_0_across a_0_lows a_0_highs a_0_xs a_0_ys a_0_flatEdges a_0_upEdges a_0_isPoint b_0_thick b_0_doorCounts b_0_doorFrom b_0_doorTo b_0_labels b_0_oldXs b_0_oldYs b_0_oldLabels b_0_names b_0_oldNames b_0_wanted b_0_common b_0_stack b_0_pieceLines b_0_pieceBegins b_0_pieceEnds b_0_pieceLeft b_0_pieceRight b_0_outs b_0_isSeen b_0_ringSpaces b_0_ringStarts b_0_ringSizes b_0_ringLeast b_0_looseLines b_0_looseXs b_0_looseYs b_0_looseReaches b_0_far cZ cI v_0_code v_0_lines v_0_isFresh v_0_hasRun v_0_runs r38 r42 v_0_spaces v_0_oldNx v_0_oldNy v_0_oldSpaces v_0_points v_0_pieces v_0_rings v_0_outsideSides v_0_looseCount f_0_isFlat f_0_across f_0_lows f_0_highs f39 f43 f_0_flatEdges f_0_upEdges f_0_isPoint) H := hP
          have hD : va_D A (wl_Mo_layGrid a_0 a_0_isFlat a_0_across a_0_lows a_0_highs a_0_xs a_0_ys a_0_flatEdges a_0_upEdges a_0_isPoint b_0_thick b_0_doorCounts b_0_doorFrom b_0_doorTo b_0_labels b_0_oldXs b_0_oldYs b_0_oldLabels b_0_names b_0_oldNames b_0_wanted b_0_common b_0_stack b_0_pieceLines b_0_pieceBegins b_0_pieceEnds b_0_pieceLeft b_0_pieceRight b_0_outs b_0_isSeen b_0_ringSpaces b_0_ringStarts b_0_ringSizes b_0_ringLeast b_0_looseLines b_0_looseXs b_0_looseYs b_0_looseReaches b_0_far cZ cI v_0_code v_0_lines v_0_isFresh v_0_hasRun v_0_runs r38 r42 v_0_spaces v_0_oldNx v_0_oldNy v_0_oldSpaces v_0_points v_0_pieces v_0_rings v_0_outsideSides v_0_looseCount f_0_isFlat f_0_across f_0_lows f_0_highs f39 f43 f_0_flatEdges f_0_upEdges f_0_isPoint) := hD
          refine lv_goto (tgt := 158) hx hb d_Mo_layGrid_92 (by decide) ?_
          cases hm
          exact K13 H locs ls hP hD hS (lv_sub hl [0, 1] rfl)
  obtain ⟨x6, x7, f8, f9, hb46, hm⟩ := bd4_e hm
  refine L12_10 fu _ _ _ _ _ _ _ _ _ hb46 (fun H locs ls hP hD hS hl => ?_) H locs ls hP hD hS (lv_sub hl [1, 0] rfl)
  refine lv_iconst (v := 0) hx hb d_Mo_layGrid_164 (by decide) ?_
  refine lv_istore_n (lv' := [(1, .int 0), (0, .ref a_0)]) hx hb d_Mo_layGrid_165 rfl hl (by decide) rfl (fun ls hl => ?_)
  have L166_54 : ∀ (n : Nat) (x47 : Int32) (f48 : Nat → Int32) (f49 : Nat → Int32) (f50 : Nat → Int32) (f51 : Nat → Int32) (f52 : Nat → Int32) (f53 : Nat → Int32), m_Mo_layGrid_L166 n x47 f48 f49 f50 = some (f51, f52, f53) → (∀ (H : Heap) (locs : List Loc) (ls : Array Slot), va_P (dC, dI) vwCl (wl_Mo_layGrid a_0 a_0_isFlat a_0_across a_0_lows a_0_highs a_0_xs a_0_ys a_0_flatEdges a_0_upEdges a_0_isPoint b_0_thick b_0_doorCounts b_0_doorFrom b_0_doorTo b_0_labels b_0_oldXs b_0_oldYs b_0_oldLabels b_0_names b_0_oldNames b_0_wanted b_0_common b_0_stack b_0_pieceLines b_0_pieceBegins b_0_pieceEnds b_0_pieceLeft b_0_pieceRight b_0_outs b_0_isSeen b_0_ringSpaces b_0_ringStarts b_0_ringSizes b_0_ringLeast b_0_looseLines b_0_looseXs b_0_looseYs b_0_looseReaches b_0_far cZ cI v_0_code v_0_lines v_0_isFresh v_0_hasRun v_0_runs x6 x7 v_0_spaces v_0_oldNx v_0_oldNy v_0_oldSpaces v_0_points v_0_pieces v_0_rings v_0_outsideSides v_0_looseCount f_0_isFlat f_0_across f_0_lows f_0_highs f8 f9 f51 f52 f53) H → va_D A (wl_Mo_layGrid a_0 a_0_isFlat a_0_across a_0_lows a_0_highs a_0_xs a_0_ys a_0_flatEdges a_0_upEdges a_0_isPoint b_0_thick b_0_doorCounts b_0_doorFrom b_0_doorTo b_0_labels b_0_oldXs b_0_oldYs b_0_oldLabels b_0_names b_0_oldNames b_0_wanted b_0_common b_0_stack b_0_pieceLines b_0_pieceBegins b_0_pieceEnds b_0_pieceLeft b_0_pieceRight b_0_outs b_0_isSeen b_0_ringSpaces b_0_ringStarts b_0_ringSizes b_0_ringLeast b_0_looseLines b_0_looseXs b_0_looseYs b_0_looseReaches b_0_far cZ cI v_0_code v_0_lines v_0_isFresh v_0_hasRun v_0_runs x6 x7 v_0_spaces v_0_oldNx v_0_oldNy v_0_oldSpaces v_0_points v_0_pieces v_0_rings v_0_outsideSides v_0_looseCount f_0_isFlat f_0_across f_0_lows f_0_highs f8 f9 f51 f52 f53) → va_S A s.heap H locs → lv_has ls 6 [(0, .ref a_0)] → W p l e rm_Mo_layGrid s m args below meth c H locs 0 0 Q (F0 m 200 ls [])) → ∀ (H : Heap) (locs : List Loc) (ls : Array Slot), va_P (dC, dI) vwCl (wl_Mo_layGrid a_0 a_0_isFlat a_0_across a_0_lows a_0_highs a_0_xs a_0_ys a_0_flatEdges a_0_upEdges a_0_isPoint b_0_thick b_0_doorCounts b_0_doorFrom b_0_doorTo b_0_labels b_0_oldXs b_0_oldYs b_0_oldLabels b_0_names b_0_oldNames b_0_wanted b_0_common b_0_stack b_0_pieceLines b_0_pieceBegins b_0_pieceEnds b_0_pieceLeft b_0_pieceRight b_0_outs b_0_isSeen b_0_ringSpaces b_0_ringStarts b_0_ringSizes b_0_ringLeast b_0_looseLines b_0_looseXs b_0_looseYs b_0_looseReaches b_0_far cZ cI v_0_code v_0_lines v_0_isFresh v_0_hasRun v_0_runs x6 x7 v_0_spaces v_0_oldNx v_0_oldNy v_0_oldSpaces v_0_points v_0_pieces v_0_rings v_0_outsideSides v_0_looseCount f_0_isFlat f_0_across f_0_lows f_0_highs f8 f9 f48 f49 f50) H → va_D A (wl_Mo_layGrid a_0 a_0_isFlat a_0_across a_0_lows a_0_highs a_0_xs a_0_ys a_0_flatEdges a_0_upEdges a_0_isPoint b_0_thick b_0_doorCounts b_0_doorFrom b_0_doorTo b_0_labels b_0_oldXs b_0_oldYs b_0_oldLabels b_0_names b_0_oldNames b_0_wanted b_0_common b_0_stack b_0_pieceLines b_0_pieceBegins b_0_pieceEnds b_0_pieceLeft b_0_pieceRight b_0_outs b_0_isSeen b_0_ringSpaces b_0_ringStarts b_0_ringSizes b_0_ringLeast b_0_looseLines b_0_looseXs b_0_looseYs b_0_looseReaches b_0_far cZ cI v_0_code v_0_lines v_0_isFresh v_0_hasRun v_0_runs x6 x7 v_0_spaces v_0_oldNx v_0_oldNy v_0_oldSpaces v_0_points v_0_pieces v_0_rings v_0_outsideSides v_0_looseCount f_0_isFlat f_0_across f_0_lows f_0_highs f8 f9 f48 f49 f50) → va_S A s.heap H locs → lv_has ls 6 [(0, .ref a_0), (1, .int x47)] → W p l e rm_Mo_layGrid s m args below meth c H locs 0 0 Q (F0 m 166 ls []) := by
    intro n
    induction n with
    | zero => intro x47 f48 f49 f50 f51 f52 f53 hm; simp [m_Mo_layGrid_L166] at hm
    | succ n ih =>
      intro x47 f48 f49 f50 f51 f52 f53 hm KE H locs ls hP hD hS hl
      rw [m_Mo_layGrid_L166] at hm
      refine lv_iload_n hx hb d_Mo_layGrid_166 rfl (lv_at hl 1 rfl) ?_
      refine lv_sipush (v := 1764) hx hb d_Mo_layGrid_167 (by decide) ?_
      refine lv_icmp_ge (tgt := 200) hx hb d_Mo_layGrid_170 (by decide) (fun c55 => ?_) (fun c55 => ?_)
      · replace hm := if_t hm c55
        cases hm
        exact KE H locs ls hP hD hS (lv_sub hl [0] rfl)
      · replace hm := if_f hm c55
        refine lv_aload_n hx hb d_Mo_layGrid_173 rfl (lv_at hl 0 rfl) ?_
        refine va_get (D := (dC, dI)) (ci := 11) (v := .ref a_0_flatEdges) (C := "SpaceCyclesModel") (T := F_Mo) (N := 54) hx hb hts (in_F i_Mo) hown hK hP 0 rfl rfl 29 (by decide) (hts _ (in_c k_307)) (fun _ h9 => h9) rfl d_Mo_layGrid_174 ?_
        refine lv_iload_n hx hb d_Mo_layGrid_177 rfl (lv_at hl 1 rfl) ?_
        refine lv_iconst (v := (-1)) hx hb d_Mo_layGrid_178 (by decide) ?_
        obtain ⟨hi56, hm⟩ := gI_e hm
        obtain ⟨f57, ef57⟩ : ∃ y : Nat → Int32, y = upd f48 x47.toNatClampNeg (-1) := ⟨_, rfl⟩
        replace hm := lt_el hm ef57
        refine va_iast hx hb hK hP hD hS 7 0 rfl rfl hi56 d_Mo_layGrid_179 (fun H locs hP hD hS => ?_)
        rw [← ef57] at hP hD
        have hP : va_P (dC, dI) vwCl (wl_Mo_layGrid a_0 a_0_isFlat a_0_across a_0_lows a_0_highs a_0_xs a_0_ys a_0_flatEdges a_0_upEdges a_0_isPoint b_0_thick b_0_doorCounts b_0_doorFrom b_0_doorTo b_0_labels b_0_oldXs b_0_oldYs b_0_oldLabels b_0_names b_0_oldNames b_0_wanted b_0_common b_0_stack b_0_pieceLines b_0_pieceBegins b_0_pieceEnds b_0_pieceLeft b_0_pieceRight b_0_outs b_0_isSeen b_0_ringSpaces b_0_ringStarts b_0_ringSizes b_0_ringLeast b_0_looseLines b_0_looseXs b_0_looseYs b_0_looseReaches b_0_far cZ cI v_0_code v_0_lines v_0_isFresh v_0_hasRun v_0_runs x6 x7 v_0_spaces v_0_oldNx v_0_oldNy v_0_oldSpaces v_0_points v_0_pieces v_0_rings v_0_outsideSides v_0_looseCount f_0_isFlat f_0_across f_0_lows f_0_highs f8 f9 f57 f49 f50) H := hP
        have hD : va_D A (wl_Mo_layGrid a_0 a_0_isFlat a_0_across a_0_lows a_0_highs a_0_xs a_0_ys a_0_flatEdges a_0_upEdges a_0_isPoint b_0_thick b_0_doorCounts b_0_doorFrom b_0_doorTo b_0_labels b_0_oldXs b_0_oldYs b_0_oldLabels b_0_names b_0_oldNames b_0_wanted b_0_common b_0_stack b_0_pieceLines b_0_pieceBegins b_0_pieceEnds b_0_pieceLeft b_0_pieceRight b_0_outs b_0_isSeen b_0_ringSpaces b_0_ringStarts b_0_ringSizes b_0_ringLeast b_0_looseLines b_0_looseXs b_0_looseYs b_0_looseReaches b_0_far cZ cI v_0_code v_0_lines v_0_isFresh v_0_hasRun v_0_runs x6 x7 v_0_spaces v_0_oldNx v_0_oldNy v_0_oldSpaces v_0_points v_0_pieces v_0_rings v_0_outsideSides v_0_looseCount f_0_isFlat f_0_across f_0_lows f_0_highs f8 f9 f57 f49 f50) := hD
        refine lv_aload_n hx hb d_Mo_layGrid_180 rfl (lv_at hl 0 rfl) ?_
        refine va_get (D := (dC, dI)) (ci := 11) (v := .ref a_0_upEdges) (C := "SpaceCyclesModel") (T := F_Mo) (N := 54) hx hb hts (in_F i_Mo) hown hK hP 0 rfl rfl 30 (by decide) (hts _ (in_c k_308)) (fun _ h9 => h9) rfl d_Mo_layGrid_181 ?_
        refine lv_iload_n hx hb d_Mo_layGrid_184 rfl (lv_at hl 1 rfl) ?_
        refine lv_iconst (v := (-1)) hx hb d_Mo_layGrid_185 (by decide) ?_
        obtain ⟨hi58, hm⟩ := gI_e hm
        obtain ⟨f59, ef59⟩ : ∃ y : Nat → Int32, y = upd f49 x47.toNatClampNeg (-1) := ⟨_, rfl⟩
        replace hm := lt_el hm ef59
        refine va_iast hx hb hK hP hD hS 8 0 rfl rfl hi58 d_Mo_layGrid_186 (fun H locs hP hD hS => ?_)
        rw [← ef59] at hP hD
        have hP : va_P (dC, dI) vwCl (wl_Mo_layGrid a_0 a_0_isFlat a_0_across a_0_lows a_0_highs a_0_xs a_0_ys a_0_flatEdges a_0_upEdges a_0_isPoint b_0_thick b_0_doorCounts b_0_doorFrom b_0_doorTo b_0_labels b_0_oldXs b_0_oldYs b_0_oldLabels b_0_names b_0_oldNames b_0_wanted b_0_common b_0_stack b_0_pieceLines b_0_pieceBegins b_0_pieceEnds b_0_pieceLeft b_0_pieceRight b_0_outs b_0_isSeen b_0_ringSpaces b_0_ringStarts b_0_ringSizes b_0_ringLeast b_0_looseLines b_0_looseXs b_0_looseYs b_0_looseReaches b_0_far cZ cI v_0_code v_0_lines v_0_isFresh v_0_hasRun v_0_runs x6 x7 v_0_spaces v_0_oldNx v_0_oldNy v_0_oldSpaces v_0_points v_0_pieces v_0_rings v_0_outsideSides v_0_looseCount f_0_isFlat f_0_across f_0_lows f_0_highs f8 f9 f57 f59 f50) H := hP
        have hD : va_D A (wl_Mo_layGrid a_0 a_0_isFlat a_0_across a_0_lows a_0_highs a_0_xs a_0_ys a_0_flatEdges a_0_upEdges a_0_isPoint b_0_thick b_0_doorCounts b_0_doorFrom b_0_doorTo b_0_labels b_0_oldXs b_0_oldYs b_0_oldLabels b_0_names b_0_oldNames b_0_wanted b_0_common b_0_stack b_0_pieceLines b_0_pieceBegins b_0_pieceEnds b_0_pieceLeft b_0_pieceRight b_0_outs b_0_isSeen b_0_ringSpaces b_0_ringStarts b_0_ringSizes b_0_ringLeast b_0_looseLines b_0_looseXs b_0_looseYs b_0_looseReaches b_0_far cZ cI v_0_code v_0_lines v_0_isFresh v_0_hasRun v_0_runs x6 x7 v_0_spaces v_0_oldNx v_0_oldNy v_0_oldSpaces v_0_points v_0_pieces v_0_rings v_0_outsideSides v_0_looseCount f_0_isFlat f_0_across f_0_lows f_0_highs f8 f9 f57 f59 f50) := hD
        refine lv_aload_n hx hb d_Mo_layGrid_187 rfl (lv_at hl 0 rfl) ?_
        refine va_get (D := (dC, dI)) (ci := 11) (v := .ref a_0_isPoint) (C := "SpaceCyclesModel") (T := F_Mo) (N := 54) hx hb hts (in_F i_Mo) hown hK hP 0 rfl rfl 31 (by decide) (hts _ (in_c k_309)) (fun _ h9 => h9) rfl d_Mo_layGrid_188 ?_
        refine lv_iload_n hx hb d_Mo_layGrid_191 rfl (lv_at hl 1 rfl) ?_
        refine lv_iconst (v := 0) hx hb d_Mo_layGrid_192 (by decide) ?_
        obtain ⟨hi60, hm⟩ := gI_e hm
        obtain ⟨f61, ef61⟩ : ∃ y : Nat → Int32, y = upd f50 x47.toNatClampNeg (vp_nar .boolean 0) := ⟨_, rfl⟩
        replace hm := lt_el hm ef61
        refine va_zast hx hb hK hP hD hS 9 1 rfl rfl hi60 d_Mo_layGrid_193 (fun H locs hP hD hS => ?_)
        rw [← ef61] at hP hD
        have hP : va_P (dC, dI) vwCl (wl_Mo_layGrid a_0 a_0_isFlat a_0_across a_0_lows a_0_highs a_0_xs a_0_ys a_0_flatEdges a_0_upEdges a_0_isPoint b_0_thick b_0_doorCounts b_0_doorFrom b_0_doorTo b_0_labels b_0_oldXs b_0_oldYs b_0_oldLabels b_0_names b_0_oldNames b_0_wanted b_0_common b_0_stack b_0_pieceLines b_0_pieceBegins b_0_pieceEnds b_0_pieceLeft b_0_pieceRight b_0_outs b_0_isSeen b_0_ringSpaces b_0_ringStarts b_0_ringSizes b_0_ringLeast b_0_looseLines b_0_looseXs b_0_looseYs b_0_looseReaches b_0_far cZ cI v_0_code v_0_lines v_0_isFresh v_0_hasRun v_0_runs x6 x7 v_0_spaces v_0_oldNx v_0_oldNy v_0_oldSpaces v_0_points v_0_pieces v_0_rings v_0_outsideSides v_0_looseCount f_0_isFlat f_0_across f_0_lows f_0_highs f8 f9 f57 f59 f61) H := hP
        have hD : va_D A (wl_Mo_layGrid a_0 a_0_isFlat a_0_across a_0_lows a_0_highs a_0_xs a_0_ys a_0_flatEdges a_0_upEdges a_0_isPoint b_0_thick b_0_doorCounts b_0_doorFrom b_0_doorTo b_0_labels b_0_oldXs b_0_oldYs b_0_oldLabels b_0_names b_0_oldNames b_0_wanted b_0_common b_0_stack b_0_pieceLines b_0_pieceBegins b_0_pieceEnds b_0_pieceLeft b_0_pieceRight b_0_outs b_0_isSeen b_0_ringSpaces b_0_ringStarts b_0_ringSizes b_0_ringLeast b_0_looseLines b_0_looseXs b_0_looseYs b_0_looseReaches b_0_far cZ cI v_0_code v_0_lines v_0_isFresh v_0_hasRun v_0_runs x6 x7 v_0_spaces v_0_oldNx v_0_oldNy v_0_oldSpaces v_0_points v_0_pieces v_0_rings v_0_outsideSides v_0_looseCount f_0_isFlat f_0_across f_0_lows f_0_highs f8 f9 f57 f59 f61) := hD
        obtain ⟨x62, ex62⟩ : ∃ y : Int32, y = x47 + 1 := ⟨_, rfl⟩
        replace hm := lt_el hm ex62
        refine lv_iinc (v := x62) (lv' := [(1, .int x62), (0, .ref a_0)]) hx hb d_Mo_layGrid_194 hl (k := 1) rfl (by rw [ex62]; rfl) (by decide) rfl (fun ls hl => ?_)
        refine lv_goto (tgt := 166) hx hb d_Mo_layGrid_197 (by decide) ?_
        exact ih _ _ _ _ _ _ _ hm KE H locs ls hP hD hS (lv_sub hl [1, 0] rfl)
  obtain ⟨f51, f52, f53, hb63, hm⟩ := bd3_e hm
  refine L166_54 fu _ _ _ _ _ _ _ hb63 (fun H locs ls hP hD hS hl => ?_) H locs ls hP hD hS (lv_sub hl [1, 0] rfl)
  refine lv_iconst (v := 0) hx hb d_Mo_layGrid_200 (by decide) ?_
  refine lv_istore_n (lv' := [(1, .int 0), (0, .ref a_0)]) hx hb d_Mo_layGrid_201 rfl hl (by decide) rfl (fun ls hl => ?_)
  have L202_69 : ∀ (n : Nat) (x64 : Int32) (f65 : Nat → Int32) (f66 : Nat → Int32) (f67 : Nat → Int32) (f68 : Nat → Int32), m_Mo_layGrid_L202 v_0_lines f_0_isFlat f_0_across f_0_lows f_0_highs f8 f9 n x64 f65 f66 = some (f67, f68) → (∀ (H : Heap) (locs : List Loc) (ls : Array Slot), va_P (dC, dI) vwCl (wl_Mo_layGrid a_0 a_0_isFlat a_0_across a_0_lows a_0_highs a_0_xs a_0_ys a_0_flatEdges a_0_upEdges a_0_isPoint b_0_thick b_0_doorCounts b_0_doorFrom b_0_doorTo b_0_labels b_0_oldXs b_0_oldYs b_0_oldLabels b_0_names b_0_oldNames b_0_wanted b_0_common b_0_stack b_0_pieceLines b_0_pieceBegins b_0_pieceEnds b_0_pieceLeft b_0_pieceRight b_0_outs b_0_isSeen b_0_ringSpaces b_0_ringStarts b_0_ringSizes b_0_ringLeast b_0_looseLines b_0_looseXs b_0_looseYs b_0_looseReaches b_0_far cZ cI v_0_code v_0_lines v_0_isFresh v_0_hasRun v_0_runs x6 x7 v_0_spaces v_0_oldNx v_0_oldNy v_0_oldSpaces v_0_points v_0_pieces v_0_rings v_0_outsideSides v_0_looseCount f_0_isFlat f_0_across f_0_lows f_0_highs f8 f9 f67 f68 f53) H → va_D A (wl_Mo_layGrid a_0 a_0_isFlat a_0_across a_0_lows a_0_highs a_0_xs a_0_ys a_0_flatEdges a_0_upEdges a_0_isPoint b_0_thick b_0_doorCounts b_0_doorFrom b_0_doorTo b_0_labels b_0_oldXs b_0_oldYs b_0_oldLabels b_0_names b_0_oldNames b_0_wanted b_0_common b_0_stack b_0_pieceLines b_0_pieceBegins b_0_pieceEnds b_0_pieceLeft b_0_pieceRight b_0_outs b_0_isSeen b_0_ringSpaces b_0_ringStarts b_0_ringSizes b_0_ringLeast b_0_looseLines b_0_looseXs b_0_looseYs b_0_looseReaches b_0_far cZ cI v_0_code v_0_lines v_0_isFresh v_0_hasRun v_0_runs x6 x7 v_0_spaces v_0_oldNx v_0_oldNy v_0_oldSpaces v_0_points v_0_pieces v_0_rings v_0_outsideSides v_0_looseCount f_0_isFlat f_0_across f_0_lows f_0_highs f8 f9 f67 f68 f53) → va_S A s.heap H locs → lv_has ls 6 [(0, .ref a_0)] → W p l e rm_Mo_layGrid s m args below meth c H locs 0 0 Q (F0 m 388 ls [])) → ∀ (H : Heap) (locs : List Loc) (ls : Array Slot), va_P (dC, dI) vwCl (wl_Mo_layGrid a_0 a_0_isFlat a_0_across a_0_lows a_0_highs a_0_xs a_0_ys a_0_flatEdges a_0_upEdges a_0_isPoint b_0_thick b_0_doorCounts b_0_doorFrom b_0_doorTo b_0_labels b_0_oldXs b_0_oldYs b_0_oldLabels b_0_names b_0_oldNames b_0_wanted b_0_common b_0_stack b_0_pieceLines b_0_pieceBegins b_0_pieceEnds b_0_pieceLeft b_0_pieceRight b_0_outs b_0_isSeen b_0_ringSpaces b_0_ringStarts b_0_ringSizes b_0_ringLeast b_0_looseLines b_0_looseXs b_0_looseYs b_0_looseReaches b_0_far cZ cI v_0_code v_0_lines v_0_isFresh v_0_hasRun v_0_runs x6 x7 v_0_spaces v_0_oldNx v_0_oldNy v_0_oldSpaces v_0_points v_0_pieces v_0_rings v_0_outsideSides v_0_looseCount f_0_isFlat f_0_across f_0_lows f_0_highs f8 f9 f65 f66 f53) H → va_D A (wl_Mo_layGrid a_0 a_0_isFlat a_0_across a_0_lows a_0_highs a_0_xs a_0_ys a_0_flatEdges a_0_upEdges a_0_isPoint b_0_thick b_0_doorCounts b_0_doorFrom b_0_doorTo b_0_labels b_0_oldXs b_0_oldYs b_0_oldLabels b_0_names b_0_oldNames b_0_wanted b_0_common b_0_stack b_0_pieceLines b_0_pieceBegins b_0_pieceEnds b_0_pieceLeft b_0_pieceRight b_0_outs b_0_isSeen b_0_ringSpaces b_0_ringStarts b_0_ringSizes b_0_ringLeast b_0_looseLines b_0_looseXs b_0_looseYs b_0_looseReaches b_0_far cZ cI v_0_code v_0_lines v_0_isFresh v_0_hasRun v_0_runs x6 x7 v_0_spaces v_0_oldNx v_0_oldNy v_0_oldSpaces v_0_points v_0_pieces v_0_rings v_0_outsideSides v_0_looseCount f_0_isFlat f_0_across f_0_lows f_0_highs f8 f9 f65 f66 f53) → va_S A s.heap H locs → lv_has ls 6 [(0, .ref a_0), (1, .int x64)] → W p l e rm_Mo_layGrid s m args below meth c H locs 0 0 Q (F0 m 202 ls []) := by
    intro n
    induction n with
    | zero => intro x64 f65 f66 f67 f68 hm; simp [m_Mo_layGrid_L202] at hm
    | succ n ih =>
      intro x64 f65 f66 f67 f68 hm KE H locs ls hP hD hS hl
      rw [m_Mo_layGrid_L202] at hm
      refine lv_iload_n hx hb d_Mo_layGrid_202 rfl (lv_at hl 1 rfl) ?_
      refine lv_aload_n hx hb d_Mo_layGrid_203 rfl (lv_at hl 0 rfl) ?_
      refine va_get (D := (dC, dI)) (ci := 11) (v := .int v_0_lines) (C := "SpaceCyclesModel") (T := F_Mo) (N := 54) hx hb hts (in_F i_Mo) hown hK hP 0 rfl rfl 6 (by decide) (hts _ (in_c k_274)) (fun _ h9 => h9) rfl d_Mo_layGrid_204 ?_
      refine lv_icmp_ge (tgt := 388) hx hb d_Mo_layGrid_207 (by decide) (fun c70 => ?_) (fun c70 => ?_)
      · replace hm := if_t hm c70
        cases hm
        exact KE H locs ls hP hD hS (lv_sub hl [0] rfl)
      · replace hm := if_f hm c70
        refine lv_aload_n hx hb d_Mo_layGrid_210 rfl (lv_at hl 0 rfl) ?_
        refine va_get (D := (dC, dI)) (ci := 11) (v := .ref a_0_isFlat) (C := "SpaceCyclesModel") (T := F_Mo) (N := 54) hx hb hts (in_F i_Mo) hown hK hP 0 rfl rfl 1 (by decide) (hts _ (in_c k_279)) (fun _ h9 => h9) rfl d_Mo_layGrid_211 ?_
        refine lv_iload_n hx hb d_Mo_layGrid_214 rfl (lv_at hl 1 rfl) ?_
        obtain ⟨hi71, hm⟩ := gI_e hm
        refine va_zald hx hb hK hP 1 1 rfl rfl hi71 d_Mo_layGrid_215 ?_
        obtain ⟨x75, hb73, hm⟩ := bd1_e hm
        have K72 : ∀ (H : Heap) (locs : List Loc) (ls : Array Slot), va_P (dC, dI) vwCl (wl_Mo_layGrid a_0 a_0_isFlat a_0_across a_0_lows a_0_highs a_0_xs a_0_ys a_0_flatEdges a_0_upEdges a_0_isPoint b_0_thick b_0_doorCounts b_0_doorFrom b_0_doorTo b_0_labels b_0_oldXs b_0_oldYs b_0_oldLabels b_0_names b_0_oldNames b_0_wanted b_0_common b_0_stack b_0_pieceLines b_0_pieceBegins b_0_pieceEnds b_0_pieceLeft b_0_pieceRight b_0_outs b_0_isSeen b_0_ringSpaces b_0_ringStarts b_0_ringSizes b_0_ringLeast b_0_looseLines b_0_looseXs b_0_looseYs b_0_looseReaches b_0_far cZ cI v_0_code v_0_lines v_0_isFresh v_0_hasRun v_0_runs x6 x7 v_0_spaces v_0_oldNx v_0_oldNy v_0_oldSpaces v_0_points v_0_pieces v_0_rings v_0_outsideSides v_0_looseCount f_0_isFlat f_0_across f_0_lows f_0_highs f8 f9 f65 f66 f53) H → va_D A (wl_Mo_layGrid a_0 a_0_isFlat a_0_across a_0_lows a_0_highs a_0_xs a_0_ys a_0_flatEdges a_0_upEdges a_0_isPoint b_0_thick b_0_doorCounts b_0_doorFrom b_0_doorTo b_0_labels b_0_oldXs b_0_oldYs b_0_oldLabels b_0_names b_0_oldNames b_0_wanted b_0_common b_0_stack b_0_pieceLines b_0_pieceBegins b_0_pieceEnds b_0_pieceLeft b_0_pieceRight b_0_outs b_0_isSeen b_0_ringSpaces b_0_ringStarts b_0_ringSizes b_0_ringLeast b_0_looseLines b_0_looseXs b_0_looseYs b_0_looseReaches b_0_far cZ cI v_0_code v_0_lines v_0_isFresh v_0_hasRun v_0_runs x6 x7 v_0_spaces v_0_oldNx v_0_oldNy v_0_oldSpaces v_0_points v_0_pieces v_0_rings v_0_outsideSides v_0_looseCount f_0_isFlat f_0_across f_0_lows f_0_highs f8 f9 f65 f66 f53) → va_S A s.heap H locs → lv_has ls 6 [(0, .ref a_0), (1, .int x64)] → W p l e rm_Mo_layGrid s m args below meth c H locs 0 0 Q (F0 m 248 ls [.int x75]) := by
          intro H locs ls hP hD hS hl
          refine lv_istore_n (lv' := [(2, .int x75), (0, .ref a_0), (1, .int x64)]) hx hb d_Mo_layGrid_248 rfl hl (by decide) rfl (fun ls hl => ?_)
          refine lv_aload_n hx hb d_Mo_layGrid_249 rfl (lv_at hl 1 rfl) ?_
          refine va_get (D := (dC, dI)) (ci := 11) (v := .ref a_0_isFlat) (C := "SpaceCyclesModel") (T := F_Mo) (N := 54) hx hb hts (in_F i_Mo) hown hK hP 0 rfl rfl 1 (by decide) (hts _ (in_c k_279)) (fun _ h9 => h9) rfl d_Mo_layGrid_250 ?_
          refine lv_iload_n hx hb d_Mo_layGrid_253 rfl (lv_at hl 2 rfl) ?_
          obtain ⟨hi83, hm⟩ := gI_e hm
          refine va_zald hx hb hK hP 1 1 rfl rfl hi83 d_Mo_layGrid_254 ?_
          obtain ⟨x87, hb85, hm⟩ := bd1_e hm
          have K84 : ∀ (H : Heap) (locs : List Loc) (ls : Array Slot), va_P (dC, dI) vwCl (wl_Mo_layGrid a_0 a_0_isFlat a_0_across a_0_lows a_0_highs a_0_xs a_0_ys a_0_flatEdges a_0_upEdges a_0_isPoint b_0_thick b_0_doorCounts b_0_doorFrom b_0_doorTo b_0_labels b_0_oldXs b_0_oldYs b_0_oldLabels b_0_names b_0_oldNames b_0_wanted b_0_common b_0_stack b_0_pieceLines b_0_pieceBegins b_0_pieceEnds b_0_pieceLeft b_0_pieceRight b_0_outs b_0_isSeen b_0_ringSpaces b_0_ringStarts b_0_ringSizes b_0_ringLeast b_0_looseLines b_0_looseXs b_0_looseYs b_0_looseReaches b_0_far cZ cI v_0_code v_0_lines v_0_isFresh v_0_hasRun v_0_runs x6 x7 v_0_spaces v_0_oldNx v_0_oldNy v_0_oldSpaces v_0_points v_0_pieces v_0_rings v_0_outsideSides v_0_looseCount f_0_isFlat f_0_across f_0_lows f_0_highs f8 f9 f65 f66 f53) H → va_D A (wl_Mo_layGrid a_0 a_0_isFlat a_0_across a_0_lows a_0_highs a_0_xs a_0_ys a_0_flatEdges a_0_upEdges a_0_isPoint b_0_thick b_0_doorCounts b_0_doorFrom b_0_doorTo b_0_labels b_0_oldXs b_0_oldYs b_0_oldLabels b_0_names b_0_oldNames b_0_wanted b_0_common b_0_stack b_0_pieceLines b_0_pieceBegins b_0_pieceEnds b_0_pieceLeft b_0_pieceRight b_0_outs b_0_isSeen b_0_ringSpaces b_0_ringStarts b_0_ringSizes b_0_ringLeast b_0_looseLines b_0_looseXs b_0_looseYs b_0_looseReaches b_0_far cZ cI v_0_code v_0_lines v_0_isFresh v_0_hasRun v_0_runs x6 x7 v_0_spaces v_0_oldNx v_0_oldNy v_0_oldSpaces v_0_points v_0_pieces v_0_rings v_0_outsideSides v_0_looseCount f_0_isFlat f_0_across f_0_lows f_0_highs f8 f9 f65 f66 f53) → va_S A s.heap H locs → lv_has ls 6 [(0, .ref a_0), (1, .int x64), (2, .int x75)] → W p l e rm_Mo_layGrid s m args below meth c H locs 0 0 Q (F0 m 287 ls [.int x87]) := by
            intro H locs ls hP hD hS hl
            refine lv_istore_n (lv' := [(3, .int x87), (0, .ref a_0), (1, .int x64), (2, .int x75)]) hx hb d_Mo_layGrid_287 rfl hl (by decide) rfl (fun ls hl => ?_)
            refine lv_aload_n hx hb d_Mo_layGrid_288 rfl (lv_at hl 1 rfl) ?_
            refine va_get (D := (dC, dI)) (ci := 11) (v := .ref a_0_isFlat) (C := "SpaceCyclesModel") (T := F_Mo) (N := 54) hx hb hts (in_F i_Mo) hown hK hP 0 rfl rfl 1 (by decide) (hts _ (in_c k_279)) (fun _ h9 => h9) rfl d_Mo_layGrid_289 ?_
            refine lv_iload_n hx hb d_Mo_layGrid_292 rfl (lv_at hl 2 rfl) ?_
            obtain ⟨hi95, hm⟩ := gI_e hm
            refine va_zald hx hb hK hP 1 1 rfl rfl hi95 d_Mo_layGrid_293 ?_
            obtain ⟨x99, hb97, hm⟩ := bd1_e hm
            have K96 : ∀ (H : Heap) (locs : List Loc) (ls : Array Slot), va_P (dC, dI) vwCl (wl_Mo_layGrid a_0 a_0_isFlat a_0_across a_0_lows a_0_highs a_0_xs a_0_ys a_0_flatEdges a_0_upEdges a_0_isPoint b_0_thick b_0_doorCounts b_0_doorFrom b_0_doorTo b_0_labels b_0_oldXs b_0_oldYs b_0_oldLabels b_0_names b_0_oldNames b_0_wanted b_0_common b_0_stack b_0_pieceLines b_0_pieceBegins b_0_pieceEnds b_0_pieceLeft b_0_pieceRight b_0_outs b_0_isSeen b_0_ringSpaces b_0_ringStarts b_0_ringSizes b_0_ringLeast b_0_looseLines b_0_looseXs b_0_looseYs b_0_looseReaches b_0_far cZ cI v_0_code v_0_lines v_0_isFresh v_0_hasRun v_0_runs x6 x7 v_0_spaces v_0_oldNx v_0_oldNy v_0_oldSpaces v_0_points v_0_pieces v_0_rings v_0_outsideSides v_0_looseCount f_0_isFlat f_0_across f_0_lows f_0_highs f8 f9 f65 f66 f53) H → va_D A (wl_Mo_layGrid a_0 a_0_isFlat a_0_across a_0_lows a_0_highs a_0_xs a_0_ys a_0_flatEdges a_0_upEdges a_0_isPoint b_0_thick b_0_doorCounts b_0_doorFrom b_0_doorTo b_0_labels b_0_oldXs b_0_oldYs b_0_oldLabels b_0_names b_0_oldNames b_0_wanted b_0_common b_0_stack b_0_pieceLines b_0_pieceBegins b_0_pieceEnds b_0_pieceLeft b_0_pieceRight b_0_outs b_0_isSeen b_0_ringSpaces b_0_ringStarts b_0_ringSizes b_0_ringLeast b_0_looseLines b_0_looseXs b_0_looseYs b_0_looseReaches b_0_far cZ cI v_0_code v_0_lines v_0_isFresh v_0_hasRun v_0_runs x6 x7 v_0_spaces v_0_oldNx v_0_oldNy v_0_oldSpaces v_0_points v_0_pieces v_0_rings v_0_outsideSides v_0_looseCount f_0_isFlat f_0_across f_0_lows f_0_highs f8 f9 f65 f66 f53) → va_S A s.heap H locs → lv_has ls 6 [(0, .ref a_0), (1, .int x64), (2, .int x75), (3, .int x87)] → W p l e rm_Mo_layGrid s m args below meth c H locs 0 0 Q (F0 m 326 ls [.int x99]) := by
              intro H locs ls hP hD hS hl
              refine lv_istore (lv' := [(4, .int x99), (0, .ref a_0), (1, .int x64), (2, .int x75), (3, .int x87)]) hx hb d_Mo_layGrid_326 hl (by decide) rfl (fun ls hl => ?_)
              refine lv_iload_n hx hb d_Mo_layGrid_328 rfl (lv_at hl 4 rfl) ?_
              refine lv_istore (lv' := [(5, .int x87), (4, .int x99), (0, .ref a_0), (1, .int x64), (2, .int x75), (3, .int x87)]) hx hb d_Mo_layGrid_329 hl (by decide) rfl (fun ls hl => ?_)
              have L331_112 : ∀ (n : Nat) (x107 : Int32) (f108 : Nat → Int32) (f109 : Nat → Int32) (f110 : Nat → Int32) (f111 : Nat → Int32), m_Mo_layGrid_L331 x64 x75 x99 f_0_isFlat n x107 f108 f109 = some (f110, f111) → (∀ (H : Heap) (locs : List Loc) (ls : Array Slot), va_P (dC, dI) vwCl (wl_Mo_layGrid a_0 a_0_isFlat a_0_across a_0_lows a_0_highs a_0_xs a_0_ys a_0_flatEdges a_0_upEdges a_0_isPoint b_0_thick b_0_doorCounts b_0_doorFrom b_0_doorTo b_0_labels b_0_oldXs b_0_oldYs b_0_oldLabels b_0_names b_0_oldNames b_0_wanted b_0_common b_0_stack b_0_pieceLines b_0_pieceBegins b_0_pieceEnds b_0_pieceLeft b_0_pieceRight b_0_outs b_0_isSeen b_0_ringSpaces b_0_ringStarts b_0_ringSizes b_0_ringLeast b_0_looseLines b_0_looseXs b_0_looseYs b_0_looseReaches b_0_far cZ cI v_0_code v_0_lines v_0_isFresh v_0_hasRun v_0_runs x6 x7 v_0_spaces v_0_oldNx v_0_oldNy v_0_oldSpaces v_0_points v_0_pieces v_0_rings v_0_outsideSides v_0_looseCount f_0_isFlat f_0_across f_0_lows f_0_highs f8 f9 f110 f111 f53) H → va_D A (wl_Mo_layGrid a_0 a_0_isFlat a_0_across a_0_lows a_0_highs a_0_xs a_0_ys a_0_flatEdges a_0_upEdges a_0_isPoint b_0_thick b_0_doorCounts b_0_doorFrom b_0_doorTo b_0_labels b_0_oldXs b_0_oldYs b_0_oldLabels b_0_names b_0_oldNames b_0_wanted b_0_common b_0_stack b_0_pieceLines b_0_pieceBegins b_0_pieceEnds b_0_pieceLeft b_0_pieceRight b_0_outs b_0_isSeen b_0_ringSpaces b_0_ringStarts b_0_ringSizes b_0_ringLeast b_0_looseLines b_0_looseXs b_0_looseYs b_0_looseReaches b_0_far cZ cI v_0_code v_0_lines v_0_isFresh v_0_hasRun v_0_runs x6 x7 v_0_spaces v_0_oldNx v_0_oldNy v_0_oldSpaces v_0_points v_0_pieces v_0_rings v_0_outsideSides v_0_looseCount f_0_isFlat f_0_across f_0_lows f_0_highs f8 f9 f110 f111 f53) → va_S A s.heap H locs → lv_has ls 6 [(0, .ref a_0), (1, .int x64)] → W p l e rm_Mo_layGrid s m args below meth c H locs 0 0 Q (F0 m 382 ls [])) → ∀ (H : Heap) (locs : List Loc) (ls : Array Slot), va_P (dC, dI) vwCl (wl_Mo_layGrid a_0 a_0_isFlat a_0_across a_0_lows a_0_highs a_0_xs a_0_ys a_0_flatEdges a_0_upEdges a_0_isPoint b_0_thick b_0_doorCounts b_0_doorFrom b_0_doorTo b_0_labels b_0_oldXs b_0_oldYs b_0_oldLabels b_0_names b_0_oldNames b_0_wanted b_0_common b_0_stack b_0_pieceLines b_0_pieceBegins b_0_pieceEnds b_0_pieceLeft b_0_pieceRight b_0_outs b_0_isSeen b_0_ringSpaces b_0_ringStarts b_0_ringSizes b_0_ringLeast b_0_looseLines b_0_looseXs b_0_looseYs b_0_looseReaches b_0_far cZ cI v_0_code v_0_lines v_0_isFresh v_0_hasRun v_0_runs x6 x7 v_0_spaces v_0_oldNx v_0_oldNy v_0_oldSpaces v_0_points v_0_pieces v_0_rings v_0_outsideSides v_0_looseCount f_0_isFlat f_0_across f_0_lows f_0_highs f8 f9 f108 f109 f53) H → va_D A (wl_Mo_layGrid a_0 a_0_isFlat a_0_across a_0_lows a_0_highs a_0_xs a_0_ys a_0_flatEdges a_0_upEdges a_0_isPoint b_0_thick b_0_doorCounts b_0_doorFrom b_0_doorTo b_0_labels b_0_oldXs b_0_oldYs b_0_oldLabels b_0_names b_0_oldNames b_0_wanted b_0_common b_0_stack b_0_pieceLines b_0_pieceBegins b_0_pieceEnds b_0_pieceLeft b_0_pieceRight b_0_outs b_0_isSeen b_0_ringSpaces b_0_ringStarts b_0_ringSizes b_0_ringLeast b_0_looseLines b_0_looseXs b_0_looseYs b_0_looseReaches b_0_far cZ cI v_0_code v_0_lines v_0_isFresh v_0_hasRun v_0_runs x6 x7 v_0_spaces v_0_oldNx v_0_oldNy v_0_oldSpaces v_0_points v_0_pieces v_0_rings v_0_outsideSides v_0_looseCount f_0_isFlat f_0_across f_0_lows f_0_highs f8 f9 f108 f109 f53) → va_S A s.heap H locs → lv_has ls 6 [(0, .ref a_0), (1, .int x64), (2, .int x75), (4, .int x99), (5, .int x107)] → W p l e rm_Mo_layGrid s m args below meth c H locs 0 0 Q (F0 m 331 ls []) := by
                intro n
                induction n with
                | zero => intro x107 f108 f109 f110 f111 hm; simp [m_Mo_layGrid_L331] at hm
                | succ n ih =>
                  intro x107 f108 f109 f110 f111 hm KE H locs ls hP hD hS hl
                  rw [m_Mo_layGrid_L331] at hm
                  refine lv_iload hx hb d_Mo_layGrid_331 (lv_at hl 4 rfl) ?_
                  refine lv_iload hx hb d_Mo_layGrid_333 (lv_at hl 3 rfl) ?_
                  refine lv_icmp_ge (tgt := 382) hx hb d_Mo_layGrid_335 (by decide) (fun c113 => ?_) (fun c113 => ?_)
                  · replace hm := if_t hm c113
                    cases hm
                    exact KE H locs ls hP hD hS (lv_sub hl [0, 1] rfl)
                  · replace hm := if_f hm c113
                    refine lv_aload_n hx hb d_Mo_layGrid_338 rfl (lv_at hl 0 rfl) ?_
                    refine va_get (D := (dC, dI)) (ci := 11) (v := .ref a_0_isFlat) (C := "SpaceCyclesModel") (T := F_Mo) (N := 54) hx hb hts (in_F i_Mo) hown hK hP 0 rfl rfl 1 (by decide) (hts _ (in_c k_279)) (fun _ h9 => h9) rfl d_Mo_layGrid_339 ?_
                    refine lv_iload_n hx hb d_Mo_layGrid_342 rfl (lv_at hl 1 rfl) ?_
                    obtain ⟨hi114, hm⟩ := gI_e hm
                    refine va_zald hx hb hK hP 1 1 rfl rfl hi114 d_Mo_layGrid_343 ?_
                    obtain ⟨f118, f119, hb116, hm⟩ := bd2_e hm
                    have K115 : ∀ (H : Heap) (locs : List Loc) (ls : Array Slot), va_P (dC, dI) vwCl (wl_Mo_layGrid a_0 a_0_isFlat a_0_across a_0_lows a_0_highs a_0_xs a_0_ys a_0_flatEdges a_0_upEdges a_0_isPoint b_0_thick b_0_doorCounts b_0_doorFrom b_0_doorTo b_0_labels b_0_oldXs b_0_oldYs b_0_oldLabels b_0_names b_0_oldNames b_0_wanted b_0_common b_0_stack b_0_pieceLines b_0_pieceBegins b_0_pieceEnds b_0_pieceLeft b_0_pieceRight b_0_outs b_0_isSeen b_0_ringSpaces b_0_ringStarts b_0_ringSizes b_0_ringLeast b_0_looseLines b_0_looseXs b_0_looseYs b_0_looseReaches b_0_far cZ cI v_0_code v_0_lines v_0_isFresh v_0_hasRun v_0_runs x6 x7 v_0_spaces v_0_oldNx v_0_oldNy v_0_oldSpaces v_0_points v_0_pieces v_0_rings v_0_outsideSides v_0_looseCount f_0_isFlat f_0_across f_0_lows f_0_highs f8 f9 f118 f119 f53) H → va_D A (wl_Mo_layGrid a_0 a_0_isFlat a_0_across a_0_lows a_0_highs a_0_xs a_0_ys a_0_flatEdges a_0_upEdges a_0_isPoint b_0_thick b_0_doorCounts b_0_doorFrom b_0_doorTo b_0_labels b_0_oldXs b_0_oldYs b_0_oldLabels b_0_names b_0_oldNames b_0_wanted b_0_common b_0_stack b_0_pieceLines b_0_pieceBegins b_0_pieceEnds b_0_pieceLeft b_0_pieceRight b_0_outs b_0_isSeen b_0_ringSpaces b_0_ringStarts b_0_ringSizes b_0_ringLeast b_0_looseLines b_0_looseXs b_0_looseYs b_0_looseReaches b_0_far cZ cI v_0_code v_0_lines v_0_isFresh v_0_hasRun v_0_runs x6 x7 v_0_spaces v_0_oldNx v_0_oldNy v_0_oldSpaces v_0_points v_0_pieces v_0_rings v_0_outsideSides v_0_looseCount f_0_isFlat f_0_across f_0_lows f_0_highs f8 f9 f118 f119 f53) → va_S A s.heap H locs → lv_has ls 6 [(0, .ref a_0), (1, .int x64), (2, .int x75), (4, .int x99), (5, .int x107)] → W p l e rm_Mo_layGrid s m args below meth c H locs 0 0 Q (F0 m 376 ls []) := by
                      intro H locs ls hP hD hS hl
                      obtain ⟨x125, ex125⟩ : ∃ y : Int32, y = x107 + 1 := ⟨_, rfl⟩
                      replace hm := lt_el hm ex125
                      refine lv_iinc (v := x125) (lv' := [(5, .int x125), (0, .ref a_0), (1, .int x64), (2, .int x75), (4, .int x99)]) hx hb d_Mo_layGrid_376 hl (k := 4) rfl (by rw [ex125]; rfl) (by decide) rfl (fun ls hl => ?_)
                      refine lv_goto (tgt := 331) hx hb d_Mo_layGrid_379 (by decide) ?_
                      exact ih _ _ _ _ _ hm KE H locs ls hP hD hS (lv_sub hl [1, 2, 3, 4, 0] rfl)
                    replace hm := hb116
                    refine lv_if_eq (tgt := 363) hx hb d_Mo_layGrid_344 (by decide) (fun c120 => ?_) (fun c120 => ?_)
                    · replace hm := if_t hm c120
                      refine lv_aload_n hx hb d_Mo_layGrid_363 rfl (lv_at hl 0 rfl) ?_
                      refine va_get (D := (dC, dI)) (ci := 11) (v := .ref a_0_upEdges) (C := "SpaceCyclesModel") (T := F_Mo) (N := 54) hx hb hts (in_F i_Mo) hown hK hP 0 rfl rfl 30 (by decide) (hts _ (in_c k_308)) (fun _ h9 => h9) rfl d_Mo_layGrid_364 ?_
                      refine lv_bipush (v := 42) hx hb d_Mo_layGrid_367 (by decide) ?_
                      refine lv_iload_n hx hb d_Mo_layGrid_369 rfl (lv_at hl 2 rfl) ?_
                      refine lv_imul hx hb d_Mo_layGrid_370 ?_
                      refine lv_iload hx hb d_Mo_layGrid_371 (lv_at hl 4 rfl) ?_
                      refine lv_iadd hx hb d_Mo_layGrid_373 ?_
                      refine lv_iload_n hx hb d_Mo_layGrid_374 rfl (lv_at hl 1 rfl) ?_
                      obtain ⟨hi121, hm⟩ := gI_e hm
                      obtain ⟨f122, ef122⟩ : ∃ y : Nat → Int32, y = upd f109 ((42 * x75) + x107).toNatClampNeg x64 := ⟨_, rfl⟩
                      replace hm := lt_el hm ef122
                      refine va_iast hx hb hK hP hD hS 8 0 rfl rfl hi121 d_Mo_layGrid_375 (fun H locs hP hD hS => ?_)
                      rw [← ef122] at hP hD
                      have hP : va_P (dC, dI) vwCl (wl_Mo_layGrid a_0 a_0_isFlat a_0_across a_0_lows a_0_highs a_0_xs a_0_ys a_0_flatEdges a_0_upEdges a_0_isPoint b_0_thick b_0_doorCounts b_0_doorFrom b_0_doorTo b_0_labels b_0_oldXs b_0_oldYs b_0_oldLabels b_0_names b_0_oldNames b_0_wanted b_0_common b_0_stack b_0_pieceLines b_0_pieceBegins b_0_pieceEnds b_0_pieceLeft b_0_pieceRight b_0_outs b_0_isSeen b_0_ringSpaces b_0_ringStarts b_0_ringSizes b_0_ringLeast b_0_looseLines b_0_looseXs b_0_looseYs b_0_looseReaches b_0_far cZ cI v_0_code v_0_lines v_0_isFresh v_0_hasRun v_0_runs x6 x7 v_0_spaces v_0_oldNx v_0_oldNy v_0_oldSpaces v_0_points v_0_pieces v_0_rings v_0_outsideSides v_0_looseCount f_0_isFlat f_0_across f_0_lows f_0_highs f8 f9 f108 f122 f53) H := hP
                      have hD : va_D A (wl_Mo_layGrid a_0 a_0_isFlat a_0_across a_0_lows a_0_highs a_0_xs a_0_ys a_0_flatEdges a_0_upEdges a_0_isPoint b_0_thick b_0_doorCounts b_0_doorFrom b_0_doorTo b_0_labels b_0_oldXs b_0_oldYs b_0_oldLabels b_0_names b_0_oldNames b_0_wanted b_0_common b_0_stack b_0_pieceLines b_0_pieceBegins b_0_pieceEnds b_0_pieceLeft b_0_pieceRight b_0_outs b_0_isSeen b_0_ringSpaces b_0_ringStarts b_0_ringSizes b_0_ringLeast b_0_looseLines b_0_looseXs b_0_looseYs b_0_looseReaches b_0_far cZ cI v_0_code v_0_lines v_0_isFresh v_0_hasRun v_0_runs x6 x7 v_0_spaces v_0_oldNx v_0_oldNy v_0_oldSpaces v_0_points v_0_pieces v_0_rings v_0_outsideSides v_0_looseCount f_0_isFlat f_0_across f_0_lows f_0_highs f8 f9 f108 f122 f53) := hD
                      cases hm
                      exact K115 H locs ls hP hD hS (lv_sub hl [0, 1, 2, 3, 4] rfl)
                    · replace hm := if_f hm c120
                      refine lv_aload_n hx hb d_Mo_layGrid_347 rfl (lv_at hl 0 rfl) ?_
                      refine va_get (D := (dC, dI)) (ci := 11) (v := .ref a_0_flatEdges) (C := "SpaceCyclesModel") (T := F_Mo) (N := 54) hx hb hts (in_F i_Mo) hown hK hP 0 rfl rfl 29 (by decide) (hts _ (in_c k_307)) (fun _ h9 => h9) rfl d_Mo_layGrid_348 ?_
                      refine lv_bipush (v := 42) hx hb d_Mo_layGrid_351 (by decide) ?_
                      refine lv_iload hx hb d_Mo_layGrid_353 (lv_at hl 4 rfl) ?_
                      refine lv_imul hx hb d_Mo_layGrid_355 ?_
                      refine lv_iload_n hx hb d_Mo_layGrid_356 rfl (lv_at hl 2 rfl) ?_
                      refine lv_iadd hx hb d_Mo_layGrid_357 ?_
                      refine lv_iload_n hx hb d_Mo_layGrid_358 rfl (lv_at hl 1 rfl) ?_
                      obtain ⟨hi123, hm⟩ := gI_e hm
                      obtain ⟨f124, ef124⟩ : ∃ y : Nat → Int32, y = upd f108 ((42 * x107) + x75).toNatClampNeg x64 := ⟨_, rfl⟩
                      replace hm := lt_el hm ef124
                      refine va_iast hx hb hK hP hD hS 7 0 rfl rfl hi123 d_Mo_layGrid_359 (fun H locs hP hD hS => ?_)
                      rw [← ef124] at hP hD
                      have hP : va_P (dC, dI) vwCl (wl_Mo_layGrid a_0 a_0_isFlat a_0_across a_0_lows a_0_highs a_0_xs a_0_ys a_0_flatEdges a_0_upEdges a_0_isPoint b_0_thick b_0_doorCounts b_0_doorFrom b_0_doorTo b_0_labels b_0_oldXs b_0_oldYs b_0_oldLabels b_0_names b_0_oldNames b_0_wanted b_0_common b_0_stack b_0_pieceLines b_0_pieceBegins b_0_pieceEnds b_0_pieceLeft b_0_pieceRight b_0_outs b_0_isSeen b_0_ringSpaces b_0_ringStarts b_0_ringSizes b_0_ringLeast b_0_looseLines b_0_looseXs b_0_looseYs b_0_looseReaches b_0_far cZ cI v_0_code v_0_lines v_0_isFresh v_0_hasRun v_0_runs x6 x7 v_0_spaces v_0_oldNx v_0_oldNy v_0_oldSpaces v_0_points v_0_pieces v_0_rings v_0_outsideSides v_0_looseCount f_0_isFlat f_0_across f_0_lows f_0_highs f8 f9 f124 f109 f53) H := hP
                      have hD : va_D A (wl_Mo_layGrid a_0 a_0_isFlat a_0_across a_0_lows a_0_highs a_0_xs a_0_ys a_0_flatEdges a_0_upEdges a_0_isPoint b_0_thick b_0_doorCounts b_0_doorFrom b_0_doorTo b_0_labels b_0_oldXs b_0_oldYs b_0_oldLabels b_0_names b_0_oldNames b_0_wanted b_0_common b_0_stack b_0_pieceLines b_0_pieceBegins b_0_pieceEnds b_0_pieceLeft b_0_pieceRight b_0_outs b_0_isSeen b_0_ringSpaces b_0_ringStarts b_0_ringSizes b_0_ringLeast b_0_looseLines b_0_looseXs b_0_looseYs b_0_looseReaches b_0_far cZ cI v_0_code v_0_lines v_0_isFresh v_0_hasRun v_0_runs x6 x7 v_0_spaces v_0_oldNx v_0_oldNy v_0_oldSpaces v_0_points v_0_pieces v_0_rings v_0_outsideSides v_0_looseCount f_0_isFlat f_0_across f_0_lows f_0_highs f8 f9 f124 f109 f53) := hD
                      refine lv_goto (tgt := 376) hx hb d_Mo_layGrid_360 (by decide) ?_
                      cases hm
                      exact K115 H locs ls hP hD hS (lv_sub hl [0, 1, 2, 3, 4] rfl)
              obtain ⟨f110, f111, hb126, hm⟩ := bd2_e hm
              refine L331_112 fu _ _ _ _ _ hb126 (fun H locs ls hP hD hS hl => ?_) H locs ls hP hD hS (lv_sub hl [2, 3, 4, 1, 0] rfl)
              obtain ⟨x127, ex127⟩ : ∃ y : Int32, y = x64 + 1 := ⟨_, rfl⟩
              replace hm := lt_el hm ex127
              refine lv_iinc (v := x127) (lv' := [(1, .int x127), (0, .ref a_0)]) hx hb d_Mo_layGrid_382 hl (k := 1) rfl (by rw [ex127]; rfl) (by decide) rfl (fun ls hl => ?_)
              refine lv_goto (tgt := 202) hx hb d_Mo_layGrid_385 (by decide) ?_
              exact ih _ _ _ _ _ hm KE H locs ls hP hD hS (lv_sub hl [1, 0] rfl)
            replace hm := hb97
            refine lv_if_eq (tgt := 313) hx hb d_Mo_layGrid_294 (by decide) (fun c100 => ?_) (fun c100 => ?_)
            · replace hm := if_t hm c100
              refine lv_aload_n hx hb d_Mo_layGrid_313 rfl (lv_at hl 1 rfl) ?_
              refine va_get (D := (dC, dI)) (ci := 11) (v := .ref a_0_ys) (C := "SpaceCyclesModel") (T := F_Mo) (N := 54) hx hb hts (in_F i_Mo) hown hK hP 0 rfl rfl 14 (by decide) (hts _ (in_c k_306)) (fun _ h9 => h9) rfl d_Mo_layGrid_314 ?_
              refine lv_aload_n hx hb d_Mo_layGrid_317 rfl (lv_at hl 1 rfl) ?_
              refine va_get (D := (dC, dI)) (ci := 11) (v := .ref a_0_highs) (C := "SpaceCyclesModel") (T := F_Mo) (N := 54) hx hb hts (in_F i_Mo) hown hK hP 0 rfl rfl 4 (by decide) (hts _ (in_c k_282)) (fun _ h9 => h9) rfl d_Mo_layGrid_318 ?_
              refine lv_iload_n hx hb d_Mo_layGrid_321 rfl (lv_at hl 2 rfl) ?_
              obtain ⟨hi101, hm⟩ := gI_e hm
              refine va_iald hx hb hK hP 4 0 rfl rfl hi101 d_Mo_layGrid_322 ?_
              obtain ⟨r102, hb103, hm⟩ := bd1_e hm
              have hPc := hP.sub (ws' := (wl_Mo_find a_0_ys cI 42 f9)) [6] rfl
              have hDc := hD.sub (ws' := (wl_Mo_find a_0_ys cI 42 f9)) [6] (by decide) rfl
              refine cl_i (wc' := (wl_Mo_find a_0_ys cI 42 f9)) (va_runS (As := [.ref a_0_ys, .int (f_0_highs x64.toNatClampNeg)]) (rest := []) ⟨hx, hb, hml, hown, hts⟩ (c_Mo_find l dC dI (cI := cI) (cZ := cZ) (cJ := cJ) a_0_ys H.size 42 f9 (f_0_highs x64.toNatClampNeg) r102 hb103) (va_cwS 2 hts (gl_S k_312 k_311 k_277 k_310) rfl rfl rfl (by decide +kernel) ⟨Nat.le_of_ble_eq_true rfl, Nat.le_of_ble_eq_true rfl⟩) ⟨PP_blind, fun U hU hW => PP_at hK hN hPc hDc hU hW⟩ rfl rfl hl.1 rfl (lv_room (Nat.le_of_ble_eq_true rfl)) d_Mo_layGrid_323 ⟨Nat.zero_le _, Nat.zero_le _⟩) hP hD hS hA [6] [0, 1, 2, 3, 4, 5, 7, 8, 9] rfl rfl (by decide) (by decide) (fun H locs hP hD hS => ?_)
              have hP : va_P (dC, dI) vwCl (wl_Mo_layGrid a_0 a_0_isFlat a_0_across a_0_lows a_0_highs a_0_xs a_0_ys a_0_flatEdges a_0_upEdges a_0_isPoint b_0_thick b_0_doorCounts b_0_doorFrom b_0_doorTo b_0_labels b_0_oldXs b_0_oldYs b_0_oldLabels b_0_names b_0_oldNames b_0_wanted b_0_common b_0_stack b_0_pieceLines b_0_pieceBegins b_0_pieceEnds b_0_pieceLeft b_0_pieceRight b_0_outs b_0_isSeen b_0_ringSpaces b_0_ringStarts b_0_ringSizes b_0_ringLeast b_0_looseLines b_0_looseXs b_0_looseYs b_0_looseReaches b_0_far cZ cI v_0_code v_0_lines v_0_isFresh v_0_hasRun v_0_runs x6 x7 v_0_spaces v_0_oldNx v_0_oldNy v_0_oldSpaces v_0_points v_0_pieces v_0_rings v_0_outsideSides v_0_looseCount f_0_isFlat f_0_across f_0_lows f_0_highs f8 f9 f65 f66 f53) H := hP.sub [0, 1, 2, 3, 4, 5, 9, 6, 7, 8] rfl
              have hD : va_D A (wl_Mo_layGrid a_0 a_0_isFlat a_0_across a_0_lows a_0_highs a_0_xs a_0_ys a_0_flatEdges a_0_upEdges a_0_isPoint b_0_thick b_0_doorCounts b_0_doorFrom b_0_doorTo b_0_labels b_0_oldXs b_0_oldYs b_0_oldLabels b_0_names b_0_oldNames b_0_wanted b_0_common b_0_stack b_0_pieceLines b_0_pieceBegins b_0_pieceEnds b_0_pieceLeft b_0_pieceRight b_0_outs b_0_isSeen b_0_ringSpaces b_0_ringStarts b_0_ringSizes b_0_ringLeast b_0_looseLines b_0_looseXs b_0_looseYs b_0_looseReaches b_0_far cZ cI v_0_code v_0_lines v_0_isFresh v_0_hasRun v_0_runs x6 x7 v_0_spaces v_0_oldNx v_0_oldNy v_0_oldSpaces v_0_points v_0_pieces v_0_rings v_0_outsideSides v_0_looseCount f_0_isFlat f_0_across f_0_lows f_0_highs f8 f9 f65 f66 f53) := hD.sub [0, 1, 2, 3, 4, 5, 9, 6, 7, 8] (by decide) rfl
              cases hm
              exact K96 H locs ls hP hD hS (lv_sub hl [1, 2, 3, 0] rfl)
            · replace hm := if_f hm c100
              refine lv_aload_n hx hb d_Mo_layGrid_297 rfl (lv_at hl 1 rfl) ?_
              refine va_get (D := (dC, dI)) (ci := 11) (v := .ref a_0_xs) (C := "SpaceCyclesModel") (T := F_Mo) (N := 54) hx hb hts (in_F i_Mo) hown hK hP 0 rfl rfl 13 (by decide) (hts _ (in_c k_302)) (fun _ h9 => h9) rfl d_Mo_layGrid_298 ?_
              refine lv_aload_n hx hb d_Mo_layGrid_301 rfl (lv_at hl 1 rfl) ?_
              refine va_get (D := (dC, dI)) (ci := 11) (v := .ref a_0_highs) (C := "SpaceCyclesModel") (T := F_Mo) (N := 54) hx hb hts (in_F i_Mo) hown hK hP 0 rfl rfl 4 (by decide) (hts _ (in_c k_282)) (fun _ h9 => h9) rfl d_Mo_layGrid_302 ?_
              refine lv_iload_n hx hb d_Mo_layGrid_305 rfl (lv_at hl 2 rfl) ?_
              obtain ⟨hi104, hm⟩ := gI_e hm
              refine va_iald hx hb hK hP 4 0 rfl rfl hi104 d_Mo_layGrid_306 ?_
              obtain ⟨r105, hb106, hm⟩ := bd1_e hm
              have hPc := hP.sub (ws' := (wl_Mo_find a_0_xs cI 42 f8)) [5] rfl
              have hDc := hD.sub (ws' := (wl_Mo_find a_0_xs cI 42 f8)) [5] (by decide) rfl
              refine cl_i (wc' := (wl_Mo_find a_0_xs cI 42 f8)) (va_runS (As := [.ref a_0_xs, .int (f_0_highs x64.toNatClampNeg)]) (rest := []) ⟨hx, hb, hml, hown, hts⟩ (c_Mo_find l dC dI (cI := cI) (cZ := cZ) (cJ := cJ) a_0_xs H.size 42 f8 (f_0_highs x64.toNatClampNeg) r105 hb106) (va_cwS 2 hts (gl_S k_312 k_311 k_277 k_310) rfl rfl rfl (by decide +kernel) ⟨Nat.le_of_ble_eq_true rfl, Nat.le_of_ble_eq_true rfl⟩) ⟨PP_blind, fun U hU hW => PP_at hK hN hPc hDc hU hW⟩ rfl rfl hl.1 rfl (lv_room (Nat.le_of_ble_eq_true rfl)) d_Mo_layGrid_307 ⟨Nat.zero_le _, Nat.zero_le _⟩) hP hD hS hA [5] [0, 1, 2, 3, 4, 6, 7, 8, 9] rfl rfl (by decide) (by decide) (fun H locs hP hD hS => ?_)
              have hP : va_P (dC, dI) vwCl (wl_Mo_layGrid a_0 a_0_isFlat a_0_across a_0_lows a_0_highs a_0_xs a_0_ys a_0_flatEdges a_0_upEdges a_0_isPoint b_0_thick b_0_doorCounts b_0_doorFrom b_0_doorTo b_0_labels b_0_oldXs b_0_oldYs b_0_oldLabels b_0_names b_0_oldNames b_0_wanted b_0_common b_0_stack b_0_pieceLines b_0_pieceBegins b_0_pieceEnds b_0_pieceLeft b_0_pieceRight b_0_outs b_0_isSeen b_0_ringSpaces b_0_ringStarts b_0_ringSizes b_0_ringLeast b_0_looseLines b_0_looseXs b_0_looseYs b_0_looseReaches b_0_far cZ cI v_0_code v_0_lines v_0_isFresh v_0_hasRun v_0_runs x6 x7 v_0_spaces v_0_oldNx v_0_oldNy v_0_oldSpaces v_0_points v_0_pieces v_0_rings v_0_outsideSides v_0_looseCount f_0_isFlat f_0_across f_0_lows f_0_highs f8 f9 f65 f66 f53) H := hP.sub [0, 1, 2, 3, 4, 9, 5, 6, 7, 8] rfl
              have hD : va_D A (wl_Mo_layGrid a_0 a_0_isFlat a_0_across a_0_lows a_0_highs a_0_xs a_0_ys a_0_flatEdges a_0_upEdges a_0_isPoint b_0_thick b_0_doorCounts b_0_doorFrom b_0_doorTo b_0_labels b_0_oldXs b_0_oldYs b_0_oldLabels b_0_names b_0_oldNames b_0_wanted b_0_common b_0_stack b_0_pieceLines b_0_pieceBegins b_0_pieceEnds b_0_pieceLeft b_0_pieceRight b_0_outs b_0_isSeen b_0_ringSpaces b_0_ringStarts b_0_ringSizes b_0_ringLeast b_0_looseLines b_0_looseXs b_0_looseYs b_0_looseReaches b_0_far cZ cI v_0_code v_0_lines v_0_isFresh v_0_hasRun v_0_runs x6 x7 v_0_spaces v_0_oldNx v_0_oldNy v_0_oldSpaces v_0_points v_0_pieces v_0_rings v_0_outsideSides v_0_looseCount f_0_isFlat f_0_across f_0_lows f_0_highs f8 f9 f65 f66 f53) := hD.sub [0, 1, 2, 3, 4, 9, 5, 6, 7, 8] (by decide) rfl
              refine lv_goto (tgt := 326) hx hb d_Mo_layGrid_310 (by decide) ?_
              cases hm
              exact K96 H locs ls hP hD hS (lv_sub hl [1, 2, 3, 0] rfl)
          replace hm := hb85
          refine lv_if_eq (tgt := 274) hx hb d_Mo_layGrid_255 (by decide) (fun c88 => ?_) (fun c88 => ?_)
          · replace hm := if_t hm c88
            refine lv_aload_n hx hb d_Mo_layGrid_274 rfl (lv_at hl 1 rfl) ?_
            refine va_get (D := (dC, dI)) (ci := 11) (v := .ref a_0_ys) (C := "SpaceCyclesModel") (T := F_Mo) (N := 54) hx hb hts (in_F i_Mo) hown hK hP 0 rfl rfl 14 (by decide) (hts _ (in_c k_306)) (fun _ h9 => h9) rfl d_Mo_layGrid_275 ?_
            refine lv_aload_n hx hb d_Mo_layGrid_278 rfl (lv_at hl 1 rfl) ?_
            refine va_get (D := (dC, dI)) (ci := 11) (v := .ref a_0_lows) (C := "SpaceCyclesModel") (T := F_Mo) (N := 54) hx hb hts (in_F i_Mo) hown hK hP 0 rfl rfl 3 (by decide) (hts _ (in_c k_281)) (fun _ h9 => h9) rfl d_Mo_layGrid_279 ?_
            refine lv_iload_n hx hb d_Mo_layGrid_282 rfl (lv_at hl 2 rfl) ?_
            obtain ⟨hi89, hm⟩ := gI_e hm
            refine va_iald hx hb hK hP 3 0 rfl rfl hi89 d_Mo_layGrid_283 ?_
            obtain ⟨r90, hb91, hm⟩ := bd1_e hm
            have hPc := hP.sub (ws' := (wl_Mo_find a_0_ys cI 42 f9)) [6] rfl
            have hDc := hD.sub (ws' := (wl_Mo_find a_0_ys cI 42 f9)) [6] (by decide) rfl
            refine cl_i (wc' := (wl_Mo_find a_0_ys cI 42 f9)) (va_runS (As := [.ref a_0_ys, .int (f_0_lows x64.toNatClampNeg)]) (rest := []) ⟨hx, hb, hml, hown, hts⟩ (c_Mo_find l dC dI (cI := cI) (cZ := cZ) (cJ := cJ) a_0_ys H.size 42 f9 (f_0_lows x64.toNatClampNeg) r90 hb91) (va_cwS 2 hts (gl_S k_312 k_311 k_277 k_310) rfl rfl rfl (by decide +kernel) ⟨Nat.le_of_ble_eq_true rfl, Nat.le_of_ble_eq_true rfl⟩) ⟨PP_blind, fun U hU hW => PP_at hK hN hPc hDc hU hW⟩ rfl rfl hl.1 rfl (lv_room (Nat.le_of_ble_eq_true rfl)) d_Mo_layGrid_284 ⟨Nat.zero_le _, Nat.zero_le _⟩) hP hD hS hA [6] [0, 1, 2, 3, 4, 5, 7, 8, 9] rfl rfl (by decide) (by decide) (fun H locs hP hD hS => ?_)
            have hP : va_P (dC, dI) vwCl (wl_Mo_layGrid a_0 a_0_isFlat a_0_across a_0_lows a_0_highs a_0_xs a_0_ys a_0_flatEdges a_0_upEdges a_0_isPoint b_0_thick b_0_doorCounts b_0_doorFrom b_0_doorTo b_0_labels b_0_oldXs b_0_oldYs b_0_oldLabels b_0_names b_0_oldNames b_0_wanted b_0_common b_0_stack b_0_pieceLines b_0_pieceBegins b_0_pieceEnds b_0_pieceLeft b_0_pieceRight b_0_outs b_0_isSeen b_0_ringSpaces b_0_ringStarts b_0_ringSizes b_0_ringLeast b_0_looseLines b_0_looseXs b_0_looseYs b_0_looseReaches b_0_far cZ cI v_0_code v_0_lines v_0_isFresh v_0_hasRun v_0_runs x6 x7 v_0_spaces v_0_oldNx v_0_oldNy v_0_oldSpaces v_0_points v_0_pieces v_0_rings v_0_outsideSides v_0_looseCount f_0_isFlat f_0_across f_0_lows f_0_highs f8 f9 f65 f66 f53) H := hP.sub [0, 1, 2, 3, 4, 5, 9, 6, 7, 8] rfl
            have hD : va_D A (wl_Mo_layGrid a_0 a_0_isFlat a_0_across a_0_lows a_0_highs a_0_xs a_0_ys a_0_flatEdges a_0_upEdges a_0_isPoint b_0_thick b_0_doorCounts b_0_doorFrom b_0_doorTo b_0_labels b_0_oldXs b_0_oldYs b_0_oldLabels b_0_names b_0_oldNames b_0_wanted b_0_common b_0_stack b_0_pieceLines b_0_pieceBegins b_0_pieceEnds b_0_pieceLeft b_0_pieceRight b_0_outs b_0_isSeen b_0_ringSpaces b_0_ringStarts b_0_ringSizes b_0_ringLeast b_0_looseLines b_0_looseXs b_0_looseYs b_0_looseReaches b_0_far cZ cI v_0_code v_0_lines v_0_isFresh v_0_hasRun v_0_runs x6 x7 v_0_spaces v_0_oldNx v_0_oldNy v_0_oldSpaces v_0_points v_0_pieces v_0_rings v_0_outsideSides v_0_looseCount f_0_isFlat f_0_across f_0_lows f_0_highs f8 f9 f65 f66 f53) := hD.sub [0, 1, 2, 3, 4, 5, 9, 6, 7, 8] (by decide) rfl
            cases hm
            exact K84 H locs ls hP hD hS (lv_sub hl [1, 2, 0] rfl)
          · replace hm := if_f hm c88
            refine lv_aload_n hx hb d_Mo_layGrid_258 rfl (lv_at hl 1 rfl) ?_
            refine va_get (D := (dC, dI)) (ci := 11) (v := .ref a_0_xs) (C := "SpaceCyclesModel") (T := F_Mo) (N := 54) hx hb hts (in_F i_Mo) hown hK hP 0 rfl rfl 13 (by decide) (hts _ (in_c k_302)) (fun _ h9 => h9) rfl d_Mo_layGrid_259 ?_
            refine lv_aload_n hx hb d_Mo_layGrid_262 rfl (lv_at hl 1 rfl) ?_
            refine va_get (D := (dC, dI)) (ci := 11) (v := .ref a_0_lows) (C := "SpaceCyclesModel") (T := F_Mo) (N := 54) hx hb hts (in_F i_Mo) hown hK hP 0 rfl rfl 3 (by decide) (hts _ (in_c k_281)) (fun _ h9 => h9) rfl d_Mo_layGrid_263 ?_
            refine lv_iload_n hx hb d_Mo_layGrid_266 rfl (lv_at hl 2 rfl) ?_
            obtain ⟨hi92, hm⟩ := gI_e hm
            refine va_iald hx hb hK hP 3 0 rfl rfl hi92 d_Mo_layGrid_267 ?_
            obtain ⟨r93, hb94, hm⟩ := bd1_e hm
            have hPc := hP.sub (ws' := (wl_Mo_find a_0_xs cI 42 f8)) [5] rfl
            have hDc := hD.sub (ws' := (wl_Mo_find a_0_xs cI 42 f8)) [5] (by decide) rfl
            refine cl_i (wc' := (wl_Mo_find a_0_xs cI 42 f8)) (va_runS (As := [.ref a_0_xs, .int (f_0_lows x64.toNatClampNeg)]) (rest := []) ⟨hx, hb, hml, hown, hts⟩ (c_Mo_find l dC dI (cI := cI) (cZ := cZ) (cJ := cJ) a_0_xs H.size 42 f8 (f_0_lows x64.toNatClampNeg) r93 hb94) (va_cwS 2 hts (gl_S k_312 k_311 k_277 k_310) rfl rfl rfl (by decide +kernel) ⟨Nat.le_of_ble_eq_true rfl, Nat.le_of_ble_eq_true rfl⟩) ⟨PP_blind, fun U hU hW => PP_at hK hN hPc hDc hU hW⟩ rfl rfl hl.1 rfl (lv_room (Nat.le_of_ble_eq_true rfl)) d_Mo_layGrid_268 ⟨Nat.zero_le _, Nat.zero_le _⟩) hP hD hS hA [5] [0, 1, 2, 3, 4, 6, 7, 8, 9] rfl rfl (by decide) (by decide) (fun H locs hP hD hS => ?_)
            have hP : va_P (dC, dI) vwCl (wl_Mo_layGrid a_0 a_0_isFlat a_0_across a_0_lows a_0_highs a_0_xs a_0_ys a_0_flatEdges a_0_upEdges a_0_isPoint b_0_thick b_0_doorCounts b_0_doorFrom b_0_doorTo b_0_labels b_0_oldXs b_0_oldYs b_0_oldLabels b_0_names b_0_oldNames b_0_wanted b_0_common b_0_stack b_0_pieceLines b_0_pieceBegins b_0_pieceEnds b_0_pieceLeft b_0_pieceRight b_0_outs b_0_isSeen b_0_ringSpaces b_0_ringStarts b_0_ringSizes b_0_ringLeast b_0_looseLines b_0_looseXs b_0_looseYs b_0_looseReaches b_0_far cZ cI v_0_code v_0_lines v_0_isFresh v_0_hasRun v_0_runs x6 x7 v_0_spaces v_0_oldNx v_0_oldNy v_0_oldSpaces v_0_points v_0_pieces v_0_rings v_0_outsideSides v_0_looseCount f_0_isFlat f_0_across f_0_lows f_0_highs f8 f9 f65 f66 f53) H := hP.sub [0, 1, 2, 3, 4, 9, 5, 6, 7, 8] rfl
            have hD : va_D A (wl_Mo_layGrid a_0 a_0_isFlat a_0_across a_0_lows a_0_highs a_0_xs a_0_ys a_0_flatEdges a_0_upEdges a_0_isPoint b_0_thick b_0_doorCounts b_0_doorFrom b_0_doorTo b_0_labels b_0_oldXs b_0_oldYs b_0_oldLabels b_0_names b_0_oldNames b_0_wanted b_0_common b_0_stack b_0_pieceLines b_0_pieceBegins b_0_pieceEnds b_0_pieceLeft b_0_pieceRight b_0_outs b_0_isSeen b_0_ringSpaces b_0_ringStarts b_0_ringSizes b_0_ringLeast b_0_looseLines b_0_looseXs b_0_looseYs b_0_looseReaches b_0_far cZ cI v_0_code v_0_lines v_0_isFresh v_0_hasRun v_0_runs x6 x7 v_0_spaces v_0_oldNx v_0_oldNy v_0_oldSpaces v_0_points v_0_pieces v_0_rings v_0_outsideSides v_0_looseCount f_0_isFlat f_0_across f_0_lows f_0_highs f8 f9 f65 f66 f53) := hD.sub [0, 1, 2, 3, 4, 9, 5, 6, 7, 8] (by decide) rfl
            refine lv_goto (tgt := 287) hx hb d_Mo_layGrid_271 (by decide) ?_
            cases hm
            exact K84 H locs ls hP hD hS (lv_sub hl [1, 2, 0] rfl)
        replace hm := hb73
        refine lv_if_eq (tgt := 235) hx hb d_Mo_layGrid_216 (by decide) (fun c76 => ?_) (fun c76 => ?_)
        · replace hm := if_t hm c76
          refine lv_aload_n hx hb d_Mo_layGrid_235 rfl (lv_at hl 0 rfl) ?_
          refine va_get (D := (dC, dI)) (ci := 11) (v := .ref a_0_xs) (C := "SpaceCyclesModel") (T := F_Mo) (N := 54) hx hb hts (in_F i_Mo) hown hK hP 0 rfl rfl 13 (by decide) (hts _ (in_c k_302)) (fun _ h9 => h9) rfl d_Mo_layGrid_236 ?_
          refine lv_aload_n hx hb d_Mo_layGrid_239 rfl (lv_at hl 0 rfl) ?_
          refine va_get (D := (dC, dI)) (ci := 11) (v := .ref a_0_across) (C := "SpaceCyclesModel") (T := F_Mo) (N := 54) hx hb hts (in_F i_Mo) hown hK hP 0 rfl rfl 2 (by decide) (hts _ (in_c k_280)) (fun _ h9 => h9) rfl d_Mo_layGrid_240 ?_
          refine lv_iload_n hx hb d_Mo_layGrid_243 rfl (lv_at hl 1 rfl) ?_
          obtain ⟨hi77, hm⟩ := gI_e hm
          refine va_iald hx hb hK hP 2 0 rfl rfl hi77 d_Mo_layGrid_244 ?_
          obtain ⟨r78, hb79, hm⟩ := bd1_e hm
          have hPc := hP.sub (ws' := (wl_Mo_find a_0_xs cI 42 f8)) [5] rfl
          have hDc := hD.sub (ws' := (wl_Mo_find a_0_xs cI 42 f8)) [5] (by decide) rfl
          refine cl_i (wc' := (wl_Mo_find a_0_xs cI 42 f8)) (va_runS (As := [.ref a_0_xs, .int (f_0_across x64.toNatClampNeg)]) (rest := []) ⟨hx, hb, hml, hown, hts⟩ (c_Mo_find l dC dI (cI := cI) (cZ := cZ) (cJ := cJ) a_0_xs H.size 42 f8 (f_0_across x64.toNatClampNeg) r78 hb79) (va_cwS 2 hts (gl_S k_312 k_311 k_277 k_310) rfl rfl rfl (by decide +kernel) ⟨Nat.le_of_ble_eq_true rfl, Nat.le_of_ble_eq_true rfl⟩) ⟨PP_blind, fun U hU hW => PP_at hK hN hPc hDc hU hW⟩ rfl rfl hl.1 rfl (lv_room (Nat.le_of_ble_eq_true rfl)) d_Mo_layGrid_245 ⟨Nat.zero_le _, Nat.zero_le _⟩) hP hD hS hA [5] [0, 1, 2, 3, 4, 6, 7, 8, 9] rfl rfl (by decide) (by decide) (fun H locs hP hD hS => ?_)
          have hP : va_P (dC, dI) vwCl (wl_Mo_layGrid a_0 a_0_isFlat a_0_across a_0_lows a_0_highs a_0_xs a_0_ys a_0_flatEdges a_0_upEdges a_0_isPoint b_0_thick b_0_doorCounts b_0_doorFrom b_0_doorTo b_0_labels b_0_oldXs b_0_oldYs b_0_oldLabels b_0_names b_0_oldNames b_0_wanted b_0_common b_0_stack b_0_pieceLines b_0_pieceBegins b_0_pieceEnds b_0_pieceLeft b_0_pieceRight b_0_outs b_0_isSeen b_0_ringSpaces b_0_ringStarts b_0_ringSizes b_0_ringLeast b_0_looseLines b_0_looseXs b_0_looseYs b_0_looseReaches b_0_far cZ cI v_0_code v_0_lines v_0_isFresh v_0_hasRun v_0_runs x6 x7 v_0_spaces v_0_oldNx v_0_oldNy v_0_oldSpaces v_0_points v_0_pieces v_0_rings v_0_outsideSides v_0_looseCount f_0_isFlat f_0_across f_0_lows f_0_highs f8 f9 f65 f66 f53) H := hP.sub [0, 1, 2, 3, 4, 9, 5, 6, 7, 8] rfl
          have hD : va_D A (wl_Mo_layGrid a_0 a_0_isFlat a_0_across a_0_lows a_0_highs a_0_xs a_0_ys a_0_flatEdges a_0_upEdges a_0_isPoint b_0_thick b_0_doorCounts b_0_doorFrom b_0_doorTo b_0_labels b_0_oldXs b_0_oldYs b_0_oldLabels b_0_names b_0_oldNames b_0_wanted b_0_common b_0_stack b_0_pieceLines b_0_pieceBegins b_0_pieceEnds b_0_pieceLeft b_0_pieceRight b_0_outs b_0_isSeen b_0_ringSpaces b_0_ringStarts b_0_ringSizes b_0_ringLeast b_0_looseLines b_0_looseXs b_0_looseYs b_0_looseReaches b_0_far cZ cI v_0_code v_0_lines v_0_isFresh v_0_hasRun v_0_runs x6 x7 v_0_spaces v_0_oldNx v_0_oldNy v_0_oldSpaces v_0_points v_0_pieces v_0_rings v_0_outsideSides v_0_looseCount f_0_isFlat f_0_across f_0_lows f_0_highs f8 f9 f65 f66 f53) := hD.sub [0, 1, 2, 3, 4, 9, 5, 6, 7, 8] (by decide) rfl
          cases hm
          exact K72 H locs ls hP hD hS (lv_sub hl [0, 1] rfl)
        · replace hm := if_f hm c76
          refine lv_aload_n hx hb d_Mo_layGrid_219 rfl (lv_at hl 0 rfl) ?_
          refine va_get (D := (dC, dI)) (ci := 11) (v := .ref a_0_ys) (C := "SpaceCyclesModel") (T := F_Mo) (N := 54) hx hb hts (in_F i_Mo) hown hK hP 0 rfl rfl 14 (by decide) (hts _ (in_c k_306)) (fun _ h9 => h9) rfl d_Mo_layGrid_220 ?_
          refine lv_aload_n hx hb d_Mo_layGrid_223 rfl (lv_at hl 0 rfl) ?_
          refine va_get (D := (dC, dI)) (ci := 11) (v := .ref a_0_across) (C := "SpaceCyclesModel") (T := F_Mo) (N := 54) hx hb hts (in_F i_Mo) hown hK hP 0 rfl rfl 2 (by decide) (hts _ (in_c k_280)) (fun _ h9 => h9) rfl d_Mo_layGrid_224 ?_
          refine lv_iload_n hx hb d_Mo_layGrid_227 rfl (lv_at hl 1 rfl) ?_
          obtain ⟨hi80, hm⟩ := gI_e hm
          refine va_iald hx hb hK hP 2 0 rfl rfl hi80 d_Mo_layGrid_228 ?_
          obtain ⟨r81, hb82, hm⟩ := bd1_e hm
          have hPc := hP.sub (ws' := (wl_Mo_find a_0_ys cI 42 f9)) [6] rfl
          have hDc := hD.sub (ws' := (wl_Mo_find a_0_ys cI 42 f9)) [6] (by decide) rfl
          refine cl_i (wc' := (wl_Mo_find a_0_ys cI 42 f9)) (va_runS (As := [.ref a_0_ys, .int (f_0_across x64.toNatClampNeg)]) (rest := []) ⟨hx, hb, hml, hown, hts⟩ (c_Mo_find l dC dI (cI := cI) (cZ := cZ) (cJ := cJ) a_0_ys H.size 42 f9 (f_0_across x64.toNatClampNeg) r81 hb82) (va_cwS 2 hts (gl_S k_312 k_311 k_277 k_310) rfl rfl rfl (by decide +kernel) ⟨Nat.le_of_ble_eq_true rfl, Nat.le_of_ble_eq_true rfl⟩) ⟨PP_blind, fun U hU hW => PP_at hK hN hPc hDc hU hW⟩ rfl rfl hl.1 rfl (lv_room (Nat.le_of_ble_eq_true rfl)) d_Mo_layGrid_229 ⟨Nat.zero_le _, Nat.zero_le _⟩) hP hD hS hA [6] [0, 1, 2, 3, 4, 5, 7, 8, 9] rfl rfl (by decide) (by decide) (fun H locs hP hD hS => ?_)
          have hP : va_P (dC, dI) vwCl (wl_Mo_layGrid a_0 a_0_isFlat a_0_across a_0_lows a_0_highs a_0_xs a_0_ys a_0_flatEdges a_0_upEdges a_0_isPoint b_0_thick b_0_doorCounts b_0_doorFrom b_0_doorTo b_0_labels b_0_oldXs b_0_oldYs b_0_oldLabels b_0_names b_0_oldNames b_0_wanted b_0_common b_0_stack b_0_pieceLines b_0_pieceBegins b_0_pieceEnds b_0_pieceLeft b_0_pieceRight b_0_outs b_0_isSeen b_0_ringSpaces b_0_ringStarts b_0_ringSizes b_0_ringLeast b_0_looseLines b_0_looseXs b_0_looseYs b_0_looseReaches b_0_far cZ cI v_0_code v_0_lines v_0_isFresh v_0_hasRun v_0_runs x6 x7 v_0_spaces v_0_oldNx v_0_oldNy v_0_oldSpaces v_0_points v_0_pieces v_0_rings v_0_outsideSides v_0_looseCount f_0_isFlat f_0_across f_0_lows f_0_highs f8 f9 f65 f66 f53) H := hP.sub [0, 1, 2, 3, 4, 5, 9, 6, 7, 8] rfl
          have hD : va_D A (wl_Mo_layGrid a_0 a_0_isFlat a_0_across a_0_lows a_0_highs a_0_xs a_0_ys a_0_flatEdges a_0_upEdges a_0_isPoint b_0_thick b_0_doorCounts b_0_doorFrom b_0_doorTo b_0_labels b_0_oldXs b_0_oldYs b_0_oldLabels b_0_names b_0_oldNames b_0_wanted b_0_common b_0_stack b_0_pieceLines b_0_pieceBegins b_0_pieceEnds b_0_pieceLeft b_0_pieceRight b_0_outs b_0_isSeen b_0_ringSpaces b_0_ringStarts b_0_ringSizes b_0_ringLeast b_0_looseLines b_0_looseXs b_0_looseYs b_0_looseReaches b_0_far cZ cI v_0_code v_0_lines v_0_isFresh v_0_hasRun v_0_runs x6 x7 v_0_spaces v_0_oldNx v_0_oldNy v_0_oldSpaces v_0_points v_0_pieces v_0_rings v_0_outsideSides v_0_looseCount f_0_isFlat f_0_across f_0_lows f_0_highs f8 f9 f65 f66 f53) := hD.sub [0, 1, 2, 3, 4, 5, 9, 6, 7, 8] (by decide) rfl
          refine lv_goto (tgt := 248) hx hb d_Mo_layGrid_232 (by decide) ?_
          cases hm
          exact K72 H locs ls hP hD hS (lv_sub hl [0, 1] rfl)
  obtain ⟨f67, f68, hb128, hm⟩ := bd2_e hm
  refine L202_69 fu _ _ _ _ _ hb128 (fun H locs ls hP hD hS hl => ?_) H locs ls hP hD hS (lv_sub hl [1, 0] rfl)
  refine lv_aload_n hx hb d_Mo_layGrid_388 rfl (lv_at hl 0 rfl) ?_
  refine lv_iconst (v := 0) hx hb d_Mo_layGrid_389 (by decide) ?_
  refine va_put (D := (dC, dI)) (ci := 11) (v := .int 0) (ty := .int) (C := "SpaceCyclesModel") (T := F_Mo) (N := 54) hx hb hts (in_F i_Mo) t_Mo t_Mo_ok n_Mo hown hK hP hD hS 0 rfl rfl 32 (by decide) (hts _ (in_c k_313)) (fun _ h9 => h9) rfl (by decide +kernel) rfl rfl (Nat.le_of_ble_eq_true rfl) d_Mo_layGrid_390 (fun H locs hP hD hS => ?_)
  have hP : va_P (dC, dI) vwCl (wl_Mo_layGrid a_0 a_0_isFlat a_0_across a_0_lows a_0_highs a_0_xs a_0_ys a_0_flatEdges a_0_upEdges a_0_isPoint b_0_thick b_0_doorCounts b_0_doorFrom b_0_doorTo b_0_labels b_0_oldXs b_0_oldYs b_0_oldLabels b_0_names b_0_oldNames b_0_wanted b_0_common b_0_stack b_0_pieceLines b_0_pieceBegins b_0_pieceEnds b_0_pieceLeft b_0_pieceRight b_0_outs b_0_isSeen b_0_ringSpaces b_0_ringStarts b_0_ringSizes b_0_ringLeast b_0_looseLines b_0_looseXs b_0_looseYs b_0_looseReaches b_0_far cZ cI v_0_code v_0_lines v_0_isFresh v_0_hasRun v_0_runs x6 x7 v_0_spaces v_0_oldNx v_0_oldNy v_0_oldSpaces 0 v_0_pieces v_0_rings v_0_outsideSides v_0_looseCount f_0_isFlat f_0_across f_0_lows f_0_highs f8 f9 f67 f68 f53) H := hP
  have hD : va_D A (wl_Mo_layGrid a_0 a_0_isFlat a_0_across a_0_lows a_0_highs a_0_xs a_0_ys a_0_flatEdges a_0_upEdges a_0_isPoint b_0_thick b_0_doorCounts b_0_doorFrom b_0_doorTo b_0_labels b_0_oldXs b_0_oldYs b_0_oldLabels b_0_names b_0_oldNames b_0_wanted b_0_common b_0_stack b_0_pieceLines b_0_pieceBegins b_0_pieceEnds b_0_pieceLeft b_0_pieceRight b_0_outs b_0_isSeen b_0_ringSpaces b_0_ringStarts b_0_ringSizes b_0_ringLeast b_0_looseLines b_0_looseXs b_0_looseYs b_0_looseReaches b_0_far cZ cI v_0_code v_0_lines v_0_isFresh v_0_hasRun v_0_runs x6 x7 v_0_spaces v_0_oldNx v_0_oldNy v_0_oldSpaces 0 v_0_pieces v_0_rings v_0_outsideSides v_0_looseCount f_0_isFlat f_0_across f_0_lows f_0_highs f8 f9 f67 f68 f53) := hD
  refine lv_iconst (v := 0) hx hb d_Mo_layGrid_393 (by decide) ?_
  refine lv_istore_n (lv' := [(1, .int 0), (0, .ref a_0)]) hx hb d_Mo_layGrid_394 rfl hl (by decide) rfl (fun ls hl => ?_)
  have L395_134 : ∀ (n : Nat) (x129 : Int32) (x130 : Int32) (f131 : Nat → Int32) (x132 : Int32) (f133 : Nat → Int32), m_Mo_layGrid_L395 v_0_lines x6 x7 f_0_isFlat f_0_across f_0_lows f_0_highs f8 f9 n x129 x130 f131 = some (x132, f133) → (∀ (H : Heap) (locs : List Loc) (ls : Array Slot), va_P (dC, dI) vwCl (wl_Mo_layGrid a_0 a_0_isFlat a_0_across a_0_lows a_0_highs a_0_xs a_0_ys a_0_flatEdges a_0_upEdges a_0_isPoint b_0_thick b_0_doorCounts b_0_doorFrom b_0_doorTo b_0_labels b_0_oldXs b_0_oldYs b_0_oldLabels b_0_names b_0_oldNames b_0_wanted b_0_common b_0_stack b_0_pieceLines b_0_pieceBegins b_0_pieceEnds b_0_pieceLeft b_0_pieceRight b_0_outs b_0_isSeen b_0_ringSpaces b_0_ringStarts b_0_ringSizes b_0_ringLeast b_0_looseLines b_0_looseXs b_0_looseYs b_0_looseReaches b_0_far cZ cI v_0_code v_0_lines v_0_isFresh v_0_hasRun v_0_runs x6 x7 v_0_spaces v_0_oldNx v_0_oldNy v_0_oldSpaces x132 v_0_pieces v_0_rings v_0_outsideSides v_0_looseCount f_0_isFlat f_0_across f_0_lows f_0_highs f8 f9 f67 f68 f133) H → va_D A (wl_Mo_layGrid a_0 a_0_isFlat a_0_across a_0_lows a_0_highs a_0_xs a_0_ys a_0_flatEdges a_0_upEdges a_0_isPoint b_0_thick b_0_doorCounts b_0_doorFrom b_0_doorTo b_0_labels b_0_oldXs b_0_oldYs b_0_oldLabels b_0_names b_0_oldNames b_0_wanted b_0_common b_0_stack b_0_pieceLines b_0_pieceBegins b_0_pieceEnds b_0_pieceLeft b_0_pieceRight b_0_outs b_0_isSeen b_0_ringSpaces b_0_ringStarts b_0_ringSizes b_0_ringLeast b_0_looseLines b_0_looseXs b_0_looseYs b_0_looseReaches b_0_far cZ cI v_0_code v_0_lines v_0_isFresh v_0_hasRun v_0_runs x6 x7 v_0_spaces v_0_oldNx v_0_oldNy v_0_oldSpaces x132 v_0_pieces v_0_rings v_0_outsideSides v_0_looseCount f_0_isFlat f_0_across f_0_lows f_0_highs f8 f9 f67 f68 f133) → va_S A s.heap H locs → lv_has ls 6 [] → W p l e rm_Mo_layGrid s m args below meth c H locs 0 0 Q (F0 m 560 ls [])) → ∀ (H : Heap) (locs : List Loc) (ls : Array Slot), va_P (dC, dI) vwCl (wl_Mo_layGrid a_0 a_0_isFlat a_0_across a_0_lows a_0_highs a_0_xs a_0_ys a_0_flatEdges a_0_upEdges a_0_isPoint b_0_thick b_0_doorCounts b_0_doorFrom b_0_doorTo b_0_labels b_0_oldXs b_0_oldYs b_0_oldLabels b_0_names b_0_oldNames b_0_wanted b_0_common b_0_stack b_0_pieceLines b_0_pieceBegins b_0_pieceEnds b_0_pieceLeft b_0_pieceRight b_0_outs b_0_isSeen b_0_ringSpaces b_0_ringStarts b_0_ringSizes b_0_ringLeast b_0_looseLines b_0_looseXs b_0_looseYs b_0_looseReaches b_0_far cZ cI v_0_code v_0_lines v_0_isFresh v_0_hasRun v_0_runs x6 x7 v_0_spaces v_0_oldNx v_0_oldNy v_0_oldSpaces x130 v_0_pieces v_0_rings v_0_outsideSides v_0_looseCount f_0_isFlat f_0_across f_0_lows f_0_highs f8 f9 f67 f68 f131) H → va_D A (wl_Mo_layGrid a_0 a_0_isFlat a_0_across a_0_lows a_0_highs a_0_xs a_0_ys a_0_flatEdges a_0_upEdges a_0_isPoint b_0_thick b_0_doorCounts b_0_doorFrom b_0_doorTo b_0_labels b_0_oldXs b_0_oldYs b_0_oldLabels b_0_names b_0_oldNames b_0_wanted b_0_common b_0_stack b_0_pieceLines b_0_pieceBegins b_0_pieceEnds b_0_pieceLeft b_0_pieceRight b_0_outs b_0_isSeen b_0_ringSpaces b_0_ringStarts b_0_ringSizes b_0_ringLeast b_0_looseLines b_0_looseXs b_0_looseYs b_0_looseReaches b_0_far cZ cI v_0_code v_0_lines v_0_isFresh v_0_hasRun v_0_runs x6 x7 v_0_spaces v_0_oldNx v_0_oldNy v_0_oldSpaces x130 v_0_pieces v_0_rings v_0_outsideSides v_0_looseCount f_0_isFlat f_0_across f_0_lows f_0_highs f8 f9 f67 f68 f131) → va_S A s.heap H locs → lv_has ls 6 [(0, .ref a_0), (1, .int x129)] → W p l e rm_Mo_layGrid s m args below meth c H locs 0 0 Q (F0 m 395 ls []) := by
    intro n
    induction n with
    | zero => intro x129 x130 f131 x132 f133 hm; simp [m_Mo_layGrid_L395] at hm
    | succ n ih =>
      intro x129 x130 f131 x132 f133 hm KE H locs ls hP hD hS hl
      rw [m_Mo_layGrid_L395] at hm
      refine lv_iload_n hx hb d_Mo_layGrid_395 rfl (lv_at hl 1 rfl) ?_
      refine lv_aload_n hx hb d_Mo_layGrid_396 rfl (lv_at hl 0 rfl) ?_
      refine va_get (D := (dC, dI)) (ci := 11) (v := .int x6) (C := "SpaceCyclesModel") (T := F_Mo) (N := 54) hx hb hts (in_F i_Mo) hown hK hP 0 rfl rfl 15 (by decide) (hts _ (in_c k_300)) (fun _ h9 => h9) rfl d_Mo_layGrid_397 ?_
      refine lv_icmp_ge (tgt := 560) hx hb d_Mo_layGrid_400 (by decide) (fun c135 => ?_) (fun c135 => ?_)
      · replace hm := if_t hm c135
        cases hm
        exact KE H locs ls hP hD hS (lv_sub hl [] rfl)
      · replace hm := if_f hm c135
        refine lv_iconst (v := 0) hx hb d_Mo_layGrid_403 (by decide) ?_
        refine lv_istore_n (lv' := [(2, .int 0), (0, .ref a_0), (1, .int x129)]) hx hb d_Mo_layGrid_404 rfl hl (by decide) rfl (fun ls hl => ?_)
        have L405_141 : ∀ (n : Nat) (x136 : Int32) (x137 : Int32) (f138 : Nat → Int32) (x139 : Int32) (f140 : Nat → Int32), m_Mo_layGrid_L405 x129 v_0_lines x7 f_0_isFlat f_0_across f_0_lows f_0_highs f8 f9 n x136 x137 f138 = some (x139, f140) → (∀ (H : Heap) (locs : List Loc) (ls : Array Slot), va_P (dC, dI) vwCl (wl_Mo_layGrid a_0 a_0_isFlat a_0_across a_0_lows a_0_highs a_0_xs a_0_ys a_0_flatEdges a_0_upEdges a_0_isPoint b_0_thick b_0_doorCounts b_0_doorFrom b_0_doorTo b_0_labels b_0_oldXs b_0_oldYs b_0_oldLabels b_0_names b_0_oldNames b_0_wanted b_0_common b_0_stack b_0_pieceLines b_0_pieceBegins b_0_pieceEnds b_0_pieceLeft b_0_pieceRight b_0_outs b_0_isSeen b_0_ringSpaces b_0_ringStarts b_0_ringSizes b_0_ringLeast b_0_looseLines b_0_looseXs b_0_looseYs b_0_looseReaches b_0_far cZ cI v_0_code v_0_lines v_0_isFresh v_0_hasRun v_0_runs x6 x7 v_0_spaces v_0_oldNx v_0_oldNy v_0_oldSpaces x139 v_0_pieces v_0_rings v_0_outsideSides v_0_looseCount f_0_isFlat f_0_across f_0_lows f_0_highs f8 f9 f67 f68 f140) H → va_D A (wl_Mo_layGrid a_0 a_0_isFlat a_0_across a_0_lows a_0_highs a_0_xs a_0_ys a_0_flatEdges a_0_upEdges a_0_isPoint b_0_thick b_0_doorCounts b_0_doorFrom b_0_doorTo b_0_labels b_0_oldXs b_0_oldYs b_0_oldLabels b_0_names b_0_oldNames b_0_wanted b_0_common b_0_stack b_0_pieceLines b_0_pieceBegins b_0_pieceEnds b_0_pieceLeft b_0_pieceRight b_0_outs b_0_isSeen b_0_ringSpaces b_0_ringStarts b_0_ringSizes b_0_ringLeast b_0_looseLines b_0_looseXs b_0_looseYs b_0_looseReaches b_0_far cZ cI v_0_code v_0_lines v_0_isFresh v_0_hasRun v_0_runs x6 x7 v_0_spaces v_0_oldNx v_0_oldNy v_0_oldSpaces x139 v_0_pieces v_0_rings v_0_outsideSides v_0_looseCount f_0_isFlat f_0_across f_0_lows f_0_highs f8 f9 f67 f68 f140) → va_S A s.heap H locs → lv_has ls 6 [(0, .ref a_0), (1, .int x129)] → W p l e rm_Mo_layGrid s m args below meth c H locs 0 0 Q (F0 m 554 ls [])) → ∀ (H : Heap) (locs : List Loc) (ls : Array Slot), va_P (dC, dI) vwCl (wl_Mo_layGrid a_0 a_0_isFlat a_0_across a_0_lows a_0_highs a_0_xs a_0_ys a_0_flatEdges a_0_upEdges a_0_isPoint b_0_thick b_0_doorCounts b_0_doorFrom b_0_doorTo b_0_labels b_0_oldXs b_0_oldYs b_0_oldLabels b_0_names b_0_oldNames b_0_wanted b_0_common b_0_stack b_0_pieceLines b_0_pieceBegins b_0_pieceEnds b_0_pieceLeft b_0_pieceRight b_0_outs b_0_isSeen b_0_ringSpaces b_0_ringStarts b_0_ringSizes b_0_ringLeast b_0_looseLines b_0_looseXs b_0_looseYs b_0_looseReaches b_0_far cZ cI v_0_code v_0_lines v_0_isFresh v_0_hasRun v_0_runs x6 x7 v_0_spaces v_0_oldNx v_0_oldNy v_0_oldSpaces x137 v_0_pieces v_0_rings v_0_outsideSides v_0_looseCount f_0_isFlat f_0_across f_0_lows f_0_highs f8 f9 f67 f68 f138) H → va_D A (wl_Mo_layGrid a_0 a_0_isFlat a_0_across a_0_lows a_0_highs a_0_xs a_0_ys a_0_flatEdges a_0_upEdges a_0_isPoint b_0_thick b_0_doorCounts b_0_doorFrom b_0_doorTo b_0_labels b_0_oldXs b_0_oldYs b_0_oldLabels b_0_names b_0_oldNames b_0_wanted b_0_common b_0_stack b_0_pieceLines b_0_pieceBegins b_0_pieceEnds b_0_pieceLeft b_0_pieceRight b_0_outs b_0_isSeen b_0_ringSpaces b_0_ringStarts b_0_ringSizes b_0_ringLeast b_0_looseLines b_0_looseXs b_0_looseYs b_0_looseReaches b_0_far cZ cI v_0_code v_0_lines v_0_isFresh v_0_hasRun v_0_runs x6 x7 v_0_spaces v_0_oldNx v_0_oldNy v_0_oldSpaces x137 v_0_pieces v_0_rings v_0_outsideSides v_0_looseCount f_0_isFlat f_0_across f_0_lows f_0_highs f8 f9 f67 f68 f138) → va_S A s.heap H locs → lv_has ls 6 [(0, .ref a_0), (1, .int x129), (2, .int x136)] → W p l e rm_Mo_layGrid s m args below meth c H locs 0 0 Q (F0 m 405 ls []) := by
          intro n
          induction n with
          | zero => intro x136 x137 f138 x139 f140 hm; simp [m_Mo_layGrid_L405] at hm
          | succ n ih =>
            intro x136 x137 f138 x139 f140 hm KE H locs ls hP hD hS hl
            rw [m_Mo_layGrid_L405] at hm
            refine lv_iload_n hx hb d_Mo_layGrid_405 rfl (lv_at hl 2 rfl) ?_
            refine lv_aload_n hx hb d_Mo_layGrid_406 rfl (lv_at hl 0 rfl) ?_
            refine va_get (D := (dC, dI)) (ci := 11) (v := .int x7) (C := "SpaceCyclesModel") (T := F_Mo) (N := 54) hx hb hts (in_F i_Mo) hown hK hP 0 rfl rfl 16 (by decide) (hts _ (in_c k_301)) (fun _ h9 => h9) rfl d_Mo_layGrid_407 ?_
            refine lv_icmp_ge (tgt := 554) hx hb d_Mo_layGrid_410 (by decide) (fun c142 => ?_) (fun c142 => ?_)
            · replace hm := if_t hm c142
              cases hm
              exact KE H locs ls hP hD hS (lv_sub hl [0, 1] rfl)
            · replace hm := if_f hm c142
              refine lv_iconst (v := 0) hx hb d_Mo_layGrid_413 (by decide) ?_
              refine lv_istore_n (lv' := [(3, .int 0), (0, .ref a_0), (1, .int x129), (2, .int x136)]) hx hb d_Mo_layGrid_414 rfl hl (by decide) rfl (fun ls hl => ?_)
              refine lv_iconst (v := 0) hx hb d_Mo_layGrid_415 (by decide) ?_
              refine lv_istore (lv' := [(4, .int 0), (3, .int 0), (0, .ref a_0), (1, .int x129), (2, .int x136)]) hx hb d_Mo_layGrid_416 hl (by decide) rfl (fun ls hl => ?_)
              refine lv_iconst (v := 0) hx hb d_Mo_layGrid_418 (by decide) ?_
              refine lv_istore (lv' := [(5, .int 0), (4, .int 0), (3, .int 0), (0, .ref a_0), (1, .int x129), (2, .int x136)]) hx hb d_Mo_layGrid_419 hl (by decide) rfl (fun ls hl => ?_)
              have L421_148 : ∀ (n : Nat) (x143 : Int32) (x144 : Int32) (x145 : Int32) (x146 : Int32) (x147 : Int32), m_Mo_layGrid_L421 x129 x136 v_0_lines f_0_isFlat f_0_across f_0_lows f_0_highs f8 f9 n x143 x144 x145 = some (x146, x147) → (∀ (H : Heap) (locs : List Loc) (ls : Array Slot), va_P (dC, dI) vwCl (wl_Mo_layGrid a_0 a_0_isFlat a_0_across a_0_lows a_0_highs a_0_xs a_0_ys a_0_flatEdges a_0_upEdges a_0_isPoint b_0_thick b_0_doorCounts b_0_doorFrom b_0_doorTo b_0_labels b_0_oldXs b_0_oldYs b_0_oldLabels b_0_names b_0_oldNames b_0_wanted b_0_common b_0_stack b_0_pieceLines b_0_pieceBegins b_0_pieceEnds b_0_pieceLeft b_0_pieceRight b_0_outs b_0_isSeen b_0_ringSpaces b_0_ringStarts b_0_ringSizes b_0_ringLeast b_0_looseLines b_0_looseXs b_0_looseYs b_0_looseReaches b_0_far cZ cI v_0_code v_0_lines v_0_isFresh v_0_hasRun v_0_runs x6 x7 v_0_spaces v_0_oldNx v_0_oldNy v_0_oldSpaces x137 v_0_pieces v_0_rings v_0_outsideSides v_0_looseCount f_0_isFlat f_0_across f_0_lows f_0_highs f8 f9 f67 f68 f138) H → va_D A (wl_Mo_layGrid a_0 a_0_isFlat a_0_across a_0_lows a_0_highs a_0_xs a_0_ys a_0_flatEdges a_0_upEdges a_0_isPoint b_0_thick b_0_doorCounts b_0_doorFrom b_0_doorTo b_0_labels b_0_oldXs b_0_oldYs b_0_oldLabels b_0_names b_0_oldNames b_0_wanted b_0_common b_0_stack b_0_pieceLines b_0_pieceBegins b_0_pieceEnds b_0_pieceLeft b_0_pieceRight b_0_outs b_0_isSeen b_0_ringSpaces b_0_ringStarts b_0_ringSizes b_0_ringLeast b_0_looseLines b_0_looseXs b_0_looseYs b_0_looseReaches b_0_far cZ cI v_0_code v_0_lines v_0_isFresh v_0_hasRun v_0_runs x6 x7 v_0_spaces v_0_oldNx v_0_oldNy v_0_oldSpaces x137 v_0_pieces v_0_rings v_0_outsideSides v_0_looseCount f_0_isFlat f_0_across f_0_lows f_0_highs f8 f9 f67 f68 f138) → va_S A s.heap H locs → lv_has ls 6 [(0, .ref a_0), (1, .int x129), (2, .int x136), (3, .int x146), (4, .int x147)] → W p l e rm_Mo_layGrid s m args below meth c H locs 0 0 Q (F0 m 498 ls [])) → ∀ (H : Heap) (locs : List Loc) (ls : Array Slot), va_P (dC, dI) vwCl (wl_Mo_layGrid a_0 a_0_isFlat a_0_across a_0_lows a_0_highs a_0_xs a_0_ys a_0_flatEdges a_0_upEdges a_0_isPoint b_0_thick b_0_doorCounts b_0_doorFrom b_0_doorTo b_0_labels b_0_oldXs b_0_oldYs b_0_oldLabels b_0_names b_0_oldNames b_0_wanted b_0_common b_0_stack b_0_pieceLines b_0_pieceBegins b_0_pieceEnds b_0_pieceLeft b_0_pieceRight b_0_outs b_0_isSeen b_0_ringSpaces b_0_ringStarts b_0_ringSizes b_0_ringLeast b_0_looseLines b_0_looseXs b_0_looseYs b_0_looseReaches b_0_far cZ cI v_0_code v_0_lines v_0_isFresh v_0_hasRun v_0_runs x6 x7 v_0_spaces v_0_oldNx v_0_oldNy v_0_oldSpaces x137 v_0_pieces v_0_rings v_0_outsideSides v_0_looseCount f_0_isFlat f_0_across f_0_lows f_0_highs f8 f9 f67 f68 f138) H → va_D A (wl_Mo_layGrid a_0 a_0_isFlat a_0_across a_0_lows a_0_highs a_0_xs a_0_ys a_0_flatEdges a_0_upEdges a_0_isPoint b_0_thick b_0_doorCounts b_0_doorFrom b_0_doorTo b_0_labels b_0_oldXs b_0_oldYs b_0_oldLabels b_0_names b_0_oldNames b_0_wanted b_0_common b_0_stack b_0_pieceLines b_0_pieceBegins b_0_pieceEnds b_0_pieceLeft b_0_pieceRight b_0_outs b_0_isSeen b_0_ringSpaces b_0_ringStarts b_0_ringSizes b_0_ringLeast b_0_looseLines b_0_looseXs b_0_looseYs b_0_looseReaches b_0_far cZ cI v_0_code v_0_lines v_0_isFresh v_0_hasRun v_0_runs x6 x7 v_0_spaces v_0_oldNx v_0_oldNy v_0_oldSpaces x137 v_0_pieces v_0_rings v_0_outsideSides v_0_looseCount f_0_isFlat f_0_across f_0_lows f_0_highs f8 f9 f67 f68 f138) → va_S A s.heap H locs → lv_has ls 6 [(0, .ref a_0), (1, .int x129), (2, .int x136), (3, .int x143), (4, .int x144), (5, .int x145)] → W p l e rm_Mo_layGrid s m args below meth c H locs 0 0 Q (F0 m 421 ls []) := by
                intro n
                induction n with
                | zero => intro x143 x144 x145 x146 x147 hm; simp [m_Mo_layGrid_L421] at hm
                | succ n ih =>
                  intro x143 x144 x145 x146 x147 hm KE H locs ls hP hD hS hl
                  rw [m_Mo_layGrid_L421] at hm
                  refine lv_iload hx hb d_Mo_layGrid_421 (lv_at hl 5 rfl) ?_
                  refine lv_aload_n hx hb d_Mo_layGrid_423 rfl (lv_at hl 0 rfl) ?_
                  refine va_get (D := (dC, dI)) (ci := 11) (v := .int v_0_lines) (C := "SpaceCyclesModel") (T := F_Mo) (N := 54) hx hb hts (in_F i_Mo) hown hK hP 0 rfl rfl 6 (by decide) (hts _ (in_c k_274)) (fun _ h9 => h9) rfl d_Mo_layGrid_424 ?_
                  refine lv_icmp_ge (tgt := 498) hx hb d_Mo_layGrid_427 (by decide) (fun c149 => ?_) (fun c149 => ?_)
                  · replace hm := if_t hm c149
                    cases hm
                    exact KE H locs ls hP hD hS (lv_sub hl [0, 1, 2, 3, 4] rfl)
                  · replace hm := if_f hm c149
                    refine lv_iload_n hx hb d_Mo_layGrid_430 rfl (lv_at hl 3 rfl) ?_
                    refine lv_aload_n hx hb d_Mo_layGrid_431 rfl (lv_at hl 0 rfl) ?_
                    refine lv_iload hx hb d_Mo_layGrid_432 (lv_at hl 5 rfl) ?_
                    refine lv_aload_n hx hb d_Mo_layGrid_434 rfl (lv_at hl 0 rfl) ?_
                    refine va_get (D := (dC, dI)) (ci := 11) (v := .ref a_0_xs) (C := "SpaceCyclesModel") (T := F_Mo) (N := 54) hx hb hts (in_F i_Mo) hown hK hP 0 rfl rfl 13 (by decide) (hts _ (in_c k_302)) (fun _ h9 => h9) rfl d_Mo_layGrid_435 ?_
                    refine lv_iload_n hx hb d_Mo_layGrid_438 rfl (lv_at hl 1 rfl) ?_
                    obtain ⟨hi150, hm⟩ := gI_e hm
                    refine va_iald hx hb hK hP 5 0 rfl rfl hi150 d_Mo_layGrid_439 ?_
                    refine lv_aload_n hx hb d_Mo_layGrid_440 rfl (lv_at hl 0 rfl) ?_
                    refine va_get (D := (dC, dI)) (ci := 11) (v := .ref a_0_ys) (C := "SpaceCyclesModel") (T := F_Mo) (N := 54) hx hb hts (in_F i_Mo) hown hK hP 0 rfl rfl 14 (by decide) (hts _ (in_c k_306)) (fun _ h9 => h9) rfl d_Mo_layGrid_441 ?_
                    refine lv_iload_n hx hb d_Mo_layGrid_444 rfl (lv_at hl 2 rfl) ?_
                    obtain ⟨hi151, hm⟩ := gI_e hm
                    refine va_iald hx hb hK hP 6 0 rfl rfl hi151 d_Mo_layGrid_445 ?_
                    obtain ⟨r152, hb153, hm⟩ := bd1_e hm
                    have hPc := hP.sub (ws' := (wl_Mo_isOn a_0 a_0_isFlat a_0_across a_0_lows a_0_highs b_0_thick b_0_doorCounts b_0_doorFrom b_0_doorTo a_0_xs a_0_ys b_0_labels b_0_oldXs b_0_oldYs b_0_oldLabels b_0_names b_0_oldNames b_0_wanted b_0_common a_0_flatEdges a_0_upEdges a_0_isPoint b_0_stack b_0_pieceLines b_0_pieceBegins b_0_pieceEnds b_0_pieceLeft b_0_pieceRight b_0_outs b_0_isSeen b_0_ringSpaces b_0_ringStarts b_0_ringSizes b_0_ringLeast b_0_looseLines b_0_looseXs b_0_looseYs b_0_looseReaches b_0_far cZ cI v_0_code v_0_lines v_0_isFresh v_0_hasRun v_0_runs x6 x7 v_0_spaces v_0_oldNx v_0_oldNy v_0_oldSpaces x137 v_0_pieces v_0_rings v_0_outsideSides v_0_looseCount f_0_isFlat f_0_across f_0_lows f_0_highs)) [0, 1, 2, 3, 4] rfl
                    have hDc := hD.sub (ws' := (wl_Mo_isOn a_0 a_0_isFlat a_0_across a_0_lows a_0_highs b_0_thick b_0_doorCounts b_0_doorFrom b_0_doorTo a_0_xs a_0_ys b_0_labels b_0_oldXs b_0_oldYs b_0_oldLabels b_0_names b_0_oldNames b_0_wanted b_0_common a_0_flatEdges a_0_upEdges a_0_isPoint b_0_stack b_0_pieceLines b_0_pieceBegins b_0_pieceEnds b_0_pieceLeft b_0_pieceRight b_0_outs b_0_isSeen b_0_ringSpaces b_0_ringStarts b_0_ringSizes b_0_ringLeast b_0_looseLines b_0_looseXs b_0_looseYs b_0_looseReaches b_0_far cZ cI v_0_code v_0_lines v_0_isFresh v_0_hasRun v_0_runs x6 x7 v_0_spaces v_0_oldNx v_0_oldNy v_0_oldSpaces x137 v_0_pieces v_0_rings v_0_outsideSides v_0_looseCount f_0_isFlat f_0_across f_0_lows f_0_highs)) [0, 1, 2, 3, 4] (by decide) rfl
                    refine cl_i (wc' := (wl_Mo_isOn a_0 a_0_isFlat a_0_across a_0_lows a_0_highs b_0_thick b_0_doorCounts b_0_doorFrom b_0_doorTo a_0_xs a_0_ys b_0_labels b_0_oldXs b_0_oldYs b_0_oldLabels b_0_names b_0_oldNames b_0_wanted b_0_common a_0_flatEdges a_0_upEdges a_0_isPoint b_0_stack b_0_pieceLines b_0_pieceBegins b_0_pieceEnds b_0_pieceLeft b_0_pieceRight b_0_outs b_0_isSeen b_0_ringSpaces b_0_ringStarts b_0_ringSizes b_0_ringLeast b_0_looseLines b_0_looseXs b_0_looseYs b_0_looseReaches b_0_far cZ cI v_0_code v_0_lines v_0_isFresh v_0_hasRun v_0_runs x6 x7 v_0_spaces v_0_oldNx v_0_oldNy v_0_oldSpaces x137 v_0_pieces v_0_rings v_0_outsideSides v_0_looseCount f_0_isFlat f_0_across f_0_lows f_0_highs)) (va_runV (As := [.int x145, .int (f8 x129.toNatClampNeg), .int (f9 x136.toNatClampNeg)]) (rest := [.int x143]) ⟨hx, hb, hml, hown, hts⟩ (c_Mo_isOn l dC dI (cI := cI) (cZ := cZ) (cJ := cJ) a_0 a_0_isFlat a_0_across a_0_lows a_0_highs b_0_thick b_0_doorCounts b_0_doorFrom b_0_doorTo a_0_xs a_0_ys b_0_labels b_0_oldXs b_0_oldYs b_0_oldLabels b_0_names b_0_oldNames b_0_wanted b_0_common a_0_flatEdges a_0_upEdges a_0_isPoint b_0_stack b_0_pieceLines b_0_pieceBegins b_0_pieceEnds b_0_pieceLeft b_0_pieceRight b_0_outs b_0_isSeen b_0_ringSpaces b_0_ringStarts b_0_ringSizes b_0_ringLeast b_0_looseLines b_0_looseXs b_0_looseYs b_0_looseReaches b_0_far H.size v_0_code v_0_lines v_0_isFresh v_0_hasRun v_0_runs x6 x7 v_0_spaces v_0_oldNx v_0_oldNy v_0_oldSpaces x137 v_0_pieces v_0_rings v_0_outsideSides v_0_looseCount f_0_isFlat f_0_across f_0_lows f_0_highs x145 (f8 x129.toNatClampNeg) (f9 x136.toNatClampNeg) r152 hb153) (cwV 3 hts (gl_V k_299 k_298 k_297 k_277 k_296) rfl rfl rfl (by decide +kernel) ⟨Nat.le_of_ble_eq_true rfl, Nat.le_of_ble_eq_true rfl⟩) ⟨PP_blind, va_recv hK hPc (ci := 11) (q0 := 0) rfl rfl, fun U hU hW => PP_at hK hN hPc hDc hU hW⟩ rfl rfl hl.1 rfl (lv_room (Nat.le_of_ble_eq_true rfl)) d_Mo_layGrid_446 ⟨Nat.zero_le _, Nat.zero_le _⟩) hP hD hS hA [0, 1, 2, 3, 4] [5, 6, 7, 8, 9] rfl rfl (by decide) (by decide) (fun H locs hP hD hS => ?_)
                    have hP : va_P (dC, dI) vwCl (wl_Mo_layGrid a_0 a_0_isFlat a_0_across a_0_lows a_0_highs a_0_xs a_0_ys a_0_flatEdges a_0_upEdges a_0_isPoint b_0_thick b_0_doorCounts b_0_doorFrom b_0_doorTo b_0_labels b_0_oldXs b_0_oldYs b_0_oldLabels b_0_names b_0_oldNames b_0_wanted b_0_common b_0_stack b_0_pieceLines b_0_pieceBegins b_0_pieceEnds b_0_pieceLeft b_0_pieceRight b_0_outs b_0_isSeen b_0_ringSpaces b_0_ringStarts b_0_ringSizes b_0_ringLeast b_0_looseLines b_0_looseXs b_0_looseYs b_0_looseReaches b_0_far cZ cI v_0_code v_0_lines v_0_isFresh v_0_hasRun v_0_runs x6 x7 v_0_spaces v_0_oldNx v_0_oldNy v_0_oldSpaces x137 v_0_pieces v_0_rings v_0_outsideSides v_0_looseCount f_0_isFlat f_0_across f_0_lows f_0_highs f8 f9 f67 f68 f138) H := hP.sub [5, 6, 7, 8, 9, 0, 1, 2, 3, 4] rfl
                    have hD : va_D A (wl_Mo_layGrid a_0 a_0_isFlat a_0_across a_0_lows a_0_highs a_0_xs a_0_ys a_0_flatEdges a_0_upEdges a_0_isPoint b_0_thick b_0_doorCounts b_0_doorFrom b_0_doorTo b_0_labels b_0_oldXs b_0_oldYs b_0_oldLabels b_0_names b_0_oldNames b_0_wanted b_0_common b_0_stack b_0_pieceLines b_0_pieceBegins b_0_pieceEnds b_0_pieceLeft b_0_pieceRight b_0_outs b_0_isSeen b_0_ringSpaces b_0_ringStarts b_0_ringSizes b_0_ringLeast b_0_looseLines b_0_looseXs b_0_looseYs b_0_looseReaches b_0_far cZ cI v_0_code v_0_lines v_0_isFresh v_0_hasRun v_0_runs x6 x7 v_0_spaces v_0_oldNx v_0_oldNy v_0_oldSpaces x137 v_0_pieces v_0_rings v_0_outsideSides v_0_looseCount f_0_isFlat f_0_across f_0_lows f_0_highs f8 f9 f67 f68 f138) := hD.sub [5, 6, 7, 8, 9, 0, 1, 2, 3, 4] (by decide) rfl
                    obtain ⟨x157, hb155, hm⟩ := bd1_e hm
                    have K154 : ∀ (H : Heap) (locs : List Loc) (ls : Array Slot), va_P (dC, dI) vwCl (wl_Mo_layGrid a_0 a_0_isFlat a_0_across a_0_lows a_0_highs a_0_xs a_0_ys a_0_flatEdges a_0_upEdges a_0_isPoint b_0_thick b_0_doorCounts b_0_doorFrom b_0_doorTo b_0_labels b_0_oldXs b_0_oldYs b_0_oldLabels b_0_names b_0_oldNames b_0_wanted b_0_common b_0_stack b_0_pieceLines b_0_pieceBegins b_0_pieceEnds b_0_pieceLeft b_0_pieceRight b_0_outs b_0_isSeen b_0_ringSpaces b_0_ringStarts b_0_ringSizes b_0_ringLeast b_0_looseLines b_0_looseXs b_0_looseYs b_0_looseReaches b_0_far cZ cI v_0_code v_0_lines v_0_isFresh v_0_hasRun v_0_runs x6 x7 v_0_spaces v_0_oldNx v_0_oldNy v_0_oldSpaces x137 v_0_pieces v_0_rings v_0_outsideSides v_0_looseCount f_0_isFlat f_0_across f_0_lows f_0_highs f8 f9 f67 f68 f138) H → va_D A (wl_Mo_layGrid a_0 a_0_isFlat a_0_across a_0_lows a_0_highs a_0_xs a_0_ys a_0_flatEdges a_0_upEdges a_0_isPoint b_0_thick b_0_doorCounts b_0_doorFrom b_0_doorTo b_0_labels b_0_oldXs b_0_oldYs b_0_oldLabels b_0_names b_0_oldNames b_0_wanted b_0_common b_0_stack b_0_pieceLines b_0_pieceBegins b_0_pieceEnds b_0_pieceLeft b_0_pieceRight b_0_outs b_0_isSeen b_0_ringSpaces b_0_ringStarts b_0_ringSizes b_0_ringLeast b_0_looseLines b_0_looseXs b_0_looseYs b_0_looseReaches b_0_far cZ cI v_0_code v_0_lines v_0_isFresh v_0_hasRun v_0_runs x6 x7 v_0_spaces v_0_oldNx v_0_oldNy v_0_oldSpaces x137 v_0_pieces v_0_rings v_0_outsideSides v_0_looseCount f_0_isFlat f_0_across f_0_lows f_0_highs f8 f9 f67 f68 f138) → va_S A s.heap H locs → lv_has ls 6 [(0, .ref a_0), (1, .int x129), (2, .int x136), (4, .int x144), (5, .int x145)] → W p l e rm_Mo_layGrid s m args below meth c H locs 0 0 Q (F0 m 457 ls [.int x157, .int x143]) := by
                      intro H locs ls hP hD hS hl
                      refine lv_iadd hx hb d_Mo_layGrid_457 ?_
                      refine lv_topi (fun x159 ex159 => ?_)
                      replace hm := lt_el hm ex159
                      refine lv_istore_n (lv' := [(3, .int x159), (0, .ref a_0), (1, .int x129), (2, .int x136), (4, .int x144), (5, .int x145)]) hx hb d_Mo_layGrid_458 rfl hl (by decide) rfl (fun ls hl => ?_)
                      refine lv_iload hx hb d_Mo_layGrid_459 (lv_at hl 4 rfl) ?_
                      obtain ⟨x163, hb161, hm⟩ := bd1_e hm
                      have K160 : ∀ (H : Heap) (locs : List Loc) (ls : Array Slot), va_P (dC, dI) vwCl (wl_Mo_layGrid a_0 a_0_isFlat a_0_across a_0_lows a_0_highs a_0_xs a_0_ys a_0_flatEdges a_0_upEdges a_0_isPoint b_0_thick b_0_doorCounts b_0_doorFrom b_0_doorTo b_0_labels b_0_oldXs b_0_oldYs b_0_oldLabels b_0_names b_0_oldNames b_0_wanted b_0_common b_0_stack b_0_pieceLines b_0_pieceBegins b_0_pieceEnds b_0_pieceLeft b_0_pieceRight b_0_outs b_0_isSeen b_0_ringSpaces b_0_ringStarts b_0_ringSizes b_0_ringLeast b_0_looseLines b_0_looseXs b_0_looseYs b_0_looseReaches b_0_far cZ cI v_0_code v_0_lines v_0_isFresh v_0_hasRun v_0_runs x6 x7 v_0_spaces v_0_oldNx v_0_oldNy v_0_oldSpaces x137 v_0_pieces v_0_rings v_0_outsideSides v_0_looseCount f_0_isFlat f_0_across f_0_lows f_0_highs f8 f9 f67 f68 f138) H → va_D A (wl_Mo_layGrid a_0 a_0_isFlat a_0_across a_0_lows a_0_highs a_0_xs a_0_ys a_0_flatEdges a_0_upEdges a_0_isPoint b_0_thick b_0_doorCounts b_0_doorFrom b_0_doorTo b_0_labels b_0_oldXs b_0_oldYs b_0_oldLabels b_0_names b_0_oldNames b_0_wanted b_0_common b_0_stack b_0_pieceLines b_0_pieceBegins b_0_pieceEnds b_0_pieceLeft b_0_pieceRight b_0_outs b_0_isSeen b_0_ringSpaces b_0_ringStarts b_0_ringSizes b_0_ringLeast b_0_looseLines b_0_looseXs b_0_looseYs b_0_looseReaches b_0_far cZ cI v_0_code v_0_lines v_0_isFresh v_0_hasRun v_0_runs x6 x7 v_0_spaces v_0_oldNx v_0_oldNy v_0_oldSpaces x137 v_0_pieces v_0_rings v_0_outsideSides v_0_looseCount f_0_isFlat f_0_across f_0_lows f_0_highs f8 f9 f67 f68 f138) → va_S A s.heap H locs → lv_has ls 6 [(0, .ref a_0), (1, .int x129), (2, .int x136), (3, .int x159), (5, .int x145)] → W p l e rm_Mo_layGrid s m args below meth c H locs 0 0 Q (F0 m 490 ls [.int x163]) := by
                        intro H locs ls hP hD hS hl
                        refine lv_istore (lv' := [(4, .int x163), (0, .ref a_0), (1, .int x129), (2, .int x136), (3, .int x159), (5, .int x145)]) hx hb d_Mo_layGrid_490 hl (by decide) rfl (fun ls hl => ?_)
                        obtain ⟨x170, ex170⟩ : ∃ y : Int32, y = x145 + 1 := ⟨_, rfl⟩
                        replace hm := lt_el hm ex170
                        refine lv_iinc (v := x170) (lv' := [(5, .int x170), (4, .int x163), (0, .ref a_0), (1, .int x129), (2, .int x136), (3, .int x159)]) hx hb d_Mo_layGrid_492 hl (k := 5) rfl (by rw [ex170]; rfl) (by decide) rfl (fun ls hl => ?_)
                        refine lv_goto (tgt := 421) hx hb d_Mo_layGrid_495 (by decide) ?_
                        exact ih _ _ _ _ _ hm KE H locs ls hP hD hS (lv_sub hl [2, 3, 4, 5, 1, 0] rfl)
                      replace hm := hb161
                      refine lv_if_ne (tgt := 485) hx hb d_Mo_layGrid_461 (by decide) (fun c164 => ?_) (fun c164 => ?_)
                      · replace hm := if_f hm c164
                        refine lv_iconst (v := 1) hx hb d_Mo_layGrid_485 (by decide) ?_
                        refine lv_goto (tgt := 490) hx hb d_Mo_layGrid_486 (by decide) ?_
                        cases hm
                        exact K160 H locs ls hP hD hS (lv_sub hl [1, 2, 3, 0, 5] rfl)
                      · replace hm := if_t hm c164
                        refine lv_aload_n hx hb d_Mo_layGrid_464 rfl (lv_at hl 1 rfl) ?_
                        refine lv_iload hx hb d_Mo_layGrid_465 (lv_at hl 5 rfl) ?_
                        refine lv_aload_n hx hb d_Mo_layGrid_467 rfl (lv_at hl 1 rfl) ?_
                        refine va_get (D := (dC, dI)) (ci := 11) (v := .ref a_0_xs) (C := "SpaceCyclesModel") (T := F_Mo) (N := 54) hx hb hts (in_F i_Mo) hown hK hP 0 rfl rfl 13 (by decide) (hts _ (in_c k_302)) (fun _ h9 => h9) rfl d_Mo_layGrid_468 ?_
                        refine lv_iload_n hx hb d_Mo_layGrid_471 rfl (lv_at hl 2 rfl) ?_
                        obtain ⟨hi165, hm⟩ := gI_e hm
                        refine va_iald hx hb hK hP 5 0 rfl rfl hi165 d_Mo_layGrid_472 ?_
                        refine lv_aload_n hx hb d_Mo_layGrid_473 rfl (lv_at hl 1 rfl) ?_
                        refine va_get (D := (dC, dI)) (ci := 11) (v := .ref a_0_ys) (C := "SpaceCyclesModel") (T := F_Mo) (N := 54) hx hb hts (in_F i_Mo) hown hK hP 0 rfl rfl 14 (by decide) (hts _ (in_c k_306)) (fun _ h9 => h9) rfl d_Mo_layGrid_474 ?_
                        refine lv_iload_n hx hb d_Mo_layGrid_477 rfl (lv_at hl 3 rfl) ?_
                        obtain ⟨hi166, hm⟩ := gI_e hm
                        refine va_iald hx hb hK hP 6 0 rfl rfl hi166 d_Mo_layGrid_478 ?_
                        obtain ⟨r167, hb168, hm⟩ := bd1_e hm
                        have hPc := hP.sub (ws' := (wl_Mo_isEnd a_0 a_0_isFlat a_0_across a_0_lows a_0_highs b_0_thick b_0_doorCounts b_0_doorFrom b_0_doorTo a_0_xs a_0_ys b_0_labels b_0_oldXs b_0_oldYs b_0_oldLabels b_0_names b_0_oldNames b_0_wanted b_0_common a_0_flatEdges a_0_upEdges a_0_isPoint b_0_stack b_0_pieceLines b_0_pieceBegins b_0_pieceEnds b_0_pieceLeft b_0_pieceRight b_0_outs b_0_isSeen b_0_ringSpaces b_0_ringStarts b_0_ringSizes b_0_ringLeast b_0_looseLines b_0_looseXs b_0_looseYs b_0_looseReaches b_0_far cZ cI v_0_code v_0_lines v_0_isFresh v_0_hasRun v_0_runs x6 x7 v_0_spaces v_0_oldNx v_0_oldNy v_0_oldSpaces x137 v_0_pieces v_0_rings v_0_outsideSides v_0_looseCount f_0_isFlat f_0_across f_0_lows f_0_highs)) [0, 1, 2, 3, 4] rfl
                        have hDc := hD.sub (ws' := (wl_Mo_isEnd a_0 a_0_isFlat a_0_across a_0_lows a_0_highs b_0_thick b_0_doorCounts b_0_doorFrom b_0_doorTo a_0_xs a_0_ys b_0_labels b_0_oldXs b_0_oldYs b_0_oldLabels b_0_names b_0_oldNames b_0_wanted b_0_common a_0_flatEdges a_0_upEdges a_0_isPoint b_0_stack b_0_pieceLines b_0_pieceBegins b_0_pieceEnds b_0_pieceLeft b_0_pieceRight b_0_outs b_0_isSeen b_0_ringSpaces b_0_ringStarts b_0_ringSizes b_0_ringLeast b_0_looseLines b_0_looseXs b_0_looseYs b_0_looseReaches b_0_far cZ cI v_0_code v_0_lines v_0_isFresh v_0_hasRun v_0_runs x6 x7 v_0_spaces v_0_oldNx v_0_oldNy v_0_oldSpaces x137 v_0_pieces v_0_rings v_0_outsideSides v_0_looseCount f_0_isFlat f_0_across f_0_lows f_0_highs)) [0, 1, 2, 3, 4] (by decide) rfl
                        refine cl_i (wc' := (wl_Mo_isEnd a_0 a_0_isFlat a_0_across a_0_lows a_0_highs b_0_thick b_0_doorCounts b_0_doorFrom b_0_doorTo a_0_xs a_0_ys b_0_labels b_0_oldXs b_0_oldYs b_0_oldLabels b_0_names b_0_oldNames b_0_wanted b_0_common a_0_flatEdges a_0_upEdges a_0_isPoint b_0_stack b_0_pieceLines b_0_pieceBegins b_0_pieceEnds b_0_pieceLeft b_0_pieceRight b_0_outs b_0_isSeen b_0_ringSpaces b_0_ringStarts b_0_ringSizes b_0_ringLeast b_0_looseLines b_0_looseXs b_0_looseYs b_0_looseReaches b_0_far cZ cI v_0_code v_0_lines v_0_isFresh v_0_hasRun v_0_runs x6 x7 v_0_spaces v_0_oldNx v_0_oldNy v_0_oldSpaces x137 v_0_pieces v_0_rings v_0_outsideSides v_0_looseCount f_0_isFlat f_0_across f_0_lows f_0_highs)) (va_runV (As := [.int x145, .int (f8 x129.toNatClampNeg), .int (f9 x136.toNatClampNeg)]) (rest := []) ⟨hx, hb, hml, hown, hts⟩ (c_Mo_isEnd l dC dI (cI := cI) (cZ := cZ) (cJ := cJ) a_0 a_0_isFlat a_0_across a_0_lows a_0_highs b_0_thick b_0_doorCounts b_0_doorFrom b_0_doorTo a_0_xs a_0_ys b_0_labels b_0_oldXs b_0_oldYs b_0_oldLabels b_0_names b_0_oldNames b_0_wanted b_0_common a_0_flatEdges a_0_upEdges a_0_isPoint b_0_stack b_0_pieceLines b_0_pieceBegins b_0_pieceEnds b_0_pieceLeft b_0_pieceRight b_0_outs b_0_isSeen b_0_ringSpaces b_0_ringStarts b_0_ringSizes b_0_ringLeast b_0_looseLines b_0_looseXs b_0_looseYs b_0_looseReaches b_0_far H.size v_0_code v_0_lines v_0_isFresh v_0_hasRun v_0_runs x6 x7 v_0_spaces v_0_oldNx v_0_oldNy v_0_oldSpaces x137 v_0_pieces v_0_rings v_0_outsideSides v_0_looseCount f_0_isFlat f_0_across f_0_lows f_0_highs x145 (f8 x129.toNatClampNeg) (f9 x136.toNatClampNeg) r167 hb168) (cwV 3 hts (gl_V k_317 k_316 k_315 k_277 k_314) rfl rfl rfl (by decide +kernel) ⟨Nat.le_of_ble_eq_true rfl, Nat.le_of_ble_eq_true rfl⟩) ⟨PP_blind, va_recv hK hPc (ci := 11) (q0 := 0) rfl rfl, fun U hU hW => PP_at hK hN hPc hDc hU hW⟩ rfl rfl hl.1 rfl (lv_room (Nat.le_of_ble_eq_true rfl)) d_Mo_layGrid_479 ⟨Nat.zero_le _, Nat.zero_le _⟩) hP hD hS hA [0, 1, 2, 3, 4] [5, 6, 7, 8, 9] rfl rfl (by decide) (by decide) (fun H locs hP hD hS => ?_)
                        have hP : va_P (dC, dI) vwCl (wl_Mo_layGrid a_0 a_0_isFlat a_0_across a_0_lows a_0_highs a_0_xs a_0_ys a_0_flatEdges a_0_upEdges a_0_isPoint b_0_thick b_0_doorCounts b_0_doorFrom b_0_doorTo b_0_labels b_0_oldXs b_0_oldYs b_0_oldLabels b_0_names b_0_oldNames b_0_wanted b_0_common b_0_stack b_0_pieceLines b_0_pieceBegins b_0_pieceEnds b_0_pieceLeft b_0_pieceRight b_0_outs b_0_isSeen b_0_ringSpaces b_0_ringStarts b_0_ringSizes b_0_ringLeast b_0_looseLines b_0_looseXs b_0_looseYs b_0_looseReaches b_0_far cZ cI v_0_code v_0_lines v_0_isFresh v_0_hasRun v_0_runs x6 x7 v_0_spaces v_0_oldNx v_0_oldNy v_0_oldSpaces x137 v_0_pieces v_0_rings v_0_outsideSides v_0_looseCount f_0_isFlat f_0_across f_0_lows f_0_highs f8 f9 f67 f68 f138) H := hP.sub [5, 6, 7, 8, 9, 0, 1, 2, 3, 4] rfl
                        have hD : va_D A (wl_Mo_layGrid a_0 a_0_isFlat a_0_across a_0_lows a_0_highs a_0_xs a_0_ys a_0_flatEdges a_0_upEdges a_0_isPoint b_0_thick b_0_doorCounts b_0_doorFrom b_0_doorTo b_0_labels b_0_oldXs b_0_oldYs b_0_oldLabels b_0_names b_0_oldNames b_0_wanted b_0_common b_0_stack b_0_pieceLines b_0_pieceBegins b_0_pieceEnds b_0_pieceLeft b_0_pieceRight b_0_outs b_0_isSeen b_0_ringSpaces b_0_ringStarts b_0_ringSizes b_0_ringLeast b_0_looseLines b_0_looseXs b_0_looseYs b_0_looseReaches b_0_far cZ cI v_0_code v_0_lines v_0_isFresh v_0_hasRun v_0_runs x6 x7 v_0_spaces v_0_oldNx v_0_oldNy v_0_oldSpaces x137 v_0_pieces v_0_rings v_0_outsideSides v_0_looseCount f_0_isFlat f_0_across f_0_lows f_0_highs f8 f9 f67 f68 f138) := hD.sub [5, 6, 7, 8, 9, 0, 1, 2, 3, 4] (by decide) rfl
                        refine lv_if_eq (tgt := 489) hx hb d_Mo_layGrid_482 (by decide) (fun c169 => ?_) (fun c169 => ?_)
                        · replace hm := if_t hm c169
                          refine lv_iconst (v := 0) hx hb d_Mo_layGrid_489 (by decide) ?_
                          cases hm
                          exact K160 H locs ls hP hD hS (lv_sub hl [1, 2, 3, 0, 5] rfl)
                        · replace hm := if_f hm c169
                          refine lv_iconst (v := 1) hx hb d_Mo_layGrid_485 (by decide) ?_
                          refine lv_goto (tgt := 490) hx hb d_Mo_layGrid_486 (by decide) ?_
                          cases hm
                          exact K160 H locs ls hP hD hS (lv_sub hl [1, 2, 3, 0, 5] rfl)
                    replace hm := hb155
                    refine lv_if_eq (tgt := 456) hx hb d_Mo_layGrid_449 (by decide) (fun c158 => ?_) (fun c158 => ?_)
                    · replace hm := if_t hm c158
                      refine lv_iconst (v := 0) hx hb d_Mo_layGrid_456 (by decide) ?_
                      cases hm
                      exact K154 H locs ls hP hD hS (lv_sub hl [0, 1, 2, 4, 5] rfl)
                    · replace hm := if_f hm c158
                      refine lv_iconst (v := 1) hx hb d_Mo_layGrid_452 (by decide) ?_
                      refine lv_goto (tgt := 457) hx hb d_Mo_layGrid_453 (by decide) ?_
                      cases hm
                      exact K154 H locs ls hP hD hS (lv_sub hl [0, 1, 2, 4, 5] rfl)
              obtain ⟨x146, x147, hb171, hm⟩ := bd2_e hm
              refine L421_148 fu _ _ _ _ _ hb171 (fun H locs ls hP hD hS hl => ?_) H locs ls hP hD hS (lv_sub hl [3, 4, 5, 2, 1, 0] rfl)
              refine lv_aload_n hx hb d_Mo_layGrid_498 rfl (lv_at hl 0 rfl) ?_
              refine va_get (D := (dC, dI)) (ci := 11) (v := .ref a_0_isPoint) (C := "SpaceCyclesModel") (T := F_Mo) (N := 54) hx hb hts (in_F i_Mo) hown hK hP 0 rfl rfl 31 (by decide) (hts _ (in_c k_309)) (fun _ h9 => h9) rfl d_Mo_layGrid_499 ?_
              refine lv_bipush (v := 42) hx hb d_Mo_layGrid_502 (by decide) ?_
              refine lv_iload_n hx hb d_Mo_layGrid_504 rfl (lv_at hl 1 rfl) ?_
              refine lv_imul hx hb d_Mo_layGrid_505 ?_
              refine lv_iload_n hx hb d_Mo_layGrid_506 rfl (lv_at hl 2 rfl) ?_
              refine lv_iadd hx hb d_Mo_layGrid_507 ?_
              refine lv_iload hx hb d_Mo_layGrid_508 (lv_at hl 4 rfl) ?_
              obtain ⟨x175, hb173, hm⟩ := bd1_e hm
              have K172 : ∀ (H : Heap) (locs : List Loc) (ls : Array Slot), va_P (dC, dI) vwCl (wl_Mo_layGrid a_0 a_0_isFlat a_0_across a_0_lows a_0_highs a_0_xs a_0_ys a_0_flatEdges a_0_upEdges a_0_isPoint b_0_thick b_0_doorCounts b_0_doorFrom b_0_doorTo b_0_labels b_0_oldXs b_0_oldYs b_0_oldLabels b_0_names b_0_oldNames b_0_wanted b_0_common b_0_stack b_0_pieceLines b_0_pieceBegins b_0_pieceEnds b_0_pieceLeft b_0_pieceRight b_0_outs b_0_isSeen b_0_ringSpaces b_0_ringStarts b_0_ringSizes b_0_ringLeast b_0_looseLines b_0_looseXs b_0_looseYs b_0_looseReaches b_0_far cZ cI v_0_code v_0_lines v_0_isFresh v_0_hasRun v_0_runs x6 x7 v_0_spaces v_0_oldNx v_0_oldNy v_0_oldSpaces x137 v_0_pieces v_0_rings v_0_outsideSides v_0_looseCount f_0_isFlat f_0_across f_0_lows f_0_highs f8 f9 f67 f68 f138) H → va_D A (wl_Mo_layGrid a_0 a_0_isFlat a_0_across a_0_lows a_0_highs a_0_xs a_0_ys a_0_flatEdges a_0_upEdges a_0_isPoint b_0_thick b_0_doorCounts b_0_doorFrom b_0_doorTo b_0_labels b_0_oldXs b_0_oldYs b_0_oldLabels b_0_names b_0_oldNames b_0_wanted b_0_common b_0_stack b_0_pieceLines b_0_pieceBegins b_0_pieceEnds b_0_pieceLeft b_0_pieceRight b_0_outs b_0_isSeen b_0_ringSpaces b_0_ringStarts b_0_ringSizes b_0_ringLeast b_0_looseLines b_0_looseXs b_0_looseYs b_0_looseReaches b_0_far cZ cI v_0_code v_0_lines v_0_isFresh v_0_hasRun v_0_runs x6 x7 v_0_spaces v_0_oldNx v_0_oldNy v_0_oldSpaces x137 v_0_pieces v_0_rings v_0_outsideSides v_0_looseCount f_0_isFlat f_0_across f_0_lows f_0_highs f8 f9 f67 f68 f138) → va_S A s.heap H locs → lv_has ls 6 [(0, .ref a_0), (1, .int x129), (2, .int x136), (3, .int x146), (4, .int x147)] → W p l e rm_Mo_layGrid s m args below meth c H locs 0 0 Q (F0 m 523 ls [.int x175, .int ((42 * x129) + x136), .ref a_0_isPoint]) := by
                intro H locs ls hP hD hS hl
                obtain ⟨hi178, hm⟩ := gI_e hm
                obtain ⟨f179, ef179⟩ : ∃ y : Nat → Int32, y = upd f138 ((42 * x129) + x136).toNatClampNeg (vp_nar .boolean x175) := ⟨_, rfl⟩
                replace hm := lt_el hm ef179
                refine va_zast hx hb hK hP hD hS 9 1 rfl rfl hi178 d_Mo_layGrid_523 (fun H locs hP hD hS => ?_)
                rw [← ef179] at hP hD
                have hP : va_P (dC, dI) vwCl (wl_Mo_layGrid a_0 a_0_isFlat a_0_across a_0_lows a_0_highs a_0_xs a_0_ys a_0_flatEdges a_0_upEdges a_0_isPoint b_0_thick b_0_doorCounts b_0_doorFrom b_0_doorTo b_0_labels b_0_oldXs b_0_oldYs b_0_oldLabels b_0_names b_0_oldNames b_0_wanted b_0_common b_0_stack b_0_pieceLines b_0_pieceBegins b_0_pieceEnds b_0_pieceLeft b_0_pieceRight b_0_outs b_0_isSeen b_0_ringSpaces b_0_ringStarts b_0_ringSizes b_0_ringLeast b_0_looseLines b_0_looseXs b_0_looseYs b_0_looseReaches b_0_far cZ cI v_0_code v_0_lines v_0_isFresh v_0_hasRun v_0_runs x6 x7 v_0_spaces v_0_oldNx v_0_oldNy v_0_oldSpaces x137 v_0_pieces v_0_rings v_0_outsideSides v_0_looseCount f_0_isFlat f_0_across f_0_lows f_0_highs f8 f9 f67 f68 f179) H := hP
                have hD : va_D A (wl_Mo_layGrid a_0 a_0_isFlat a_0_across a_0_lows a_0_highs a_0_xs a_0_ys a_0_flatEdges a_0_upEdges a_0_isPoint b_0_thick b_0_doorCounts b_0_doorFrom b_0_doorTo b_0_labels b_0_oldXs b_0_oldYs b_0_oldLabels b_0_names b_0_oldNames b_0_wanted b_0_common b_0_stack b_0_pieceLines b_0_pieceBegins b_0_pieceEnds b_0_pieceLeft b_0_pieceRight b_0_outs b_0_isSeen b_0_ringSpaces b_0_ringStarts b_0_ringSizes b_0_ringLeast b_0_looseLines b_0_looseXs b_0_looseYs b_0_looseReaches b_0_far cZ cI v_0_code v_0_lines v_0_isFresh v_0_hasRun v_0_runs x6 x7 v_0_spaces v_0_oldNx v_0_oldNy v_0_oldSpaces x137 v_0_pieces v_0_rings v_0_outsideSides v_0_looseCount f_0_isFlat f_0_across f_0_lows f_0_highs f8 f9 f67 f68 f179) := hD
                refine lv_aload_n hx hb d_Mo_layGrid_524 rfl (lv_at hl 0 rfl) ?_
                refine lv_dup hx hb d_Mo_layGrid_525 rfl ?_
                refine va_get (D := (dC, dI)) (ci := 11) (v := .int x137) (C := "SpaceCyclesModel") (T := F_Mo) (N := 54) hx hb hts (in_F i_Mo) hown hK hP 0 rfl rfl 32 (by decide) (hts _ (in_c k_313)) (fun _ h9 => h9) rfl d_Mo_layGrid_526 ?_
                refine lv_iload hx hb d_Mo_layGrid_529 (lv_at hl 4 rfl) ?_
                obtain ⟨x183, hb181, hm⟩ := bd1_e hm
                have K180 : ∀ (H : Heap) (locs : List Loc) (ls : Array Slot), va_P (dC, dI) vwCl (wl_Mo_layGrid a_0 a_0_isFlat a_0_across a_0_lows a_0_highs a_0_xs a_0_ys a_0_flatEdges a_0_upEdges a_0_isPoint b_0_thick b_0_doorCounts b_0_doorFrom b_0_doorTo b_0_labels b_0_oldXs b_0_oldYs b_0_oldLabels b_0_names b_0_oldNames b_0_wanted b_0_common b_0_stack b_0_pieceLines b_0_pieceBegins b_0_pieceEnds b_0_pieceLeft b_0_pieceRight b_0_outs b_0_isSeen b_0_ringSpaces b_0_ringStarts b_0_ringSizes b_0_ringLeast b_0_looseLines b_0_looseXs b_0_looseYs b_0_looseReaches b_0_far cZ cI v_0_code v_0_lines v_0_isFresh v_0_hasRun v_0_runs x6 x7 v_0_spaces v_0_oldNx v_0_oldNy v_0_oldSpaces x137 v_0_pieces v_0_rings v_0_outsideSides v_0_looseCount f_0_isFlat f_0_across f_0_lows f_0_highs f8 f9 f67 f68 f179) H → va_D A (wl_Mo_layGrid a_0 a_0_isFlat a_0_across a_0_lows a_0_highs a_0_xs a_0_ys a_0_flatEdges a_0_upEdges a_0_isPoint b_0_thick b_0_doorCounts b_0_doorFrom b_0_doorTo b_0_labels b_0_oldXs b_0_oldYs b_0_oldLabels b_0_names b_0_oldNames b_0_wanted b_0_common b_0_stack b_0_pieceLines b_0_pieceBegins b_0_pieceEnds b_0_pieceLeft b_0_pieceRight b_0_outs b_0_isSeen b_0_ringSpaces b_0_ringStarts b_0_ringSizes b_0_ringLeast b_0_looseLines b_0_looseXs b_0_looseYs b_0_looseReaches b_0_far cZ cI v_0_code v_0_lines v_0_isFresh v_0_hasRun v_0_runs x6 x7 v_0_spaces v_0_oldNx v_0_oldNy v_0_oldSpaces x137 v_0_pieces v_0_rings v_0_outsideSides v_0_looseCount f_0_isFlat f_0_across f_0_lows f_0_highs f8 f9 f67 f68 f179) → va_S A s.heap H locs → lv_has ls 6 [(0, .ref a_0), (1, .int x129), (2, .int x136)] → W p l e rm_Mo_layGrid s m args below meth c H locs 0 0 Q (F0 m 544 ls [.int x183, .int x137, .ref a_0]) := by
                  intro H locs ls hP hD hS hl
                  refine lv_iadd hx hb d_Mo_layGrid_544 ?_
                  refine lv_topi (fun x186 ex186 => ?_)
                  replace hm := lt_el hm ex186
                  refine va_put (D := (dC, dI)) (ci := 11) (v := .int x186) (ty := .int) (C := "SpaceCyclesModel") (T := F_Mo) (N := 54) hx hb hts (in_F i_Mo) t_Mo t_Mo_ok n_Mo hown hK hP hD hS 0 rfl rfl 32 (by decide) (hts _ (in_c k_313)) (fun _ h9 => h9) rfl (by decide +kernel) rfl rfl (Nat.le_of_ble_eq_true rfl) d_Mo_layGrid_545 (fun H locs hP hD hS => ?_)
                  have hP : va_P (dC, dI) vwCl (wl_Mo_layGrid a_0 a_0_isFlat a_0_across a_0_lows a_0_highs a_0_xs a_0_ys a_0_flatEdges a_0_upEdges a_0_isPoint b_0_thick b_0_doorCounts b_0_doorFrom b_0_doorTo b_0_labels b_0_oldXs b_0_oldYs b_0_oldLabels b_0_names b_0_oldNames b_0_wanted b_0_common b_0_stack b_0_pieceLines b_0_pieceBegins b_0_pieceEnds b_0_pieceLeft b_0_pieceRight b_0_outs b_0_isSeen b_0_ringSpaces b_0_ringStarts b_0_ringSizes b_0_ringLeast b_0_looseLines b_0_looseXs b_0_looseYs b_0_looseReaches b_0_far cZ cI v_0_code v_0_lines v_0_isFresh v_0_hasRun v_0_runs x6 x7 v_0_spaces v_0_oldNx v_0_oldNy v_0_oldSpaces x186 v_0_pieces v_0_rings v_0_outsideSides v_0_looseCount f_0_isFlat f_0_across f_0_lows f_0_highs f8 f9 f67 f68 f179) H := hP
                  have hD : va_D A (wl_Mo_layGrid a_0 a_0_isFlat a_0_across a_0_lows a_0_highs a_0_xs a_0_ys a_0_flatEdges a_0_upEdges a_0_isPoint b_0_thick b_0_doorCounts b_0_doorFrom b_0_doorTo b_0_labels b_0_oldXs b_0_oldYs b_0_oldLabels b_0_names b_0_oldNames b_0_wanted b_0_common b_0_stack b_0_pieceLines b_0_pieceBegins b_0_pieceEnds b_0_pieceLeft b_0_pieceRight b_0_outs b_0_isSeen b_0_ringSpaces b_0_ringStarts b_0_ringSizes b_0_ringLeast b_0_looseLines b_0_looseXs b_0_looseYs b_0_looseReaches b_0_far cZ cI v_0_code v_0_lines v_0_isFresh v_0_hasRun v_0_runs x6 x7 v_0_spaces v_0_oldNx v_0_oldNy v_0_oldSpaces x186 v_0_pieces v_0_rings v_0_outsideSides v_0_looseCount f_0_isFlat f_0_across f_0_lows f_0_highs f8 f9 f67 f68 f179) := hD
                  obtain ⟨x187, ex187⟩ : ∃ y : Int32, y = x136 + 1 := ⟨_, rfl⟩
                  replace hm := lt_el hm ex187
                  refine lv_iinc (v := x187) (lv' := [(2, .int x187), (0, .ref a_0), (1, .int x129)]) hx hb d_Mo_layGrid_548 hl (k := 2) rfl (by rw [ex187]; rfl) (by decide) rfl (fun ls hl => ?_)
                  refine lv_goto (tgt := 405) hx hb d_Mo_layGrid_551 (by decide) ?_
                  exact ih _ _ _ _ _ hm KE H locs ls hP hD hS (lv_sub hl [1, 2, 0] rfl)
                replace hm := hb181
                refine lv_if_ne (tgt := 539) hx hb d_Mo_layGrid_531 (by decide) (fun c184 => ?_) (fun c184 => ?_)
                · replace hm := if_f hm c184
                  refine lv_iconst (v := 1) hx hb d_Mo_layGrid_539 (by decide) ?_
                  refine lv_goto (tgt := 544) hx hb d_Mo_layGrid_540 (by decide) ?_
                  cases hm
                  exact K180 H locs ls hP hD hS (lv_sub hl [0, 1, 2] rfl)
                · replace hm := if_t hm c184
                  refine lv_iload_n hx hb d_Mo_layGrid_534 rfl (lv_at hl 3 rfl) ?_
                  refine lv_iconst (v := 1) hx hb d_Mo_layGrid_535 (by decide) ?_
                  refine lv_icmp_le (tgt := 543) hx hb d_Mo_layGrid_536 (by decide) (fun c185 => ?_) (fun c185 => ?_)
                  · replace hm := if_t hm c185
                    refine lv_iconst (v := 0) hx hb d_Mo_layGrid_543 (by decide) ?_
                    cases hm
                    exact K180 H locs ls hP hD hS (lv_sub hl [0, 1, 2] rfl)
                  · replace hm := if_f hm c185
                    refine lv_iconst (v := 1) hx hb d_Mo_layGrid_539 (by decide) ?_
                    refine lv_goto (tgt := 544) hx hb d_Mo_layGrid_540 (by decide) ?_
                    cases hm
                    exact K180 H locs ls hP hD hS (lv_sub hl [0, 1, 2] rfl)
              replace hm := hb173
              refine lv_if_ne (tgt := 518) hx hb d_Mo_layGrid_510 (by decide) (fun c176 => ?_) (fun c176 => ?_)
              · replace hm := if_f hm c176
                refine lv_iconst (v := 1) hx hb d_Mo_layGrid_518 (by decide) ?_
                refine lv_goto (tgt := 523) hx hb d_Mo_layGrid_519 (by decide) ?_
                cases hm
                exact K172 H locs ls hP hD hS (lv_sub hl [0, 1, 2, 3, 4] rfl)
              · replace hm := if_t hm c176
                refine lv_iload_n hx hb d_Mo_layGrid_513 rfl (lv_at hl 3 rfl) ?_
                refine lv_iconst (v := 1) hx hb d_Mo_layGrid_514 (by decide) ?_
                refine lv_icmp_le (tgt := 522) hx hb d_Mo_layGrid_515 (by decide) (fun c177 => ?_) (fun c177 => ?_)
                · replace hm := if_t hm c177
                  refine lv_iconst (v := 0) hx hb d_Mo_layGrid_522 (by decide) ?_
                  cases hm
                  exact K172 H locs ls hP hD hS (lv_sub hl [0, 1, 2, 3, 4] rfl)
                · replace hm := if_f hm c177
                  refine lv_iconst (v := 1) hx hb d_Mo_layGrid_518 (by decide) ?_
                  refine lv_goto (tgt := 523) hx hb d_Mo_layGrid_519 (by decide) ?_
                  cases hm
                  exact K172 H locs ls hP hD hS (lv_sub hl [0, 1, 2, 3, 4] rfl)
        obtain ⟨x139, f140, hb188, hm⟩ := bd2_e hm
        refine L405_141 fu _ _ _ _ _ hb188 (fun H locs ls hP hD hS hl => ?_) H locs ls hP hD hS (lv_sub hl [1, 2, 0] rfl)
        obtain ⟨x189, ex189⟩ : ∃ y : Int32, y = x129 + 1 := ⟨_, rfl⟩
        replace hm := lt_el hm ex189
        refine lv_iinc (v := x189) (lv' := [(1, .int x189), (0, .ref a_0)]) hx hb d_Mo_layGrid_554 hl (k := 1) rfl (by rw [ex189]; rfl) (by decide) rfl (fun ls hl => ?_)
        refine lv_goto (tgt := 395) hx hb d_Mo_layGrid_557 (by decide) ?_
        exact ih _ _ _ _ _ hm KE H locs ls hP hD hS (lv_sub hl [1, 0] rfl)
  obtain ⟨x132, f133, hb190, hm⟩ := bd2_e hm
  refine L395_134 fu _ _ _ _ _ hb190 (fun H locs ls hP hD hS hl => ?_) H locs ls hP hD hS (lv_sub hl [1, 0] rfl)
  cases hm
  exact hret _ H locs ls d_Mo_layGrid_560 hP hD hS
set_option maxHeartbeats 4000000 in
set_option maxRecDepth 100000 in
theorem c_Mo_layGrid (l : Launch) (dC : Nat → ClassId) (dI : Nat → Nat → Nat) {cI cZ cJ : ClassId} (a_0 a_0_isFlat a_0_across a_0_lows a_0_highs a_0_xs a_0_ys a_0_flatEdges a_0_upEdges a_0_isPoint b_0_thick b_0_doorCounts b_0_doorFrom b_0_doorTo b_0_labels b_0_oldXs b_0_oldYs b_0_oldLabels b_0_names b_0_oldNames b_0_wanted b_0_common b_0_stack b_0_pieceLines b_0_pieceBegins b_0_pieceEnds b_0_pieceLeft b_0_pieceRight b_0_outs b_0_isSeen b_0_ringSpaces b_0_ringStarts b_0_ringSizes b_0_ringLeast b_0_looseLines b_0_looseXs b_0_looseYs b_0_looseReaches b_0_far : Nat) (sz : Nat) (v_0_code : Int32) (v_0_lines : Int32) (v_0_isFresh : Int32) (v_0_hasRun : Int32) (v_0_runs : Int32) (v_0_nx : Int32) (v_0_ny : Int32) (v_0_spaces : Int32) (v_0_oldNx : Int32) (v_0_oldNy : Int32) (v_0_oldSpaces : Int32) (v_0_points : Int32) (v_0_pieces : Int32) (v_0_rings : Int32) (v_0_outsideSides : Int32) (v_0_looseCount : Int32) (f_0_isFlat : Nat → Int32) (f_0_across : Nat → Int32) (f_0_lows : Nat → Int32) (f_0_highs : Nat → Int32) (f_0_xs : Nat → Int32) (f_0_ys : Nat → Int32) (f_0_flatEdges : Nat → Int32) (f_0_upEdges : Nat → Int32) (f_0_isPoint : Nat → Int32)  (ov_0_nx : Int32) (ov_0_ny : Int32) (ov_0_points : Int32) (of_0_xs : Nat → Int32) (of_0_ys : Nat → Int32) (of_0_flatEdges : Nat → Int32) (of_0_upEdges : Nat → Int32) (of_0_isPoint : Nat → Int32) (hm : m_Mo_layGrid v_0_lines v_0_nx v_0_ny v_0_points f_0_isFlat f_0_across f_0_lows f_0_highs f_0_xs f_0_ys f_0_flatEdges f_0_upEdges f_0_isPoint = some (ov_0_nx, ov_0_ny, ov_0_points, of_0_xs, of_0_ys, of_0_flatEdges, of_0_upEdges, of_0_isPoint)) : Met l y_Mo_layGrid w_Mo_layGrid rm_Mo_layGrid (PP dC dI [(cI, .int), (cZ, .boolean), (cJ, .long)] [.ref a_0] sz (wl_Mo_layGrid a_0 a_0_isFlat a_0_across a_0_lows a_0_highs a_0_xs a_0_ys a_0_flatEdges a_0_upEdges a_0_isPoint b_0_thick b_0_doorCounts b_0_doorFrom b_0_doorTo b_0_labels b_0_oldXs b_0_oldYs b_0_oldLabels b_0_names b_0_oldNames b_0_wanted b_0_common b_0_stack b_0_pieceLines b_0_pieceBegins b_0_pieceEnds b_0_pieceLeft b_0_pieceRight b_0_outs b_0_isSeen b_0_ringSpaces b_0_ringStarts b_0_ringSizes b_0_ringLeast b_0_looseLines b_0_looseXs b_0_looseYs b_0_looseReaches b_0_far cZ cI v_0_code v_0_lines v_0_isFresh v_0_hasRun v_0_runs v_0_nx v_0_ny v_0_spaces v_0_oldNx v_0_oldNy v_0_oldSpaces v_0_points v_0_pieces v_0_rings v_0_outsideSides v_0_looseCount f_0_isFlat f_0_across f_0_lows f_0_highs f_0_xs f_0_ys f_0_flatEdges f_0_upEdges f_0_isPoint)) (QV dC dI [(cI, .int), (cZ, .boolean), (cJ, .long)] sz (wl_Mo_layGrid a_0 a_0_isFlat a_0_across a_0_lows a_0_highs a_0_xs a_0_ys a_0_flatEdges a_0_upEdges a_0_isPoint b_0_thick b_0_doorCounts b_0_doorFrom b_0_doorTo b_0_labels b_0_oldXs b_0_oldYs b_0_oldLabels b_0_names b_0_oldNames b_0_wanted b_0_common b_0_stack b_0_pieceLines b_0_pieceBegins b_0_pieceEnds b_0_pieceLeft b_0_pieceRight b_0_outs b_0_isSeen b_0_ringSpaces b_0_ringStarts b_0_ringSizes b_0_ringLeast b_0_looseLines b_0_looseXs b_0_looseYs b_0_looseReaches b_0_far cZ cI v_0_code v_0_lines v_0_isFresh v_0_hasRun v_0_runs v_0_nx v_0_ny v_0_spaces v_0_oldNx v_0_oldNy v_0_oldSpaces v_0_points v_0_pieces v_0_rings v_0_outsideSides v_0_looseCount f_0_isFlat f_0_across f_0_lows f_0_highs f_0_xs f_0_ys f_0_flatEdges f_0_upEdges f_0_isPoint) (wl_Mo_layGrid a_0 a_0_isFlat a_0_across a_0_lows a_0_highs a_0_xs a_0_ys a_0_flatEdges a_0_upEdges a_0_isPoint b_0_thick b_0_doorCounts b_0_doorFrom b_0_doorTo b_0_labels b_0_oldXs b_0_oldYs b_0_oldLabels b_0_names b_0_oldNames b_0_wanted b_0_common b_0_stack b_0_pieceLines b_0_pieceBegins b_0_pieceEnds b_0_pieceLeft b_0_pieceRight b_0_outs b_0_isSeen b_0_ringSpaces b_0_ringStarts b_0_ringSizes b_0_ringLeast b_0_looseLines b_0_looseXs b_0_looseYs b_0_looseReaches b_0_far cZ cI v_0_code v_0_lines v_0_isFresh v_0_hasRun v_0_runs ov_0_nx ov_0_ny v_0_spaces v_0_oldNx v_0_oldNy v_0_oldSpaces ov_0_points v_0_pieces v_0_rings v_0_outsideSides v_0_looseCount f_0_isFlat f_0_across f_0_lows f_0_highs of_0_xs of_0_ys of_0_flatEdges of_0_upEdges of_0_isPoint)) 0 0 (va_A (wl_Mo_layGrid a_0 a_0_isFlat a_0_across a_0_lows a_0_highs a_0_xs a_0_ys a_0_flatEdges a_0_upEdges a_0_isPoint b_0_thick b_0_doorCounts b_0_doorFrom b_0_doorTo b_0_labels b_0_oldXs b_0_oldYs b_0_oldLabels b_0_names b_0_oldNames b_0_wanted b_0_common b_0_stack b_0_pieceLines b_0_pieceBegins b_0_pieceEnds b_0_pieceLeft b_0_pieceRight b_0_outs b_0_isSeen b_0_ringSpaces b_0_ringStarts b_0_ringSizes b_0_ringLeast b_0_looseLines b_0_looseXs b_0_looseYs b_0_looseReaches b_0_far cZ cI v_0_code v_0_lines v_0_isFresh v_0_hasRun v_0_runs v_0_nx v_0_ny v_0_spaces v_0_oldNx v_0_oldNy v_0_oldSpaces v_0_points v_0_pieces v_0_rings v_0_outsideSides v_0_looseCount f_0_isFlat f_0_across f_0_lows f_0_highs f_0_xs f_0_ys f_0_flatEdges f_0_upEdges f_0_isPoint) sz) := by
  refine Met.ofW (cc := b_Mo_layGrid) (maxL := 6) (ret := none) (by decide) rfl ?_
  intro p e s m args below meth c s₁ B hml hv
  obtain ⟨rfl, hsz, hP, hK, hD0, hN⟩ := hv
  subst hsz
  have hl := lv_entry ([.ref a_0]) (n := 6) (Nat.le_of_ble_eq_true rfl)
  rw [lg_entry_eq]
  generalize (lg_sl ([.ref a_0]) ++ List.replicate (6 - (lg_sl ([.ref a_0])).length) Slot.unset).toArray = ls at hl ⊢
  exact t_Mo_layGrid a_0 a_0_isFlat a_0_across a_0_lows a_0_highs a_0_xs a_0_ys a_0_flatEdges a_0_upEdges a_0_isPoint b_0_thick b_0_doorCounts b_0_doorFrom b_0_doorTo b_0_labels b_0_oldXs b_0_oldYs b_0_oldLabels b_0_names b_0_oldNames b_0_wanted b_0_common b_0_stack b_0_pieceLines b_0_pieceBegins b_0_pieceEnds b_0_pieceLeft b_0_pieceRight b_0_outs b_0_isSeen b_0_ringSpaces b_0_ringStarts b_0_ringSizes b_0_ringLeast b_0_looseLines b_0_looseXs b_0_looseYs b_0_looseReaches b_0_far v_0_code v_0_lines v_0_isFresh v_0_hasRun v_0_runs v_0_nx v_0_ny v_0_spaces v_0_oldNx v_0_oldNy v_0_oldSpaces v_0_points v_0_pieces v_0_rings v_0_outsideSides v_0_looseCount f_0_isFlat f_0_across f_0_lows f_0_highs f_0_xs f_0_ys f_0_flatEdges f_0_upEdges f_0_isPoint ov_0_nx ov_0_ny ov_0_points of_0_xs of_0_ys of_0_flatEdges of_0_upEdges of_0_isPoint B.exec B.bytes hml (findClass_of_methodNamed B.named) (atoms_spec (ws := w_Mo_layGrid) B.pre) hK hN (fun q h => Or.inr h) (fun pc H locs ls hd hP9 hD9 hS => W.vret B.exec B.bytes B.returns (fun t ht hW => ⟨⟨(), rfl, trivial, by rw [ht]; exact hP9, va_K.moved hW.alike hK, hD9⟩, hS.F ht⟩) hS.2.2 hd) hm s.heap [] ls hP hD0.self va_S.rf hl

-- SpaceCyclesModel.isFree(IIZ)Z
abbrev b_Mo_isFree : ByteArray := prog_13_method_14_code
abbrev y_Mo_isFree : MethodName := ⟨"SpaceCyclesModel", "isFree", "(IIZ)Z"⟩
abbrev w_Mo_isFree : List Cond := Cond.code y_Mo_isFree b_Mo_isFree 4 (some .boolean) :: gl
abbrev rm_Mo_isFree : Room := { frames := 0, cells := 0, slots := 0, locals := 0 }
theorem d_Mo_isFree_0 : decode b_Mo_isFree 0 = .ok (.iload_n 3, 1) := by decide +kernel
theorem d_Mo_isFree_1 : decode b_Mo_isFree 1 = .ok (.ifCond .eq 38, 3) := by decide +kernel
theorem d_Mo_isFree_4 : decode b_Mo_isFree 4 = .ok (.iload_n 2, 1) := by decide +kernel
theorem d_Mo_isFree_5 : decode b_Mo_isFree 5 = .ok (.ifCond .eq 28, 3) := by decide +kernel
theorem d_Mo_isFree_8 : decode b_Mo_isFree 8 = .ok (.iload_n 2, 1) := by decide +kernel
theorem d_Mo_isFree_9 : decode b_Mo_isFree 9 = .ok (.aload_n 0, 1) := by decide +kernel
theorem d_Mo_isFree_10 : decode b_Mo_isFree 10 = .ok (.getfield 160, 3) := by decide +kernel
theorem d_Mo_isFree_13 : decode b_Mo_isFree 13 = .ok (.if_icmp .eq 20, 3) := by decide +kernel
theorem d_Mo_isFree_16 : decode b_Mo_isFree 16 = .ok (.aload_n 0, 1) := by decide +kernel
theorem d_Mo_isFree_17 : decode b_Mo_isFree 17 = .ok (.getfield 69, 3) := by decide +kernel
theorem d_Mo_isFree_20 : decode b_Mo_isFree 20 = .ok (.bipush 42, 2) := by decide +kernel
theorem d_Mo_isFree_22 : decode b_Mo_isFree 22 = .ok (.iload_n 1, 1) := by decide +kernel
theorem d_Mo_isFree_23 : decode b_Mo_isFree 23 = .ok (.imul, 1) := by decide +kernel
theorem d_Mo_isFree_24 : decode b_Mo_isFree 24 = .ok (.iload_n 2, 1) := by decide +kernel
theorem d_Mo_isFree_25 : decode b_Mo_isFree 25 = .ok (.iadd, 1) := by decide +kernel
theorem d_Mo_isFree_26 : decode b_Mo_isFree 26 = .ok (.iconst 1, 1) := by decide +kernel
theorem d_Mo_isFree_27 : decode b_Mo_isFree 27 = .ok (.isub, 1) := by decide +kernel
theorem d_Mo_isFree_28 : decode b_Mo_isFree 28 = .ok (.iaload, 1) := by decide +kernel
theorem d_Mo_isFree_29 : decode b_Mo_isFree 29 = .ok (.iconst (-1), 1) := by decide +kernel
theorem d_Mo_isFree_30 : decode b_Mo_isFree 30 = .ok (.if_icmp .ne 7, 3) := by decide +kernel
theorem d_Mo_isFree_33 : decode b_Mo_isFree 33 = .ok (.iconst 1, 1) := by decide +kernel
theorem d_Mo_isFree_34 : decode b_Mo_isFree 34 = .ok (.goto 4, 3) := by decide +kernel
theorem d_Mo_isFree_37 : decode b_Mo_isFree 37 = .ok (.iconst 0, 1) := by decide +kernel
theorem d_Mo_isFree_38 : decode b_Mo_isFree 38 = .ok (.ireturn, 1) := by decide +kernel
theorem d_Mo_isFree_39 : decode b_Mo_isFree 39 = .ok (.iload_n 1, 1) := by decide +kernel
theorem d_Mo_isFree_40 : decode b_Mo_isFree 40 = .ok (.ifCond .eq 28, 3) := by decide +kernel
theorem d_Mo_isFree_43 : decode b_Mo_isFree 43 = .ok (.iload_n 1, 1) := by decide +kernel
theorem d_Mo_isFree_44 : decode b_Mo_isFree 44 = .ok (.aload_n 0, 1) := by decide +kernel
theorem d_Mo_isFree_45 : decode b_Mo_isFree 45 = .ok (.getfield 157, 3) := by decide +kernel
theorem d_Mo_isFree_48 : decode b_Mo_isFree 48 = .ok (.if_icmp .eq 20, 3) := by decide +kernel
theorem d_Mo_isFree_51 : decode b_Mo_isFree 51 = .ok (.aload_n 0, 1) := by decide +kernel
theorem d_Mo_isFree_52 : decode b_Mo_isFree 52 = .ok (.getfield 66, 3) := by decide +kernel
theorem d_Mo_isFree_55 : decode b_Mo_isFree 55 = .ok (.bipush 42, 2) := by decide +kernel
theorem d_Mo_isFree_57 : decode b_Mo_isFree 57 = .ok (.iload_n 1, 1) := by decide +kernel
theorem d_Mo_isFree_58 : decode b_Mo_isFree 58 = .ok (.iconst 1, 1) := by decide +kernel
theorem d_Mo_isFree_59 : decode b_Mo_isFree 59 = .ok (.isub, 1) := by decide +kernel
theorem d_Mo_isFree_60 : decode b_Mo_isFree 60 = .ok (.imul, 1) := by decide +kernel
theorem d_Mo_isFree_61 : decode b_Mo_isFree 61 = .ok (.iload_n 2, 1) := by decide +kernel
theorem d_Mo_isFree_62 : decode b_Mo_isFree 62 = .ok (.iadd, 1) := by decide +kernel
theorem d_Mo_isFree_63 : decode b_Mo_isFree 63 = .ok (.iaload, 1) := by decide +kernel
theorem d_Mo_isFree_64 : decode b_Mo_isFree 64 = .ok (.iconst (-1), 1) := by decide +kernel
theorem d_Mo_isFree_65 : decode b_Mo_isFree 65 = .ok (.if_icmp .ne 7, 3) := by decide +kernel
theorem d_Mo_isFree_68 : decode b_Mo_isFree 68 = .ok (.iconst 1, 1) := by decide +kernel
theorem d_Mo_isFree_69 : decode b_Mo_isFree 69 = .ok (.goto 4, 3) := by decide +kernel
theorem d_Mo_isFree_72 : decode b_Mo_isFree 72 = .ok (.iconst 0, 1) := by decide +kernel
theorem d_Mo_isFree_73 : decode b_Mo_isFree 73 = .ok (.ireturn, 1) := by decide +kernel
abbrev wl_Mo_isFree (a_0 : Nat) (a_0_flatEdges : Nat) (a_0_upEdges : Nat) (b_0_isFlat : Nat) (b_0_across : Nat) (b_0_lows : Nat) (b_0_highs : Nat) (b_0_thick : Nat) (b_0_doorCounts : Nat) (b_0_doorFrom : Nat) (b_0_doorTo : Nat) (b_0_xs : Nat) (b_0_ys : Nat) (b_0_labels : Nat) (b_0_oldXs : Nat) (b_0_oldYs : Nat) (b_0_oldLabels : Nat) (b_0_names : Nat) (b_0_oldNames : Nat) (b_0_wanted : Nat) (b_0_common : Nat) (b_0_isPoint : Nat) (b_0_stack : Nat) (b_0_pieceLines : Nat) (b_0_pieceBegins : Nat) (b_0_pieceEnds : Nat) (b_0_pieceLeft : Nat) (b_0_pieceRight : Nat) (b_0_outs : Nat) (b_0_isSeen : Nat) (b_0_ringSpaces : Nat) (b_0_ringStarts : Nat) (b_0_ringSizes : Nat) (b_0_ringLeast : Nat) (b_0_looseLines : Nat) (b_0_looseXs : Nat) (b_0_looseYs : Nat) (b_0_looseReaches : Nat) (b_0_far : Nat) (cI : ClassId) (v_0_code : Int32) (v_0_lines : Int32) (v_0_isFresh : Int32) (v_0_hasRun : Int32) (v_0_runs : Int32) (v_0_nx : Int32) (v_0_ny : Int32) (v_0_spaces : Int32) (v_0_oldNx : Int32) (v_0_oldNy : Int32) (v_0_oldSpaces : Int32) (v_0_points : Int32) (v_0_pieces : Int32) (v_0_rings : Int32) (v_0_outsideSides : Int32) (v_0_looseCount : Int32) (f_0_flatEdges : Nat → Int32) (f_0_upEdges : Nat → Int32) : va_W := [(a_0, .inr (11, [.int v_0_code, .ref b_0_isFlat, .ref b_0_across, .ref b_0_lows, .ref b_0_highs, .ref b_0_thick, .int v_0_lines, .ref b_0_doorCounts, .ref b_0_doorFrom, .ref b_0_doorTo, .int v_0_isFresh, .int v_0_hasRun, .int v_0_runs, .ref b_0_xs, .ref b_0_ys, .int v_0_nx, .int v_0_ny, .ref b_0_labels, .int v_0_spaces, .ref b_0_oldXs, .ref b_0_oldYs, .int v_0_oldNx, .int v_0_oldNy, .ref b_0_oldLabels, .int v_0_oldSpaces, .ref b_0_names, .ref b_0_oldNames, .ref b_0_wanted, .ref b_0_common, .ref a_0_flatEdges, .ref a_0_upEdges, .ref b_0_isPoint, .int v_0_points, .ref b_0_stack, .ref b_0_pieceLines, .ref b_0_pieceBegins, .ref b_0_pieceEnds, .ref b_0_pieceLeft, .ref b_0_pieceRight, .int v_0_pieces, .ref b_0_outs, .ref b_0_isSeen, .ref b_0_ringSpaces, .ref b_0_ringStarts, .ref b_0_ringSizes, .ref b_0_ringLeast, .int v_0_rings, .int v_0_outsideSides, .ref b_0_looseLines, .ref b_0_looseXs, .ref b_0_looseYs, .ref b_0_looseReaches, .int v_0_looseCount, .ref b_0_far])), (a_0_flatEdges, .inl (cI, 1764, .inl f_0_flatEdges)), (a_0_upEdges, .inl (cI, 1764, .inl f_0_upEdges))]
def m_Mo_isFree (p1 : Int32) (p2 : Int32) (p3 : Int32) (v_0_nx : Int32) (v_0_ny : Int32) (f_0_flatEdges : Nat → Int32) (f_0_upEdges : Nat → Int32) : Option (Int32) :=
  if p3 = 0 then (
    bd1 (
      if p1 = 0 then (
      some 1)
    else (
      if p1 = v_0_nx then (
        some 1)
      else (
        gI ((42 * (p1 - 1)) + p2) 1764 <|
        if (f_0_flatEdges ((42 * (p1 - 1)) + p2).toNatClampNeg) = (-1) then (
          some 1)
        else (
          some 0))))
    fun (x5 : Int32) =>
    gB x5 <|
      some x5)
  else (
    if p2 = 0 then (
      gB 1 <|
      some 1)
    else (
      if p2 = v_0_ny then (
        gB 1 <|
        some 1)
      else (
        gI (((42 * p1) + p2) - 1) 1764 <|
        if (f_0_upEdges (((42 * p1) + p2) - 1).toNatClampNeg) = (-1) then (
          gB 1 <|
          some 1)
        else (
          gB 0 <|
          some 0))))

set_option maxHeartbeats 4000000 in
set_option maxRecDepth 100000 in
theorem t_Mo_isFree {p : Program} {l : Launch} {e : Env} {s : State} {m : MethodId} {args : Array Value} {below : List Frame} {meth : Method} {c : Code} {A : Nat → Prop} {Q : State → Prop} {dC : Nat → ClassId} {dI : Nat → Nat → Nat} {cI cZ cJ : ClassId} (a_0 a_0_flatEdges a_0_upEdges b_0_isFlat b_0_across b_0_lows b_0_highs b_0_thick b_0_doorCounts b_0_doorFrom b_0_doorTo b_0_xs b_0_ys b_0_labels b_0_oldXs b_0_oldYs b_0_oldLabels b_0_names b_0_oldNames b_0_wanted b_0_common b_0_isPoint b_0_stack b_0_pieceLines b_0_pieceBegins b_0_pieceEnds b_0_pieceLeft b_0_pieceRight b_0_outs b_0_isSeen b_0_ringSpaces b_0_ringStarts b_0_ringSizes b_0_ringLeast b_0_looseLines b_0_looseXs b_0_looseYs b_0_looseReaches b_0_far : Nat) (v_0_code : Int32) (v_0_lines : Int32) (v_0_isFresh : Int32) (v_0_hasRun : Int32) (v_0_runs : Int32) (v_0_nx : Int32) (v_0_ny : Int32) (v_0_spaces : Int32) (v_0_oldNx : Int32) (v_0_oldNy : Int32) (v_0_oldSpaces : Int32) (v_0_points : Int32) (v_0_pieces : Int32) (v_0_rings : Int32) (v_0_outsideSides : Int32) (v_0_looseCount : Int32) (f_0_flatEdges : Nat → Int32) (f_0_upEdges : Nat → Int32) (p1 : Int32) (p2 : Int32) (p3 : Int32) (R0 : Int32) (hx : p.tables.exec = Jvm.exec) (hb : c.code = b_Mo_isFree) (hml : c.maxLocals = 4) (hown : s.vm.findClass "SpaceCyclesModel" = some m.cls) (hts : ∀ w ∈ w_Mo_isFree, w.before args s = true) (hK : va_K (dC, dI) vwCl [(cI, .int), (cZ, .boolean), (cJ, .long)] s) (hN : NX s) (hA : ∀ q : Nat, s.heap.size ≤ q → A q)
    (hret : ∀ (pc : Nat) (H : Heap) (locs : List Loc) (ls : Array Slot), decode b_Mo_isFree pc = .ok (.ireturn, 1) → (R0 = 0 ∨ R0 = 1) → va_P (dC, dI) vwCl (wl_Mo_isFree a_0 a_0_flatEdges a_0_upEdges b_0_isFlat b_0_across b_0_lows b_0_highs b_0_thick b_0_doorCounts b_0_doorFrom b_0_doorTo b_0_xs b_0_ys b_0_labels b_0_oldXs b_0_oldYs b_0_oldLabels b_0_names b_0_oldNames b_0_wanted b_0_common b_0_isPoint b_0_stack b_0_pieceLines b_0_pieceBegins b_0_pieceEnds b_0_pieceLeft b_0_pieceRight b_0_outs b_0_isSeen b_0_ringSpaces b_0_ringStarts b_0_ringSizes b_0_ringLeast b_0_looseLines b_0_looseXs b_0_looseYs b_0_looseReaches b_0_far cI v_0_code v_0_lines v_0_isFresh v_0_hasRun v_0_runs v_0_nx v_0_ny v_0_spaces v_0_oldNx v_0_oldNy v_0_oldSpaces v_0_points v_0_pieces v_0_rings v_0_outsideSides v_0_looseCount f_0_flatEdges f_0_upEdges) H → va_D A (wl_Mo_isFree a_0 a_0_flatEdges a_0_upEdges b_0_isFlat b_0_across b_0_lows b_0_highs b_0_thick b_0_doorCounts b_0_doorFrom b_0_doorTo b_0_xs b_0_ys b_0_labels b_0_oldXs b_0_oldYs b_0_oldLabels b_0_names b_0_oldNames b_0_wanted b_0_common b_0_isPoint b_0_stack b_0_pieceLines b_0_pieceBegins b_0_pieceEnds b_0_pieceLeft b_0_pieceRight b_0_outs b_0_isSeen b_0_ringSpaces b_0_ringStarts b_0_ringSizes b_0_ringLeast b_0_looseLines b_0_looseXs b_0_looseYs b_0_looseReaches b_0_far cI v_0_code v_0_lines v_0_isFresh v_0_hasRun v_0_runs v_0_nx v_0_ny v_0_spaces v_0_oldNx v_0_oldNy v_0_oldSpaces v_0_points v_0_pieces v_0_rings v_0_outsideSides v_0_looseCount f_0_flatEdges f_0_upEdges) → va_S A s.heap H locs → W p l e rm_Mo_isFree s m args below meth c H locs 0 0 Q (F0 m pc ls [.int R0]))
    (hm : m_Mo_isFree p1 p2 p3 v_0_nx v_0_ny f_0_flatEdges f_0_upEdges = some R0) : ∀ (H : Heap) (locs : List Loc) (ls : Array Slot), va_P (dC, dI) vwCl (wl_Mo_isFree a_0 a_0_flatEdges a_0_upEdges b_0_isFlat b_0_across b_0_lows b_0_highs b_0_thick b_0_doorCounts b_0_doorFrom b_0_doorTo b_0_xs b_0_ys b_0_labels b_0_oldXs b_0_oldYs b_0_oldLabels b_0_names b_0_oldNames b_0_wanted b_0_common b_0_isPoint b_0_stack b_0_pieceLines b_0_pieceBegins b_0_pieceEnds b_0_pieceLeft b_0_pieceRight b_0_outs b_0_isSeen b_0_ringSpaces b_0_ringStarts b_0_ringSizes b_0_ringLeast b_0_looseLines b_0_looseXs b_0_looseYs b_0_looseReaches b_0_far cI v_0_code v_0_lines v_0_isFresh v_0_hasRun v_0_runs v_0_nx v_0_ny v_0_spaces v_0_oldNx v_0_oldNy v_0_oldSpaces v_0_points v_0_pieces v_0_rings v_0_outsideSides v_0_looseCount f_0_flatEdges f_0_upEdges) H → va_D A (wl_Mo_isFree a_0 a_0_flatEdges a_0_upEdges b_0_isFlat b_0_across b_0_lows b_0_highs b_0_thick b_0_doorCounts b_0_doorFrom b_0_doorTo b_0_xs b_0_ys b_0_labels b_0_oldXs b_0_oldYs b_0_oldLabels b_0_names b_0_oldNames b_0_wanted b_0_common b_0_isPoint b_0_stack b_0_pieceLines b_0_pieceBegins b_0_pieceEnds b_0_pieceLeft b_0_pieceRight b_0_outs b_0_isSeen b_0_ringSpaces b_0_ringStarts b_0_ringSizes b_0_ringLeast b_0_looseLines b_0_looseXs b_0_looseYs b_0_looseReaches b_0_far cI v_0_code v_0_lines v_0_isFresh v_0_hasRun v_0_runs v_0_nx v_0_ny v_0_spaces v_0_oldNx v_0_oldNy v_0_oldSpaces v_0_points v_0_pieces v_0_rings v_0_outsideSides v_0_looseCount f_0_flatEdges f_0_upEdges) → va_S A s.heap H locs → lv_has ls 4 [(0, .ref a_0), (1, .int p1), (2, .int p2), (3, .int p3)] → W p l e rm_Mo_isFree s m args below meth c H locs 0 0 Q (F0 m 0 ls []) := by
  intro H locs ls hP hD hS hl
  unfold m_Mo_isFree at hm
  refine lv_iload_n hx hb d_Mo_isFree_0 rfl (lv_at hl 3 rfl) ?_
  refine lv_if_eq (tgt := 39) hx hb d_Mo_isFree_1 (by decide) (fun c1 => ?_) (fun c1 => ?_)
  · replace hm := if_t hm c1
    refine lv_iload_n hx hb d_Mo_isFree_39 rfl (lv_at hl 1 rfl) ?_
    obtain ⟨x5, hb3, hm⟩ := bd1_e hm
    have K2 : ∀ (H : Heap) (locs : List Loc) (ls : Array Slot), va_P (dC, dI) vwCl (wl_Mo_isFree a_0 a_0_flatEdges a_0_upEdges b_0_isFlat b_0_across b_0_lows b_0_highs b_0_thick b_0_doorCounts b_0_doorFrom b_0_doorTo b_0_xs b_0_ys b_0_labels b_0_oldXs b_0_oldYs b_0_oldLabels b_0_names b_0_oldNames b_0_wanted b_0_common b_0_isPoint b_0_stack b_0_pieceLines b_0_pieceBegins b_0_pieceEnds b_0_pieceLeft b_0_pieceRight b_0_outs b_0_isSeen b_0_ringSpaces b_0_ringStarts b_0_ringSizes b_0_ringLeast b_0_looseLines b_0_looseXs b_0_looseYs b_0_looseReaches b_0_far cI v_0_code v_0_lines v_0_isFresh v_0_hasRun v_0_runs v_0_nx v_0_ny v_0_spaces v_0_oldNx v_0_oldNy v_0_oldSpaces v_0_points v_0_pieces v_0_rings v_0_outsideSides v_0_looseCount f_0_flatEdges f_0_upEdges) H → va_D A (wl_Mo_isFree a_0 a_0_flatEdges a_0_upEdges b_0_isFlat b_0_across b_0_lows b_0_highs b_0_thick b_0_doorCounts b_0_doorFrom b_0_doorTo b_0_xs b_0_ys b_0_labels b_0_oldXs b_0_oldYs b_0_oldLabels b_0_names b_0_oldNames b_0_wanted b_0_common b_0_isPoint b_0_stack b_0_pieceLines b_0_pieceBegins b_0_pieceEnds b_0_pieceLeft b_0_pieceRight b_0_outs b_0_isSeen b_0_ringSpaces b_0_ringStarts b_0_ringSizes b_0_ringLeast b_0_looseLines b_0_looseXs b_0_looseYs b_0_looseReaches b_0_far cI v_0_code v_0_lines v_0_isFresh v_0_hasRun v_0_runs v_0_nx v_0_ny v_0_spaces v_0_oldNx v_0_oldNy v_0_oldSpaces v_0_points v_0_pieces v_0_rings v_0_outsideSides v_0_looseCount f_0_flatEdges f_0_upEdges) → va_S A s.heap H locs → lv_has ls 4 [] → W p l e rm_Mo_isFree s m args below meth c H locs 0 0 Q (F0 m 73 ls [.int x5]) := by
      intro H locs ls hP hD hS hl
      obtain ⟨hB, hm⟩ := gB_e hm
      cases hm
      exact hret _ H locs ls d_Mo_isFree_73 hB hP hD hS
    replace hm := hb3
    refine lv_if_eq (tgt := 68) hx hb d_Mo_isFree_40 (by decide) (fun c6 => ?_) (fun c6 => ?_)
    · replace hm := if_t hm c6
      refine lv_iconst (v := 1) hx hb d_Mo_isFree_68 (by decide) ?_
      refine lv_goto (tgt := 73) hx hb d_Mo_isFree_69 (by decide) ?_
      cases hm
      exact K2 H locs ls hP hD hS (lv_sub hl [] rfl)
    · replace hm := if_f hm c6
      refine lv_iload_n hx hb d_Mo_isFree_43 rfl (lv_at hl 1 rfl) ?_
      refine lv_aload_n hx hb d_Mo_isFree_44 rfl (lv_at hl 0 rfl) ?_
      refine va_get (D := (dC, dI)) (ci := 11) (v := .int v_0_nx) (C := "SpaceCyclesModel") (T := F_Mo) (N := 54) hx hb hts (in_F i_Mo) hown hK hP 0 rfl rfl 15 (by decide) (hts _ (in_c k_300)) (fun _ h9 => h9) rfl d_Mo_isFree_45 ?_
      refine lv_icmp_eq (tgt := 68) hx hb d_Mo_isFree_48 (by decide) (fun c7 => ?_) (fun c7 => ?_)
      · replace hm := if_t hm c7
        refine lv_iconst (v := 1) hx hb d_Mo_isFree_68 (by decide) ?_
        refine lv_goto (tgt := 73) hx hb d_Mo_isFree_69 (by decide) ?_
        cases hm
        exact K2 H locs ls hP hD hS (lv_sub hl [] rfl)
      · replace hm := if_f hm c7
        refine lv_aload_n hx hb d_Mo_isFree_51 rfl (lv_at hl 0 rfl) ?_
        refine va_get (D := (dC, dI)) (ci := 11) (v := .ref a_0_flatEdges) (C := "SpaceCyclesModel") (T := F_Mo) (N := 54) hx hb hts (in_F i_Mo) hown hK hP 0 rfl rfl 29 (by decide) (hts _ (in_c k_307)) (fun _ h9 => h9) rfl d_Mo_isFree_52 ?_
        refine lv_bipush (v := 42) hx hb d_Mo_isFree_55 (by decide) ?_
        refine lv_iload_n hx hb d_Mo_isFree_57 rfl (lv_at hl 1 rfl) ?_
        refine lv_iconst (v := 1) hx hb d_Mo_isFree_58 (by decide) ?_
        refine lv_isub hx hb d_Mo_isFree_59 ?_
        refine lv_imul hx hb d_Mo_isFree_60 ?_
        refine lv_iload_n hx hb d_Mo_isFree_61 rfl (lv_at hl 2 rfl) ?_
        refine lv_iadd hx hb d_Mo_isFree_62 ?_
        obtain ⟨hi8, hm⟩ := gI_e hm
        refine va_iald hx hb hK hP 1 0 rfl rfl hi8 d_Mo_isFree_63 ?_
        refine lv_iconst (v := (-1)) hx hb d_Mo_isFree_64 (by decide) ?_
        refine lv_icmp_ne (tgt := 72) hx hb d_Mo_isFree_65 (by decide) (fun c9 => ?_) (fun c9 => ?_)
        · replace hm := if_f hm c9
          refine lv_iconst (v := 0) hx hb d_Mo_isFree_72 (by decide) ?_
          cases hm
          exact K2 H locs ls hP hD hS (lv_sub hl [] rfl)
        · replace hm := if_t hm c9
          refine lv_iconst (v := 1) hx hb d_Mo_isFree_68 (by decide) ?_
          refine lv_goto (tgt := 73) hx hb d_Mo_isFree_69 (by decide) ?_
          cases hm
          exact K2 H locs ls hP hD hS (lv_sub hl [] rfl)
  · replace hm := if_f hm c1
    refine lv_iload_n hx hb d_Mo_isFree_4 rfl (lv_at hl 2 rfl) ?_
    refine lv_if_eq (tgt := 33) hx hb d_Mo_isFree_5 (by decide) (fun c10 => ?_) (fun c10 => ?_)
    · replace hm := if_t hm c10
      refine lv_iconst (v := 1) hx hb d_Mo_isFree_33 (by decide) ?_
      refine lv_goto (tgt := 38) hx hb d_Mo_isFree_34 (by decide) ?_
      obtain ⟨hB, hm⟩ := gB_e hm
      cases hm
      exact hret _ H locs ls d_Mo_isFree_38 hB hP hD hS
    · replace hm := if_f hm c10
      refine lv_iload_n hx hb d_Mo_isFree_8 rfl (lv_at hl 2 rfl) ?_
      refine lv_aload_n hx hb d_Mo_isFree_9 rfl (lv_at hl 0 rfl) ?_
      refine va_get (D := (dC, dI)) (ci := 11) (v := .int v_0_ny) (C := "SpaceCyclesModel") (T := F_Mo) (N := 54) hx hb hts (in_F i_Mo) hown hK hP 0 rfl rfl 16 (by decide) (hts _ (in_c k_301)) (fun _ h9 => h9) rfl d_Mo_isFree_10 ?_
      refine lv_icmp_eq (tgt := 33) hx hb d_Mo_isFree_13 (by decide) (fun c11 => ?_) (fun c11 => ?_)
      · replace hm := if_t hm c11
        refine lv_iconst (v := 1) hx hb d_Mo_isFree_33 (by decide) ?_
        refine lv_goto (tgt := 38) hx hb d_Mo_isFree_34 (by decide) ?_
        obtain ⟨hB, hm⟩ := gB_e hm
        cases hm
        exact hret _ H locs ls d_Mo_isFree_38 hB hP hD hS
      · replace hm := if_f hm c11
        refine lv_aload_n hx hb d_Mo_isFree_16 rfl (lv_at hl 0 rfl) ?_
        refine va_get (D := (dC, dI)) (ci := 11) (v := .ref a_0_upEdges) (C := "SpaceCyclesModel") (T := F_Mo) (N := 54) hx hb hts (in_F i_Mo) hown hK hP 0 rfl rfl 30 (by decide) (hts _ (in_c k_308)) (fun _ h9 => h9) rfl d_Mo_isFree_17 ?_
        refine lv_bipush (v := 42) hx hb d_Mo_isFree_20 (by decide) ?_
        refine lv_iload_n hx hb d_Mo_isFree_22 rfl (lv_at hl 1 rfl) ?_
        refine lv_imul hx hb d_Mo_isFree_23 ?_
        refine lv_iload_n hx hb d_Mo_isFree_24 rfl (lv_at hl 2 rfl) ?_
        refine lv_iadd hx hb d_Mo_isFree_25 ?_
        refine lv_iconst (v := 1) hx hb d_Mo_isFree_26 (by decide) ?_
        refine lv_isub hx hb d_Mo_isFree_27 ?_
        obtain ⟨hi12, hm⟩ := gI_e hm
        refine va_iald hx hb hK hP 2 0 rfl rfl hi12 d_Mo_isFree_28 ?_
        refine lv_iconst (v := (-1)) hx hb d_Mo_isFree_29 (by decide) ?_
        refine lv_icmp_ne (tgt := 37) hx hb d_Mo_isFree_30 (by decide) (fun c13 => ?_) (fun c13 => ?_)
        · replace hm := if_f hm c13
          refine lv_iconst (v := 0) hx hb d_Mo_isFree_37 (by decide) ?_
          obtain ⟨hB, hm⟩ := gB_e hm
          cases hm
          exact hret _ H locs ls d_Mo_isFree_38 hB hP hD hS
        · replace hm := if_t hm c13
          refine lv_iconst (v := 1) hx hb d_Mo_isFree_33 (by decide) ?_
          refine lv_goto (tgt := 38) hx hb d_Mo_isFree_34 (by decide) ?_
          obtain ⟨hB, hm⟩ := gB_e hm
          cases hm
          exact hret _ H locs ls d_Mo_isFree_38 hB hP hD hS
set_option maxHeartbeats 4000000 in
set_option maxRecDepth 100000 in
theorem c_Mo_isFree (l : Launch) (dC : Nat → ClassId) (dI : Nat → Nat → Nat) {cI cZ cJ : ClassId} (a_0 a_0_flatEdges a_0_upEdges b_0_isFlat b_0_across b_0_lows b_0_highs b_0_thick b_0_doorCounts b_0_doorFrom b_0_doorTo b_0_xs b_0_ys b_0_labels b_0_oldXs b_0_oldYs b_0_oldLabels b_0_names b_0_oldNames b_0_wanted b_0_common b_0_isPoint b_0_stack b_0_pieceLines b_0_pieceBegins b_0_pieceEnds b_0_pieceLeft b_0_pieceRight b_0_outs b_0_isSeen b_0_ringSpaces b_0_ringStarts b_0_ringSizes b_0_ringLeast b_0_looseLines b_0_looseXs b_0_looseYs b_0_looseReaches b_0_far : Nat) (sz : Nat) (v_0_code : Int32) (v_0_lines : Int32) (v_0_isFresh : Int32) (v_0_hasRun : Int32) (v_0_runs : Int32) (v_0_nx : Int32) (v_0_ny : Int32) (v_0_spaces : Int32) (v_0_oldNx : Int32) (v_0_oldNy : Int32) (v_0_oldSpaces : Int32) (v_0_points : Int32) (v_0_pieces : Int32) (v_0_rings : Int32) (v_0_outsideSides : Int32) (v_0_looseCount : Int32) (f_0_flatEdges : Nat → Int32) (f_0_upEdges : Nat → Int32) (p1 : Int32) (p2 : Int32) (p3 : Int32) (R0 : Int32) (hm : m_Mo_isFree p1 p2 p3 v_0_nx v_0_ny f_0_flatEdges f_0_upEdges = some R0) : Met l y_Mo_isFree w_Mo_isFree rm_Mo_isFree (PP dC dI [(cI, .int), (cZ, .boolean), (cJ, .long)] [.ref a_0, .int p1, .int p2, .int p3] sz (wl_Mo_isFree a_0 a_0_flatEdges a_0_upEdges b_0_isFlat b_0_across b_0_lows b_0_highs b_0_thick b_0_doorCounts b_0_doorFrom b_0_doorTo b_0_xs b_0_ys b_0_labels b_0_oldXs b_0_oldYs b_0_oldLabels b_0_names b_0_oldNames b_0_wanted b_0_common b_0_isPoint b_0_stack b_0_pieceLines b_0_pieceBegins b_0_pieceEnds b_0_pieceLeft b_0_pieceRight b_0_outs b_0_isSeen b_0_ringSpaces b_0_ringStarts b_0_ringSizes b_0_ringLeast b_0_looseLines b_0_looseXs b_0_looseYs b_0_looseReaches b_0_far cI v_0_code v_0_lines v_0_isFresh v_0_hasRun v_0_runs v_0_nx v_0_ny v_0_spaces v_0_oldNx v_0_oldNy v_0_oldSpaces v_0_points v_0_pieces v_0_rings v_0_outsideSides v_0_looseCount f_0_flatEdges f_0_upEdges)) (QI dC dI [(cI, .int), (cZ, .boolean), (cJ, .long)] sz (wl_Mo_isFree a_0 a_0_flatEdges a_0_upEdges b_0_isFlat b_0_across b_0_lows b_0_highs b_0_thick b_0_doorCounts b_0_doorFrom b_0_doorTo b_0_xs b_0_ys b_0_labels b_0_oldXs b_0_oldYs b_0_oldLabels b_0_names b_0_oldNames b_0_wanted b_0_common b_0_isPoint b_0_stack b_0_pieceLines b_0_pieceBegins b_0_pieceEnds b_0_pieceLeft b_0_pieceRight b_0_outs b_0_isSeen b_0_ringSpaces b_0_ringStarts b_0_ringSizes b_0_ringLeast b_0_looseLines b_0_looseXs b_0_looseYs b_0_looseReaches b_0_far cI v_0_code v_0_lines v_0_isFresh v_0_hasRun v_0_runs v_0_nx v_0_ny v_0_spaces v_0_oldNx v_0_oldNy v_0_oldSpaces v_0_points v_0_pieces v_0_rings v_0_outsideSides v_0_looseCount f_0_flatEdges f_0_upEdges) (wl_Mo_isFree a_0 a_0_flatEdges a_0_upEdges b_0_isFlat b_0_across b_0_lows b_0_highs b_0_thick b_0_doorCounts b_0_doorFrom b_0_doorTo b_0_xs b_0_ys b_0_labels b_0_oldXs b_0_oldYs b_0_oldLabels b_0_names b_0_oldNames b_0_wanted b_0_common b_0_isPoint b_0_stack b_0_pieceLines b_0_pieceBegins b_0_pieceEnds b_0_pieceLeft b_0_pieceRight b_0_outs b_0_isSeen b_0_ringSpaces b_0_ringStarts b_0_ringSizes b_0_ringLeast b_0_looseLines b_0_looseXs b_0_looseYs b_0_looseReaches b_0_far cI v_0_code v_0_lines v_0_isFresh v_0_hasRun v_0_runs v_0_nx v_0_ny v_0_spaces v_0_oldNx v_0_oldNy v_0_oldSpaces v_0_points v_0_pieces v_0_rings v_0_outsideSides v_0_looseCount f_0_flatEdges f_0_upEdges) R0) 0 0 (va_A (wl_Mo_isFree a_0 a_0_flatEdges a_0_upEdges b_0_isFlat b_0_across b_0_lows b_0_highs b_0_thick b_0_doorCounts b_0_doorFrom b_0_doorTo b_0_xs b_0_ys b_0_labels b_0_oldXs b_0_oldYs b_0_oldLabels b_0_names b_0_oldNames b_0_wanted b_0_common b_0_isPoint b_0_stack b_0_pieceLines b_0_pieceBegins b_0_pieceEnds b_0_pieceLeft b_0_pieceRight b_0_outs b_0_isSeen b_0_ringSpaces b_0_ringStarts b_0_ringSizes b_0_ringLeast b_0_looseLines b_0_looseXs b_0_looseYs b_0_looseReaches b_0_far cI v_0_code v_0_lines v_0_isFresh v_0_hasRun v_0_runs v_0_nx v_0_ny v_0_spaces v_0_oldNx v_0_oldNy v_0_oldSpaces v_0_points v_0_pieces v_0_rings v_0_outsideSides v_0_looseCount f_0_flatEdges f_0_upEdges) sz) := by
  refine Met.ofW (cc := b_Mo_isFree) (maxL := 4) (ret := (some .boolean)) (by decide) rfl ?_
  intro p e s m args below meth c s₁ B hml hv
  obtain ⟨rfl, hsz, hP, hK, hD0, hN⟩ := hv
  subst hsz
  have hl := lv_entry ([.ref a_0, .int p1, .int p2, .int p3]) (n := 4) (Nat.le_of_ble_eq_true rfl)
  rw [lg_entry_eq]
  generalize (lg_sl ([.ref a_0, .int p1, .int p2, .int p3]) ++ List.replicate (4 - (lg_sl ([.ref a_0, .int p1, .int p2, .int p3])).length) Slot.unset).toArray = ls at hl ⊢
  exact t_Mo_isFree a_0 a_0_flatEdges a_0_upEdges b_0_isFlat b_0_across b_0_lows b_0_highs b_0_thick b_0_doorCounts b_0_doorFrom b_0_doorTo b_0_xs b_0_ys b_0_labels b_0_oldXs b_0_oldYs b_0_oldLabels b_0_names b_0_oldNames b_0_wanted b_0_common b_0_isPoint b_0_stack b_0_pieceLines b_0_pieceBegins b_0_pieceEnds b_0_pieceLeft b_0_pieceRight b_0_outs b_0_isSeen b_0_ringSpaces b_0_ringStarts b_0_ringSizes b_0_ringLeast b_0_looseLines b_0_looseXs b_0_looseYs b_0_looseReaches b_0_far v_0_code v_0_lines v_0_isFresh v_0_hasRun v_0_runs v_0_nx v_0_ny v_0_spaces v_0_oldNx v_0_oldNy v_0_oldSpaces v_0_points v_0_pieces v_0_rings v_0_outsideSides v_0_looseCount f_0_flatEdges f_0_upEdges p1 p2 p3 R0 B.exec B.bytes hml (findClass_of_methodNamed B.named) (atoms_spec (ws := w_Mo_isFree) B.pre) hK hN (fun q h => Or.inr h) (fun pc H locs ls hd hz hP9 hD9 hS => W.zret B.exec B.bytes B.returns (nar_b hz) (fun t ht hW => ⟨⟨_, (), rfl, rfl, by rw [ht]; exact hP9, va_K.moved hW.alike hK, hD9⟩, hS.F ht⟩) hS.2.2 hd) hm s.heap [] ls hP hD0.self va_S.rf hl

theorem k_318 : ((.fieldLink "SpaceCyclesModel" 75 "SpaceCyclesModel" "stack" "[I") : Cond) ∈ gl := gl_i 1154 (by decide +kernel) (by decide +kernel)
theorem k_319 : ((.fieldLink "SpaceCyclesModel" 41 "SpaceCyclesModel" "labels" "[I") : Cond) ∈ gl := gl_i 1138 (by decide +kernel) (by decide +kernel)
theorem k_320 : ((.code ⟨"SpaceCyclesModel", "isFree", "(IIZ)Z"⟩ prog_13_method_14_code 4 (some .boolean)) : Cond) ∈ gl := gl_i 1350 (by decide +kernel) (by decide +kernel)
theorem k_321 : ((.selects "SpaceCyclesModel" ⟨"SpaceCyclesModel", "isFree", "(IIZ)Z"⟩ ⟨"SpaceCyclesModel", "isFree", "(IIZ)Z"⟩) : Cond) ∈ gl := gl_s (by decide +kernel) (by decide +kernel)
theorem k_322 : ((.instanceMethod ⟨"SpaceCyclesModel", "isFree", "(IIZ)Z"⟩) : Cond) ∈ gl := gl_i 1349 (by decide +kernel) (by decide +kernel)
theorem k_323 : ((.methodLink "SpaceCyclesModel" 177 ⟨"SpaceCyclesModel", "isFree", "(IIZ)Z"⟩) : Cond) ∈ gl := gl_i 1347 (by decide +kernel) (by decide +kernel)
-- SpaceCyclesModel.fill(II)V
abbrev b_Mo_fill : ByteArray := prog_13_method_15_code
abbrev y_Mo_fill : MethodName := ⟨"SpaceCyclesModel", "fill", "(II)V"⟩
abbrev w_Mo_fill : List Cond := Cond.code y_Mo_fill b_Mo_fill 11 none :: gl
abbrev rm_Mo_fill : Room := { frames := 1, cells := 0, slots := 0, locals := 25 }
theorem d_Mo_fill_0 : decode b_Mo_fill 0 = .ok (.iconst 1, 1) := by decide +kernel
theorem d_Mo_fill_1 : decode b_Mo_fill 1 = .ok (.istore_n 3, 1) := by decide +kernel
theorem d_Mo_fill_2 : decode b_Mo_fill 2 = .ok (.aload_n 0, 1) := by decide +kernel
theorem d_Mo_fill_3 : decode b_Mo_fill 3 = .ok (.getfield 75, 3) := by decide +kernel
theorem d_Mo_fill_6 : decode b_Mo_fill 6 = .ok (.iconst 0, 1) := by decide +kernel
theorem d_Mo_fill_7 : decode b_Mo_fill 7 = .ok (.iload_n 1, 1) := by decide +kernel
theorem d_Mo_fill_8 : decode b_Mo_fill 8 = .ok (.iastore, 1) := by decide +kernel
theorem d_Mo_fill_9 : decode b_Mo_fill 9 = .ok (.aload_n 0, 1) := by decide +kernel
theorem d_Mo_fill_10 : decode b_Mo_fill 10 = .ok (.getfield 41, 3) := by decide +kernel
theorem d_Mo_fill_13 : decode b_Mo_fill 13 = .ok (.iload_n 1, 1) := by decide +kernel
theorem d_Mo_fill_14 : decode b_Mo_fill 14 = .ok (.iload_n 2, 1) := by decide +kernel
theorem d_Mo_fill_15 : decode b_Mo_fill 15 = .ok (.iastore, 1) := by decide +kernel
theorem d_Mo_fill_16 : decode b_Mo_fill 16 = .ok (.iload_n 3, 1) := by decide +kernel
theorem d_Mo_fill_17 : decode b_Mo_fill 17 = .ok (.ifCond .le 255, 3) := by decide +kernel
theorem d_Mo_fill_20 : decode b_Mo_fill 20 = .ok (.iinc 3 (-1), 3) := by decide +kernel
theorem d_Mo_fill_23 : decode b_Mo_fill 23 = .ok (.aload_n 0, 1) := by decide +kernel
theorem d_Mo_fill_24 : decode b_Mo_fill 24 = .ok (.getfield 75, 3) := by decide +kernel
theorem d_Mo_fill_27 : decode b_Mo_fill 27 = .ok (.iload_n 3, 1) := by decide +kernel
theorem d_Mo_fill_28 : decode b_Mo_fill 28 = .ok (.iaload, 1) := by decide +kernel
theorem d_Mo_fill_29 : decode b_Mo_fill 29 = .ok (.bipush 42, 2) := by decide +kernel
theorem d_Mo_fill_31 : decode b_Mo_fill 31 = .ok (.idiv, 1) := by decide +kernel
theorem d_Mo_fill_32 : decode b_Mo_fill 32 = .ok (.istore 4, 2) := by decide +kernel
theorem d_Mo_fill_34 : decode b_Mo_fill 34 = .ok (.aload_n 0, 1) := by decide +kernel
theorem d_Mo_fill_35 : decode b_Mo_fill 35 = .ok (.getfield 75, 3) := by decide +kernel
theorem d_Mo_fill_38 : decode b_Mo_fill 38 = .ok (.iload_n 3, 1) := by decide +kernel
theorem d_Mo_fill_39 : decode b_Mo_fill 39 = .ok (.iaload, 1) := by decide +kernel
theorem d_Mo_fill_40 : decode b_Mo_fill 40 = .ok (.bipush 42, 2) := by decide +kernel
theorem d_Mo_fill_42 : decode b_Mo_fill 42 = .ok (.irem, 1) := by decide +kernel
theorem d_Mo_fill_43 : decode b_Mo_fill 43 = .ok (.istore 5, 2) := by decide +kernel
theorem d_Mo_fill_45 : decode b_Mo_fill 45 = .ok (.iconst 0, 1) := by decide +kernel
theorem d_Mo_fill_46 : decode b_Mo_fill 46 = .ok (.istore 6, 2) := by decide +kernel
theorem d_Mo_fill_48 : decode b_Mo_fill 48 = .ok (.iload 6, 2) := by decide +kernel
theorem d_Mo_fill_50 : decode b_Mo_fill 50 = .ok (.iconst 4, 1) := by decide +kernel
theorem d_Mo_fill_51 : decode b_Mo_fill 51 = .ok (.if_icmp .ge 218, 3) := by decide +kernel
theorem d_Mo_fill_54 : decode b_Mo_fill 54 = .ok (.iload 6, 2) := by decide +kernel
theorem d_Mo_fill_56 : decode b_Mo_fill 56 = .ok (.ifCond .ne 10, 3) := by decide +kernel
theorem d_Mo_fill_59 : decode b_Mo_fill 59 = .ok (.iload 4, 2) := by decide +kernel
theorem d_Mo_fill_61 : decode b_Mo_fill 61 = .ok (.iconst 1, 1) := by decide +kernel
theorem d_Mo_fill_62 : decode b_Mo_fill 62 = .ok (.iadd, 1) := by decide +kernel
theorem d_Mo_fill_63 : decode b_Mo_fill 63 = .ok (.goto 18, 3) := by decide +kernel
theorem d_Mo_fill_66 : decode b_Mo_fill 66 = .ok (.iload 6, 2) := by decide +kernel
theorem d_Mo_fill_68 : decode b_Mo_fill 68 = .ok (.iconst 2, 1) := by decide +kernel
theorem d_Mo_fill_69 : decode b_Mo_fill 69 = .ok (.if_icmp .ne 10, 3) := by decide +kernel
theorem d_Mo_fill_72 : decode b_Mo_fill 72 = .ok (.iload 4, 2) := by decide +kernel
theorem d_Mo_fill_74 : decode b_Mo_fill 74 = .ok (.iconst 1, 1) := by decide +kernel
theorem d_Mo_fill_75 : decode b_Mo_fill 75 = .ok (.isub, 1) := by decide +kernel
theorem d_Mo_fill_76 : decode b_Mo_fill 76 = .ok (.goto 5, 3) := by decide +kernel
theorem d_Mo_fill_79 : decode b_Mo_fill 79 = .ok (.iload 4, 2) := by decide +kernel
theorem d_Mo_fill_81 : decode b_Mo_fill 81 = .ok (.istore 7, 2) := by decide +kernel
theorem d_Mo_fill_83 : decode b_Mo_fill 83 = .ok (.iload 6, 2) := by decide +kernel
theorem d_Mo_fill_85 : decode b_Mo_fill 85 = .ok (.iconst 1, 1) := by decide +kernel
theorem d_Mo_fill_86 : decode b_Mo_fill 86 = .ok (.if_icmp .ne 10, 3) := by decide +kernel
theorem d_Mo_fill_89 : decode b_Mo_fill 89 = .ok (.iload 5, 2) := by decide +kernel
theorem d_Mo_fill_91 : decode b_Mo_fill 91 = .ok (.iconst 1, 1) := by decide +kernel
theorem d_Mo_fill_92 : decode b_Mo_fill 92 = .ok (.iadd, 1) := by decide +kernel
theorem d_Mo_fill_93 : decode b_Mo_fill 93 = .ok (.goto 18, 3) := by decide +kernel
theorem d_Mo_fill_96 : decode b_Mo_fill 96 = .ok (.iload 6, 2) := by decide +kernel
theorem d_Mo_fill_98 : decode b_Mo_fill 98 = .ok (.iconst 3, 1) := by decide +kernel
theorem d_Mo_fill_99 : decode b_Mo_fill 99 = .ok (.if_icmp .ne 10, 3) := by decide +kernel
theorem d_Mo_fill_102 : decode b_Mo_fill 102 = .ok (.iload 5, 2) := by decide +kernel
theorem d_Mo_fill_104 : decode b_Mo_fill 104 = .ok (.iconst 1, 1) := by decide +kernel
theorem d_Mo_fill_105 : decode b_Mo_fill 105 = .ok (.isub, 1) := by decide +kernel
theorem d_Mo_fill_106 : decode b_Mo_fill 106 = .ok (.goto 5, 3) := by decide +kernel
theorem d_Mo_fill_109 : decode b_Mo_fill 109 = .ok (.iload 5, 2) := by decide +kernel
theorem d_Mo_fill_111 : decode b_Mo_fill 111 = .ok (.istore 8, 2) := by decide +kernel
theorem d_Mo_fill_113 : decode b_Mo_fill 113 = .ok (.iload 7, 2) := by decide +kernel
theorem d_Mo_fill_115 : decode b_Mo_fill 115 = .ok (.i2l, 1) := by decide +kernel
theorem d_Mo_fill_116 : decode b_Mo_fill 116 = .ok (.lconst 0, 1) := by decide +kernel
theorem d_Mo_fill_117 : decode b_Mo_fill 117 = .ok (.aload_n 0, 1) := by decide +kernel
theorem d_Mo_fill_118 : decode b_Mo_fill 118 = .ok (.getfield 157, 3) := by decide +kernel
theorem d_Mo_fill_121 : decode b_Mo_fill 121 = .ok (.i2l, 1) := by decide +kernel
theorem d_Mo_fill_122 : decode b_Mo_fill 122 = .ok (.invokestatic 133, 3) := by decide +kernel
theorem d_Mo_fill_125 : decode b_Mo_fill 125 = .ok (.ifCond .eq 22, 3) := by decide +kernel
theorem d_Mo_fill_128 : decode b_Mo_fill 128 = .ok (.iload 8, 2) := by decide +kernel
theorem d_Mo_fill_130 : decode b_Mo_fill 130 = .ok (.i2l, 1) := by decide +kernel
theorem d_Mo_fill_131 : decode b_Mo_fill 131 = .ok (.lconst 0, 1) := by decide +kernel
theorem d_Mo_fill_132 : decode b_Mo_fill 132 = .ok (.aload_n 0, 1) := by decide +kernel
theorem d_Mo_fill_133 : decode b_Mo_fill 133 = .ok (.getfield 160, 3) := by decide +kernel
theorem d_Mo_fill_136 : decode b_Mo_fill 136 = .ok (.i2l, 1) := by decide +kernel
theorem d_Mo_fill_137 : decode b_Mo_fill 137 = .ok (.invokestatic 133, 3) := by decide +kernel
theorem d_Mo_fill_140 : decode b_Mo_fill 140 = .ok (.ifCond .eq 7, 3) := by decide +kernel
theorem d_Mo_fill_143 : decode b_Mo_fill 143 = .ok (.iconst 1, 1) := by decide +kernel
theorem d_Mo_fill_144 : decode b_Mo_fill 144 = .ok (.goto 4, 3) := by decide +kernel
theorem d_Mo_fill_147 : decode b_Mo_fill 147 = .ok (.iconst 0, 1) := by decide +kernel
theorem d_Mo_fill_148 : decode b_Mo_fill 148 = .ok (.istore 9, 2) := by decide +kernel
theorem d_Mo_fill_150 : decode b_Mo_fill 150 = .ok (.iload 9, 2) := by decide +kernel
theorem d_Mo_fill_152 : decode b_Mo_fill 152 = .ok (.ifCond .eq 54, 3) := by decide +kernel
theorem d_Mo_fill_155 : decode b_Mo_fill 155 = .ok (.aload_n 0, 1) := by decide +kernel
theorem d_Mo_fill_156 : decode b_Mo_fill 156 = .ok (.iload 7, 2) := by decide +kernel
theorem d_Mo_fill_158 : decode b_Mo_fill 158 = .ok (.iload 4, 2) := by decide +kernel
theorem d_Mo_fill_160 : decode b_Mo_fill 160 = .ok (.if_icmp .ge 8, 3) := by decide +kernel
theorem d_Mo_fill_163 : decode b_Mo_fill 163 = .ok (.iload 7, 2) := by decide +kernel
theorem d_Mo_fill_165 : decode b_Mo_fill 165 = .ok (.goto 5, 3) := by decide +kernel
theorem d_Mo_fill_168 : decode b_Mo_fill 168 = .ok (.iload 4, 2) := by decide +kernel
theorem d_Mo_fill_170 : decode b_Mo_fill 170 = .ok (.iload 8, 2) := by decide +kernel
theorem d_Mo_fill_172 : decode b_Mo_fill 172 = .ok (.iload 5, 2) := by decide +kernel
theorem d_Mo_fill_174 : decode b_Mo_fill 174 = .ok (.if_icmp .ge 8, 3) := by decide +kernel
theorem d_Mo_fill_177 : decode b_Mo_fill 177 = .ok (.iload 8, 2) := by decide +kernel
theorem d_Mo_fill_179 : decode b_Mo_fill 179 = .ok (.goto 5, 3) := by decide +kernel
theorem d_Mo_fill_182 : decode b_Mo_fill 182 = .ok (.iload 5, 2) := by decide +kernel
theorem d_Mo_fill_184 : decode b_Mo_fill 184 = .ok (.iload 6, 2) := by decide +kernel
theorem d_Mo_fill_186 : decode b_Mo_fill 186 = .ok (.iconst 2, 1) := by decide +kernel
theorem d_Mo_fill_187 : decode b_Mo_fill 187 = .ok (.irem, 1) := by decide +kernel
theorem d_Mo_fill_188 : decode b_Mo_fill 188 = .ok (.ifCond .ne 7, 3) := by decide +kernel
theorem d_Mo_fill_191 : decode b_Mo_fill 191 = .ok (.iconst 1, 1) := by decide +kernel
theorem d_Mo_fill_192 : decode b_Mo_fill 192 = .ok (.goto 4, 3) := by decide +kernel
theorem d_Mo_fill_195 : decode b_Mo_fill 195 = .ok (.iconst 0, 1) := by decide +kernel
theorem d_Mo_fill_196 : decode b_Mo_fill 196 = .ok (.invokevirtual 177, 3) := by decide +kernel
theorem d_Mo_fill_199 : decode b_Mo_fill 199 = .ok (.ifCond .eq 7, 3) := by decide +kernel
theorem d_Mo_fill_202 : decode b_Mo_fill 202 = .ok (.iconst 1, 1) := by decide +kernel
theorem d_Mo_fill_203 : decode b_Mo_fill 203 = .ok (.goto 4, 3) := by decide +kernel
theorem d_Mo_fill_206 : decode b_Mo_fill 206 = .ok (.iconst 0, 1) := by decide +kernel
theorem d_Mo_fill_207 : decode b_Mo_fill 207 = .ok (.istore 10, 2) := by decide +kernel
theorem d_Mo_fill_209 : decode b_Mo_fill 209 = .ok (.iload 10, 2) := by decide +kernel
theorem d_Mo_fill_211 : decode b_Mo_fill 211 = .ok (.ifCond .eq 52, 3) := by decide +kernel
theorem d_Mo_fill_214 : decode b_Mo_fill 214 = .ok (.aload_n 0, 1) := by decide +kernel
theorem d_Mo_fill_215 : decode b_Mo_fill 215 = .ok (.getfield 41, 3) := by decide +kernel
theorem d_Mo_fill_218 : decode b_Mo_fill 218 = .ok (.bipush 42, 2) := by decide +kernel
theorem d_Mo_fill_220 : decode b_Mo_fill 220 = .ok (.iload 7, 2) := by decide +kernel
theorem d_Mo_fill_222 : decode b_Mo_fill 222 = .ok (.imul, 1) := by decide +kernel
theorem d_Mo_fill_223 : decode b_Mo_fill 223 = .ok (.iload 8, 2) := by decide +kernel
theorem d_Mo_fill_225 : decode b_Mo_fill 225 = .ok (.iadd, 1) := by decide +kernel
theorem d_Mo_fill_226 : decode b_Mo_fill 226 = .ok (.iaload, 1) := by decide +kernel
theorem d_Mo_fill_227 : decode b_Mo_fill 227 = .ok (.bipush (-3), 2) := by decide +kernel
theorem d_Mo_fill_229 : decode b_Mo_fill 229 = .ok (.if_icmp .ne 34, 3) := by decide +kernel
theorem d_Mo_fill_232 : decode b_Mo_fill 232 = .ok (.aload_n 0, 1) := by decide +kernel
theorem d_Mo_fill_233 : decode b_Mo_fill 233 = .ok (.getfield 41, 3) := by decide +kernel
theorem d_Mo_fill_236 : decode b_Mo_fill 236 = .ok (.bipush 42, 2) := by decide +kernel
theorem d_Mo_fill_238 : decode b_Mo_fill 238 = .ok (.iload 7, 2) := by decide +kernel
theorem d_Mo_fill_240 : decode b_Mo_fill 240 = .ok (.imul, 1) := by decide +kernel
theorem d_Mo_fill_241 : decode b_Mo_fill 241 = .ok (.iload 8, 2) := by decide +kernel
theorem d_Mo_fill_243 : decode b_Mo_fill 243 = .ok (.iadd, 1) := by decide +kernel
theorem d_Mo_fill_244 : decode b_Mo_fill 244 = .ok (.iload_n 2, 1) := by decide +kernel
theorem d_Mo_fill_245 : decode b_Mo_fill 245 = .ok (.iastore, 1) := by decide +kernel
theorem d_Mo_fill_246 : decode b_Mo_fill 246 = .ok (.aload_n 0, 1) := by decide +kernel
theorem d_Mo_fill_247 : decode b_Mo_fill 247 = .ok (.getfield 75, 3) := by decide +kernel
theorem d_Mo_fill_250 : decode b_Mo_fill 250 = .ok (.iload_n 3, 1) := by decide +kernel
theorem d_Mo_fill_251 : decode b_Mo_fill 251 = .ok (.bipush 42, 2) := by decide +kernel
theorem d_Mo_fill_253 : decode b_Mo_fill 253 = .ok (.iload 7, 2) := by decide +kernel
theorem d_Mo_fill_255 : decode b_Mo_fill 255 = .ok (.imul, 1) := by decide +kernel
theorem d_Mo_fill_256 : decode b_Mo_fill 256 = .ok (.iload 8, 2) := by decide +kernel
theorem d_Mo_fill_258 : decode b_Mo_fill 258 = .ok (.iadd, 1) := by decide +kernel
theorem d_Mo_fill_259 : decode b_Mo_fill 259 = .ok (.iastore, 1) := by decide +kernel
theorem d_Mo_fill_260 : decode b_Mo_fill 260 = .ok (.iinc 3 1, 3) := by decide +kernel
theorem d_Mo_fill_263 : decode b_Mo_fill 263 = .ok (.iinc 6 1, 3) := by decide +kernel
theorem d_Mo_fill_266 : decode b_Mo_fill 266 = .ok (.goto (-218), 3) := by decide +kernel
theorem d_Mo_fill_269 : decode b_Mo_fill 269 = .ok (.goto (-253), 3) := by decide +kernel
theorem d_Mo_fill_272 : decode b_Mo_fill 272 = .ok (.return_, 1) := by decide +kernel
abbrev wl_Mo_fill (a_0 : Nat) (a_0_labels : Nat) (a_0_flatEdges : Nat) (a_0_upEdges : Nat) (a_0_stack : Nat) (b_0_isFlat : Nat) (b_0_across : Nat) (b_0_lows : Nat) (b_0_highs : Nat) (b_0_thick : Nat) (b_0_doorCounts : Nat) (b_0_doorFrom : Nat) (b_0_doorTo : Nat) (b_0_xs : Nat) (b_0_ys : Nat) (b_0_oldXs : Nat) (b_0_oldYs : Nat) (b_0_oldLabels : Nat) (b_0_names : Nat) (b_0_oldNames : Nat) (b_0_wanted : Nat) (b_0_common : Nat) (b_0_isPoint : Nat) (b_0_pieceLines : Nat) (b_0_pieceBegins : Nat) (b_0_pieceEnds : Nat) (b_0_pieceLeft : Nat) (b_0_pieceRight : Nat) (b_0_outs : Nat) (b_0_isSeen : Nat) (b_0_ringSpaces : Nat) (b_0_ringStarts : Nat) (b_0_ringSizes : Nat) (b_0_ringLeast : Nat) (b_0_looseLines : Nat) (b_0_looseXs : Nat) (b_0_looseYs : Nat) (b_0_looseReaches : Nat) (b_0_far : Nat) (cI : ClassId) (v_0_code : Int32) (v_0_lines : Int32) (v_0_isFresh : Int32) (v_0_hasRun : Int32) (v_0_runs : Int32) (v_0_nx : Int32) (v_0_ny : Int32) (v_0_spaces : Int32) (v_0_oldNx : Int32) (v_0_oldNy : Int32) (v_0_oldSpaces : Int32) (v_0_points : Int32) (v_0_pieces : Int32) (v_0_rings : Int32) (v_0_outsideSides : Int32) (v_0_looseCount : Int32) (f_0_labels : Nat → Int32) (f_0_flatEdges : Nat → Int32) (f_0_upEdges : Nat → Int32) (f_0_stack : Nat → Int32) : va_W := [(a_0, .inr (11, [.int v_0_code, .ref b_0_isFlat, .ref b_0_across, .ref b_0_lows, .ref b_0_highs, .ref b_0_thick, .int v_0_lines, .ref b_0_doorCounts, .ref b_0_doorFrom, .ref b_0_doorTo, .int v_0_isFresh, .int v_0_hasRun, .int v_0_runs, .ref b_0_xs, .ref b_0_ys, .int v_0_nx, .int v_0_ny, .ref a_0_labels, .int v_0_spaces, .ref b_0_oldXs, .ref b_0_oldYs, .int v_0_oldNx, .int v_0_oldNy, .ref b_0_oldLabels, .int v_0_oldSpaces, .ref b_0_names, .ref b_0_oldNames, .ref b_0_wanted, .ref b_0_common, .ref a_0_flatEdges, .ref a_0_upEdges, .ref b_0_isPoint, .int v_0_points, .ref a_0_stack, .ref b_0_pieceLines, .ref b_0_pieceBegins, .ref b_0_pieceEnds, .ref b_0_pieceLeft, .ref b_0_pieceRight, .int v_0_pieces, .ref b_0_outs, .ref b_0_isSeen, .ref b_0_ringSpaces, .ref b_0_ringStarts, .ref b_0_ringSizes, .ref b_0_ringLeast, .int v_0_rings, .int v_0_outsideSides, .ref b_0_looseLines, .ref b_0_looseXs, .ref b_0_looseYs, .ref b_0_looseReaches, .int v_0_looseCount, .ref b_0_far])), (a_0_labels, .inl (cI, 1764, .inl f_0_labels)), (a_0_flatEdges, .inl (cI, 1764, .inl f_0_flatEdges)), (a_0_upEdges, .inl (cI, 1764, .inl f_0_upEdges)), (a_0_stack, .inl (cI, 1764, .inl f_0_stack))]
def m_Mo_fill_L48 (l2 : Int32) (l4 : Int32) (l5 : Int32) (v_0_nx : Int32) (v_0_ny : Int32) (f_0_flatEdges : Nat → Int32) (f_0_upEdges : Nat → Int32) : Nat → Int32 → Int32 → (Nat → Int32) → (Nat → Int32) → Option (Int32 × (Nat → Int32) × (Nat → Int32))
  | 0, _, _, _, _ => none
  | n + 1, l3, l6, f_0_labels, f_0_stack =>
    if 4 ≤ l6 then (
      some (l3, f_0_labels, f_0_stack))
    else (
      bd1 (
        if l6 = 0 then (
        some (l4 + 1))
      else (
        if l6 = 2 then (
          some (l4 - 1))
        else (
          some l4)))
      fun (x15 : Int32) =>
      bd1 (
          if l6 = 1 then (
          some (l5 + 1))
        else (
          if l6 = 3 then (
            some (l5 - 1))
          else (
            some l5)))
        fun (x21 : Int32) =>
        bd1 (m_Mo_isIn (Int32.toInt64 x15) 0 (Int32.toInt64 v_0_nx)) fun r24 =>
          bd1 (
            if r24 = 0 then (
            some 0)
          else (
            bd1 (m_Mo_isIn (Int32.toInt64 x21) 0 (Int32.toInt64 v_0_ny)) fun r31 =>
            if r31 = 0 then (
              some 0)
            else (
              some 1)))
          fun (x29 : Int32) =>
          bd1 (
              if x29 = 0 then (
              some 0)
            else (
              bd1 (
                if l4 ≤ x15 then (
                some l4)
              else (
                some x15))
              fun (x42 : Int32) =>
              bd1 (
                  if l5 ≤ x21 then (
                  some l5)
                else (
                  some x21))
                fun (x47 : Int32) =>
                bd1 (
                    if (l6 - l6 / 2 * 2) = 0 then (
                    some 1)
                  else (
                    some 0))
                  fun (x52 : Int32) =>
                  bd1 (m_Mo_isFree x42 x47 x52 v_0_nx v_0_ny f_0_flatEdges f_0_upEdges) fun r54 =>
                    if r54 = 0 then (
                      some 0)
                    else (
                      some 1)))
            fun (x37 : Int32) =>
            bd3 (
                if x37 = 0 then (
                some (l3, f_0_labels, f_0_stack))
              else (
                gI ((42 * x15) + x21) 1764 <|
                if (f_0_labels ((42 * x15) + x21).toNatClampNeg) = (-3) then (
                  gI ((42 * x15) + x21) 1764 <|
                  lt_ (upd f_0_labels ((42 * x15) + x21).toNatClampNeg l2) fun f67 =>
                  gI l3 1764 <|
                  lt_ (upd f_0_stack l3.toNatClampNeg ((42 * x15) + x21)) fun f69 =>
                  lt_ (l3 + 1) fun x70 =>
                  some (x70, f67, f69))
                else (
                  some (l3, f_0_labels, f_0_stack))))
              fun (x60 : Int32) (f61 : Nat → Int32) (f62 : Nat → Int32) =>
              lt_ (l6 + 1) fun x71 =>
                m_Mo_fill_L48 l2 l4 l5 v_0_nx v_0_ny f_0_flatEdges f_0_upEdges n x60 x71 f61 f62)

def m_Mo_fill_L16 (l2 : Int32) (v_0_nx : Int32) (v_0_ny : Int32) (f_0_flatEdges : Nat → Int32) (f_0_upEdges : Nat → Int32) : Nat → Int32 → (Nat → Int32) → (Nat → Int32) → Option ((Nat → Int32) × (Nat → Int32))
  | 0, _, _, _ => none
  | n + 1, l3, f_0_labels, f_0_stack =>
    if l3 ≤ 0 then (
      some (f_0_labels, f_0_stack))
    else (
      lt_ (l3 + (-1)) fun x6 =>
      gI x6 1764 <|
      lt_ ((f_0_stack x6.toNatClampNeg) / 42) fun x8 =>
      gI x6 1764 <|
      lt_ ((f_0_stack x6.toNatClampNeg) - (f_0_stack x6.toNatClampNeg) / 42 * 42) fun x10 =>
      bd3 (m_Mo_fill_L48 l2 x8 x10 v_0_nx v_0_ny f_0_flatEdges f_0_upEdges fu x6 0 f_0_labels f_0_stack) fun x15 f16 f17 =>
      m_Mo_fill_L16 l2 v_0_nx v_0_ny f_0_flatEdges f_0_upEdges n x15 f16 f17)
def m_Mo_fill (p1 : Int32) (p2 : Int32) (v_0_nx : Int32) (v_0_ny : Int32) (f_0_labels : Nat → Int32) (f_0_flatEdges : Nat → Int32) (f_0_upEdges : Nat → Int32) (f_0_stack : Nat → Int32) : Option ((Nat → Int32) × (Nat → Int32)) :=
  gI 0 1764 <|
  lt_ (upd f_0_stack (0 : Int32).toNatClampNeg p1) fun f2 =>
  gI p1 1764 <|
  lt_ (upd f_0_labels p1.toNatClampNeg p2) fun f4 =>
  bd2 (m_Mo_fill_L16 p2 v_0_nx v_0_ny f_0_flatEdges f_0_upEdges fu 1 f4 f2) fun f8 f9 =>
  some (f8, f9)

set_option maxHeartbeats 4000000 in
set_option maxRecDepth 100000 in
theorem t_Mo_fill {p : Program} {l : Launch} {e : Env} {s : State} {m : MethodId} {args : Array Value} {below : List Frame} {meth : Method} {c : Code} {A : Nat → Prop} {Q : State → Prop} {dC : Nat → ClassId} {dI : Nat → Nat → Nat} {cI cZ cJ : ClassId} (a_0 a_0_labels a_0_flatEdges a_0_upEdges a_0_stack b_0_isFlat b_0_across b_0_lows b_0_highs b_0_thick b_0_doorCounts b_0_doorFrom b_0_doorTo b_0_xs b_0_ys b_0_oldXs b_0_oldYs b_0_oldLabels b_0_names b_0_oldNames b_0_wanted b_0_common b_0_isPoint b_0_pieceLines b_0_pieceBegins b_0_pieceEnds b_0_pieceLeft b_0_pieceRight b_0_outs b_0_isSeen b_0_ringSpaces b_0_ringStarts b_0_ringSizes b_0_ringLeast b_0_looseLines b_0_looseXs b_0_looseYs b_0_looseReaches b_0_far : Nat) (v_0_code : Int32) (v_0_lines : Int32) (v_0_isFresh : Int32) (v_0_hasRun : Int32) (v_0_runs : Int32) (v_0_nx : Int32) (v_0_ny : Int32) (v_0_spaces : Int32) (v_0_oldNx : Int32) (v_0_oldNy : Int32) (v_0_oldSpaces : Int32) (v_0_points : Int32) (v_0_pieces : Int32) (v_0_rings : Int32) (v_0_outsideSides : Int32) (v_0_looseCount : Int32) (f_0_labels : Nat → Int32) (f_0_flatEdges : Nat → Int32) (f_0_upEdges : Nat → Int32) (f_0_stack : Nat → Int32) (p1 : Int32) (p2 : Int32) (of_0_labels : Nat → Int32) (of_0_stack : Nat → Int32) (hx : p.tables.exec = Jvm.exec) (hb : c.code = b_Mo_fill) (hml : c.maxLocals = 11) (hown : s.vm.findClass "SpaceCyclesModel" = some m.cls) (hts : ∀ w ∈ w_Mo_fill, w.before args s = true) (hK : va_K (dC, dI) vwCl [(cI, .int), (cZ, .boolean), (cJ, .long)] s) (hN : NX s) (hA : ∀ q : Nat, s.heap.size ≤ q → A q)
    (hret : ∀ (pc : Nat) (H : Heap) (locs : List Loc) (ls : Array Slot), decode b_Mo_fill pc = .ok (.return_, 1) → va_P (dC, dI) vwCl (wl_Mo_fill a_0 a_0_labels a_0_flatEdges a_0_upEdges a_0_stack b_0_isFlat b_0_across b_0_lows b_0_highs b_0_thick b_0_doorCounts b_0_doorFrom b_0_doorTo b_0_xs b_0_ys b_0_oldXs b_0_oldYs b_0_oldLabels b_0_names b_0_oldNames b_0_wanted b_0_common b_0_isPoint b_0_pieceLines b_0_pieceBegins b_0_pieceEnds b_0_pieceLeft b_0_pieceRight b_0_outs b_0_isSeen b_0_ringSpaces b_0_ringStarts b_0_ringSizes b_0_ringLeast b_0_looseLines b_0_looseXs b_0_looseYs b_0_looseReaches b_0_far cI v_0_code v_0_lines v_0_isFresh v_0_hasRun v_0_runs v_0_nx v_0_ny v_0_spaces v_0_oldNx v_0_oldNy v_0_oldSpaces v_0_points v_0_pieces v_0_rings v_0_outsideSides v_0_looseCount of_0_labels f_0_flatEdges f_0_upEdges of_0_stack) H → va_D A (wl_Mo_fill a_0 a_0_labels a_0_flatEdges a_0_upEdges a_0_stack b_0_isFlat b_0_across b_0_lows b_0_highs b_0_thick b_0_doorCounts b_0_doorFrom b_0_doorTo b_0_xs b_0_ys b_0_oldXs b_0_oldYs b_0_oldLabels b_0_names b_0_oldNames b_0_wanted b_0_common b_0_isPoint b_0_pieceLines b_0_pieceBegins b_0_pieceEnds b_0_pieceLeft b_0_pieceRight b_0_outs b_0_isSeen b_0_ringSpaces b_0_ringStarts b_0_ringSizes b_0_ringLeast b_0_looseLines b_0_looseXs b_0_looseYs b_0_looseReaches b_0_far cI v_0_code v_0_lines v_0_isFresh v_0_hasRun v_0_runs v_0_nx v_0_ny v_0_spaces v_0_oldNx v_0_oldNy v_0_oldSpaces v_0_points v_0_pieces v_0_rings v_0_outsideSides v_0_looseCount of_0_labels f_0_flatEdges f_0_upEdges of_0_stack) → va_S A s.heap H locs → W p l e rm_Mo_fill s m args below meth c H locs 0 0 Q (F0 m pc ls []))
    (hm : m_Mo_fill p1 p2 v_0_nx v_0_ny f_0_labels f_0_flatEdges f_0_upEdges f_0_stack = some (of_0_labels, of_0_stack)) : ∀ (H : Heap) (locs : List Loc) (ls : Array Slot), va_P (dC, dI) vwCl (wl_Mo_fill a_0 a_0_labels a_0_flatEdges a_0_upEdges a_0_stack b_0_isFlat b_0_across b_0_lows b_0_highs b_0_thick b_0_doorCounts b_0_doorFrom b_0_doorTo b_0_xs b_0_ys b_0_oldXs b_0_oldYs b_0_oldLabels b_0_names b_0_oldNames b_0_wanted b_0_common b_0_isPoint b_0_pieceLines b_0_pieceBegins b_0_pieceEnds b_0_pieceLeft b_0_pieceRight b_0_outs b_0_isSeen b_0_ringSpaces b_0_ringStarts b_0_ringSizes b_0_ringLeast b_0_looseLines b_0_looseXs b_0_looseYs b_0_looseReaches b_0_far cI v_0_code v_0_lines v_0_isFresh v_0_hasRun v_0_runs v_0_nx v_0_ny v_0_spaces v_0_oldNx v_0_oldNy v_0_oldSpaces v_0_points v_0_pieces v_0_rings v_0_outsideSides v_0_looseCount f_0_labels f_0_flatEdges f_0_upEdges f_0_stack) H → va_D A (wl_Mo_fill a_0 a_0_labels a_0_flatEdges a_0_upEdges a_0_stack b_0_isFlat b_0_across b_0_lows b_0_highs b_0_thick b_0_doorCounts b_0_doorFrom b_0_doorTo b_0_xs b_0_ys b_0_oldXs b_0_oldYs b_0_oldLabels b_0_names b_0_oldNames b_0_wanted b_0_common b_0_isPoint b_0_pieceLines b_0_pieceBegins b_0_pieceEnds b_0_pieceLeft b_0_pieceRight b_0_outs b_0_isSeen b_0_ringSpaces b_0_ringStarts b_0_ringSizes b_0_ringLeast b_0_looseLines b_0_looseXs b_0_looseYs b_0_looseReaches b_0_far cI v_0_code v_0_lines v_0_isFresh v_0_hasRun v_0_runs v_0_nx v_0_ny v_0_spaces v_0_oldNx v_0_oldNy v_0_oldSpaces v_0_points v_0_pieces v_0_rings v_0_outsideSides v_0_looseCount f_0_labels f_0_flatEdges f_0_upEdges f_0_stack) → va_S A s.heap H locs → lv_has ls 11 [(0, .ref a_0), (1, .int p1), (2, .int p2)] → W p l e rm_Mo_fill s m args below meth c H locs 0 0 Q (F0 m 0 ls []) := by
  intro H locs ls hP hD hS hl
  unfold m_Mo_fill at hm
  refine lv_iconst (v := 1) hx hb d_Mo_fill_0 (by decide) ?_
  refine lv_istore_n (lv' := [(3, .int 1), (0, .ref a_0), (1, .int p1), (2, .int p2)]) hx hb d_Mo_fill_1 rfl hl (by decide) rfl (fun ls hl => ?_)
  refine lv_aload_n hx hb d_Mo_fill_2 rfl (lv_at hl 1 rfl) ?_
  refine va_get (D := (dC, dI)) (ci := 11) (v := .ref a_0_stack) (C := "SpaceCyclesModel") (T := F_Mo) (N := 54) hx hb hts (in_F i_Mo) hown hK hP 0 rfl rfl 33 (by decide) (hts _ (in_c k_318)) (fun _ h9 => h9) rfl d_Mo_fill_3 ?_
  refine lv_iconst (v := 0) hx hb d_Mo_fill_6 (by decide) ?_
  refine lv_iload_n hx hb d_Mo_fill_7 rfl (lv_at hl 2 rfl) ?_
  obtain ⟨hi1, hm⟩ := gI_e hm
  obtain ⟨f2, ef2⟩ : ∃ y : Nat → Int32, y = upd f_0_stack (0 : Int32).toNatClampNeg p1 := ⟨_, rfl⟩
  replace hm := lt_el hm ef2
  refine va_iast hx hb hK hP hD hS 4 0 rfl rfl hi1 d_Mo_fill_8 (fun H locs hP hD hS => ?_)
  rw [← ef2] at hP hD
  have hP : va_P (dC, dI) vwCl (wl_Mo_fill a_0 a_0_labels a_0_flatEdges a_0_upEdges a_0_stack b_0_isFlat b_0_across b_0_lows b_0_highs b_0_thick b_0_doorCounts b_0_doorFrom b_0_doorTo b_0_xs b_0_ys b_0_oldXs b_0_oldYs b_0_oldLabels b_0_names b_0_oldNames b_0_wanted b_0_common b_0_isPoint b_0_pieceLines b_0_pieceBegins b_0_pieceEnds b_0_pieceLeft b_0_pieceRight b_0_outs b_0_isSeen b_0_ringSpaces b_0_ringStarts b_0_ringSizes b_0_ringLeast b_0_looseLines b_0_looseXs b_0_looseYs b_0_looseReaches b_0_far cI v_0_code v_0_lines v_0_isFresh v_0_hasRun v_0_runs v_0_nx v_0_ny v_0_spaces v_0_oldNx v_0_oldNy v_0_oldSpaces v_0_points v_0_pieces v_0_rings v_0_outsideSides v_0_looseCount f_0_labels f_0_flatEdges f_0_upEdges f2) H := hP
  have hD : va_D A (wl_Mo_fill a_0 a_0_labels a_0_flatEdges a_0_upEdges a_0_stack b_0_isFlat b_0_across b_0_lows b_0_highs b_0_thick b_0_doorCounts b_0_doorFrom b_0_doorTo b_0_xs b_0_ys b_0_oldXs b_0_oldYs b_0_oldLabels b_0_names b_0_oldNames b_0_wanted b_0_common b_0_isPoint b_0_pieceLines b_0_pieceBegins b_0_pieceEnds b_0_pieceLeft b_0_pieceRight b_0_outs b_0_isSeen b_0_ringSpaces b_0_ringStarts b_0_ringSizes b_0_ringLeast b_0_looseLines b_0_looseXs b_0_looseYs b_0_looseReaches b_0_far cI v_0_code v_0_lines v_0_isFresh v_0_hasRun v_0_runs v_0_nx v_0_ny v_0_spaces v_0_oldNx v_0_oldNy v_0_oldSpaces v_0_points v_0_pieces v_0_rings v_0_outsideSides v_0_looseCount f_0_labels f_0_flatEdges f_0_upEdges f2) := hD
  refine lv_aload_n hx hb d_Mo_fill_9 rfl (lv_at hl 1 rfl) ?_
  refine va_get (D := (dC, dI)) (ci := 11) (v := .ref a_0_labels) (C := "SpaceCyclesModel") (T := F_Mo) (N := 54) hx hb hts (in_F i_Mo) hown hK hP 0 rfl rfl 17 (by decide) (hts _ (in_c k_319)) (fun _ h9 => h9) rfl d_Mo_fill_10 ?_
  refine lv_iload_n hx hb d_Mo_fill_13 rfl (lv_at hl 2 rfl) ?_
  refine lv_iload_n hx hb d_Mo_fill_14 rfl (lv_at hl 3 rfl) ?_
  obtain ⟨hi3, hm⟩ := gI_e hm
  obtain ⟨f4, ef4⟩ : ∃ y : Nat → Int32, y = upd f_0_labels p1.toNatClampNeg p2 := ⟨_, rfl⟩
  replace hm := lt_el hm ef4
  refine va_iast hx hb hK hP hD hS 1 0 rfl rfl hi3 d_Mo_fill_15 (fun H locs hP hD hS => ?_)
  rw [← ef4] at hP hD
  have hP : va_P (dC, dI) vwCl (wl_Mo_fill a_0 a_0_labels a_0_flatEdges a_0_upEdges a_0_stack b_0_isFlat b_0_across b_0_lows b_0_highs b_0_thick b_0_doorCounts b_0_doorFrom b_0_doorTo b_0_xs b_0_ys b_0_oldXs b_0_oldYs b_0_oldLabels b_0_names b_0_oldNames b_0_wanted b_0_common b_0_isPoint b_0_pieceLines b_0_pieceBegins b_0_pieceEnds b_0_pieceLeft b_0_pieceRight b_0_outs b_0_isSeen b_0_ringSpaces b_0_ringStarts b_0_ringSizes b_0_ringLeast b_0_looseLines b_0_looseXs b_0_looseYs b_0_looseReaches b_0_far cI v_0_code v_0_lines v_0_isFresh v_0_hasRun v_0_runs v_0_nx v_0_ny v_0_spaces v_0_oldNx v_0_oldNy v_0_oldSpaces v_0_points v_0_pieces v_0_rings v_0_outsideSides v_0_looseCount f4 f_0_flatEdges f_0_upEdges f2) H := hP
  have hD : va_D A (wl_Mo_fill a_0 a_0_labels a_0_flatEdges a_0_upEdges a_0_stack b_0_isFlat b_0_across b_0_lows b_0_highs b_0_thick b_0_doorCounts b_0_doorFrom b_0_doorTo b_0_xs b_0_ys b_0_oldXs b_0_oldYs b_0_oldLabels b_0_names b_0_oldNames b_0_wanted b_0_common b_0_isPoint b_0_pieceLines b_0_pieceBegins b_0_pieceEnds b_0_pieceLeft b_0_pieceRight b_0_outs b_0_isSeen b_0_ringSpaces b_0_ringStarts b_0_ringSizes b_0_ringLeast b_0_looseLines b_0_looseXs b_0_looseYs b_0_looseReaches b_0_far cI v_0_code v_0_lines v_0_isFresh v_0_hasRun v_0_runs v_0_nx v_0_ny v_0_spaces v_0_oldNx v_0_oldNy v_0_oldSpaces v_0_points v_0_pieces v_0_rings v_0_outsideSides v_0_looseCount f4 f_0_flatEdges f_0_upEdges f2) := hD
  have L16_10 : ∀ (n : Nat) (x5 : Int32) (f6 : Nat → Int32) (f7 : Nat → Int32) (f8 : Nat → Int32) (f9 : Nat → Int32), m_Mo_fill_L16 p2 v_0_nx v_0_ny f_0_flatEdges f_0_upEdges n x5 f6 f7 = some (f8, f9) → (∀ (H : Heap) (locs : List Loc) (ls : Array Slot), va_P (dC, dI) vwCl (wl_Mo_fill a_0 a_0_labels a_0_flatEdges a_0_upEdges a_0_stack b_0_isFlat b_0_across b_0_lows b_0_highs b_0_thick b_0_doorCounts b_0_doorFrom b_0_doorTo b_0_xs b_0_ys b_0_oldXs b_0_oldYs b_0_oldLabels b_0_names b_0_oldNames b_0_wanted b_0_common b_0_isPoint b_0_pieceLines b_0_pieceBegins b_0_pieceEnds b_0_pieceLeft b_0_pieceRight b_0_outs b_0_isSeen b_0_ringSpaces b_0_ringStarts b_0_ringSizes b_0_ringLeast b_0_looseLines b_0_looseXs b_0_looseYs b_0_looseReaches b_0_far cI v_0_code v_0_lines v_0_isFresh v_0_hasRun v_0_runs v_0_nx v_0_ny v_0_spaces v_0_oldNx v_0_oldNy v_0_oldSpaces v_0_points v_0_pieces v_0_rings v_0_outsideSides v_0_looseCount f8 f_0_flatEdges f_0_upEdges f9) H → va_D A (wl_Mo_fill a_0 a_0_labels a_0_flatEdges a_0_upEdges a_0_stack b_0_isFlat b_0_across b_0_lows b_0_highs b_0_thick b_0_doorCounts b_0_doorFrom b_0_doorTo b_0_xs b_0_ys b_0_oldXs b_0_oldYs b_0_oldLabels b_0_names b_0_oldNames b_0_wanted b_0_common b_0_isPoint b_0_pieceLines b_0_pieceBegins b_0_pieceEnds b_0_pieceLeft b_0_pieceRight b_0_outs b_0_isSeen b_0_ringSpaces b_0_ringStarts b_0_ringSizes b_0_ringLeast b_0_looseLines b_0_looseXs b_0_looseYs b_0_looseReaches b_0_far cI v_0_code v_0_lines v_0_isFresh v_0_hasRun v_0_runs v_0_nx v_0_ny v_0_spaces v_0_oldNx v_0_oldNy v_0_oldSpaces v_0_points v_0_pieces v_0_rings v_0_outsideSides v_0_looseCount f8 f_0_flatEdges f_0_upEdges f9) → va_S A s.heap H locs → lv_has ls 11 [] → W p l e rm_Mo_fill s m args below meth c H locs 0 0 Q (F0 m 272 ls [])) → ∀ (H : Heap) (locs : List Loc) (ls : Array Slot), va_P (dC, dI) vwCl (wl_Mo_fill a_0 a_0_labels a_0_flatEdges a_0_upEdges a_0_stack b_0_isFlat b_0_across b_0_lows b_0_highs b_0_thick b_0_doorCounts b_0_doorFrom b_0_doorTo b_0_xs b_0_ys b_0_oldXs b_0_oldYs b_0_oldLabels b_0_names b_0_oldNames b_0_wanted b_0_common b_0_isPoint b_0_pieceLines b_0_pieceBegins b_0_pieceEnds b_0_pieceLeft b_0_pieceRight b_0_outs b_0_isSeen b_0_ringSpaces b_0_ringStarts b_0_ringSizes b_0_ringLeast b_0_looseLines b_0_looseXs b_0_looseYs b_0_looseReaches b_0_far cI v_0_code v_0_lines v_0_isFresh v_0_hasRun v_0_runs v_0_nx v_0_ny v_0_spaces v_0_oldNx v_0_oldNy v_0_oldSpaces v_0_points v_0_pieces v_0_rings v_0_outsideSides v_0_looseCount f6 f_0_flatEdges f_0_upEdges f7) H → va_D A (wl_Mo_fill a_0 a_0_labels a_0_flatEdges a_0_upEdges a_0_stack b_0_isFlat b_0_across b_0_lows b_0_highs b_0_thick b_0_doorCounts b_0_doorFrom b_0_doorTo b_0_xs b_0_ys b_0_oldXs b_0_oldYs b_0_oldLabels b_0_names b_0_oldNames b_0_wanted b_0_common b_0_isPoint b_0_pieceLines b_0_pieceBegins b_0_pieceEnds b_0_pieceLeft b_0_pieceRight b_0_outs b_0_isSeen b_0_ringSpaces b_0_ringStarts b_0_ringSizes b_0_ringLeast b_0_looseLines b_0_looseXs b_0_looseYs b_0_looseReaches b_0_far cI v_0_code v_0_lines v_0_isFresh v_0_hasRun v_0_runs v_0_nx v_0_ny v_0_spaces v_0_oldNx v_0_oldNy v_0_oldSpaces v_0_points v_0_pieces v_0_rings v_0_outsideSides v_0_looseCount f6 f_0_flatEdges f_0_upEdges f7) → va_S A s.heap H locs → lv_has ls 11 [(0, .ref a_0), (2, .int p2), (3, .int x5)] → W p l e rm_Mo_fill s m args below meth c H locs 0 0 Q (F0 m 16 ls []) := by
    intro n
    induction n with
    | zero => intro x5 f6 f7 f8 f9 hm; simp [m_Mo_fill_L16] at hm
    | succ n ih =>
      intro x5 f6 f7 f8 f9 hm KE H locs ls hP hD hS hl
      rw [m_Mo_fill_L16] at hm
      refine lv_iload_n hx hb d_Mo_fill_16 rfl (lv_at hl 2 rfl) ?_
      refine lv_if_le (tgt := 272) hx hb d_Mo_fill_17 (by decide) (fun c11 => ?_) (fun c11 => ?_)
      · replace hm := if_t hm c11
        cases hm
        exact KE H locs ls hP hD hS (lv_sub hl [] rfl)
      · replace hm := if_f hm c11
        obtain ⟨x12, ex12⟩ : ∃ y : Int32, y = x5 + (-1) := ⟨_, rfl⟩
        replace hm := lt_el hm ex12
        refine lv_iinc (v := x12) (lv' := [(3, .int x12), (0, .ref a_0), (2, .int p2)]) hx hb d_Mo_fill_20 hl (k := 2) rfl (by rw [ex12]; rfl) (by decide) rfl (fun ls hl => ?_)
        refine lv_aload_n hx hb d_Mo_fill_23 rfl (lv_at hl 1 rfl) ?_
        refine va_get (D := (dC, dI)) (ci := 11) (v := .ref a_0_stack) (C := "SpaceCyclesModel") (T := F_Mo) (N := 54) hx hb hts (in_F i_Mo) hown hK hP 0 rfl rfl 33 (by decide) (hts _ (in_c k_318)) (fun _ h9 => h9) rfl d_Mo_fill_24 ?_
        refine lv_iload_n hx hb d_Mo_fill_27 rfl (lv_at hl 0 rfl) ?_
        obtain ⟨hi13, hm⟩ := gI_e hm
        refine va_iald hx hb hK hP 4 0 rfl rfl hi13 d_Mo_fill_28 ?_
        refine lv_bipush (v := 42) hx hb d_Mo_fill_29 (by decide) ?_
        refine lv_idiv hx hb d_Mo_fill_31 (by decide) ?_
        refine lv_topi (fun x14 ex14 => ?_)
        replace hm := lt_el hm ex14
        refine lv_istore (lv' := [(4, .int x14), (3, .int x12), (0, .ref a_0), (2, .int p2)]) hx hb d_Mo_fill_32 hl (by decide) rfl (fun ls hl => ?_)
        refine lv_aload_n hx hb d_Mo_fill_34 rfl (lv_at hl 2 rfl) ?_
        refine va_get (D := (dC, dI)) (ci := 11) (v := .ref a_0_stack) (C := "SpaceCyclesModel") (T := F_Mo) (N := 54) hx hb hts (in_F i_Mo) hown hK hP 0 rfl rfl 33 (by decide) (hts _ (in_c k_318)) (fun _ h9 => h9) rfl d_Mo_fill_35 ?_
        refine lv_iload_n hx hb d_Mo_fill_38 rfl (lv_at hl 1 rfl) ?_
        obtain ⟨hi15, hm⟩ := gI_e hm
        refine va_iald hx hb hK hP 4 0 rfl rfl hi15 d_Mo_fill_39 ?_
        refine lv_bipush (v := 42) hx hb d_Mo_fill_40 (by decide) ?_
        refine lv_irem hx hb d_Mo_fill_42 (by decide) ?_
        refine lv_topi (fun x16 ex16 => ?_)
        replace hm := lt_el hm ex16
        refine lv_istore (lv' := [(5, .int x16), (4, .int x14), (3, .int x12), (0, .ref a_0), (2, .int p2)]) hx hb d_Mo_fill_43 hl (by decide) rfl (fun ls hl => ?_)
        refine lv_iconst (v := 0) hx hb d_Mo_fill_45 (by decide) ?_
        refine lv_istore (lv' := [(6, .int 0), (5, .int x16), (4, .int x14), (3, .int x12), (0, .ref a_0), (2, .int p2)]) hx hb d_Mo_fill_46 hl (by decide) rfl (fun ls hl => ?_)
        have L48_24 : ∀ (n : Nat) (x17 : Int32) (x18 : Int32) (f19 : Nat → Int32) (f20 : Nat → Int32) (x21 : Int32) (f22 : Nat → Int32) (f23 : Nat → Int32), m_Mo_fill_L48 p2 x14 x16 v_0_nx v_0_ny f_0_flatEdges f_0_upEdges n x17 x18 f19 f20 = some (x21, f22, f23) → (∀ (H : Heap) (locs : List Loc) (ls : Array Slot), va_P (dC, dI) vwCl (wl_Mo_fill a_0 a_0_labels a_0_flatEdges a_0_upEdges a_0_stack b_0_isFlat b_0_across b_0_lows b_0_highs b_0_thick b_0_doorCounts b_0_doorFrom b_0_doorTo b_0_xs b_0_ys b_0_oldXs b_0_oldYs b_0_oldLabels b_0_names b_0_oldNames b_0_wanted b_0_common b_0_isPoint b_0_pieceLines b_0_pieceBegins b_0_pieceEnds b_0_pieceLeft b_0_pieceRight b_0_outs b_0_isSeen b_0_ringSpaces b_0_ringStarts b_0_ringSizes b_0_ringLeast b_0_looseLines b_0_looseXs b_0_looseYs b_0_looseReaches b_0_far cI v_0_code v_0_lines v_0_isFresh v_0_hasRun v_0_runs v_0_nx v_0_ny v_0_spaces v_0_oldNx v_0_oldNy v_0_oldSpaces v_0_points v_0_pieces v_0_rings v_0_outsideSides v_0_looseCount f22 f_0_flatEdges f_0_upEdges f23) H → va_D A (wl_Mo_fill a_0 a_0_labels a_0_flatEdges a_0_upEdges a_0_stack b_0_isFlat b_0_across b_0_lows b_0_highs b_0_thick b_0_doorCounts b_0_doorFrom b_0_doorTo b_0_xs b_0_ys b_0_oldXs b_0_oldYs b_0_oldLabels b_0_names b_0_oldNames b_0_wanted b_0_common b_0_isPoint b_0_pieceLines b_0_pieceBegins b_0_pieceEnds b_0_pieceLeft b_0_pieceRight b_0_outs b_0_isSeen b_0_ringSpaces b_0_ringStarts b_0_ringSizes b_0_ringLeast b_0_looseLines b_0_looseXs b_0_looseYs b_0_looseReaches b_0_far cI v_0_code v_0_lines v_0_isFresh v_0_hasRun v_0_runs v_0_nx v_0_ny v_0_spaces v_0_oldNx v_0_oldNy v_0_oldSpaces v_0_points v_0_pieces v_0_rings v_0_outsideSides v_0_looseCount f22 f_0_flatEdges f_0_upEdges f23) → va_S A s.heap H locs → lv_has ls 11 [(0, .ref a_0), (2, .int p2), (3, .int x21)] → W p l e rm_Mo_fill s m args below meth c H locs 0 0 Q (F0 m 269 ls [])) → ∀ (H : Heap) (locs : List Loc) (ls : Array Slot), va_P (dC, dI) vwCl (wl_Mo_fill a_0 a_0_labels a_0_flatEdges a_0_upEdges a_0_stack b_0_isFlat b_0_across b_0_lows b_0_highs b_0_thick b_0_doorCounts b_0_doorFrom b_0_doorTo b_0_xs b_0_ys b_0_oldXs b_0_oldYs b_0_oldLabels b_0_names b_0_oldNames b_0_wanted b_0_common b_0_isPoint b_0_pieceLines b_0_pieceBegins b_0_pieceEnds b_0_pieceLeft b_0_pieceRight b_0_outs b_0_isSeen b_0_ringSpaces b_0_ringStarts b_0_ringSizes b_0_ringLeast b_0_looseLines b_0_looseXs b_0_looseYs b_0_looseReaches b_0_far cI v_0_code v_0_lines v_0_isFresh v_0_hasRun v_0_runs v_0_nx v_0_ny v_0_spaces v_0_oldNx v_0_oldNy v_0_oldSpaces v_0_points v_0_pieces v_0_rings v_0_outsideSides v_0_looseCount f19 f_0_flatEdges f_0_upEdges f20) H → va_D A (wl_Mo_fill a_0 a_0_labels a_0_flatEdges a_0_upEdges a_0_stack b_0_isFlat b_0_across b_0_lows b_0_highs b_0_thick b_0_doorCounts b_0_doorFrom b_0_doorTo b_0_xs b_0_ys b_0_oldXs b_0_oldYs b_0_oldLabels b_0_names b_0_oldNames b_0_wanted b_0_common b_0_isPoint b_0_pieceLines b_0_pieceBegins b_0_pieceEnds b_0_pieceLeft b_0_pieceRight b_0_outs b_0_isSeen b_0_ringSpaces b_0_ringStarts b_0_ringSizes b_0_ringLeast b_0_looseLines b_0_looseXs b_0_looseYs b_0_looseReaches b_0_far cI v_0_code v_0_lines v_0_isFresh v_0_hasRun v_0_runs v_0_nx v_0_ny v_0_spaces v_0_oldNx v_0_oldNy v_0_oldSpaces v_0_points v_0_pieces v_0_rings v_0_outsideSides v_0_looseCount f19 f_0_flatEdges f_0_upEdges f20) → va_S A s.heap H locs → lv_has ls 11 [(0, .ref a_0), (2, .int p2), (3, .int x17), (4, .int x14), (5, .int x16), (6, .int x18)] → W p l e rm_Mo_fill s m args below meth c H locs 0 0 Q (F0 m 48 ls []) := by
          intro n
          induction n with
          | zero => intro x17 x18 f19 f20 x21 f22 f23 hm; simp [m_Mo_fill_L48] at hm
          | succ n ih =>
            intro x17 x18 f19 f20 x21 f22 f23 hm KE H locs ls hP hD hS hl
            rw [m_Mo_fill_L48] at hm
            refine lv_iload hx hb d_Mo_fill_48 (lv_at hl 5 rfl) ?_
            refine lv_iconst (v := 4) hx hb d_Mo_fill_50 (by decide) ?_
            refine lv_icmp_ge (tgt := 269) hx hb d_Mo_fill_51 (by decide) (fun c25 => ?_) (fun c25 => ?_)
            · replace hm := if_t hm c25
              cases hm
              exact KE H locs ls hP hD hS (lv_sub hl [0, 1, 2] rfl)
            · replace hm := if_f hm c25
              refine lv_iload hx hb d_Mo_fill_54 (lv_at hl 5 rfl) ?_
              obtain ⟨x29, hb27, hm⟩ := bd1_e hm
              have K26 : ∀ (H : Heap) (locs : List Loc) (ls : Array Slot), va_P (dC, dI) vwCl (wl_Mo_fill a_0 a_0_labels a_0_flatEdges a_0_upEdges a_0_stack b_0_isFlat b_0_across b_0_lows b_0_highs b_0_thick b_0_doorCounts b_0_doorFrom b_0_doorTo b_0_xs b_0_ys b_0_oldXs b_0_oldYs b_0_oldLabels b_0_names b_0_oldNames b_0_wanted b_0_common b_0_isPoint b_0_pieceLines b_0_pieceBegins b_0_pieceEnds b_0_pieceLeft b_0_pieceRight b_0_outs b_0_isSeen b_0_ringSpaces b_0_ringStarts b_0_ringSizes b_0_ringLeast b_0_looseLines b_0_looseXs b_0_looseYs b_0_looseReaches b_0_far cI v_0_code v_0_lines v_0_isFresh v_0_hasRun v_0_runs v_0_nx v_0_ny v_0_spaces v_0_oldNx v_0_oldNy v_0_oldSpaces v_0_points v_0_pieces v_0_rings v_0_outsideSides v_0_looseCount f19 f_0_flatEdges f_0_upEdges f20) H → va_D A (wl_Mo_fill a_0 a_0_labels a_0_flatEdges a_0_upEdges a_0_stack b_0_isFlat b_0_across b_0_lows b_0_highs b_0_thick b_0_doorCounts b_0_doorFrom b_0_doorTo b_0_xs b_0_ys b_0_oldXs b_0_oldYs b_0_oldLabels b_0_names b_0_oldNames b_0_wanted b_0_common b_0_isPoint b_0_pieceLines b_0_pieceBegins b_0_pieceEnds b_0_pieceLeft b_0_pieceRight b_0_outs b_0_isSeen b_0_ringSpaces b_0_ringStarts b_0_ringSizes b_0_ringLeast b_0_looseLines b_0_looseXs b_0_looseYs b_0_looseReaches b_0_far cI v_0_code v_0_lines v_0_isFresh v_0_hasRun v_0_runs v_0_nx v_0_ny v_0_spaces v_0_oldNx v_0_oldNy v_0_oldSpaces v_0_points v_0_pieces v_0_rings v_0_outsideSides v_0_looseCount f19 f_0_flatEdges f_0_upEdges f20) → va_S A s.heap H locs → lv_has ls 11 [(0, .ref a_0), (2, .int p2), (3, .int x17), (4, .int x14), (5, .int x16), (6, .int x18)] → W p l e rm_Mo_fill s m args below meth c H locs 0 0 Q (F0 m 81 ls [.int x29]) := by
                intro H locs ls hP hD hS hl
                refine lv_istore (lv' := [(7, .int x29), (0, .ref a_0), (2, .int p2), (3, .int x17), (4, .int x14), (5, .int x16), (6, .int x18)]) hx hb d_Mo_fill_81 hl (by decide) rfl (fun ls hl => ?_)
                refine lv_iload hx hb d_Mo_fill_83 (lv_at hl 6 rfl) ?_
                refine lv_iconst (v := 1) hx hb d_Mo_fill_85 (by decide) ?_
                obtain ⟨x35, hb33, hm⟩ := bd1_e hm
                have K32 : ∀ (H : Heap) (locs : List Loc) (ls : Array Slot), va_P (dC, dI) vwCl (wl_Mo_fill a_0 a_0_labels a_0_flatEdges a_0_upEdges a_0_stack b_0_isFlat b_0_across b_0_lows b_0_highs b_0_thick b_0_doorCounts b_0_doorFrom b_0_doorTo b_0_xs b_0_ys b_0_oldXs b_0_oldYs b_0_oldLabels b_0_names b_0_oldNames b_0_wanted b_0_common b_0_isPoint b_0_pieceLines b_0_pieceBegins b_0_pieceEnds b_0_pieceLeft b_0_pieceRight b_0_outs b_0_isSeen b_0_ringSpaces b_0_ringStarts b_0_ringSizes b_0_ringLeast b_0_looseLines b_0_looseXs b_0_looseYs b_0_looseReaches b_0_far cI v_0_code v_0_lines v_0_isFresh v_0_hasRun v_0_runs v_0_nx v_0_ny v_0_spaces v_0_oldNx v_0_oldNy v_0_oldSpaces v_0_points v_0_pieces v_0_rings v_0_outsideSides v_0_looseCount f19 f_0_flatEdges f_0_upEdges f20) H → va_D A (wl_Mo_fill a_0 a_0_labels a_0_flatEdges a_0_upEdges a_0_stack b_0_isFlat b_0_across b_0_lows b_0_highs b_0_thick b_0_doorCounts b_0_doorFrom b_0_doorTo b_0_xs b_0_ys b_0_oldXs b_0_oldYs b_0_oldLabels b_0_names b_0_oldNames b_0_wanted b_0_common b_0_isPoint b_0_pieceLines b_0_pieceBegins b_0_pieceEnds b_0_pieceLeft b_0_pieceRight b_0_outs b_0_isSeen b_0_ringSpaces b_0_ringStarts b_0_ringSizes b_0_ringLeast b_0_looseLines b_0_looseXs b_0_looseYs b_0_looseReaches b_0_far cI v_0_code v_0_lines v_0_isFresh v_0_hasRun v_0_runs v_0_nx v_0_ny v_0_spaces v_0_oldNx v_0_oldNy v_0_oldSpaces v_0_points v_0_pieces v_0_rings v_0_outsideSides v_0_looseCount f19 f_0_flatEdges f_0_upEdges f20) → va_S A s.heap H locs → lv_has ls 11 [(0, .ref a_0), (2, .int p2), (3, .int x17), (4, .int x14), (5, .int x16), (6, .int x18), (7, .int x29)] → W p l e rm_Mo_fill s m args below meth c H locs 0 0 Q (F0 m 111 ls [.int x35]) := by
                  intro H locs ls hP hD hS hl
                  refine lv_istore (lv' := [(8, .int x35), (0, .ref a_0), (2, .int p2), (3, .int x17), (4, .int x14), (5, .int x16), (6, .int x18), (7, .int x29)]) hx hb d_Mo_fill_111 hl (by decide) rfl (fun ls hl => ?_)
                  refine lv_iload hx hb d_Mo_fill_113 (lv_at hl 7 rfl) ?_
                  refine lv_i2l hx hb d_Mo_fill_115 rfl ?_
                  refine lv_lconst (v := 0) hx hb d_Mo_fill_116 (by decide) ?_
                  refine lv_aload_n hx hb d_Mo_fill_117 rfl (lv_at hl 1 rfl) ?_
                  refine va_get (D := (dC, dI)) (ci := 11) (v := .int v_0_nx) (C := "SpaceCyclesModel") (T := F_Mo) (N := 54) hx hb hts (in_F i_Mo) hown hK hP 0 rfl rfl 15 (by decide) (hts _ (in_c k_300)) (fun _ h9 => h9) rfl d_Mo_fill_118 ?_
                  refine lv_i2l hx hb d_Mo_fill_121 rfl ?_
                  obtain ⟨r38, hb39, hm⟩ := bd1_e hm
                  have hPc := hP.sub (ws' := (wl_Mo_isIn)) [] rfl
                  have hDc := hD.sub (ws' := (wl_Mo_isIn)) [] (by decide) rfl
                  refine cl_i (wc' := (wl_Mo_isIn)) (va_runS (As := [.long (Int32.toInt64 x29), .long 0, .long (Int32.toInt64 v_0_nx)]) (rest := []) ⟨hx, hb, hml, hown, hts⟩ (c_Mo_isIn l dC dI (cI := cI) (cZ := cZ) (cJ := cJ) H.size (Int32.toInt64 x29) 0 (Int32.toInt64 v_0_nx) r38 hb39) (va_cwS 3 hts (gl_S k_278 k_276 k_277 k_275) rfl rfl rfl (by decide +kernel) ⟨Nat.le_of_ble_eq_true rfl, Nat.le_of_ble_eq_true rfl⟩) ⟨PP_blind, fun U hU hW => PP_at hK hN hPc hDc hU hW⟩ rfl rfl hl.1 rfl (lv_room (Nat.le_of_ble_eq_true rfl)) d_Mo_fill_122 ⟨Nat.zero_le _, Nat.zero_le _⟩) hP hD hS hA [] [0, 1, 2, 3, 4] rfl rfl (by decide) (by decide) (fun H locs hP hD hS => ?_)
                  have hP : va_P (dC, dI) vwCl (wl_Mo_fill a_0 a_0_labels a_0_flatEdges a_0_upEdges a_0_stack b_0_isFlat b_0_across b_0_lows b_0_highs b_0_thick b_0_doorCounts b_0_doorFrom b_0_doorTo b_0_xs b_0_ys b_0_oldXs b_0_oldYs b_0_oldLabels b_0_names b_0_oldNames b_0_wanted b_0_common b_0_isPoint b_0_pieceLines b_0_pieceBegins b_0_pieceEnds b_0_pieceLeft b_0_pieceRight b_0_outs b_0_isSeen b_0_ringSpaces b_0_ringStarts b_0_ringSizes b_0_ringLeast b_0_looseLines b_0_looseXs b_0_looseYs b_0_looseReaches b_0_far cI v_0_code v_0_lines v_0_isFresh v_0_hasRun v_0_runs v_0_nx v_0_ny v_0_spaces v_0_oldNx v_0_oldNy v_0_oldSpaces v_0_points v_0_pieces v_0_rings v_0_outsideSides v_0_looseCount f19 f_0_flatEdges f_0_upEdges f20) H := hP.sub [0, 1, 2, 3, 4] rfl
                  have hD : va_D A (wl_Mo_fill a_0 a_0_labels a_0_flatEdges a_0_upEdges a_0_stack b_0_isFlat b_0_across b_0_lows b_0_highs b_0_thick b_0_doorCounts b_0_doorFrom b_0_doorTo b_0_xs b_0_ys b_0_oldXs b_0_oldYs b_0_oldLabels b_0_names b_0_oldNames b_0_wanted b_0_common b_0_isPoint b_0_pieceLines b_0_pieceBegins b_0_pieceEnds b_0_pieceLeft b_0_pieceRight b_0_outs b_0_isSeen b_0_ringSpaces b_0_ringStarts b_0_ringSizes b_0_ringLeast b_0_looseLines b_0_looseXs b_0_looseYs b_0_looseReaches b_0_far cI v_0_code v_0_lines v_0_isFresh v_0_hasRun v_0_runs v_0_nx v_0_ny v_0_spaces v_0_oldNx v_0_oldNy v_0_oldSpaces v_0_points v_0_pieces v_0_rings v_0_outsideSides v_0_looseCount f19 f_0_flatEdges f_0_upEdges f20) := hD.sub [0, 1, 2, 3, 4] (by decide) rfl
                  obtain ⟨x43, hb41, hm⟩ := bd1_e hm
                  have K40 : ∀ (H : Heap) (locs : List Loc) (ls : Array Slot), va_P (dC, dI) vwCl (wl_Mo_fill a_0 a_0_labels a_0_flatEdges a_0_upEdges a_0_stack b_0_isFlat b_0_across b_0_lows b_0_highs b_0_thick b_0_doorCounts b_0_doorFrom b_0_doorTo b_0_xs b_0_ys b_0_oldXs b_0_oldYs b_0_oldLabels b_0_names b_0_oldNames b_0_wanted b_0_common b_0_isPoint b_0_pieceLines b_0_pieceBegins b_0_pieceEnds b_0_pieceLeft b_0_pieceRight b_0_outs b_0_isSeen b_0_ringSpaces b_0_ringStarts b_0_ringSizes b_0_ringLeast b_0_looseLines b_0_looseXs b_0_looseYs b_0_looseReaches b_0_far cI v_0_code v_0_lines v_0_isFresh v_0_hasRun v_0_runs v_0_nx v_0_ny v_0_spaces v_0_oldNx v_0_oldNy v_0_oldSpaces v_0_points v_0_pieces v_0_rings v_0_outsideSides v_0_looseCount f19 f_0_flatEdges f_0_upEdges f20) H → va_D A (wl_Mo_fill a_0 a_0_labels a_0_flatEdges a_0_upEdges a_0_stack b_0_isFlat b_0_across b_0_lows b_0_highs b_0_thick b_0_doorCounts b_0_doorFrom b_0_doorTo b_0_xs b_0_ys b_0_oldXs b_0_oldYs b_0_oldLabels b_0_names b_0_oldNames b_0_wanted b_0_common b_0_isPoint b_0_pieceLines b_0_pieceBegins b_0_pieceEnds b_0_pieceLeft b_0_pieceRight b_0_outs b_0_isSeen b_0_ringSpaces b_0_ringStarts b_0_ringSizes b_0_ringLeast b_0_looseLines b_0_looseXs b_0_looseYs b_0_looseReaches b_0_far cI v_0_code v_0_lines v_0_isFresh v_0_hasRun v_0_runs v_0_nx v_0_ny v_0_spaces v_0_oldNx v_0_oldNy v_0_oldSpaces v_0_points v_0_pieces v_0_rings v_0_outsideSides v_0_looseCount f19 f_0_flatEdges f_0_upEdges f20) → va_S A s.heap H locs → lv_has ls 11 [(0, .ref a_0), (2, .int p2), (3, .int x17), (4, .int x14), (5, .int x16), (6, .int x18), (7, .int x29), (8, .int x35)] → W p l e rm_Mo_fill s m args below meth c H locs 0 0 Q (F0 m 148 ls [.int x43]) := by
                    intro H locs ls hP hD hS hl
                    refine lv_istore (lv' := [(9, .int x43), (0, .ref a_0), (2, .int p2), (3, .int x17), (4, .int x14), (5, .int x16), (6, .int x18), (7, .int x29), (8, .int x35)]) hx hb d_Mo_fill_148 hl (by decide) rfl (fun ls hl => ?_)
                    refine lv_iload hx hb d_Mo_fill_150 (lv_at hl 0 rfl) ?_
                    obtain ⟨x51, hb49, hm⟩ := bd1_e hm
                    have K48 : ∀ (H : Heap) (locs : List Loc) (ls : Array Slot), va_P (dC, dI) vwCl (wl_Mo_fill a_0 a_0_labels a_0_flatEdges a_0_upEdges a_0_stack b_0_isFlat b_0_across b_0_lows b_0_highs b_0_thick b_0_doorCounts b_0_doorFrom b_0_doorTo b_0_xs b_0_ys b_0_oldXs b_0_oldYs b_0_oldLabels b_0_names b_0_oldNames b_0_wanted b_0_common b_0_isPoint b_0_pieceLines b_0_pieceBegins b_0_pieceEnds b_0_pieceLeft b_0_pieceRight b_0_outs b_0_isSeen b_0_ringSpaces b_0_ringStarts b_0_ringSizes b_0_ringLeast b_0_looseLines b_0_looseXs b_0_looseYs b_0_looseReaches b_0_far cI v_0_code v_0_lines v_0_isFresh v_0_hasRun v_0_runs v_0_nx v_0_ny v_0_spaces v_0_oldNx v_0_oldNy v_0_oldSpaces v_0_points v_0_pieces v_0_rings v_0_outsideSides v_0_looseCount f19 f_0_flatEdges f_0_upEdges f20) H → va_D A (wl_Mo_fill a_0 a_0_labels a_0_flatEdges a_0_upEdges a_0_stack b_0_isFlat b_0_across b_0_lows b_0_highs b_0_thick b_0_doorCounts b_0_doorFrom b_0_doorTo b_0_xs b_0_ys b_0_oldXs b_0_oldYs b_0_oldLabels b_0_names b_0_oldNames b_0_wanted b_0_common b_0_isPoint b_0_pieceLines b_0_pieceBegins b_0_pieceEnds b_0_pieceLeft b_0_pieceRight b_0_outs b_0_isSeen b_0_ringSpaces b_0_ringStarts b_0_ringSizes b_0_ringLeast b_0_looseLines b_0_looseXs b_0_looseYs b_0_looseReaches b_0_far cI v_0_code v_0_lines v_0_isFresh v_0_hasRun v_0_runs v_0_nx v_0_ny v_0_spaces v_0_oldNx v_0_oldNy v_0_oldSpaces v_0_points v_0_pieces v_0_rings v_0_outsideSides v_0_looseCount f19 f_0_flatEdges f_0_upEdges f20) → va_S A s.heap H locs → lv_has ls 11 [(0, .ref a_0), (2, .int p2), (3, .int x17), (4, .int x14), (5, .int x16), (6, .int x18), (7, .int x29), (8, .int x35)] → W p l e rm_Mo_fill s m args below meth c H locs 0 0 Q (F0 m 207 ls [.int x51]) := by
                      intro H locs ls hP hD hS hl
                      refine lv_istore (lv' := [(10, .int x51), (0, .ref a_0), (2, .int p2), (3, .int x17), (4, .int x14), (5, .int x16), (6, .int x18), (7, .int x29), (8, .int x35)]) hx hb d_Mo_fill_207 hl (by decide) rfl (fun ls hl => ?_)
                      refine lv_iload hx hb d_Mo_fill_209 (lv_at hl 0 rfl) ?_
                      obtain ⟨x74, f75, f76, hb72, hm⟩ := bd3_e hm
                      have K71 : ∀ (H : Heap) (locs : List Loc) (ls : Array Slot), va_P (dC, dI) vwCl (wl_Mo_fill a_0 a_0_labels a_0_flatEdges a_0_upEdges a_0_stack b_0_isFlat b_0_across b_0_lows b_0_highs b_0_thick b_0_doorCounts b_0_doorFrom b_0_doorTo b_0_xs b_0_ys b_0_oldXs b_0_oldYs b_0_oldLabels b_0_names b_0_oldNames b_0_wanted b_0_common b_0_isPoint b_0_pieceLines b_0_pieceBegins b_0_pieceEnds b_0_pieceLeft b_0_pieceRight b_0_outs b_0_isSeen b_0_ringSpaces b_0_ringStarts b_0_ringSizes b_0_ringLeast b_0_looseLines b_0_looseXs b_0_looseYs b_0_looseReaches b_0_far cI v_0_code v_0_lines v_0_isFresh v_0_hasRun v_0_runs v_0_nx v_0_ny v_0_spaces v_0_oldNx v_0_oldNy v_0_oldSpaces v_0_points v_0_pieces v_0_rings v_0_outsideSides v_0_looseCount f75 f_0_flatEdges f_0_upEdges f76) H → va_D A (wl_Mo_fill a_0 a_0_labels a_0_flatEdges a_0_upEdges a_0_stack b_0_isFlat b_0_across b_0_lows b_0_highs b_0_thick b_0_doorCounts b_0_doorFrom b_0_doorTo b_0_xs b_0_ys b_0_oldXs b_0_oldYs b_0_oldLabels b_0_names b_0_oldNames b_0_wanted b_0_common b_0_isPoint b_0_pieceLines b_0_pieceBegins b_0_pieceEnds b_0_pieceLeft b_0_pieceRight b_0_outs b_0_isSeen b_0_ringSpaces b_0_ringStarts b_0_ringSizes b_0_ringLeast b_0_looseLines b_0_looseXs b_0_looseYs b_0_looseReaches b_0_far cI v_0_code v_0_lines v_0_isFresh v_0_hasRun v_0_runs v_0_nx v_0_ny v_0_spaces v_0_oldNx v_0_oldNy v_0_oldSpaces v_0_points v_0_pieces v_0_rings v_0_outsideSides v_0_looseCount f75 f_0_flatEdges f_0_upEdges f76) → va_S A s.heap H locs → lv_has ls 11 [(0, .ref a_0), (2, .int p2), (3, .int x74), (4, .int x14), (5, .int x16), (6, .int x18)] → W p l e rm_Mo_fill s m args below meth c H locs 0 0 Q (F0 m 263 ls []) := by
                        intro H locs ls hP hD hS hl
                        obtain ⟨x85, ex85⟩ : ∃ y : Int32, y = x18 + 1 := ⟨_, rfl⟩
                        replace hm := lt_el hm ex85
                        refine lv_iinc (v := x85) (lv' := [(6, .int x85), (0, .ref a_0), (2, .int p2), (3, .int x74), (4, .int x14), (5, .int x16)]) hx hb d_Mo_fill_263 hl (k := 5) rfl (by rw [ex85]; rfl) (by decide) rfl (fun ls hl => ?_)
                        refine lv_goto (tgt := 48) hx hb d_Mo_fill_266 (by decide) ?_
                        exact ih _ _ _ _ _ _ _ hm KE H locs ls hP hD hS (lv_sub hl [1, 2, 3, 4, 5, 0] rfl)
                      replace hm := hb72
                      refine lv_if_eq (tgt := 263) hx hb d_Mo_fill_211 (by decide) (fun c77 => ?_) (fun c77 => ?_)
                      · replace hm := if_t hm c77
                        cases hm
                        exact K71 H locs ls hP hD hS (lv_sub hl [1, 2, 3, 4, 5, 6] rfl)
                      · replace hm := if_f hm c77
                        refine lv_aload_n hx hb d_Mo_fill_214 rfl (lv_at hl 1 rfl) ?_
                        refine va_get (D := (dC, dI)) (ci := 11) (v := .ref a_0_labels) (C := "SpaceCyclesModel") (T := F_Mo) (N := 54) hx hb hts (in_F i_Mo) hown hK hP 0 rfl rfl 17 (by decide) (hts _ (in_c k_319)) (fun _ h9 => h9) rfl d_Mo_fill_215 ?_
                        refine lv_bipush (v := 42) hx hb d_Mo_fill_218 (by decide) ?_
                        refine lv_iload hx hb d_Mo_fill_220 (lv_at hl 7 rfl) ?_
                        refine lv_imul hx hb d_Mo_fill_222 ?_
                        refine lv_iload hx hb d_Mo_fill_223 (lv_at hl 8 rfl) ?_
                        refine lv_iadd hx hb d_Mo_fill_225 ?_
                        obtain ⟨hi78, hm⟩ := gI_e hm
                        refine va_iald hx hb hK hP 1 0 rfl rfl hi78 d_Mo_fill_226 ?_
                        refine lv_bipush (v := (-3)) hx hb d_Mo_fill_227 (by decide) ?_
                        refine lv_icmp_ne (tgt := 263) hx hb d_Mo_fill_229 (by decide) (fun c79 => ?_) (fun c79 => ?_)
                        · replace hm := if_f hm c79
                          cases hm
                          exact K71 H locs ls hP hD hS (lv_sub hl [1, 2, 3, 4, 5, 6] rfl)
                        · replace hm := if_t hm c79
                          refine lv_aload_n hx hb d_Mo_fill_232 rfl (lv_at hl 1 rfl) ?_
                          refine va_get (D := (dC, dI)) (ci := 11) (v := .ref a_0_labels) (C := "SpaceCyclesModel") (T := F_Mo) (N := 54) hx hb hts (in_F i_Mo) hown hK hP 0 rfl rfl 17 (by decide) (hts _ (in_c k_319)) (fun _ h9 => h9) rfl d_Mo_fill_233 ?_
                          refine lv_bipush (v := 42) hx hb d_Mo_fill_236 (by decide) ?_
                          refine lv_iload hx hb d_Mo_fill_238 (lv_at hl 7 rfl) ?_
                          refine lv_imul hx hb d_Mo_fill_240 ?_
                          refine lv_iload hx hb d_Mo_fill_241 (lv_at hl 8 rfl) ?_
                          refine lv_iadd hx hb d_Mo_fill_243 ?_
                          refine lv_iload_n hx hb d_Mo_fill_244 rfl (lv_at hl 2 rfl) ?_
                          obtain ⟨hi80, hm⟩ := gI_e hm
                          obtain ⟨f81, ef81⟩ : ∃ y : Nat → Int32, y = upd f19 ((42 * x29) + x35).toNatClampNeg p2 := ⟨_, rfl⟩
                          replace hm := lt_el hm ef81
                          refine va_iast hx hb hK hP hD hS 1 0 rfl rfl hi80 d_Mo_fill_245 (fun H locs hP hD hS => ?_)
                          rw [← ef81] at hP hD
                          have hP : va_P (dC, dI) vwCl (wl_Mo_fill a_0 a_0_labels a_0_flatEdges a_0_upEdges a_0_stack b_0_isFlat b_0_across b_0_lows b_0_highs b_0_thick b_0_doorCounts b_0_doorFrom b_0_doorTo b_0_xs b_0_ys b_0_oldXs b_0_oldYs b_0_oldLabels b_0_names b_0_oldNames b_0_wanted b_0_common b_0_isPoint b_0_pieceLines b_0_pieceBegins b_0_pieceEnds b_0_pieceLeft b_0_pieceRight b_0_outs b_0_isSeen b_0_ringSpaces b_0_ringStarts b_0_ringSizes b_0_ringLeast b_0_looseLines b_0_looseXs b_0_looseYs b_0_looseReaches b_0_far cI v_0_code v_0_lines v_0_isFresh v_0_hasRun v_0_runs v_0_nx v_0_ny v_0_spaces v_0_oldNx v_0_oldNy v_0_oldSpaces v_0_points v_0_pieces v_0_rings v_0_outsideSides v_0_looseCount f81 f_0_flatEdges f_0_upEdges f20) H := hP
                          have hD : va_D A (wl_Mo_fill a_0 a_0_labels a_0_flatEdges a_0_upEdges a_0_stack b_0_isFlat b_0_across b_0_lows b_0_highs b_0_thick b_0_doorCounts b_0_doorFrom b_0_doorTo b_0_xs b_0_ys b_0_oldXs b_0_oldYs b_0_oldLabels b_0_names b_0_oldNames b_0_wanted b_0_common b_0_isPoint b_0_pieceLines b_0_pieceBegins b_0_pieceEnds b_0_pieceLeft b_0_pieceRight b_0_outs b_0_isSeen b_0_ringSpaces b_0_ringStarts b_0_ringSizes b_0_ringLeast b_0_looseLines b_0_looseXs b_0_looseYs b_0_looseReaches b_0_far cI v_0_code v_0_lines v_0_isFresh v_0_hasRun v_0_runs v_0_nx v_0_ny v_0_spaces v_0_oldNx v_0_oldNy v_0_oldSpaces v_0_points v_0_pieces v_0_rings v_0_outsideSides v_0_looseCount f81 f_0_flatEdges f_0_upEdges f20) := hD
                          refine lv_aload_n hx hb d_Mo_fill_246 rfl (lv_at hl 1 rfl) ?_
                          refine va_get (D := (dC, dI)) (ci := 11) (v := .ref a_0_stack) (C := "SpaceCyclesModel") (T := F_Mo) (N := 54) hx hb hts (in_F i_Mo) hown hK hP 0 rfl rfl 33 (by decide) (hts _ (in_c k_318)) (fun _ h9 => h9) rfl d_Mo_fill_247 ?_
                          refine lv_iload_n hx hb d_Mo_fill_250 rfl (lv_at hl 3 rfl) ?_
                          refine lv_bipush (v := 42) hx hb d_Mo_fill_251 (by decide) ?_
                          refine lv_iload hx hb d_Mo_fill_253 (lv_at hl 7 rfl) ?_
                          refine lv_imul hx hb d_Mo_fill_255 ?_
                          refine lv_iload hx hb d_Mo_fill_256 (lv_at hl 8 rfl) ?_
                          refine lv_iadd hx hb d_Mo_fill_258 ?_
                          obtain ⟨hi82, hm⟩ := gI_e hm
                          obtain ⟨f83, ef83⟩ : ∃ y : Nat → Int32, y = upd f20 x17.toNatClampNeg ((42 * x29) + x35) := ⟨_, rfl⟩
                          replace hm := lt_el hm ef83
                          refine va_iast hx hb hK hP hD hS 4 0 rfl rfl hi82 d_Mo_fill_259 (fun H locs hP hD hS => ?_)
                          rw [← ef83] at hP hD
                          have hP : va_P (dC, dI) vwCl (wl_Mo_fill a_0 a_0_labels a_0_flatEdges a_0_upEdges a_0_stack b_0_isFlat b_0_across b_0_lows b_0_highs b_0_thick b_0_doorCounts b_0_doorFrom b_0_doorTo b_0_xs b_0_ys b_0_oldXs b_0_oldYs b_0_oldLabels b_0_names b_0_oldNames b_0_wanted b_0_common b_0_isPoint b_0_pieceLines b_0_pieceBegins b_0_pieceEnds b_0_pieceLeft b_0_pieceRight b_0_outs b_0_isSeen b_0_ringSpaces b_0_ringStarts b_0_ringSizes b_0_ringLeast b_0_looseLines b_0_looseXs b_0_looseYs b_0_looseReaches b_0_far cI v_0_code v_0_lines v_0_isFresh v_0_hasRun v_0_runs v_0_nx v_0_ny v_0_spaces v_0_oldNx v_0_oldNy v_0_oldSpaces v_0_points v_0_pieces v_0_rings v_0_outsideSides v_0_looseCount f81 f_0_flatEdges f_0_upEdges f83) H := hP
                          have hD : va_D A (wl_Mo_fill a_0 a_0_labels a_0_flatEdges a_0_upEdges a_0_stack b_0_isFlat b_0_across b_0_lows b_0_highs b_0_thick b_0_doorCounts b_0_doorFrom b_0_doorTo b_0_xs b_0_ys b_0_oldXs b_0_oldYs b_0_oldLabels b_0_names b_0_oldNames b_0_wanted b_0_common b_0_isPoint b_0_pieceLines b_0_pieceBegins b_0_pieceEnds b_0_pieceLeft b_0_pieceRight b_0_outs b_0_isSeen b_0_ringSpaces b_0_ringStarts b_0_ringSizes b_0_ringLeast b_0_looseLines b_0_looseXs b_0_looseYs b_0_looseReaches b_0_far cI v_0_code v_0_lines v_0_isFresh v_0_hasRun v_0_runs v_0_nx v_0_ny v_0_spaces v_0_oldNx v_0_oldNy v_0_oldSpaces v_0_points v_0_pieces v_0_rings v_0_outsideSides v_0_looseCount f81 f_0_flatEdges f_0_upEdges f83) := hD
                          obtain ⟨x84, ex84⟩ : ∃ y : Int32, y = x17 + 1 := ⟨_, rfl⟩
                          replace hm := lt_el hm ex84
                          refine lv_iinc (v := x84) (lv' := [(3, .int x84), (10, .int x51), (0, .ref a_0), (2, .int p2), (4, .int x14), (5, .int x16), (6, .int x18), (7, .int x29), (8, .int x35)]) hx hb d_Mo_fill_260 hl (k := 3) rfl (by rw [ex84]; rfl) (by decide) rfl (fun ls hl => ?_)
                          cases hm
                          exact K71 H locs ls hP hD hS (lv_sub hl [2, 3, 0, 4, 5, 6] rfl)
                    replace hm := hb49
                    refine lv_if_eq (tgt := 206) hx hb d_Mo_fill_152 (by decide) (fun c52 => ?_) (fun c52 => ?_)
                    · replace hm := if_t hm c52
                      refine lv_iconst (v := 0) hx hb d_Mo_fill_206 (by decide) ?_
                      cases hm
                      exact K48 H locs ls hP hD hS (lv_sub hl [1, 2, 3, 4, 5, 6, 7, 8] rfl)
                    · replace hm := if_f hm c52
                      refine lv_aload_n hx hb d_Mo_fill_155 rfl (lv_at hl 1 rfl) ?_
                      refine lv_iload hx hb d_Mo_fill_156 (lv_at hl 7 rfl) ?_
                      refine lv_iload hx hb d_Mo_fill_158 (lv_at hl 4 rfl) ?_
                      obtain ⟨x56, hb54, hm⟩ := bd1_e hm
                      have K53 : ∀ (H : Heap) (locs : List Loc) (ls : Array Slot), va_P (dC, dI) vwCl (wl_Mo_fill a_0 a_0_labels a_0_flatEdges a_0_upEdges a_0_stack b_0_isFlat b_0_across b_0_lows b_0_highs b_0_thick b_0_doorCounts b_0_doorFrom b_0_doorTo b_0_xs b_0_ys b_0_oldXs b_0_oldYs b_0_oldLabels b_0_names b_0_oldNames b_0_wanted b_0_common b_0_isPoint b_0_pieceLines b_0_pieceBegins b_0_pieceEnds b_0_pieceLeft b_0_pieceRight b_0_outs b_0_isSeen b_0_ringSpaces b_0_ringStarts b_0_ringSizes b_0_ringLeast b_0_looseLines b_0_looseXs b_0_looseYs b_0_looseReaches b_0_far cI v_0_code v_0_lines v_0_isFresh v_0_hasRun v_0_runs v_0_nx v_0_ny v_0_spaces v_0_oldNx v_0_oldNy v_0_oldSpaces v_0_points v_0_pieces v_0_rings v_0_outsideSides v_0_looseCount f19 f_0_flatEdges f_0_upEdges f20) H → va_D A (wl_Mo_fill a_0 a_0_labels a_0_flatEdges a_0_upEdges a_0_stack b_0_isFlat b_0_across b_0_lows b_0_highs b_0_thick b_0_doorCounts b_0_doorFrom b_0_doorTo b_0_xs b_0_ys b_0_oldXs b_0_oldYs b_0_oldLabels b_0_names b_0_oldNames b_0_wanted b_0_common b_0_isPoint b_0_pieceLines b_0_pieceBegins b_0_pieceEnds b_0_pieceLeft b_0_pieceRight b_0_outs b_0_isSeen b_0_ringSpaces b_0_ringStarts b_0_ringSizes b_0_ringLeast b_0_looseLines b_0_looseXs b_0_looseYs b_0_looseReaches b_0_far cI v_0_code v_0_lines v_0_isFresh v_0_hasRun v_0_runs v_0_nx v_0_ny v_0_spaces v_0_oldNx v_0_oldNy v_0_oldSpaces v_0_points v_0_pieces v_0_rings v_0_outsideSides v_0_looseCount f19 f_0_flatEdges f_0_upEdges f20) → va_S A s.heap H locs → lv_has ls 11 [(0, .ref a_0), (2, .int p2), (3, .int x17), (4, .int x14), (5, .int x16), (6, .int x18), (7, .int x29), (8, .int x35)] → W p l e rm_Mo_fill s m args below meth c H locs 0 0 Q (F0 m 170 ls [.int x56, .ref a_0]) := by
                        intro H locs ls hP hD hS hl
                        refine lv_iload hx hb d_Mo_fill_170 (lv_at hl 7 rfl) ?_
                        refine lv_iload hx hb d_Mo_fill_172 (lv_at hl 4 rfl) ?_
                        obtain ⟨x61, hb59, hm⟩ := bd1_e hm
                        have K58 : ∀ (H : Heap) (locs : List Loc) (ls : Array Slot), va_P (dC, dI) vwCl (wl_Mo_fill a_0 a_0_labels a_0_flatEdges a_0_upEdges a_0_stack b_0_isFlat b_0_across b_0_lows b_0_highs b_0_thick b_0_doorCounts b_0_doorFrom b_0_doorTo b_0_xs b_0_ys b_0_oldXs b_0_oldYs b_0_oldLabels b_0_names b_0_oldNames b_0_wanted b_0_common b_0_isPoint b_0_pieceLines b_0_pieceBegins b_0_pieceEnds b_0_pieceLeft b_0_pieceRight b_0_outs b_0_isSeen b_0_ringSpaces b_0_ringStarts b_0_ringSizes b_0_ringLeast b_0_looseLines b_0_looseXs b_0_looseYs b_0_looseReaches b_0_far cI v_0_code v_0_lines v_0_isFresh v_0_hasRun v_0_runs v_0_nx v_0_ny v_0_spaces v_0_oldNx v_0_oldNy v_0_oldSpaces v_0_points v_0_pieces v_0_rings v_0_outsideSides v_0_looseCount f19 f_0_flatEdges f_0_upEdges f20) H → va_D A (wl_Mo_fill a_0 a_0_labels a_0_flatEdges a_0_upEdges a_0_stack b_0_isFlat b_0_across b_0_lows b_0_highs b_0_thick b_0_doorCounts b_0_doorFrom b_0_doorTo b_0_xs b_0_ys b_0_oldXs b_0_oldYs b_0_oldLabels b_0_names b_0_oldNames b_0_wanted b_0_common b_0_isPoint b_0_pieceLines b_0_pieceBegins b_0_pieceEnds b_0_pieceLeft b_0_pieceRight b_0_outs b_0_isSeen b_0_ringSpaces b_0_ringStarts b_0_ringSizes b_0_ringLeast b_0_looseLines b_0_looseXs b_0_looseYs b_0_looseReaches b_0_far cI v_0_code v_0_lines v_0_isFresh v_0_hasRun v_0_runs v_0_nx v_0_ny v_0_spaces v_0_oldNx v_0_oldNy v_0_oldSpaces v_0_points v_0_pieces v_0_rings v_0_outsideSides v_0_looseCount f19 f_0_flatEdges f_0_upEdges f20) → va_S A s.heap H locs → lv_has ls 11 [(0, .ref a_0), (2, .int p2), (3, .int x17), (4, .int x14), (5, .int x16), (6, .int x18), (7, .int x29), (8, .int x35)] → W p l e rm_Mo_fill s m args below meth c H locs 0 0 Q (F0 m 184 ls [.int x61, .int x56, .ref a_0]) := by
                          intro H locs ls hP hD hS hl
                          refine lv_iload hx hb d_Mo_fill_184 (lv_at hl 5 rfl) ?_
                          refine lv_iconst (v := 2) hx hb d_Mo_fill_186 (by decide) ?_
                          refine lv_irem hx hb d_Mo_fill_187 (by decide) ?_
                          obtain ⟨x66, hb64, hm⟩ := bd1_e hm
                          have K63 : ∀ (H : Heap) (locs : List Loc) (ls : Array Slot), va_P (dC, dI) vwCl (wl_Mo_fill a_0 a_0_labels a_0_flatEdges a_0_upEdges a_0_stack b_0_isFlat b_0_across b_0_lows b_0_highs b_0_thick b_0_doorCounts b_0_doorFrom b_0_doorTo b_0_xs b_0_ys b_0_oldXs b_0_oldYs b_0_oldLabels b_0_names b_0_oldNames b_0_wanted b_0_common b_0_isPoint b_0_pieceLines b_0_pieceBegins b_0_pieceEnds b_0_pieceLeft b_0_pieceRight b_0_outs b_0_isSeen b_0_ringSpaces b_0_ringStarts b_0_ringSizes b_0_ringLeast b_0_looseLines b_0_looseXs b_0_looseYs b_0_looseReaches b_0_far cI v_0_code v_0_lines v_0_isFresh v_0_hasRun v_0_runs v_0_nx v_0_ny v_0_spaces v_0_oldNx v_0_oldNy v_0_oldSpaces v_0_points v_0_pieces v_0_rings v_0_outsideSides v_0_looseCount f19 f_0_flatEdges f_0_upEdges f20) H → va_D A (wl_Mo_fill a_0 a_0_labels a_0_flatEdges a_0_upEdges a_0_stack b_0_isFlat b_0_across b_0_lows b_0_highs b_0_thick b_0_doorCounts b_0_doorFrom b_0_doorTo b_0_xs b_0_ys b_0_oldXs b_0_oldYs b_0_oldLabels b_0_names b_0_oldNames b_0_wanted b_0_common b_0_isPoint b_0_pieceLines b_0_pieceBegins b_0_pieceEnds b_0_pieceLeft b_0_pieceRight b_0_outs b_0_isSeen b_0_ringSpaces b_0_ringStarts b_0_ringSizes b_0_ringLeast b_0_looseLines b_0_looseXs b_0_looseYs b_0_looseReaches b_0_far cI v_0_code v_0_lines v_0_isFresh v_0_hasRun v_0_runs v_0_nx v_0_ny v_0_spaces v_0_oldNx v_0_oldNy v_0_oldSpaces v_0_points v_0_pieces v_0_rings v_0_outsideSides v_0_looseCount f19 f_0_flatEdges f_0_upEdges f20) → va_S A s.heap H locs → lv_has ls 11 [(0, .ref a_0), (2, .int p2), (3, .int x17), (4, .int x14), (5, .int x16), (6, .int x18), (7, .int x29), (8, .int x35)] → W p l e rm_Mo_fill s m args below meth c H locs 0 0 Q (F0 m 196 ls [.int x66, .int x61, .int x56, .ref a_0]) := by
                            intro H locs ls hP hD hS hl
                            obtain ⟨r68, hb69, hm⟩ := bd1_e hm
                            have hPc := hP.sub (ws' := (wl_Mo_isFree a_0 a_0_flatEdges a_0_upEdges b_0_isFlat b_0_across b_0_lows b_0_highs b_0_thick b_0_doorCounts b_0_doorFrom b_0_doorTo b_0_xs b_0_ys a_0_labels b_0_oldXs b_0_oldYs b_0_oldLabels b_0_names b_0_oldNames b_0_wanted b_0_common b_0_isPoint a_0_stack b_0_pieceLines b_0_pieceBegins b_0_pieceEnds b_0_pieceLeft b_0_pieceRight b_0_outs b_0_isSeen b_0_ringSpaces b_0_ringStarts b_0_ringSizes b_0_ringLeast b_0_looseLines b_0_looseXs b_0_looseYs b_0_looseReaches b_0_far cI v_0_code v_0_lines v_0_isFresh v_0_hasRun v_0_runs v_0_nx v_0_ny v_0_spaces v_0_oldNx v_0_oldNy v_0_oldSpaces v_0_points v_0_pieces v_0_rings v_0_outsideSides v_0_looseCount f_0_flatEdges f_0_upEdges)) [0, 2, 3] rfl
                            have hDc := hD.sub (ws' := (wl_Mo_isFree a_0 a_0_flatEdges a_0_upEdges b_0_isFlat b_0_across b_0_lows b_0_highs b_0_thick b_0_doorCounts b_0_doorFrom b_0_doorTo b_0_xs b_0_ys a_0_labels b_0_oldXs b_0_oldYs b_0_oldLabels b_0_names b_0_oldNames b_0_wanted b_0_common b_0_isPoint a_0_stack b_0_pieceLines b_0_pieceBegins b_0_pieceEnds b_0_pieceLeft b_0_pieceRight b_0_outs b_0_isSeen b_0_ringSpaces b_0_ringStarts b_0_ringSizes b_0_ringLeast b_0_looseLines b_0_looseXs b_0_looseYs b_0_looseReaches b_0_far cI v_0_code v_0_lines v_0_isFresh v_0_hasRun v_0_runs v_0_nx v_0_ny v_0_spaces v_0_oldNx v_0_oldNy v_0_oldSpaces v_0_points v_0_pieces v_0_rings v_0_outsideSides v_0_looseCount f_0_flatEdges f_0_upEdges)) [0, 2, 3] (by decide) rfl
                            refine cl_i (wc' := (wl_Mo_isFree a_0 a_0_flatEdges a_0_upEdges b_0_isFlat b_0_across b_0_lows b_0_highs b_0_thick b_0_doorCounts b_0_doorFrom b_0_doorTo b_0_xs b_0_ys a_0_labels b_0_oldXs b_0_oldYs b_0_oldLabels b_0_names b_0_oldNames b_0_wanted b_0_common b_0_isPoint a_0_stack b_0_pieceLines b_0_pieceBegins b_0_pieceEnds b_0_pieceLeft b_0_pieceRight b_0_outs b_0_isSeen b_0_ringSpaces b_0_ringStarts b_0_ringSizes b_0_ringLeast b_0_looseLines b_0_looseXs b_0_looseYs b_0_looseReaches b_0_far cI v_0_code v_0_lines v_0_isFresh v_0_hasRun v_0_runs v_0_nx v_0_ny v_0_spaces v_0_oldNx v_0_oldNy v_0_oldSpaces v_0_points v_0_pieces v_0_rings v_0_outsideSides v_0_looseCount f_0_flatEdges f_0_upEdges)) (va_runV (As := [.int x56, .int x61, .int x66]) (rest := []) ⟨hx, hb, hml, hown, hts⟩ (c_Mo_isFree l dC dI (cI := cI) (cZ := cZ) (cJ := cJ) a_0 a_0_flatEdges a_0_upEdges b_0_isFlat b_0_across b_0_lows b_0_highs b_0_thick b_0_doorCounts b_0_doorFrom b_0_doorTo b_0_xs b_0_ys a_0_labels b_0_oldXs b_0_oldYs b_0_oldLabels b_0_names b_0_oldNames b_0_wanted b_0_common b_0_isPoint a_0_stack b_0_pieceLines b_0_pieceBegins b_0_pieceEnds b_0_pieceLeft b_0_pieceRight b_0_outs b_0_isSeen b_0_ringSpaces b_0_ringStarts b_0_ringSizes b_0_ringLeast b_0_looseLines b_0_looseXs b_0_looseYs b_0_looseReaches b_0_far H.size v_0_code v_0_lines v_0_isFresh v_0_hasRun v_0_runs v_0_nx v_0_ny v_0_spaces v_0_oldNx v_0_oldNy v_0_oldSpaces v_0_points v_0_pieces v_0_rings v_0_outsideSides v_0_looseCount f_0_flatEdges f_0_upEdges x56 x61 x66 r68 hb69) (cwV 3 hts (gl_V k_323 k_322 k_321 k_277 k_320) rfl rfl rfl (by decide +kernel) ⟨Nat.le_of_ble_eq_true rfl, Nat.le_of_ble_eq_true rfl⟩) ⟨PP_blind, va_recv hK hPc (ci := 11) (q0 := 0) rfl rfl, fun U hU hW => PP_at hK hN hPc hDc hU hW⟩ rfl rfl hl.1 rfl (lv_room (Nat.le_of_ble_eq_true rfl)) d_Mo_fill_196 ⟨Nat.zero_le _, Nat.zero_le _⟩) hP hD hS hA [0, 2, 3] [1, 4] rfl rfl (by decide) (by decide) (fun H locs hP hD hS => ?_)
                            have hP : va_P (dC, dI) vwCl (wl_Mo_fill a_0 a_0_labels a_0_flatEdges a_0_upEdges a_0_stack b_0_isFlat b_0_across b_0_lows b_0_highs b_0_thick b_0_doorCounts b_0_doorFrom b_0_doorTo b_0_xs b_0_ys b_0_oldXs b_0_oldYs b_0_oldLabels b_0_names b_0_oldNames b_0_wanted b_0_common b_0_isPoint b_0_pieceLines b_0_pieceBegins b_0_pieceEnds b_0_pieceLeft b_0_pieceRight b_0_outs b_0_isSeen b_0_ringSpaces b_0_ringStarts b_0_ringSizes b_0_ringLeast b_0_looseLines b_0_looseXs b_0_looseYs b_0_looseReaches b_0_far cI v_0_code v_0_lines v_0_isFresh v_0_hasRun v_0_runs v_0_nx v_0_ny v_0_spaces v_0_oldNx v_0_oldNy v_0_oldSpaces v_0_points v_0_pieces v_0_rings v_0_outsideSides v_0_looseCount f19 f_0_flatEdges f_0_upEdges f20) H := hP.sub [2, 0, 3, 4, 1] rfl
                            have hD : va_D A (wl_Mo_fill a_0 a_0_labels a_0_flatEdges a_0_upEdges a_0_stack b_0_isFlat b_0_across b_0_lows b_0_highs b_0_thick b_0_doorCounts b_0_doorFrom b_0_doorTo b_0_xs b_0_ys b_0_oldXs b_0_oldYs b_0_oldLabels b_0_names b_0_oldNames b_0_wanted b_0_common b_0_isPoint b_0_pieceLines b_0_pieceBegins b_0_pieceEnds b_0_pieceLeft b_0_pieceRight b_0_outs b_0_isSeen b_0_ringSpaces b_0_ringStarts b_0_ringSizes b_0_ringLeast b_0_looseLines b_0_looseXs b_0_looseYs b_0_looseReaches b_0_far cI v_0_code v_0_lines v_0_isFresh v_0_hasRun v_0_runs v_0_nx v_0_ny v_0_spaces v_0_oldNx v_0_oldNy v_0_oldSpaces v_0_points v_0_pieces v_0_rings v_0_outsideSides v_0_looseCount f19 f_0_flatEdges f_0_upEdges f20) := hD.sub [2, 0, 3, 4, 1] (by decide) rfl
                            refine lv_if_eq (tgt := 206) hx hb d_Mo_fill_199 (by decide) (fun c70 => ?_) (fun c70 => ?_)
                            · replace hm := if_t hm c70
                              refine lv_iconst (v := 0) hx hb d_Mo_fill_206 (by decide) ?_
                              cases hm
                              exact K48 H locs ls hP hD hS (lv_sub hl [0, 1, 2, 3, 4, 5, 6, 7] rfl)
                            · replace hm := if_f hm c70
                              refine lv_iconst (v := 1) hx hb d_Mo_fill_202 (by decide) ?_
                              refine lv_goto (tgt := 207) hx hb d_Mo_fill_203 (by decide) ?_
                              cases hm
                              exact K48 H locs ls hP hD hS (lv_sub hl [0, 1, 2, 3, 4, 5, 6, 7] rfl)
                          replace hm := hb64
                          refine lv_if_ne (tgt := 195) hx hb d_Mo_fill_188 (by decide) (fun c67 => ?_) (fun c67 => ?_)
                          · replace hm := if_f hm c67
                            refine lv_iconst (v := 0) hx hb d_Mo_fill_195 (by decide) ?_
                            cases hm
                            exact K63 H locs ls hP hD hS (lv_sub hl [0, 1, 2, 3, 4, 5, 6, 7] rfl)
                          · replace hm := if_t hm c67
                            refine lv_iconst (v := 1) hx hb d_Mo_fill_191 (by decide) ?_
                            refine lv_goto (tgt := 196) hx hb d_Mo_fill_192 (by decide) ?_
                            cases hm
                            exact K63 H locs ls hP hD hS (lv_sub hl [0, 1, 2, 3, 4, 5, 6, 7] rfl)
                        replace hm := hb59
                        refine lv_icmp_ge (tgt := 182) hx hb d_Mo_fill_174 (by decide) (fun c62 => ?_) (fun c62 => ?_)
                        · replace hm := if_t hm c62
                          refine lv_iload hx hb d_Mo_fill_182 (lv_at hl 4 rfl) ?_
                          cases hm
                          exact K58 H locs ls hP hD hS (lv_sub hl [0, 1, 2, 3, 4, 5, 6, 7] rfl)
                        · replace hm := if_f hm c62
                          refine lv_iload hx hb d_Mo_fill_177 (lv_at hl 7 rfl) ?_
                          refine lv_goto (tgt := 184) hx hb d_Mo_fill_179 (by decide) ?_
                          cases hm
                          exact K58 H locs ls hP hD hS (lv_sub hl [0, 1, 2, 3, 4, 5, 6, 7] rfl)
                      replace hm := hb54
                      refine lv_icmp_ge (tgt := 168) hx hb d_Mo_fill_160 (by decide) (fun c57 => ?_) (fun c57 => ?_)
                      · replace hm := if_t hm c57
                        refine lv_iload hx hb d_Mo_fill_168 (lv_at hl 4 rfl) ?_
                        cases hm
                        exact K53 H locs ls hP hD hS (lv_sub hl [1, 2, 3, 4, 5, 6, 7, 8] rfl)
                      · replace hm := if_f hm c57
                        refine lv_iload hx hb d_Mo_fill_163 (lv_at hl 7 rfl) ?_
                        refine lv_goto (tgt := 170) hx hb d_Mo_fill_165 (by decide) ?_
                        cases hm
                        exact K53 H locs ls hP hD hS (lv_sub hl [1, 2, 3, 4, 5, 6, 7, 8] rfl)
                  replace hm := hb41
                  refine lv_if_eq (tgt := 147) hx hb d_Mo_fill_125 (by decide) (fun c44 => ?_) (fun c44 => ?_)
                  · replace hm := if_t hm c44
                    refine lv_iconst (v := 0) hx hb d_Mo_fill_147 (by decide) ?_
                    cases hm
                    exact K40 H locs ls hP hD hS (lv_sub hl [1, 2, 3, 4, 5, 6, 7, 0] rfl)
                  · replace hm := if_f hm c44
                    refine lv_iload hx hb d_Mo_fill_128 (lv_at hl 0 rfl) ?_
                    refine lv_i2l hx hb d_Mo_fill_130 rfl ?_
                    refine lv_lconst (v := 0) hx hb d_Mo_fill_131 (by decide) ?_
                    refine lv_aload_n hx hb d_Mo_fill_132 rfl (lv_at hl 1 rfl) ?_
                    refine va_get (D := (dC, dI)) (ci := 11) (v := .int v_0_ny) (C := "SpaceCyclesModel") (T := F_Mo) (N := 54) hx hb hts (in_F i_Mo) hown hK hP 0 rfl rfl 16 (by decide) (hts _ (in_c k_301)) (fun _ h9 => h9) rfl d_Mo_fill_133 ?_
                    refine lv_i2l hx hb d_Mo_fill_136 rfl ?_
                    obtain ⟨r45, hb46, hm⟩ := bd1_e hm
                    have hPc := hP.sub (ws' := (wl_Mo_isIn)) [] rfl
                    have hDc := hD.sub (ws' := (wl_Mo_isIn)) [] (by decide) rfl
                    refine cl_i (wc' := (wl_Mo_isIn)) (va_runS (As := [.long (Int32.toInt64 x35), .long 0, .long (Int32.toInt64 v_0_ny)]) (rest := []) ⟨hx, hb, hml, hown, hts⟩ (c_Mo_isIn l dC dI (cI := cI) (cZ := cZ) (cJ := cJ) H.size (Int32.toInt64 x35) 0 (Int32.toInt64 v_0_ny) r45 hb46) (va_cwS 3 hts (gl_S k_278 k_276 k_277 k_275) rfl rfl rfl (by decide +kernel) ⟨Nat.le_of_ble_eq_true rfl, Nat.le_of_ble_eq_true rfl⟩) ⟨PP_blind, fun U hU hW => PP_at hK hN hPc hDc hU hW⟩ rfl rfl hl.1 rfl (lv_room (Nat.le_of_ble_eq_true rfl)) d_Mo_fill_137 ⟨Nat.zero_le _, Nat.zero_le _⟩) hP hD hS hA [] [0, 1, 2, 3, 4] rfl rfl (by decide) (by decide) (fun H locs hP hD hS => ?_)
                    have hP : va_P (dC, dI) vwCl (wl_Mo_fill a_0 a_0_labels a_0_flatEdges a_0_upEdges a_0_stack b_0_isFlat b_0_across b_0_lows b_0_highs b_0_thick b_0_doorCounts b_0_doorFrom b_0_doorTo b_0_xs b_0_ys b_0_oldXs b_0_oldYs b_0_oldLabels b_0_names b_0_oldNames b_0_wanted b_0_common b_0_isPoint b_0_pieceLines b_0_pieceBegins b_0_pieceEnds b_0_pieceLeft b_0_pieceRight b_0_outs b_0_isSeen b_0_ringSpaces b_0_ringStarts b_0_ringSizes b_0_ringLeast b_0_looseLines b_0_looseXs b_0_looseYs b_0_looseReaches b_0_far cI v_0_code v_0_lines v_0_isFresh v_0_hasRun v_0_runs v_0_nx v_0_ny v_0_spaces v_0_oldNx v_0_oldNy v_0_oldSpaces v_0_points v_0_pieces v_0_rings v_0_outsideSides v_0_looseCount f19 f_0_flatEdges f_0_upEdges f20) H := hP.sub [0, 1, 2, 3, 4] rfl
                    have hD : va_D A (wl_Mo_fill a_0 a_0_labels a_0_flatEdges a_0_upEdges a_0_stack b_0_isFlat b_0_across b_0_lows b_0_highs b_0_thick b_0_doorCounts b_0_doorFrom b_0_doorTo b_0_xs b_0_ys b_0_oldXs b_0_oldYs b_0_oldLabels b_0_names b_0_oldNames b_0_wanted b_0_common b_0_isPoint b_0_pieceLines b_0_pieceBegins b_0_pieceEnds b_0_pieceLeft b_0_pieceRight b_0_outs b_0_isSeen b_0_ringSpaces b_0_ringStarts b_0_ringSizes b_0_ringLeast b_0_looseLines b_0_looseXs b_0_looseYs b_0_looseReaches b_0_far cI v_0_code v_0_lines v_0_isFresh v_0_hasRun v_0_runs v_0_nx v_0_ny v_0_spaces v_0_oldNx v_0_oldNy v_0_oldSpaces v_0_points v_0_pieces v_0_rings v_0_outsideSides v_0_looseCount f19 f_0_flatEdges f_0_upEdges f20) := hD.sub [0, 1, 2, 3, 4] (by decide) rfl
                    refine lv_if_eq (tgt := 147) hx hb d_Mo_fill_140 (by decide) (fun c47 => ?_) (fun c47 => ?_)
                    · replace hm := if_t hm c47
                      refine lv_iconst (v := 0) hx hb d_Mo_fill_147 (by decide) ?_
                      cases hm
                      exact K40 H locs ls hP hD hS (lv_sub hl [1, 2, 3, 4, 5, 6, 7, 0] rfl)
                    · replace hm := if_f hm c47
                      refine lv_iconst (v := 1) hx hb d_Mo_fill_143 (by decide) ?_
                      refine lv_goto (tgt := 148) hx hb d_Mo_fill_144 (by decide) ?_
                      cases hm
                      exact K40 H locs ls hP hD hS (lv_sub hl [1, 2, 3, 4, 5, 6, 7, 0] rfl)
                replace hm := hb33
                refine lv_icmp_ne (tgt := 96) hx hb d_Mo_fill_86 (by decide) (fun c36 => ?_) (fun c36 => ?_)
                · replace hm := if_f hm c36
                  refine lv_iload hx hb d_Mo_fill_96 (lv_at hl 6 rfl) ?_
                  refine lv_iconst (v := 3) hx hb d_Mo_fill_98 (by decide) ?_
                  refine lv_icmp_ne (tgt := 109) hx hb d_Mo_fill_99 (by decide) (fun c37 => ?_) (fun c37 => ?_)
                  · replace hm := if_f hm c37
                    refine lv_iload hx hb d_Mo_fill_109 (lv_at hl 5 rfl) ?_
                    cases hm
                    exact K32 H locs ls hP hD hS (lv_sub hl [1, 2, 3, 4, 5, 6, 0] rfl)
                  · replace hm := if_t hm c37
                    refine lv_iload hx hb d_Mo_fill_102 (lv_at hl 5 rfl) ?_
                    refine lv_iconst (v := 1) hx hb d_Mo_fill_104 (by decide) ?_
                    refine lv_isub hx hb d_Mo_fill_105 ?_
                    refine lv_goto (tgt := 111) hx hb d_Mo_fill_106 (by decide) ?_
                    cases hm
                    exact K32 H locs ls hP hD hS (lv_sub hl [1, 2, 3, 4, 5, 6, 0] rfl)
                · replace hm := if_t hm c36
                  refine lv_iload hx hb d_Mo_fill_89 (lv_at hl 5 rfl) ?_
                  refine lv_iconst (v := 1) hx hb d_Mo_fill_91 (by decide) ?_
                  refine lv_iadd hx hb d_Mo_fill_92 ?_
                  refine lv_goto (tgt := 111) hx hb d_Mo_fill_93 (by decide) ?_
                  cases hm
                  exact K32 H locs ls hP hD hS (lv_sub hl [1, 2, 3, 4, 5, 6, 0] rfl)
              replace hm := hb27
              refine lv_if_ne (tgt := 66) hx hb d_Mo_fill_56 (by decide) (fun c30 => ?_) (fun c30 => ?_)
              · replace hm := if_f hm c30
                refine lv_iload hx hb d_Mo_fill_66 (lv_at hl 5 rfl) ?_
                refine lv_iconst (v := 2) hx hb d_Mo_fill_68 (by decide) ?_
                refine lv_icmp_ne (tgt := 79) hx hb d_Mo_fill_69 (by decide) (fun c31 => ?_) (fun c31 => ?_)
                · replace hm := if_f hm c31
                  refine lv_iload hx hb d_Mo_fill_79 (lv_at hl 3 rfl) ?_
                  cases hm
                  exact K26 H locs ls hP hD hS (lv_sub hl [0, 1, 2, 3, 4, 5] rfl)
                · replace hm := if_t hm c31
                  refine lv_iload hx hb d_Mo_fill_72 (lv_at hl 3 rfl) ?_
                  refine lv_iconst (v := 1) hx hb d_Mo_fill_74 (by decide) ?_
                  refine lv_isub hx hb d_Mo_fill_75 ?_
                  refine lv_goto (tgt := 81) hx hb d_Mo_fill_76 (by decide) ?_
                  cases hm
                  exact K26 H locs ls hP hD hS (lv_sub hl [0, 1, 2, 3, 4, 5] rfl)
              · replace hm := if_t hm c30
                refine lv_iload hx hb d_Mo_fill_59 (lv_at hl 3 rfl) ?_
                refine lv_iconst (v := 1) hx hb d_Mo_fill_61 (by decide) ?_
                refine lv_iadd hx hb d_Mo_fill_62 ?_
                refine lv_goto (tgt := 81) hx hb d_Mo_fill_63 (by decide) ?_
                cases hm
                exact K26 H locs ls hP hD hS (lv_sub hl [0, 1, 2, 3, 4, 5] rfl)
        obtain ⟨x21, f22, f23, hb86, hm⟩ := bd3_e hm
        refine L48_24 fu _ _ _ _ _ _ _ hb86 (fun H locs ls hP hD hS hl => ?_) H locs ls hP hD hS (lv_sub hl [4, 5, 3, 2, 1, 0] rfl)
        refine lv_goto (tgt := 16) hx hb d_Mo_fill_269 (by decide) ?_
        exact ih _ _ _ _ _ hm KE H locs ls hP hD hS (lv_sub hl [0, 1, 2] rfl)
  obtain ⟨f8, f9, hb87, hm⟩ := bd2_e hm
  refine L16_10 fu _ _ _ _ _ hb87 (fun H locs ls hP hD hS hl => ?_) H locs ls hP hD hS (lv_sub hl [1, 3, 0] rfl)
  cases hm
  exact hret _ H locs ls d_Mo_fill_272 hP hD hS
set_option maxHeartbeats 4000000 in
set_option maxRecDepth 100000 in
theorem c_Mo_fill (l : Launch) (dC : Nat → ClassId) (dI : Nat → Nat → Nat) {cI cZ cJ : ClassId} (a_0 a_0_labels a_0_flatEdges a_0_upEdges a_0_stack b_0_isFlat b_0_across b_0_lows b_0_highs b_0_thick b_0_doorCounts b_0_doorFrom b_0_doorTo b_0_xs b_0_ys b_0_oldXs b_0_oldYs b_0_oldLabels b_0_names b_0_oldNames b_0_wanted b_0_common b_0_isPoint b_0_pieceLines b_0_pieceBegins b_0_pieceEnds b_0_pieceLeft b_0_pieceRight b_0_outs b_0_isSeen b_0_ringSpaces b_0_ringStarts b_0_ringSizes b_0_ringLeast b_0_looseLines b_0_looseXs b_0_looseYs b_0_looseReaches b_0_far : Nat) (sz : Nat) (v_0_code : Int32) (v_0_lines : Int32) (v_0_isFresh : Int32) (v_0_hasRun : Int32) (v_0_runs : Int32) (v_0_nx : Int32) (v_0_ny : Int32) (v_0_spaces : Int32) (v_0_oldNx : Int32) (v_0_oldNy : Int32) (v_0_oldSpaces : Int32) (v_0_points : Int32) (v_0_pieces : Int32) (v_0_rings : Int32) (v_0_outsideSides : Int32) (v_0_looseCount : Int32) (f_0_labels : Nat → Int32) (f_0_flatEdges : Nat → Int32) (f_0_upEdges : Nat → Int32) (f_0_stack : Nat → Int32) (p1 : Int32) (p2 : Int32) (of_0_labels : Nat → Int32) (of_0_stack : Nat → Int32) (hm : m_Mo_fill p1 p2 v_0_nx v_0_ny f_0_labels f_0_flatEdges f_0_upEdges f_0_stack = some (of_0_labels, of_0_stack)) : Met l y_Mo_fill w_Mo_fill rm_Mo_fill (PP dC dI [(cI, .int), (cZ, .boolean), (cJ, .long)] [.ref a_0, .int p1, .int p2] sz (wl_Mo_fill a_0 a_0_labels a_0_flatEdges a_0_upEdges a_0_stack b_0_isFlat b_0_across b_0_lows b_0_highs b_0_thick b_0_doorCounts b_0_doorFrom b_0_doorTo b_0_xs b_0_ys b_0_oldXs b_0_oldYs b_0_oldLabels b_0_names b_0_oldNames b_0_wanted b_0_common b_0_isPoint b_0_pieceLines b_0_pieceBegins b_0_pieceEnds b_0_pieceLeft b_0_pieceRight b_0_outs b_0_isSeen b_0_ringSpaces b_0_ringStarts b_0_ringSizes b_0_ringLeast b_0_looseLines b_0_looseXs b_0_looseYs b_0_looseReaches b_0_far cI v_0_code v_0_lines v_0_isFresh v_0_hasRun v_0_runs v_0_nx v_0_ny v_0_spaces v_0_oldNx v_0_oldNy v_0_oldSpaces v_0_points v_0_pieces v_0_rings v_0_outsideSides v_0_looseCount f_0_labels f_0_flatEdges f_0_upEdges f_0_stack)) (QV dC dI [(cI, .int), (cZ, .boolean), (cJ, .long)] sz (wl_Mo_fill a_0 a_0_labels a_0_flatEdges a_0_upEdges a_0_stack b_0_isFlat b_0_across b_0_lows b_0_highs b_0_thick b_0_doorCounts b_0_doorFrom b_0_doorTo b_0_xs b_0_ys b_0_oldXs b_0_oldYs b_0_oldLabels b_0_names b_0_oldNames b_0_wanted b_0_common b_0_isPoint b_0_pieceLines b_0_pieceBegins b_0_pieceEnds b_0_pieceLeft b_0_pieceRight b_0_outs b_0_isSeen b_0_ringSpaces b_0_ringStarts b_0_ringSizes b_0_ringLeast b_0_looseLines b_0_looseXs b_0_looseYs b_0_looseReaches b_0_far cI v_0_code v_0_lines v_0_isFresh v_0_hasRun v_0_runs v_0_nx v_0_ny v_0_spaces v_0_oldNx v_0_oldNy v_0_oldSpaces v_0_points v_0_pieces v_0_rings v_0_outsideSides v_0_looseCount f_0_labels f_0_flatEdges f_0_upEdges f_0_stack) (wl_Mo_fill a_0 a_0_labels a_0_flatEdges a_0_upEdges a_0_stack b_0_isFlat b_0_across b_0_lows b_0_highs b_0_thick b_0_doorCounts b_0_doorFrom b_0_doorTo b_0_xs b_0_ys b_0_oldXs b_0_oldYs b_0_oldLabels b_0_names b_0_oldNames b_0_wanted b_0_common b_0_isPoint b_0_pieceLines b_0_pieceBegins b_0_pieceEnds b_0_pieceLeft b_0_pieceRight b_0_outs b_0_isSeen b_0_ringSpaces b_0_ringStarts b_0_ringSizes b_0_ringLeast b_0_looseLines b_0_looseXs b_0_looseYs b_0_looseReaches b_0_far cI v_0_code v_0_lines v_0_isFresh v_0_hasRun v_0_runs v_0_nx v_0_ny v_0_spaces v_0_oldNx v_0_oldNy v_0_oldSpaces v_0_points v_0_pieces v_0_rings v_0_outsideSides v_0_looseCount of_0_labels f_0_flatEdges f_0_upEdges of_0_stack)) 0 0 (va_A (wl_Mo_fill a_0 a_0_labels a_0_flatEdges a_0_upEdges a_0_stack b_0_isFlat b_0_across b_0_lows b_0_highs b_0_thick b_0_doorCounts b_0_doorFrom b_0_doorTo b_0_xs b_0_ys b_0_oldXs b_0_oldYs b_0_oldLabels b_0_names b_0_oldNames b_0_wanted b_0_common b_0_isPoint b_0_pieceLines b_0_pieceBegins b_0_pieceEnds b_0_pieceLeft b_0_pieceRight b_0_outs b_0_isSeen b_0_ringSpaces b_0_ringStarts b_0_ringSizes b_0_ringLeast b_0_looseLines b_0_looseXs b_0_looseYs b_0_looseReaches b_0_far cI v_0_code v_0_lines v_0_isFresh v_0_hasRun v_0_runs v_0_nx v_0_ny v_0_spaces v_0_oldNx v_0_oldNy v_0_oldSpaces v_0_points v_0_pieces v_0_rings v_0_outsideSides v_0_looseCount f_0_labels f_0_flatEdges f_0_upEdges f_0_stack) sz) := by
  refine Met.ofW (cc := b_Mo_fill) (maxL := 11) (ret := none) (by decide) rfl ?_
  intro p e s m args below meth c s₁ B hml hv
  obtain ⟨rfl, hsz, hP, hK, hD0, hN⟩ := hv
  subst hsz
  have hl := lv_entry ([.ref a_0, .int p1, .int p2]) (n := 11) (Nat.le_of_ble_eq_true rfl)
  rw [lg_entry_eq]
  generalize (lg_sl ([.ref a_0, .int p1, .int p2]) ++ List.replicate (11 - (lg_sl ([.ref a_0, .int p1, .int p2])).length) Slot.unset).toArray = ls at hl ⊢
  exact t_Mo_fill a_0 a_0_labels a_0_flatEdges a_0_upEdges a_0_stack b_0_isFlat b_0_across b_0_lows b_0_highs b_0_thick b_0_doorCounts b_0_doorFrom b_0_doorTo b_0_xs b_0_ys b_0_oldXs b_0_oldYs b_0_oldLabels b_0_names b_0_oldNames b_0_wanted b_0_common b_0_isPoint b_0_pieceLines b_0_pieceBegins b_0_pieceEnds b_0_pieceLeft b_0_pieceRight b_0_outs b_0_isSeen b_0_ringSpaces b_0_ringStarts b_0_ringSizes b_0_ringLeast b_0_looseLines b_0_looseXs b_0_looseYs b_0_looseReaches b_0_far v_0_code v_0_lines v_0_isFresh v_0_hasRun v_0_runs v_0_nx v_0_ny v_0_spaces v_0_oldNx v_0_oldNy v_0_oldSpaces v_0_points v_0_pieces v_0_rings v_0_outsideSides v_0_looseCount f_0_labels f_0_flatEdges f_0_upEdges f_0_stack p1 p2 of_0_labels of_0_stack B.exec B.bytes hml (findClass_of_methodNamed B.named) (atoms_spec (ws := w_Mo_fill) B.pre) hK hN (fun q h => Or.inr h) (fun pc H locs ls hd hP9 hD9 hS => W.vret B.exec B.bytes B.returns (fun t ht hW => ⟨⟨(), rfl, trivial, by rw [ht]; exact hP9, va_K.moved hW.alike hK, hD9⟩, hS.F ht⟩) hS.2.2 hd) hm s.heap [] ls hP hD0.self va_S.rf hl

theorem k_324 : ((.code ⟨"SpaceCyclesModel", "fill", "(II)V"⟩ prog_13_method_15_code 11 none) : Cond) ∈ gl := gl_i 1346 (by decide +kernel) (by decide +kernel)
theorem k_325 : ((.selects "SpaceCyclesModel" ⟨"SpaceCyclesModel", "fill", "(II)V"⟩ ⟨"SpaceCyclesModel", "fill", "(II)V"⟩) : Cond) ∈ gl := gl_s (by decide +kernel) (by decide +kernel)
theorem k_326 : ((.instanceMethod ⟨"SpaceCyclesModel", "fill", "(II)V"⟩) : Cond) ∈ gl := gl_i 1345 (by decide +kernel) (by decide +kernel)
theorem k_327 : ((.methodLink "SpaceCyclesModel" 181 ⟨"SpaceCyclesModel", "fill", "(II)V"⟩) : Cond) ∈ gl := gl_i 1343 (by decide +kernel) (by decide +kernel)
theorem k_328 : ((.fieldLink "SpaceCyclesModel" 185 "SpaceCyclesModel" "spaces" "I") : Cond) ∈ gl := gl_i 1139 (by decide +kernel) (by decide +kernel)
-- SpaceCyclesModel.findSpaces()V
abbrev b_Mo_findSpaces : ByteArray := prog_13_method_16_code
abbrev y_Mo_findSpaces : MethodName := ⟨"SpaceCyclesModel", "findSpaces", "()V"⟩
abbrev w_Mo_findSpaces : List Cond := Cond.code y_Mo_findSpaces b_Mo_findSpaces 3 none :: gl
abbrev rm_Mo_findSpaces : Room := { frames := 2, cells := 0, slots := 0, locals := 55 }
theorem d_Mo_findSpaces_0 : decode b_Mo_findSpaces 0 = .ok (.iconst 0, 1) := by decide +kernel
theorem d_Mo_findSpaces_1 : decode b_Mo_findSpaces 1 = .ok (.istore_n 1, 1) := by decide +kernel
theorem d_Mo_findSpaces_2 : decode b_Mo_findSpaces 2 = .ok (.iload_n 1, 1) := by decide +kernel
theorem d_Mo_findSpaces_3 : decode b_Mo_findSpaces 3 = .ok (.sipush 1764, 3) := by decide +kernel
theorem d_Mo_findSpaces_6 : decode b_Mo_findSpaces 6 = .ok (.if_icmp .ge 17, 3) := by decide +kernel
theorem d_Mo_findSpaces_9 : decode b_Mo_findSpaces 9 = .ok (.aload_n 0, 1) := by decide +kernel
theorem d_Mo_findSpaces_10 : decode b_Mo_findSpaces 10 = .ok (.getfield 41, 3) := by decide +kernel
theorem d_Mo_findSpaces_13 : decode b_Mo_findSpaces 13 = .ok (.iload_n 1, 1) := by decide +kernel
theorem d_Mo_findSpaces_14 : decode b_Mo_findSpaces 14 = .ok (.bipush (-3), 2) := by decide +kernel
theorem d_Mo_findSpaces_16 : decode b_Mo_findSpaces 16 = .ok (.iastore, 1) := by decide +kernel
theorem d_Mo_findSpaces_17 : decode b_Mo_findSpaces 17 = .ok (.iinc 1 1, 3) := by decide +kernel
theorem d_Mo_findSpaces_20 : decode b_Mo_findSpaces 20 = .ok (.goto (-18), 3) := by decide +kernel
theorem d_Mo_findSpaces_23 : decode b_Mo_findSpaces 23 = .ok (.aload_n 0, 1) := by decide +kernel
theorem d_Mo_findSpaces_24 : decode b_Mo_findSpaces 24 = .ok (.iconst 0, 1) := by decide +kernel
theorem d_Mo_findSpaces_25 : decode b_Mo_findSpaces 25 = .ok (.iconst (-1), 1) := by decide +kernel
theorem d_Mo_findSpaces_26 : decode b_Mo_findSpaces 26 = .ok (.invokevirtual 181, 3) := by decide +kernel
theorem d_Mo_findSpaces_29 : decode b_Mo_findSpaces 29 = .ok (.aload_n 0, 1) := by decide +kernel
theorem d_Mo_findSpaces_30 : decode b_Mo_findSpaces 30 = .ok (.iconst 0, 1) := by decide +kernel
theorem d_Mo_findSpaces_31 : decode b_Mo_findSpaces 31 = .ok (.putfield 185, 3) := by decide +kernel
theorem d_Mo_findSpaces_34 : decode b_Mo_findSpaces 34 = .ok (.iconst 0, 1) := by decide +kernel
theorem d_Mo_findSpaces_35 : decode b_Mo_findSpaces 35 = .ok (.istore_n 1, 1) := by decide +kernel
theorem d_Mo_findSpaces_36 : decode b_Mo_findSpaces 36 = .ok (.iload_n 1, 1) := by decide +kernel
theorem d_Mo_findSpaces_37 : decode b_Mo_findSpaces 37 = .ok (.aload_n 0, 1) := by decide +kernel
theorem d_Mo_findSpaces_38 : decode b_Mo_findSpaces 38 = .ok (.getfield 157, 3) := by decide +kernel
theorem d_Mo_findSpaces_41 : decode b_Mo_findSpaces 41 = .ok (.if_icmp .gt 65, 3) := by decide +kernel
theorem d_Mo_findSpaces_44 : decode b_Mo_findSpaces 44 = .ok (.iconst 0, 1) := by decide +kernel
theorem d_Mo_findSpaces_45 : decode b_Mo_findSpaces 45 = .ok (.istore_n 2, 1) := by decide +kernel
theorem d_Mo_findSpaces_46 : decode b_Mo_findSpaces 46 = .ok (.iload_n 2, 1) := by decide +kernel
theorem d_Mo_findSpaces_47 : decode b_Mo_findSpaces 47 = .ok (.aload_n 0, 1) := by decide +kernel
theorem d_Mo_findSpaces_48 : decode b_Mo_findSpaces 48 = .ok (.getfield 160, 3) := by decide +kernel
theorem d_Mo_findSpaces_51 : decode b_Mo_findSpaces 51 = .ok (.if_icmp .gt 49, 3) := by decide +kernel
theorem d_Mo_findSpaces_54 : decode b_Mo_findSpaces 54 = .ok (.aload_n 0, 1) := by decide +kernel
theorem d_Mo_findSpaces_55 : decode b_Mo_findSpaces 55 = .ok (.getfield 41, 3) := by decide +kernel
theorem d_Mo_findSpaces_58 : decode b_Mo_findSpaces 58 = .ok (.bipush 42, 2) := by decide +kernel
theorem d_Mo_findSpaces_60 : decode b_Mo_findSpaces 60 = .ok (.iload_n 1, 1) := by decide +kernel
theorem d_Mo_findSpaces_61 : decode b_Mo_findSpaces 61 = .ok (.imul, 1) := by decide +kernel
theorem d_Mo_findSpaces_62 : decode b_Mo_findSpaces 62 = .ok (.iload_n 2, 1) := by decide +kernel
theorem d_Mo_findSpaces_63 : decode b_Mo_findSpaces 63 = .ok (.iadd, 1) := by decide +kernel
theorem d_Mo_findSpaces_64 : decode b_Mo_findSpaces 64 = .ok (.iaload, 1) := by decide +kernel
theorem d_Mo_findSpaces_65 : decode b_Mo_findSpaces 65 = .ok (.bipush (-3), 2) := by decide +kernel
theorem d_Mo_findSpaces_67 : decode b_Mo_findSpaces 67 = .ok (.if_icmp .ne 27, 3) := by decide +kernel
theorem d_Mo_findSpaces_70 : decode b_Mo_findSpaces 70 = .ok (.aload_n 0, 1) := by decide +kernel
theorem d_Mo_findSpaces_71 : decode b_Mo_findSpaces 71 = .ok (.bipush 42, 2) := by decide +kernel
theorem d_Mo_findSpaces_73 : decode b_Mo_findSpaces 73 = .ok (.iload_n 1, 1) := by decide +kernel
theorem d_Mo_findSpaces_74 : decode b_Mo_findSpaces 74 = .ok (.imul, 1) := by decide +kernel
theorem d_Mo_findSpaces_75 : decode b_Mo_findSpaces 75 = .ok (.iload_n 2, 1) := by decide +kernel
theorem d_Mo_findSpaces_76 : decode b_Mo_findSpaces 76 = .ok (.iadd, 1) := by decide +kernel
theorem d_Mo_findSpaces_77 : decode b_Mo_findSpaces 77 = .ok (.aload_n 0, 1) := by decide +kernel
theorem d_Mo_findSpaces_78 : decode b_Mo_findSpaces 78 = .ok (.getfield 185, 3) := by decide +kernel
theorem d_Mo_findSpaces_81 : decode b_Mo_findSpaces 81 = .ok (.invokevirtual 181, 3) := by decide +kernel
theorem d_Mo_findSpaces_84 : decode b_Mo_findSpaces 84 = .ok (.aload_n 0, 1) := by decide +kernel
theorem d_Mo_findSpaces_85 : decode b_Mo_findSpaces 85 = .ok (.dup, 1) := by decide +kernel
theorem d_Mo_findSpaces_86 : decode b_Mo_findSpaces 86 = .ok (.getfield 185, 3) := by decide +kernel
theorem d_Mo_findSpaces_89 : decode b_Mo_findSpaces 89 = .ok (.iconst 1, 1) := by decide +kernel
theorem d_Mo_findSpaces_90 : decode b_Mo_findSpaces 90 = .ok (.iadd, 1) := by decide +kernel
theorem d_Mo_findSpaces_91 : decode b_Mo_findSpaces 91 = .ok (.putfield 185, 3) := by decide +kernel
theorem d_Mo_findSpaces_94 : decode b_Mo_findSpaces 94 = .ok (.iinc 2 1, 3) := by decide +kernel
theorem d_Mo_findSpaces_97 : decode b_Mo_findSpaces 97 = .ok (.goto (-51), 3) := by decide +kernel
theorem d_Mo_findSpaces_100 : decode b_Mo_findSpaces 100 = .ok (.iinc 1 1, 3) := by decide +kernel
theorem d_Mo_findSpaces_103 : decode b_Mo_findSpaces 103 = .ok (.goto (-67), 3) := by decide +kernel
theorem d_Mo_findSpaces_106 : decode b_Mo_findSpaces 106 = .ok (.return_, 1) := by decide +kernel
abbrev wl_Mo_findSpaces (a_0 : Nat) (a_0_labels : Nat) (a_0_flatEdges : Nat) (a_0_upEdges : Nat) (a_0_stack : Nat) (b_0_isFlat : Nat) (b_0_across : Nat) (b_0_lows : Nat) (b_0_highs : Nat) (b_0_thick : Nat) (b_0_doorCounts : Nat) (b_0_doorFrom : Nat) (b_0_doorTo : Nat) (b_0_xs : Nat) (b_0_ys : Nat) (b_0_oldXs : Nat) (b_0_oldYs : Nat) (b_0_oldLabels : Nat) (b_0_names : Nat) (b_0_oldNames : Nat) (b_0_wanted : Nat) (b_0_common : Nat) (b_0_isPoint : Nat) (b_0_pieceLines : Nat) (b_0_pieceBegins : Nat) (b_0_pieceEnds : Nat) (b_0_pieceLeft : Nat) (b_0_pieceRight : Nat) (b_0_outs : Nat) (b_0_isSeen : Nat) (b_0_ringSpaces : Nat) (b_0_ringStarts : Nat) (b_0_ringSizes : Nat) (b_0_ringLeast : Nat) (b_0_looseLines : Nat) (b_0_looseXs : Nat) (b_0_looseYs : Nat) (b_0_looseReaches : Nat) (b_0_far : Nat) (cI : ClassId) (v_0_code : Int32) (v_0_lines : Int32) (v_0_isFresh : Int32) (v_0_hasRun : Int32) (v_0_runs : Int32) (v_0_nx : Int32) (v_0_ny : Int32) (v_0_spaces : Int32) (v_0_oldNx : Int32) (v_0_oldNy : Int32) (v_0_oldSpaces : Int32) (v_0_points : Int32) (v_0_pieces : Int32) (v_0_rings : Int32) (v_0_outsideSides : Int32) (v_0_looseCount : Int32) (f_0_labels : Nat → Int32) (f_0_flatEdges : Nat → Int32) (f_0_upEdges : Nat → Int32) (f_0_stack : Nat → Int32) : va_W := [(a_0, .inr (11, [.int v_0_code, .ref b_0_isFlat, .ref b_0_across, .ref b_0_lows, .ref b_0_highs, .ref b_0_thick, .int v_0_lines, .ref b_0_doorCounts, .ref b_0_doorFrom, .ref b_0_doorTo, .int v_0_isFresh, .int v_0_hasRun, .int v_0_runs, .ref b_0_xs, .ref b_0_ys, .int v_0_nx, .int v_0_ny, .ref a_0_labels, .int v_0_spaces, .ref b_0_oldXs, .ref b_0_oldYs, .int v_0_oldNx, .int v_0_oldNy, .ref b_0_oldLabels, .int v_0_oldSpaces, .ref b_0_names, .ref b_0_oldNames, .ref b_0_wanted, .ref b_0_common, .ref a_0_flatEdges, .ref a_0_upEdges, .ref b_0_isPoint, .int v_0_points, .ref a_0_stack, .ref b_0_pieceLines, .ref b_0_pieceBegins, .ref b_0_pieceEnds, .ref b_0_pieceLeft, .ref b_0_pieceRight, .int v_0_pieces, .ref b_0_outs, .ref b_0_isSeen, .ref b_0_ringSpaces, .ref b_0_ringStarts, .ref b_0_ringSizes, .ref b_0_ringLeast, .int v_0_rings, .int v_0_outsideSides, .ref b_0_looseLines, .ref b_0_looseXs, .ref b_0_looseYs, .ref b_0_looseReaches, .int v_0_looseCount, .ref b_0_far])), (a_0_labels, .inl (cI, 1764, .inl f_0_labels)), (a_0_flatEdges, .inl (cI, 1764, .inl f_0_flatEdges)), (a_0_upEdges, .inl (cI, 1764, .inl f_0_upEdges)), (a_0_stack, .inl (cI, 1764, .inl f_0_stack))]
def m_Mo_findSpaces_L2  : Nat → Int32 → (Nat → Int32) → Option ((Nat → Int32))
  | 0, _, _ => none
  | n + 1, l1, f_0_labels =>
    if 1764 ≤ l1 then (
      some f_0_labels)
    else (
      gI l1 1764 <|
      lt_ (upd f_0_labels l1.toNatClampNeg (-3)) fun f3 =>
      lt_ (l1 + 1) fun x4 =>
      m_Mo_findSpaces_L2 n x4 f3)

def m_Mo_findSpaces_L46 (l1 : Int32) (v_0_nx : Int32) (v_0_ny : Int32) (f_0_flatEdges : Nat → Int32) (f_0_upEdges : Nat → Int32) : Nat → Int32 → Int32 → (Nat → Int32) → (Nat → Int32) → Option ((Int32) × (Nat → Int32) × (Nat → Int32))
  | 0, _, _, _, _ => none
  | n + 1, l2, v_0_spaces, f_0_labels, f_0_stack =>
    if v_0_ny < l2 then (
      some (v_0_spaces, f_0_labels, f_0_stack))
    else (
      gI ((42 * l1) + l2) 1764 <|
      bd3 (
        if (f_0_labels ((42 * l1) + l2).toNatClampNeg) = (-3) then (
        bd2 (m_Mo_fill ((42 * l1) + l2) v_0_spaces v_0_nx v_0_ny f_0_labels f_0_flatEdges f_0_upEdges f_0_stack) fun f23 f24 =>
        lt_ (v_0_spaces + 1) fun x26 =>
        some (x26, f23, f24))
      else (
        some (v_0_spaces, f_0_labels, f_0_stack)))
      fun (x19 : Int32) (f20 : Nat → Int32) (f21 : Nat → Int32) =>
      lt_ (l2 + 1) fun x27 =>
        m_Mo_findSpaces_L46 l1 v_0_nx v_0_ny f_0_flatEdges f_0_upEdges n x27 x19 f20 f21)

def m_Mo_findSpaces_L36 (v_0_nx : Int32) (v_0_ny : Int32) (f_0_flatEdges : Nat → Int32) (f_0_upEdges : Nat → Int32) : Nat → Int32 → Int32 → (Nat → Int32) → (Nat → Int32) → Option ((Int32) × (Nat → Int32) × (Nat → Int32))
  | 0, _, _, _, _ => none
  | n + 1, l1, v_0_spaces, f_0_labels, f_0_stack =>
    if v_0_nx < l1 then (
      some (v_0_spaces, f_0_labels, f_0_stack))
    else (
      bd3 (m_Mo_findSpaces_L46 l1 v_0_nx v_0_ny f_0_flatEdges f_0_upEdges fu 0 v_0_spaces f_0_labels f_0_stack) fun x18 f19 f20 =>
      lt_ (l1 + 1) fun x37 =>
      m_Mo_findSpaces_L36 v_0_nx v_0_ny f_0_flatEdges f_0_upEdges n x37 x18 f19 f20)
def m_Mo_findSpaces (v_0_nx : Int32) (v_0_ny : Int32) (v_0_spaces : Int32) (f_0_labels : Nat → Int32) (f_0_flatEdges : Nat → Int32) (f_0_upEdges : Nat → Int32) (f_0_stack : Nat → Int32) : Option ((Int32) × (Nat → Int32) × (Nat → Int32)) :=
  bd1 (m_Mo_findSpaces_L2 fu 0 f_0_labels) fun f3 =>
  bd2 (m_Mo_fill 0 (-1) v_0_nx v_0_ny f3 f_0_flatEdges f_0_upEdges f_0_stack) fun f10 f11 =>
  bd3 (m_Mo_findSpaces_L36 v_0_nx v_0_ny f_0_flatEdges f_0_upEdges fu 0 0 f10 f11) fun x17 f18 f19 =>
  some (x17, f18, f19)

set_option maxHeartbeats 4000000 in
set_option maxRecDepth 100000 in
theorem t_Mo_findSpaces {p : Program} {l : Launch} {e : Env} {s : State} {m : MethodId} {args : Array Value} {below : List Frame} {meth : Method} {c : Code} {A : Nat → Prop} {Q : State → Prop} {dC : Nat → ClassId} {dI : Nat → Nat → Nat} {cI cZ cJ : ClassId} (a_0 a_0_labels a_0_flatEdges a_0_upEdges a_0_stack b_0_isFlat b_0_across b_0_lows b_0_highs b_0_thick b_0_doorCounts b_0_doorFrom b_0_doorTo b_0_xs b_0_ys b_0_oldXs b_0_oldYs b_0_oldLabels b_0_names b_0_oldNames b_0_wanted b_0_common b_0_isPoint b_0_pieceLines b_0_pieceBegins b_0_pieceEnds b_0_pieceLeft b_0_pieceRight b_0_outs b_0_isSeen b_0_ringSpaces b_0_ringStarts b_0_ringSizes b_0_ringLeast b_0_looseLines b_0_looseXs b_0_looseYs b_0_looseReaches b_0_far : Nat) (v_0_code : Int32) (v_0_lines : Int32) (v_0_isFresh : Int32) (v_0_hasRun : Int32) (v_0_runs : Int32) (v_0_nx : Int32) (v_0_ny : Int32) (v_0_spaces : Int32) (v_0_oldNx : Int32) (v_0_oldNy : Int32) (v_0_oldSpaces : Int32) (v_0_points : Int32) (v_0_pieces : Int32) (v_0_rings : Int32) (v_0_outsideSides : Int32) (v_0_looseCount : Int32) (f_0_labels : Nat → Int32) (f_0_flatEdges : Nat → Int32) (f_0_upEdges : Nat → Int32) (f_0_stack : Nat → Int32)  (ov_0_spaces : Int32) (of_0_labels : Nat → Int32) (of_0_stack : Nat → Int32) (hx : p.tables.exec = Jvm.exec) (hb : c.code = b_Mo_findSpaces) (hml : c.maxLocals = 3) (hown : s.vm.findClass "SpaceCyclesModel" = some m.cls) (hts : ∀ w ∈ w_Mo_findSpaces, w.before args s = true) (hK : va_K (dC, dI) vwCl [(cI, .int), (cZ, .boolean), (cJ, .long)] s) (hN : NX s) (hA : ∀ q : Nat, s.heap.size ≤ q → A q)
    (hret : ∀ (pc : Nat) (H : Heap) (locs : List Loc) (ls : Array Slot), decode b_Mo_findSpaces pc = .ok (.return_, 1) → va_P (dC, dI) vwCl (wl_Mo_findSpaces a_0 a_0_labels a_0_flatEdges a_0_upEdges a_0_stack b_0_isFlat b_0_across b_0_lows b_0_highs b_0_thick b_0_doorCounts b_0_doorFrom b_0_doorTo b_0_xs b_0_ys b_0_oldXs b_0_oldYs b_0_oldLabels b_0_names b_0_oldNames b_0_wanted b_0_common b_0_isPoint b_0_pieceLines b_0_pieceBegins b_0_pieceEnds b_0_pieceLeft b_0_pieceRight b_0_outs b_0_isSeen b_0_ringSpaces b_0_ringStarts b_0_ringSizes b_0_ringLeast b_0_looseLines b_0_looseXs b_0_looseYs b_0_looseReaches b_0_far cI v_0_code v_0_lines v_0_isFresh v_0_hasRun v_0_runs v_0_nx v_0_ny ov_0_spaces v_0_oldNx v_0_oldNy v_0_oldSpaces v_0_points v_0_pieces v_0_rings v_0_outsideSides v_0_looseCount of_0_labels f_0_flatEdges f_0_upEdges of_0_stack) H → va_D A (wl_Mo_findSpaces a_0 a_0_labels a_0_flatEdges a_0_upEdges a_0_stack b_0_isFlat b_0_across b_0_lows b_0_highs b_0_thick b_0_doorCounts b_0_doorFrom b_0_doorTo b_0_xs b_0_ys b_0_oldXs b_0_oldYs b_0_oldLabels b_0_names b_0_oldNames b_0_wanted b_0_common b_0_isPoint b_0_pieceLines b_0_pieceBegins b_0_pieceEnds b_0_pieceLeft b_0_pieceRight b_0_outs b_0_isSeen b_0_ringSpaces b_0_ringStarts b_0_ringSizes b_0_ringLeast b_0_looseLines b_0_looseXs b_0_looseYs b_0_looseReaches b_0_far cI v_0_code v_0_lines v_0_isFresh v_0_hasRun v_0_runs v_0_nx v_0_ny ov_0_spaces v_0_oldNx v_0_oldNy v_0_oldSpaces v_0_points v_0_pieces v_0_rings v_0_outsideSides v_0_looseCount of_0_labels f_0_flatEdges f_0_upEdges of_0_stack) → va_S A s.heap H locs → W p l e rm_Mo_findSpaces s m args below meth c H locs 0 0 Q (F0 m pc ls []))
    (hm : m_Mo_findSpaces v_0_nx v_0_ny v_0_spaces f_0_labels f_0_flatEdges f_0_upEdges f_0_stack = some (ov_0_spaces, of_0_labels, of_0_stack)) : ∀ (H : Heap) (locs : List Loc) (ls : Array Slot), va_P (dC, dI) vwCl (wl_Mo_findSpaces a_0 a_0_labels a_0_flatEdges a_0_upEdges a_0_stack b_0_isFlat b_0_across b_0_lows b_0_highs b_0_thick b_0_doorCounts b_0_doorFrom b_0_doorTo b_0_xs b_0_ys b_0_oldXs b_0_oldYs b_0_oldLabels b_0_names b_0_oldNames b_0_wanted b_0_common b_0_isPoint b_0_pieceLines b_0_pieceBegins b_0_pieceEnds b_0_pieceLeft b_0_pieceRight b_0_outs b_0_isSeen b_0_ringSpaces b_0_ringStarts b_0_ringSizes b_0_ringLeast b_0_looseLines b_0_looseXs b_0_looseYs b_0_looseReaches b_0_far cI v_0_code v_0_lines v_0_isFresh v_0_hasRun v_0_runs v_0_nx v_0_ny v_0_spaces v_0_oldNx v_0_oldNy v_0_oldSpaces v_0_points v_0_pieces v_0_rings v_0_outsideSides v_0_looseCount f_0_labels f_0_flatEdges f_0_upEdges f_0_stack) H → va_D A (wl_Mo_findSpaces a_0 a_0_labels a_0_flatEdges a_0_upEdges a_0_stack b_0_isFlat b_0_across b_0_lows b_0_highs b_0_thick b_0_doorCounts b_0_doorFrom b_0_doorTo b_0_xs b_0_ys b_0_oldXs b_0_oldYs b_0_oldLabels b_0_names b_0_oldNames b_0_wanted b_0_common b_0_isPoint b_0_pieceLines b_0_pieceBegins b_0_pieceEnds b_0_pieceLeft b_0_pieceRight b_0_outs b_0_isSeen b_0_ringSpaces b_0_ringStarts b_0_ringSizes b_0_ringLeast b_0_looseLines b_0_looseXs b_0_looseYs b_0_looseReaches b_0_far cI v_0_code v_0_lines v_0_isFresh v_0_hasRun v_0_runs v_0_nx v_0_ny v_0_spaces v_0_oldNx v_0_oldNy v_0_oldSpaces v_0_points v_0_pieces v_0_rings v_0_outsideSides v_0_looseCount f_0_labels f_0_flatEdges f_0_upEdges f_0_stack) → va_S A s.heap H locs → lv_has ls 3 [(0, .ref a_0)] → W p l e rm_Mo_findSpaces s m args below meth c H locs 0 0 Q (F0 m 0 ls []) := by
  intro H locs ls hP hD hS hl
  unfold m_Mo_findSpaces at hm
  refine lv_iconst (v := 0) hx hb d_Mo_findSpaces_0 (by decide) ?_
  refine lv_istore_n (lv' := [(1, .int 0), (0, .ref a_0)]) hx hb d_Mo_findSpaces_1 rfl hl (by decide) rfl (fun ls hl => ?_)
  have L2_4 : ∀ (n : Nat) (x1 : Int32) (f2 : Nat → Int32) (f3 : Nat → Int32), m_Mo_findSpaces_L2 n x1 f2 = some f3 → (∀ (H : Heap) (locs : List Loc) (ls : Array Slot), va_P (dC, dI) vwCl (wl_Mo_findSpaces a_0 a_0_labels a_0_flatEdges a_0_upEdges a_0_stack b_0_isFlat b_0_across b_0_lows b_0_highs b_0_thick b_0_doorCounts b_0_doorFrom b_0_doorTo b_0_xs b_0_ys b_0_oldXs b_0_oldYs b_0_oldLabels b_0_names b_0_oldNames b_0_wanted b_0_common b_0_isPoint b_0_pieceLines b_0_pieceBegins b_0_pieceEnds b_0_pieceLeft b_0_pieceRight b_0_outs b_0_isSeen b_0_ringSpaces b_0_ringStarts b_0_ringSizes b_0_ringLeast b_0_looseLines b_0_looseXs b_0_looseYs b_0_looseReaches b_0_far cI v_0_code v_0_lines v_0_isFresh v_0_hasRun v_0_runs v_0_nx v_0_ny v_0_spaces v_0_oldNx v_0_oldNy v_0_oldSpaces v_0_points v_0_pieces v_0_rings v_0_outsideSides v_0_looseCount f3 f_0_flatEdges f_0_upEdges f_0_stack) H → va_D A (wl_Mo_findSpaces a_0 a_0_labels a_0_flatEdges a_0_upEdges a_0_stack b_0_isFlat b_0_across b_0_lows b_0_highs b_0_thick b_0_doorCounts b_0_doorFrom b_0_doorTo b_0_xs b_0_ys b_0_oldXs b_0_oldYs b_0_oldLabels b_0_names b_0_oldNames b_0_wanted b_0_common b_0_isPoint b_0_pieceLines b_0_pieceBegins b_0_pieceEnds b_0_pieceLeft b_0_pieceRight b_0_outs b_0_isSeen b_0_ringSpaces b_0_ringStarts b_0_ringSizes b_0_ringLeast b_0_looseLines b_0_looseXs b_0_looseYs b_0_looseReaches b_0_far cI v_0_code v_0_lines v_0_isFresh v_0_hasRun v_0_runs v_0_nx v_0_ny v_0_spaces v_0_oldNx v_0_oldNy v_0_oldSpaces v_0_points v_0_pieces v_0_rings v_0_outsideSides v_0_looseCount f3 f_0_flatEdges f_0_upEdges f_0_stack) → va_S A s.heap H locs → lv_has ls 3 [(0, .ref a_0)] → W p l e rm_Mo_findSpaces s m args below meth c H locs 0 0 Q (F0 m 23 ls [])) → ∀ (H : Heap) (locs : List Loc) (ls : Array Slot), va_P (dC, dI) vwCl (wl_Mo_findSpaces a_0 a_0_labels a_0_flatEdges a_0_upEdges a_0_stack b_0_isFlat b_0_across b_0_lows b_0_highs b_0_thick b_0_doorCounts b_0_doorFrom b_0_doorTo b_0_xs b_0_ys b_0_oldXs b_0_oldYs b_0_oldLabels b_0_names b_0_oldNames b_0_wanted b_0_common b_0_isPoint b_0_pieceLines b_0_pieceBegins b_0_pieceEnds b_0_pieceLeft b_0_pieceRight b_0_outs b_0_isSeen b_0_ringSpaces b_0_ringStarts b_0_ringSizes b_0_ringLeast b_0_looseLines b_0_looseXs b_0_looseYs b_0_looseReaches b_0_far cI v_0_code v_0_lines v_0_isFresh v_0_hasRun v_0_runs v_0_nx v_0_ny v_0_spaces v_0_oldNx v_0_oldNy v_0_oldSpaces v_0_points v_0_pieces v_0_rings v_0_outsideSides v_0_looseCount f2 f_0_flatEdges f_0_upEdges f_0_stack) H → va_D A (wl_Mo_findSpaces a_0 a_0_labels a_0_flatEdges a_0_upEdges a_0_stack b_0_isFlat b_0_across b_0_lows b_0_highs b_0_thick b_0_doorCounts b_0_doorFrom b_0_doorTo b_0_xs b_0_ys b_0_oldXs b_0_oldYs b_0_oldLabels b_0_names b_0_oldNames b_0_wanted b_0_common b_0_isPoint b_0_pieceLines b_0_pieceBegins b_0_pieceEnds b_0_pieceLeft b_0_pieceRight b_0_outs b_0_isSeen b_0_ringSpaces b_0_ringStarts b_0_ringSizes b_0_ringLeast b_0_looseLines b_0_looseXs b_0_looseYs b_0_looseReaches b_0_far cI v_0_code v_0_lines v_0_isFresh v_0_hasRun v_0_runs v_0_nx v_0_ny v_0_spaces v_0_oldNx v_0_oldNy v_0_oldSpaces v_0_points v_0_pieces v_0_rings v_0_outsideSides v_0_looseCount f2 f_0_flatEdges f_0_upEdges f_0_stack) → va_S A s.heap H locs → lv_has ls 3 [(0, .ref a_0), (1, .int x1)] → W p l e rm_Mo_findSpaces s m args below meth c H locs 0 0 Q (F0 m 2 ls []) := by
    intro n
    induction n with
    | zero => intro x1 f2 f3 hm; simp [m_Mo_findSpaces_L2] at hm
    | succ n ih =>
      intro x1 f2 f3 hm KE H locs ls hP hD hS hl
      rw [m_Mo_findSpaces_L2] at hm
      refine lv_iload_n hx hb d_Mo_findSpaces_2 rfl (lv_at hl 1 rfl) ?_
      refine lv_sipush (v := 1764) hx hb d_Mo_findSpaces_3 (by decide) ?_
      refine lv_icmp_ge (tgt := 23) hx hb d_Mo_findSpaces_6 (by decide) (fun c5 => ?_) (fun c5 => ?_)
      · replace hm := if_t hm c5
        cases hm
        exact KE H locs ls hP hD hS (lv_sub hl [0] rfl)
      · replace hm := if_f hm c5
        refine lv_aload_n hx hb d_Mo_findSpaces_9 rfl (lv_at hl 0 rfl) ?_
        refine va_get (D := (dC, dI)) (ci := 11) (v := .ref a_0_labels) (C := "SpaceCyclesModel") (T := F_Mo) (N := 54) hx hb hts (in_F i_Mo) hown hK hP 0 rfl rfl 17 (by decide) (hts _ (in_c k_319)) (fun _ h9 => h9) rfl d_Mo_findSpaces_10 ?_
        refine lv_iload_n hx hb d_Mo_findSpaces_13 rfl (lv_at hl 1 rfl) ?_
        refine lv_bipush (v := (-3)) hx hb d_Mo_findSpaces_14 (by decide) ?_
        obtain ⟨hi6, hm⟩ := gI_e hm
        obtain ⟨f7, ef7⟩ : ∃ y : Nat → Int32, y = upd f2 x1.toNatClampNeg (-3) := ⟨_, rfl⟩
        replace hm := lt_el hm ef7
        refine va_iast hx hb hK hP hD hS 1 0 rfl rfl hi6 d_Mo_findSpaces_16 (fun H locs hP hD hS => ?_)
        rw [← ef7] at hP hD
        have hP : va_P (dC, dI) vwCl (wl_Mo_findSpaces a_0 a_0_labels a_0_flatEdges a_0_upEdges a_0_stack b_0_isFlat b_0_across b_0_lows b_0_highs b_0_thick b_0_doorCounts b_0_doorFrom b_0_doorTo b_0_xs b_0_ys b_0_oldXs b_0_oldYs b_0_oldLabels b_0_names b_0_oldNames b_0_wanted b_0_common b_0_isPoint b_0_pieceLines b_0_pieceBegins b_0_pieceEnds b_0_pieceLeft b_0_pieceRight b_0_outs b_0_isSeen b_0_ringSpaces b_0_ringStarts b_0_ringSizes b_0_ringLeast b_0_looseLines b_0_looseXs b_0_looseYs b_0_looseReaches b_0_far cI v_0_code v_0_lines v_0_isFresh v_0_hasRun v_0_runs v_0_nx v_0_ny v_0_spaces v_0_oldNx v_0_oldNy v_0_oldSpaces v_0_points v_0_pieces v_0_rings v_0_outsideSides v_0_looseCount f7 f_0_flatEdges f_0_upEdges f_0_stack) H := hP
        have hD : va_D A (wl_Mo_findSpaces a_0 a_0_labels a_0_flatEdges a_0_upEdges a_0_stack b_0_isFlat b_0_across b_0_lows b_0_highs b_0_thick b_0_doorCounts b_0_doorFrom b_0_doorTo b_0_xs b_0_ys b_0_oldXs b_0_oldYs b_0_oldLabels b_0_names b_0_oldNames b_0_wanted b_0_common b_0_isPoint b_0_pieceLines b_0_pieceBegins b_0_pieceEnds b_0_pieceLeft b_0_pieceRight b_0_outs b_0_isSeen b_0_ringSpaces b_0_ringStarts b_0_ringSizes b_0_ringLeast b_0_looseLines b_0_looseXs b_0_looseYs b_0_looseReaches b_0_far cI v_0_code v_0_lines v_0_isFresh v_0_hasRun v_0_runs v_0_nx v_0_ny v_0_spaces v_0_oldNx v_0_oldNy v_0_oldSpaces v_0_points v_0_pieces v_0_rings v_0_outsideSides v_0_looseCount f7 f_0_flatEdges f_0_upEdges f_0_stack) := hD
        obtain ⟨x8, ex8⟩ : ∃ y : Int32, y = x1 + 1 := ⟨_, rfl⟩
        replace hm := lt_el hm ex8
        refine lv_iinc (v := x8) (lv' := [(1, .int x8), (0, .ref a_0)]) hx hb d_Mo_findSpaces_17 hl (k := 1) rfl (by rw [ex8]; rfl) (by decide) rfl (fun ls hl => ?_)
        refine lv_goto (tgt := 2) hx hb d_Mo_findSpaces_20 (by decide) ?_
        exact ih _ _ _ hm KE H locs ls hP hD hS (lv_sub hl [1, 0] rfl)
  obtain ⟨f3, hb9, hm⟩ := bd1_e hm
  refine L2_4 fu _ _ _ hb9 (fun H locs ls hP hD hS hl => ?_) H locs ls hP hD hS (lv_sub hl [1, 0] rfl)
  refine lv_aload_n hx hb d_Mo_findSpaces_23 rfl (lv_at hl 0 rfl) ?_
  refine lv_iconst (v := 0) hx hb d_Mo_findSpaces_24 (by decide) ?_
  refine lv_iconst (v := (-1)) hx hb d_Mo_findSpaces_25 (by decide) ?_
  obtain ⟨f10, f11, hb12, hm⟩ := bd2_e hm
  have hPc := hP.sub (ws' := (wl_Mo_fill a_0 a_0_labels a_0_flatEdges a_0_upEdges a_0_stack b_0_isFlat b_0_across b_0_lows b_0_highs b_0_thick b_0_doorCounts b_0_doorFrom b_0_doorTo b_0_xs b_0_ys b_0_oldXs b_0_oldYs b_0_oldLabels b_0_names b_0_oldNames b_0_wanted b_0_common b_0_isPoint b_0_pieceLines b_0_pieceBegins b_0_pieceEnds b_0_pieceLeft b_0_pieceRight b_0_outs b_0_isSeen b_0_ringSpaces b_0_ringStarts b_0_ringSizes b_0_ringLeast b_0_looseLines b_0_looseXs b_0_looseYs b_0_looseReaches b_0_far cI v_0_code v_0_lines v_0_isFresh v_0_hasRun v_0_runs v_0_nx v_0_ny v_0_spaces v_0_oldNx v_0_oldNy v_0_oldSpaces v_0_points v_0_pieces v_0_rings v_0_outsideSides v_0_looseCount f3 f_0_flatEdges f_0_upEdges f_0_stack)) [0, 1, 2, 3, 4] rfl
  have hDc := hD.sub (ws' := (wl_Mo_fill a_0 a_0_labels a_0_flatEdges a_0_upEdges a_0_stack b_0_isFlat b_0_across b_0_lows b_0_highs b_0_thick b_0_doorCounts b_0_doorFrom b_0_doorTo b_0_xs b_0_ys b_0_oldXs b_0_oldYs b_0_oldLabels b_0_names b_0_oldNames b_0_wanted b_0_common b_0_isPoint b_0_pieceLines b_0_pieceBegins b_0_pieceEnds b_0_pieceLeft b_0_pieceRight b_0_outs b_0_isSeen b_0_ringSpaces b_0_ringStarts b_0_ringSizes b_0_ringLeast b_0_looseLines b_0_looseXs b_0_looseYs b_0_looseReaches b_0_far cI v_0_code v_0_lines v_0_isFresh v_0_hasRun v_0_runs v_0_nx v_0_ny v_0_spaces v_0_oldNx v_0_oldNy v_0_oldSpaces v_0_points v_0_pieces v_0_rings v_0_outsideSides v_0_looseCount f3 f_0_flatEdges f_0_upEdges f_0_stack)) [0, 1, 2, 3, 4] (by decide) rfl
  refine cl_v (wc' := (wl_Mo_fill a_0 a_0_labels a_0_flatEdges a_0_upEdges a_0_stack b_0_isFlat b_0_across b_0_lows b_0_highs b_0_thick b_0_doorCounts b_0_doorFrom b_0_doorTo b_0_xs b_0_ys b_0_oldXs b_0_oldYs b_0_oldLabels b_0_names b_0_oldNames b_0_wanted b_0_common b_0_isPoint b_0_pieceLines b_0_pieceBegins b_0_pieceEnds b_0_pieceLeft b_0_pieceRight b_0_outs b_0_isSeen b_0_ringSpaces b_0_ringStarts b_0_ringSizes b_0_ringLeast b_0_looseLines b_0_looseXs b_0_looseYs b_0_looseReaches b_0_far cI v_0_code v_0_lines v_0_isFresh v_0_hasRun v_0_runs v_0_nx v_0_ny v_0_spaces v_0_oldNx v_0_oldNy v_0_oldSpaces v_0_points v_0_pieces v_0_rings v_0_outsideSides v_0_looseCount f10 f_0_flatEdges f_0_upEdges f11)) (va_runV (As := [.int 0, .int (-1)]) (rest := []) ⟨hx, hb, hml, hown, hts⟩ (c_Mo_fill l dC dI (cI := cI) (cZ := cZ) (cJ := cJ) a_0 a_0_labels a_0_flatEdges a_0_upEdges a_0_stack b_0_isFlat b_0_across b_0_lows b_0_highs b_0_thick b_0_doorCounts b_0_doorFrom b_0_doorTo b_0_xs b_0_ys b_0_oldXs b_0_oldYs b_0_oldLabels b_0_names b_0_oldNames b_0_wanted b_0_common b_0_isPoint b_0_pieceLines b_0_pieceBegins b_0_pieceEnds b_0_pieceLeft b_0_pieceRight b_0_outs b_0_isSeen b_0_ringSpaces b_0_ringStarts b_0_ringSizes b_0_ringLeast b_0_looseLines b_0_looseXs b_0_looseYs b_0_looseReaches b_0_far H.size v_0_code v_0_lines v_0_isFresh v_0_hasRun v_0_runs v_0_nx v_0_ny v_0_spaces v_0_oldNx v_0_oldNy v_0_oldSpaces v_0_points v_0_pieces v_0_rings v_0_outsideSides v_0_looseCount f3 f_0_flatEdges f_0_upEdges f_0_stack 0 (-1) f10 f11 hb12) (cwV 2 hts (gl_V k_327 k_326 k_325 k_277 k_324) rfl rfl rfl (by decide +kernel) ⟨Nat.le_of_ble_eq_true rfl, Nat.le_of_ble_eq_true rfl⟩) ⟨PP_blind, va_recv hK hPc (ci := 11) (q0 := 0) rfl rfl, fun U hU hW => PP_at hK hN hPc hDc hU hW⟩ rfl rfl hl.1 rfl (lv_room (Nat.le_of_ble_eq_true rfl)) d_Mo_findSpaces_26 ⟨Nat.zero_le _, Nat.zero_le _⟩) hP hD hS hA [0, 1, 2, 3, 4] [] rfl rfl (by decide) (by decide) (fun H locs hP hD hS => ?_)
  have hP : va_P (dC, dI) vwCl (wl_Mo_findSpaces a_0 a_0_labels a_0_flatEdges a_0_upEdges a_0_stack b_0_isFlat b_0_across b_0_lows b_0_highs b_0_thick b_0_doorCounts b_0_doorFrom b_0_doorTo b_0_xs b_0_ys b_0_oldXs b_0_oldYs b_0_oldLabels b_0_names b_0_oldNames b_0_wanted b_0_common b_0_isPoint b_0_pieceLines b_0_pieceBegins b_0_pieceEnds b_0_pieceLeft b_0_pieceRight b_0_outs b_0_isSeen b_0_ringSpaces b_0_ringStarts b_0_ringSizes b_0_ringLeast b_0_looseLines b_0_looseXs b_0_looseYs b_0_looseReaches b_0_far cI v_0_code v_0_lines v_0_isFresh v_0_hasRun v_0_runs v_0_nx v_0_ny v_0_spaces v_0_oldNx v_0_oldNy v_0_oldSpaces v_0_points v_0_pieces v_0_rings v_0_outsideSides v_0_looseCount f10 f_0_flatEdges f_0_upEdges f11) H := hP.sub [0, 1, 2, 3, 4] rfl
  have hD : va_D A (wl_Mo_findSpaces a_0 a_0_labels a_0_flatEdges a_0_upEdges a_0_stack b_0_isFlat b_0_across b_0_lows b_0_highs b_0_thick b_0_doorCounts b_0_doorFrom b_0_doorTo b_0_xs b_0_ys b_0_oldXs b_0_oldYs b_0_oldLabels b_0_names b_0_oldNames b_0_wanted b_0_common b_0_isPoint b_0_pieceLines b_0_pieceBegins b_0_pieceEnds b_0_pieceLeft b_0_pieceRight b_0_outs b_0_isSeen b_0_ringSpaces b_0_ringStarts b_0_ringSizes b_0_ringLeast b_0_looseLines b_0_looseXs b_0_looseYs b_0_looseReaches b_0_far cI v_0_code v_0_lines v_0_isFresh v_0_hasRun v_0_runs v_0_nx v_0_ny v_0_spaces v_0_oldNx v_0_oldNy v_0_oldSpaces v_0_points v_0_pieces v_0_rings v_0_outsideSides v_0_looseCount f10 f_0_flatEdges f_0_upEdges f11) := hD.sub [0, 1, 2, 3, 4] (by decide) rfl
  refine lv_aload_n hx hb d_Mo_findSpaces_29 rfl (lv_at hl 0 rfl) ?_
  refine lv_iconst (v := 0) hx hb d_Mo_findSpaces_30 (by decide) ?_
  refine va_put (D := (dC, dI)) (ci := 11) (v := .int 0) (ty := .int) (C := "SpaceCyclesModel") (T := F_Mo) (N := 54) hx hb hts (in_F i_Mo) t_Mo t_Mo_ok n_Mo hown hK hP hD hS 0 rfl rfl 18 (by decide) (hts _ (in_c k_328)) (fun _ h9 => h9) rfl (by decide +kernel) rfl rfl (Nat.le_of_ble_eq_true rfl) d_Mo_findSpaces_31 (fun H locs hP hD hS => ?_)
  have hP : va_P (dC, dI) vwCl (wl_Mo_findSpaces a_0 a_0_labels a_0_flatEdges a_0_upEdges a_0_stack b_0_isFlat b_0_across b_0_lows b_0_highs b_0_thick b_0_doorCounts b_0_doorFrom b_0_doorTo b_0_xs b_0_ys b_0_oldXs b_0_oldYs b_0_oldLabels b_0_names b_0_oldNames b_0_wanted b_0_common b_0_isPoint b_0_pieceLines b_0_pieceBegins b_0_pieceEnds b_0_pieceLeft b_0_pieceRight b_0_outs b_0_isSeen b_0_ringSpaces b_0_ringStarts b_0_ringSizes b_0_ringLeast b_0_looseLines b_0_looseXs b_0_looseYs b_0_looseReaches b_0_far cI v_0_code v_0_lines v_0_isFresh v_0_hasRun v_0_runs v_0_nx v_0_ny 0 v_0_oldNx v_0_oldNy v_0_oldSpaces v_0_points v_0_pieces v_0_rings v_0_outsideSides v_0_looseCount f10 f_0_flatEdges f_0_upEdges f11) H := hP
  have hD : va_D A (wl_Mo_findSpaces a_0 a_0_labels a_0_flatEdges a_0_upEdges a_0_stack b_0_isFlat b_0_across b_0_lows b_0_highs b_0_thick b_0_doorCounts b_0_doorFrom b_0_doorTo b_0_xs b_0_ys b_0_oldXs b_0_oldYs b_0_oldLabels b_0_names b_0_oldNames b_0_wanted b_0_common b_0_isPoint b_0_pieceLines b_0_pieceBegins b_0_pieceEnds b_0_pieceLeft b_0_pieceRight b_0_outs b_0_isSeen b_0_ringSpaces b_0_ringStarts b_0_ringSizes b_0_ringLeast b_0_looseLines b_0_looseXs b_0_looseYs b_0_looseReaches b_0_far cI v_0_code v_0_lines v_0_isFresh v_0_hasRun v_0_runs v_0_nx v_0_ny 0 v_0_oldNx v_0_oldNy v_0_oldSpaces v_0_points v_0_pieces v_0_rings v_0_outsideSides v_0_looseCount f10 f_0_flatEdges f_0_upEdges f11) := hD
  refine lv_iconst (v := 0) hx hb d_Mo_findSpaces_34 (by decide) ?_
  refine lv_istore_n (lv' := [(1, .int 0), (0, .ref a_0)]) hx hb d_Mo_findSpaces_35 rfl hl (by decide) rfl (fun ls hl => ?_)
  have L36_20 : ∀ (n : Nat) (x13 : Int32) (x14 : Int32) (f15 : Nat → Int32) (f16 : Nat → Int32) (x17 : Int32) (f18 : Nat → Int32) (f19 : Nat → Int32), m_Mo_findSpaces_L36 v_0_nx v_0_ny f_0_flatEdges f_0_upEdges n x13 x14 f15 f16 = some (x17, f18, f19) → (∀ (H : Heap) (locs : List Loc) (ls : Array Slot), va_P (dC, dI) vwCl (wl_Mo_findSpaces a_0 a_0_labels a_0_flatEdges a_0_upEdges a_0_stack b_0_isFlat b_0_across b_0_lows b_0_highs b_0_thick b_0_doorCounts b_0_doorFrom b_0_doorTo b_0_xs b_0_ys b_0_oldXs b_0_oldYs b_0_oldLabels b_0_names b_0_oldNames b_0_wanted b_0_common b_0_isPoint b_0_pieceLines b_0_pieceBegins b_0_pieceEnds b_0_pieceLeft b_0_pieceRight b_0_outs b_0_isSeen b_0_ringSpaces b_0_ringStarts b_0_ringSizes b_0_ringLeast b_0_looseLines b_0_looseXs b_0_looseYs b_0_looseReaches b_0_far cI v_0_code v_0_lines v_0_isFresh v_0_hasRun v_0_runs v_0_nx v_0_ny x17 v_0_oldNx v_0_oldNy v_0_oldSpaces v_0_points v_0_pieces v_0_rings v_0_outsideSides v_0_looseCount f18 f_0_flatEdges f_0_upEdges f19) H → va_D A (wl_Mo_findSpaces a_0 a_0_labels a_0_flatEdges a_0_upEdges a_0_stack b_0_isFlat b_0_across b_0_lows b_0_highs b_0_thick b_0_doorCounts b_0_doorFrom b_0_doorTo b_0_xs b_0_ys b_0_oldXs b_0_oldYs b_0_oldLabels b_0_names b_0_oldNames b_0_wanted b_0_common b_0_isPoint b_0_pieceLines b_0_pieceBegins b_0_pieceEnds b_0_pieceLeft b_0_pieceRight b_0_outs b_0_isSeen b_0_ringSpaces b_0_ringStarts b_0_ringSizes b_0_ringLeast b_0_looseLines b_0_looseXs b_0_looseYs b_0_looseReaches b_0_far cI v_0_code v_0_lines v_0_isFresh v_0_hasRun v_0_runs v_0_nx v_0_ny x17 v_0_oldNx v_0_oldNy v_0_oldSpaces v_0_points v_0_pieces v_0_rings v_0_outsideSides v_0_looseCount f18 f_0_flatEdges f_0_upEdges f19) → va_S A s.heap H locs → lv_has ls 3 [] → W p l e rm_Mo_findSpaces s m args below meth c H locs 0 0 Q (F0 m 106 ls [])) → ∀ (H : Heap) (locs : List Loc) (ls : Array Slot), va_P (dC, dI) vwCl (wl_Mo_findSpaces a_0 a_0_labels a_0_flatEdges a_0_upEdges a_0_stack b_0_isFlat b_0_across b_0_lows b_0_highs b_0_thick b_0_doorCounts b_0_doorFrom b_0_doorTo b_0_xs b_0_ys b_0_oldXs b_0_oldYs b_0_oldLabels b_0_names b_0_oldNames b_0_wanted b_0_common b_0_isPoint b_0_pieceLines b_0_pieceBegins b_0_pieceEnds b_0_pieceLeft b_0_pieceRight b_0_outs b_0_isSeen b_0_ringSpaces b_0_ringStarts b_0_ringSizes b_0_ringLeast b_0_looseLines b_0_looseXs b_0_looseYs b_0_looseReaches b_0_far cI v_0_code v_0_lines v_0_isFresh v_0_hasRun v_0_runs v_0_nx v_0_ny x14 v_0_oldNx v_0_oldNy v_0_oldSpaces v_0_points v_0_pieces v_0_rings v_0_outsideSides v_0_looseCount f15 f_0_flatEdges f_0_upEdges f16) H → va_D A (wl_Mo_findSpaces a_0 a_0_labels a_0_flatEdges a_0_upEdges a_0_stack b_0_isFlat b_0_across b_0_lows b_0_highs b_0_thick b_0_doorCounts b_0_doorFrom b_0_doorTo b_0_xs b_0_ys b_0_oldXs b_0_oldYs b_0_oldLabels b_0_names b_0_oldNames b_0_wanted b_0_common b_0_isPoint b_0_pieceLines b_0_pieceBegins b_0_pieceEnds b_0_pieceLeft b_0_pieceRight b_0_outs b_0_isSeen b_0_ringSpaces b_0_ringStarts b_0_ringSizes b_0_ringLeast b_0_looseLines b_0_looseXs b_0_looseYs b_0_looseReaches b_0_far cI v_0_code v_0_lines v_0_isFresh v_0_hasRun v_0_runs v_0_nx v_0_ny x14 v_0_oldNx v_0_oldNy v_0_oldSpaces v_0_points v_0_pieces v_0_rings v_0_outsideSides v_0_looseCount f15 f_0_flatEdges f_0_upEdges f16) → va_S A s.heap H locs → lv_has ls 3 [(0, .ref a_0), (1, .int x13)] → W p l e rm_Mo_findSpaces s m args below meth c H locs 0 0 Q (F0 m 36 ls []) := by
    intro n
    induction n with
    | zero => intro x13 x14 f15 f16 x17 f18 f19 hm; simp [m_Mo_findSpaces_L36] at hm
    | succ n ih =>
      intro x13 x14 f15 f16 x17 f18 f19 hm KE H locs ls hP hD hS hl
      rw [m_Mo_findSpaces_L36] at hm
      refine lv_iload_n hx hb d_Mo_findSpaces_36 rfl (lv_at hl 1 rfl) ?_
      refine lv_aload_n hx hb d_Mo_findSpaces_37 rfl (lv_at hl 0 rfl) ?_
      refine va_get (D := (dC, dI)) (ci := 11) (v := .int v_0_nx) (C := "SpaceCyclesModel") (T := F_Mo) (N := 54) hx hb hts (in_F i_Mo) hown hK hP 0 rfl rfl 15 (by decide) (hts _ (in_c k_300)) (fun _ h9 => h9) rfl d_Mo_findSpaces_38 ?_
      refine lv_icmp_gt (tgt := 106) hx hb d_Mo_findSpaces_41 (by decide) (fun c21 => ?_) (fun c21 => ?_)
      · replace hm := if_t hm c21
        cases hm
        exact KE H locs ls hP hD hS (lv_sub hl [] rfl)
      · replace hm := if_f hm c21
        refine lv_iconst (v := 0) hx hb d_Mo_findSpaces_44 (by decide) ?_
        refine lv_istore_n (lv' := [(2, .int 0), (0, .ref a_0), (1, .int x13)]) hx hb d_Mo_findSpaces_45 rfl hl (by decide) rfl (fun ls hl => ?_)
        have L46_29 : ∀ (n : Nat) (x22 : Int32) (x23 : Int32) (f24 : Nat → Int32) (f25 : Nat → Int32) (x26 : Int32) (f27 : Nat → Int32) (f28 : Nat → Int32), m_Mo_findSpaces_L46 x13 v_0_nx v_0_ny f_0_flatEdges f_0_upEdges n x22 x23 f24 f25 = some (x26, f27, f28) → (∀ (H : Heap) (locs : List Loc) (ls : Array Slot), va_P (dC, dI) vwCl (wl_Mo_findSpaces a_0 a_0_labels a_0_flatEdges a_0_upEdges a_0_stack b_0_isFlat b_0_across b_0_lows b_0_highs b_0_thick b_0_doorCounts b_0_doorFrom b_0_doorTo b_0_xs b_0_ys b_0_oldXs b_0_oldYs b_0_oldLabels b_0_names b_0_oldNames b_0_wanted b_0_common b_0_isPoint b_0_pieceLines b_0_pieceBegins b_0_pieceEnds b_0_pieceLeft b_0_pieceRight b_0_outs b_0_isSeen b_0_ringSpaces b_0_ringStarts b_0_ringSizes b_0_ringLeast b_0_looseLines b_0_looseXs b_0_looseYs b_0_looseReaches b_0_far cI v_0_code v_0_lines v_0_isFresh v_0_hasRun v_0_runs v_0_nx v_0_ny x26 v_0_oldNx v_0_oldNy v_0_oldSpaces v_0_points v_0_pieces v_0_rings v_0_outsideSides v_0_looseCount f27 f_0_flatEdges f_0_upEdges f28) H → va_D A (wl_Mo_findSpaces a_0 a_0_labels a_0_flatEdges a_0_upEdges a_0_stack b_0_isFlat b_0_across b_0_lows b_0_highs b_0_thick b_0_doorCounts b_0_doorFrom b_0_doorTo b_0_xs b_0_ys b_0_oldXs b_0_oldYs b_0_oldLabels b_0_names b_0_oldNames b_0_wanted b_0_common b_0_isPoint b_0_pieceLines b_0_pieceBegins b_0_pieceEnds b_0_pieceLeft b_0_pieceRight b_0_outs b_0_isSeen b_0_ringSpaces b_0_ringStarts b_0_ringSizes b_0_ringLeast b_0_looseLines b_0_looseXs b_0_looseYs b_0_looseReaches b_0_far cI v_0_code v_0_lines v_0_isFresh v_0_hasRun v_0_runs v_0_nx v_0_ny x26 v_0_oldNx v_0_oldNy v_0_oldSpaces v_0_points v_0_pieces v_0_rings v_0_outsideSides v_0_looseCount f27 f_0_flatEdges f_0_upEdges f28) → va_S A s.heap H locs → lv_has ls 3 [(0, .ref a_0), (1, .int x13)] → W p l e rm_Mo_findSpaces s m args below meth c H locs 0 0 Q (F0 m 100 ls [])) → ∀ (H : Heap) (locs : List Loc) (ls : Array Slot), va_P (dC, dI) vwCl (wl_Mo_findSpaces a_0 a_0_labels a_0_flatEdges a_0_upEdges a_0_stack b_0_isFlat b_0_across b_0_lows b_0_highs b_0_thick b_0_doorCounts b_0_doorFrom b_0_doorTo b_0_xs b_0_ys b_0_oldXs b_0_oldYs b_0_oldLabels b_0_names b_0_oldNames b_0_wanted b_0_common b_0_isPoint b_0_pieceLines b_0_pieceBegins b_0_pieceEnds b_0_pieceLeft b_0_pieceRight b_0_outs b_0_isSeen b_0_ringSpaces b_0_ringStarts b_0_ringSizes b_0_ringLeast b_0_looseLines b_0_looseXs b_0_looseYs b_0_looseReaches b_0_far cI v_0_code v_0_lines v_0_isFresh v_0_hasRun v_0_runs v_0_nx v_0_ny x23 v_0_oldNx v_0_oldNy v_0_oldSpaces v_0_points v_0_pieces v_0_rings v_0_outsideSides v_0_looseCount f24 f_0_flatEdges f_0_upEdges f25) H → va_D A (wl_Mo_findSpaces a_0 a_0_labels a_0_flatEdges a_0_upEdges a_0_stack b_0_isFlat b_0_across b_0_lows b_0_highs b_0_thick b_0_doorCounts b_0_doorFrom b_0_doorTo b_0_xs b_0_ys b_0_oldXs b_0_oldYs b_0_oldLabels b_0_names b_0_oldNames b_0_wanted b_0_common b_0_isPoint b_0_pieceLines b_0_pieceBegins b_0_pieceEnds b_0_pieceLeft b_0_pieceRight b_0_outs b_0_isSeen b_0_ringSpaces b_0_ringStarts b_0_ringSizes b_0_ringLeast b_0_looseLines b_0_looseXs b_0_looseYs b_0_looseReaches b_0_far cI v_0_code v_0_lines v_0_isFresh v_0_hasRun v_0_runs v_0_nx v_0_ny x23 v_0_oldNx v_0_oldNy v_0_oldSpaces v_0_points v_0_pieces v_0_rings v_0_outsideSides v_0_looseCount f24 f_0_flatEdges f_0_upEdges f25) → va_S A s.heap H locs → lv_has ls 3 [(0, .ref a_0), (1, .int x13), (2, .int x22)] → W p l e rm_Mo_findSpaces s m args below meth c H locs 0 0 Q (F0 m 46 ls []) := by
          intro n
          induction n with
          | zero => intro x22 x23 f24 f25 x26 f27 f28 hm; simp [m_Mo_findSpaces_L46] at hm
          | succ n ih =>
            intro x22 x23 f24 f25 x26 f27 f28 hm KE H locs ls hP hD hS hl
            rw [m_Mo_findSpaces_L46] at hm
            refine lv_iload_n hx hb d_Mo_findSpaces_46 rfl (lv_at hl 2 rfl) ?_
            refine lv_aload_n hx hb d_Mo_findSpaces_47 rfl (lv_at hl 0 rfl) ?_
            refine va_get (D := (dC, dI)) (ci := 11) (v := .int v_0_ny) (C := "SpaceCyclesModel") (T := F_Mo) (N := 54) hx hb hts (in_F i_Mo) hown hK hP 0 rfl rfl 16 (by decide) (hts _ (in_c k_301)) (fun _ h9 => h9) rfl d_Mo_findSpaces_48 ?_
            refine lv_icmp_gt (tgt := 100) hx hb d_Mo_findSpaces_51 (by decide) (fun c30 => ?_) (fun c30 => ?_)
            · replace hm := if_t hm c30
              cases hm
              exact KE H locs ls hP hD hS (lv_sub hl [0, 1] rfl)
            · replace hm := if_f hm c30
              refine lv_aload_n hx hb d_Mo_findSpaces_54 rfl (lv_at hl 0 rfl) ?_
              refine va_get (D := (dC, dI)) (ci := 11) (v := .ref a_0_labels) (C := "SpaceCyclesModel") (T := F_Mo) (N := 54) hx hb hts (in_F i_Mo) hown hK hP 0 rfl rfl 17 (by decide) (hts _ (in_c k_319)) (fun _ h9 => h9) rfl d_Mo_findSpaces_55 ?_
              refine lv_bipush (v := 42) hx hb d_Mo_findSpaces_58 (by decide) ?_
              refine lv_iload_n hx hb d_Mo_findSpaces_60 rfl (lv_at hl 1 rfl) ?_
              refine lv_imul hx hb d_Mo_findSpaces_61 ?_
              refine lv_iload_n hx hb d_Mo_findSpaces_62 rfl (lv_at hl 2 rfl) ?_
              refine lv_iadd hx hb d_Mo_findSpaces_63 ?_
              obtain ⟨hi31, hm⟩ := gI_e hm
              refine va_iald hx hb hK hP 1 0 rfl rfl hi31 d_Mo_findSpaces_64 ?_
              refine lv_bipush (v := (-3)) hx hb d_Mo_findSpaces_65 (by decide) ?_
              obtain ⟨x35, f36, f37, hb33, hm⟩ := bd3_e hm
              have K32 : ∀ (H : Heap) (locs : List Loc) (ls : Array Slot), va_P (dC, dI) vwCl (wl_Mo_findSpaces a_0 a_0_labels a_0_flatEdges a_0_upEdges a_0_stack b_0_isFlat b_0_across b_0_lows b_0_highs b_0_thick b_0_doorCounts b_0_doorFrom b_0_doorTo b_0_xs b_0_ys b_0_oldXs b_0_oldYs b_0_oldLabels b_0_names b_0_oldNames b_0_wanted b_0_common b_0_isPoint b_0_pieceLines b_0_pieceBegins b_0_pieceEnds b_0_pieceLeft b_0_pieceRight b_0_outs b_0_isSeen b_0_ringSpaces b_0_ringStarts b_0_ringSizes b_0_ringLeast b_0_looseLines b_0_looseXs b_0_looseYs b_0_looseReaches b_0_far cI v_0_code v_0_lines v_0_isFresh v_0_hasRun v_0_runs v_0_nx v_0_ny x35 v_0_oldNx v_0_oldNy v_0_oldSpaces v_0_points v_0_pieces v_0_rings v_0_outsideSides v_0_looseCount f36 f_0_flatEdges f_0_upEdges f37) H → va_D A (wl_Mo_findSpaces a_0 a_0_labels a_0_flatEdges a_0_upEdges a_0_stack b_0_isFlat b_0_across b_0_lows b_0_highs b_0_thick b_0_doorCounts b_0_doorFrom b_0_doorTo b_0_xs b_0_ys b_0_oldXs b_0_oldYs b_0_oldLabels b_0_names b_0_oldNames b_0_wanted b_0_common b_0_isPoint b_0_pieceLines b_0_pieceBegins b_0_pieceEnds b_0_pieceLeft b_0_pieceRight b_0_outs b_0_isSeen b_0_ringSpaces b_0_ringStarts b_0_ringSizes b_0_ringLeast b_0_looseLines b_0_looseXs b_0_looseYs b_0_looseReaches b_0_far cI v_0_code v_0_lines v_0_isFresh v_0_hasRun v_0_runs v_0_nx v_0_ny x35 v_0_oldNx v_0_oldNy v_0_oldSpaces v_0_points v_0_pieces v_0_rings v_0_outsideSides v_0_looseCount f36 f_0_flatEdges f_0_upEdges f37) → va_S A s.heap H locs → lv_has ls 3 [(0, .ref a_0), (1, .int x13), (2, .int x22)] → W p l e rm_Mo_findSpaces s m args below meth c H locs 0 0 Q (F0 m 94 ls []) := by
                intro H locs ls hP hD hS hl
                obtain ⟨x43, ex43⟩ : ∃ y : Int32, y = x22 + 1 := ⟨_, rfl⟩
                replace hm := lt_el hm ex43
                refine lv_iinc (v := x43) (lv' := [(2, .int x43), (0, .ref a_0), (1, .int x13)]) hx hb d_Mo_findSpaces_94 hl (k := 2) rfl (by rw [ex43]; rfl) (by decide) rfl (fun ls hl => ?_)
                refine lv_goto (tgt := 46) hx hb d_Mo_findSpaces_97 (by decide) ?_
                exact ih _ _ _ _ _ _ _ hm KE H locs ls hP hD hS (lv_sub hl [1, 2, 0] rfl)
              replace hm := hb33
              refine lv_icmp_ne (tgt := 94) hx hb d_Mo_findSpaces_67 (by decide) (fun c38 => ?_) (fun c38 => ?_)
              · replace hm := if_f hm c38
                cases hm
                exact K32 H locs ls hP hD hS (lv_sub hl [0, 1, 2] rfl)
              · replace hm := if_t hm c38
                refine lv_aload_n hx hb d_Mo_findSpaces_70 rfl (lv_at hl 0 rfl) ?_
                refine lv_bipush (v := 42) hx hb d_Mo_findSpaces_71 (by decide) ?_
                refine lv_iload_n hx hb d_Mo_findSpaces_73 rfl (lv_at hl 1 rfl) ?_
                refine lv_imul hx hb d_Mo_findSpaces_74 ?_
                refine lv_iload_n hx hb d_Mo_findSpaces_75 rfl (lv_at hl 2 rfl) ?_
                refine lv_iadd hx hb d_Mo_findSpaces_76 ?_
                refine lv_aload_n hx hb d_Mo_findSpaces_77 rfl (lv_at hl 0 rfl) ?_
                refine va_get (D := (dC, dI)) (ci := 11) (v := .int x23) (C := "SpaceCyclesModel") (T := F_Mo) (N := 54) hx hb hts (in_F i_Mo) hown hK hP 0 rfl rfl 18 (by decide) (hts _ (in_c k_328)) (fun _ h9 => h9) rfl d_Mo_findSpaces_78 ?_
                obtain ⟨f39, f40, hb41, hm⟩ := bd2_e hm
                have hPc := hP.sub (ws' := (wl_Mo_fill a_0 a_0_labels a_0_flatEdges a_0_upEdges a_0_stack b_0_isFlat b_0_across b_0_lows b_0_highs b_0_thick b_0_doorCounts b_0_doorFrom b_0_doorTo b_0_xs b_0_ys b_0_oldXs b_0_oldYs b_0_oldLabels b_0_names b_0_oldNames b_0_wanted b_0_common b_0_isPoint b_0_pieceLines b_0_pieceBegins b_0_pieceEnds b_0_pieceLeft b_0_pieceRight b_0_outs b_0_isSeen b_0_ringSpaces b_0_ringStarts b_0_ringSizes b_0_ringLeast b_0_looseLines b_0_looseXs b_0_looseYs b_0_looseReaches b_0_far cI v_0_code v_0_lines v_0_isFresh v_0_hasRun v_0_runs v_0_nx v_0_ny x23 v_0_oldNx v_0_oldNy v_0_oldSpaces v_0_points v_0_pieces v_0_rings v_0_outsideSides v_0_looseCount f24 f_0_flatEdges f_0_upEdges f25)) [0, 1, 2, 3, 4] rfl
                have hDc := hD.sub (ws' := (wl_Mo_fill a_0 a_0_labels a_0_flatEdges a_0_upEdges a_0_stack b_0_isFlat b_0_across b_0_lows b_0_highs b_0_thick b_0_doorCounts b_0_doorFrom b_0_doorTo b_0_xs b_0_ys b_0_oldXs b_0_oldYs b_0_oldLabels b_0_names b_0_oldNames b_0_wanted b_0_common b_0_isPoint b_0_pieceLines b_0_pieceBegins b_0_pieceEnds b_0_pieceLeft b_0_pieceRight b_0_outs b_0_isSeen b_0_ringSpaces b_0_ringStarts b_0_ringSizes b_0_ringLeast b_0_looseLines b_0_looseXs b_0_looseYs b_0_looseReaches b_0_far cI v_0_code v_0_lines v_0_isFresh v_0_hasRun v_0_runs v_0_nx v_0_ny x23 v_0_oldNx v_0_oldNy v_0_oldSpaces v_0_points v_0_pieces v_0_rings v_0_outsideSides v_0_looseCount f24 f_0_flatEdges f_0_upEdges f25)) [0, 1, 2, 3, 4] (by decide) rfl
                refine cl_v (wc' := (wl_Mo_fill a_0 a_0_labels a_0_flatEdges a_0_upEdges a_0_stack b_0_isFlat b_0_across b_0_lows b_0_highs b_0_thick b_0_doorCounts b_0_doorFrom b_0_doorTo b_0_xs b_0_ys b_0_oldXs b_0_oldYs b_0_oldLabels b_0_names b_0_oldNames b_0_wanted b_0_common b_0_isPoint b_0_pieceLines b_0_pieceBegins b_0_pieceEnds b_0_pieceLeft b_0_pieceRight b_0_outs b_0_isSeen b_0_ringSpaces b_0_ringStarts b_0_ringSizes b_0_ringLeast b_0_looseLines b_0_looseXs b_0_looseYs b_0_looseReaches b_0_far cI v_0_code v_0_lines v_0_isFresh v_0_hasRun v_0_runs v_0_nx v_0_ny x23 v_0_oldNx v_0_oldNy v_0_oldSpaces v_0_points v_0_pieces v_0_rings v_0_outsideSides v_0_looseCount f39 f_0_flatEdges f_0_upEdges f40)) (va_runV (As := [.int ((42 * x13) + x22), .int x23]) (rest := []) ⟨hx, hb, hml, hown, hts⟩ (c_Mo_fill l dC dI (cI := cI) (cZ := cZ) (cJ := cJ) a_0 a_0_labels a_0_flatEdges a_0_upEdges a_0_stack b_0_isFlat b_0_across b_0_lows b_0_highs b_0_thick b_0_doorCounts b_0_doorFrom b_0_doorTo b_0_xs b_0_ys b_0_oldXs b_0_oldYs b_0_oldLabels b_0_names b_0_oldNames b_0_wanted b_0_common b_0_isPoint b_0_pieceLines b_0_pieceBegins b_0_pieceEnds b_0_pieceLeft b_0_pieceRight b_0_outs b_0_isSeen b_0_ringSpaces b_0_ringStarts b_0_ringSizes b_0_ringLeast b_0_looseLines b_0_looseXs b_0_looseYs b_0_looseReaches b_0_far H.size v_0_code v_0_lines v_0_isFresh v_0_hasRun v_0_runs v_0_nx v_0_ny x23 v_0_oldNx v_0_oldNy v_0_oldSpaces v_0_points v_0_pieces v_0_rings v_0_outsideSides v_0_looseCount f24 f_0_flatEdges f_0_upEdges f25 ((42 * x13) + x22) x23 f39 f40 hb41) (cwV 2 hts (gl_V k_327 k_326 k_325 k_277 k_324) rfl rfl rfl (by decide +kernel) ⟨Nat.le_of_ble_eq_true rfl, Nat.le_of_ble_eq_true rfl⟩) ⟨PP_blind, va_recv hK hPc (ci := 11) (q0 := 0) rfl rfl, fun U hU hW => PP_at hK hN hPc hDc hU hW⟩ rfl rfl hl.1 rfl (lv_room (Nat.le_of_ble_eq_true rfl)) d_Mo_findSpaces_81 ⟨Nat.zero_le _, Nat.zero_le _⟩) hP hD hS hA [0, 1, 2, 3, 4] [] rfl rfl (by decide) (by decide) (fun H locs hP hD hS => ?_)
                have hP : va_P (dC, dI) vwCl (wl_Mo_findSpaces a_0 a_0_labels a_0_flatEdges a_0_upEdges a_0_stack b_0_isFlat b_0_across b_0_lows b_0_highs b_0_thick b_0_doorCounts b_0_doorFrom b_0_doorTo b_0_xs b_0_ys b_0_oldXs b_0_oldYs b_0_oldLabels b_0_names b_0_oldNames b_0_wanted b_0_common b_0_isPoint b_0_pieceLines b_0_pieceBegins b_0_pieceEnds b_0_pieceLeft b_0_pieceRight b_0_outs b_0_isSeen b_0_ringSpaces b_0_ringStarts b_0_ringSizes b_0_ringLeast b_0_looseLines b_0_looseXs b_0_looseYs b_0_looseReaches b_0_far cI v_0_code v_0_lines v_0_isFresh v_0_hasRun v_0_runs v_0_nx v_0_ny x23 v_0_oldNx v_0_oldNy v_0_oldSpaces v_0_points v_0_pieces v_0_rings v_0_outsideSides v_0_looseCount f39 f_0_flatEdges f_0_upEdges f40) H := hP.sub [0, 1, 2, 3, 4] rfl
                have hD : va_D A (wl_Mo_findSpaces a_0 a_0_labels a_0_flatEdges a_0_upEdges a_0_stack b_0_isFlat b_0_across b_0_lows b_0_highs b_0_thick b_0_doorCounts b_0_doorFrom b_0_doorTo b_0_xs b_0_ys b_0_oldXs b_0_oldYs b_0_oldLabels b_0_names b_0_oldNames b_0_wanted b_0_common b_0_isPoint b_0_pieceLines b_0_pieceBegins b_0_pieceEnds b_0_pieceLeft b_0_pieceRight b_0_outs b_0_isSeen b_0_ringSpaces b_0_ringStarts b_0_ringSizes b_0_ringLeast b_0_looseLines b_0_looseXs b_0_looseYs b_0_looseReaches b_0_far cI v_0_code v_0_lines v_0_isFresh v_0_hasRun v_0_runs v_0_nx v_0_ny x23 v_0_oldNx v_0_oldNy v_0_oldSpaces v_0_points v_0_pieces v_0_rings v_0_outsideSides v_0_looseCount f39 f_0_flatEdges f_0_upEdges f40) := hD.sub [0, 1, 2, 3, 4] (by decide) rfl
                refine lv_aload_n hx hb d_Mo_findSpaces_84 rfl (lv_at hl 0 rfl) ?_
                refine lv_dup hx hb d_Mo_findSpaces_85 rfl ?_
                refine va_get (D := (dC, dI)) (ci := 11) (v := .int x23) (C := "SpaceCyclesModel") (T := F_Mo) (N := 54) hx hb hts (in_F i_Mo) hown hK hP 0 rfl rfl 18 (by decide) (hts _ (in_c k_328)) (fun _ h9 => h9) rfl d_Mo_findSpaces_86 ?_
                refine lv_iconst (v := 1) hx hb d_Mo_findSpaces_89 (by decide) ?_
                refine lv_iadd hx hb d_Mo_findSpaces_90 ?_
                refine lv_topi (fun x42 ex42 => ?_)
                replace hm := lt_el hm ex42
                refine va_put (D := (dC, dI)) (ci := 11) (v := .int x42) (ty := .int) (C := "SpaceCyclesModel") (T := F_Mo) (N := 54) hx hb hts (in_F i_Mo) t_Mo t_Mo_ok n_Mo hown hK hP hD hS 0 rfl rfl 18 (by decide) (hts _ (in_c k_328)) (fun _ h9 => h9) rfl (by decide +kernel) rfl rfl (Nat.le_of_ble_eq_true rfl) d_Mo_findSpaces_91 (fun H locs hP hD hS => ?_)
                have hP : va_P (dC, dI) vwCl (wl_Mo_findSpaces a_0 a_0_labels a_0_flatEdges a_0_upEdges a_0_stack b_0_isFlat b_0_across b_0_lows b_0_highs b_0_thick b_0_doorCounts b_0_doorFrom b_0_doorTo b_0_xs b_0_ys b_0_oldXs b_0_oldYs b_0_oldLabels b_0_names b_0_oldNames b_0_wanted b_0_common b_0_isPoint b_0_pieceLines b_0_pieceBegins b_0_pieceEnds b_0_pieceLeft b_0_pieceRight b_0_outs b_0_isSeen b_0_ringSpaces b_0_ringStarts b_0_ringSizes b_0_ringLeast b_0_looseLines b_0_looseXs b_0_looseYs b_0_looseReaches b_0_far cI v_0_code v_0_lines v_0_isFresh v_0_hasRun v_0_runs v_0_nx v_0_ny x42 v_0_oldNx v_0_oldNy v_0_oldSpaces v_0_points v_0_pieces v_0_rings v_0_outsideSides v_0_looseCount f39 f_0_flatEdges f_0_upEdges f40) H := hP
                have hD : va_D A (wl_Mo_findSpaces a_0 a_0_labels a_0_flatEdges a_0_upEdges a_0_stack b_0_isFlat b_0_across b_0_lows b_0_highs b_0_thick b_0_doorCounts b_0_doorFrom b_0_doorTo b_0_xs b_0_ys b_0_oldXs b_0_oldYs b_0_oldLabels b_0_names b_0_oldNames b_0_wanted b_0_common b_0_isPoint b_0_pieceLines b_0_pieceBegins b_0_pieceEnds b_0_pieceLeft b_0_pieceRight b_0_outs b_0_isSeen b_0_ringSpaces b_0_ringStarts b_0_ringSizes b_0_ringLeast b_0_looseLines b_0_looseXs b_0_looseYs b_0_looseReaches b_0_far cI v_0_code v_0_lines v_0_isFresh v_0_hasRun v_0_runs v_0_nx v_0_ny x42 v_0_oldNx v_0_oldNy v_0_oldSpaces v_0_points v_0_pieces v_0_rings v_0_outsideSides v_0_looseCount f39 f_0_flatEdges f_0_upEdges f40) := hD
                cases hm
                exact K32 H locs ls hP hD hS (lv_sub hl [0, 1, 2] rfl)
        obtain ⟨x26, f27, f28, hb44, hm⟩ := bd3_e hm
        refine L46_29 fu _ _ _ _ _ _ _ hb44 (fun H locs ls hP hD hS hl => ?_) H locs ls hP hD hS (lv_sub hl [1, 2, 0] rfl)
        obtain ⟨x45, ex45⟩ : ∃ y : Int32, y = x13 + 1 := ⟨_, rfl⟩
        replace hm := lt_el hm ex45
        refine lv_iinc (v := x45) (lv' := [(1, .int x45), (0, .ref a_0)]) hx hb d_Mo_findSpaces_100 hl (k := 1) rfl (by rw [ex45]; rfl) (by decide) rfl (fun ls hl => ?_)
        refine lv_goto (tgt := 36) hx hb d_Mo_findSpaces_103 (by decide) ?_
        exact ih _ _ _ _ _ _ _ hm KE H locs ls hP hD hS (lv_sub hl [1, 0] rfl)
  obtain ⟨x17, f18, f19, hb46, hm⟩ := bd3_e hm
  refine L36_20 fu _ _ _ _ _ _ _ hb46 (fun H locs ls hP hD hS hl => ?_) H locs ls hP hD hS (lv_sub hl [1, 0] rfl)
  cases hm
  exact hret _ H locs ls d_Mo_findSpaces_106 hP hD hS
set_option maxHeartbeats 4000000 in
set_option maxRecDepth 100000 in
theorem c_Mo_findSpaces (l : Launch) (dC : Nat → ClassId) (dI : Nat → Nat → Nat) {cI cZ cJ : ClassId} (a_0 a_0_labels a_0_flatEdges a_0_upEdges a_0_stack b_0_isFlat b_0_across b_0_lows b_0_highs b_0_thick b_0_doorCounts b_0_doorFrom b_0_doorTo b_0_xs b_0_ys b_0_oldXs b_0_oldYs b_0_oldLabels b_0_names b_0_oldNames b_0_wanted b_0_common b_0_isPoint b_0_pieceLines b_0_pieceBegins b_0_pieceEnds b_0_pieceLeft b_0_pieceRight b_0_outs b_0_isSeen b_0_ringSpaces b_0_ringStarts b_0_ringSizes b_0_ringLeast b_0_looseLines b_0_looseXs b_0_looseYs b_0_looseReaches b_0_far : Nat) (sz : Nat) (v_0_code : Int32) (v_0_lines : Int32) (v_0_isFresh : Int32) (v_0_hasRun : Int32) (v_0_runs : Int32) (v_0_nx : Int32) (v_0_ny : Int32) (v_0_spaces : Int32) (v_0_oldNx : Int32) (v_0_oldNy : Int32) (v_0_oldSpaces : Int32) (v_0_points : Int32) (v_0_pieces : Int32) (v_0_rings : Int32) (v_0_outsideSides : Int32) (v_0_looseCount : Int32) (f_0_labels : Nat → Int32) (f_0_flatEdges : Nat → Int32) (f_0_upEdges : Nat → Int32) (f_0_stack : Nat → Int32)  (ov_0_spaces : Int32) (of_0_labels : Nat → Int32) (of_0_stack : Nat → Int32) (hm : m_Mo_findSpaces v_0_nx v_0_ny v_0_spaces f_0_labels f_0_flatEdges f_0_upEdges f_0_stack = some (ov_0_spaces, of_0_labels, of_0_stack)) : Met l y_Mo_findSpaces w_Mo_findSpaces rm_Mo_findSpaces (PP dC dI [(cI, .int), (cZ, .boolean), (cJ, .long)] [.ref a_0] sz (wl_Mo_findSpaces a_0 a_0_labels a_0_flatEdges a_0_upEdges a_0_stack b_0_isFlat b_0_across b_0_lows b_0_highs b_0_thick b_0_doorCounts b_0_doorFrom b_0_doorTo b_0_xs b_0_ys b_0_oldXs b_0_oldYs b_0_oldLabels b_0_names b_0_oldNames b_0_wanted b_0_common b_0_isPoint b_0_pieceLines b_0_pieceBegins b_0_pieceEnds b_0_pieceLeft b_0_pieceRight b_0_outs b_0_isSeen b_0_ringSpaces b_0_ringStarts b_0_ringSizes b_0_ringLeast b_0_looseLines b_0_looseXs b_0_looseYs b_0_looseReaches b_0_far cI v_0_code v_0_lines v_0_isFresh v_0_hasRun v_0_runs v_0_nx v_0_ny v_0_spaces v_0_oldNx v_0_oldNy v_0_oldSpaces v_0_points v_0_pieces v_0_rings v_0_outsideSides v_0_looseCount f_0_labels f_0_flatEdges f_0_upEdges f_0_stack)) (QV dC dI [(cI, .int), (cZ, .boolean), (cJ, .long)] sz (wl_Mo_findSpaces a_0 a_0_labels a_0_flatEdges a_0_upEdges a_0_stack b_0_isFlat b_0_across b_0_lows b_0_highs b_0_thick b_0_doorCounts b_0_doorFrom b_0_doorTo b_0_xs b_0_ys b_0_oldXs b_0_oldYs b_0_oldLabels b_0_names b_0_oldNames b_0_wanted b_0_common b_0_isPoint b_0_pieceLines b_0_pieceBegins b_0_pieceEnds b_0_pieceLeft b_0_pieceRight b_0_outs b_0_isSeen b_0_ringSpaces b_0_ringStarts b_0_ringSizes b_0_ringLeast b_0_looseLines b_0_looseXs b_0_looseYs b_0_looseReaches b_0_far cI v_0_code v_0_lines v_0_isFresh v_0_hasRun v_0_runs v_0_nx v_0_ny v_0_spaces v_0_oldNx v_0_oldNy v_0_oldSpaces v_0_points v_0_pieces v_0_rings v_0_outsideSides v_0_looseCount f_0_labels f_0_flatEdges f_0_upEdges f_0_stack) (wl_Mo_findSpaces a_0 a_0_labels a_0_flatEdges a_0_upEdges a_0_stack b_0_isFlat b_0_across b_0_lows b_0_highs b_0_thick b_0_doorCounts b_0_doorFrom b_0_doorTo b_0_xs b_0_ys b_0_oldXs b_0_oldYs b_0_oldLabels b_0_names b_0_oldNames b_0_wanted b_0_common b_0_isPoint b_0_pieceLines b_0_pieceBegins b_0_pieceEnds b_0_pieceLeft b_0_pieceRight b_0_outs b_0_isSeen b_0_ringSpaces b_0_ringStarts b_0_ringSizes b_0_ringLeast b_0_looseLines b_0_looseXs b_0_looseYs b_0_looseReaches b_0_far cI v_0_code v_0_lines v_0_isFresh v_0_hasRun v_0_runs v_0_nx v_0_ny ov_0_spaces v_0_oldNx v_0_oldNy v_0_oldSpaces v_0_points v_0_pieces v_0_rings v_0_outsideSides v_0_looseCount of_0_labels f_0_flatEdges f_0_upEdges of_0_stack)) 0 0 (va_A (wl_Mo_findSpaces a_0 a_0_labels a_0_flatEdges a_0_upEdges a_0_stack b_0_isFlat b_0_across b_0_lows b_0_highs b_0_thick b_0_doorCounts b_0_doorFrom b_0_doorTo b_0_xs b_0_ys b_0_oldXs b_0_oldYs b_0_oldLabels b_0_names b_0_oldNames b_0_wanted b_0_common b_0_isPoint b_0_pieceLines b_0_pieceBegins b_0_pieceEnds b_0_pieceLeft b_0_pieceRight b_0_outs b_0_isSeen b_0_ringSpaces b_0_ringStarts b_0_ringSizes b_0_ringLeast b_0_looseLines b_0_looseXs b_0_looseYs b_0_looseReaches b_0_far cI v_0_code v_0_lines v_0_isFresh v_0_hasRun v_0_runs v_0_nx v_0_ny v_0_spaces v_0_oldNx v_0_oldNy v_0_oldSpaces v_0_points v_0_pieces v_0_rings v_0_outsideSides v_0_looseCount f_0_labels f_0_flatEdges f_0_upEdges f_0_stack) sz) := by
  refine Met.ofW (cc := b_Mo_findSpaces) (maxL := 3) (ret := none) (by decide) rfl ?_
  intro p e s m args below meth c s₁ B hml hv
  obtain ⟨rfl, hsz, hP, hK, hD0, hN⟩ := hv
  subst hsz
  have hl := lv_entry ([.ref a_0]) (n := 3) (Nat.le_of_ble_eq_true rfl)
  rw [lg_entry_eq]
  generalize (lg_sl ([.ref a_0]) ++ List.replicate (3 - (lg_sl ([.ref a_0])).length) Slot.unset).toArray = ls at hl ⊢
  exact t_Mo_findSpaces a_0 a_0_labels a_0_flatEdges a_0_upEdges a_0_stack b_0_isFlat b_0_across b_0_lows b_0_highs b_0_thick b_0_doorCounts b_0_doorFrom b_0_doorTo b_0_xs b_0_ys b_0_oldXs b_0_oldYs b_0_oldLabels b_0_names b_0_oldNames b_0_wanted b_0_common b_0_isPoint b_0_pieceLines b_0_pieceBegins b_0_pieceEnds b_0_pieceLeft b_0_pieceRight b_0_outs b_0_isSeen b_0_ringSpaces b_0_ringStarts b_0_ringSizes b_0_ringLeast b_0_looseLines b_0_looseXs b_0_looseYs b_0_looseReaches b_0_far v_0_code v_0_lines v_0_isFresh v_0_hasRun v_0_runs v_0_nx v_0_ny v_0_spaces v_0_oldNx v_0_oldNy v_0_oldSpaces v_0_points v_0_pieces v_0_rings v_0_outsideSides v_0_looseCount f_0_labels f_0_flatEdges f_0_upEdges f_0_stack ov_0_spaces of_0_labels of_0_stack B.exec B.bytes hml (findClass_of_methodNamed B.named) (atoms_spec (ws := w_Mo_findSpaces) B.pre) hK hN (fun q h => Or.inr h) (fun pc H locs ls hd hP9 hD9 hS => W.vret B.exec B.bytes B.returns (fun t ht hW => ⟨⟨(), rfl, trivial, by rw [ht]; exact hP9, va_K.moved hW.alike hK, hD9⟩, hS.F ht⟩) hS.2.2 hd) hm s.heap [] ls hP hD0.self va_S.rf hl

theorem k_329 : ((.fieldLink "SpaceCyclesModel" 188 "SpaceCyclesModel" "pieces" "I") : Cond) ∈ gl := gl_i 1160 (by decide +kernel) (by decide +kernel)
theorem k_330 : ((.fieldLink "SpaceCyclesModel" 93 "SpaceCyclesModel" "outs" "[I") : Cond) ∈ gl := gl_i 1161 (by decide +kernel) (by decide +kernel)
theorem k_331 : ((.fieldLink "SpaceCyclesModel" 78 "SpaceCyclesModel" "pieceLines" "[I") : Cond) ∈ gl := gl_i 1155 (by decide +kernel) (by decide +kernel)
theorem k_332 : ((.fieldLink "SpaceCyclesModel" 81 "SpaceCyclesModel" "pieceBegins" "[I") : Cond) ∈ gl := gl_i 1156 (by decide +kernel) (by decide +kernel)
theorem k_333 : ((.fieldLink "SpaceCyclesModel" 84 "SpaceCyclesModel" "pieceEnds" "[I") : Cond) ∈ gl := gl_i 1157 (by decide +kernel) (by decide +kernel)
theorem k_334 : ((.fieldLink "SpaceCyclesModel" 87 "SpaceCyclesModel" "pieceLeft" "[I") : Cond) ∈ gl := gl_i 1158 (by decide +kernel) (by decide +kernel)
theorem k_335 : ((.fieldLink "SpaceCyclesModel" 90 "SpaceCyclesModel" "pieceRight" "[I") : Cond) ∈ gl := gl_i 1159 (by decide +kernel) (by decide +kernel)
-- SpaceCyclesModel.findPieces()V
abbrev b_Mo_findPieces : ByteArray := prog_13_method_17_code
abbrev y_Mo_findPieces : MethodName := ⟨"SpaceCyclesModel", "findPieces", "()V"⟩
abbrev w_Mo_findPieces : List Cond := Cond.code y_Mo_findPieces b_Mo_findPieces 10 none :: gl
abbrev rm_Mo_findPieces : Room := { frames := 1, cells := 0, slots := 0, locals := 22 }
theorem d_Mo_findPieces_0 : decode b_Mo_findPieces 0 = .ok (.aload_n 0, 1) := by decide +kernel
theorem d_Mo_findPieces_1 : decode b_Mo_findPieces 1 = .ok (.iconst 0, 1) := by decide +kernel
theorem d_Mo_findPieces_2 : decode b_Mo_findPieces 2 = .ok (.putfield 188, 3) := by decide +kernel
theorem d_Mo_findPieces_5 : decode b_Mo_findPieces 5 = .ok (.iconst 0, 1) := by decide +kernel
theorem d_Mo_findPieces_6 : decode b_Mo_findPieces 6 = .ok (.istore_n 1, 1) := by decide +kernel
theorem d_Mo_findPieces_7 : decode b_Mo_findPieces 7 = .ok (.iload_n 1, 1) := by decide +kernel
theorem d_Mo_findPieces_8 : decode b_Mo_findPieces 8 = .ok (.sipush 7056, 3) := by decide +kernel
theorem d_Mo_findPieces_11 : decode b_Mo_findPieces 11 = .ok (.if_icmp .ge 16, 3) := by decide +kernel
theorem d_Mo_findPieces_14 : decode b_Mo_findPieces 14 = .ok (.aload_n 0, 1) := by decide +kernel
theorem d_Mo_findPieces_15 : decode b_Mo_findPieces 15 = .ok (.getfield 93, 3) := by decide +kernel
theorem d_Mo_findPieces_18 : decode b_Mo_findPieces 18 = .ok (.iload_n 1, 1) := by decide +kernel
theorem d_Mo_findPieces_19 : decode b_Mo_findPieces 19 = .ok (.iconst (-1), 1) := by decide +kernel
theorem d_Mo_findPieces_20 : decode b_Mo_findPieces 20 = .ok (.iastore, 1) := by decide +kernel
theorem d_Mo_findPieces_21 : decode b_Mo_findPieces 21 = .ok (.iinc 1 1, 3) := by decide +kernel
theorem d_Mo_findPieces_24 : decode b_Mo_findPieces 24 = .ok (.goto (-17), 3) := by decide +kernel
theorem d_Mo_findPieces_27 : decode b_Mo_findPieces 27 = .ok (.iconst 0, 1) := by decide +kernel
theorem d_Mo_findPieces_28 : decode b_Mo_findPieces 28 = .ok (.istore_n 1, 1) := by decide +kernel
theorem d_Mo_findPieces_29 : decode b_Mo_findPieces 29 = .ok (.iload_n 1, 1) := by decide +kernel
theorem d_Mo_findPieces_30 : decode b_Mo_findPieces 30 = .ok (.aload_n 0, 1) := by decide +kernel
theorem d_Mo_findPieces_31 : decode b_Mo_findPieces 31 = .ok (.getfield 130, 3) := by decide +kernel
theorem d_Mo_findPieces_34 : decode b_Mo_findPieces 34 = .ok (.if_icmp .ge 389, 3) := by decide +kernel
theorem d_Mo_findPieces_37 : decode b_Mo_findPieces 37 = .ok (.aload_n 0, 1) := by decide +kernel
theorem d_Mo_findPieces_38 : decode b_Mo_findPieces 38 = .ok (.getfield 7, 3) := by decide +kernel
theorem d_Mo_findPieces_41 : decode b_Mo_findPieces 41 = .ok (.iload_n 1, 1) := by decide +kernel
theorem d_Mo_findPieces_42 : decode b_Mo_findPieces 42 = .ok (.baload, 1) := by decide +kernel
theorem d_Mo_findPieces_43 : decode b_Mo_findPieces 43 = .ok (.istore_n 2, 1) := by decide +kernel
theorem d_Mo_findPieces_44 : decode b_Mo_findPieces 44 = .ok (.iload_n 2, 1) := by decide +kernel
theorem d_Mo_findPieces_45 : decode b_Mo_findPieces 45 = .ok (.ifCond .eq 19, 3) := by decide +kernel
theorem d_Mo_findPieces_48 : decode b_Mo_findPieces 48 = .ok (.aload_n 0, 1) := by decide +kernel
theorem d_Mo_findPieces_49 : decode b_Mo_findPieces 49 = .ok (.getfield 38, 3) := by decide +kernel
theorem d_Mo_findPieces_52 : decode b_Mo_findPieces 52 = .ok (.aload_n 0, 1) := by decide +kernel
theorem d_Mo_findPieces_53 : decode b_Mo_findPieces 53 = .ok (.getfield 13, 3) := by decide +kernel
theorem d_Mo_findPieces_56 : decode b_Mo_findPieces 56 = .ok (.iload_n 1, 1) := by decide +kernel
theorem d_Mo_findPieces_57 : decode b_Mo_findPieces 57 = .ok (.iaload, 1) := by decide +kernel
theorem d_Mo_findPieces_58 : decode b_Mo_findPieces 58 = .ok (.invokestatic 167, 3) := by decide +kernel
theorem d_Mo_findPieces_61 : decode b_Mo_findPieces 61 = .ok (.goto 16, 3) := by decide +kernel
theorem d_Mo_findPieces_64 : decode b_Mo_findPieces 64 = .ok (.aload_n 0, 1) := by decide +kernel
theorem d_Mo_findPieces_65 : decode b_Mo_findPieces 65 = .ok (.getfield 35, 3) := by decide +kernel
theorem d_Mo_findPieces_68 : decode b_Mo_findPieces 68 = .ok (.aload_n 0, 1) := by decide +kernel
theorem d_Mo_findPieces_69 : decode b_Mo_findPieces 69 = .ok (.getfield 13, 3) := by decide +kernel
theorem d_Mo_findPieces_72 : decode b_Mo_findPieces 72 = .ok (.iload_n 1, 1) := by decide +kernel
theorem d_Mo_findPieces_73 : decode b_Mo_findPieces 73 = .ok (.iaload, 1) := by decide +kernel
theorem d_Mo_findPieces_74 : decode b_Mo_findPieces 74 = .ok (.invokestatic 167, 3) := by decide +kernel
theorem d_Mo_findPieces_77 : decode b_Mo_findPieces 77 = .ok (.istore_n 3, 1) := by decide +kernel
theorem d_Mo_findPieces_78 : decode b_Mo_findPieces 78 = .ok (.iload_n 2, 1) := by decide +kernel
theorem d_Mo_findPieces_79 : decode b_Mo_findPieces 79 = .ok (.ifCond .eq 19, 3) := by decide +kernel
theorem d_Mo_findPieces_82 : decode b_Mo_findPieces 82 = .ok (.aload_n 0, 1) := by decide +kernel
theorem d_Mo_findPieces_83 : decode b_Mo_findPieces 83 = .ok (.getfield 35, 3) := by decide +kernel
theorem d_Mo_findPieces_86 : decode b_Mo_findPieces 86 = .ok (.aload_n 0, 1) := by decide +kernel
theorem d_Mo_findPieces_87 : decode b_Mo_findPieces 87 = .ok (.getfield 17, 3) := by decide +kernel
theorem d_Mo_findPieces_90 : decode b_Mo_findPieces 90 = .ok (.iload_n 1, 1) := by decide +kernel
theorem d_Mo_findPieces_91 : decode b_Mo_findPieces 91 = .ok (.iaload, 1) := by decide +kernel
theorem d_Mo_findPieces_92 : decode b_Mo_findPieces 92 = .ok (.invokestatic 167, 3) := by decide +kernel
theorem d_Mo_findPieces_95 : decode b_Mo_findPieces 95 = .ok (.goto 16, 3) := by decide +kernel
theorem d_Mo_findPieces_98 : decode b_Mo_findPieces 98 = .ok (.aload_n 0, 1) := by decide +kernel
theorem d_Mo_findPieces_99 : decode b_Mo_findPieces 99 = .ok (.getfield 38, 3) := by decide +kernel
theorem d_Mo_findPieces_102 : decode b_Mo_findPieces 102 = .ok (.aload_n 0, 1) := by decide +kernel
theorem d_Mo_findPieces_103 : decode b_Mo_findPieces 103 = .ok (.getfield 17, 3) := by decide +kernel
theorem d_Mo_findPieces_106 : decode b_Mo_findPieces 106 = .ok (.iload_n 1, 1) := by decide +kernel
theorem d_Mo_findPieces_107 : decode b_Mo_findPieces 107 = .ok (.iaload, 1) := by decide +kernel
theorem d_Mo_findPieces_108 : decode b_Mo_findPieces 108 = .ok (.invokestatic 167, 3) := by decide +kernel
theorem d_Mo_findPieces_111 : decode b_Mo_findPieces 111 = .ok (.istore 4, 2) := by decide +kernel
theorem d_Mo_findPieces_113 : decode b_Mo_findPieces 113 = .ok (.iload_n 2, 1) := by decide +kernel
theorem d_Mo_findPieces_114 : decode b_Mo_findPieces 114 = .ok (.ifCond .eq 19, 3) := by decide +kernel
theorem d_Mo_findPieces_117 : decode b_Mo_findPieces 117 = .ok (.aload_n 0, 1) := by decide +kernel
theorem d_Mo_findPieces_118 : decode b_Mo_findPieces 118 = .ok (.getfield 35, 3) := by decide +kernel
theorem d_Mo_findPieces_121 : decode b_Mo_findPieces 121 = .ok (.aload_n 0, 1) := by decide +kernel
theorem d_Mo_findPieces_122 : decode b_Mo_findPieces 122 = .ok (.getfield 20, 3) := by decide +kernel
theorem d_Mo_findPieces_125 : decode b_Mo_findPieces 125 = .ok (.iload_n 1, 1) := by decide +kernel
theorem d_Mo_findPieces_126 : decode b_Mo_findPieces 126 = .ok (.iaload, 1) := by decide +kernel
theorem d_Mo_findPieces_127 : decode b_Mo_findPieces 127 = .ok (.invokestatic 167, 3) := by decide +kernel
theorem d_Mo_findPieces_130 : decode b_Mo_findPieces 130 = .ok (.goto 16, 3) := by decide +kernel
theorem d_Mo_findPieces_133 : decode b_Mo_findPieces 133 = .ok (.aload_n 0, 1) := by decide +kernel
theorem d_Mo_findPieces_134 : decode b_Mo_findPieces 134 = .ok (.getfield 38, 3) := by decide +kernel
theorem d_Mo_findPieces_137 : decode b_Mo_findPieces 137 = .ok (.aload_n 0, 1) := by decide +kernel
theorem d_Mo_findPieces_138 : decode b_Mo_findPieces 138 = .ok (.getfield 20, 3) := by decide +kernel
theorem d_Mo_findPieces_141 : decode b_Mo_findPieces 141 = .ok (.iload_n 1, 1) := by decide +kernel
theorem d_Mo_findPieces_142 : decode b_Mo_findPieces 142 = .ok (.iaload, 1) := by decide +kernel
theorem d_Mo_findPieces_143 : decode b_Mo_findPieces 143 = .ok (.invokestatic 167, 3) := by decide +kernel
theorem d_Mo_findPieces_146 : decode b_Mo_findPieces 146 = .ok (.istore 5, 2) := by decide +kernel
theorem d_Mo_findPieces_148 : decode b_Mo_findPieces 148 = .ok (.iload 4, 2) := by decide +kernel
theorem d_Mo_findPieces_150 : decode b_Mo_findPieces 150 = .ok (.istore 6, 2) := by decide +kernel
theorem d_Mo_findPieces_152 : decode b_Mo_findPieces 152 = .ok (.iload 4, 2) := by decide +kernel
theorem d_Mo_findPieces_154 : decode b_Mo_findPieces 154 = .ok (.iconst 1, 1) := by decide +kernel
theorem d_Mo_findPieces_155 : decode b_Mo_findPieces 155 = .ok (.iadd, 1) := by decide +kernel
theorem d_Mo_findPieces_156 : decode b_Mo_findPieces 156 = .ok (.istore 7, 2) := by decide +kernel
theorem d_Mo_findPieces_158 : decode b_Mo_findPieces 158 = .ok (.iload 7, 2) := by decide +kernel
theorem d_Mo_findPieces_160 : decode b_Mo_findPieces 160 = .ok (.iload 5, 2) := by decide +kernel
theorem d_Mo_findPieces_162 : decode b_Mo_findPieces 162 = .ok (.if_icmp .gt 255, 3) := by decide +kernel
theorem d_Mo_findPieces_165 : decode b_Mo_findPieces 165 = .ok (.iload_n 2, 1) := by decide +kernel
theorem d_Mo_findPieces_166 : decode b_Mo_findPieces 166 = .ok (.ifCond .eq 13, 3) := by decide +kernel
theorem d_Mo_findPieces_169 : decode b_Mo_findPieces 169 = .ok (.bipush 42, 2) := by decide +kernel
theorem d_Mo_findPieces_171 : decode b_Mo_findPieces 171 = .ok (.iload 7, 2) := by decide +kernel
theorem d_Mo_findPieces_173 : decode b_Mo_findPieces 173 = .ok (.imul, 1) := by decide +kernel
theorem d_Mo_findPieces_174 : decode b_Mo_findPieces 174 = .ok (.iload_n 3, 1) := by decide +kernel
theorem d_Mo_findPieces_175 : decode b_Mo_findPieces 175 = .ok (.iadd, 1) := by decide +kernel
theorem d_Mo_findPieces_176 : decode b_Mo_findPieces 176 = .ok (.goto 10, 3) := by decide +kernel
theorem d_Mo_findPieces_179 : decode b_Mo_findPieces 179 = .ok (.bipush 42, 2) := by decide +kernel
theorem d_Mo_findPieces_181 : decode b_Mo_findPieces 181 = .ok (.iload_n 3, 1) := by decide +kernel
theorem d_Mo_findPieces_182 : decode b_Mo_findPieces 182 = .ok (.imul, 1) := by decide +kernel
theorem d_Mo_findPieces_183 : decode b_Mo_findPieces 183 = .ok (.iload 7, 2) := by decide +kernel
theorem d_Mo_findPieces_185 : decode b_Mo_findPieces 185 = .ok (.iadd, 1) := by decide +kernel
theorem d_Mo_findPieces_186 : decode b_Mo_findPieces 186 = .ok (.istore 8, 2) := by decide +kernel
theorem d_Mo_findPieces_188 : decode b_Mo_findPieces 188 = .ok (.aload_n 0, 1) := by decide +kernel
theorem d_Mo_findPieces_189 : decode b_Mo_findPieces 189 = .ok (.getfield 72, 3) := by decide +kernel
theorem d_Mo_findPieces_192 : decode b_Mo_findPieces 192 = .ok (.iload 8, 2) := by decide +kernel
theorem d_Mo_findPieces_194 : decode b_Mo_findPieces 194 = .ok (.baload, 1) := by decide +kernel
theorem d_Mo_findPieces_195 : decode b_Mo_findPieces 195 = .ok (.ifCond .eq 216, 3) := by decide +kernel
theorem d_Mo_findPieces_198 : decode b_Mo_findPieces 198 = .ok (.iload_n 2, 1) := by decide +kernel
theorem d_Mo_findPieces_199 : decode b_Mo_findPieces 199 = .ok (.ifCond .eq 13, 3) := by decide +kernel
theorem d_Mo_findPieces_202 : decode b_Mo_findPieces 202 = .ok (.bipush 42, 2) := by decide +kernel
theorem d_Mo_findPieces_204 : decode b_Mo_findPieces 204 = .ok (.iload 6, 2) := by decide +kernel
theorem d_Mo_findPieces_206 : decode b_Mo_findPieces 206 = .ok (.imul, 1) := by decide +kernel
theorem d_Mo_findPieces_207 : decode b_Mo_findPieces 207 = .ok (.iload_n 3, 1) := by decide +kernel
theorem d_Mo_findPieces_208 : decode b_Mo_findPieces 208 = .ok (.iadd, 1) := by decide +kernel
theorem d_Mo_findPieces_209 : decode b_Mo_findPieces 209 = .ok (.goto 10, 3) := by decide +kernel
theorem d_Mo_findPieces_212 : decode b_Mo_findPieces 212 = .ok (.bipush 42, 2) := by decide +kernel
theorem d_Mo_findPieces_214 : decode b_Mo_findPieces 214 = .ok (.iload_n 3, 1) := by decide +kernel
theorem d_Mo_findPieces_215 : decode b_Mo_findPieces 215 = .ok (.imul, 1) := by decide +kernel
theorem d_Mo_findPieces_216 : decode b_Mo_findPieces 216 = .ok (.iload 6, 2) := by decide +kernel
theorem d_Mo_findPieces_218 : decode b_Mo_findPieces 218 = .ok (.iadd, 1) := by decide +kernel
theorem d_Mo_findPieces_219 : decode b_Mo_findPieces 219 = .ok (.istore 9, 2) := by decide +kernel
theorem d_Mo_findPieces_221 : decode b_Mo_findPieces 221 = .ok (.aload_n 0, 1) := by decide +kernel
theorem d_Mo_findPieces_222 : decode b_Mo_findPieces 222 = .ok (.getfield 78, 3) := by decide +kernel
theorem d_Mo_findPieces_225 : decode b_Mo_findPieces 225 = .ok (.aload_n 0, 1) := by decide +kernel
theorem d_Mo_findPieces_226 : decode b_Mo_findPieces 226 = .ok (.getfield 188, 3) := by decide +kernel
theorem d_Mo_findPieces_229 : decode b_Mo_findPieces 229 = .ok (.iload_n 1, 1) := by decide +kernel
theorem d_Mo_findPieces_230 : decode b_Mo_findPieces 230 = .ok (.iastore, 1) := by decide +kernel
theorem d_Mo_findPieces_231 : decode b_Mo_findPieces 231 = .ok (.aload_n 0, 1) := by decide +kernel
theorem d_Mo_findPieces_232 : decode b_Mo_findPieces 232 = .ok (.getfield 81, 3) := by decide +kernel
theorem d_Mo_findPieces_235 : decode b_Mo_findPieces 235 = .ok (.aload_n 0, 1) := by decide +kernel
theorem d_Mo_findPieces_236 : decode b_Mo_findPieces 236 = .ok (.getfield 188, 3) := by decide +kernel
theorem d_Mo_findPieces_239 : decode b_Mo_findPieces 239 = .ok (.iload 9, 2) := by decide +kernel
theorem d_Mo_findPieces_241 : decode b_Mo_findPieces 241 = .ok (.iastore, 1) := by decide +kernel
theorem d_Mo_findPieces_242 : decode b_Mo_findPieces 242 = .ok (.aload_n 0, 1) := by decide +kernel
theorem d_Mo_findPieces_243 : decode b_Mo_findPieces 243 = .ok (.getfield 84, 3) := by decide +kernel
theorem d_Mo_findPieces_246 : decode b_Mo_findPieces 246 = .ok (.aload_n 0, 1) := by decide +kernel
theorem d_Mo_findPieces_247 : decode b_Mo_findPieces 247 = .ok (.getfield 188, 3) := by decide +kernel
theorem d_Mo_findPieces_250 : decode b_Mo_findPieces 250 = .ok (.iload 8, 2) := by decide +kernel
theorem d_Mo_findPieces_252 : decode b_Mo_findPieces 252 = .ok (.iastore, 1) := by decide +kernel
theorem d_Mo_findPieces_253 : decode b_Mo_findPieces 253 = .ok (.aload_n 0, 1) := by decide +kernel
theorem d_Mo_findPieces_254 : decode b_Mo_findPieces 254 = .ok (.getfield 87, 3) := by decide +kernel
theorem d_Mo_findPieces_257 : decode b_Mo_findPieces 257 = .ok (.aload_n 0, 1) := by decide +kernel
theorem d_Mo_findPieces_258 : decode b_Mo_findPieces 258 = .ok (.getfield 188, 3) := by decide +kernel
theorem d_Mo_findPieces_261 : decode b_Mo_findPieces 261 = .ok (.iload_n 2, 1) := by decide +kernel
theorem d_Mo_findPieces_262 : decode b_Mo_findPieces 262 = .ok (.ifCond .eq 22, 3) := by decide +kernel
theorem d_Mo_findPieces_265 : decode b_Mo_findPieces 265 = .ok (.aload_n 0, 1) := by decide +kernel
theorem d_Mo_findPieces_266 : decode b_Mo_findPieces 266 = .ok (.getfield 41, 3) := by decide +kernel
theorem d_Mo_findPieces_269 : decode b_Mo_findPieces 269 = .ok (.bipush 42, 2) := by decide +kernel
theorem d_Mo_findPieces_271 : decode b_Mo_findPieces 271 = .ok (.iload 6, 2) := by decide +kernel
theorem d_Mo_findPieces_273 : decode b_Mo_findPieces 273 = .ok (.iconst 1, 1) := by decide +kernel
theorem d_Mo_findPieces_274 : decode b_Mo_findPieces 274 = .ok (.iadd, 1) := by decide +kernel
theorem d_Mo_findPieces_275 : decode b_Mo_findPieces 275 = .ok (.imul, 1) := by decide +kernel
theorem d_Mo_findPieces_276 : decode b_Mo_findPieces 276 = .ok (.iload_n 3, 1) := by decide +kernel
theorem d_Mo_findPieces_277 : decode b_Mo_findPieces 277 = .ok (.iadd, 1) := by decide +kernel
theorem d_Mo_findPieces_278 : decode b_Mo_findPieces 278 = .ok (.iconst 1, 1) := by decide +kernel
theorem d_Mo_findPieces_279 : decode b_Mo_findPieces 279 = .ok (.iadd, 1) := by decide +kernel
theorem d_Mo_findPieces_280 : decode b_Mo_findPieces 280 = .ok (.iaload, 1) := by decide +kernel
theorem d_Mo_findPieces_281 : decode b_Mo_findPieces 281 = .ok (.goto 17, 3) := by decide +kernel
theorem d_Mo_findPieces_284 : decode b_Mo_findPieces 284 = .ok (.aload_n 0, 1) := by decide +kernel
theorem d_Mo_findPieces_285 : decode b_Mo_findPieces 285 = .ok (.getfield 41, 3) := by decide +kernel
theorem d_Mo_findPieces_288 : decode b_Mo_findPieces 288 = .ok (.bipush 42, 2) := by decide +kernel
theorem d_Mo_findPieces_290 : decode b_Mo_findPieces 290 = .ok (.iload_n 3, 1) := by decide +kernel
theorem d_Mo_findPieces_291 : decode b_Mo_findPieces 291 = .ok (.imul, 1) := by decide +kernel
theorem d_Mo_findPieces_292 : decode b_Mo_findPieces 292 = .ok (.iload 6, 2) := by decide +kernel
theorem d_Mo_findPieces_294 : decode b_Mo_findPieces 294 = .ok (.iadd, 1) := by decide +kernel
theorem d_Mo_findPieces_295 : decode b_Mo_findPieces 295 = .ok (.iconst 1, 1) := by decide +kernel
theorem d_Mo_findPieces_296 : decode b_Mo_findPieces 296 = .ok (.iadd, 1) := by decide +kernel
theorem d_Mo_findPieces_297 : decode b_Mo_findPieces 297 = .ok (.iaload, 1) := by decide +kernel
theorem d_Mo_findPieces_298 : decode b_Mo_findPieces 298 = .ok (.iastore, 1) := by decide +kernel
theorem d_Mo_findPieces_299 : decode b_Mo_findPieces 299 = .ok (.aload_n 0, 1) := by decide +kernel
theorem d_Mo_findPieces_300 : decode b_Mo_findPieces 300 = .ok (.getfield 90, 3) := by decide +kernel
theorem d_Mo_findPieces_303 : decode b_Mo_findPieces 303 = .ok (.aload_n 0, 1) := by decide +kernel
theorem d_Mo_findPieces_304 : decode b_Mo_findPieces 304 = .ok (.getfield 188, 3) := by decide +kernel
theorem d_Mo_findPieces_307 : decode b_Mo_findPieces 307 = .ok (.iload_n 2, 1) := by decide +kernel
theorem d_Mo_findPieces_308 : decode b_Mo_findPieces 308 = .ok (.ifCond .eq 20, 3) := by decide +kernel
theorem d_Mo_findPieces_311 : decode b_Mo_findPieces 311 = .ok (.aload_n 0, 1) := by decide +kernel
theorem d_Mo_findPieces_312 : decode b_Mo_findPieces 312 = .ok (.getfield 41, 3) := by decide +kernel
theorem d_Mo_findPieces_315 : decode b_Mo_findPieces 315 = .ok (.bipush 42, 2) := by decide +kernel
theorem d_Mo_findPieces_317 : decode b_Mo_findPieces 317 = .ok (.iload 6, 2) := by decide +kernel
theorem d_Mo_findPieces_319 : decode b_Mo_findPieces 319 = .ok (.iconst 1, 1) := by decide +kernel
theorem d_Mo_findPieces_320 : decode b_Mo_findPieces 320 = .ok (.iadd, 1) := by decide +kernel
theorem d_Mo_findPieces_321 : decode b_Mo_findPieces 321 = .ok (.imul, 1) := by decide +kernel
theorem d_Mo_findPieces_322 : decode b_Mo_findPieces 322 = .ok (.iload_n 3, 1) := by decide +kernel
theorem d_Mo_findPieces_323 : decode b_Mo_findPieces 323 = .ok (.iadd, 1) := by decide +kernel
theorem d_Mo_findPieces_324 : decode b_Mo_findPieces 324 = .ok (.iaload, 1) := by decide +kernel
theorem d_Mo_findPieces_325 : decode b_Mo_findPieces 325 = .ok (.goto 19, 3) := by decide +kernel
theorem d_Mo_findPieces_328 : decode b_Mo_findPieces 328 = .ok (.aload_n 0, 1) := by decide +kernel
theorem d_Mo_findPieces_329 : decode b_Mo_findPieces 329 = .ok (.getfield 41, 3) := by decide +kernel
theorem d_Mo_findPieces_332 : decode b_Mo_findPieces 332 = .ok (.bipush 42, 2) := by decide +kernel
theorem d_Mo_findPieces_334 : decode b_Mo_findPieces 334 = .ok (.iload_n 3, 1) := by decide +kernel
theorem d_Mo_findPieces_335 : decode b_Mo_findPieces 335 = .ok (.iconst 1, 1) := by decide +kernel
theorem d_Mo_findPieces_336 : decode b_Mo_findPieces 336 = .ok (.iadd, 1) := by decide +kernel
theorem d_Mo_findPieces_337 : decode b_Mo_findPieces 337 = .ok (.imul, 1) := by decide +kernel
theorem d_Mo_findPieces_338 : decode b_Mo_findPieces 338 = .ok (.iload 6, 2) := by decide +kernel
theorem d_Mo_findPieces_340 : decode b_Mo_findPieces 340 = .ok (.iadd, 1) := by decide +kernel
theorem d_Mo_findPieces_341 : decode b_Mo_findPieces 341 = .ok (.iconst 1, 1) := by decide +kernel
theorem d_Mo_findPieces_342 : decode b_Mo_findPieces 342 = .ok (.iadd, 1) := by decide +kernel
theorem d_Mo_findPieces_343 : decode b_Mo_findPieces 343 = .ok (.iaload, 1) := by decide +kernel
theorem d_Mo_findPieces_344 : decode b_Mo_findPieces 344 = .ok (.iastore, 1) := by decide +kernel
theorem d_Mo_findPieces_345 : decode b_Mo_findPieces 345 = .ok (.aload_n 0, 1) := by decide +kernel
theorem d_Mo_findPieces_346 : decode b_Mo_findPieces 346 = .ok (.getfield 93, 3) := by decide +kernel
theorem d_Mo_findPieces_349 : decode b_Mo_findPieces 349 = .ok (.iconst 4, 1) := by decide +kernel
theorem d_Mo_findPieces_350 : decode b_Mo_findPieces 350 = .ok (.iload 9, 2) := by decide +kernel
theorem d_Mo_findPieces_352 : decode b_Mo_findPieces 352 = .ok (.imul, 1) := by decide +kernel
theorem d_Mo_findPieces_353 : decode b_Mo_findPieces 353 = .ok (.iload_n 2, 1) := by decide +kernel
theorem d_Mo_findPieces_354 : decode b_Mo_findPieces 354 = .ok (.ifCond .eq 7, 3) := by decide +kernel
theorem d_Mo_findPieces_357 : decode b_Mo_findPieces 357 = .ok (.iconst 0, 1) := by decide +kernel
theorem d_Mo_findPieces_358 : decode b_Mo_findPieces 358 = .ok (.goto 4, 3) := by decide +kernel
theorem d_Mo_findPieces_361 : decode b_Mo_findPieces 361 = .ok (.iconst 1, 1) := by decide +kernel
theorem d_Mo_findPieces_362 : decode b_Mo_findPieces 362 = .ok (.iadd, 1) := by decide +kernel
theorem d_Mo_findPieces_363 : decode b_Mo_findPieces 363 = .ok (.iconst 2, 1) := by decide +kernel
theorem d_Mo_findPieces_364 : decode b_Mo_findPieces 364 = .ok (.aload_n 0, 1) := by decide +kernel
theorem d_Mo_findPieces_365 : decode b_Mo_findPieces 365 = .ok (.getfield 188, 3) := by decide +kernel
theorem d_Mo_findPieces_368 : decode b_Mo_findPieces 368 = .ok (.imul, 1) := by decide +kernel
theorem d_Mo_findPieces_369 : decode b_Mo_findPieces 369 = .ok (.iastore, 1) := by decide +kernel
theorem d_Mo_findPieces_370 : decode b_Mo_findPieces 370 = .ok (.aload_n 0, 1) := by decide +kernel
theorem d_Mo_findPieces_371 : decode b_Mo_findPieces 371 = .ok (.getfield 93, 3) := by decide +kernel
theorem d_Mo_findPieces_374 : decode b_Mo_findPieces 374 = .ok (.iconst 4, 1) := by decide +kernel
theorem d_Mo_findPieces_375 : decode b_Mo_findPieces 375 = .ok (.iload 8, 2) := by decide +kernel
theorem d_Mo_findPieces_377 : decode b_Mo_findPieces 377 = .ok (.imul, 1) := by decide +kernel
theorem d_Mo_findPieces_378 : decode b_Mo_findPieces 378 = .ok (.iload_n 2, 1) := by decide +kernel
theorem d_Mo_findPieces_379 : decode b_Mo_findPieces 379 = .ok (.ifCond .eq 7, 3) := by decide +kernel
theorem d_Mo_findPieces_382 : decode b_Mo_findPieces 382 = .ok (.iconst 2, 1) := by decide +kernel
theorem d_Mo_findPieces_383 : decode b_Mo_findPieces 383 = .ok (.goto 4, 3) := by decide +kernel
theorem d_Mo_findPieces_386 : decode b_Mo_findPieces 386 = .ok (.iconst 3, 1) := by decide +kernel
theorem d_Mo_findPieces_387 : decode b_Mo_findPieces 387 = .ok (.iadd, 1) := by decide +kernel
theorem d_Mo_findPieces_388 : decode b_Mo_findPieces 388 = .ok (.iconst 2, 1) := by decide +kernel
theorem d_Mo_findPieces_389 : decode b_Mo_findPieces 389 = .ok (.aload_n 0, 1) := by decide +kernel
theorem d_Mo_findPieces_390 : decode b_Mo_findPieces 390 = .ok (.getfield 188, 3) := by decide +kernel
theorem d_Mo_findPieces_393 : decode b_Mo_findPieces 393 = .ok (.imul, 1) := by decide +kernel
theorem d_Mo_findPieces_394 : decode b_Mo_findPieces 394 = .ok (.iconst 1, 1) := by decide +kernel
theorem d_Mo_findPieces_395 : decode b_Mo_findPieces 395 = .ok (.iadd, 1) := by decide +kernel
theorem d_Mo_findPieces_396 : decode b_Mo_findPieces 396 = .ok (.iastore, 1) := by decide +kernel
theorem d_Mo_findPieces_397 : decode b_Mo_findPieces 397 = .ok (.aload_n 0, 1) := by decide +kernel
theorem d_Mo_findPieces_398 : decode b_Mo_findPieces 398 = .ok (.dup, 1) := by decide +kernel
theorem d_Mo_findPieces_399 : decode b_Mo_findPieces 399 = .ok (.getfield 188, 3) := by decide +kernel
theorem d_Mo_findPieces_402 : decode b_Mo_findPieces 402 = .ok (.iconst 1, 1) := by decide +kernel
theorem d_Mo_findPieces_403 : decode b_Mo_findPieces 403 = .ok (.iadd, 1) := by decide +kernel
theorem d_Mo_findPieces_404 : decode b_Mo_findPieces 404 = .ok (.putfield 188, 3) := by decide +kernel
theorem d_Mo_findPieces_407 : decode b_Mo_findPieces 407 = .ok (.iload 7, 2) := by decide +kernel
theorem d_Mo_findPieces_409 : decode b_Mo_findPieces 409 = .ok (.istore 6, 2) := by decide +kernel
theorem d_Mo_findPieces_411 : decode b_Mo_findPieces 411 = .ok (.iinc 7 1, 3) := by decide +kernel
theorem d_Mo_findPieces_414 : decode b_Mo_findPieces 414 = .ok (.goto (-256), 3) := by decide +kernel
theorem d_Mo_findPieces_417 : decode b_Mo_findPieces 417 = .ok (.iinc 1 1, 3) := by decide +kernel
theorem d_Mo_findPieces_420 : decode b_Mo_findPieces 420 = .ok (.goto (-391), 3) := by decide +kernel
theorem d_Mo_findPieces_423 : decode b_Mo_findPieces 423 = .ok (.return_, 1) := by decide +kernel
abbrev wl_Mo_findPieces (a_0 : Nat) (a_0_isFlat : Nat) (a_0_across : Nat) (a_0_lows : Nat) (a_0_highs : Nat) (a_0_xs : Nat) (a_0_ys : Nat) (a_0_labels : Nat) (a_0_isPoint : Nat) (a_0_pieceLines : Nat) (a_0_pieceBegins : Nat) (a_0_pieceEnds : Nat) (a_0_pieceLeft : Nat) (a_0_pieceRight : Nat) (a_0_outs : Nat) (b_0_thick : Nat) (b_0_doorCounts : Nat) (b_0_doorFrom : Nat) (b_0_doorTo : Nat) (b_0_oldXs : Nat) (b_0_oldYs : Nat) (b_0_oldLabels : Nat) (b_0_names : Nat) (b_0_oldNames : Nat) (b_0_wanted : Nat) (b_0_common : Nat) (b_0_flatEdges : Nat) (b_0_upEdges : Nat) (b_0_stack : Nat) (b_0_isSeen : Nat) (b_0_ringSpaces : Nat) (b_0_ringStarts : Nat) (b_0_ringSizes : Nat) (b_0_ringLeast : Nat) (b_0_looseLines : Nat) (b_0_looseXs : Nat) (b_0_looseYs : Nat) (b_0_looseReaches : Nat) (b_0_far : Nat) (cZ : ClassId) (cI : ClassId) (v_0_code : Int32) (v_0_lines : Int32) (v_0_isFresh : Int32) (v_0_hasRun : Int32) (v_0_runs : Int32) (v_0_nx : Int32) (v_0_ny : Int32) (v_0_spaces : Int32) (v_0_oldNx : Int32) (v_0_oldNy : Int32) (v_0_oldSpaces : Int32) (v_0_points : Int32) (v_0_pieces : Int32) (v_0_rings : Int32) (v_0_outsideSides : Int32) (v_0_looseCount : Int32) (f_0_isFlat : Nat → Int32) (f_0_across : Nat → Int32) (f_0_lows : Nat → Int32) (f_0_highs : Nat → Int32) (f_0_xs : Nat → Int32) (f_0_ys : Nat → Int32) (f_0_labels : Nat → Int32) (f_0_isPoint : Nat → Int32) (f_0_pieceLines : Nat → Int32) (f_0_pieceBegins : Nat → Int32) (f_0_pieceEnds : Nat → Int32) (f_0_pieceLeft : Nat → Int32) (f_0_pieceRight : Nat → Int32) (f_0_outs : Nat → Int32) : va_W := [(a_0, .inr (11, [.int v_0_code, .ref a_0_isFlat, .ref a_0_across, .ref a_0_lows, .ref a_0_highs, .ref b_0_thick, .int v_0_lines, .ref b_0_doorCounts, .ref b_0_doorFrom, .ref b_0_doorTo, .int v_0_isFresh, .int v_0_hasRun, .int v_0_runs, .ref a_0_xs, .ref a_0_ys, .int v_0_nx, .int v_0_ny, .ref a_0_labels, .int v_0_spaces, .ref b_0_oldXs, .ref b_0_oldYs, .int v_0_oldNx, .int v_0_oldNy, .ref b_0_oldLabels, .int v_0_oldSpaces, .ref b_0_names, .ref b_0_oldNames, .ref b_0_wanted, .ref b_0_common, .ref b_0_flatEdges, .ref b_0_upEdges, .ref a_0_isPoint, .int v_0_points, .ref b_0_stack, .ref a_0_pieceLines, .ref a_0_pieceBegins, .ref a_0_pieceEnds, .ref a_0_pieceLeft, .ref a_0_pieceRight, .int v_0_pieces, .ref a_0_outs, .ref b_0_isSeen, .ref b_0_ringSpaces, .ref b_0_ringStarts, .ref b_0_ringSizes, .ref b_0_ringLeast, .int v_0_rings, .int v_0_outsideSides, .ref b_0_looseLines, .ref b_0_looseXs, .ref b_0_looseYs, .ref b_0_looseReaches, .int v_0_looseCount, .ref b_0_far])), (a_0_isFlat, .inl (cZ, 20, .inl f_0_isFlat)), (a_0_across, .inl (cI, 20, .inl f_0_across)), (a_0_lows, .inl (cI, 20, .inl f_0_lows)), (a_0_highs, .inl (cI, 20, .inl f_0_highs)), (a_0_xs, .inl (cI, 42, .inl f_0_xs)), (a_0_ys, .inl (cI, 42, .inl f_0_ys)), (a_0_labels, .inl (cI, 1764, .inl f_0_labels)), (a_0_isPoint, .inl (cZ, 1764, .inl f_0_isPoint)), (a_0_pieceLines, .inl (cI, 900, .inl f_0_pieceLines)), (a_0_pieceBegins, .inl (cI, 900, .inl f_0_pieceBegins)), (a_0_pieceEnds, .inl (cI, 900, .inl f_0_pieceEnds)), (a_0_pieceLeft, .inl (cI, 900, .inl f_0_pieceLeft)), (a_0_pieceRight, .inl (cI, 900, .inl f_0_pieceRight)), (a_0_outs, .inl (cI, 7056, .inl f_0_outs))]
def m_Mo_findPieces_L7  : Nat → Int32 → (Nat → Int32) → Option ((Nat → Int32))
  | 0, _, _ => none
  | n + 1, l1, f_0_outs =>
    if 7056 ≤ l1 then (
      some f_0_outs)
    else (
      gI l1 7056 <|
      lt_ (upd f_0_outs l1.toNatClampNeg (-1)) fun f3 =>
      lt_ (l1 + 1) fun x4 =>
      m_Mo_findPieces_L7 n x4 f3)

def m_Mo_findPieces_L158 (l1 : Int32) (l2 : Int32) (l3 : Int32) (l5 : Int32) (f_0_labels : Nat → Int32) (f_0_isPoint : Nat → Int32) : Nat → Int32 → Int32 → Int32 → (Nat → Int32) → (Nat → Int32) → (Nat → Int32) → (Nat → Int32) → (Nat → Int32) → (Nat → Int32) → Option ((Int32) × (Nat → Int32) × (Nat → Int32) × (Nat → Int32) × (Nat → Int32) × (Nat → Int32) × (Nat → Int32))
  | 0, _, _, _, _, _, _, _, _, _ => none
  | n + 1, l6, l7, v_0_pieces, f_0_pieceLines, f_0_pieceBegins, f_0_pieceEnds, f_0_pieceLeft, f_0_pieceRight, f_0_outs =>
    if l5 < l7 then (
      some (v_0_pieces, f_0_pieceLines, f_0_pieceBegins, f_0_pieceEnds, f_0_pieceLeft, f_0_pieceRight, f_0_outs))
    else (
      bd1 (
        if l2 = 0 then (
        some ((42 * l3) + l7))
      else (
        some ((42 * l7) + l3)))
      fun (x51 : Int32) =>
      gI x51 1764 <|
        bd8 (
          if (f_0_isPoint x51.toNatClampNeg) = 0 then (
          some (l6, v_0_pieces, f_0_pieceLines, f_0_pieceBegins, f_0_pieceEnds, f_0_pieceLeft, f_0_pieceRight, f_0_outs))
        else (
          bd1 (
            if l2 = 0 then (
            some ((42 * l3) + l6))
          else (
            some ((42 * l6) + l3)))
          fun (x69 : Int32) =>
          gI v_0_pieces 900 <|
            lt_ (upd f_0_pieceLines v_0_pieces.toNatClampNeg l1) fun f72 =>
            gI v_0_pieces 900 <|
            lt_ (upd f_0_pieceBegins v_0_pieces.toNatClampNeg x69) fun f74 =>
            gI v_0_pieces 900 <|
            lt_ (upd f_0_pieceEnds v_0_pieces.toNatClampNeg x51) fun f76 =>
            bd1 (
              if l2 = 0 then (
              gI (((42 * l3) + l6) + 1) 1764 <|
              some (f_0_labels (((42 * l3) + l6) + 1).toNatClampNeg))
            else (
              gI (((42 * (l6 + 1)) + l3) + 1) 1764 <|
              some (f_0_labels (((42 * (l6 + 1)) + l3) + 1).toNatClampNeg)))
            fun (x80 : Int32) =>
            gI v_0_pieces 900 <|
              lt_ (upd f_0_pieceLeft v_0_pieces.toNatClampNeg x80) fun f85 =>
              bd1 (
                if l2 = 0 then (
                gI (((42 * (l3 + 1)) + l6) + 1) 1764 <|
                some (f_0_labels (((42 * (l3 + 1)) + l6) + 1).toNatClampNeg))
              else (
                gI ((42 * (l6 + 1)) + l3) 1764 <|
                some (f_0_labels ((42 * (l6 + 1)) + l3).toNatClampNeg)))
              fun (x89 : Int32) =>
              gI v_0_pieces 900 <|
                lt_ (upd f_0_pieceRight v_0_pieces.toNatClampNeg x89) fun f94 =>
                bd1 (
                  if l2 = 0 then (
                  some 1)
                else (
                  some 0))
                fun (x98 : Int32) =>
                gI ((4 * x69) + x98) 7056 <|
                  lt_ (upd f_0_outs ((4 * x69) + x98).toNatClampNeg (2 * v_0_pieces)) fun f101 =>
                  bd1 (
                    if l2 = 0 then (
                    some 3)
                  else (
                    some 2))
                  fun (x105 : Int32) =>
                  gI ((4 * x51) + x105) 7056 <|
                    lt_ (upd f101 ((4 * x51) + x105).toNatClampNeg ((2 * v_0_pieces) + 1)) fun f108 =>
                    lt_ (v_0_pieces + 1) fun x109 =>
                    some (l7, x109, f72, f74, f76, f85, f94, f108)))
        fun (x57 : Int32) (x58 : Int32) (f59 : Nat → Int32) (f60 : Nat → Int32) (f61 : Nat → Int32) (f62 : Nat → Int32) (f63 : Nat → Int32) (f64 : Nat → Int32) =>
        lt_ (l7 + 1) fun x110 =>
          m_Mo_findPieces_L158 l1 l2 l3 l5 f_0_labels f_0_isPoint n x57 x110 x58 f59 f60 f61 f62 f63 f64)

def m_Mo_findPieces_L29 (v_0_lines : Int32) (f_0_isFlat : Nat → Int32) (f_0_across : Nat → Int32) (f_0_lows : Nat → Int32) (f_0_highs : Nat → Int32) (f_0_xs : Nat → Int32) (f_0_ys : Nat → Int32) (f_0_labels : Nat → Int32) (f_0_isPoint : Nat → Int32) : Nat → Int32 → Int32 → (Nat → Int32) → (Nat → Int32) → (Nat → Int32) → (Nat → Int32) → (Nat → Int32) → (Nat → Int32) → Option ((Int32) × (Nat → Int32) × (Nat → Int32) × (Nat → Int32) × (Nat → Int32) × (Nat → Int32) × (Nat → Int32))
  | 0, _, _, _, _, _, _, _, _ => none
  | n + 1, l1, v_0_pieces, f_0_pieceLines, f_0_pieceBegins, f_0_pieceEnds, f_0_pieceLeft, f_0_pieceRight, f_0_outs =>
    if v_0_lines ≤ l1 then (
      some (v_0_pieces, f_0_pieceLines, f_0_pieceBegins, f_0_pieceEnds, f_0_pieceLeft, f_0_pieceRight, f_0_outs))
    else (
      gI l1 20 <|
      lt_ (f_0_isFlat l1.toNatClampNeg) fun x12 =>
      bd1 (
        if x12 = 0 then (
        gI l1 20 <|
        bd1 (m_Mo_find 42 (f_0_across l1.toNatClampNeg) f_0_xs) fun r19 =>
        some r19)
      else (
        gI l1 20 <|
        bd1 (m_Mo_find 42 (f_0_across l1.toNatClampNeg) f_0_ys) fun r22 =>
        some r22))
      fun (x16 : Int32) =>
      bd1 (
          if x12 = 0 then (
          gI l1 20 <|
          bd1 (m_Mo_find 42 (f_0_lows l1.toNatClampNeg) f_0_ys) fun r30 =>
          some r30)
        else (
          gI l1 20 <|
          bd1 (m_Mo_find 42 (f_0_lows l1.toNatClampNeg) f_0_xs) fun r33 =>
          some r33))
        fun (x27 : Int32) =>
        bd1 (
            if x12 = 0 then (
            gI l1 20 <|
            bd1 (m_Mo_find 42 (f_0_highs l1.toNatClampNeg) f_0_ys) fun r41 =>
            some r41)
          else (
            gI l1 20 <|
            bd1 (m_Mo_find 42 (f_0_highs l1.toNatClampNeg) f_0_xs) fun r44 =>
            some r44))
          fun (x38 : Int32) =>
          lt_ (x27 + 1) fun x46 =>
            bd7 (m_Mo_findPieces_L158 l1 x12 x16 x38 f_0_labels f_0_isPoint fu x27 x46 v_0_pieces f_0_pieceLines f_0_pieceBegins f_0_pieceEnds f_0_pieceLeft f_0_pieceRight f_0_outs) fun x56 f57 f58 f59 f60 f61 f62 =>
            lt_ (l1 + 1) fun x129 =>
            m_Mo_findPieces_L29 v_0_lines f_0_isFlat f_0_across f_0_lows f_0_highs f_0_xs f_0_ys f_0_labels f_0_isPoint n x129 x56 f57 f58 f59 f60 f61 f62)
def m_Mo_findPieces (v_0_lines : Int32) (v_0_pieces : Int32) (f_0_isFlat : Nat → Int32) (f_0_across : Nat → Int32) (f_0_lows : Nat → Int32) (f_0_highs : Nat → Int32) (f_0_xs : Nat → Int32) (f_0_ys : Nat → Int32) (f_0_labels : Nat → Int32) (f_0_isPoint : Nat → Int32) (f_0_pieceLines : Nat → Int32) (f_0_pieceBegins : Nat → Int32) (f_0_pieceEnds : Nat → Int32) (f_0_pieceLeft : Nat → Int32) (f_0_pieceRight : Nat → Int32) (f_0_outs : Nat → Int32) : Option ((Int32) × (Nat → Int32) × (Nat → Int32) × (Nat → Int32) × (Nat → Int32) × (Nat → Int32) × (Nat → Int32)) :=
  bd1 (m_Mo_findPieces_L7 fu 0 f_0_outs) fun f3 =>
  bd7 (m_Mo_findPieces_L29 v_0_lines f_0_isFlat f_0_across f_0_lows f_0_highs f_0_xs f_0_ys f_0_labels f_0_isPoint fu 0 0 f_0_pieceLines f_0_pieceBegins f_0_pieceEnds f_0_pieceLeft f_0_pieceRight f3) fun x18 f19 f20 f21 f22 f23 f24 =>
  some (x18, f19, f20, f21, f22, f23, f24)

set_option maxHeartbeats 4000000 in
set_option maxRecDepth 100000 in
theorem t_Mo_findPieces {p : Program} {l : Launch} {e : Env} {s : State} {m : MethodId} {args : Array Value} {below : List Frame} {meth : Method} {c : Code} {A : Nat → Prop} {Q : State → Prop} {dC : Nat → ClassId} {dI : Nat → Nat → Nat} {cI cZ cJ : ClassId} (a_0 a_0_isFlat a_0_across a_0_lows a_0_highs a_0_xs a_0_ys a_0_labels a_0_isPoint a_0_pieceLines a_0_pieceBegins a_0_pieceEnds a_0_pieceLeft a_0_pieceRight a_0_outs b_0_thick b_0_doorCounts b_0_doorFrom b_0_doorTo b_0_oldXs b_0_oldYs b_0_oldLabels b_0_names b_0_oldNames b_0_wanted b_0_common b_0_flatEdges b_0_upEdges b_0_stack b_0_isSeen b_0_ringSpaces b_0_ringStarts b_0_ringSizes b_0_ringLeast b_0_looseLines b_0_looseXs b_0_looseYs b_0_looseReaches b_0_far : Nat) (v_0_code : Int32) (v_0_lines : Int32) (v_0_isFresh : Int32) (v_0_hasRun : Int32) (v_0_runs : Int32) (v_0_nx : Int32) (v_0_ny : Int32) (v_0_spaces : Int32) (v_0_oldNx : Int32) (v_0_oldNy : Int32) (v_0_oldSpaces : Int32) (v_0_points : Int32) (v_0_pieces : Int32) (v_0_rings : Int32) (v_0_outsideSides : Int32) (v_0_looseCount : Int32) (f_0_isFlat : Nat → Int32) (f_0_across : Nat → Int32) (f_0_lows : Nat → Int32) (f_0_highs : Nat → Int32) (f_0_xs : Nat → Int32) (f_0_ys : Nat → Int32) (f_0_labels : Nat → Int32) (f_0_isPoint : Nat → Int32) (f_0_pieceLines : Nat → Int32) (f_0_pieceBegins : Nat → Int32) (f_0_pieceEnds : Nat → Int32) (f_0_pieceLeft : Nat → Int32) (f_0_pieceRight : Nat → Int32) (f_0_outs : Nat → Int32)  (ov_0_pieces : Int32) (of_0_pieceLines : Nat → Int32) (of_0_pieceBegins : Nat → Int32) (of_0_pieceEnds : Nat → Int32) (of_0_pieceLeft : Nat → Int32) (of_0_pieceRight : Nat → Int32) (of_0_outs : Nat → Int32) (hx : p.tables.exec = Jvm.exec) (hb : c.code = b_Mo_findPieces) (hml : c.maxLocals = 10) (hown : s.vm.findClass "SpaceCyclesModel" = some m.cls) (hts : ∀ w ∈ w_Mo_findPieces, w.before args s = true) (hK : va_K (dC, dI) vwCl [(cI, .int), (cZ, .boolean), (cJ, .long)] s) (hN : NX s) (hA : ∀ q : Nat, s.heap.size ≤ q → A q)
    (hret : ∀ (pc : Nat) (H : Heap) (locs : List Loc) (ls : Array Slot), decode b_Mo_findPieces pc = .ok (.return_, 1) → va_P (dC, dI) vwCl (wl_Mo_findPieces a_0 a_0_isFlat a_0_across a_0_lows a_0_highs a_0_xs a_0_ys a_0_labels a_0_isPoint a_0_pieceLines a_0_pieceBegins a_0_pieceEnds a_0_pieceLeft a_0_pieceRight a_0_outs b_0_thick b_0_doorCounts b_0_doorFrom b_0_doorTo b_0_oldXs b_0_oldYs b_0_oldLabels b_0_names b_0_oldNames b_0_wanted b_0_common b_0_flatEdges b_0_upEdges b_0_stack b_0_isSeen b_0_ringSpaces b_0_ringStarts b_0_ringSizes b_0_ringLeast b_0_looseLines b_0_looseXs b_0_looseYs b_0_looseReaches b_0_far cZ cI v_0_code v_0_lines v_0_isFresh v_0_hasRun v_0_runs v_0_nx v_0_ny v_0_spaces v_0_oldNx v_0_oldNy v_0_oldSpaces v_0_points ov_0_pieces v_0_rings v_0_outsideSides v_0_looseCount f_0_isFlat f_0_across f_0_lows f_0_highs f_0_xs f_0_ys f_0_labels f_0_isPoint of_0_pieceLines of_0_pieceBegins of_0_pieceEnds of_0_pieceLeft of_0_pieceRight of_0_outs) H → va_D A (wl_Mo_findPieces a_0 a_0_isFlat a_0_across a_0_lows a_0_highs a_0_xs a_0_ys a_0_labels a_0_isPoint a_0_pieceLines a_0_pieceBegins a_0_pieceEnds a_0_pieceLeft a_0_pieceRight a_0_outs b_0_thick b_0_doorCounts b_0_doorFrom b_0_doorTo b_0_oldXs b_0_oldYs b_0_oldLabels b_0_names b_0_oldNames b_0_wanted b_0_common b_0_flatEdges b_0_upEdges b_0_stack b_0_isSeen b_0_ringSpaces b_0_ringStarts b_0_ringSizes b_0_ringLeast b_0_looseLines b_0_looseXs b_0_looseYs b_0_looseReaches b_0_far cZ cI v_0_code v_0_lines v_0_isFresh v_0_hasRun v_0_runs v_0_nx v_0_ny v_0_spaces v_0_oldNx v_0_oldNy v_0_oldSpaces v_0_points ov_0_pieces v_0_rings v_0_outsideSides v_0_looseCount f_0_isFlat f_0_across f_0_lows f_0_highs f_0_xs f_0_ys f_0_labels f_0_isPoint of_0_pieceLines of_0_pieceBegins of_0_pieceEnds of_0_pieceLeft of_0_pieceRight of_0_outs) → va_S A s.heap H locs → W p l e rm_Mo_findPieces s m args below meth c H locs 0 0 Q (F0 m pc ls []))
    (hm : m_Mo_findPieces v_0_lines v_0_pieces f_0_isFlat f_0_across f_0_lows f_0_highs f_0_xs f_0_ys f_0_labels f_0_isPoint f_0_pieceLines f_0_pieceBegins f_0_pieceEnds f_0_pieceLeft f_0_pieceRight f_0_outs = some (ov_0_pieces, of_0_pieceLines, of_0_pieceBegins, of_0_pieceEnds, of_0_pieceLeft, of_0_pieceRight, of_0_outs)) : ∀ (H : Heap) (locs : List Loc) (ls : Array Slot), va_P (dC, dI) vwCl (wl_Mo_findPieces a_0 a_0_isFlat a_0_across a_0_lows a_0_highs a_0_xs a_0_ys a_0_labels a_0_isPoint a_0_pieceLines a_0_pieceBegins a_0_pieceEnds a_0_pieceLeft a_0_pieceRight a_0_outs b_0_thick b_0_doorCounts b_0_doorFrom b_0_doorTo b_0_oldXs b_0_oldYs b_0_oldLabels b_0_names b_0_oldNames b_0_wanted b_0_common b_0_flatEdges b_0_upEdges b_0_stack b_0_isSeen b_0_ringSpaces b_0_ringStarts b_0_ringSizes b_0_ringLeast b_0_looseLines b_0_looseXs b_0_looseYs b_0_looseReaches b_0_far cZ cI v_0_code v_0_lines v_0_isFresh v_0_hasRun v_0_runs v_0_nx v_0_ny v_0_spaces v_0_oldNx v_0_oldNy v_0_oldSpaces v_0_points v_0_pieces v_0_rings v_0_outsideSides v_0_looseCount f_0_isFlat f_0_across f_0_lows f_0_highs f_0_xs f_0_ys f_0_labels f_0_isPoint f_0_pieceLines f_0_pieceBegins f_0_pieceEnds f_0_pieceLeft f_0_pieceRight f_0_outs) H → va_D A (wl_Mo_findPieces a_0 a_0_isFlat a_0_across a_0_lows a_0_highs a_0_xs a_0_ys a_0_labels a_0_isPoint a_0_pieceLines a_0_pieceBegins a_0_pieceEnds a_0_pieceLeft a_0_pieceRight a_0_outs b_0_thick b_0_doorCounts b_0_doorFrom b_0_doorTo b_0_oldXs b_0_oldYs b_0_oldLabels b_0_names b_0_oldNames b_0_wanted b_0_common b_0_flatEdges b_0_upEdges b_0_stack b_0_isSeen b_0_ringSpaces b_0_ringStarts b_0_ringSizes b_0_ringLeast b_0_looseLines b_0_looseXs b_0_looseYs b_0_looseReaches b_0_far cZ cI v_0_code v_0_lines v_0_isFresh v_0_hasRun v_0_runs v_0_nx v_0_ny v_0_spaces v_0_oldNx v_0_oldNy v_0_oldSpaces v_0_points v_0_pieces v_0_rings v_0_outsideSides v_0_looseCount f_0_isFlat f_0_across f_0_lows f_0_highs f_0_xs f_0_ys f_0_labels f_0_isPoint f_0_pieceLines f_0_pieceBegins f_0_pieceEnds f_0_pieceLeft f_0_pieceRight f_0_outs) → va_S A s.heap H locs → lv_has ls 10 [(0, .ref a_0)] → W p l e rm_Mo_findPieces s m args below meth c H locs 0 0 Q (F0 m 0 ls []) := by
  intro H locs ls hP hD hS hl
  unfold m_Mo_findPieces at hm
  refine lv_aload_n hx hb d_Mo_findPieces_0 rfl (lv_at hl 0 rfl) ?_
  refine lv_iconst (v := 0) hx hb d_Mo_findPieces_1 (by decide) ?_
  refine va_put (D := (dC, dI)) (ci := 11) (v := .int 0) (ty := .int) (C := "SpaceCyclesModel") (T := F_Mo) (N := 54) hx hb hts (in_F i_Mo) t_Mo t_Mo_ok n_Mo hown hK hP hD hS 0 rfl rfl 39 (by decide) (hts _ (in_c k_329)) (fun _ h9 => h9) rfl (by decide +kernel) rfl rfl (Nat.le_of_ble_eq_true rfl) d_Mo_findPieces_2 (fun H locs hP hD hS => ?_)
  have hP : va_P (dC, dI) vwCl (wl_Mo_findPieces a_0 a_0_isFlat a_0_across a_0_lows a_0_highs a_0_xs a_0_ys a_0_labels a_0_isPoint a_0_pieceLines a_0_pieceBegins a_0_pieceEnds a_0_pieceLeft a_0_pieceRight a_0_outs b_0_thick b_0_doorCounts b_0_doorFrom b_0_doorTo b_0_oldXs b_0_oldYs b_0_oldLabels b_0_names b_0_oldNames b_0_wanted b_0_common b_0_flatEdges b_0_upEdges b_0_stack b_0_isSeen b_0_ringSpaces b_0_ringStarts b_0_ringSizes b_0_ringLeast b_0_looseLines b_0_looseXs b_0_looseYs b_0_looseReaches b_0_far cZ cI v_0_code v_0_lines v_0_isFresh v_0_hasRun v_0_runs v_0_nx v_0_ny v_0_spaces v_0_oldNx v_0_oldNy v_0_oldSpaces v_0_points 0 v_0_rings v_0_outsideSides v_0_looseCount f_0_isFlat f_0_across f_0_lows f_0_highs f_0_xs f_0_ys f_0_labels f_0_isPoint f_0_pieceLines f_0_pieceBegins f_0_pieceEnds f_0_pieceLeft f_0_pieceRight f_0_outs) H := hP
  have hD : va_D A (wl_Mo_findPieces a_0 a_0_isFlat a_0_across a_0_lows a_0_highs a_0_xs a_0_ys a_0_labels a_0_isPoint a_0_pieceLines a_0_pieceBegins a_0_pieceEnds a_0_pieceLeft a_0_pieceRight a_0_outs b_0_thick b_0_doorCounts b_0_doorFrom b_0_doorTo b_0_oldXs b_0_oldYs b_0_oldLabels b_0_names b_0_oldNames b_0_wanted b_0_common b_0_flatEdges b_0_upEdges b_0_stack b_0_isSeen b_0_ringSpaces b_0_ringStarts b_0_ringSizes b_0_ringLeast b_0_looseLines b_0_looseXs b_0_looseYs b_0_looseReaches b_0_far cZ cI v_0_code v_0_lines v_0_isFresh v_0_hasRun v_0_runs v_0_nx v_0_ny v_0_spaces v_0_oldNx v_0_oldNy v_0_oldSpaces v_0_points 0 v_0_rings v_0_outsideSides v_0_looseCount f_0_isFlat f_0_across f_0_lows f_0_highs f_0_xs f_0_ys f_0_labels f_0_isPoint f_0_pieceLines f_0_pieceBegins f_0_pieceEnds f_0_pieceLeft f_0_pieceRight f_0_outs) := hD
  refine lv_iconst (v := 0) hx hb d_Mo_findPieces_5 (by decide) ?_
  refine lv_istore_n (lv' := [(1, .int 0), (0, .ref a_0)]) hx hb d_Mo_findPieces_6 rfl hl (by decide) rfl (fun ls hl => ?_)
  have L7_4 : ∀ (n : Nat) (x1 : Int32) (f2 : Nat → Int32) (f3 : Nat → Int32), m_Mo_findPieces_L7 n x1 f2 = some f3 → (∀ (H : Heap) (locs : List Loc) (ls : Array Slot), va_P (dC, dI) vwCl (wl_Mo_findPieces a_0 a_0_isFlat a_0_across a_0_lows a_0_highs a_0_xs a_0_ys a_0_labels a_0_isPoint a_0_pieceLines a_0_pieceBegins a_0_pieceEnds a_0_pieceLeft a_0_pieceRight a_0_outs b_0_thick b_0_doorCounts b_0_doorFrom b_0_doorTo b_0_oldXs b_0_oldYs b_0_oldLabels b_0_names b_0_oldNames b_0_wanted b_0_common b_0_flatEdges b_0_upEdges b_0_stack b_0_isSeen b_0_ringSpaces b_0_ringStarts b_0_ringSizes b_0_ringLeast b_0_looseLines b_0_looseXs b_0_looseYs b_0_looseReaches b_0_far cZ cI v_0_code v_0_lines v_0_isFresh v_0_hasRun v_0_runs v_0_nx v_0_ny v_0_spaces v_0_oldNx v_0_oldNy v_0_oldSpaces v_0_points 0 v_0_rings v_0_outsideSides v_0_looseCount f_0_isFlat f_0_across f_0_lows f_0_highs f_0_xs f_0_ys f_0_labels f_0_isPoint f_0_pieceLines f_0_pieceBegins f_0_pieceEnds f_0_pieceLeft f_0_pieceRight f3) H → va_D A (wl_Mo_findPieces a_0 a_0_isFlat a_0_across a_0_lows a_0_highs a_0_xs a_0_ys a_0_labels a_0_isPoint a_0_pieceLines a_0_pieceBegins a_0_pieceEnds a_0_pieceLeft a_0_pieceRight a_0_outs b_0_thick b_0_doorCounts b_0_doorFrom b_0_doorTo b_0_oldXs b_0_oldYs b_0_oldLabels b_0_names b_0_oldNames b_0_wanted b_0_common b_0_flatEdges b_0_upEdges b_0_stack b_0_isSeen b_0_ringSpaces b_0_ringStarts b_0_ringSizes b_0_ringLeast b_0_looseLines b_0_looseXs b_0_looseYs b_0_looseReaches b_0_far cZ cI v_0_code v_0_lines v_0_isFresh v_0_hasRun v_0_runs v_0_nx v_0_ny v_0_spaces v_0_oldNx v_0_oldNy v_0_oldSpaces v_0_points 0 v_0_rings v_0_outsideSides v_0_looseCount f_0_isFlat f_0_across f_0_lows f_0_highs f_0_xs f_0_ys f_0_labels f_0_isPoint f_0_pieceLines f_0_pieceBegins f_0_pieceEnds f_0_pieceLeft f_0_pieceRight f3) → va_S A s.heap H locs → lv_has ls 10 [(0, .ref a_0)] → W p l e rm_Mo_findPieces s m args below meth c H locs 0 0 Q (F0 m 27 ls [])) → ∀ (H : Heap) (locs : List Loc) (ls : Array Slot), va_P (dC, dI) vwCl (wl_Mo_findPieces a_0 a_0_isFlat a_0_across a_0_lows a_0_highs a_0_xs a_0_ys a_0_labels a_0_isPoint a_0_pieceLines a_0_pieceBegins a_0_pieceEnds a_0_pieceLeft a_0_pieceRight a_0_outs b_0_thick b_0_doorCounts b_0_doorFrom b_0_doorTo b_0_oldXs b_0_oldYs b_0_oldLabels b_0_names b_0_oldNames b_0_wanted b_0_common b_0_flatEdges b_0_upEdges b_0_stack b_0_isSeen b_0_ringSpaces b_0_ringStarts b_0_ringSizes b_0_ringLeast b_0_looseLines b_0_looseXs b_0_looseYs b_0_looseReaches b_0_far cZ cI v_0_code v_0_lines v_0_isFresh v_0_hasRun v_0_runs v_0_nx v_0_ny v_0_spaces v_0_oldNx v_0_oldNy v_0_oldSpaces v_0_points 0 v_0_rings v_0_outsideSides v_0_looseCount f_0_isFlat f_0_across f_0_lows f_0_highs f_0_xs f_0_ys f_0_labels f_0_isPoint f_0_pieceLines f_0_pieceBegins f_0_pieceEnds f_0_pieceLeft f_0_pieceRight f2) H → va_D A (wl_Mo_findPieces a_0 a_0_isFlat a_0_across a_0_lows a_0_highs a_0_xs a_0_ys a_0_labels a_0_isPoint a_0_pieceLines a_0_pieceBegins a_0_pieceEnds a_0_pieceLeft a_0_pieceRight a_0_outs b_0_thick b_0_doorCounts b_0_doorFrom b_0_doorTo b_0_oldXs b_0_oldYs b_0_oldLabels b_0_names b_0_oldNames b_0_wanted b_0_common b_0_flatEdges b_0_upEdges b_0_stack b_0_isSeen b_0_ringSpaces b_0_ringStarts b_0_ringSizes b_0_ringLeast b_0_looseLines b_0_looseXs b_0_looseYs b_0_looseReaches b_0_far cZ cI v_0_code v_0_lines v_0_isFresh v_0_hasRun v_0_runs v_0_nx v_0_ny v_0_spaces v_0_oldNx v_0_oldNy v_0_oldSpaces v_0_points 0 v_0_rings v_0_outsideSides v_0_looseCount f_0_isFlat f_0_across f_0_lows f_0_highs f_0_xs f_0_ys f_0_labels f_0_isPoint f_0_pieceLines f_0_pieceBegins f_0_pieceEnds f_0_pieceLeft f_0_pieceRight f2) → va_S A s.heap H locs → lv_has ls 10 [(0, .ref a_0), (1, .int x1)] → W p l e rm_Mo_findPieces s m args below meth c H locs 0 0 Q (F0 m 7 ls []) := by
    intro n
    induction n with
    | zero => intro x1 f2 f3 hm; simp [m_Mo_findPieces_L7] at hm
    | succ n ih =>
      intro x1 f2 f3 hm KE H locs ls hP hD hS hl
      rw [m_Mo_findPieces_L7] at hm
      refine lv_iload_n hx hb d_Mo_findPieces_7 rfl (lv_at hl 1 rfl) ?_
      refine lv_sipush (v := 7056) hx hb d_Mo_findPieces_8 (by decide) ?_
      refine lv_icmp_ge (tgt := 27) hx hb d_Mo_findPieces_11 (by decide) (fun c5 => ?_) (fun c5 => ?_)
      · replace hm := if_t hm c5
        cases hm
        exact KE H locs ls hP hD hS (lv_sub hl [0] rfl)
      · replace hm := if_f hm c5
        refine lv_aload_n hx hb d_Mo_findPieces_14 rfl (lv_at hl 0 rfl) ?_
        refine va_get (D := (dC, dI)) (ci := 11) (v := .ref a_0_outs) (C := "SpaceCyclesModel") (T := F_Mo) (N := 54) hx hb hts (in_F i_Mo) hown hK hP 0 rfl rfl 40 (by decide) (hts _ (in_c k_330)) (fun _ h9 => h9) rfl d_Mo_findPieces_15 ?_
        refine lv_iload_n hx hb d_Mo_findPieces_18 rfl (lv_at hl 1 rfl) ?_
        refine lv_iconst (v := (-1)) hx hb d_Mo_findPieces_19 (by decide) ?_
        obtain ⟨hi6, hm⟩ := gI_e hm
        obtain ⟨f7, ef7⟩ : ∃ y : Nat → Int32, y = upd f2 x1.toNatClampNeg (-1) := ⟨_, rfl⟩
        replace hm := lt_el hm ef7
        refine va_iast hx hb hK hP hD hS 14 0 rfl rfl hi6 d_Mo_findPieces_20 (fun H locs hP hD hS => ?_)
        rw [← ef7] at hP hD
        have hP : va_P (dC, dI) vwCl (wl_Mo_findPieces a_0 a_0_isFlat a_0_across a_0_lows a_0_highs a_0_xs a_0_ys a_0_labels a_0_isPoint a_0_pieceLines a_0_pieceBegins a_0_pieceEnds a_0_pieceLeft a_0_pieceRight a_0_outs b_0_thick b_0_doorCounts b_0_doorFrom b_0_doorTo b_0_oldXs b_0_oldYs b_0_oldLabels b_0_names b_0_oldNames b_0_wanted b_0_common b_0_flatEdges b_0_upEdges b_0_stack b_0_isSeen b_0_ringSpaces b_0_ringStarts b_0_ringSizes b_0_ringLeast b_0_looseLines b_0_looseXs b_0_looseYs b_0_looseReaches b_0_far cZ cI v_0_code v_0_lines v_0_isFresh v_0_hasRun v_0_runs v_0_nx v_0_ny v_0_spaces v_0_oldNx v_0_oldNy v_0_oldSpaces v_0_points 0 v_0_rings v_0_outsideSides v_0_looseCount f_0_isFlat f_0_across f_0_lows f_0_highs f_0_xs f_0_ys f_0_labels f_0_isPoint f_0_pieceLines f_0_pieceBegins f_0_pieceEnds f_0_pieceLeft f_0_pieceRight f7) H := hP
        have hD : va_D A (wl_Mo_findPieces a_0 a_0_isFlat a_0_across a_0_lows a_0_highs a_0_xs a_0_ys a_0_labels a_0_isPoint a_0_pieceLines a_0_pieceBegins a_0_pieceEnds a_0_pieceLeft a_0_pieceRight a_0_outs b_0_thick b_0_doorCounts b_0_doorFrom b_0_doorTo b_0_oldXs b_0_oldYs b_0_oldLabels b_0_names b_0_oldNames b_0_wanted b_0_common b_0_flatEdges b_0_upEdges b_0_stack b_0_isSeen b_0_ringSpaces b_0_ringStarts b_0_ringSizes b_0_ringLeast b_0_looseLines b_0_looseXs b_0_looseYs b_0_looseReaches b_0_far cZ cI v_0_code v_0_lines v_0_isFresh v_0_hasRun v_0_runs v_0_nx v_0_ny v_0_spaces v_0_oldNx v_0_oldNy v_0_oldSpaces v_0_points 0 v_0_rings v_0_outsideSides v_0_looseCount f_0_isFlat f_0_across f_0_lows f_0_highs f_0_xs f_0_ys f_0_labels f_0_isPoint f_0_pieceLines f_0_pieceBegins f_0_pieceEnds f_0_pieceLeft f_0_pieceRight f7) := hD
        obtain ⟨x8, ex8⟩ : ∃ y : Int32, y = x1 + 1 := ⟨_, rfl⟩
        replace hm := lt_el hm ex8
        refine lv_iinc (v := x8) (lv' := [(1, .int x8), (0, .ref a_0)]) hx hb d_Mo_findPieces_21 hl (k := 1) rfl (by rw [ex8]; rfl) (by decide) rfl (fun ls hl => ?_)
        refine lv_goto (tgt := 7) hx hb d_Mo_findPieces_24 (by decide) ?_
        exact ih _ _ _ hm KE H locs ls hP hD hS (lv_sub hl [1, 0] rfl)
  obtain ⟨f3, hb9, hm⟩ := bd1_e hm
  refine L7_4 fu _ _ _ hb9 (fun H locs ls hP hD hS hl => ?_) H locs ls hP hD hS (lv_sub hl [1, 0] rfl)
  refine lv_iconst (v := 0) hx hb d_Mo_findPieces_27 (by decide) ?_
  refine lv_istore_n (lv' := [(1, .int 0), (0, .ref a_0)]) hx hb d_Mo_findPieces_28 rfl hl (by decide) rfl (fun ls hl => ?_)
  have L29_25 : ∀ (n : Nat) (x10 : Int32) (x11 : Int32) (f12 : Nat → Int32) (f13 : Nat → Int32) (f14 : Nat → Int32) (f15 : Nat → Int32) (f16 : Nat → Int32) (f17 : Nat → Int32) (x18 : Int32) (f19 : Nat → Int32) (f20 : Nat → Int32) (f21 : Nat → Int32) (f22 : Nat → Int32) (f23 : Nat → Int32) (f24 : Nat → Int32), m_Mo_findPieces_L29 v_0_lines f_0_isFlat f_0_across f_0_lows f_0_highs f_0_xs f_0_ys f_0_labels f_0_isPoint n x10 x11 f12 f13 f14 f15 f16 f17 = some (x18, f19, f20, f21, f22, f23, f24) → (∀ (H : Heap) (locs : List Loc) (ls : Array Slot), va_P (dC, dI) vwCl (wl_Mo_findPieces a_0 a_0_isFlat a_0_across a_0_lows a_0_highs a_0_xs a_0_ys a_0_labels a_0_isPoint a_0_pieceLines a_0_pieceBegins a_0_pieceEnds a_0_pieceLeft a_0_pieceRight a_0_outs b_0_thick b_0_doorCounts b_0_doorFrom b_0_doorTo b_0_oldXs b_0_oldYs b_0_oldLabels b_0_names b_0_oldNames b_0_wanted b_0_common b_0_flatEdges b_0_upEdges b_0_stack b_0_isSeen b_0_ringSpaces b_0_ringStarts b_0_ringSizes b_0_ringLeast b_0_looseLines b_0_looseXs b_0_looseYs b_0_looseReaches b_0_far cZ cI v_0_code v_0_lines v_0_isFresh v_0_hasRun v_0_runs v_0_nx v_0_ny v_0_spaces v_0_oldNx v_0_oldNy v_0_oldSpaces v_0_points x18 v_0_rings v_0_outsideSides v_0_looseCount f_0_isFlat f_0_across f_0_lows f_0_highs f_0_xs f_0_ys f_0_labels f_0_isPoint f19 f20 f21 f22 f23 f24) H → va_D A (wl_Mo_findPieces a_0 a_0_isFlat a_0_across a_0_lows a_0_highs a_0_xs a_0_ys a_0_labels a_0_isPoint a_0_pieceLines a_0_pieceBegins a_0_pieceEnds a_0_pieceLeft a_0_pieceRight a_0_outs b_0_thick b_0_doorCounts b_0_doorFrom b_0_doorTo b_0_oldXs b_0_oldYs b_0_oldLabels b_0_names b_0_oldNames b_0_wanted b_0_common b_0_flatEdges b_0_upEdges b_0_stack b_0_isSeen b_0_ringSpaces b_0_ringStarts b_0_ringSizes b_0_ringLeast b_0_looseLines b_0_looseXs b_0_looseYs b_0_looseReaches b_0_far cZ cI v_0_code v_0_lines v_0_isFresh v_0_hasRun v_0_runs v_0_nx v_0_ny v_0_spaces v_0_oldNx v_0_oldNy v_0_oldSpaces v_0_points x18 v_0_rings v_0_outsideSides v_0_looseCount f_0_isFlat f_0_across f_0_lows f_0_highs f_0_xs f_0_ys f_0_labels f_0_isPoint f19 f20 f21 f22 f23 f24) → va_S A s.heap H locs → lv_has ls 10 [] → W p l e rm_Mo_findPieces s m args below meth c H locs 0 0 Q (F0 m 423 ls [])) → ∀ (H : Heap) (locs : List Loc) (ls : Array Slot), va_P (dC, dI) vwCl (wl_Mo_findPieces a_0 a_0_isFlat a_0_across a_0_lows a_0_highs a_0_xs a_0_ys a_0_labels a_0_isPoint a_0_pieceLines a_0_pieceBegins a_0_pieceEnds a_0_pieceLeft a_0_pieceRight a_0_outs b_0_thick b_0_doorCounts b_0_doorFrom b_0_doorTo b_0_oldXs b_0_oldYs b_0_oldLabels b_0_names b_0_oldNames b_0_wanted b_0_common b_0_flatEdges b_0_upEdges b_0_stack b_0_isSeen b_0_ringSpaces b_0_ringStarts b_0_ringSizes b_0_ringLeast b_0_looseLines b_0_looseXs b_0_looseYs b_0_looseReaches b_0_far cZ cI v_0_code v_0_lines v_0_isFresh v_0_hasRun v_0_runs v_0_nx v_0_ny v_0_spaces v_0_oldNx v_0_oldNy v_0_oldSpaces v_0_points x11 v_0_rings v_0_outsideSides v_0_looseCount f_0_isFlat f_0_across f_0_lows f_0_highs f_0_xs f_0_ys f_0_labels f_0_isPoint f12 f13 f14 f15 f16 f17) H → va_D A (wl_Mo_findPieces a_0 a_0_isFlat a_0_across a_0_lows a_0_highs a_0_xs a_0_ys a_0_labels a_0_isPoint a_0_pieceLines a_0_pieceBegins a_0_pieceEnds a_0_pieceLeft a_0_pieceRight a_0_outs b_0_thick b_0_doorCounts b_0_doorFrom b_0_doorTo b_0_oldXs b_0_oldYs b_0_oldLabels b_0_names b_0_oldNames b_0_wanted b_0_common b_0_flatEdges b_0_upEdges b_0_stack b_0_isSeen b_0_ringSpaces b_0_ringStarts b_0_ringSizes b_0_ringLeast b_0_looseLines b_0_looseXs b_0_looseYs b_0_looseReaches b_0_far cZ cI v_0_code v_0_lines v_0_isFresh v_0_hasRun v_0_runs v_0_nx v_0_ny v_0_spaces v_0_oldNx v_0_oldNy v_0_oldSpaces v_0_points x11 v_0_rings v_0_outsideSides v_0_looseCount f_0_isFlat f_0_across f_0_lows f_0_highs f_0_xs f_0_ys f_0_labels f_0_isPoint f12 f13 f14 f15 f16 f17) → va_S A s.heap H locs → lv_has ls 10 [(0, .ref a_0), (1, .int x10)] → W p l e rm_Mo_findPieces s m args below meth c H locs 0 0 Q (F0 m 29 ls []) := by
    intro n
    induction n with
    | zero => intro x10 x11 f12 f13 f14 f15 f16 f17 x18 f19 f20 f21 f22 f23 f24 hm; simp [m_Mo_findPieces_L29] at hm
    | succ n ih =>
      intro x10 x11 f12 f13 f14 f15 f16 f17 x18 f19 f20 f21 f22 f23 f24 hm KE H locs ls hP hD hS hl
      rw [m_Mo_findPieces_L29] at hm
      refine lv_iload_n hx hb d_Mo_findPieces_29 rfl (lv_at hl 1 rfl) ?_
      refine lv_aload_n hx hb d_Mo_findPieces_30 rfl (lv_at hl 0 rfl) ?_
      refine va_get (D := (dC, dI)) (ci := 11) (v := .int v_0_lines) (C := "SpaceCyclesModel") (T := F_Mo) (N := 54) hx hb hts (in_F i_Mo) hown hK hP 0 rfl rfl 6 (by decide) (hts _ (in_c k_274)) (fun _ h9 => h9) rfl d_Mo_findPieces_31 ?_
      refine lv_icmp_ge (tgt := 423) hx hb d_Mo_findPieces_34 (by decide) (fun c26 => ?_) (fun c26 => ?_)
      · replace hm := if_t hm c26
        cases hm
        exact KE H locs ls hP hD hS (lv_sub hl [] rfl)
      · replace hm := if_f hm c26
        refine lv_aload_n hx hb d_Mo_findPieces_37 rfl (lv_at hl 0 rfl) ?_
        refine va_get (D := (dC, dI)) (ci := 11) (v := .ref a_0_isFlat) (C := "SpaceCyclesModel") (T := F_Mo) (N := 54) hx hb hts (in_F i_Mo) hown hK hP 0 rfl rfl 1 (by decide) (hts _ (in_c k_279)) (fun _ h9 => h9) rfl d_Mo_findPieces_38 ?_
        refine lv_iload_n hx hb d_Mo_findPieces_41 rfl (lv_at hl 1 rfl) ?_
        obtain ⟨hi27, hm⟩ := gI_e hm
        refine va_zald hx hb hK hP 1 1 rfl rfl hi27 d_Mo_findPieces_42 ?_
        refine lv_topi (fun x28 ex28 => ?_)
        replace hm := lt_el hm ex28
        refine lv_istore_n (lv' := [(2, .int x28), (0, .ref a_0), (1, .int x10)]) hx hb d_Mo_findPieces_43 rfl hl (by decide) rfl (fun ls hl => ?_)
        refine lv_iload_n hx hb d_Mo_findPieces_44 rfl (lv_at hl 0 rfl) ?_
        obtain ⟨x32, hb30, hm⟩ := bd1_e hm
        have K29 : ∀ (H : Heap) (locs : List Loc) (ls : Array Slot), va_P (dC, dI) vwCl (wl_Mo_findPieces a_0 a_0_isFlat a_0_across a_0_lows a_0_highs a_0_xs a_0_ys a_0_labels a_0_isPoint a_0_pieceLines a_0_pieceBegins a_0_pieceEnds a_0_pieceLeft a_0_pieceRight a_0_outs b_0_thick b_0_doorCounts b_0_doorFrom b_0_doorTo b_0_oldXs b_0_oldYs b_0_oldLabels b_0_names b_0_oldNames b_0_wanted b_0_common b_0_flatEdges b_0_upEdges b_0_stack b_0_isSeen b_0_ringSpaces b_0_ringStarts b_0_ringSizes b_0_ringLeast b_0_looseLines b_0_looseXs b_0_looseYs b_0_looseReaches b_0_far cZ cI v_0_code v_0_lines v_0_isFresh v_0_hasRun v_0_runs v_0_nx v_0_ny v_0_spaces v_0_oldNx v_0_oldNy v_0_oldSpaces v_0_points x11 v_0_rings v_0_outsideSides v_0_looseCount f_0_isFlat f_0_across f_0_lows f_0_highs f_0_xs f_0_ys f_0_labels f_0_isPoint f12 f13 f14 f15 f16 f17) H → va_D A (wl_Mo_findPieces a_0 a_0_isFlat a_0_across a_0_lows a_0_highs a_0_xs a_0_ys a_0_labels a_0_isPoint a_0_pieceLines a_0_pieceBegins a_0_pieceEnds a_0_pieceLeft a_0_pieceRight a_0_outs b_0_thick b_0_doorCounts b_0_doorFrom b_0_doorTo b_0_oldXs b_0_oldYs b_0_oldLabels b_0_names b_0_oldNames b_0_wanted b_0_common b_0_flatEdges b_0_upEdges b_0_stack b_0_isSeen b_0_ringSpaces b_0_ringStarts b_0_ringSizes b_0_ringLeast b_0_looseLines b_0_looseXs b_0_looseYs b_0_looseReaches b_0_far cZ cI v_0_code v_0_lines v_0_isFresh v_0_hasRun v_0_runs v_0_nx v_0_ny v_0_spaces v_0_oldNx v_0_oldNy v_0_oldSpaces v_0_points x11 v_0_rings v_0_outsideSides v_0_looseCount f_0_isFlat f_0_across f_0_lows f_0_highs f_0_xs f_0_ys f_0_labels f_0_isPoint f12 f13 f14 f15 f16 f17) → va_S A s.heap H locs → lv_has ls 10 [(0, .ref a_0), (1, .int x10), (2, .int x28)] → W p l e rm_Mo_findPieces s m args below meth c H locs 0 0 Q (F0 m 77 ls [.int x32]) := by
          intro H locs ls hP hD hS hl
          refine lv_istore_n (lv' := [(3, .int x32), (0, .ref a_0), (1, .int x10), (2, .int x28)]) hx hb d_Mo_findPieces_77 rfl hl (by decide) rfl (fun ls hl => ?_)
          refine lv_iload_n hx hb d_Mo_findPieces_78 rfl (lv_at hl 3 rfl) ?_
          obtain ⟨x43, hb41, hm⟩ := bd1_e hm
          have K40 : ∀ (H : Heap) (locs : List Loc) (ls : Array Slot), va_P (dC, dI) vwCl (wl_Mo_findPieces a_0 a_0_isFlat a_0_across a_0_lows a_0_highs a_0_xs a_0_ys a_0_labels a_0_isPoint a_0_pieceLines a_0_pieceBegins a_0_pieceEnds a_0_pieceLeft a_0_pieceRight a_0_outs b_0_thick b_0_doorCounts b_0_doorFrom b_0_doorTo b_0_oldXs b_0_oldYs b_0_oldLabels b_0_names b_0_oldNames b_0_wanted b_0_common b_0_flatEdges b_0_upEdges b_0_stack b_0_isSeen b_0_ringSpaces b_0_ringStarts b_0_ringSizes b_0_ringLeast b_0_looseLines b_0_looseXs b_0_looseYs b_0_looseReaches b_0_far cZ cI v_0_code v_0_lines v_0_isFresh v_0_hasRun v_0_runs v_0_nx v_0_ny v_0_spaces v_0_oldNx v_0_oldNy v_0_oldSpaces v_0_points x11 v_0_rings v_0_outsideSides v_0_looseCount f_0_isFlat f_0_across f_0_lows f_0_highs f_0_xs f_0_ys f_0_labels f_0_isPoint f12 f13 f14 f15 f16 f17) H → va_D A (wl_Mo_findPieces a_0 a_0_isFlat a_0_across a_0_lows a_0_highs a_0_xs a_0_ys a_0_labels a_0_isPoint a_0_pieceLines a_0_pieceBegins a_0_pieceEnds a_0_pieceLeft a_0_pieceRight a_0_outs b_0_thick b_0_doorCounts b_0_doorFrom b_0_doorTo b_0_oldXs b_0_oldYs b_0_oldLabels b_0_names b_0_oldNames b_0_wanted b_0_common b_0_flatEdges b_0_upEdges b_0_stack b_0_isSeen b_0_ringSpaces b_0_ringStarts b_0_ringSizes b_0_ringLeast b_0_looseLines b_0_looseXs b_0_looseYs b_0_looseReaches b_0_far cZ cI v_0_code v_0_lines v_0_isFresh v_0_hasRun v_0_runs v_0_nx v_0_ny v_0_spaces v_0_oldNx v_0_oldNy v_0_oldSpaces v_0_points x11 v_0_rings v_0_outsideSides v_0_looseCount f_0_isFlat f_0_across f_0_lows f_0_highs f_0_xs f_0_ys f_0_labels f_0_isPoint f12 f13 f14 f15 f16 f17) → va_S A s.heap H locs → lv_has ls 10 [(0, .ref a_0), (1, .int x10), (2, .int x28), (3, .int x32)] → W p l e rm_Mo_findPieces s m args below meth c H locs 0 0 Q (F0 m 111 ls [.int x43]) := by
            intro H locs ls hP hD hS hl
            refine lv_istore (lv' := [(4, .int x43), (0, .ref a_0), (1, .int x10), (2, .int x28), (3, .int x32)]) hx hb d_Mo_findPieces_111 hl (by decide) rfl (fun ls hl => ?_)
            refine lv_iload_n hx hb d_Mo_findPieces_113 rfl (lv_at hl 3 rfl) ?_
            obtain ⟨x54, hb52, hm⟩ := bd1_e hm
            have K51 : ∀ (H : Heap) (locs : List Loc) (ls : Array Slot), va_P (dC, dI) vwCl (wl_Mo_findPieces a_0 a_0_isFlat a_0_across a_0_lows a_0_highs a_0_xs a_0_ys a_0_labels a_0_isPoint a_0_pieceLines a_0_pieceBegins a_0_pieceEnds a_0_pieceLeft a_0_pieceRight a_0_outs b_0_thick b_0_doorCounts b_0_doorFrom b_0_doorTo b_0_oldXs b_0_oldYs b_0_oldLabels b_0_names b_0_oldNames b_0_wanted b_0_common b_0_flatEdges b_0_upEdges b_0_stack b_0_isSeen b_0_ringSpaces b_0_ringStarts b_0_ringSizes b_0_ringLeast b_0_looseLines b_0_looseXs b_0_looseYs b_0_looseReaches b_0_far cZ cI v_0_code v_0_lines v_0_isFresh v_0_hasRun v_0_runs v_0_nx v_0_ny v_0_spaces v_0_oldNx v_0_oldNy v_0_oldSpaces v_0_points x11 v_0_rings v_0_outsideSides v_0_looseCount f_0_isFlat f_0_across f_0_lows f_0_highs f_0_xs f_0_ys f_0_labels f_0_isPoint f12 f13 f14 f15 f16 f17) H → va_D A (wl_Mo_findPieces a_0 a_0_isFlat a_0_across a_0_lows a_0_highs a_0_xs a_0_ys a_0_labels a_0_isPoint a_0_pieceLines a_0_pieceBegins a_0_pieceEnds a_0_pieceLeft a_0_pieceRight a_0_outs b_0_thick b_0_doorCounts b_0_doorFrom b_0_doorTo b_0_oldXs b_0_oldYs b_0_oldLabels b_0_names b_0_oldNames b_0_wanted b_0_common b_0_flatEdges b_0_upEdges b_0_stack b_0_isSeen b_0_ringSpaces b_0_ringStarts b_0_ringSizes b_0_ringLeast b_0_looseLines b_0_looseXs b_0_looseYs b_0_looseReaches b_0_far cZ cI v_0_code v_0_lines v_0_isFresh v_0_hasRun v_0_runs v_0_nx v_0_ny v_0_spaces v_0_oldNx v_0_oldNy v_0_oldSpaces v_0_points x11 v_0_rings v_0_outsideSides v_0_looseCount f_0_isFlat f_0_across f_0_lows f_0_highs f_0_xs f_0_ys f_0_labels f_0_isPoint f12 f13 f14 f15 f16 f17) → va_S A s.heap H locs → lv_has ls 10 [(0, .ref a_0), (1, .int x10), (2, .int x28), (3, .int x32), (4, .int x43)] → W p l e rm_Mo_findPieces s m args below meth c H locs 0 0 Q (F0 m 146 ls [.int x54]) := by
              intro H locs ls hP hD hS hl
              refine lv_istore (lv' := [(5, .int x54), (0, .ref a_0), (1, .int x10), (2, .int x28), (3, .int x32), (4, .int x43)]) hx hb d_Mo_findPieces_146 hl (by decide) rfl (fun ls hl => ?_)
              refine lv_iload hx hb d_Mo_findPieces_148 (lv_at hl 5 rfl) ?_
              refine lv_istore (lv' := [(6, .int x43), (5, .int x54), (0, .ref a_0), (1, .int x10), (2, .int x28), (3, .int x32), (4, .int x43)]) hx hb d_Mo_findPieces_150 hl (by decide) rfl (fun ls hl => ?_)
              refine lv_iload hx hb d_Mo_findPieces_152 (lv_at hl 6 rfl) ?_
              refine lv_iconst (v := 1) hx hb d_Mo_findPieces_154 (by decide) ?_
              refine lv_iadd hx hb d_Mo_findPieces_155 ?_
              refine lv_topi (fun x62 ex62 => ?_)
              replace hm := lt_el hm ex62
              refine lv_istore (lv' := [(7, .int x62), (6, .int x43), (5, .int x54), (0, .ref a_0), (1, .int x10), (2, .int x28), (3, .int x32), (4, .int x43)]) hx hb d_Mo_findPieces_156 hl (by decide) rfl (fun ls hl => ?_)
              have L158_79 : ∀ (n : Nat) (x63 : Int32) (x64 : Int32) (x65 : Int32) (f66 : Nat → Int32) (f67 : Nat → Int32) (f68 : Nat → Int32) (f69 : Nat → Int32) (f70 : Nat → Int32) (f71 : Nat → Int32) (x72 : Int32) (f73 : Nat → Int32) (f74 : Nat → Int32) (f75 : Nat → Int32) (f76 : Nat → Int32) (f77 : Nat → Int32) (f78 : Nat → Int32), m_Mo_findPieces_L158 x10 x28 x32 x54 f_0_labels f_0_isPoint n x63 x64 x65 f66 f67 f68 f69 f70 f71 = some (x72, f73, f74, f75, f76, f77, f78) → (∀ (H : Heap) (locs : List Loc) (ls : Array Slot), va_P (dC, dI) vwCl (wl_Mo_findPieces a_0 a_0_isFlat a_0_across a_0_lows a_0_highs a_0_xs a_0_ys a_0_labels a_0_isPoint a_0_pieceLines a_0_pieceBegins a_0_pieceEnds a_0_pieceLeft a_0_pieceRight a_0_outs b_0_thick b_0_doorCounts b_0_doorFrom b_0_doorTo b_0_oldXs b_0_oldYs b_0_oldLabels b_0_names b_0_oldNames b_0_wanted b_0_common b_0_flatEdges b_0_upEdges b_0_stack b_0_isSeen b_0_ringSpaces b_0_ringStarts b_0_ringSizes b_0_ringLeast b_0_looseLines b_0_looseXs b_0_looseYs b_0_looseReaches b_0_far cZ cI v_0_code v_0_lines v_0_isFresh v_0_hasRun v_0_runs v_0_nx v_0_ny v_0_spaces v_0_oldNx v_0_oldNy v_0_oldSpaces v_0_points x72 v_0_rings v_0_outsideSides v_0_looseCount f_0_isFlat f_0_across f_0_lows f_0_highs f_0_xs f_0_ys f_0_labels f_0_isPoint f73 f74 f75 f76 f77 f78) H → va_D A (wl_Mo_findPieces a_0 a_0_isFlat a_0_across a_0_lows a_0_highs a_0_xs a_0_ys a_0_labels a_0_isPoint a_0_pieceLines a_0_pieceBegins a_0_pieceEnds a_0_pieceLeft a_0_pieceRight a_0_outs b_0_thick b_0_doorCounts b_0_doorFrom b_0_doorTo b_0_oldXs b_0_oldYs b_0_oldLabels b_0_names b_0_oldNames b_0_wanted b_0_common b_0_flatEdges b_0_upEdges b_0_stack b_0_isSeen b_0_ringSpaces b_0_ringStarts b_0_ringSizes b_0_ringLeast b_0_looseLines b_0_looseXs b_0_looseYs b_0_looseReaches b_0_far cZ cI v_0_code v_0_lines v_0_isFresh v_0_hasRun v_0_runs v_0_nx v_0_ny v_0_spaces v_0_oldNx v_0_oldNy v_0_oldSpaces v_0_points x72 v_0_rings v_0_outsideSides v_0_looseCount f_0_isFlat f_0_across f_0_lows f_0_highs f_0_xs f_0_ys f_0_labels f_0_isPoint f73 f74 f75 f76 f77 f78) → va_S A s.heap H locs → lv_has ls 10 [(0, .ref a_0), (1, .int x10)] → W p l e rm_Mo_findPieces s m args below meth c H locs 0 0 Q (F0 m 417 ls [])) → ∀ (H : Heap) (locs : List Loc) (ls : Array Slot), va_P (dC, dI) vwCl (wl_Mo_findPieces a_0 a_0_isFlat a_0_across a_0_lows a_0_highs a_0_xs a_0_ys a_0_labels a_0_isPoint a_0_pieceLines a_0_pieceBegins a_0_pieceEnds a_0_pieceLeft a_0_pieceRight a_0_outs b_0_thick b_0_doorCounts b_0_doorFrom b_0_doorTo b_0_oldXs b_0_oldYs b_0_oldLabels b_0_names b_0_oldNames b_0_wanted b_0_common b_0_flatEdges b_0_upEdges b_0_stack b_0_isSeen b_0_ringSpaces b_0_ringStarts b_0_ringSizes b_0_ringLeast b_0_looseLines b_0_looseXs b_0_looseYs b_0_looseReaches b_0_far cZ cI v_0_code v_0_lines v_0_isFresh v_0_hasRun v_0_runs v_0_nx v_0_ny v_0_spaces v_0_oldNx v_0_oldNy v_0_oldSpaces v_0_points x65 v_0_rings v_0_outsideSides v_0_looseCount f_0_isFlat f_0_across f_0_lows f_0_highs f_0_xs f_0_ys f_0_labels f_0_isPoint f66 f67 f68 f69 f70 f71) H → va_D A (wl_Mo_findPieces a_0 a_0_isFlat a_0_across a_0_lows a_0_highs a_0_xs a_0_ys a_0_labels a_0_isPoint a_0_pieceLines a_0_pieceBegins a_0_pieceEnds a_0_pieceLeft a_0_pieceRight a_0_outs b_0_thick b_0_doorCounts b_0_doorFrom b_0_doorTo b_0_oldXs b_0_oldYs b_0_oldLabels b_0_names b_0_oldNames b_0_wanted b_0_common b_0_flatEdges b_0_upEdges b_0_stack b_0_isSeen b_0_ringSpaces b_0_ringStarts b_0_ringSizes b_0_ringLeast b_0_looseLines b_0_looseXs b_0_looseYs b_0_looseReaches b_0_far cZ cI v_0_code v_0_lines v_0_isFresh v_0_hasRun v_0_runs v_0_nx v_0_ny v_0_spaces v_0_oldNx v_0_oldNy v_0_oldSpaces v_0_points x65 v_0_rings v_0_outsideSides v_0_looseCount f_0_isFlat f_0_across f_0_lows f_0_highs f_0_xs f_0_ys f_0_labels f_0_isPoint f66 f67 f68 f69 f70 f71) → va_S A s.heap H locs → lv_has ls 10 [(0, .ref a_0), (1, .int x10), (2, .int x28), (3, .int x32), (5, .int x54), (6, .int x63), (7, .int x64)] → W p l e rm_Mo_findPieces s m args below meth c H locs 0 0 Q (F0 m 158 ls []) := by
                intro n
                induction n with
                | zero => intro x63 x64 x65 f66 f67 f68 f69 f70 f71 x72 f73 f74 f75 f76 f77 f78 hm; simp [m_Mo_findPieces_L158] at hm
                | succ n ih =>
                  intro x63 x64 x65 f66 f67 f68 f69 f70 f71 x72 f73 f74 f75 f76 f77 f78 hm KE H locs ls hP hD hS hl
                  rw [m_Mo_findPieces_L158] at hm
                  refine lv_iload hx hb d_Mo_findPieces_158 (lv_at hl 6 rfl) ?_
                  refine lv_iload hx hb d_Mo_findPieces_160 (lv_at hl 4 rfl) ?_
                  refine lv_icmp_gt (tgt := 417) hx hb d_Mo_findPieces_162 (by decide) (fun c80 => ?_) (fun c80 => ?_)
                  · replace hm := if_t hm c80
                    cases hm
                    exact KE H locs ls hP hD hS (lv_sub hl [0, 1] rfl)
                  · replace hm := if_f hm c80
                    refine lv_iload_n hx hb d_Mo_findPieces_165 rfl (lv_at hl 2 rfl) ?_
                    obtain ⟨x84, hb82, hm⟩ := bd1_e hm
                    have K81 : ∀ (H : Heap) (locs : List Loc) (ls : Array Slot), va_P (dC, dI) vwCl (wl_Mo_findPieces a_0 a_0_isFlat a_0_across a_0_lows a_0_highs a_0_xs a_0_ys a_0_labels a_0_isPoint a_0_pieceLines a_0_pieceBegins a_0_pieceEnds a_0_pieceLeft a_0_pieceRight a_0_outs b_0_thick b_0_doorCounts b_0_doorFrom b_0_doorTo b_0_oldXs b_0_oldYs b_0_oldLabels b_0_names b_0_oldNames b_0_wanted b_0_common b_0_flatEdges b_0_upEdges b_0_stack b_0_isSeen b_0_ringSpaces b_0_ringStarts b_0_ringSizes b_0_ringLeast b_0_looseLines b_0_looseXs b_0_looseYs b_0_looseReaches b_0_far cZ cI v_0_code v_0_lines v_0_isFresh v_0_hasRun v_0_runs v_0_nx v_0_ny v_0_spaces v_0_oldNx v_0_oldNy v_0_oldSpaces v_0_points x65 v_0_rings v_0_outsideSides v_0_looseCount f_0_isFlat f_0_across f_0_lows f_0_highs f_0_xs f_0_ys f_0_labels f_0_isPoint f66 f67 f68 f69 f70 f71) H → va_D A (wl_Mo_findPieces a_0 a_0_isFlat a_0_across a_0_lows a_0_highs a_0_xs a_0_ys a_0_labels a_0_isPoint a_0_pieceLines a_0_pieceBegins a_0_pieceEnds a_0_pieceLeft a_0_pieceRight a_0_outs b_0_thick b_0_doorCounts b_0_doorFrom b_0_doorTo b_0_oldXs b_0_oldYs b_0_oldLabels b_0_names b_0_oldNames b_0_wanted b_0_common b_0_flatEdges b_0_upEdges b_0_stack b_0_isSeen b_0_ringSpaces b_0_ringStarts b_0_ringSizes b_0_ringLeast b_0_looseLines b_0_looseXs b_0_looseYs b_0_looseReaches b_0_far cZ cI v_0_code v_0_lines v_0_isFresh v_0_hasRun v_0_runs v_0_nx v_0_ny v_0_spaces v_0_oldNx v_0_oldNy v_0_oldSpaces v_0_points x65 v_0_rings v_0_outsideSides v_0_looseCount f_0_isFlat f_0_across f_0_lows f_0_highs f_0_xs f_0_ys f_0_labels f_0_isPoint f66 f67 f68 f69 f70 f71) → va_S A s.heap H locs → lv_has ls 10 [(0, .ref a_0), (1, .int x10), (2, .int x28), (3, .int x32), (5, .int x54), (6, .int x63), (7, .int x64)] → W p l e rm_Mo_findPieces s m args below meth c H locs 0 0 Q (F0 m 186 ls [.int x84]) := by
                      intro H locs ls hP hD hS hl
                      refine lv_istore (lv' := [(8, .int x84), (0, .ref a_0), (1, .int x10), (2, .int x28), (3, .int x32), (5, .int x54), (6, .int x63), (7, .int x64)]) hx hb d_Mo_findPieces_186 hl (by decide) rfl (fun ls hl => ?_)
                      refine lv_aload_n hx hb d_Mo_findPieces_188 rfl (lv_at hl 1 rfl) ?_
                      refine va_get (D := (dC, dI)) (ci := 11) (v := .ref a_0_isPoint) (C := "SpaceCyclesModel") (T := F_Mo) (N := 54) hx hb hts (in_F i_Mo) hown hK hP 0 rfl rfl 31 (by decide) (hts _ (in_c k_309)) (fun _ h9 => h9) rfl d_Mo_findPieces_189 ?_
                      refine lv_iload hx hb d_Mo_findPieces_192 (lv_at hl 0 rfl) ?_
                      obtain ⟨hi86, hm⟩ := gI_e hm
                      refine va_zald hx hb hK hP 8 1 rfl rfl hi86 d_Mo_findPieces_194 ?_
                      obtain ⟨x90, x91, f92, f93, f94, f95, f96, f97, hb88, hm⟩ := bd8_e hm
                      have K87 : ∀ (H : Heap) (locs : List Loc) (ls : Array Slot), va_P (dC, dI) vwCl (wl_Mo_findPieces a_0 a_0_isFlat a_0_across a_0_lows a_0_highs a_0_xs a_0_ys a_0_labels a_0_isPoint a_0_pieceLines a_0_pieceBegins a_0_pieceEnds a_0_pieceLeft a_0_pieceRight a_0_outs b_0_thick b_0_doorCounts b_0_doorFrom b_0_doorTo b_0_oldXs b_0_oldYs b_0_oldLabels b_0_names b_0_oldNames b_0_wanted b_0_common b_0_flatEdges b_0_upEdges b_0_stack b_0_isSeen b_0_ringSpaces b_0_ringStarts b_0_ringSizes b_0_ringLeast b_0_looseLines b_0_looseXs b_0_looseYs b_0_looseReaches b_0_far cZ cI v_0_code v_0_lines v_0_isFresh v_0_hasRun v_0_runs v_0_nx v_0_ny v_0_spaces v_0_oldNx v_0_oldNy v_0_oldSpaces v_0_points x91 v_0_rings v_0_outsideSides v_0_looseCount f_0_isFlat f_0_across f_0_lows f_0_highs f_0_xs f_0_ys f_0_labels f_0_isPoint f92 f93 f94 f95 f96 f97) H → va_D A (wl_Mo_findPieces a_0 a_0_isFlat a_0_across a_0_lows a_0_highs a_0_xs a_0_ys a_0_labels a_0_isPoint a_0_pieceLines a_0_pieceBegins a_0_pieceEnds a_0_pieceLeft a_0_pieceRight a_0_outs b_0_thick b_0_doorCounts b_0_doorFrom b_0_doorTo b_0_oldXs b_0_oldYs b_0_oldLabels b_0_names b_0_oldNames b_0_wanted b_0_common b_0_flatEdges b_0_upEdges b_0_stack b_0_isSeen b_0_ringSpaces b_0_ringStarts b_0_ringSizes b_0_ringLeast b_0_looseLines b_0_looseXs b_0_looseYs b_0_looseReaches b_0_far cZ cI v_0_code v_0_lines v_0_isFresh v_0_hasRun v_0_runs v_0_nx v_0_ny v_0_spaces v_0_oldNx v_0_oldNy v_0_oldSpaces v_0_points x91 v_0_rings v_0_outsideSides v_0_looseCount f_0_isFlat f_0_across f_0_lows f_0_highs f_0_xs f_0_ys f_0_labels f_0_isPoint f92 f93 f94 f95 f96 f97) → va_S A s.heap H locs → lv_has ls 10 [(0, .ref a_0), (1, .int x10), (2, .int x28), (3, .int x32), (5, .int x54), (6, .int x90), (7, .int x64)] → W p l e rm_Mo_findPieces s m args below meth c H locs 0 0 Q (F0 m 411 ls []) := by
                        intro H locs ls hP hD hS hl
                        obtain ⟨x143, ex143⟩ : ∃ y : Int32, y = x64 + 1 := ⟨_, rfl⟩
                        replace hm := lt_el hm ex143
                        refine lv_iinc (v := x143) (lv' := [(7, .int x143), (0, .ref a_0), (1, .int x10), (2, .int x28), (3, .int x32), (5, .int x54), (6, .int x90)]) hx hb d_Mo_findPieces_411 hl (k := 6) rfl (by rw [ex143]; rfl) (by decide) rfl (fun ls hl => ?_)
                        refine lv_goto (tgt := 158) hx hb d_Mo_findPieces_414 (by decide) ?_
                        exact ih _ _ _ _ _ _ _ _ _ _ _ _ _ _ _ _ hm KE H locs ls hP hD hS (lv_sub hl [1, 2, 3, 4, 5, 6, 0] rfl)
                      replace hm := hb88
                      refine lv_if_eq (tgt := 411) hx hb d_Mo_findPieces_195 (by decide) (fun c98 => ?_) (fun c98 => ?_)
                      · replace hm := if_t hm c98
                        cases hm
                        exact K87 H locs ls hP hD hS (lv_sub hl [1, 2, 3, 4, 5, 6, 7] rfl)
                      · replace hm := if_f hm c98
                        refine lv_iload_n hx hb d_Mo_findPieces_198 rfl (lv_at hl 3 rfl) ?_
                        obtain ⟨x102, hb100, hm⟩ := bd1_e hm
                        have K99 : ∀ (H : Heap) (locs : List Loc) (ls : Array Slot), va_P (dC, dI) vwCl (wl_Mo_findPieces a_0 a_0_isFlat a_0_across a_0_lows a_0_highs a_0_xs a_0_ys a_0_labels a_0_isPoint a_0_pieceLines a_0_pieceBegins a_0_pieceEnds a_0_pieceLeft a_0_pieceRight a_0_outs b_0_thick b_0_doorCounts b_0_doorFrom b_0_doorTo b_0_oldXs b_0_oldYs b_0_oldLabels b_0_names b_0_oldNames b_0_wanted b_0_common b_0_flatEdges b_0_upEdges b_0_stack b_0_isSeen b_0_ringSpaces b_0_ringStarts b_0_ringSizes b_0_ringLeast b_0_looseLines b_0_looseXs b_0_looseYs b_0_looseReaches b_0_far cZ cI v_0_code v_0_lines v_0_isFresh v_0_hasRun v_0_runs v_0_nx v_0_ny v_0_spaces v_0_oldNx v_0_oldNy v_0_oldSpaces v_0_points x65 v_0_rings v_0_outsideSides v_0_looseCount f_0_isFlat f_0_across f_0_lows f_0_highs f_0_xs f_0_ys f_0_labels f_0_isPoint f66 f67 f68 f69 f70 f71) H → va_D A (wl_Mo_findPieces a_0 a_0_isFlat a_0_across a_0_lows a_0_highs a_0_xs a_0_ys a_0_labels a_0_isPoint a_0_pieceLines a_0_pieceBegins a_0_pieceEnds a_0_pieceLeft a_0_pieceRight a_0_outs b_0_thick b_0_doorCounts b_0_doorFrom b_0_doorTo b_0_oldXs b_0_oldYs b_0_oldLabels b_0_names b_0_oldNames b_0_wanted b_0_common b_0_flatEdges b_0_upEdges b_0_stack b_0_isSeen b_0_ringSpaces b_0_ringStarts b_0_ringSizes b_0_ringLeast b_0_looseLines b_0_looseXs b_0_looseYs b_0_looseReaches b_0_far cZ cI v_0_code v_0_lines v_0_isFresh v_0_hasRun v_0_runs v_0_nx v_0_ny v_0_spaces v_0_oldNx v_0_oldNy v_0_oldSpaces v_0_points x65 v_0_rings v_0_outsideSides v_0_looseCount f_0_isFlat f_0_across f_0_lows f_0_highs f_0_xs f_0_ys f_0_labels f_0_isPoint f66 f67 f68 f69 f70 f71) → va_S A s.heap H locs → lv_has ls 10 [(0, .ref a_0), (1, .int x10), (2, .int x28), (3, .int x32), (5, .int x54), (6, .int x63), (7, .int x64), (8, .int x84)] → W p l e rm_Mo_findPieces s m args below meth c H locs 0 0 Q (F0 m 219 ls [.int x102]) := by
                          intro H locs ls hP hD hS hl
                          refine lv_istore (lv' := [(9, .int x102), (0, .ref a_0), (1, .int x10), (2, .int x28), (3, .int x32), (5, .int x54), (6, .int x63), (7, .int x64), (8, .int x84)]) hx hb d_Mo_findPieces_219 hl (by decide) rfl (fun ls hl => ?_)
                          refine lv_aload_n hx hb d_Mo_findPieces_221 rfl (lv_at hl 1 rfl) ?_
                          refine va_get (D := (dC, dI)) (ci := 11) (v := .ref a_0_pieceLines) (C := "SpaceCyclesModel") (T := F_Mo) (N := 54) hx hb hts (in_F i_Mo) hown hK hP 0 rfl rfl 34 (by decide) (hts _ (in_c k_331)) (fun _ h9 => h9) rfl d_Mo_findPieces_222 ?_
                          refine lv_aload_n hx hb d_Mo_findPieces_225 rfl (lv_at hl 1 rfl) ?_
                          refine va_get (D := (dC, dI)) (ci := 11) (v := .int x65) (C := "SpaceCyclesModel") (T := F_Mo) (N := 54) hx hb hts (in_F i_Mo) hown hK hP 0 rfl rfl 39 (by decide) (hts _ (in_c k_329)) (fun _ h9 => h9) rfl d_Mo_findPieces_226 ?_
                          refine lv_iload_n hx hb d_Mo_findPieces_229 rfl (lv_at hl 2 rfl) ?_
                          obtain ⟨hi104, hm⟩ := gI_e hm
                          obtain ⟨f105, ef105⟩ : ∃ y : Nat → Int32, y = upd f66 x65.toNatClampNeg x10 := ⟨_, rfl⟩
                          replace hm := lt_el hm ef105
                          refine va_iast hx hb hK hP hD hS 9 0 rfl rfl hi104 d_Mo_findPieces_230 (fun H locs hP hD hS => ?_)
                          rw [← ef105] at hP hD
                          have hP : va_P (dC, dI) vwCl (wl_Mo_findPieces a_0 a_0_isFlat a_0_across a_0_lows a_0_highs a_0_xs a_0_ys a_0_labels a_0_isPoint a_0_pieceLines a_0_pieceBegins a_0_pieceEnds a_0_pieceLeft a_0_pieceRight a_0_outs b_0_thick b_0_doorCounts b_0_doorFrom b_0_doorTo b_0_oldXs b_0_oldYs b_0_oldLabels b_0_names b_0_oldNames b_0_wanted b_0_common b_0_flatEdges b_0_upEdges b_0_stack b_0_isSeen b_0_ringSpaces b_0_ringStarts b_0_ringSizes b_0_ringLeast b_0_looseLines b_0_looseXs b_0_looseYs b_0_looseReaches b_0_far cZ cI v_0_code v_0_lines v_0_isFresh v_0_hasRun v_0_runs v_0_nx v_0_ny v_0_spaces v_0_oldNx v_0_oldNy v_0_oldSpaces v_0_points x65 v_0_rings v_0_outsideSides v_0_looseCount f_0_isFlat f_0_across f_0_lows f_0_highs f_0_xs f_0_ys f_0_labels f_0_isPoint f105 f67 f68 f69 f70 f71) H := hP
                          have hD : va_D A (wl_Mo_findPieces a_0 a_0_isFlat a_0_across a_0_lows a_0_highs a_0_xs a_0_ys a_0_labels a_0_isPoint a_0_pieceLines a_0_pieceBegins a_0_pieceEnds a_0_pieceLeft a_0_pieceRight a_0_outs b_0_thick b_0_doorCounts b_0_doorFrom b_0_doorTo b_0_oldXs b_0_oldYs b_0_oldLabels b_0_names b_0_oldNames b_0_wanted b_0_common b_0_flatEdges b_0_upEdges b_0_stack b_0_isSeen b_0_ringSpaces b_0_ringStarts b_0_ringSizes b_0_ringLeast b_0_looseLines b_0_looseXs b_0_looseYs b_0_looseReaches b_0_far cZ cI v_0_code v_0_lines v_0_isFresh v_0_hasRun v_0_runs v_0_nx v_0_ny v_0_spaces v_0_oldNx v_0_oldNy v_0_oldSpaces v_0_points x65 v_0_rings v_0_outsideSides v_0_looseCount f_0_isFlat f_0_across f_0_lows f_0_highs f_0_xs f_0_ys f_0_labels f_0_isPoint f105 f67 f68 f69 f70 f71) := hD
                          refine lv_aload_n hx hb d_Mo_findPieces_231 rfl (lv_at hl 1 rfl) ?_
                          refine va_get (D := (dC, dI)) (ci := 11) (v := .ref a_0_pieceBegins) (C := "SpaceCyclesModel") (T := F_Mo) (N := 54) hx hb hts (in_F i_Mo) hown hK hP 0 rfl rfl 35 (by decide) (hts _ (in_c k_332)) (fun _ h9 => h9) rfl d_Mo_findPieces_232 ?_
                          refine lv_aload_n hx hb d_Mo_findPieces_235 rfl (lv_at hl 1 rfl) ?_
                          refine va_get (D := (dC, dI)) (ci := 11) (v := .int x65) (C := "SpaceCyclesModel") (T := F_Mo) (N := 54) hx hb hts (in_F i_Mo) hown hK hP 0 rfl rfl 39 (by decide) (hts _ (in_c k_329)) (fun _ h9 => h9) rfl d_Mo_findPieces_236 ?_
                          refine lv_iload hx hb d_Mo_findPieces_239 (lv_at hl 0 rfl) ?_
                          obtain ⟨hi106, hm⟩ := gI_e hm
                          obtain ⟨f107, ef107⟩ : ∃ y : Nat → Int32, y = upd f67 x65.toNatClampNeg x102 := ⟨_, rfl⟩
                          replace hm := lt_el hm ef107
                          refine va_iast hx hb hK hP hD hS 10 0 rfl rfl hi106 d_Mo_findPieces_241 (fun H locs hP hD hS => ?_)
                          rw [← ef107] at hP hD
                          have hP : va_P (dC, dI) vwCl (wl_Mo_findPieces a_0 a_0_isFlat a_0_across a_0_lows a_0_highs a_0_xs a_0_ys a_0_labels a_0_isPoint a_0_pieceLines a_0_pieceBegins a_0_pieceEnds a_0_pieceLeft a_0_pieceRight a_0_outs b_0_thick b_0_doorCounts b_0_doorFrom b_0_doorTo b_0_oldXs b_0_oldYs b_0_oldLabels b_0_names b_0_oldNames b_0_wanted b_0_common b_0_flatEdges b_0_upEdges b_0_stack b_0_isSeen b_0_ringSpaces b_0_ringStarts b_0_ringSizes b_0_ringLeast b_0_looseLines b_0_looseXs b_0_looseYs b_0_looseReaches b_0_far cZ cI v_0_code v_0_lines v_0_isFresh v_0_hasRun v_0_runs v_0_nx v_0_ny v_0_spaces v_0_oldNx v_0_oldNy v_0_oldSpaces v_0_points x65 v_0_rings v_0_outsideSides v_0_looseCount f_0_isFlat f_0_across f_0_lows f_0_highs f_0_xs f_0_ys f_0_labels f_0_isPoint f105 f107 f68 f69 f70 f71) H := hP
                          have hD : va_D A (wl_Mo_findPieces a_0 a_0_isFlat a_0_across a_0_lows a_0_highs a_0_xs a_0_ys a_0_labels a_0_isPoint a_0_pieceLines a_0_pieceBegins a_0_pieceEnds a_0_pieceLeft a_0_pieceRight a_0_outs b_0_thick b_0_doorCounts b_0_doorFrom b_0_doorTo b_0_oldXs b_0_oldYs b_0_oldLabels b_0_names b_0_oldNames b_0_wanted b_0_common b_0_flatEdges b_0_upEdges b_0_stack b_0_isSeen b_0_ringSpaces b_0_ringStarts b_0_ringSizes b_0_ringLeast b_0_looseLines b_0_looseXs b_0_looseYs b_0_looseReaches b_0_far cZ cI v_0_code v_0_lines v_0_isFresh v_0_hasRun v_0_runs v_0_nx v_0_ny v_0_spaces v_0_oldNx v_0_oldNy v_0_oldSpaces v_0_points x65 v_0_rings v_0_outsideSides v_0_looseCount f_0_isFlat f_0_across f_0_lows f_0_highs f_0_xs f_0_ys f_0_labels f_0_isPoint f105 f107 f68 f69 f70 f71) := hD
                          refine lv_aload_n hx hb d_Mo_findPieces_242 rfl (lv_at hl 1 rfl) ?_
                          refine va_get (D := (dC, dI)) (ci := 11) (v := .ref a_0_pieceEnds) (C := "SpaceCyclesModel") (T := F_Mo) (N := 54) hx hb hts (in_F i_Mo) hown hK hP 0 rfl rfl 36 (by decide) (hts _ (in_c k_333)) (fun _ h9 => h9) rfl d_Mo_findPieces_243 ?_
                          refine lv_aload_n hx hb d_Mo_findPieces_246 rfl (lv_at hl 1 rfl) ?_
                          refine va_get (D := (dC, dI)) (ci := 11) (v := .int x65) (C := "SpaceCyclesModel") (T := F_Mo) (N := 54) hx hb hts (in_F i_Mo) hown hK hP 0 rfl rfl 39 (by decide) (hts _ (in_c k_329)) (fun _ h9 => h9) rfl d_Mo_findPieces_247 ?_
                          refine lv_iload hx hb d_Mo_findPieces_250 (lv_at hl 8 rfl) ?_
                          obtain ⟨hi108, hm⟩ := gI_e hm
                          obtain ⟨f109, ef109⟩ : ∃ y : Nat → Int32, y = upd f68 x65.toNatClampNeg x84 := ⟨_, rfl⟩
                          replace hm := lt_el hm ef109
                          refine va_iast hx hb hK hP hD hS 11 0 rfl rfl hi108 d_Mo_findPieces_252 (fun H locs hP hD hS => ?_)
                          rw [← ef109] at hP hD
                          have hP : va_P (dC, dI) vwCl (wl_Mo_findPieces a_0 a_0_isFlat a_0_across a_0_lows a_0_highs a_0_xs a_0_ys a_0_labels a_0_isPoint a_0_pieceLines a_0_pieceBegins a_0_pieceEnds a_0_pieceLeft a_0_pieceRight a_0_outs b_0_thick b_0_doorCounts b_0_doorFrom b_0_doorTo b_0_oldXs b_0_oldYs b_0_oldLabels b_0_names b_0_oldNames b_0_wanted b_0_common b_0_flatEdges b_0_upEdges b_0_stack b_0_isSeen b_0_ringSpaces b_0_ringStarts b_0_ringSizes b_0_ringLeast b_0_looseLines b_0_looseXs b_0_looseYs b_0_looseReaches b_0_far cZ cI v_0_code v_0_lines v_0_isFresh v_0_hasRun v_0_runs v_0_nx v_0_ny v_0_spaces v_0_oldNx v_0_oldNy v_0_oldSpaces v_0_points x65 v_0_rings v_0_outsideSides v_0_looseCount f_0_isFlat f_0_across f_0_lows f_0_highs f_0_xs f_0_ys f_0_labels f_0_isPoint f105 f107 f109 f69 f70 f71) H := hP
                          have hD : va_D A (wl_Mo_findPieces a_0 a_0_isFlat a_0_across a_0_lows a_0_highs a_0_xs a_0_ys a_0_labels a_0_isPoint a_0_pieceLines a_0_pieceBegins a_0_pieceEnds a_0_pieceLeft a_0_pieceRight a_0_outs b_0_thick b_0_doorCounts b_0_doorFrom b_0_doorTo b_0_oldXs b_0_oldYs b_0_oldLabels b_0_names b_0_oldNames b_0_wanted b_0_common b_0_flatEdges b_0_upEdges b_0_stack b_0_isSeen b_0_ringSpaces b_0_ringStarts b_0_ringSizes b_0_ringLeast b_0_looseLines b_0_looseXs b_0_looseYs b_0_looseReaches b_0_far cZ cI v_0_code v_0_lines v_0_isFresh v_0_hasRun v_0_runs v_0_nx v_0_ny v_0_spaces v_0_oldNx v_0_oldNy v_0_oldSpaces v_0_points x65 v_0_rings v_0_outsideSides v_0_looseCount f_0_isFlat f_0_across f_0_lows f_0_highs f_0_xs f_0_ys f_0_labels f_0_isPoint f105 f107 f109 f69 f70 f71) := hD
                          refine lv_aload_n hx hb d_Mo_findPieces_253 rfl (lv_at hl 1 rfl) ?_
                          refine va_get (D := (dC, dI)) (ci := 11) (v := .ref a_0_pieceLeft) (C := "SpaceCyclesModel") (T := F_Mo) (N := 54) hx hb hts (in_F i_Mo) hown hK hP 0 rfl rfl 37 (by decide) (hts _ (in_c k_334)) (fun _ h9 => h9) rfl d_Mo_findPieces_254 ?_
                          refine lv_aload_n hx hb d_Mo_findPieces_257 rfl (lv_at hl 1 rfl) ?_
                          refine va_get (D := (dC, dI)) (ci := 11) (v := .int x65) (C := "SpaceCyclesModel") (T := F_Mo) (N := 54) hx hb hts (in_F i_Mo) hown hK hP 0 rfl rfl 39 (by decide) (hts _ (in_c k_329)) (fun _ h9 => h9) rfl d_Mo_findPieces_258 ?_
                          refine lv_iload_n hx hb d_Mo_findPieces_261 rfl (lv_at hl 3 rfl) ?_
                          obtain ⟨x113, hb111, hm⟩ := bd1_e hm
                          have K110 : ∀ (H : Heap) (locs : List Loc) (ls : Array Slot), va_P (dC, dI) vwCl (wl_Mo_findPieces a_0 a_0_isFlat a_0_across a_0_lows a_0_highs a_0_xs a_0_ys a_0_labels a_0_isPoint a_0_pieceLines a_0_pieceBegins a_0_pieceEnds a_0_pieceLeft a_0_pieceRight a_0_outs b_0_thick b_0_doorCounts b_0_doorFrom b_0_doorTo b_0_oldXs b_0_oldYs b_0_oldLabels b_0_names b_0_oldNames b_0_wanted b_0_common b_0_flatEdges b_0_upEdges b_0_stack b_0_isSeen b_0_ringSpaces b_0_ringStarts b_0_ringSizes b_0_ringLeast b_0_looseLines b_0_looseXs b_0_looseYs b_0_looseReaches b_0_far cZ cI v_0_code v_0_lines v_0_isFresh v_0_hasRun v_0_runs v_0_nx v_0_ny v_0_spaces v_0_oldNx v_0_oldNy v_0_oldSpaces v_0_points x65 v_0_rings v_0_outsideSides v_0_looseCount f_0_isFlat f_0_across f_0_lows f_0_highs f_0_xs f_0_ys f_0_labels f_0_isPoint f105 f107 f109 f69 f70 f71) H → va_D A (wl_Mo_findPieces a_0 a_0_isFlat a_0_across a_0_lows a_0_highs a_0_xs a_0_ys a_0_labels a_0_isPoint a_0_pieceLines a_0_pieceBegins a_0_pieceEnds a_0_pieceLeft a_0_pieceRight a_0_outs b_0_thick b_0_doorCounts b_0_doorFrom b_0_doorTo b_0_oldXs b_0_oldYs b_0_oldLabels b_0_names b_0_oldNames b_0_wanted b_0_common b_0_flatEdges b_0_upEdges b_0_stack b_0_isSeen b_0_ringSpaces b_0_ringStarts b_0_ringSizes b_0_ringLeast b_0_looseLines b_0_looseXs b_0_looseYs b_0_looseReaches b_0_far cZ cI v_0_code v_0_lines v_0_isFresh v_0_hasRun v_0_runs v_0_nx v_0_ny v_0_spaces v_0_oldNx v_0_oldNy v_0_oldSpaces v_0_points x65 v_0_rings v_0_outsideSides v_0_looseCount f_0_isFlat f_0_across f_0_lows f_0_highs f_0_xs f_0_ys f_0_labels f_0_isPoint f105 f107 f109 f69 f70 f71) → va_S A s.heap H locs → lv_has ls 10 [(0, .ref a_0), (1, .int x10), (2, .int x28), (3, .int x32), (5, .int x54), (6, .int x63), (7, .int x64), (8, .int x84), (9, .int x102)] → W p l e rm_Mo_findPieces s m args below meth c H locs 0 0 Q (F0 m 298 ls [.int x113, .int x65, .ref a_0_pieceLeft]) := by
                            intro H locs ls hP hD hS hl
                            obtain ⟨hi117, hm⟩ := gI_e hm
                            obtain ⟨f118, ef118⟩ : ∃ y : Nat → Int32, y = upd f69 x65.toNatClampNeg x113 := ⟨_, rfl⟩
                            replace hm := lt_el hm ef118
                            refine va_iast hx hb hK hP hD hS 12 0 rfl rfl hi117 d_Mo_findPieces_298 (fun H locs hP hD hS => ?_)
                            rw [← ef118] at hP hD
                            have hP : va_P (dC, dI) vwCl (wl_Mo_findPieces a_0 a_0_isFlat a_0_across a_0_lows a_0_highs a_0_xs a_0_ys a_0_labels a_0_isPoint a_0_pieceLines a_0_pieceBegins a_0_pieceEnds a_0_pieceLeft a_0_pieceRight a_0_outs b_0_thick b_0_doorCounts b_0_doorFrom b_0_doorTo b_0_oldXs b_0_oldYs b_0_oldLabels b_0_names b_0_oldNames b_0_wanted b_0_common b_0_flatEdges b_0_upEdges b_0_stack b_0_isSeen b_0_ringSpaces b_0_ringStarts b_0_ringSizes b_0_ringLeast b_0_looseLines b_0_looseXs b_0_looseYs b_0_looseReaches b_0_far cZ cI v_0_code v_0_lines v_0_isFresh v_0_hasRun v_0_runs v_0_nx v_0_ny v_0_spaces v_0_oldNx v_0_oldNy v_0_oldSpaces v_0_points x65 v_0_rings v_0_outsideSides v_0_looseCount f_0_isFlat f_0_across f_0_lows f_0_highs f_0_xs f_0_ys f_0_labels f_0_isPoint f105 f107 f109 f118 f70 f71) H := hP
                            have hD : va_D A (wl_Mo_findPieces a_0 a_0_isFlat a_0_across a_0_lows a_0_highs a_0_xs a_0_ys a_0_labels a_0_isPoint a_0_pieceLines a_0_pieceBegins a_0_pieceEnds a_0_pieceLeft a_0_pieceRight a_0_outs b_0_thick b_0_doorCounts b_0_doorFrom b_0_doorTo b_0_oldXs b_0_oldYs b_0_oldLabels b_0_names b_0_oldNames b_0_wanted b_0_common b_0_flatEdges b_0_upEdges b_0_stack b_0_isSeen b_0_ringSpaces b_0_ringStarts b_0_ringSizes b_0_ringLeast b_0_looseLines b_0_looseXs b_0_looseYs b_0_looseReaches b_0_far cZ cI v_0_code v_0_lines v_0_isFresh v_0_hasRun v_0_runs v_0_nx v_0_ny v_0_spaces v_0_oldNx v_0_oldNy v_0_oldSpaces v_0_points x65 v_0_rings v_0_outsideSides v_0_looseCount f_0_isFlat f_0_across f_0_lows f_0_highs f_0_xs f_0_ys f_0_labels f_0_isPoint f105 f107 f109 f118 f70 f71) := hD
                            refine lv_aload_n hx hb d_Mo_findPieces_299 rfl (lv_at hl 0 rfl) ?_
                            refine va_get (D := (dC, dI)) (ci := 11) (v := .ref a_0_pieceRight) (C := "SpaceCyclesModel") (T := F_Mo) (N := 54) hx hb hts (in_F i_Mo) hown hK hP 0 rfl rfl 38 (by decide) (hts _ (in_c k_335)) (fun _ h9 => h9) rfl d_Mo_findPieces_300 ?_
                            refine lv_aload_n hx hb d_Mo_findPieces_303 rfl (lv_at hl 0 rfl) ?_
                            refine va_get (D := (dC, dI)) (ci := 11) (v := .int x65) (C := "SpaceCyclesModel") (T := F_Mo) (N := 54) hx hb hts (in_F i_Mo) hown hK hP 0 rfl rfl 39 (by decide) (hts _ (in_c k_329)) (fun _ h9 => h9) rfl d_Mo_findPieces_304 ?_
                            refine lv_iload_n hx hb d_Mo_findPieces_307 rfl (lv_at hl 2 rfl) ?_
                            obtain ⟨x122, hb120, hm⟩ := bd1_e hm
                            have K119 : ∀ (H : Heap) (locs : List Loc) (ls : Array Slot), va_P (dC, dI) vwCl (wl_Mo_findPieces a_0 a_0_isFlat a_0_across a_0_lows a_0_highs a_0_xs a_0_ys a_0_labels a_0_isPoint a_0_pieceLines a_0_pieceBegins a_0_pieceEnds a_0_pieceLeft a_0_pieceRight a_0_outs b_0_thick b_0_doorCounts b_0_doorFrom b_0_doorTo b_0_oldXs b_0_oldYs b_0_oldLabels b_0_names b_0_oldNames b_0_wanted b_0_common b_0_flatEdges b_0_upEdges b_0_stack b_0_isSeen b_0_ringSpaces b_0_ringStarts b_0_ringSizes b_0_ringLeast b_0_looseLines b_0_looseXs b_0_looseYs b_0_looseReaches b_0_far cZ cI v_0_code v_0_lines v_0_isFresh v_0_hasRun v_0_runs v_0_nx v_0_ny v_0_spaces v_0_oldNx v_0_oldNy v_0_oldSpaces v_0_points x65 v_0_rings v_0_outsideSides v_0_looseCount f_0_isFlat f_0_across f_0_lows f_0_highs f_0_xs f_0_ys f_0_labels f_0_isPoint f105 f107 f109 f118 f70 f71) H → va_D A (wl_Mo_findPieces a_0 a_0_isFlat a_0_across a_0_lows a_0_highs a_0_xs a_0_ys a_0_labels a_0_isPoint a_0_pieceLines a_0_pieceBegins a_0_pieceEnds a_0_pieceLeft a_0_pieceRight a_0_outs b_0_thick b_0_doorCounts b_0_doorFrom b_0_doorTo b_0_oldXs b_0_oldYs b_0_oldLabels b_0_names b_0_oldNames b_0_wanted b_0_common b_0_flatEdges b_0_upEdges b_0_stack b_0_isSeen b_0_ringSpaces b_0_ringStarts b_0_ringSizes b_0_ringLeast b_0_looseLines b_0_looseXs b_0_looseYs b_0_looseReaches b_0_far cZ cI v_0_code v_0_lines v_0_isFresh v_0_hasRun v_0_runs v_0_nx v_0_ny v_0_spaces v_0_oldNx v_0_oldNy v_0_oldSpaces v_0_points x65 v_0_rings v_0_outsideSides v_0_looseCount f_0_isFlat f_0_across f_0_lows f_0_highs f_0_xs f_0_ys f_0_labels f_0_isPoint f105 f107 f109 f118 f70 f71) → va_S A s.heap H locs → lv_has ls 10 [(0, .ref a_0), (1, .int x10), (2, .int x28), (3, .int x32), (5, .int x54), (7, .int x64), (8, .int x84), (9, .int x102)] → W p l e rm_Mo_findPieces s m args below meth c H locs 0 0 Q (F0 m 344 ls [.int x122, .int x65, .ref a_0_pieceRight]) := by
                              intro H locs ls hP hD hS hl
                              obtain ⟨hi126, hm⟩ := gI_e hm
                              obtain ⟨f127, ef127⟩ : ∃ y : Nat → Int32, y = upd f70 x65.toNatClampNeg x122 := ⟨_, rfl⟩
                              replace hm := lt_el hm ef127
                              refine va_iast hx hb hK hP hD hS 13 0 rfl rfl hi126 d_Mo_findPieces_344 (fun H locs hP hD hS => ?_)
                              rw [← ef127] at hP hD
                              have hP : va_P (dC, dI) vwCl (wl_Mo_findPieces a_0 a_0_isFlat a_0_across a_0_lows a_0_highs a_0_xs a_0_ys a_0_labels a_0_isPoint a_0_pieceLines a_0_pieceBegins a_0_pieceEnds a_0_pieceLeft a_0_pieceRight a_0_outs b_0_thick b_0_doorCounts b_0_doorFrom b_0_doorTo b_0_oldXs b_0_oldYs b_0_oldLabels b_0_names b_0_oldNames b_0_wanted b_0_common b_0_flatEdges b_0_upEdges b_0_stack b_0_isSeen b_0_ringSpaces b_0_ringStarts b_0_ringSizes b_0_ringLeast b_0_looseLines b_0_looseXs b_0_looseYs b_0_looseReaches b_0_far cZ cI v_0_code v_0_lines v_0_isFresh v_0_hasRun v_0_runs v_0_nx v_0_ny v_0_spaces v_0_oldNx v_0_oldNy v_0_oldSpaces v_0_points x65 v_0_rings v_0_outsideSides v_0_looseCount f_0_isFlat f_0_across f_0_lows f_0_highs f_0_xs f_0_ys f_0_labels f_0_isPoint f105 f107 f109 f118 f127 f71) H := hP
                              have hD : va_D A (wl_Mo_findPieces a_0 a_0_isFlat a_0_across a_0_lows a_0_highs a_0_xs a_0_ys a_0_labels a_0_isPoint a_0_pieceLines a_0_pieceBegins a_0_pieceEnds a_0_pieceLeft a_0_pieceRight a_0_outs b_0_thick b_0_doorCounts b_0_doorFrom b_0_doorTo b_0_oldXs b_0_oldYs b_0_oldLabels b_0_names b_0_oldNames b_0_wanted b_0_common b_0_flatEdges b_0_upEdges b_0_stack b_0_isSeen b_0_ringSpaces b_0_ringStarts b_0_ringSizes b_0_ringLeast b_0_looseLines b_0_looseXs b_0_looseYs b_0_looseReaches b_0_far cZ cI v_0_code v_0_lines v_0_isFresh v_0_hasRun v_0_runs v_0_nx v_0_ny v_0_spaces v_0_oldNx v_0_oldNy v_0_oldSpaces v_0_points x65 v_0_rings v_0_outsideSides v_0_looseCount f_0_isFlat f_0_across f_0_lows f_0_highs f_0_xs f_0_ys f_0_labels f_0_isPoint f105 f107 f109 f118 f127 f71) := hD
                              refine lv_aload_n hx hb d_Mo_findPieces_345 rfl (lv_at hl 0 rfl) ?_
                              refine va_get (D := (dC, dI)) (ci := 11) (v := .ref a_0_outs) (C := "SpaceCyclesModel") (T := F_Mo) (N := 54) hx hb hts (in_F i_Mo) hown hK hP 0 rfl rfl 40 (by decide) (hts _ (in_c k_330)) (fun _ h9 => h9) rfl d_Mo_findPieces_346 ?_
                              refine lv_iconst (v := 4) hx hb d_Mo_findPieces_349 (by decide) ?_
                              refine lv_iload hx hb d_Mo_findPieces_350 (lv_at hl 7 rfl) ?_
                              refine lv_imul hx hb d_Mo_findPieces_352 ?_
                              refine lv_iload_n hx hb d_Mo_findPieces_353 rfl (lv_at hl 2 rfl) ?_
                              obtain ⟨x131, hb129, hm⟩ := bd1_e hm
                              have K128 : ∀ (H : Heap) (locs : List Loc) (ls : Array Slot), va_P (dC, dI) vwCl (wl_Mo_findPieces a_0 a_0_isFlat a_0_across a_0_lows a_0_highs a_0_xs a_0_ys a_0_labels a_0_isPoint a_0_pieceLines a_0_pieceBegins a_0_pieceEnds a_0_pieceLeft a_0_pieceRight a_0_outs b_0_thick b_0_doorCounts b_0_doorFrom b_0_doorTo b_0_oldXs b_0_oldYs b_0_oldLabels b_0_names b_0_oldNames b_0_wanted b_0_common b_0_flatEdges b_0_upEdges b_0_stack b_0_isSeen b_0_ringSpaces b_0_ringStarts b_0_ringSizes b_0_ringLeast b_0_looseLines b_0_looseXs b_0_looseYs b_0_looseReaches b_0_far cZ cI v_0_code v_0_lines v_0_isFresh v_0_hasRun v_0_runs v_0_nx v_0_ny v_0_spaces v_0_oldNx v_0_oldNy v_0_oldSpaces v_0_points x65 v_0_rings v_0_outsideSides v_0_looseCount f_0_isFlat f_0_across f_0_lows f_0_highs f_0_xs f_0_ys f_0_labels f_0_isPoint f105 f107 f109 f118 f127 f71) H → va_D A (wl_Mo_findPieces a_0 a_0_isFlat a_0_across a_0_lows a_0_highs a_0_xs a_0_ys a_0_labels a_0_isPoint a_0_pieceLines a_0_pieceBegins a_0_pieceEnds a_0_pieceLeft a_0_pieceRight a_0_outs b_0_thick b_0_doorCounts b_0_doorFrom b_0_doorTo b_0_oldXs b_0_oldYs b_0_oldLabels b_0_names b_0_oldNames b_0_wanted b_0_common b_0_flatEdges b_0_upEdges b_0_stack b_0_isSeen b_0_ringSpaces b_0_ringStarts b_0_ringSizes b_0_ringLeast b_0_looseLines b_0_looseXs b_0_looseYs b_0_looseReaches b_0_far cZ cI v_0_code v_0_lines v_0_isFresh v_0_hasRun v_0_runs v_0_nx v_0_ny v_0_spaces v_0_oldNx v_0_oldNy v_0_oldSpaces v_0_points x65 v_0_rings v_0_outsideSides v_0_looseCount f_0_isFlat f_0_across f_0_lows f_0_highs f_0_xs f_0_ys f_0_labels f_0_isPoint f105 f107 f109 f118 f127 f71) → va_S A s.heap H locs → lv_has ls 10 [(0, .ref a_0), (1, .int x10), (2, .int x28), (3, .int x32), (5, .int x54), (7, .int x64), (8, .int x84)] → W p l e rm_Mo_findPieces s m args below meth c H locs 0 0 Q (F0 m 362 ls [.int x131, .int (4 * x102), .ref a_0_outs]) := by
                                intro H locs ls hP hD hS hl
                                refine lv_iadd hx hb d_Mo_findPieces_362 ?_
                                refine lv_iconst (v := 2) hx hb d_Mo_findPieces_363 (by decide) ?_
                                refine lv_aload_n hx hb d_Mo_findPieces_364 rfl (lv_at hl 0 rfl) ?_
                                refine va_get (D := (dC, dI)) (ci := 11) (v := .int x65) (C := "SpaceCyclesModel") (T := F_Mo) (N := 54) hx hb hts (in_F i_Mo) hown hK hP 0 rfl rfl 39 (by decide) (hts _ (in_c k_329)) (fun _ h9 => h9) rfl d_Mo_findPieces_365 ?_
                                refine lv_imul hx hb d_Mo_findPieces_368 ?_
                                obtain ⟨hi133, hm⟩ := gI_e hm
                                obtain ⟨f134, ef134⟩ : ∃ y : Nat → Int32, y = upd f71 ((4 * x102) + x131).toNatClampNeg (2 * x65) := ⟨_, rfl⟩
                                replace hm := lt_el hm ef134
                                refine va_iast hx hb hK hP hD hS 14 0 rfl rfl hi133 d_Mo_findPieces_369 (fun H locs hP hD hS => ?_)
                                rw [← ef134] at hP hD
                                have hP : va_P (dC, dI) vwCl (wl_Mo_findPieces a_0 a_0_isFlat a_0_across a_0_lows a_0_highs a_0_xs a_0_ys a_0_labels a_0_isPoint a_0_pieceLines a_0_pieceBegins a_0_pieceEnds a_0_pieceLeft a_0_pieceRight a_0_outs b_0_thick b_0_doorCounts b_0_doorFrom b_0_doorTo b_0_oldXs b_0_oldYs b_0_oldLabels b_0_names b_0_oldNames b_0_wanted b_0_common b_0_flatEdges b_0_upEdges b_0_stack b_0_isSeen b_0_ringSpaces b_0_ringStarts b_0_ringSizes b_0_ringLeast b_0_looseLines b_0_looseXs b_0_looseYs b_0_looseReaches b_0_far cZ cI v_0_code v_0_lines v_0_isFresh v_0_hasRun v_0_runs v_0_nx v_0_ny v_0_spaces v_0_oldNx v_0_oldNy v_0_oldSpaces v_0_points x65 v_0_rings v_0_outsideSides v_0_looseCount f_0_isFlat f_0_across f_0_lows f_0_highs f_0_xs f_0_ys f_0_labels f_0_isPoint f105 f107 f109 f118 f127 f134) H := hP
                                have hD : va_D A (wl_Mo_findPieces a_0 a_0_isFlat a_0_across a_0_lows a_0_highs a_0_xs a_0_ys a_0_labels a_0_isPoint a_0_pieceLines a_0_pieceBegins a_0_pieceEnds a_0_pieceLeft a_0_pieceRight a_0_outs b_0_thick b_0_doorCounts b_0_doorFrom b_0_doorTo b_0_oldXs b_0_oldYs b_0_oldLabels b_0_names b_0_oldNames b_0_wanted b_0_common b_0_flatEdges b_0_upEdges b_0_stack b_0_isSeen b_0_ringSpaces b_0_ringStarts b_0_ringSizes b_0_ringLeast b_0_looseLines b_0_looseXs b_0_looseYs b_0_looseReaches b_0_far cZ cI v_0_code v_0_lines v_0_isFresh v_0_hasRun v_0_runs v_0_nx v_0_ny v_0_spaces v_0_oldNx v_0_oldNy v_0_oldSpaces v_0_points x65 v_0_rings v_0_outsideSides v_0_looseCount f_0_isFlat f_0_across f_0_lows f_0_highs f_0_xs f_0_ys f_0_labels f_0_isPoint f105 f107 f109 f118 f127 f134) := hD
                                refine lv_aload_n hx hb d_Mo_findPieces_370 rfl (lv_at hl 0 rfl) ?_
                                refine va_get (D := (dC, dI)) (ci := 11) (v := .ref a_0_outs) (C := "SpaceCyclesModel") (T := F_Mo) (N := 54) hx hb hts (in_F i_Mo) hown hK hP 0 rfl rfl 40 (by decide) (hts _ (in_c k_330)) (fun _ h9 => h9) rfl d_Mo_findPieces_371 ?_
                                refine lv_iconst (v := 4) hx hb d_Mo_findPieces_374 (by decide) ?_
                                refine lv_iload hx hb d_Mo_findPieces_375 (lv_at hl 6 rfl) ?_
                                refine lv_imul hx hb d_Mo_findPieces_377 ?_
                                refine lv_iload_n hx hb d_Mo_findPieces_378 rfl (lv_at hl 2 rfl) ?_
                                obtain ⟨x138, hb136, hm⟩ := bd1_e hm
                                have K135 : ∀ (H : Heap) (locs : List Loc) (ls : Array Slot), va_P (dC, dI) vwCl (wl_Mo_findPieces a_0 a_0_isFlat a_0_across a_0_lows a_0_highs a_0_xs a_0_ys a_0_labels a_0_isPoint a_0_pieceLines a_0_pieceBegins a_0_pieceEnds a_0_pieceLeft a_0_pieceRight a_0_outs b_0_thick b_0_doorCounts b_0_doorFrom b_0_doorTo b_0_oldXs b_0_oldYs b_0_oldLabels b_0_names b_0_oldNames b_0_wanted b_0_common b_0_flatEdges b_0_upEdges b_0_stack b_0_isSeen b_0_ringSpaces b_0_ringStarts b_0_ringSizes b_0_ringLeast b_0_looseLines b_0_looseXs b_0_looseYs b_0_looseReaches b_0_far cZ cI v_0_code v_0_lines v_0_isFresh v_0_hasRun v_0_runs v_0_nx v_0_ny v_0_spaces v_0_oldNx v_0_oldNy v_0_oldSpaces v_0_points x65 v_0_rings v_0_outsideSides v_0_looseCount f_0_isFlat f_0_across f_0_lows f_0_highs f_0_xs f_0_ys f_0_labels f_0_isPoint f105 f107 f109 f118 f127 f134) H → va_D A (wl_Mo_findPieces a_0 a_0_isFlat a_0_across a_0_lows a_0_highs a_0_xs a_0_ys a_0_labels a_0_isPoint a_0_pieceLines a_0_pieceBegins a_0_pieceEnds a_0_pieceLeft a_0_pieceRight a_0_outs b_0_thick b_0_doorCounts b_0_doorFrom b_0_doorTo b_0_oldXs b_0_oldYs b_0_oldLabels b_0_names b_0_oldNames b_0_wanted b_0_common b_0_flatEdges b_0_upEdges b_0_stack b_0_isSeen b_0_ringSpaces b_0_ringStarts b_0_ringSizes b_0_ringLeast b_0_looseLines b_0_looseXs b_0_looseYs b_0_looseReaches b_0_far cZ cI v_0_code v_0_lines v_0_isFresh v_0_hasRun v_0_runs v_0_nx v_0_ny v_0_spaces v_0_oldNx v_0_oldNy v_0_oldSpaces v_0_points x65 v_0_rings v_0_outsideSides v_0_looseCount f_0_isFlat f_0_across f_0_lows f_0_highs f_0_xs f_0_ys f_0_labels f_0_isPoint f105 f107 f109 f118 f127 f134) → va_S A s.heap H locs → lv_has ls 10 [(0, .ref a_0), (1, .int x10), (2, .int x28), (3, .int x32), (5, .int x54), (7, .int x64)] → W p l e rm_Mo_findPieces s m args below meth c H locs 0 0 Q (F0 m 387 ls [.int x138, .int (4 * x84), .ref a_0_outs]) := by
                                  intro H locs ls hP hD hS hl
                                  refine lv_iadd hx hb d_Mo_findPieces_387 ?_
                                  refine lv_iconst (v := 2) hx hb d_Mo_findPieces_388 (by decide) ?_
                                  refine lv_aload_n hx hb d_Mo_findPieces_389 rfl (lv_at hl 0 rfl) ?_
                                  refine va_get (D := (dC, dI)) (ci := 11) (v := .int x65) (C := "SpaceCyclesModel") (T := F_Mo) (N := 54) hx hb hts (in_F i_Mo) hown hK hP 0 rfl rfl 39 (by decide) (hts _ (in_c k_329)) (fun _ h9 => h9) rfl d_Mo_findPieces_390 ?_
                                  refine lv_imul hx hb d_Mo_findPieces_393 ?_
                                  refine lv_iconst (v := 1) hx hb d_Mo_findPieces_394 (by decide) ?_
                                  refine lv_iadd hx hb d_Mo_findPieces_395 ?_
                                  obtain ⟨hi140, hm⟩ := gI_e hm
                                  obtain ⟨f141, ef141⟩ : ∃ y : Nat → Int32, y = upd f134 ((4 * x84) + x138).toNatClampNeg ((2 * x65) + 1) := ⟨_, rfl⟩
                                  replace hm := lt_el hm ef141
                                  refine va_iast hx hb hK hP hD hS 14 0 rfl rfl hi140 d_Mo_findPieces_396 (fun H locs hP hD hS => ?_)
                                  rw [← ef141] at hP hD
                                  have hP : va_P (dC, dI) vwCl (wl_Mo_findPieces a_0 a_0_isFlat a_0_across a_0_lows a_0_highs a_0_xs a_0_ys a_0_labels a_0_isPoint a_0_pieceLines a_0_pieceBegins a_0_pieceEnds a_0_pieceLeft a_0_pieceRight a_0_outs b_0_thick b_0_doorCounts b_0_doorFrom b_0_doorTo b_0_oldXs b_0_oldYs b_0_oldLabels b_0_names b_0_oldNames b_0_wanted b_0_common b_0_flatEdges b_0_upEdges b_0_stack b_0_isSeen b_0_ringSpaces b_0_ringStarts b_0_ringSizes b_0_ringLeast b_0_looseLines b_0_looseXs b_0_looseYs b_0_looseReaches b_0_far cZ cI v_0_code v_0_lines v_0_isFresh v_0_hasRun v_0_runs v_0_nx v_0_ny v_0_spaces v_0_oldNx v_0_oldNy v_0_oldSpaces v_0_points x65 v_0_rings v_0_outsideSides v_0_looseCount f_0_isFlat f_0_across f_0_lows f_0_highs f_0_xs f_0_ys f_0_labels f_0_isPoint f105 f107 f109 f118 f127 f141) H := hP
                                  have hD : va_D A (wl_Mo_findPieces a_0 a_0_isFlat a_0_across a_0_lows a_0_highs a_0_xs a_0_ys a_0_labels a_0_isPoint a_0_pieceLines a_0_pieceBegins a_0_pieceEnds a_0_pieceLeft a_0_pieceRight a_0_outs b_0_thick b_0_doorCounts b_0_doorFrom b_0_doorTo b_0_oldXs b_0_oldYs b_0_oldLabels b_0_names b_0_oldNames b_0_wanted b_0_common b_0_flatEdges b_0_upEdges b_0_stack b_0_isSeen b_0_ringSpaces b_0_ringStarts b_0_ringSizes b_0_ringLeast b_0_looseLines b_0_looseXs b_0_looseYs b_0_looseReaches b_0_far cZ cI v_0_code v_0_lines v_0_isFresh v_0_hasRun v_0_runs v_0_nx v_0_ny v_0_spaces v_0_oldNx v_0_oldNy v_0_oldSpaces v_0_points x65 v_0_rings v_0_outsideSides v_0_looseCount f_0_isFlat f_0_across f_0_lows f_0_highs f_0_xs f_0_ys f_0_labels f_0_isPoint f105 f107 f109 f118 f127 f141) := hD
                                  refine lv_aload_n hx hb d_Mo_findPieces_397 rfl (lv_at hl 0 rfl) ?_
                                  refine lv_dup hx hb d_Mo_findPieces_398 rfl ?_
                                  refine va_get (D := (dC, dI)) (ci := 11) (v := .int x65) (C := "SpaceCyclesModel") (T := F_Mo) (N := 54) hx hb hts (in_F i_Mo) hown hK hP 0 rfl rfl 39 (by decide) (hts _ (in_c k_329)) (fun _ h9 => h9) rfl d_Mo_findPieces_399 ?_
                                  refine lv_iconst (v := 1) hx hb d_Mo_findPieces_402 (by decide) ?_
                                  refine lv_iadd hx hb d_Mo_findPieces_403 ?_
                                  refine lv_topi (fun x142 ex142 => ?_)
                                  replace hm := lt_el hm ex142
                                  refine va_put (D := (dC, dI)) (ci := 11) (v := .int x142) (ty := .int) (C := "SpaceCyclesModel") (T := F_Mo) (N := 54) hx hb hts (in_F i_Mo) t_Mo t_Mo_ok n_Mo hown hK hP hD hS 0 rfl rfl 39 (by decide) (hts _ (in_c k_329)) (fun _ h9 => h9) rfl (by decide +kernel) rfl rfl (Nat.le_of_ble_eq_true rfl) d_Mo_findPieces_404 (fun H locs hP hD hS => ?_)
                                  have hP : va_P (dC, dI) vwCl (wl_Mo_findPieces a_0 a_0_isFlat a_0_across a_0_lows a_0_highs a_0_xs a_0_ys a_0_labels a_0_isPoint a_0_pieceLines a_0_pieceBegins a_0_pieceEnds a_0_pieceLeft a_0_pieceRight a_0_outs b_0_thick b_0_doorCounts b_0_doorFrom b_0_doorTo b_0_oldXs b_0_oldYs b_0_oldLabels b_0_names b_0_oldNames b_0_wanted b_0_common b_0_flatEdges b_0_upEdges b_0_stack b_0_isSeen b_0_ringSpaces b_0_ringStarts b_0_ringSizes b_0_ringLeast b_0_looseLines b_0_looseXs b_0_looseYs b_0_looseReaches b_0_far cZ cI v_0_code v_0_lines v_0_isFresh v_0_hasRun v_0_runs v_0_nx v_0_ny v_0_spaces v_0_oldNx v_0_oldNy v_0_oldSpaces v_0_points x142 v_0_rings v_0_outsideSides v_0_looseCount f_0_isFlat f_0_across f_0_lows f_0_highs f_0_xs f_0_ys f_0_labels f_0_isPoint f105 f107 f109 f118 f127 f141) H := hP
                                  have hD : va_D A (wl_Mo_findPieces a_0 a_0_isFlat a_0_across a_0_lows a_0_highs a_0_xs a_0_ys a_0_labels a_0_isPoint a_0_pieceLines a_0_pieceBegins a_0_pieceEnds a_0_pieceLeft a_0_pieceRight a_0_outs b_0_thick b_0_doorCounts b_0_doorFrom b_0_doorTo b_0_oldXs b_0_oldYs b_0_oldLabels b_0_names b_0_oldNames b_0_wanted b_0_common b_0_flatEdges b_0_upEdges b_0_stack b_0_isSeen b_0_ringSpaces b_0_ringStarts b_0_ringSizes b_0_ringLeast b_0_looseLines b_0_looseXs b_0_looseYs b_0_looseReaches b_0_far cZ cI v_0_code v_0_lines v_0_isFresh v_0_hasRun v_0_runs v_0_nx v_0_ny v_0_spaces v_0_oldNx v_0_oldNy v_0_oldSpaces v_0_points x142 v_0_rings v_0_outsideSides v_0_looseCount f_0_isFlat f_0_across f_0_lows f_0_highs f_0_xs f_0_ys f_0_labels f_0_isPoint f105 f107 f109 f118 f127 f141) := hD
                                  refine lv_iload hx hb d_Mo_findPieces_407 (lv_at hl 5 rfl) ?_
                                  refine lv_istore (lv' := [(6, .int x64), (0, .ref a_0), (1, .int x10), (2, .int x28), (3, .int x32), (5, .int x54), (7, .int x64)]) hx hb d_Mo_findPieces_409 hl (by decide) rfl (fun ls hl => ?_)
                                  cases hm
                                  exact K87 H locs ls hP hD hS (lv_sub hl [1, 2, 3, 4, 5, 0, 6] rfl)
                                replace hm := hb136
                                refine lv_if_eq (tgt := 386) hx hb d_Mo_findPieces_379 (by decide) (fun c139 => ?_) (fun c139 => ?_)
                                · replace hm := if_t hm c139
                                  refine lv_iconst (v := 3) hx hb d_Mo_findPieces_386 (by decide) ?_
                                  cases hm
                                  exact K135 H locs ls hP hD hS (lv_sub hl [0, 1, 2, 3, 4, 5] rfl)
                                · replace hm := if_f hm c139
                                  refine lv_iconst (v := 2) hx hb d_Mo_findPieces_382 (by decide) ?_
                                  refine lv_goto (tgt := 387) hx hb d_Mo_findPieces_383 (by decide) ?_
                                  cases hm
                                  exact K135 H locs ls hP hD hS (lv_sub hl [0, 1, 2, 3, 4, 5] rfl)
                              replace hm := hb129
                              refine lv_if_eq (tgt := 361) hx hb d_Mo_findPieces_354 (by decide) (fun c132 => ?_) (fun c132 => ?_)
                              · replace hm := if_t hm c132
                                refine lv_iconst (v := 1) hx hb d_Mo_findPieces_361 (by decide) ?_
                                cases hm
                                exact K128 H locs ls hP hD hS (lv_sub hl [0, 1, 2, 3, 4, 5, 6] rfl)
                              · replace hm := if_f hm c132
                                refine lv_iconst (v := 0) hx hb d_Mo_findPieces_357 (by decide) ?_
                                refine lv_goto (tgt := 362) hx hb d_Mo_findPieces_358 (by decide) ?_
                                cases hm
                                exact K128 H locs ls hP hD hS (lv_sub hl [0, 1, 2, 3, 4, 5, 6] rfl)
                            replace hm := hb120
                            refine lv_if_eq (tgt := 328) hx hb d_Mo_findPieces_308 (by decide) (fun c123 => ?_) (fun c123 => ?_)
                            · replace hm := if_t hm c123
                              refine lv_aload_n hx hb d_Mo_findPieces_328 rfl (lv_at hl 0 rfl) ?_
                              refine va_get (D := (dC, dI)) (ci := 11) (v := .ref a_0_labels) (C := "SpaceCyclesModel") (T := F_Mo) (N := 54) hx hb hts (in_F i_Mo) hown hK hP 0 rfl rfl 17 (by decide) (hts _ (in_c k_319)) (fun _ h9 => h9) rfl d_Mo_findPieces_329 ?_
                              refine lv_bipush (v := 42) hx hb d_Mo_findPieces_332 (by decide) ?_
                              refine lv_iload_n hx hb d_Mo_findPieces_334 rfl (lv_at hl 3 rfl) ?_
                              refine lv_iconst (v := 1) hx hb d_Mo_findPieces_335 (by decide) ?_
                              refine lv_iadd hx hb d_Mo_findPieces_336 ?_
                              refine lv_imul hx hb d_Mo_findPieces_337 ?_
                              refine lv_iload hx hb d_Mo_findPieces_338 (lv_at hl 5 rfl) ?_
                              refine lv_iadd hx hb d_Mo_findPieces_340 ?_
                              refine lv_iconst (v := 1) hx hb d_Mo_findPieces_341 (by decide) ?_
                              refine lv_iadd hx hb d_Mo_findPieces_342 ?_
                              obtain ⟨hi124, hm⟩ := gI_e hm
                              refine va_iald hx hb hK hP 7 0 rfl rfl hi124 d_Mo_findPieces_343 ?_
                              cases hm
                              exact K119 H locs ls hP hD hS (lv_sub hl [0, 1, 2, 3, 4, 6, 7, 8] rfl)
                            · replace hm := if_f hm c123
                              refine lv_aload_n hx hb d_Mo_findPieces_311 rfl (lv_at hl 0 rfl) ?_
                              refine va_get (D := (dC, dI)) (ci := 11) (v := .ref a_0_labels) (C := "SpaceCyclesModel") (T := F_Mo) (N := 54) hx hb hts (in_F i_Mo) hown hK hP 0 rfl rfl 17 (by decide) (hts _ (in_c k_319)) (fun _ h9 => h9) rfl d_Mo_findPieces_312 ?_
                              refine lv_bipush (v := 42) hx hb d_Mo_findPieces_315 (by decide) ?_
                              refine lv_iload hx hb d_Mo_findPieces_317 (lv_at hl 5 rfl) ?_
                              refine lv_iconst (v := 1) hx hb d_Mo_findPieces_319 (by decide) ?_
                              refine lv_iadd hx hb d_Mo_findPieces_320 ?_
                              refine lv_imul hx hb d_Mo_findPieces_321 ?_
                              refine lv_iload_n hx hb d_Mo_findPieces_322 rfl (lv_at hl 3 rfl) ?_
                              refine lv_iadd hx hb d_Mo_findPieces_323 ?_
                              obtain ⟨hi125, hm⟩ := gI_e hm
                              refine va_iald hx hb hK hP 7 0 rfl rfl hi125 d_Mo_findPieces_324 ?_
                              refine lv_goto (tgt := 344) hx hb d_Mo_findPieces_325 (by decide) ?_
                              cases hm
                              exact K119 H locs ls hP hD hS (lv_sub hl [0, 1, 2, 3, 4, 6, 7, 8] rfl)
                          replace hm := hb111
                          refine lv_if_eq (tgt := 284) hx hb d_Mo_findPieces_262 (by decide) (fun c114 => ?_) (fun c114 => ?_)
                          · replace hm := if_t hm c114
                            refine lv_aload_n hx hb d_Mo_findPieces_284 rfl (lv_at hl 1 rfl) ?_
                            refine va_get (D := (dC, dI)) (ci := 11) (v := .ref a_0_labels) (C := "SpaceCyclesModel") (T := F_Mo) (N := 54) hx hb hts (in_F i_Mo) hown hK hP 0 rfl rfl 17 (by decide) (hts _ (in_c k_319)) (fun _ h9 => h9) rfl d_Mo_findPieces_285 ?_
                            refine lv_bipush (v := 42) hx hb d_Mo_findPieces_288 (by decide) ?_
                            refine lv_iload_n hx hb d_Mo_findPieces_290 rfl (lv_at hl 4 rfl) ?_
                            refine lv_imul hx hb d_Mo_findPieces_291 ?_
                            refine lv_iload hx hb d_Mo_findPieces_292 (lv_at hl 6 rfl) ?_
                            refine lv_iadd hx hb d_Mo_findPieces_294 ?_
                            refine lv_iconst (v := 1) hx hb d_Mo_findPieces_295 (by decide) ?_
                            refine lv_iadd hx hb d_Mo_findPieces_296 ?_
                            obtain ⟨hi115, hm⟩ := gI_e hm
                            refine va_iald hx hb hK hP 7 0 rfl rfl hi115 d_Mo_findPieces_297 ?_
                            cases hm
                            exact K110 H locs ls hP hD hS (lv_sub hl [1, 2, 3, 4, 5, 6, 7, 8, 0] rfl)
                          · replace hm := if_f hm c114
                            refine lv_aload_n hx hb d_Mo_findPieces_265 rfl (lv_at hl 1 rfl) ?_
                            refine va_get (D := (dC, dI)) (ci := 11) (v := .ref a_0_labels) (C := "SpaceCyclesModel") (T := F_Mo) (N := 54) hx hb hts (in_F i_Mo) hown hK hP 0 rfl rfl 17 (by decide) (hts _ (in_c k_319)) (fun _ h9 => h9) rfl d_Mo_findPieces_266 ?_
                            refine lv_bipush (v := 42) hx hb d_Mo_findPieces_269 (by decide) ?_
                            refine lv_iload hx hb d_Mo_findPieces_271 (lv_at hl 6 rfl) ?_
                            refine lv_iconst (v := 1) hx hb d_Mo_findPieces_273 (by decide) ?_
                            refine lv_iadd hx hb d_Mo_findPieces_274 ?_
                            refine lv_imul hx hb d_Mo_findPieces_275 ?_
                            refine lv_iload_n hx hb d_Mo_findPieces_276 rfl (lv_at hl 4 rfl) ?_
                            refine lv_iadd hx hb d_Mo_findPieces_277 ?_
                            refine lv_iconst (v := 1) hx hb d_Mo_findPieces_278 (by decide) ?_
                            refine lv_iadd hx hb d_Mo_findPieces_279 ?_
                            obtain ⟨hi116, hm⟩ := gI_e hm
                            refine va_iald hx hb hK hP 7 0 rfl rfl hi116 d_Mo_findPieces_280 ?_
                            refine lv_goto (tgt := 298) hx hb d_Mo_findPieces_281 (by decide) ?_
                            cases hm
                            exact K110 H locs ls hP hD hS (lv_sub hl [1, 2, 3, 4, 5, 6, 7, 8, 0] rfl)
                        replace hm := hb100
                        refine lv_if_eq (tgt := 212) hx hb d_Mo_findPieces_199 (by decide) (fun c103 => ?_) (fun c103 => ?_)
                        · replace hm := if_t hm c103
                          refine lv_bipush (v := 42) hx hb d_Mo_findPieces_212 (by decide) ?_
                          refine lv_iload_n hx hb d_Mo_findPieces_214 rfl (lv_at hl 4 rfl) ?_
                          refine lv_imul hx hb d_Mo_findPieces_215 ?_
                          refine lv_iload hx hb d_Mo_findPieces_216 (lv_at hl 6 rfl) ?_
                          refine lv_iadd hx hb d_Mo_findPieces_218 ?_
                          cases hm
                          exact K99 H locs ls hP hD hS (lv_sub hl [1, 2, 3, 4, 5, 6, 7, 0] rfl)
                        · replace hm := if_f hm c103
                          refine lv_bipush (v := 42) hx hb d_Mo_findPieces_202 (by decide) ?_
                          refine lv_iload hx hb d_Mo_findPieces_204 (lv_at hl 6 rfl) ?_
                          refine lv_imul hx hb d_Mo_findPieces_206 ?_
                          refine lv_iload_n hx hb d_Mo_findPieces_207 rfl (lv_at hl 4 rfl) ?_
                          refine lv_iadd hx hb d_Mo_findPieces_208 ?_
                          refine lv_goto (tgt := 219) hx hb d_Mo_findPieces_209 (by decide) ?_
                          cases hm
                          exact K99 H locs ls hP hD hS (lv_sub hl [1, 2, 3, 4, 5, 6, 7, 0] rfl)
                    replace hm := hb82
                    refine lv_if_eq (tgt := 179) hx hb d_Mo_findPieces_166 (by decide) (fun c85 => ?_) (fun c85 => ?_)
                    · replace hm := if_t hm c85
                      refine lv_bipush (v := 42) hx hb d_Mo_findPieces_179 (by decide) ?_
                      refine lv_iload_n hx hb d_Mo_findPieces_181 rfl (lv_at hl 3 rfl) ?_
                      refine lv_imul hx hb d_Mo_findPieces_182 ?_
                      refine lv_iload hx hb d_Mo_findPieces_183 (lv_at hl 6 rfl) ?_
                      refine lv_iadd hx hb d_Mo_findPieces_185 ?_
                      cases hm
                      exact K81 H locs ls hP hD hS (lv_sub hl [0, 1, 2, 3, 4, 5, 6] rfl)
                    · replace hm := if_f hm c85
                      refine lv_bipush (v := 42) hx hb d_Mo_findPieces_169 (by decide) ?_
                      refine lv_iload hx hb d_Mo_findPieces_171 (lv_at hl 6 rfl) ?_
                      refine lv_imul hx hb d_Mo_findPieces_173 ?_
                      refine lv_iload_n hx hb d_Mo_findPieces_174 rfl (lv_at hl 3 rfl) ?_
                      refine lv_iadd hx hb d_Mo_findPieces_175 ?_
                      refine lv_goto (tgt := 186) hx hb d_Mo_findPieces_176 (by decide) ?_
                      cases hm
                      exact K81 H locs ls hP hD hS (lv_sub hl [0, 1, 2, 3, 4, 5, 6] rfl)
              obtain ⟨x72, f73, f74, f75, f76, f77, f78, hb144, hm⟩ := bd7_e hm
              refine L158_79 fu _ _ _ _ _ _ _ _ _ _ _ _ _ _ _ _ hb144 (fun H locs ls hP hD hS hl => ?_) H locs ls hP hD hS (lv_sub hl [3, 4, 5, 6, 2, 1, 0] rfl)
              obtain ⟨x145, ex145⟩ : ∃ y : Int32, y = x10 + 1 := ⟨_, rfl⟩
              replace hm := lt_el hm ex145
              refine lv_iinc (v := x145) (lv' := [(1, .int x145), (0, .ref a_0)]) hx hb d_Mo_findPieces_417 hl (k := 1) rfl (by rw [ex145]; rfl) (by decide) rfl (fun ls hl => ?_)
              refine lv_goto (tgt := 29) hx hb d_Mo_findPieces_420 (by decide) ?_
              exact ih _ _ _ _ _ _ _ _ _ _ _ _ _ _ _ hm KE H locs ls hP hD hS (lv_sub hl [1, 0] rfl)
            replace hm := hb52
            refine lv_if_eq (tgt := 133) hx hb d_Mo_findPieces_114 (by decide) (fun c55 => ?_) (fun c55 => ?_)
            · replace hm := if_t hm c55
              refine lv_aload_n hx hb d_Mo_findPieces_133 rfl (lv_at hl 1 rfl) ?_
              refine va_get (D := (dC, dI)) (ci := 11) (v := .ref a_0_ys) (C := "SpaceCyclesModel") (T := F_Mo) (N := 54) hx hb hts (in_F i_Mo) hown hK hP 0 rfl rfl 14 (by decide) (hts _ (in_c k_306)) (fun _ h9 => h9) rfl d_Mo_findPieces_134 ?_
              refine lv_aload_n hx hb d_Mo_findPieces_137 rfl (lv_at hl 1 rfl) ?_
              refine va_get (D := (dC, dI)) (ci := 11) (v := .ref a_0_highs) (C := "SpaceCyclesModel") (T := F_Mo) (N := 54) hx hb hts (in_F i_Mo) hown hK hP 0 rfl rfl 4 (by decide) (hts _ (in_c k_282)) (fun _ h9 => h9) rfl d_Mo_findPieces_138 ?_
              refine lv_iload_n hx hb d_Mo_findPieces_141 rfl (lv_at hl 2 rfl) ?_
              obtain ⟨hi56, hm⟩ := gI_e hm
              refine va_iald hx hb hK hP 4 0 rfl rfl hi56 d_Mo_findPieces_142 ?_
              obtain ⟨r57, hb58, hm⟩ := bd1_e hm
              have hPc := hP.sub (ws' := (wl_Mo_find a_0_ys cI 42 f_0_ys)) [6] rfl
              have hDc := hD.sub (ws' := (wl_Mo_find a_0_ys cI 42 f_0_ys)) [6] (by decide) rfl
              refine cl_i (wc' := (wl_Mo_find a_0_ys cI 42 f_0_ys)) (va_runS (As := [.ref a_0_ys, .int (f_0_highs x10.toNatClampNeg)]) (rest := []) ⟨hx, hb, hml, hown, hts⟩ (c_Mo_find l dC dI (cI := cI) (cZ := cZ) (cJ := cJ) a_0_ys H.size 42 f_0_ys (f_0_highs x10.toNatClampNeg) r57 hb58) (va_cwS 2 hts (gl_S k_312 k_311 k_277 k_310) rfl rfl rfl (by decide +kernel) ⟨Nat.le_of_ble_eq_true rfl, Nat.le_of_ble_eq_true rfl⟩) ⟨PP_blind, fun U hU hW => PP_at hK hN hPc hDc hU hW⟩ rfl rfl hl.1 rfl (lv_room (Nat.le_of_ble_eq_true rfl)) d_Mo_findPieces_143 ⟨Nat.zero_le _, Nat.zero_le _⟩) hP hD hS hA [6] [0, 1, 2, 3, 4, 5, 7, 8, 9, 10, 11, 12, 13, 14] rfl rfl (by decide) (by decide) (fun H locs hP hD hS => ?_)
              have hP : va_P (dC, dI) vwCl (wl_Mo_findPieces a_0 a_0_isFlat a_0_across a_0_lows a_0_highs a_0_xs a_0_ys a_0_labels a_0_isPoint a_0_pieceLines a_0_pieceBegins a_0_pieceEnds a_0_pieceLeft a_0_pieceRight a_0_outs b_0_thick b_0_doorCounts b_0_doorFrom b_0_doorTo b_0_oldXs b_0_oldYs b_0_oldLabels b_0_names b_0_oldNames b_0_wanted b_0_common b_0_flatEdges b_0_upEdges b_0_stack b_0_isSeen b_0_ringSpaces b_0_ringStarts b_0_ringSizes b_0_ringLeast b_0_looseLines b_0_looseXs b_0_looseYs b_0_looseReaches b_0_far cZ cI v_0_code v_0_lines v_0_isFresh v_0_hasRun v_0_runs v_0_nx v_0_ny v_0_spaces v_0_oldNx v_0_oldNy v_0_oldSpaces v_0_points x11 v_0_rings v_0_outsideSides v_0_looseCount f_0_isFlat f_0_across f_0_lows f_0_highs f_0_xs f_0_ys f_0_labels f_0_isPoint f12 f13 f14 f15 f16 f17) H := hP.sub [0, 1, 2, 3, 4, 5, 14, 6, 7, 8, 9, 10, 11, 12, 13] rfl
              have hD : va_D A (wl_Mo_findPieces a_0 a_0_isFlat a_0_across a_0_lows a_0_highs a_0_xs a_0_ys a_0_labels a_0_isPoint a_0_pieceLines a_0_pieceBegins a_0_pieceEnds a_0_pieceLeft a_0_pieceRight a_0_outs b_0_thick b_0_doorCounts b_0_doorFrom b_0_doorTo b_0_oldXs b_0_oldYs b_0_oldLabels b_0_names b_0_oldNames b_0_wanted b_0_common b_0_flatEdges b_0_upEdges b_0_stack b_0_isSeen b_0_ringSpaces b_0_ringStarts b_0_ringSizes b_0_ringLeast b_0_looseLines b_0_looseXs b_0_looseYs b_0_looseReaches b_0_far cZ cI v_0_code v_0_lines v_0_isFresh v_0_hasRun v_0_runs v_0_nx v_0_ny v_0_spaces v_0_oldNx v_0_oldNy v_0_oldSpaces v_0_points x11 v_0_rings v_0_outsideSides v_0_looseCount f_0_isFlat f_0_across f_0_lows f_0_highs f_0_xs f_0_ys f_0_labels f_0_isPoint f12 f13 f14 f15 f16 f17) := hD.sub [0, 1, 2, 3, 4, 5, 14, 6, 7, 8, 9, 10, 11, 12, 13] (by decide) rfl
              cases hm
              exact K51 H locs ls hP hD hS (lv_sub hl [1, 2, 3, 4, 0] rfl)
            · replace hm := if_f hm c55
              refine lv_aload_n hx hb d_Mo_findPieces_117 rfl (lv_at hl 1 rfl) ?_
              refine va_get (D := (dC, dI)) (ci := 11) (v := .ref a_0_xs) (C := "SpaceCyclesModel") (T := F_Mo) (N := 54) hx hb hts (in_F i_Mo) hown hK hP 0 rfl rfl 13 (by decide) (hts _ (in_c k_302)) (fun _ h9 => h9) rfl d_Mo_findPieces_118 ?_
              refine lv_aload_n hx hb d_Mo_findPieces_121 rfl (lv_at hl 1 rfl) ?_
              refine va_get (D := (dC, dI)) (ci := 11) (v := .ref a_0_highs) (C := "SpaceCyclesModel") (T := F_Mo) (N := 54) hx hb hts (in_F i_Mo) hown hK hP 0 rfl rfl 4 (by decide) (hts _ (in_c k_282)) (fun _ h9 => h9) rfl d_Mo_findPieces_122 ?_
              refine lv_iload_n hx hb d_Mo_findPieces_125 rfl (lv_at hl 2 rfl) ?_
              obtain ⟨hi59, hm⟩ := gI_e hm
              refine va_iald hx hb hK hP 4 0 rfl rfl hi59 d_Mo_findPieces_126 ?_
              obtain ⟨r60, hb61, hm⟩ := bd1_e hm
              have hPc := hP.sub (ws' := (wl_Mo_find a_0_xs cI 42 f_0_xs)) [5] rfl
              have hDc := hD.sub (ws' := (wl_Mo_find a_0_xs cI 42 f_0_xs)) [5] (by decide) rfl
              refine cl_i (wc' := (wl_Mo_find a_0_xs cI 42 f_0_xs)) (va_runS (As := [.ref a_0_xs, .int (f_0_highs x10.toNatClampNeg)]) (rest := []) ⟨hx, hb, hml, hown, hts⟩ (c_Mo_find l dC dI (cI := cI) (cZ := cZ) (cJ := cJ) a_0_xs H.size 42 f_0_xs (f_0_highs x10.toNatClampNeg) r60 hb61) (va_cwS 2 hts (gl_S k_312 k_311 k_277 k_310) rfl rfl rfl (by decide +kernel) ⟨Nat.le_of_ble_eq_true rfl, Nat.le_of_ble_eq_true rfl⟩) ⟨PP_blind, fun U hU hW => PP_at hK hN hPc hDc hU hW⟩ rfl rfl hl.1 rfl (lv_room (Nat.le_of_ble_eq_true rfl)) d_Mo_findPieces_127 ⟨Nat.zero_le _, Nat.zero_le _⟩) hP hD hS hA [5] [0, 1, 2, 3, 4, 6, 7, 8, 9, 10, 11, 12, 13, 14] rfl rfl (by decide) (by decide) (fun H locs hP hD hS => ?_)
              have hP : va_P (dC, dI) vwCl (wl_Mo_findPieces a_0 a_0_isFlat a_0_across a_0_lows a_0_highs a_0_xs a_0_ys a_0_labels a_0_isPoint a_0_pieceLines a_0_pieceBegins a_0_pieceEnds a_0_pieceLeft a_0_pieceRight a_0_outs b_0_thick b_0_doorCounts b_0_doorFrom b_0_doorTo b_0_oldXs b_0_oldYs b_0_oldLabels b_0_names b_0_oldNames b_0_wanted b_0_common b_0_flatEdges b_0_upEdges b_0_stack b_0_isSeen b_0_ringSpaces b_0_ringStarts b_0_ringSizes b_0_ringLeast b_0_looseLines b_0_looseXs b_0_looseYs b_0_looseReaches b_0_far cZ cI v_0_code v_0_lines v_0_isFresh v_0_hasRun v_0_runs v_0_nx v_0_ny v_0_spaces v_0_oldNx v_0_oldNy v_0_oldSpaces v_0_points x11 v_0_rings v_0_outsideSides v_0_looseCount f_0_isFlat f_0_across f_0_lows f_0_highs f_0_xs f_0_ys f_0_labels f_0_isPoint f12 f13 f14 f15 f16 f17) H := hP.sub [0, 1, 2, 3, 4, 14, 5, 6, 7, 8, 9, 10, 11, 12, 13] rfl
              have hD : va_D A (wl_Mo_findPieces a_0 a_0_isFlat a_0_across a_0_lows a_0_highs a_0_xs a_0_ys a_0_labels a_0_isPoint a_0_pieceLines a_0_pieceBegins a_0_pieceEnds a_0_pieceLeft a_0_pieceRight a_0_outs b_0_thick b_0_doorCounts b_0_doorFrom b_0_doorTo b_0_oldXs b_0_oldYs b_0_oldLabels b_0_names b_0_oldNames b_0_wanted b_0_common b_0_flatEdges b_0_upEdges b_0_stack b_0_isSeen b_0_ringSpaces b_0_ringStarts b_0_ringSizes b_0_ringLeast b_0_looseLines b_0_looseXs b_0_looseYs b_0_looseReaches b_0_far cZ cI v_0_code v_0_lines v_0_isFresh v_0_hasRun v_0_runs v_0_nx v_0_ny v_0_spaces v_0_oldNx v_0_oldNy v_0_oldSpaces v_0_points x11 v_0_rings v_0_outsideSides v_0_looseCount f_0_isFlat f_0_across f_0_lows f_0_highs f_0_xs f_0_ys f_0_labels f_0_isPoint f12 f13 f14 f15 f16 f17) := hD.sub [0, 1, 2, 3, 4, 14, 5, 6, 7, 8, 9, 10, 11, 12, 13] (by decide) rfl
              refine lv_goto (tgt := 146) hx hb d_Mo_findPieces_130 (by decide) ?_
              cases hm
              exact K51 H locs ls hP hD hS (lv_sub hl [1, 2, 3, 4, 0] rfl)
          replace hm := hb41
          refine lv_if_eq (tgt := 98) hx hb d_Mo_findPieces_79 (by decide) (fun c44 => ?_) (fun c44 => ?_)
          · replace hm := if_t hm c44
            refine lv_aload_n hx hb d_Mo_findPieces_98 rfl (lv_at hl 1 rfl) ?_
            refine va_get (D := (dC, dI)) (ci := 11) (v := .ref a_0_ys) (C := "SpaceCyclesModel") (T := F_Mo) (N := 54) hx hb hts (in_F i_Mo) hown hK hP 0 rfl rfl 14 (by decide) (hts _ (in_c k_306)) (fun _ h9 => h9) rfl d_Mo_findPieces_99 ?_
            refine lv_aload_n hx hb d_Mo_findPieces_102 rfl (lv_at hl 1 rfl) ?_
            refine va_get (D := (dC, dI)) (ci := 11) (v := .ref a_0_lows) (C := "SpaceCyclesModel") (T := F_Mo) (N := 54) hx hb hts (in_F i_Mo) hown hK hP 0 rfl rfl 3 (by decide) (hts _ (in_c k_281)) (fun _ h9 => h9) rfl d_Mo_findPieces_103 ?_
            refine lv_iload_n hx hb d_Mo_findPieces_106 rfl (lv_at hl 2 rfl) ?_
            obtain ⟨hi45, hm⟩ := gI_e hm
            refine va_iald hx hb hK hP 3 0 rfl rfl hi45 d_Mo_findPieces_107 ?_
            obtain ⟨r46, hb47, hm⟩ := bd1_e hm
            have hPc := hP.sub (ws' := (wl_Mo_find a_0_ys cI 42 f_0_ys)) [6] rfl
            have hDc := hD.sub (ws' := (wl_Mo_find a_0_ys cI 42 f_0_ys)) [6] (by decide) rfl
            refine cl_i (wc' := (wl_Mo_find a_0_ys cI 42 f_0_ys)) (va_runS (As := [.ref a_0_ys, .int (f_0_lows x10.toNatClampNeg)]) (rest := []) ⟨hx, hb, hml, hown, hts⟩ (c_Mo_find l dC dI (cI := cI) (cZ := cZ) (cJ := cJ) a_0_ys H.size 42 f_0_ys (f_0_lows x10.toNatClampNeg) r46 hb47) (va_cwS 2 hts (gl_S k_312 k_311 k_277 k_310) rfl rfl rfl (by decide +kernel) ⟨Nat.le_of_ble_eq_true rfl, Nat.le_of_ble_eq_true rfl⟩) ⟨PP_blind, fun U hU hW => PP_at hK hN hPc hDc hU hW⟩ rfl rfl hl.1 rfl (lv_room (Nat.le_of_ble_eq_true rfl)) d_Mo_findPieces_108 ⟨Nat.zero_le _, Nat.zero_le _⟩) hP hD hS hA [6] [0, 1, 2, 3, 4, 5, 7, 8, 9, 10, 11, 12, 13, 14] rfl rfl (by decide) (by decide) (fun H locs hP hD hS => ?_)
            have hP : va_P (dC, dI) vwCl (wl_Mo_findPieces a_0 a_0_isFlat a_0_across a_0_lows a_0_highs a_0_xs a_0_ys a_0_labels a_0_isPoint a_0_pieceLines a_0_pieceBegins a_0_pieceEnds a_0_pieceLeft a_0_pieceRight a_0_outs b_0_thick b_0_doorCounts b_0_doorFrom b_0_doorTo b_0_oldXs b_0_oldYs b_0_oldLabels b_0_names b_0_oldNames b_0_wanted b_0_common b_0_flatEdges b_0_upEdges b_0_stack b_0_isSeen b_0_ringSpaces b_0_ringStarts b_0_ringSizes b_0_ringLeast b_0_looseLines b_0_looseXs b_0_looseYs b_0_looseReaches b_0_far cZ cI v_0_code v_0_lines v_0_isFresh v_0_hasRun v_0_runs v_0_nx v_0_ny v_0_spaces v_0_oldNx v_0_oldNy v_0_oldSpaces v_0_points x11 v_0_rings v_0_outsideSides v_0_looseCount f_0_isFlat f_0_across f_0_lows f_0_highs f_0_xs f_0_ys f_0_labels f_0_isPoint f12 f13 f14 f15 f16 f17) H := hP.sub [0, 1, 2, 3, 4, 5, 14, 6, 7, 8, 9, 10, 11, 12, 13] rfl
            have hD : va_D A (wl_Mo_findPieces a_0 a_0_isFlat a_0_across a_0_lows a_0_highs a_0_xs a_0_ys a_0_labels a_0_isPoint a_0_pieceLines a_0_pieceBegins a_0_pieceEnds a_0_pieceLeft a_0_pieceRight a_0_outs b_0_thick b_0_doorCounts b_0_doorFrom b_0_doorTo b_0_oldXs b_0_oldYs b_0_oldLabels b_0_names b_0_oldNames b_0_wanted b_0_common b_0_flatEdges b_0_upEdges b_0_stack b_0_isSeen b_0_ringSpaces b_0_ringStarts b_0_ringSizes b_0_ringLeast b_0_looseLines b_0_looseXs b_0_looseYs b_0_looseReaches b_0_far cZ cI v_0_code v_0_lines v_0_isFresh v_0_hasRun v_0_runs v_0_nx v_0_ny v_0_spaces v_0_oldNx v_0_oldNy v_0_oldSpaces v_0_points x11 v_0_rings v_0_outsideSides v_0_looseCount f_0_isFlat f_0_across f_0_lows f_0_highs f_0_xs f_0_ys f_0_labels f_0_isPoint f12 f13 f14 f15 f16 f17) := hD.sub [0, 1, 2, 3, 4, 5, 14, 6, 7, 8, 9, 10, 11, 12, 13] (by decide) rfl
            cases hm
            exact K40 H locs ls hP hD hS (lv_sub hl [1, 2, 3, 0] rfl)
          · replace hm := if_f hm c44
            refine lv_aload_n hx hb d_Mo_findPieces_82 rfl (lv_at hl 1 rfl) ?_
            refine va_get (D := (dC, dI)) (ci := 11) (v := .ref a_0_xs) (C := "SpaceCyclesModel") (T := F_Mo) (N := 54) hx hb hts (in_F i_Mo) hown hK hP 0 rfl rfl 13 (by decide) (hts _ (in_c k_302)) (fun _ h9 => h9) rfl d_Mo_findPieces_83 ?_
            refine lv_aload_n hx hb d_Mo_findPieces_86 rfl (lv_at hl 1 rfl) ?_
            refine va_get (D := (dC, dI)) (ci := 11) (v := .ref a_0_lows) (C := "SpaceCyclesModel") (T := F_Mo) (N := 54) hx hb hts (in_F i_Mo) hown hK hP 0 rfl rfl 3 (by decide) (hts _ (in_c k_281)) (fun _ h9 => h9) rfl d_Mo_findPieces_87 ?_
            refine lv_iload_n hx hb d_Mo_findPieces_90 rfl (lv_at hl 2 rfl) ?_
            obtain ⟨hi48, hm⟩ := gI_e hm
            refine va_iald hx hb hK hP 3 0 rfl rfl hi48 d_Mo_findPieces_91 ?_
            obtain ⟨r49, hb50, hm⟩ := bd1_e hm
            have hPc := hP.sub (ws' := (wl_Mo_find a_0_xs cI 42 f_0_xs)) [5] rfl
            have hDc := hD.sub (ws' := (wl_Mo_find a_0_xs cI 42 f_0_xs)) [5] (by decide) rfl
            refine cl_i (wc' := (wl_Mo_find a_0_xs cI 42 f_0_xs)) (va_runS (As := [.ref a_0_xs, .int (f_0_lows x10.toNatClampNeg)]) (rest := []) ⟨hx, hb, hml, hown, hts⟩ (c_Mo_find l dC dI (cI := cI) (cZ := cZ) (cJ := cJ) a_0_xs H.size 42 f_0_xs (f_0_lows x10.toNatClampNeg) r49 hb50) (va_cwS 2 hts (gl_S k_312 k_311 k_277 k_310) rfl rfl rfl (by decide +kernel) ⟨Nat.le_of_ble_eq_true rfl, Nat.le_of_ble_eq_true rfl⟩) ⟨PP_blind, fun U hU hW => PP_at hK hN hPc hDc hU hW⟩ rfl rfl hl.1 rfl (lv_room (Nat.le_of_ble_eq_true rfl)) d_Mo_findPieces_92 ⟨Nat.zero_le _, Nat.zero_le _⟩) hP hD hS hA [5] [0, 1, 2, 3, 4, 6, 7, 8, 9, 10, 11, 12, 13, 14] rfl rfl (by decide) (by decide) (fun H locs hP hD hS => ?_)
            have hP : va_P (dC, dI) vwCl (wl_Mo_findPieces a_0 a_0_isFlat a_0_across a_0_lows a_0_highs a_0_xs a_0_ys a_0_labels a_0_isPoint a_0_pieceLines a_0_pieceBegins a_0_pieceEnds a_0_pieceLeft a_0_pieceRight a_0_outs b_0_thick b_0_doorCounts b_0_doorFrom b_0_doorTo b_0_oldXs b_0_oldYs b_0_oldLabels b_0_names b_0_oldNames b_0_wanted b_0_common b_0_flatEdges b_0_upEdges b_0_stack b_0_isSeen b_0_ringSpaces b_0_ringStarts b_0_ringSizes b_0_ringLeast b_0_looseLines b_0_looseXs b_0_looseYs b_0_looseReaches b_0_far cZ cI v_0_code v_0_lines v_0_isFresh v_0_hasRun v_0_runs v_0_nx v_0_ny v_0_spaces v_0_oldNx v_0_oldNy v_0_oldSpaces v_0_points x11 v_0_rings v_0_outsideSides v_0_looseCount f_0_isFlat f_0_across f_0_lows f_0_highs f_0_xs f_0_ys f_0_labels f_0_isPoint f12 f13 f14 f15 f16 f17) H := hP.sub [0, 1, 2, 3, 4, 14, 5, 6, 7, 8, 9, 10, 11, 12, 13] rfl
            have hD : va_D A (wl_Mo_findPieces a_0 a_0_isFlat a_0_across a_0_lows a_0_highs a_0_xs a_0_ys a_0_labels a_0_isPoint a_0_pieceLines a_0_pieceBegins a_0_pieceEnds a_0_pieceLeft a_0_pieceRight a_0_outs b_0_thick b_0_doorCounts b_0_doorFrom b_0_doorTo b_0_oldXs b_0_oldYs b_0_oldLabels b_0_names b_0_oldNames b_0_wanted b_0_common b_0_flatEdges b_0_upEdges b_0_stack b_0_isSeen b_0_ringSpaces b_0_ringStarts b_0_ringSizes b_0_ringLeast b_0_looseLines b_0_looseXs b_0_looseYs b_0_looseReaches b_0_far cZ cI v_0_code v_0_lines v_0_isFresh v_0_hasRun v_0_runs v_0_nx v_0_ny v_0_spaces v_0_oldNx v_0_oldNy v_0_oldSpaces v_0_points x11 v_0_rings v_0_outsideSides v_0_looseCount f_0_isFlat f_0_across f_0_lows f_0_highs f_0_xs f_0_ys f_0_labels f_0_isPoint f12 f13 f14 f15 f16 f17) := hD.sub [0, 1, 2, 3, 4, 14, 5, 6, 7, 8, 9, 10, 11, 12, 13] (by decide) rfl
            refine lv_goto (tgt := 111) hx hb d_Mo_findPieces_95 (by decide) ?_
            cases hm
            exact K40 H locs ls hP hD hS (lv_sub hl [1, 2, 3, 0] rfl)
        replace hm := hb30
        refine lv_if_eq (tgt := 64) hx hb d_Mo_findPieces_45 (by decide) (fun c33 => ?_) (fun c33 => ?_)
        · replace hm := if_t hm c33
          refine lv_aload_n hx hb d_Mo_findPieces_64 rfl (lv_at hl 1 rfl) ?_
          refine va_get (D := (dC, dI)) (ci := 11) (v := .ref a_0_xs) (C := "SpaceCyclesModel") (T := F_Mo) (N := 54) hx hb hts (in_F i_Mo) hown hK hP 0 rfl rfl 13 (by decide) (hts _ (in_c k_302)) (fun _ h9 => h9) rfl d_Mo_findPieces_65 ?_
          refine lv_aload_n hx hb d_Mo_findPieces_68 rfl (lv_at hl 1 rfl) ?_
          refine va_get (D := (dC, dI)) (ci := 11) (v := .ref a_0_across) (C := "SpaceCyclesModel") (T := F_Mo) (N := 54) hx hb hts (in_F i_Mo) hown hK hP 0 rfl rfl 2 (by decide) (hts _ (in_c k_280)) (fun _ h9 => h9) rfl d_Mo_findPieces_69 ?_
          refine lv_iload_n hx hb d_Mo_findPieces_72 rfl (lv_at hl 2 rfl) ?_
          obtain ⟨hi34, hm⟩ := gI_e hm
          refine va_iald hx hb hK hP 2 0 rfl rfl hi34 d_Mo_findPieces_73 ?_
          obtain ⟨r35, hb36, hm⟩ := bd1_e hm
          have hPc := hP.sub (ws' := (wl_Mo_find a_0_xs cI 42 f_0_xs)) [5] rfl
          have hDc := hD.sub (ws' := (wl_Mo_find a_0_xs cI 42 f_0_xs)) [5] (by decide) rfl
          refine cl_i (wc' := (wl_Mo_find a_0_xs cI 42 f_0_xs)) (va_runS (As := [.ref a_0_xs, .int (f_0_across x10.toNatClampNeg)]) (rest := []) ⟨hx, hb, hml, hown, hts⟩ (c_Mo_find l dC dI (cI := cI) (cZ := cZ) (cJ := cJ) a_0_xs H.size 42 f_0_xs (f_0_across x10.toNatClampNeg) r35 hb36) (va_cwS 2 hts (gl_S k_312 k_311 k_277 k_310) rfl rfl rfl (by decide +kernel) ⟨Nat.le_of_ble_eq_true rfl, Nat.le_of_ble_eq_true rfl⟩) ⟨PP_blind, fun U hU hW => PP_at hK hN hPc hDc hU hW⟩ rfl rfl hl.1 rfl (lv_room (Nat.le_of_ble_eq_true rfl)) d_Mo_findPieces_74 ⟨Nat.zero_le _, Nat.zero_le _⟩) hP hD hS hA [5] [0, 1, 2, 3, 4, 6, 7, 8, 9, 10, 11, 12, 13, 14] rfl rfl (by decide) (by decide) (fun H locs hP hD hS => ?_)
          have hP : va_P (dC, dI) vwCl (wl_Mo_findPieces a_0 a_0_isFlat a_0_across a_0_lows a_0_highs a_0_xs a_0_ys a_0_labels a_0_isPoint a_0_pieceLines a_0_pieceBegins a_0_pieceEnds a_0_pieceLeft a_0_pieceRight a_0_outs b_0_thick b_0_doorCounts b_0_doorFrom b_0_doorTo b_0_oldXs b_0_oldYs b_0_oldLabels b_0_names b_0_oldNames b_0_wanted b_0_common b_0_flatEdges b_0_upEdges b_0_stack b_0_isSeen b_0_ringSpaces b_0_ringStarts b_0_ringSizes b_0_ringLeast b_0_looseLines b_0_looseXs b_0_looseYs b_0_looseReaches b_0_far cZ cI v_0_code v_0_lines v_0_isFresh v_0_hasRun v_0_runs v_0_nx v_0_ny v_0_spaces v_0_oldNx v_0_oldNy v_0_oldSpaces v_0_points x11 v_0_rings v_0_outsideSides v_0_looseCount f_0_isFlat f_0_across f_0_lows f_0_highs f_0_xs f_0_ys f_0_labels f_0_isPoint f12 f13 f14 f15 f16 f17) H := hP.sub [0, 1, 2, 3, 4, 14, 5, 6, 7, 8, 9, 10, 11, 12, 13] rfl
          have hD : va_D A (wl_Mo_findPieces a_0 a_0_isFlat a_0_across a_0_lows a_0_highs a_0_xs a_0_ys a_0_labels a_0_isPoint a_0_pieceLines a_0_pieceBegins a_0_pieceEnds a_0_pieceLeft a_0_pieceRight a_0_outs b_0_thick b_0_doorCounts b_0_doorFrom b_0_doorTo b_0_oldXs b_0_oldYs b_0_oldLabels b_0_names b_0_oldNames b_0_wanted b_0_common b_0_flatEdges b_0_upEdges b_0_stack b_0_isSeen b_0_ringSpaces b_0_ringStarts b_0_ringSizes b_0_ringLeast b_0_looseLines b_0_looseXs b_0_looseYs b_0_looseReaches b_0_far cZ cI v_0_code v_0_lines v_0_isFresh v_0_hasRun v_0_runs v_0_nx v_0_ny v_0_spaces v_0_oldNx v_0_oldNy v_0_oldSpaces v_0_points x11 v_0_rings v_0_outsideSides v_0_looseCount f_0_isFlat f_0_across f_0_lows f_0_highs f_0_xs f_0_ys f_0_labels f_0_isPoint f12 f13 f14 f15 f16 f17) := hD.sub [0, 1, 2, 3, 4, 14, 5, 6, 7, 8, 9, 10, 11, 12, 13] (by decide) rfl
          cases hm
          exact K29 H locs ls hP hD hS (lv_sub hl [1, 2, 0] rfl)
        · replace hm := if_f hm c33
          refine lv_aload_n hx hb d_Mo_findPieces_48 rfl (lv_at hl 1 rfl) ?_
          refine va_get (D := (dC, dI)) (ci := 11) (v := .ref a_0_ys) (C := "SpaceCyclesModel") (T := F_Mo) (N := 54) hx hb hts (in_F i_Mo) hown hK hP 0 rfl rfl 14 (by decide) (hts _ (in_c k_306)) (fun _ h9 => h9) rfl d_Mo_findPieces_49 ?_
          refine lv_aload_n hx hb d_Mo_findPieces_52 rfl (lv_at hl 1 rfl) ?_
          refine va_get (D := (dC, dI)) (ci := 11) (v := .ref a_0_across) (C := "SpaceCyclesModel") (T := F_Mo) (N := 54) hx hb hts (in_F i_Mo) hown hK hP 0 rfl rfl 2 (by decide) (hts _ (in_c k_280)) (fun _ h9 => h9) rfl d_Mo_findPieces_53 ?_
          refine lv_iload_n hx hb d_Mo_findPieces_56 rfl (lv_at hl 2 rfl) ?_
          obtain ⟨hi37, hm⟩ := gI_e hm
          refine va_iald hx hb hK hP 2 0 rfl rfl hi37 d_Mo_findPieces_57 ?_
          obtain ⟨r38, hb39, hm⟩ := bd1_e hm
          have hPc := hP.sub (ws' := (wl_Mo_find a_0_ys cI 42 f_0_ys)) [6] rfl
          have hDc := hD.sub (ws' := (wl_Mo_find a_0_ys cI 42 f_0_ys)) [6] (by decide) rfl
          refine cl_i (wc' := (wl_Mo_find a_0_ys cI 42 f_0_ys)) (va_runS (As := [.ref a_0_ys, .int (f_0_across x10.toNatClampNeg)]) (rest := []) ⟨hx, hb, hml, hown, hts⟩ (c_Mo_find l dC dI (cI := cI) (cZ := cZ) (cJ := cJ) a_0_ys H.size 42 f_0_ys (f_0_across x10.toNatClampNeg) r38 hb39) (va_cwS 2 hts (gl_S k_312 k_311 k_277 k_310) rfl rfl rfl (by decide +kernel) ⟨Nat.le_of_ble_eq_true rfl, Nat.le_of_ble_eq_true rfl⟩) ⟨PP_blind, fun U hU hW => PP_at hK hN hPc hDc hU hW⟩ rfl rfl hl.1 rfl (lv_room (Nat.le_of_ble_eq_true rfl)) d_Mo_findPieces_58 ⟨Nat.zero_le _, Nat.zero_le _⟩) hP hD hS hA [6] [0, 1, 2, 3, 4, 5, 7, 8, 9, 10, 11, 12, 13, 14] rfl rfl (by decide) (by decide) (fun H locs hP hD hS => ?_)
          have hP : va_P (dC, dI) vwCl (wl_Mo_findPieces a_0 a_0_isFlat a_0_across a_0_lows a_0_highs a_0_xs a_0_ys a_0_labels a_0_isPoint a_0_pieceLines a_0_pieceBegins a_0_pieceEnds a_0_pieceLeft a_0_pieceRight a_0_outs b_0_thick b_0_doorCounts b_0_doorFrom b_0_doorTo b_0_oldXs b_0_oldYs b_0_oldLabels b_0_names b_0_oldNames b_0_wanted b_0_common b_0_flatEdges b_0_upEdges b_0_stack b_0_isSeen b_0_ringSpaces b_0_ringStarts b_0_ringSizes b_0_ringLeast b_0_looseLines b_0_looseXs b_0_looseYs b_0_looseReaches b_0_far cZ cI v_0_code v_0_lines v_0_isFresh v_0_hasRun v_0_runs v_0_nx v_0_ny v_0_spaces v_0_oldNx v_0_oldNy v_0_oldSpaces v_0_points x11 v_0_rings v_0_outsideSides v_0_looseCount f_0_isFlat f_0_across f_0_lows f_0_highs f_0_xs f_0_ys f_0_labels f_0_isPoint f12 f13 f14 f15 f16 f17) H := hP.sub [0, 1, 2, 3, 4, 5, 14, 6, 7, 8, 9, 10, 11, 12, 13] rfl
          have hD : va_D A (wl_Mo_findPieces a_0 a_0_isFlat a_0_across a_0_lows a_0_highs a_0_xs a_0_ys a_0_labels a_0_isPoint a_0_pieceLines a_0_pieceBegins a_0_pieceEnds a_0_pieceLeft a_0_pieceRight a_0_outs b_0_thick b_0_doorCounts b_0_doorFrom b_0_doorTo b_0_oldXs b_0_oldYs b_0_oldLabels b_0_names b_0_oldNames b_0_wanted b_0_common b_0_flatEdges b_0_upEdges b_0_stack b_0_isSeen b_0_ringSpaces b_0_ringStarts b_0_ringSizes b_0_ringLeast b_0_looseLines b_0_looseXs b_0_looseYs b_0_looseReaches b_0_far cZ cI v_0_code v_0_lines v_0_isFresh v_0_hasRun v_0_runs v_0_nx v_0_ny v_0_spaces v_0_oldNx v_0_oldNy v_0_oldSpaces v_0_points x11 v_0_rings v_0_outsideSides v_0_looseCount f_0_isFlat f_0_across f_0_lows f_0_highs f_0_xs f_0_ys f_0_labels f_0_isPoint f12 f13 f14 f15 f16 f17) := hD.sub [0, 1, 2, 3, 4, 5, 14, 6, 7, 8, 9, 10, 11, 12, 13] (by decide) rfl
          refine lv_goto (tgt := 77) hx hb d_Mo_findPieces_61 (by decide) ?_
          cases hm
          exact K29 H locs ls hP hD hS (lv_sub hl [1, 2, 0] rfl)
  obtain ⟨x18, f19, f20, f21, f22, f23, f24, hb146, hm⟩ := bd7_e hm
  refine L29_25 fu _ _ _ _ _ _ _ _ _ _ _ _ _ _ _ hb146 (fun H locs ls hP hD hS hl => ?_) H locs ls hP hD hS (lv_sub hl [1, 0] rfl)
  cases hm
  exact hret _ H locs ls d_Mo_findPieces_423 hP hD hS
set_option maxHeartbeats 4000000 in
set_option maxRecDepth 100000 in
theorem c_Mo_findPieces (l : Launch) (dC : Nat → ClassId) (dI : Nat → Nat → Nat) {cI cZ cJ : ClassId} (a_0 a_0_isFlat a_0_across a_0_lows a_0_highs a_0_xs a_0_ys a_0_labels a_0_isPoint a_0_pieceLines a_0_pieceBegins a_0_pieceEnds a_0_pieceLeft a_0_pieceRight a_0_outs b_0_thick b_0_doorCounts b_0_doorFrom b_0_doorTo b_0_oldXs b_0_oldYs b_0_oldLabels b_0_names b_0_oldNames b_0_wanted b_0_common b_0_flatEdges b_0_upEdges b_0_stack b_0_isSeen b_0_ringSpaces b_0_ringStarts b_0_ringSizes b_0_ringLeast b_0_looseLines b_0_looseXs b_0_looseYs b_0_looseReaches b_0_far : Nat) (sz : Nat) (v_0_code : Int32) (v_0_lines : Int32) (v_0_isFresh : Int32) (v_0_hasRun : Int32) (v_0_runs : Int32) (v_0_nx : Int32) (v_0_ny : Int32) (v_0_spaces : Int32) (v_0_oldNx : Int32) (v_0_oldNy : Int32) (v_0_oldSpaces : Int32) (v_0_points : Int32) (v_0_pieces : Int32) (v_0_rings : Int32) (v_0_outsideSides : Int32) (v_0_looseCount : Int32) (f_0_isFlat : Nat → Int32) (f_0_across : Nat → Int32) (f_0_lows : Nat → Int32) (f_0_highs : Nat → Int32) (f_0_xs : Nat → Int32) (f_0_ys : Nat → Int32) (f_0_labels : Nat → Int32) (f_0_isPoint : Nat → Int32) (f_0_pieceLines : Nat → Int32) (f_0_pieceBegins : Nat → Int32) (f_0_pieceEnds : Nat → Int32) (f_0_pieceLeft : Nat → Int32) (f_0_pieceRight : Nat → Int32) (f_0_outs : Nat → Int32)  (ov_0_pieces : Int32) (of_0_pieceLines : Nat → Int32) (of_0_pieceBegins : Nat → Int32) (of_0_pieceEnds : Nat → Int32) (of_0_pieceLeft : Nat → Int32) (of_0_pieceRight : Nat → Int32) (of_0_outs : Nat → Int32) (hm : m_Mo_findPieces v_0_lines v_0_pieces f_0_isFlat f_0_across f_0_lows f_0_highs f_0_xs f_0_ys f_0_labels f_0_isPoint f_0_pieceLines f_0_pieceBegins f_0_pieceEnds f_0_pieceLeft f_0_pieceRight f_0_outs = some (ov_0_pieces, of_0_pieceLines, of_0_pieceBegins, of_0_pieceEnds, of_0_pieceLeft, of_0_pieceRight, of_0_outs)) : Met l y_Mo_findPieces w_Mo_findPieces rm_Mo_findPieces (PP dC dI [(cI, .int), (cZ, .boolean), (cJ, .long)] [.ref a_0] sz (wl_Mo_findPieces a_0 a_0_isFlat a_0_across a_0_lows a_0_highs a_0_xs a_0_ys a_0_labels a_0_isPoint a_0_pieceLines a_0_pieceBegins a_0_pieceEnds a_0_pieceLeft a_0_pieceRight a_0_outs b_0_thick b_0_doorCounts b_0_doorFrom b_0_doorTo b_0_oldXs b_0_oldYs b_0_oldLabels b_0_names b_0_oldNames b_0_wanted b_0_common b_0_flatEdges b_0_upEdges b_0_stack b_0_isSeen b_0_ringSpaces b_0_ringStarts b_0_ringSizes b_0_ringLeast b_0_looseLines b_0_looseXs b_0_looseYs b_0_looseReaches b_0_far cZ cI v_0_code v_0_lines v_0_isFresh v_0_hasRun v_0_runs v_0_nx v_0_ny v_0_spaces v_0_oldNx v_0_oldNy v_0_oldSpaces v_0_points v_0_pieces v_0_rings v_0_outsideSides v_0_looseCount f_0_isFlat f_0_across f_0_lows f_0_highs f_0_xs f_0_ys f_0_labels f_0_isPoint f_0_pieceLines f_0_pieceBegins f_0_pieceEnds f_0_pieceLeft f_0_pieceRight f_0_outs)) (QV dC dI [(cI, .int), (cZ, .boolean), (cJ, .long)] sz (wl_Mo_findPieces a_0 a_0_isFlat a_0_across a_0_lows a_0_highs a_0_xs a_0_ys a_0_labels a_0_isPoint a_0_pieceLines a_0_pieceBegins a_0_pieceEnds a_0_pieceLeft a_0_pieceRight a_0_outs b_0_thick b_0_doorCounts b_0_doorFrom b_0_doorTo b_0_oldXs b_0_oldYs b_0_oldLabels b_0_names b_0_oldNames b_0_wanted b_0_common b_0_flatEdges b_0_upEdges b_0_stack b_0_isSeen b_0_ringSpaces b_0_ringStarts b_0_ringSizes b_0_ringLeast b_0_looseLines b_0_looseXs b_0_looseYs b_0_looseReaches b_0_far cZ cI v_0_code v_0_lines v_0_isFresh v_0_hasRun v_0_runs v_0_nx v_0_ny v_0_spaces v_0_oldNx v_0_oldNy v_0_oldSpaces v_0_points v_0_pieces v_0_rings v_0_outsideSides v_0_looseCount f_0_isFlat f_0_across f_0_lows f_0_highs f_0_xs f_0_ys f_0_labels f_0_isPoint f_0_pieceLines f_0_pieceBegins f_0_pieceEnds f_0_pieceLeft f_0_pieceRight f_0_outs) (wl_Mo_findPieces a_0 a_0_isFlat a_0_across a_0_lows a_0_highs a_0_xs a_0_ys a_0_labels a_0_isPoint a_0_pieceLines a_0_pieceBegins a_0_pieceEnds a_0_pieceLeft a_0_pieceRight a_0_outs b_0_thick b_0_doorCounts b_0_doorFrom b_0_doorTo b_0_oldXs b_0_oldYs b_0_oldLabels b_0_names b_0_oldNames b_0_wanted b_0_common b_0_flatEdges b_0_upEdges b_0_stack b_0_isSeen b_0_ringSpaces b_0_ringStarts b_0_ringSizes b_0_ringLeast b_0_looseLines b_0_looseXs b_0_looseYs b_0_looseReaches b_0_far cZ cI v_0_code v_0_lines v_0_isFresh v_0_hasRun v_0_runs v_0_nx v_0_ny v_0_spaces v_0_oldNx v_0_oldNy v_0_oldSpaces v_0_points ov_0_pieces v_0_rings v_0_outsideSides v_0_looseCount f_0_isFlat f_0_across f_0_lows f_0_highs f_0_xs f_0_ys f_0_labels f_0_isPoint of_0_pieceLines of_0_pieceBegins of_0_pieceEnds of_0_pieceLeft of_0_pieceRight of_0_outs)) 0 0 (va_A (wl_Mo_findPieces a_0 a_0_isFlat a_0_across a_0_lows a_0_highs a_0_xs a_0_ys a_0_labels a_0_isPoint a_0_pieceLines a_0_pieceBegins a_0_pieceEnds a_0_pieceLeft a_0_pieceRight a_0_outs b_0_thick b_0_doorCounts b_0_doorFrom b_0_doorTo b_0_oldXs b_0_oldYs b_0_oldLabels b_0_names b_0_oldNames b_0_wanted b_0_common b_0_flatEdges b_0_upEdges b_0_stack b_0_isSeen b_0_ringSpaces b_0_ringStarts b_0_ringSizes b_0_ringLeast b_0_looseLines b_0_looseXs b_0_looseYs b_0_looseReaches b_0_far cZ cI v_0_code v_0_lines v_0_isFresh v_0_hasRun v_0_runs v_0_nx v_0_ny v_0_spaces v_0_oldNx v_0_oldNy v_0_oldSpaces v_0_points v_0_pieces v_0_rings v_0_outsideSides v_0_looseCount f_0_isFlat f_0_across f_0_lows f_0_highs f_0_xs f_0_ys f_0_labels f_0_isPoint f_0_pieceLines f_0_pieceBegins f_0_pieceEnds f_0_pieceLeft f_0_pieceRight f_0_outs) sz) := by
  refine Met.ofW (cc := b_Mo_findPieces) (maxL := 10) (ret := none) (by decide) rfl ?_
  intro p e s m args below meth c s₁ B hml hv
  obtain ⟨rfl, hsz, hP, hK, hD0, hN⟩ := hv
  subst hsz
  have hl := lv_entry ([.ref a_0]) (n := 10) (Nat.le_of_ble_eq_true rfl)
  rw [lg_entry_eq]
  generalize (lg_sl ([.ref a_0]) ++ List.replicate (10 - (lg_sl ([.ref a_0])).length) Slot.unset).toArray = ls at hl ⊢
  exact t_Mo_findPieces a_0 a_0_isFlat a_0_across a_0_lows a_0_highs a_0_xs a_0_ys a_0_labels a_0_isPoint a_0_pieceLines a_0_pieceBegins a_0_pieceEnds a_0_pieceLeft a_0_pieceRight a_0_outs b_0_thick b_0_doorCounts b_0_doorFrom b_0_doorTo b_0_oldXs b_0_oldYs b_0_oldLabels b_0_names b_0_oldNames b_0_wanted b_0_common b_0_flatEdges b_0_upEdges b_0_stack b_0_isSeen b_0_ringSpaces b_0_ringStarts b_0_ringSizes b_0_ringLeast b_0_looseLines b_0_looseXs b_0_looseYs b_0_looseReaches b_0_far v_0_code v_0_lines v_0_isFresh v_0_hasRun v_0_runs v_0_nx v_0_ny v_0_spaces v_0_oldNx v_0_oldNy v_0_oldSpaces v_0_points v_0_pieces v_0_rings v_0_outsideSides v_0_looseCount f_0_isFlat f_0_across f_0_lows f_0_highs f_0_xs f_0_ys f_0_labels f_0_isPoint f_0_pieceLines f_0_pieceBegins f_0_pieceEnds f_0_pieceLeft f_0_pieceRight f_0_outs ov_0_pieces of_0_pieceLines of_0_pieceBegins of_0_pieceEnds of_0_pieceLeft of_0_pieceRight of_0_outs B.exec B.bytes hml (findClass_of_methodNamed B.named) (atoms_spec (ws := w_Mo_findPieces) B.pre) hK hN (fun q h => Or.inr h) (fun pc H locs ls hd hP9 hD9 hS => W.vret B.exec B.bytes B.returns (fun t ht hW => ⟨⟨(), rfl, trivial, by rw [ht]; exact hP9, va_K.moved hW.alike hK, hD9⟩, hS.F ht⟩) hS.2.2 hd) hm s.heap [] ls hP hD0.self va_S.rf hl

-- SpaceCyclesModel.leftOf(I)I
abbrev b_Mo_leftOf : ByteArray := prog_13_method_18_code
abbrev y_Mo_leftOf : MethodName := ⟨"SpaceCyclesModel", "leftOf", "(I)I"⟩
abbrev w_Mo_leftOf : List Cond := Cond.code y_Mo_leftOf b_Mo_leftOf 2 (some .int) :: gl
abbrev rm_Mo_leftOf : Room := { frames := 0, cells := 0, slots := 0, locals := 0 }
theorem d_Mo_leftOf_0 : decode b_Mo_leftOf 0 = .ok (.iload_n 1, 1) := by decide +kernel
theorem d_Mo_leftOf_1 : decode b_Mo_leftOf 1 = .ok (.iconst 2, 1) := by decide +kernel
theorem d_Mo_leftOf_2 : decode b_Mo_leftOf 2 = .ok (.irem, 1) := by decide +kernel
theorem d_Mo_leftOf_3 : decode b_Mo_leftOf 3 = .ok (.ifCond .ne 14, 3) := by decide +kernel
theorem d_Mo_leftOf_6 : decode b_Mo_leftOf 6 = .ok (.aload_n 0, 1) := by decide +kernel
theorem d_Mo_leftOf_7 : decode b_Mo_leftOf 7 = .ok (.getfield 87, 3) := by decide +kernel
theorem d_Mo_leftOf_10 : decode b_Mo_leftOf 10 = .ok (.iload_n 1, 1) := by decide +kernel
theorem d_Mo_leftOf_11 : decode b_Mo_leftOf 11 = .ok (.iconst 2, 1) := by decide +kernel
theorem d_Mo_leftOf_12 : decode b_Mo_leftOf 12 = .ok (.idiv, 1) := by decide +kernel
theorem d_Mo_leftOf_13 : decode b_Mo_leftOf 13 = .ok (.iaload, 1) := by decide +kernel
theorem d_Mo_leftOf_14 : decode b_Mo_leftOf 14 = .ok (.goto 11, 3) := by decide +kernel
theorem d_Mo_leftOf_17 : decode b_Mo_leftOf 17 = .ok (.aload_n 0, 1) := by decide +kernel
theorem d_Mo_leftOf_18 : decode b_Mo_leftOf 18 = .ok (.getfield 90, 3) := by decide +kernel
theorem d_Mo_leftOf_21 : decode b_Mo_leftOf 21 = .ok (.iload_n 1, 1) := by decide +kernel
theorem d_Mo_leftOf_22 : decode b_Mo_leftOf 22 = .ok (.iconst 2, 1) := by decide +kernel
theorem d_Mo_leftOf_23 : decode b_Mo_leftOf 23 = .ok (.idiv, 1) := by decide +kernel
theorem d_Mo_leftOf_24 : decode b_Mo_leftOf 24 = .ok (.iaload, 1) := by decide +kernel
theorem d_Mo_leftOf_25 : decode b_Mo_leftOf 25 = .ok (.ireturn, 1) := by decide +kernel
abbrev wl_Mo_leftOf (a_0 : Nat) (a_0_pieceLeft : Nat) (a_0_pieceRight : Nat) (b_0_isFlat : Nat) (b_0_across : Nat) (b_0_lows : Nat) (b_0_highs : Nat) (b_0_thick : Nat) (b_0_doorCounts : Nat) (b_0_doorFrom : Nat) (b_0_doorTo : Nat) (b_0_xs : Nat) (b_0_ys : Nat) (b_0_labels : Nat) (b_0_oldXs : Nat) (b_0_oldYs : Nat) (b_0_oldLabels : Nat) (b_0_names : Nat) (b_0_oldNames : Nat) (b_0_wanted : Nat) (b_0_common : Nat) (b_0_flatEdges : Nat) (b_0_upEdges : Nat) (b_0_isPoint : Nat) (b_0_stack : Nat) (b_0_pieceLines : Nat) (b_0_pieceBegins : Nat) (b_0_pieceEnds : Nat) (b_0_outs : Nat) (b_0_isSeen : Nat) (b_0_ringSpaces : Nat) (b_0_ringStarts : Nat) (b_0_ringSizes : Nat) (b_0_ringLeast : Nat) (b_0_looseLines : Nat) (b_0_looseXs : Nat) (b_0_looseYs : Nat) (b_0_looseReaches : Nat) (b_0_far : Nat) (cI : ClassId) (v_0_code : Int32) (v_0_lines : Int32) (v_0_isFresh : Int32) (v_0_hasRun : Int32) (v_0_runs : Int32) (v_0_nx : Int32) (v_0_ny : Int32) (v_0_spaces : Int32) (v_0_oldNx : Int32) (v_0_oldNy : Int32) (v_0_oldSpaces : Int32) (v_0_points : Int32) (v_0_pieces : Int32) (v_0_rings : Int32) (v_0_outsideSides : Int32) (v_0_looseCount : Int32) (f_0_pieceLeft : Nat → Int32) (f_0_pieceRight : Nat → Int32) : va_W := [(a_0, .inr (11, [.int v_0_code, .ref b_0_isFlat, .ref b_0_across, .ref b_0_lows, .ref b_0_highs, .ref b_0_thick, .int v_0_lines, .ref b_0_doorCounts, .ref b_0_doorFrom, .ref b_0_doorTo, .int v_0_isFresh, .int v_0_hasRun, .int v_0_runs, .ref b_0_xs, .ref b_0_ys, .int v_0_nx, .int v_0_ny, .ref b_0_labels, .int v_0_spaces, .ref b_0_oldXs, .ref b_0_oldYs, .int v_0_oldNx, .int v_0_oldNy, .ref b_0_oldLabels, .int v_0_oldSpaces, .ref b_0_names, .ref b_0_oldNames, .ref b_0_wanted, .ref b_0_common, .ref b_0_flatEdges, .ref b_0_upEdges, .ref b_0_isPoint, .int v_0_points, .ref b_0_stack, .ref b_0_pieceLines, .ref b_0_pieceBegins, .ref b_0_pieceEnds, .ref a_0_pieceLeft, .ref a_0_pieceRight, .int v_0_pieces, .ref b_0_outs, .ref b_0_isSeen, .ref b_0_ringSpaces, .ref b_0_ringStarts, .ref b_0_ringSizes, .ref b_0_ringLeast, .int v_0_rings, .int v_0_outsideSides, .ref b_0_looseLines, .ref b_0_looseXs, .ref b_0_looseYs, .ref b_0_looseReaches, .int v_0_looseCount, .ref b_0_far])), (a_0_pieceLeft, .inl (cI, 900, .inl f_0_pieceLeft)), (a_0_pieceRight, .inl (cI, 900, .inl f_0_pieceRight))]
def m_Mo_leftOf (p1 : Int32) (f_0_pieceLeft : Nat → Int32) (f_0_pieceRight : Nat → Int32) : Option (Int32) :=
  bd1 (
    if (p1 - p1 / 2 * 2) = 0 then (
    gI (p1 / 2) 900 <|
    some (f_0_pieceLeft (p1 / 2).toNatClampNeg))
  else (
    gI (p1 / 2) 900 <|
    some (f_0_pieceRight (p1 / 2).toNatClampNeg)))
  fun (x4 : Int32) =>
  some x4

set_option maxHeartbeats 4000000 in
set_option maxRecDepth 100000 in
theorem t_Mo_leftOf {p : Program} {l : Launch} {e : Env} {s : State} {m : MethodId} {args : Array Value} {below : List Frame} {meth : Method} {c : Code} {A : Nat → Prop} {Q : State → Prop} {dC : Nat → ClassId} {dI : Nat → Nat → Nat} {cI cZ cJ : ClassId} (a_0 a_0_pieceLeft a_0_pieceRight b_0_isFlat b_0_across b_0_lows b_0_highs b_0_thick b_0_doorCounts b_0_doorFrom b_0_doorTo b_0_xs b_0_ys b_0_labels b_0_oldXs b_0_oldYs b_0_oldLabels b_0_names b_0_oldNames b_0_wanted b_0_common b_0_flatEdges b_0_upEdges b_0_isPoint b_0_stack b_0_pieceLines b_0_pieceBegins b_0_pieceEnds b_0_outs b_0_isSeen b_0_ringSpaces b_0_ringStarts b_0_ringSizes b_0_ringLeast b_0_looseLines b_0_looseXs b_0_looseYs b_0_looseReaches b_0_far : Nat) (v_0_code : Int32) (v_0_lines : Int32) (v_0_isFresh : Int32) (v_0_hasRun : Int32) (v_0_runs : Int32) (v_0_nx : Int32) (v_0_ny : Int32) (v_0_spaces : Int32) (v_0_oldNx : Int32) (v_0_oldNy : Int32) (v_0_oldSpaces : Int32) (v_0_points : Int32) (v_0_pieces : Int32) (v_0_rings : Int32) (v_0_outsideSides : Int32) (v_0_looseCount : Int32) (f_0_pieceLeft : Nat → Int32) (f_0_pieceRight : Nat → Int32) (p1 : Int32) (R0 : Int32) (hx : p.tables.exec = Jvm.exec) (hb : c.code = b_Mo_leftOf) (hml : c.maxLocals = 2) (hown : s.vm.findClass "SpaceCyclesModel" = some m.cls) (hts : ∀ w ∈ w_Mo_leftOf, w.before args s = true) (hK : va_K (dC, dI) vwCl [(cI, .int), (cZ, .boolean), (cJ, .long)] s) (hN : NX s) (hA : ∀ q : Nat, s.heap.size ≤ q → A q)
    (hret : ∀ (pc : Nat) (H : Heap) (locs : List Loc) (ls : Array Slot), decode b_Mo_leftOf pc = .ok (.ireturn, 1) → va_P (dC, dI) vwCl (wl_Mo_leftOf a_0 a_0_pieceLeft a_0_pieceRight b_0_isFlat b_0_across b_0_lows b_0_highs b_0_thick b_0_doorCounts b_0_doorFrom b_0_doorTo b_0_xs b_0_ys b_0_labels b_0_oldXs b_0_oldYs b_0_oldLabels b_0_names b_0_oldNames b_0_wanted b_0_common b_0_flatEdges b_0_upEdges b_0_isPoint b_0_stack b_0_pieceLines b_0_pieceBegins b_0_pieceEnds b_0_outs b_0_isSeen b_0_ringSpaces b_0_ringStarts b_0_ringSizes b_0_ringLeast b_0_looseLines b_0_looseXs b_0_looseYs b_0_looseReaches b_0_far cI v_0_code v_0_lines v_0_isFresh v_0_hasRun v_0_runs v_0_nx v_0_ny v_0_spaces v_0_oldNx v_0_oldNy v_0_oldSpaces v_0_points v_0_pieces v_0_rings v_0_outsideSides v_0_looseCount f_0_pieceLeft f_0_pieceRight) H → va_D A (wl_Mo_leftOf a_0 a_0_pieceLeft a_0_pieceRight b_0_isFlat b_0_across b_0_lows b_0_highs b_0_thick b_0_doorCounts b_0_doorFrom b_0_doorTo b_0_xs b_0_ys b_0_labels b_0_oldXs b_0_oldYs b_0_oldLabels b_0_names b_0_oldNames b_0_wanted b_0_common b_0_flatEdges b_0_upEdges b_0_isPoint b_0_stack b_0_pieceLines b_0_pieceBegins b_0_pieceEnds b_0_outs b_0_isSeen b_0_ringSpaces b_0_ringStarts b_0_ringSizes b_0_ringLeast b_0_looseLines b_0_looseXs b_0_looseYs b_0_looseReaches b_0_far cI v_0_code v_0_lines v_0_isFresh v_0_hasRun v_0_runs v_0_nx v_0_ny v_0_spaces v_0_oldNx v_0_oldNy v_0_oldSpaces v_0_points v_0_pieces v_0_rings v_0_outsideSides v_0_looseCount f_0_pieceLeft f_0_pieceRight) → va_S A s.heap H locs → W p l e rm_Mo_leftOf s m args below meth c H locs 0 0 Q (F0 m pc ls [.int R0]))
    (hm : m_Mo_leftOf p1 f_0_pieceLeft f_0_pieceRight = some R0) : ∀ (H : Heap) (locs : List Loc) (ls : Array Slot), va_P (dC, dI) vwCl (wl_Mo_leftOf a_0 a_0_pieceLeft a_0_pieceRight b_0_isFlat b_0_across b_0_lows b_0_highs b_0_thick b_0_doorCounts b_0_doorFrom b_0_doorTo b_0_xs b_0_ys b_0_labels b_0_oldXs b_0_oldYs b_0_oldLabels b_0_names b_0_oldNames b_0_wanted b_0_common b_0_flatEdges b_0_upEdges b_0_isPoint b_0_stack b_0_pieceLines b_0_pieceBegins b_0_pieceEnds b_0_outs b_0_isSeen b_0_ringSpaces b_0_ringStarts b_0_ringSizes b_0_ringLeast b_0_looseLines b_0_looseXs b_0_looseYs b_0_looseReaches b_0_far cI v_0_code v_0_lines v_0_isFresh v_0_hasRun v_0_runs v_0_nx v_0_ny v_0_spaces v_0_oldNx v_0_oldNy v_0_oldSpaces v_0_points v_0_pieces v_0_rings v_0_outsideSides v_0_looseCount f_0_pieceLeft f_0_pieceRight) H → va_D A (wl_Mo_leftOf a_0 a_0_pieceLeft a_0_pieceRight b_0_isFlat b_0_across b_0_lows b_0_highs b_0_thick b_0_doorCounts b_0_doorFrom b_0_doorTo b_0_xs b_0_ys b_0_labels b_0_oldXs b_0_oldYs b_0_oldLabels b_0_names b_0_oldNames b_0_wanted b_0_common b_0_flatEdges b_0_upEdges b_0_isPoint b_0_stack b_0_pieceLines b_0_pieceBegins b_0_pieceEnds b_0_outs b_0_isSeen b_0_ringSpaces b_0_ringStarts b_0_ringSizes b_0_ringLeast b_0_looseLines b_0_looseXs b_0_looseYs b_0_looseReaches b_0_far cI v_0_code v_0_lines v_0_isFresh v_0_hasRun v_0_runs v_0_nx v_0_ny v_0_spaces v_0_oldNx v_0_oldNy v_0_oldSpaces v_0_points v_0_pieces v_0_rings v_0_outsideSides v_0_looseCount f_0_pieceLeft f_0_pieceRight) → va_S A s.heap H locs → lv_has ls 2 [(0, .ref a_0), (1, .int p1)] → W p l e rm_Mo_leftOf s m args below meth c H locs 0 0 Q (F0 m 0 ls []) := by
  intro H locs ls hP hD hS hl
  unfold m_Mo_leftOf at hm
  refine lv_iload_n hx hb d_Mo_leftOf_0 rfl (lv_at hl 1 rfl) ?_
  refine lv_iconst (v := 2) hx hb d_Mo_leftOf_1 (by decide) ?_
  refine lv_irem hx hb d_Mo_leftOf_2 (by decide) ?_
  obtain ⟨x4, hb2, hm⟩ := bd1_e hm
  have K1 : ∀ (H : Heap) (locs : List Loc) (ls : Array Slot), va_P (dC, dI) vwCl (wl_Mo_leftOf a_0 a_0_pieceLeft a_0_pieceRight b_0_isFlat b_0_across b_0_lows b_0_highs b_0_thick b_0_doorCounts b_0_doorFrom b_0_doorTo b_0_xs b_0_ys b_0_labels b_0_oldXs b_0_oldYs b_0_oldLabels b_0_names b_0_oldNames b_0_wanted b_0_common b_0_flatEdges b_0_upEdges b_0_isPoint b_0_stack b_0_pieceLines b_0_pieceBegins b_0_pieceEnds b_0_outs b_0_isSeen b_0_ringSpaces b_0_ringStarts b_0_ringSizes b_0_ringLeast b_0_looseLines b_0_looseXs b_0_looseYs b_0_looseReaches b_0_far cI v_0_code v_0_lines v_0_isFresh v_0_hasRun v_0_runs v_0_nx v_0_ny v_0_spaces v_0_oldNx v_0_oldNy v_0_oldSpaces v_0_points v_0_pieces v_0_rings v_0_outsideSides v_0_looseCount f_0_pieceLeft f_0_pieceRight) H → va_D A (wl_Mo_leftOf a_0 a_0_pieceLeft a_0_pieceRight b_0_isFlat b_0_across b_0_lows b_0_highs b_0_thick b_0_doorCounts b_0_doorFrom b_0_doorTo b_0_xs b_0_ys b_0_labels b_0_oldXs b_0_oldYs b_0_oldLabels b_0_names b_0_oldNames b_0_wanted b_0_common b_0_flatEdges b_0_upEdges b_0_isPoint b_0_stack b_0_pieceLines b_0_pieceBegins b_0_pieceEnds b_0_outs b_0_isSeen b_0_ringSpaces b_0_ringStarts b_0_ringSizes b_0_ringLeast b_0_looseLines b_0_looseXs b_0_looseYs b_0_looseReaches b_0_far cI v_0_code v_0_lines v_0_isFresh v_0_hasRun v_0_runs v_0_nx v_0_ny v_0_spaces v_0_oldNx v_0_oldNy v_0_oldSpaces v_0_points v_0_pieces v_0_rings v_0_outsideSides v_0_looseCount f_0_pieceLeft f_0_pieceRight) → va_S A s.heap H locs → lv_has ls 2 [] → W p l e rm_Mo_leftOf s m args below meth c H locs 0 0 Q (F0 m 25 ls [.int x4]) := by
    intro H locs ls hP hD hS hl
    cases hm
    exact hret _ H locs ls d_Mo_leftOf_25 hP hD hS
  replace hm := hb2
  refine lv_if_ne (tgt := 17) hx hb d_Mo_leftOf_3 (by decide) (fun c5 => ?_) (fun c5 => ?_)
  · replace hm := if_f hm c5
    refine lv_aload_n hx hb d_Mo_leftOf_17 rfl (lv_at hl 0 rfl) ?_
    refine va_get (D := (dC, dI)) (ci := 11) (v := .ref a_0_pieceRight) (C := "SpaceCyclesModel") (T := F_Mo) (N := 54) hx hb hts (in_F i_Mo) hown hK hP 0 rfl rfl 38 (by decide) (hts _ (in_c k_335)) (fun _ h9 => h9) rfl d_Mo_leftOf_18 ?_
    refine lv_iload_n hx hb d_Mo_leftOf_21 rfl (lv_at hl 1 rfl) ?_
    refine lv_iconst (v := 2) hx hb d_Mo_leftOf_22 (by decide) ?_
    refine lv_idiv hx hb d_Mo_leftOf_23 (by decide) ?_
    obtain ⟨hi6, hm⟩ := gI_e hm
    refine va_iald hx hb hK hP 2 0 rfl rfl hi6 d_Mo_leftOf_24 ?_
    cases hm
    exact K1 H locs ls hP hD hS (lv_sub hl [] rfl)
  · replace hm := if_t hm c5
    refine lv_aload_n hx hb d_Mo_leftOf_6 rfl (lv_at hl 0 rfl) ?_
    refine va_get (D := (dC, dI)) (ci := 11) (v := .ref a_0_pieceLeft) (C := "SpaceCyclesModel") (T := F_Mo) (N := 54) hx hb hts (in_F i_Mo) hown hK hP 0 rfl rfl 37 (by decide) (hts _ (in_c k_334)) (fun _ h9 => h9) rfl d_Mo_leftOf_7 ?_
    refine lv_iload_n hx hb d_Mo_leftOf_10 rfl (lv_at hl 1 rfl) ?_
    refine lv_iconst (v := 2) hx hb d_Mo_leftOf_11 (by decide) ?_
    refine lv_idiv hx hb d_Mo_leftOf_12 (by decide) ?_
    obtain ⟨hi7, hm⟩ := gI_e hm
    refine va_iald hx hb hK hP 1 0 rfl rfl hi7 d_Mo_leftOf_13 ?_
    refine lv_goto (tgt := 25) hx hb d_Mo_leftOf_14 (by decide) ?_
    cases hm
    exact K1 H locs ls hP hD hS (lv_sub hl [] rfl)
set_option maxHeartbeats 4000000 in
set_option maxRecDepth 100000 in
theorem c_Mo_leftOf (l : Launch) (dC : Nat → ClassId) (dI : Nat → Nat → Nat) {cI cZ cJ : ClassId} (a_0 a_0_pieceLeft a_0_pieceRight b_0_isFlat b_0_across b_0_lows b_0_highs b_0_thick b_0_doorCounts b_0_doorFrom b_0_doorTo b_0_xs b_0_ys b_0_labels b_0_oldXs b_0_oldYs b_0_oldLabels b_0_names b_0_oldNames b_0_wanted b_0_common b_0_flatEdges b_0_upEdges b_0_isPoint b_0_stack b_0_pieceLines b_0_pieceBegins b_0_pieceEnds b_0_outs b_0_isSeen b_0_ringSpaces b_0_ringStarts b_0_ringSizes b_0_ringLeast b_0_looseLines b_0_looseXs b_0_looseYs b_0_looseReaches b_0_far : Nat) (sz : Nat) (v_0_code : Int32) (v_0_lines : Int32) (v_0_isFresh : Int32) (v_0_hasRun : Int32) (v_0_runs : Int32) (v_0_nx : Int32) (v_0_ny : Int32) (v_0_spaces : Int32) (v_0_oldNx : Int32) (v_0_oldNy : Int32) (v_0_oldSpaces : Int32) (v_0_points : Int32) (v_0_pieces : Int32) (v_0_rings : Int32) (v_0_outsideSides : Int32) (v_0_looseCount : Int32) (f_0_pieceLeft : Nat → Int32) (f_0_pieceRight : Nat → Int32) (p1 : Int32) (R0 : Int32) (hm : m_Mo_leftOf p1 f_0_pieceLeft f_0_pieceRight = some R0) : Met l y_Mo_leftOf w_Mo_leftOf rm_Mo_leftOf (PP dC dI [(cI, .int), (cZ, .boolean), (cJ, .long)] [.ref a_0, .int p1] sz (wl_Mo_leftOf a_0 a_0_pieceLeft a_0_pieceRight b_0_isFlat b_0_across b_0_lows b_0_highs b_0_thick b_0_doorCounts b_0_doorFrom b_0_doorTo b_0_xs b_0_ys b_0_labels b_0_oldXs b_0_oldYs b_0_oldLabels b_0_names b_0_oldNames b_0_wanted b_0_common b_0_flatEdges b_0_upEdges b_0_isPoint b_0_stack b_0_pieceLines b_0_pieceBegins b_0_pieceEnds b_0_outs b_0_isSeen b_0_ringSpaces b_0_ringStarts b_0_ringSizes b_0_ringLeast b_0_looseLines b_0_looseXs b_0_looseYs b_0_looseReaches b_0_far cI v_0_code v_0_lines v_0_isFresh v_0_hasRun v_0_runs v_0_nx v_0_ny v_0_spaces v_0_oldNx v_0_oldNy v_0_oldSpaces v_0_points v_0_pieces v_0_rings v_0_outsideSides v_0_looseCount f_0_pieceLeft f_0_pieceRight)) (QI dC dI [(cI, .int), (cZ, .boolean), (cJ, .long)] sz (wl_Mo_leftOf a_0 a_0_pieceLeft a_0_pieceRight b_0_isFlat b_0_across b_0_lows b_0_highs b_0_thick b_0_doorCounts b_0_doorFrom b_0_doorTo b_0_xs b_0_ys b_0_labels b_0_oldXs b_0_oldYs b_0_oldLabels b_0_names b_0_oldNames b_0_wanted b_0_common b_0_flatEdges b_0_upEdges b_0_isPoint b_0_stack b_0_pieceLines b_0_pieceBegins b_0_pieceEnds b_0_outs b_0_isSeen b_0_ringSpaces b_0_ringStarts b_0_ringSizes b_0_ringLeast b_0_looseLines b_0_looseXs b_0_looseYs b_0_looseReaches b_0_far cI v_0_code v_0_lines v_0_isFresh v_0_hasRun v_0_runs v_0_nx v_0_ny v_0_spaces v_0_oldNx v_0_oldNy v_0_oldSpaces v_0_points v_0_pieces v_0_rings v_0_outsideSides v_0_looseCount f_0_pieceLeft f_0_pieceRight) (wl_Mo_leftOf a_0 a_0_pieceLeft a_0_pieceRight b_0_isFlat b_0_across b_0_lows b_0_highs b_0_thick b_0_doorCounts b_0_doorFrom b_0_doorTo b_0_xs b_0_ys b_0_labels b_0_oldXs b_0_oldYs b_0_oldLabels b_0_names b_0_oldNames b_0_wanted b_0_common b_0_flatEdges b_0_upEdges b_0_isPoint b_0_stack b_0_pieceLines b_0_pieceBegins b_0_pieceEnds b_0_outs b_0_isSeen b_0_ringSpaces b_0_ringStarts b_0_ringSizes b_0_ringLeast b_0_looseLines b_0_looseXs b_0_looseYs b_0_looseReaches b_0_far cI v_0_code v_0_lines v_0_isFresh v_0_hasRun v_0_runs v_0_nx v_0_ny v_0_spaces v_0_oldNx v_0_oldNy v_0_oldSpaces v_0_points v_0_pieces v_0_rings v_0_outsideSides v_0_looseCount f_0_pieceLeft f_0_pieceRight) R0) 0 0 (va_A (wl_Mo_leftOf a_0 a_0_pieceLeft a_0_pieceRight b_0_isFlat b_0_across b_0_lows b_0_highs b_0_thick b_0_doorCounts b_0_doorFrom b_0_doorTo b_0_xs b_0_ys b_0_labels b_0_oldXs b_0_oldYs b_0_oldLabels b_0_names b_0_oldNames b_0_wanted b_0_common b_0_flatEdges b_0_upEdges b_0_isPoint b_0_stack b_0_pieceLines b_0_pieceBegins b_0_pieceEnds b_0_outs b_0_isSeen b_0_ringSpaces b_0_ringStarts b_0_ringSizes b_0_ringLeast b_0_looseLines b_0_looseXs b_0_looseYs b_0_looseReaches b_0_far cI v_0_code v_0_lines v_0_isFresh v_0_hasRun v_0_runs v_0_nx v_0_ny v_0_spaces v_0_oldNx v_0_oldNy v_0_oldSpaces v_0_points v_0_pieces v_0_rings v_0_outsideSides v_0_looseCount f_0_pieceLeft f_0_pieceRight) sz) := by
  refine Met.ofW (cc := b_Mo_leftOf) (maxL := 2) (ret := (some .int)) (by decide) rfl ?_
  intro p e s m args below meth c s₁ B hml hv
  obtain ⟨rfl, hsz, hP, hK, hD0, hN⟩ := hv
  subst hsz
  have hl := lv_entry ([.ref a_0, .int p1]) (n := 2) (Nat.le_of_ble_eq_true rfl)
  rw [lg_entry_eq]
  generalize (lg_sl ([.ref a_0, .int p1]) ++ List.replicate (2 - (lg_sl ([.ref a_0, .int p1])).length) Slot.unset).toArray = ls at hl ⊢
  exact t_Mo_leftOf a_0 a_0_pieceLeft a_0_pieceRight b_0_isFlat b_0_across b_0_lows b_0_highs b_0_thick b_0_doorCounts b_0_doorFrom b_0_doorTo b_0_xs b_0_ys b_0_labels b_0_oldXs b_0_oldYs b_0_oldLabels b_0_names b_0_oldNames b_0_wanted b_0_common b_0_flatEdges b_0_upEdges b_0_isPoint b_0_stack b_0_pieceLines b_0_pieceBegins b_0_pieceEnds b_0_outs b_0_isSeen b_0_ringSpaces b_0_ringStarts b_0_ringSizes b_0_ringLeast b_0_looseLines b_0_looseXs b_0_looseYs b_0_looseReaches b_0_far v_0_code v_0_lines v_0_isFresh v_0_hasRun v_0_runs v_0_nx v_0_ny v_0_spaces v_0_oldNx v_0_oldNy v_0_oldSpaces v_0_points v_0_pieces v_0_rings v_0_outsideSides v_0_looseCount f_0_pieceLeft f_0_pieceRight p1 R0 B.exec B.bytes hml (findClass_of_methodNamed B.named) (atoms_spec (ws := w_Mo_leftOf) B.pre) hK hN (fun q h => Or.inr h) (fun pc H locs ls hd hP9 hD9 hS => W.iret B.exec B.bytes B.returns (fun t ht hW => ⟨⟨_, (), rfl, rfl, by rw [ht]; exact hP9, va_K.moved hW.alike hK, hD9⟩, hS.F ht⟩) hS.2.2 hd) hm s.heap [] ls hP hD0.self va_S.rf hl

-- SpaceCyclesModel.beginOf(I)I
abbrev b_Mo_beginOf : ByteArray := prog_13_method_19_code
abbrev y_Mo_beginOf : MethodName := ⟨"SpaceCyclesModel", "beginOf", "(I)I"⟩
abbrev w_Mo_beginOf : List Cond := Cond.code y_Mo_beginOf b_Mo_beginOf 2 (some .int) :: gl
abbrev rm_Mo_beginOf : Room := { frames := 0, cells := 0, slots := 0, locals := 0 }
theorem d_Mo_beginOf_0 : decode b_Mo_beginOf 0 = .ok (.iload_n 1, 1) := by decide +kernel
theorem d_Mo_beginOf_1 : decode b_Mo_beginOf 1 = .ok (.iconst 2, 1) := by decide +kernel
theorem d_Mo_beginOf_2 : decode b_Mo_beginOf 2 = .ok (.irem, 1) := by decide +kernel
theorem d_Mo_beginOf_3 : decode b_Mo_beginOf 3 = .ok (.ifCond .ne 14, 3) := by decide +kernel
theorem d_Mo_beginOf_6 : decode b_Mo_beginOf 6 = .ok (.aload_n 0, 1) := by decide +kernel
theorem d_Mo_beginOf_7 : decode b_Mo_beginOf 7 = .ok (.getfield 81, 3) := by decide +kernel
theorem d_Mo_beginOf_10 : decode b_Mo_beginOf 10 = .ok (.iload_n 1, 1) := by decide +kernel
theorem d_Mo_beginOf_11 : decode b_Mo_beginOf 11 = .ok (.iconst 2, 1) := by decide +kernel
theorem d_Mo_beginOf_12 : decode b_Mo_beginOf 12 = .ok (.idiv, 1) := by decide +kernel
theorem d_Mo_beginOf_13 : decode b_Mo_beginOf 13 = .ok (.iaload, 1) := by decide +kernel
theorem d_Mo_beginOf_14 : decode b_Mo_beginOf 14 = .ok (.goto 11, 3) := by decide +kernel
theorem d_Mo_beginOf_17 : decode b_Mo_beginOf 17 = .ok (.aload_n 0, 1) := by decide +kernel
theorem d_Mo_beginOf_18 : decode b_Mo_beginOf 18 = .ok (.getfield 84, 3) := by decide +kernel
theorem d_Mo_beginOf_21 : decode b_Mo_beginOf 21 = .ok (.iload_n 1, 1) := by decide +kernel
theorem d_Mo_beginOf_22 : decode b_Mo_beginOf 22 = .ok (.iconst 2, 1) := by decide +kernel
theorem d_Mo_beginOf_23 : decode b_Mo_beginOf 23 = .ok (.idiv, 1) := by decide +kernel
theorem d_Mo_beginOf_24 : decode b_Mo_beginOf 24 = .ok (.iaload, 1) := by decide +kernel
theorem d_Mo_beginOf_25 : decode b_Mo_beginOf 25 = .ok (.ireturn, 1) := by decide +kernel
abbrev wl_Mo_beginOf (a_0 : Nat) (a_0_pieceBegins : Nat) (a_0_pieceEnds : Nat) (b_0_isFlat : Nat) (b_0_across : Nat) (b_0_lows : Nat) (b_0_highs : Nat) (b_0_thick : Nat) (b_0_doorCounts : Nat) (b_0_doorFrom : Nat) (b_0_doorTo : Nat) (b_0_xs : Nat) (b_0_ys : Nat) (b_0_labels : Nat) (b_0_oldXs : Nat) (b_0_oldYs : Nat) (b_0_oldLabels : Nat) (b_0_names : Nat) (b_0_oldNames : Nat) (b_0_wanted : Nat) (b_0_common : Nat) (b_0_flatEdges : Nat) (b_0_upEdges : Nat) (b_0_isPoint : Nat) (b_0_stack : Nat) (b_0_pieceLines : Nat) (b_0_pieceLeft : Nat) (b_0_pieceRight : Nat) (b_0_outs : Nat) (b_0_isSeen : Nat) (b_0_ringSpaces : Nat) (b_0_ringStarts : Nat) (b_0_ringSizes : Nat) (b_0_ringLeast : Nat) (b_0_looseLines : Nat) (b_0_looseXs : Nat) (b_0_looseYs : Nat) (b_0_looseReaches : Nat) (b_0_far : Nat) (cI : ClassId) (v_0_code : Int32) (v_0_lines : Int32) (v_0_isFresh : Int32) (v_0_hasRun : Int32) (v_0_runs : Int32) (v_0_nx : Int32) (v_0_ny : Int32) (v_0_spaces : Int32) (v_0_oldNx : Int32) (v_0_oldNy : Int32) (v_0_oldSpaces : Int32) (v_0_points : Int32) (v_0_pieces : Int32) (v_0_rings : Int32) (v_0_outsideSides : Int32) (v_0_looseCount : Int32) (f_0_pieceBegins : Nat → Int32) (f_0_pieceEnds : Nat → Int32) : va_W := [(a_0, .inr (11, [.int v_0_code, .ref b_0_isFlat, .ref b_0_across, .ref b_0_lows, .ref b_0_highs, .ref b_0_thick, .int v_0_lines, .ref b_0_doorCounts, .ref b_0_doorFrom, .ref b_0_doorTo, .int v_0_isFresh, .int v_0_hasRun, .int v_0_runs, .ref b_0_xs, .ref b_0_ys, .int v_0_nx, .int v_0_ny, .ref b_0_labels, .int v_0_spaces, .ref b_0_oldXs, .ref b_0_oldYs, .int v_0_oldNx, .int v_0_oldNy, .ref b_0_oldLabels, .int v_0_oldSpaces, .ref b_0_names, .ref b_0_oldNames, .ref b_0_wanted, .ref b_0_common, .ref b_0_flatEdges, .ref b_0_upEdges, .ref b_0_isPoint, .int v_0_points, .ref b_0_stack, .ref b_0_pieceLines, .ref a_0_pieceBegins, .ref a_0_pieceEnds, .ref b_0_pieceLeft, .ref b_0_pieceRight, .int v_0_pieces, .ref b_0_outs, .ref b_0_isSeen, .ref b_0_ringSpaces, .ref b_0_ringStarts, .ref b_0_ringSizes, .ref b_0_ringLeast, .int v_0_rings, .int v_0_outsideSides, .ref b_0_looseLines, .ref b_0_looseXs, .ref b_0_looseYs, .ref b_0_looseReaches, .int v_0_looseCount, .ref b_0_far])), (a_0_pieceBegins, .inl (cI, 900, .inl f_0_pieceBegins)), (a_0_pieceEnds, .inl (cI, 900, .inl f_0_pieceEnds))]
def m_Mo_beginOf (p1 : Int32) (f_0_pieceBegins : Nat → Int32) (f_0_pieceEnds : Nat → Int32) : Option (Int32) :=
  bd1 (
    if (p1 - p1 / 2 * 2) = 0 then (
    gI (p1 / 2) 900 <|
    some (f_0_pieceBegins (p1 / 2).toNatClampNeg))
  else (
    gI (p1 / 2) 900 <|
    some (f_0_pieceEnds (p1 / 2).toNatClampNeg)))
  fun (x4 : Int32) =>
  some x4

set_option maxHeartbeats 4000000 in
set_option maxRecDepth 100000 in
theorem t_Mo_beginOf {p : Program} {l : Launch} {e : Env} {s : State} {m : MethodId} {args : Array Value} {below : List Frame} {meth : Method} {c : Code} {A : Nat → Prop} {Q : State → Prop} {dC : Nat → ClassId} {dI : Nat → Nat → Nat} {cI cZ cJ : ClassId} (a_0 a_0_pieceBegins a_0_pieceEnds b_0_isFlat b_0_across b_0_lows b_0_highs b_0_thick b_0_doorCounts b_0_doorFrom b_0_doorTo b_0_xs b_0_ys b_0_labels b_0_oldXs b_0_oldYs b_0_oldLabels b_0_names b_0_oldNames b_0_wanted b_0_common b_0_flatEdges b_0_upEdges b_0_isPoint b_0_stack b_0_pieceLines b_0_pieceLeft b_0_pieceRight b_0_outs b_0_isSeen b_0_ringSpaces b_0_ringStarts b_0_ringSizes b_0_ringLeast b_0_looseLines b_0_looseXs b_0_looseYs b_0_looseReaches b_0_far : Nat) (v_0_code : Int32) (v_0_lines : Int32) (v_0_isFresh : Int32) (v_0_hasRun : Int32) (v_0_runs : Int32) (v_0_nx : Int32) (v_0_ny : Int32) (v_0_spaces : Int32) (v_0_oldNx : Int32) (v_0_oldNy : Int32) (v_0_oldSpaces : Int32) (v_0_points : Int32) (v_0_pieces : Int32) (v_0_rings : Int32) (v_0_outsideSides : Int32) (v_0_looseCount : Int32) (f_0_pieceBegins : Nat → Int32) (f_0_pieceEnds : Nat → Int32) (p1 : Int32) (R0 : Int32) (hx : p.tables.exec = Jvm.exec) (hb : c.code = b_Mo_beginOf) (hml : c.maxLocals = 2) (hown : s.vm.findClass "SpaceCyclesModel" = some m.cls) (hts : ∀ w ∈ w_Mo_beginOf, w.before args s = true) (hK : va_K (dC, dI) vwCl [(cI, .int), (cZ, .boolean), (cJ, .long)] s) (hN : NX s) (hA : ∀ q : Nat, s.heap.size ≤ q → A q)
    (hret : ∀ (pc : Nat) (H : Heap) (locs : List Loc) (ls : Array Slot), decode b_Mo_beginOf pc = .ok (.ireturn, 1) → va_P (dC, dI) vwCl (wl_Mo_beginOf a_0 a_0_pieceBegins a_0_pieceEnds b_0_isFlat b_0_across b_0_lows b_0_highs b_0_thick b_0_doorCounts b_0_doorFrom b_0_doorTo b_0_xs b_0_ys b_0_labels b_0_oldXs b_0_oldYs b_0_oldLabels b_0_names b_0_oldNames b_0_wanted b_0_common b_0_flatEdges b_0_upEdges b_0_isPoint b_0_stack b_0_pieceLines b_0_pieceLeft b_0_pieceRight b_0_outs b_0_isSeen b_0_ringSpaces b_0_ringStarts b_0_ringSizes b_0_ringLeast b_0_looseLines b_0_looseXs b_0_looseYs b_0_looseReaches b_0_far cI v_0_code v_0_lines v_0_isFresh v_0_hasRun v_0_runs v_0_nx v_0_ny v_0_spaces v_0_oldNx v_0_oldNy v_0_oldSpaces v_0_points v_0_pieces v_0_rings v_0_outsideSides v_0_looseCount f_0_pieceBegins f_0_pieceEnds) H → va_D A (wl_Mo_beginOf a_0 a_0_pieceBegins a_0_pieceEnds b_0_isFlat b_0_across b_0_lows b_0_highs b_0_thick b_0_doorCounts b_0_doorFrom b_0_doorTo b_0_xs b_0_ys b_0_labels b_0_oldXs b_0_oldYs b_0_oldLabels b_0_names b_0_oldNames b_0_wanted b_0_common b_0_flatEdges b_0_upEdges b_0_isPoint b_0_stack b_0_pieceLines b_0_pieceLeft b_0_pieceRight b_0_outs b_0_isSeen b_0_ringSpaces b_0_ringStarts b_0_ringSizes b_0_ringLeast b_0_looseLines b_0_looseXs b_0_looseYs b_0_looseReaches b_0_far cI v_0_code v_0_lines v_0_isFresh v_0_hasRun v_0_runs v_0_nx v_0_ny v_0_spaces v_0_oldNx v_0_oldNy v_0_oldSpaces v_0_points v_0_pieces v_0_rings v_0_outsideSides v_0_looseCount f_0_pieceBegins f_0_pieceEnds) → va_S A s.heap H locs → W p l e rm_Mo_beginOf s m args below meth c H locs 0 0 Q (F0 m pc ls [.int R0]))
    (hm : m_Mo_beginOf p1 f_0_pieceBegins f_0_pieceEnds = some R0) : ∀ (H : Heap) (locs : List Loc) (ls : Array Slot), va_P (dC, dI) vwCl (wl_Mo_beginOf a_0 a_0_pieceBegins a_0_pieceEnds b_0_isFlat b_0_across b_0_lows b_0_highs b_0_thick b_0_doorCounts b_0_doorFrom b_0_doorTo b_0_xs b_0_ys b_0_labels b_0_oldXs b_0_oldYs b_0_oldLabels b_0_names b_0_oldNames b_0_wanted b_0_common b_0_flatEdges b_0_upEdges b_0_isPoint b_0_stack b_0_pieceLines b_0_pieceLeft b_0_pieceRight b_0_outs b_0_isSeen b_0_ringSpaces b_0_ringStarts b_0_ringSizes b_0_ringLeast b_0_looseLines b_0_looseXs b_0_looseYs b_0_looseReaches b_0_far cI v_0_code v_0_lines v_0_isFresh v_0_hasRun v_0_runs v_0_nx v_0_ny v_0_spaces v_0_oldNx v_0_oldNy v_0_oldSpaces v_0_points v_0_pieces v_0_rings v_0_outsideSides v_0_looseCount f_0_pieceBegins f_0_pieceEnds) H → va_D A (wl_Mo_beginOf a_0 a_0_pieceBegins a_0_pieceEnds b_0_isFlat b_0_across b_0_lows b_0_highs b_0_thick b_0_doorCounts b_0_doorFrom b_0_doorTo b_0_xs b_0_ys b_0_labels b_0_oldXs b_0_oldYs b_0_oldLabels b_0_names b_0_oldNames b_0_wanted b_0_common b_0_flatEdges b_0_upEdges b_0_isPoint b_0_stack b_0_pieceLines b_0_pieceLeft b_0_pieceRight b_0_outs b_0_isSeen b_0_ringSpaces b_0_ringStarts b_0_ringSizes b_0_ringLeast b_0_looseLines b_0_looseXs b_0_looseYs b_0_looseReaches b_0_far cI v_0_code v_0_lines v_0_isFresh v_0_hasRun v_0_runs v_0_nx v_0_ny v_0_spaces v_0_oldNx v_0_oldNy v_0_oldSpaces v_0_points v_0_pieces v_0_rings v_0_outsideSides v_0_looseCount f_0_pieceBegins f_0_pieceEnds) → va_S A s.heap H locs → lv_has ls 2 [(0, .ref a_0), (1, .int p1)] → W p l e rm_Mo_beginOf s m args below meth c H locs 0 0 Q (F0 m 0 ls []) := by
  intro H locs ls hP hD hS hl
  unfold m_Mo_beginOf at hm
  refine lv_iload_n hx hb d_Mo_beginOf_0 rfl (lv_at hl 1 rfl) ?_
  refine lv_iconst (v := 2) hx hb d_Mo_beginOf_1 (by decide) ?_
  refine lv_irem hx hb d_Mo_beginOf_2 (by decide) ?_
  obtain ⟨x4, hb2, hm⟩ := bd1_e hm
  have K1 : ∀ (H : Heap) (locs : List Loc) (ls : Array Slot), va_P (dC, dI) vwCl (wl_Mo_beginOf a_0 a_0_pieceBegins a_0_pieceEnds b_0_isFlat b_0_across b_0_lows b_0_highs b_0_thick b_0_doorCounts b_0_doorFrom b_0_doorTo b_0_xs b_0_ys b_0_labels b_0_oldXs b_0_oldYs b_0_oldLabels b_0_names b_0_oldNames b_0_wanted b_0_common b_0_flatEdges b_0_upEdges b_0_isPoint b_0_stack b_0_pieceLines b_0_pieceLeft b_0_pieceRight b_0_outs b_0_isSeen b_0_ringSpaces b_0_ringStarts b_0_ringSizes b_0_ringLeast b_0_looseLines b_0_looseXs b_0_looseYs b_0_looseReaches b_0_far cI v_0_code v_0_lines v_0_isFresh v_0_hasRun v_0_runs v_0_nx v_0_ny v_0_spaces v_0_oldNx v_0_oldNy v_0_oldSpaces v_0_points v_0_pieces v_0_rings v_0_outsideSides v_0_looseCount f_0_pieceBegins f_0_pieceEnds) H → va_D A (wl_Mo_beginOf a_0 a_0_pieceBegins a_0_pieceEnds b_0_isFlat b_0_across b_0_lows b_0_highs b_0_thick b_0_doorCounts b_0_doorFrom b_0_doorTo b_0_xs b_0_ys b_0_labels b_0_oldXs b_0_oldYs b_0_oldLabels b_0_names b_0_oldNames b_0_wanted b_0_common b_0_flatEdges b_0_upEdges b_0_isPoint b_0_stack b_0_pieceLines b_0_pieceLeft b_0_pieceRight b_0_outs b_0_isSeen b_0_ringSpaces b_0_ringStarts b_0_ringSizes b_0_ringLeast b_0_looseLines b_0_looseXs b_0_looseYs b_0_looseReaches b_0_far cI v_0_code v_0_lines v_0_isFresh v_0_hasRun v_0_runs v_0_nx v_0_ny v_0_spaces v_0_oldNx v_0_oldNy v_0_oldSpaces v_0_points v_0_pieces v_0_rings v_0_outsideSides v_0_looseCount f_0_pieceBegins f_0_pieceEnds) → va_S A s.heap H locs → lv_has ls 2 [] → W p l e rm_Mo_beginOf s m args below meth c H locs 0 0 Q (F0 m 25 ls [.int x4]) := by
    intro H locs ls hP hD hS hl
    cases hm
    exact hret _ H locs ls d_Mo_beginOf_25 hP hD hS
  replace hm := hb2
  refine lv_if_ne (tgt := 17) hx hb d_Mo_beginOf_3 (by decide) (fun c5 => ?_) (fun c5 => ?_)
  · replace hm := if_f hm c5
    refine lv_aload_n hx hb d_Mo_beginOf_17 rfl (lv_at hl 0 rfl) ?_
    refine va_get (D := (dC, dI)) (ci := 11) (v := .ref a_0_pieceEnds) (C := "SpaceCyclesModel") (T := F_Mo) (N := 54) hx hb hts (in_F i_Mo) hown hK hP 0 rfl rfl 36 (by decide) (hts _ (in_c k_333)) (fun _ h9 => h9) rfl d_Mo_beginOf_18 ?_
    refine lv_iload_n hx hb d_Mo_beginOf_21 rfl (lv_at hl 1 rfl) ?_
    refine lv_iconst (v := 2) hx hb d_Mo_beginOf_22 (by decide) ?_
    refine lv_idiv hx hb d_Mo_beginOf_23 (by decide) ?_
    obtain ⟨hi6, hm⟩ := gI_e hm
    refine va_iald hx hb hK hP 2 0 rfl rfl hi6 d_Mo_beginOf_24 ?_
    cases hm
    exact K1 H locs ls hP hD hS (lv_sub hl [] rfl)
  · replace hm := if_t hm c5
    refine lv_aload_n hx hb d_Mo_beginOf_6 rfl (lv_at hl 0 rfl) ?_
    refine va_get (D := (dC, dI)) (ci := 11) (v := .ref a_0_pieceBegins) (C := "SpaceCyclesModel") (T := F_Mo) (N := 54) hx hb hts (in_F i_Mo) hown hK hP 0 rfl rfl 35 (by decide) (hts _ (in_c k_332)) (fun _ h9 => h9) rfl d_Mo_beginOf_7 ?_
    refine lv_iload_n hx hb d_Mo_beginOf_10 rfl (lv_at hl 1 rfl) ?_
    refine lv_iconst (v := 2) hx hb d_Mo_beginOf_11 (by decide) ?_
    refine lv_idiv hx hb d_Mo_beginOf_12 (by decide) ?_
    obtain ⟨hi7, hm⟩ := gI_e hm
    refine va_iald hx hb hK hP 1 0 rfl rfl hi7 d_Mo_beginOf_13 ?_
    refine lv_goto (tgt := 25) hx hb d_Mo_beginOf_14 (by decide) ?_
    cases hm
    exact K1 H locs ls hP hD hS (lv_sub hl [] rfl)
set_option maxHeartbeats 4000000 in
set_option maxRecDepth 100000 in
theorem c_Mo_beginOf (l : Launch) (dC : Nat → ClassId) (dI : Nat → Nat → Nat) {cI cZ cJ : ClassId} (a_0 a_0_pieceBegins a_0_pieceEnds b_0_isFlat b_0_across b_0_lows b_0_highs b_0_thick b_0_doorCounts b_0_doorFrom b_0_doorTo b_0_xs b_0_ys b_0_labels b_0_oldXs b_0_oldYs b_0_oldLabels b_0_names b_0_oldNames b_0_wanted b_0_common b_0_flatEdges b_0_upEdges b_0_isPoint b_0_stack b_0_pieceLines b_0_pieceLeft b_0_pieceRight b_0_outs b_0_isSeen b_0_ringSpaces b_0_ringStarts b_0_ringSizes b_0_ringLeast b_0_looseLines b_0_looseXs b_0_looseYs b_0_looseReaches b_0_far : Nat) (sz : Nat) (v_0_code : Int32) (v_0_lines : Int32) (v_0_isFresh : Int32) (v_0_hasRun : Int32) (v_0_runs : Int32) (v_0_nx : Int32) (v_0_ny : Int32) (v_0_spaces : Int32) (v_0_oldNx : Int32) (v_0_oldNy : Int32) (v_0_oldSpaces : Int32) (v_0_points : Int32) (v_0_pieces : Int32) (v_0_rings : Int32) (v_0_outsideSides : Int32) (v_0_looseCount : Int32) (f_0_pieceBegins : Nat → Int32) (f_0_pieceEnds : Nat → Int32) (p1 : Int32) (R0 : Int32) (hm : m_Mo_beginOf p1 f_0_pieceBegins f_0_pieceEnds = some R0) : Met l y_Mo_beginOf w_Mo_beginOf rm_Mo_beginOf (PP dC dI [(cI, .int), (cZ, .boolean), (cJ, .long)] [.ref a_0, .int p1] sz (wl_Mo_beginOf a_0 a_0_pieceBegins a_0_pieceEnds b_0_isFlat b_0_across b_0_lows b_0_highs b_0_thick b_0_doorCounts b_0_doorFrom b_0_doorTo b_0_xs b_0_ys b_0_labels b_0_oldXs b_0_oldYs b_0_oldLabels b_0_names b_0_oldNames b_0_wanted b_0_common b_0_flatEdges b_0_upEdges b_0_isPoint b_0_stack b_0_pieceLines b_0_pieceLeft b_0_pieceRight b_0_outs b_0_isSeen b_0_ringSpaces b_0_ringStarts b_0_ringSizes b_0_ringLeast b_0_looseLines b_0_looseXs b_0_looseYs b_0_looseReaches b_0_far cI v_0_code v_0_lines v_0_isFresh v_0_hasRun v_0_runs v_0_nx v_0_ny v_0_spaces v_0_oldNx v_0_oldNy v_0_oldSpaces v_0_points v_0_pieces v_0_rings v_0_outsideSides v_0_looseCount f_0_pieceBegins f_0_pieceEnds)) (QI dC dI [(cI, .int), (cZ, .boolean), (cJ, .long)] sz (wl_Mo_beginOf a_0 a_0_pieceBegins a_0_pieceEnds b_0_isFlat b_0_across b_0_lows b_0_highs b_0_thick b_0_doorCounts b_0_doorFrom b_0_doorTo b_0_xs b_0_ys b_0_labels b_0_oldXs b_0_oldYs b_0_oldLabels b_0_names b_0_oldNames b_0_wanted b_0_common b_0_flatEdges b_0_upEdges b_0_isPoint b_0_stack b_0_pieceLines b_0_pieceLeft b_0_pieceRight b_0_outs b_0_isSeen b_0_ringSpaces b_0_ringStarts b_0_ringSizes b_0_ringLeast b_0_looseLines b_0_looseXs b_0_looseYs b_0_looseReaches b_0_far cI v_0_code v_0_lines v_0_isFresh v_0_hasRun v_0_runs v_0_nx v_0_ny v_0_spaces v_0_oldNx v_0_oldNy v_0_oldSpaces v_0_points v_0_pieces v_0_rings v_0_outsideSides v_0_looseCount f_0_pieceBegins f_0_pieceEnds) (wl_Mo_beginOf a_0 a_0_pieceBegins a_0_pieceEnds b_0_isFlat b_0_across b_0_lows b_0_highs b_0_thick b_0_doorCounts b_0_doorFrom b_0_doorTo b_0_xs b_0_ys b_0_labels b_0_oldXs b_0_oldYs b_0_oldLabels b_0_names b_0_oldNames b_0_wanted b_0_common b_0_flatEdges b_0_upEdges b_0_isPoint b_0_stack b_0_pieceLines b_0_pieceLeft b_0_pieceRight b_0_outs b_0_isSeen b_0_ringSpaces b_0_ringStarts b_0_ringSizes b_0_ringLeast b_0_looseLines b_0_looseXs b_0_looseYs b_0_looseReaches b_0_far cI v_0_code v_0_lines v_0_isFresh v_0_hasRun v_0_runs v_0_nx v_0_ny v_0_spaces v_0_oldNx v_0_oldNy v_0_oldSpaces v_0_points v_0_pieces v_0_rings v_0_outsideSides v_0_looseCount f_0_pieceBegins f_0_pieceEnds) R0) 0 0 (va_A (wl_Mo_beginOf a_0 a_0_pieceBegins a_0_pieceEnds b_0_isFlat b_0_across b_0_lows b_0_highs b_0_thick b_0_doorCounts b_0_doorFrom b_0_doorTo b_0_xs b_0_ys b_0_labels b_0_oldXs b_0_oldYs b_0_oldLabels b_0_names b_0_oldNames b_0_wanted b_0_common b_0_flatEdges b_0_upEdges b_0_isPoint b_0_stack b_0_pieceLines b_0_pieceLeft b_0_pieceRight b_0_outs b_0_isSeen b_0_ringSpaces b_0_ringStarts b_0_ringSizes b_0_ringLeast b_0_looseLines b_0_looseXs b_0_looseYs b_0_looseReaches b_0_far cI v_0_code v_0_lines v_0_isFresh v_0_hasRun v_0_runs v_0_nx v_0_ny v_0_spaces v_0_oldNx v_0_oldNy v_0_oldSpaces v_0_points v_0_pieces v_0_rings v_0_outsideSides v_0_looseCount f_0_pieceBegins f_0_pieceEnds) sz) := by
  refine Met.ofW (cc := b_Mo_beginOf) (maxL := 2) (ret := (some .int)) (by decide) rfl ?_
  intro p e s m args below meth c s₁ B hml hv
  obtain ⟨rfl, hsz, hP, hK, hD0, hN⟩ := hv
  subst hsz
  have hl := lv_entry ([.ref a_0, .int p1]) (n := 2) (Nat.le_of_ble_eq_true rfl)
  rw [lg_entry_eq]
  generalize (lg_sl ([.ref a_0, .int p1]) ++ List.replicate (2 - (lg_sl ([.ref a_0, .int p1])).length) Slot.unset).toArray = ls at hl ⊢
  exact t_Mo_beginOf a_0 a_0_pieceBegins a_0_pieceEnds b_0_isFlat b_0_across b_0_lows b_0_highs b_0_thick b_0_doorCounts b_0_doorFrom b_0_doorTo b_0_xs b_0_ys b_0_labels b_0_oldXs b_0_oldYs b_0_oldLabels b_0_names b_0_oldNames b_0_wanted b_0_common b_0_flatEdges b_0_upEdges b_0_isPoint b_0_stack b_0_pieceLines b_0_pieceLeft b_0_pieceRight b_0_outs b_0_isSeen b_0_ringSpaces b_0_ringStarts b_0_ringSizes b_0_ringLeast b_0_looseLines b_0_looseXs b_0_looseYs b_0_looseReaches b_0_far v_0_code v_0_lines v_0_isFresh v_0_hasRun v_0_runs v_0_nx v_0_ny v_0_spaces v_0_oldNx v_0_oldNy v_0_oldSpaces v_0_points v_0_pieces v_0_rings v_0_outsideSides v_0_looseCount f_0_pieceBegins f_0_pieceEnds p1 R0 B.exec B.bytes hml (findClass_of_methodNamed B.named) (atoms_spec (ws := w_Mo_beginOf) B.pre) hK hN (fun q h => Or.inr h) (fun pc H locs ls hd hP9 hD9 hS => W.iret B.exec B.bytes B.returns (fun t ht hW => ⟨⟨_, (), rfl, rfl, by rw [ht]; exact hP9, va_K.moved hW.alike hK, hD9⟩, hS.F ht⟩) hS.2.2 hd) hm s.heap [] ls hP hD0.self va_S.rf hl
