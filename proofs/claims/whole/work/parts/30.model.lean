theorem k_273 : ((.fieldLink "SpaceCyclesModel" 126 "SpaceCyclesModel" "code" "I") : Cond) ∈ gl := gl_i 1121 (by decide +kernel) (by decide +kernel)
-- SpaceCyclesModel.thrown()I
abbrev b_Mo_thrown : ByteArray := prog_13_method_2_code
abbrev y_Mo_thrown : MethodName := ⟨"SpaceCyclesModel", "thrown", "()I"⟩
abbrev w_Mo_thrown : List Cond := Cond.code y_Mo_thrown b_Mo_thrown 1 (some .int) :: gl
abbrev rm_Mo_thrown : Room := { frames := 0, cells := 0, slots := 0, locals := 0 }
theorem d_Mo_thrown_0 : decode b_Mo_thrown 0 = .ok (.aload_n 0, 1) := by decide +kernel
theorem d_Mo_thrown_1 : decode b_Mo_thrown 1 = .ok (.getfield 126, 3) := by decide +kernel
theorem d_Mo_thrown_4 : decode b_Mo_thrown 4 = .ok (.ireturn, 1) := by decide +kernel
abbrev wl_Mo_thrown (a_0 : Nat) (b_0_isFlat : Nat) (b_0_across : Nat) (b_0_lows : Nat) (b_0_highs : Nat) (b_0_thick : Nat) (b_0_doorCounts : Nat) (b_0_doorFrom : Nat) (b_0_doorTo : Nat) (b_0_xs : Nat) (b_0_ys : Nat) (b_0_labels : Nat) (b_0_oldXs : Nat) (b_0_oldYs : Nat) (b_0_oldLabels : Nat) (b_0_names : Nat) (b_0_oldNames : Nat) (b_0_wanted : Nat) (b_0_common : Nat) (b_0_flatEdges : Nat) (b_0_upEdges : Nat) (b_0_isPoint : Nat) (b_0_stack : Nat) (b_0_pieceLines : Nat) (b_0_pieceBegins : Nat) (b_0_pieceEnds : Nat) (b_0_pieceLeft : Nat) (b_0_pieceRight : Nat) (b_0_outs : Nat) (b_0_isSeen : Nat) (b_0_ringSpaces : Nat) (b_0_ringStarts : Nat) (b_0_ringSizes : Nat) (b_0_ringLeast : Nat) (b_0_looseLines : Nat) (b_0_looseXs : Nat) (b_0_looseYs : Nat) (b_0_looseReaches : Nat) (b_0_far : Nat) (v_0_code : Int32) (v_0_lines : Int32) (v_0_isFresh : Int32) (v_0_hasRun : Int32) (v_0_runs : Int32) (v_0_nx : Int32) (v_0_ny : Int32) (v_0_spaces : Int32) (v_0_oldNx : Int32) (v_0_oldNy : Int32) (v_0_oldSpaces : Int32) (v_0_points : Int32) (v_0_pieces : Int32) (v_0_rings : Int32) (v_0_outsideSides : Int32) (v_0_looseCount : Int32) : va_W := [(a_0, .inr (11, [.int v_0_code, .ref b_0_isFlat, .ref b_0_across, .ref b_0_lows, .ref b_0_highs, .ref b_0_thick, .int v_0_lines, .ref b_0_doorCounts, .ref b_0_doorFrom, .ref b_0_doorTo, .int v_0_isFresh, .int v_0_hasRun, .int v_0_runs, .ref b_0_xs, .ref b_0_ys, .int v_0_nx, .int v_0_ny, .ref b_0_labels, .int v_0_spaces, .ref b_0_oldXs, .ref b_0_oldYs, .int v_0_oldNx, .int v_0_oldNy, .ref b_0_oldLabels, .int v_0_oldSpaces, .ref b_0_names, .ref b_0_oldNames, .ref b_0_wanted, .ref b_0_common, .ref b_0_flatEdges, .ref b_0_upEdges, .ref b_0_isPoint, .int v_0_points, .ref b_0_stack, .ref b_0_pieceLines, .ref b_0_pieceBegins, .ref b_0_pieceEnds, .ref b_0_pieceLeft, .ref b_0_pieceRight, .int v_0_pieces, .ref b_0_outs, .ref b_0_isSeen, .ref b_0_ringSpaces, .ref b_0_ringStarts, .ref b_0_ringSizes, .ref b_0_ringLeast, .int v_0_rings, .int v_0_outsideSides, .ref b_0_looseLines, .ref b_0_looseXs, .ref b_0_looseYs, .ref b_0_looseReaches, .int v_0_looseCount, .ref b_0_far]))]
def m_Mo_thrown (v_0_code : Int32) : Option (Int32) :=
  some v_0_code

set_option maxHeartbeats 4000000 in
set_option maxRecDepth 100000 in
theorem t_Mo_thrown {p : Program} {l : Launch} {e : Env} {s : State} {m : MethodId} {args : Array Value} {below : List Frame} {meth : Method} {c : Code} {A : Nat → Prop} {Q : State → Prop} {dC : Nat → ClassId} {dI : Nat → Nat → Nat} {cI cZ cJ : ClassId} (a_0 b_0_isFlat b_0_across b_0_lows b_0_highs b_0_thick b_0_doorCounts b_0_doorFrom b_0_doorTo b_0_xs b_0_ys b_0_labels b_0_oldXs b_0_oldYs b_0_oldLabels b_0_names b_0_oldNames b_0_wanted b_0_common b_0_flatEdges b_0_upEdges b_0_isPoint b_0_stack b_0_pieceLines b_0_pieceBegins b_0_pieceEnds b_0_pieceLeft b_0_pieceRight b_0_outs b_0_isSeen b_0_ringSpaces b_0_ringStarts b_0_ringSizes b_0_ringLeast b_0_looseLines b_0_looseXs b_0_looseYs b_0_looseReaches b_0_far : Nat) (v_0_code : Int32) (v_0_lines : Int32) (v_0_isFresh : Int32) (v_0_hasRun : Int32) (v_0_runs : Int32) (v_0_nx : Int32) (v_0_ny : Int32) (v_0_spaces : Int32) (v_0_oldNx : Int32) (v_0_oldNy : Int32) (v_0_oldSpaces : Int32) (v_0_points : Int32) (v_0_pieces : Int32) (v_0_rings : Int32) (v_0_outsideSides : Int32) (v_0_looseCount : Int32)  (R0 : Int32) (hx : p.tables.exec = Jvm.exec) (hb : c.code = b_Mo_thrown) (hml : c.maxLocals = 1) (hown : s.vm.findClass "SpaceCyclesModel" = some m.cls) (hts : ∀ w ∈ w_Mo_thrown, w.before args s = true) (hK : va_K (dC, dI) vwCl [(cI, .int), (cZ, .boolean), (cJ, .long)] s) (hN : NX s) (hA : ∀ q : Nat, s.heap.size ≤ q → A q)
    (hret : ∀ (pc : Nat) (H : Heap) (locs : List Loc) (ls : Array Slot), decode b_Mo_thrown pc = .ok (.ireturn, 1) → va_P (dC, dI) vwCl (wl_Mo_thrown a_0 b_0_isFlat b_0_across b_0_lows b_0_highs b_0_thick b_0_doorCounts b_0_doorFrom b_0_doorTo b_0_xs b_0_ys b_0_labels b_0_oldXs b_0_oldYs b_0_oldLabels b_0_names b_0_oldNames b_0_wanted b_0_common b_0_flatEdges b_0_upEdges b_0_isPoint b_0_stack b_0_pieceLines b_0_pieceBegins b_0_pieceEnds b_0_pieceLeft b_0_pieceRight b_0_outs b_0_isSeen b_0_ringSpaces b_0_ringStarts b_0_ringSizes b_0_ringLeast b_0_looseLines b_0_looseXs b_0_looseYs b_0_looseReaches b_0_far v_0_code v_0_lines v_0_isFresh v_0_hasRun v_0_runs v_0_nx v_0_ny v_0_spaces v_0_oldNx v_0_oldNy v_0_oldSpaces v_0_points v_0_pieces v_0_rings v_0_outsideSides v_0_looseCount) H → va_D A (wl_Mo_thrown a_0 b_0_isFlat b_0_across b_0_lows b_0_highs b_0_thick b_0_doorCounts b_0_doorFrom b_0_doorTo b_0_xs b_0_ys b_0_labels b_0_oldXs b_0_oldYs b_0_oldLabels b_0_names b_0_oldNames b_0_wanted b_0_common b_0_flatEdges b_0_upEdges b_0_isPoint b_0_stack b_0_pieceLines b_0_pieceBegins b_0_pieceEnds b_0_pieceLeft b_0_pieceRight b_0_outs b_0_isSeen b_0_ringSpaces b_0_ringStarts b_0_ringSizes b_0_ringLeast b_0_looseLines b_0_looseXs b_0_looseYs b_0_looseReaches b_0_far v_0_code v_0_lines v_0_isFresh v_0_hasRun v_0_runs v_0_nx v_0_ny v_0_spaces v_0_oldNx v_0_oldNy v_0_oldSpaces v_0_points v_0_pieces v_0_rings v_0_outsideSides v_0_looseCount) → va_S A s.heap H locs → W p l e rm_Mo_thrown s m args below meth c H locs 0 0 Q (F0 m pc ls [.int R0]))
    (hm : m_Mo_thrown v_0_code = some R0) : ∀ (H : Heap) (locs : List Loc) (ls : Array Slot), va_P (dC, dI) vwCl (wl_Mo_thrown a_0 b_0_isFlat b_0_across b_0_lows b_0_highs b_0_thick b_0_doorCounts b_0_doorFrom b_0_doorTo b_0_xs b_0_ys b_0_labels b_0_oldXs b_0_oldYs b_0_oldLabels b_0_names b_0_oldNames b_0_wanted b_0_common b_0_flatEdges b_0_upEdges b_0_isPoint b_0_stack b_0_pieceLines b_0_pieceBegins b_0_pieceEnds b_0_pieceLeft b_0_pieceRight b_0_outs b_0_isSeen b_0_ringSpaces b_0_ringStarts b_0_ringSizes b_0_ringLeast b_0_looseLines b_0_looseXs b_0_looseYs b_0_looseReaches b_0_far v_0_code v_0_lines v_0_isFresh v_0_hasRun v_0_runs v_0_nx v_0_ny v_0_spaces v_0_oldNx v_0_oldNy v_0_oldSpaces v_0_points v_0_pieces v_0_rings v_0_outsideSides v_0_looseCount) H → va_D A (wl_Mo_thrown a_0 b_0_isFlat b_0_across b_0_lows b_0_highs b_0_thick b_0_doorCounts b_0_doorFrom b_0_doorTo b_0_xs b_0_ys b_0_labels b_0_oldXs b_0_oldYs b_0_oldLabels b_0_names b_0_oldNames b_0_wanted b_0_common b_0_flatEdges b_0_upEdges b_0_isPoint b_0_stack b_0_pieceLines b_0_pieceBegins b_0_pieceEnds b_0_pieceLeft b_0_pieceRight b_0_outs b_0_isSeen b_0_ringSpaces b_0_ringStarts b_0_ringSizes b_0_ringLeast b_0_looseLines b_0_looseXs b_0_looseYs b_0_looseReaches b_0_far v_0_code v_0_lines v_0_isFresh v_0_hasRun v_0_runs v_0_nx v_0_ny v_0_spaces v_0_oldNx v_0_oldNy v_0_oldSpaces v_0_points v_0_pieces v_0_rings v_0_outsideSides v_0_looseCount) → va_S A s.heap H locs → lv_has ls 1 [(0, .ref a_0)] → W p l e rm_Mo_thrown s m args below meth c H locs 0 0 Q (F0 m 0 ls []) := by
  intro H locs ls hP hD hS hl
  unfold m_Mo_thrown at hm
  refine lv_aload_n hx hb d_Mo_thrown_0 rfl (lv_at hl 0 rfl) ?_
  refine va_get (D := (dC, dI)) (ci := 11) (v := .int v_0_code) (C := "SpaceCyclesModel") (T := F_Mo) (N := 54) hx hb hts (in_F i_Mo) hown hK hP 0 rfl rfl 0 (by decide) (hts _ (in_c k_273)) (fun _ h9 => h9) rfl d_Mo_thrown_1 ?_
  cases hm
  exact hret _ H locs ls d_Mo_thrown_4 hP hD hS
set_option maxHeartbeats 4000000 in
set_option maxRecDepth 100000 in
theorem c_Mo_thrown (l : Launch) (dC : Nat → ClassId) (dI : Nat → Nat → Nat) {cI cZ cJ : ClassId} (a_0 b_0_isFlat b_0_across b_0_lows b_0_highs b_0_thick b_0_doorCounts b_0_doorFrom b_0_doorTo b_0_xs b_0_ys b_0_labels b_0_oldXs b_0_oldYs b_0_oldLabels b_0_names b_0_oldNames b_0_wanted b_0_common b_0_flatEdges b_0_upEdges b_0_isPoint b_0_stack b_0_pieceLines b_0_pieceBegins b_0_pieceEnds b_0_pieceLeft b_0_pieceRight b_0_outs b_0_isSeen b_0_ringSpaces b_0_ringStarts b_0_ringSizes b_0_ringLeast b_0_looseLines b_0_looseXs b_0_looseYs b_0_looseReaches b_0_far : Nat) (sz : Nat) (v_0_code : Int32) (v_0_lines : Int32) (v_0_isFresh : Int32) (v_0_hasRun : Int32) (v_0_runs : Int32) (v_0_nx : Int32) (v_0_ny : Int32) (v_0_spaces : Int32) (v_0_oldNx : Int32) (v_0_oldNy : Int32) (v_0_oldSpaces : Int32) (v_0_points : Int32) (v_0_pieces : Int32) (v_0_rings : Int32) (v_0_outsideSides : Int32) (v_0_looseCount : Int32)  (R0 : Int32) (hm : m_Mo_thrown v_0_code = some R0) : Met l y_Mo_thrown w_Mo_thrown rm_Mo_thrown (PP dC dI [(cI, .int), (cZ, .boolean), (cJ, .long)] [.ref a_0] sz (wl_Mo_thrown a_0 b_0_isFlat b_0_across b_0_lows b_0_highs b_0_thick b_0_doorCounts b_0_doorFrom b_0_doorTo b_0_xs b_0_ys b_0_labels b_0_oldXs b_0_oldYs b_0_oldLabels b_0_names b_0_oldNames b_0_wanted b_0_common b_0_flatEdges b_0_upEdges b_0_isPoint b_0_stack b_0_pieceLines b_0_pieceBegins b_0_pieceEnds b_0_pieceLeft b_0_pieceRight b_0_outs b_0_isSeen b_0_ringSpaces b_0_ringStarts b_0_ringSizes b_0_ringLeast b_0_looseLines b_0_looseXs b_0_looseYs b_0_looseReaches b_0_far v_0_code v_0_lines v_0_isFresh v_0_hasRun v_0_runs v_0_nx v_0_ny v_0_spaces v_0_oldNx v_0_oldNy v_0_oldSpaces v_0_points v_0_pieces v_0_rings v_0_outsideSides v_0_looseCount)) (QI dC dI [(cI, .int), (cZ, .boolean), (cJ, .long)] sz (wl_Mo_thrown a_0 b_0_isFlat b_0_across b_0_lows b_0_highs b_0_thick b_0_doorCounts b_0_doorFrom b_0_doorTo b_0_xs b_0_ys b_0_labels b_0_oldXs b_0_oldYs b_0_oldLabels b_0_names b_0_oldNames b_0_wanted b_0_common b_0_flatEdges b_0_upEdges b_0_isPoint b_0_stack b_0_pieceLines b_0_pieceBegins b_0_pieceEnds b_0_pieceLeft b_0_pieceRight b_0_outs b_0_isSeen b_0_ringSpaces b_0_ringStarts b_0_ringSizes b_0_ringLeast b_0_looseLines b_0_looseXs b_0_looseYs b_0_looseReaches b_0_far v_0_code v_0_lines v_0_isFresh v_0_hasRun v_0_runs v_0_nx v_0_ny v_0_spaces v_0_oldNx v_0_oldNy v_0_oldSpaces v_0_points v_0_pieces v_0_rings v_0_outsideSides v_0_looseCount) (wl_Mo_thrown a_0 b_0_isFlat b_0_across b_0_lows b_0_highs b_0_thick b_0_doorCounts b_0_doorFrom b_0_doorTo b_0_xs b_0_ys b_0_labels b_0_oldXs b_0_oldYs b_0_oldLabels b_0_names b_0_oldNames b_0_wanted b_0_common b_0_flatEdges b_0_upEdges b_0_isPoint b_0_stack b_0_pieceLines b_0_pieceBegins b_0_pieceEnds b_0_pieceLeft b_0_pieceRight b_0_outs b_0_isSeen b_0_ringSpaces b_0_ringStarts b_0_ringSizes b_0_ringLeast b_0_looseLines b_0_looseXs b_0_looseYs b_0_looseReaches b_0_far v_0_code v_0_lines v_0_isFresh v_0_hasRun v_0_runs v_0_nx v_0_ny v_0_spaces v_0_oldNx v_0_oldNy v_0_oldSpaces v_0_points v_0_pieces v_0_rings v_0_outsideSides v_0_looseCount) R0) 0 0 (va_A (wl_Mo_thrown a_0 b_0_isFlat b_0_across b_0_lows b_0_highs b_0_thick b_0_doorCounts b_0_doorFrom b_0_doorTo b_0_xs b_0_ys b_0_labels b_0_oldXs b_0_oldYs b_0_oldLabels b_0_names b_0_oldNames b_0_wanted b_0_common b_0_flatEdges b_0_upEdges b_0_isPoint b_0_stack b_0_pieceLines b_0_pieceBegins b_0_pieceEnds b_0_pieceLeft b_0_pieceRight b_0_outs b_0_isSeen b_0_ringSpaces b_0_ringStarts b_0_ringSizes b_0_ringLeast b_0_looseLines b_0_looseXs b_0_looseYs b_0_looseReaches b_0_far v_0_code v_0_lines v_0_isFresh v_0_hasRun v_0_runs v_0_nx v_0_ny v_0_spaces v_0_oldNx v_0_oldNy v_0_oldSpaces v_0_points v_0_pieces v_0_rings v_0_outsideSides v_0_looseCount) sz) := by
  refine Met.ofW (cc := b_Mo_thrown) (maxL := 1) (ret := (some .int)) (by decide) rfl ?_
  intro p e s m args below meth c s₁ B hml hv
  obtain ⟨rfl, hsz, hP, hK, hD0, hN⟩ := hv
  subst hsz
  have hl := lv_entry ([.ref a_0]) (n := 1) (Nat.le_of_ble_eq_true rfl)
  rw [lg_entry_eq]
  generalize (lg_sl ([.ref a_0]) ++ List.replicate (1 - (lg_sl ([.ref a_0])).length) Slot.unset).toArray = ls at hl ⊢
  exact t_Mo_thrown a_0 b_0_isFlat b_0_across b_0_lows b_0_highs b_0_thick b_0_doorCounts b_0_doorFrom b_0_doorTo b_0_xs b_0_ys b_0_labels b_0_oldXs b_0_oldYs b_0_oldLabels b_0_names b_0_oldNames b_0_wanted b_0_common b_0_flatEdges b_0_upEdges b_0_isPoint b_0_stack b_0_pieceLines b_0_pieceBegins b_0_pieceEnds b_0_pieceLeft b_0_pieceRight b_0_outs b_0_isSeen b_0_ringSpaces b_0_ringStarts b_0_ringSizes b_0_ringLeast b_0_looseLines b_0_looseXs b_0_looseYs b_0_looseReaches b_0_far v_0_code v_0_lines v_0_isFresh v_0_hasRun v_0_runs v_0_nx v_0_ny v_0_spaces v_0_oldNx v_0_oldNy v_0_oldSpaces v_0_points v_0_pieces v_0_rings v_0_outsideSides v_0_looseCount R0 B.exec B.bytes hml (findClass_of_methodNamed B.named) (atoms_spec (ws := w_Mo_thrown) B.pre) hK hN (fun q h => Or.inr h) (fun pc H locs ls hd hP9 hD9 hS => W.iret B.exec B.bytes B.returns (fun t ht hW => ⟨⟨_, (), rfl, rfl, by rw [ht]; exact hP9, va_K.moved hW.alike hK, hD9⟩, hS.F ht⟩) hS.2.2 hd) hm s.heap [] ls hP hD0.self va_S.rf hl

-- SpaceCyclesModel.isIn(JJJ)Z
abbrev b_Mo_isIn : ByteArray := prog_13_method_3_code
abbrev y_Mo_isIn : MethodName := ⟨"SpaceCyclesModel", "isIn", "(JJJ)Z"⟩
abbrev w_Mo_isIn : List Cond := Cond.code y_Mo_isIn b_Mo_isIn 6 (some .boolean) :: gl
abbrev rm_Mo_isIn : Room := { frames := 0, cells := 0, slots := 0, locals := 0 }
theorem d_Mo_isIn_0 : decode b_Mo_isIn 0 = .ok (.lload_n 0, 1) := by decide +kernel
theorem d_Mo_isIn_1 : decode b_Mo_isIn 1 = .ok (.lload_n 2, 1) := by decide +kernel
theorem d_Mo_isIn_2 : decode b_Mo_isIn 2 = .ok (.lcmp, 1) := by decide +kernel
theorem d_Mo_isIn_3 : decode b_Mo_isIn 3 = .ok (.ifCond .lt 14, 3) := by decide +kernel
theorem d_Mo_isIn_6 : decode b_Mo_isIn 6 = .ok (.lload_n 0, 1) := by decide +kernel
theorem d_Mo_isIn_7 : decode b_Mo_isIn 7 = .ok (.lload 4, 2) := by decide +kernel
theorem d_Mo_isIn_9 : decode b_Mo_isIn 9 = .ok (.lcmp, 1) := by decide +kernel
theorem d_Mo_isIn_10 : decode b_Mo_isIn 10 = .ok (.ifCond .gt 7, 3) := by decide +kernel
theorem d_Mo_isIn_13 : decode b_Mo_isIn 13 = .ok (.iconst 1, 1) := by decide +kernel
theorem d_Mo_isIn_14 : decode b_Mo_isIn 14 = .ok (.goto 4, 3) := by decide +kernel
theorem d_Mo_isIn_17 : decode b_Mo_isIn 17 = .ok (.iconst 0, 1) := by decide +kernel
theorem d_Mo_isIn_18 : decode b_Mo_isIn 18 = .ok (.ireturn, 1) := by decide +kernel
abbrev wl_Mo_isIn : va_W := []
def m_Mo_isIn (p0 : Int64) (p1 : Int64) (p2 : Int64) : Option (Int32) :=
  bd1 (
    if (lg_cmp p0 p1) < 0 then (
    some 0)
  else (
    if 0 < (lg_cmp p0 p2) then (
      some 0)
    else (
      some 1)))
  fun (x4 : Int32) =>
  gB x4 <|
    some x4

set_option maxHeartbeats 4000000 in
set_option maxRecDepth 100000 in
theorem t_Mo_isIn {p : Program} {l : Launch} {e : Env} {s : State} {m : MethodId} {args : Array Value} {below : List Frame} {meth : Method} {c : Code} {A : Nat → Prop} {Q : State → Prop} {dC : Nat → ClassId} {dI : Nat → Nat → Nat} {cI cZ cJ : ClassId}  (p0 : Int64) (p1 : Int64) (p2 : Int64) (R0 : Int32) (hx : p.tables.exec = Jvm.exec) (hb : c.code = b_Mo_isIn) (hml : c.maxLocals = 6) (hown : s.vm.findClass "SpaceCyclesModel" = some m.cls) (hts : ∀ w ∈ w_Mo_isIn, w.before args s = true) (hK : va_K (dC, dI) vwCl [(cI, .int), (cZ, .boolean), (cJ, .long)] s) (hN : NX s) (hA : ∀ q : Nat, s.heap.size ≤ q → A q)
    (hret : ∀ (pc : Nat) (H : Heap) (locs : List Loc) (ls : Array Slot), decode b_Mo_isIn pc = .ok (.ireturn, 1) → (R0 = 0 ∨ R0 = 1) → va_P (dC, dI) vwCl (wl_Mo_isIn) H → va_D A (wl_Mo_isIn) → va_S A s.heap H locs → W p l e rm_Mo_isIn s m args below meth c H locs 0 0 Q (F0 m pc ls [.int R0]))
    (hm : m_Mo_isIn p0 p1 p2 = some R0) : ∀ (H : Heap) (locs : List Loc) (ls : Array Slot), va_P (dC, dI) vwCl (wl_Mo_isIn) H → va_D A (wl_Mo_isIn) → va_S A s.heap H locs → lv_has ls 6 [(0, .long p0), (2, .long p1), (4, .long p2)] → W p l e rm_Mo_isIn s m args below meth c H locs 0 0 Q (F0 m 0 ls []) := by
  intro H locs ls hP hD hS hl
  unfold m_Mo_isIn at hm
  refine lv_lload_n hx hb d_Mo_isIn_0 rfl (lv_at hl 0 rfl) ?_
  refine lv_lload_n hx hb d_Mo_isIn_1 rfl (lv_at hl 1 rfl) ?_
  refine W.lcmp hx hb d_Mo_isIn_2 ?_
  obtain ⟨x4, hb2, hm⟩ := bd1_e hm
  have K1 : ∀ (H : Heap) (locs : List Loc) (ls : Array Slot), va_P (dC, dI) vwCl (wl_Mo_isIn) H → va_D A (wl_Mo_isIn) → va_S A s.heap H locs → lv_has ls 6 [] → W p l e rm_Mo_isIn s m args below meth c H locs 0 0 Q (F0 m 18 ls [.int x4]) := by
    intro H locs ls hP hD hS hl
    obtain ⟨hB, hm⟩ := gB_e hm
    cases hm
    exact hret _ H locs ls d_Mo_isIn_18 hB hP hD hS
  replace hm := hb2
  refine lv_if_lt (tgt := 17) hx hb d_Mo_isIn_3 (by decide) (fun c5 => ?_) (fun c5 => ?_)
  · replace hm := if_t hm c5
    refine lv_iconst (v := 0) hx hb d_Mo_isIn_17 (by decide) ?_
    cases hm
    exact K1 H locs ls hP hD hS (lv_sub hl [] rfl)
  · replace hm := if_f hm c5
    refine lv_lload_n hx hb d_Mo_isIn_6 rfl (lv_at hl 0 rfl) ?_
    refine lv_lload hx hb d_Mo_isIn_7 (lv_at hl 2 rfl) ?_
    refine W.lcmp hx hb d_Mo_isIn_9 ?_
    refine lv_if_gt (tgt := 17) hx hb d_Mo_isIn_10 (by decide) (fun c6 => ?_) (fun c6 => ?_)
    · replace hm := if_t hm c6
      refine lv_iconst (v := 0) hx hb d_Mo_isIn_17 (by decide) ?_
      cases hm
      exact K1 H locs ls hP hD hS (lv_sub hl [] rfl)
    · replace hm := if_f hm c6
      refine lv_iconst (v := 1) hx hb d_Mo_isIn_13 (by decide) ?_
      refine lv_goto (tgt := 18) hx hb d_Mo_isIn_14 (by decide) ?_
      cases hm
      exact K1 H locs ls hP hD hS (lv_sub hl [] rfl)
set_option maxHeartbeats 4000000 in
set_option maxRecDepth 100000 in
theorem c_Mo_isIn (l : Launch) (dC : Nat → ClassId) (dI : Nat → Nat → Nat) {cI cZ cJ : ClassId} (sz : Nat)  (p0 : Int64) (p1 : Int64) (p2 : Int64) (R0 : Int32) (hm : m_Mo_isIn p0 p1 p2 = some R0) : Met l y_Mo_isIn w_Mo_isIn rm_Mo_isIn (PP dC dI [(cI, .int), (cZ, .boolean), (cJ, .long)] [.long p0, .long p1, .long p2] sz (wl_Mo_isIn)) (QI dC dI [(cI, .int), (cZ, .boolean), (cJ, .long)] sz (wl_Mo_isIn) (wl_Mo_isIn) R0) 0 0 (va_A (wl_Mo_isIn) sz) := by
  refine Met.ofW (cc := b_Mo_isIn) (maxL := 6) (ret := (some .boolean)) (by decide) rfl ?_
  intro p e s m args below meth c s₁ B hml hv
  obtain ⟨rfl, hsz, hP, hK, hD0, hN⟩ := hv
  subst hsz
  have hl := lv_entry ([.long p0, .long p1, .long p2]) (n := 6) (Nat.le_of_ble_eq_true rfl)
  rw [lg_entry_eq]
  generalize (lg_sl ([.long p0, .long p1, .long p2]) ++ List.replicate (6 - (lg_sl ([.long p0, .long p1, .long p2])).length) Slot.unset).toArray = ls at hl ⊢
  exact t_Mo_isIn p0 p1 p2 R0 B.exec B.bytes hml (findClass_of_methodNamed B.named) (atoms_spec (ws := w_Mo_isIn) B.pre) hK hN (fun q h => Or.inr h) (fun pc H locs ls hd hz hP9 hD9 hS => W.zret B.exec B.bytes B.returns (nar_b hz) (fun t ht hW => ⟨⟨_, (), rfl, rfl, by rw [ht]; exact hP9, va_K.moved hW.alike hK, hD9⟩, hS.F ht⟩) hS.2.2 hd) hm s.heap [] ls hP hD0.self va_S.rf hl

theorem k_274 : ((.fieldLink "SpaceCyclesModel" 130 "SpaceCyclesModel" "lines" "I") : Cond) ∈ gl := gl_i 1127 (by decide +kernel) (by decide +kernel)
theorem k_275 : ((.code ⟨"SpaceCyclesModel", "isIn", "(JJJ)Z"⟩ prog_13_method_3_code 6 (some .boolean)) : Cond) ∈ gl := gl_i 1295 (by decide +kernel) (by decide +kernel)
theorem k_276 : ((.static ⟨"SpaceCyclesModel", "isIn", "(JJJ)Z"⟩) : Cond) ∈ gl := gl_i 1294 (by decide +kernel) (by decide +kernel)
theorem k_277 : ((.initialized "SpaceCyclesModel") : Cond) ∈ gl := gl_i 12 (by decide +kernel) (by decide +kernel)
theorem k_278 : ((.methodLink "SpaceCyclesModel" 133 ⟨"SpaceCyclesModel", "isIn", "(JJJ)Z"⟩) : Cond) ∈ gl := gl_i 1293 (by decide +kernel) (by decide +kernel)
-- SpaceCyclesModel.isLine(I)Z
abbrev b_Mo_isLine : ByteArray := prog_13_method_4_code
abbrev y_Mo_isLine : MethodName := ⟨"SpaceCyclesModel", "isLine", "(I)Z"⟩
abbrev w_Mo_isLine : List Cond := Cond.code y_Mo_isLine b_Mo_isLine 2 (some .boolean) :: gl
abbrev rm_Mo_isLine : Room := { frames := 1, cells := 0, slots := 0, locals := 25 }
theorem d_Mo_isLine_0 : decode b_Mo_isLine 0 = .ok (.iload_n 1, 1) := by decide +kernel
theorem d_Mo_isLine_1 : decode b_Mo_isLine 1 = .ok (.i2l, 1) := by decide +kernel
theorem d_Mo_isLine_2 : decode b_Mo_isLine 2 = .ok (.lconst 0, 1) := by decide +kernel
theorem d_Mo_isLine_3 : decode b_Mo_isLine 3 = .ok (.aload_n 0, 1) := by decide +kernel
theorem d_Mo_isLine_4 : decode b_Mo_isLine 4 = .ok (.getfield 130, 3) := by decide +kernel
theorem d_Mo_isLine_7 : decode b_Mo_isLine 7 = .ok (.iconst 1, 1) := by decide +kernel
theorem d_Mo_isLine_8 : decode b_Mo_isLine 8 = .ok (.isub, 1) := by decide +kernel
theorem d_Mo_isLine_9 : decode b_Mo_isLine 9 = .ok (.i2l, 1) := by decide +kernel
theorem d_Mo_isLine_10 : decode b_Mo_isLine 10 = .ok (.invokestatic 133, 3) := by decide +kernel
theorem d_Mo_isLine_13 : decode b_Mo_isLine 13 = .ok (.ireturn, 1) := by decide +kernel
abbrev wl_Mo_isLine (a_0 : Nat) (b_0_isFlat : Nat) (b_0_across : Nat) (b_0_lows : Nat) (b_0_highs : Nat) (b_0_thick : Nat) (b_0_doorCounts : Nat) (b_0_doorFrom : Nat) (b_0_doorTo : Nat) (b_0_xs : Nat) (b_0_ys : Nat) (b_0_labels : Nat) (b_0_oldXs : Nat) (b_0_oldYs : Nat) (b_0_oldLabels : Nat) (b_0_names : Nat) (b_0_oldNames : Nat) (b_0_wanted : Nat) (b_0_common : Nat) (b_0_flatEdges : Nat) (b_0_upEdges : Nat) (b_0_isPoint : Nat) (b_0_stack : Nat) (b_0_pieceLines : Nat) (b_0_pieceBegins : Nat) (b_0_pieceEnds : Nat) (b_0_pieceLeft : Nat) (b_0_pieceRight : Nat) (b_0_outs : Nat) (b_0_isSeen : Nat) (b_0_ringSpaces : Nat) (b_0_ringStarts : Nat) (b_0_ringSizes : Nat) (b_0_ringLeast : Nat) (b_0_looseLines : Nat) (b_0_looseXs : Nat) (b_0_looseYs : Nat) (b_0_looseReaches : Nat) (b_0_far : Nat) (v_0_code : Int32) (v_0_lines : Int32) (v_0_isFresh : Int32) (v_0_hasRun : Int32) (v_0_runs : Int32) (v_0_nx : Int32) (v_0_ny : Int32) (v_0_spaces : Int32) (v_0_oldNx : Int32) (v_0_oldNy : Int32) (v_0_oldSpaces : Int32) (v_0_points : Int32) (v_0_pieces : Int32) (v_0_rings : Int32) (v_0_outsideSides : Int32) (v_0_looseCount : Int32) : va_W := [(a_0, .inr (11, [.int v_0_code, .ref b_0_isFlat, .ref b_0_across, .ref b_0_lows, .ref b_0_highs, .ref b_0_thick, .int v_0_lines, .ref b_0_doorCounts, .ref b_0_doorFrom, .ref b_0_doorTo, .int v_0_isFresh, .int v_0_hasRun, .int v_0_runs, .ref b_0_xs, .ref b_0_ys, .int v_0_nx, .int v_0_ny, .ref b_0_labels, .int v_0_spaces, .ref b_0_oldXs, .ref b_0_oldYs, .int v_0_oldNx, .int v_0_oldNy, .ref b_0_oldLabels, .int v_0_oldSpaces, .ref b_0_names, .ref b_0_oldNames, .ref b_0_wanted, .ref b_0_common, .ref b_0_flatEdges, .ref b_0_upEdges, .ref b_0_isPoint, .int v_0_points, .ref b_0_stack, .ref b_0_pieceLines, .ref b_0_pieceBegins, .ref b_0_pieceEnds, .ref b_0_pieceLeft, .ref b_0_pieceRight, .int v_0_pieces, .ref b_0_outs, .ref b_0_isSeen, .ref b_0_ringSpaces, .ref b_0_ringStarts, .ref b_0_ringSizes, .ref b_0_ringLeast, .int v_0_rings, .int v_0_outsideSides, .ref b_0_looseLines, .ref b_0_looseXs, .ref b_0_looseYs, .ref b_0_looseReaches, .int v_0_looseCount, .ref b_0_far]))]
def m_Mo_isLine (p1 : Int32) (v_0_lines : Int32) : Option (Int32) :=
  bd1 (m_Mo_isIn (Int32.toInt64 p1) 0 (Int32.toInt64 (v_0_lines - 1))) fun r1 =>
  gB r1 <|
  some r1

set_option maxHeartbeats 4000000 in
set_option maxRecDepth 100000 in
theorem t_Mo_isLine {p : Program} {l : Launch} {e : Env} {s : State} {m : MethodId} {args : Array Value} {below : List Frame} {meth : Method} {c : Code} {A : Nat → Prop} {Q : State → Prop} {dC : Nat → ClassId} {dI : Nat → Nat → Nat} {cI cZ cJ : ClassId} (a_0 b_0_isFlat b_0_across b_0_lows b_0_highs b_0_thick b_0_doorCounts b_0_doorFrom b_0_doorTo b_0_xs b_0_ys b_0_labels b_0_oldXs b_0_oldYs b_0_oldLabels b_0_names b_0_oldNames b_0_wanted b_0_common b_0_flatEdges b_0_upEdges b_0_isPoint b_0_stack b_0_pieceLines b_0_pieceBegins b_0_pieceEnds b_0_pieceLeft b_0_pieceRight b_0_outs b_0_isSeen b_0_ringSpaces b_0_ringStarts b_0_ringSizes b_0_ringLeast b_0_looseLines b_0_looseXs b_0_looseYs b_0_looseReaches b_0_far : Nat) (v_0_code : Int32) (v_0_lines : Int32) (v_0_isFresh : Int32) (v_0_hasRun : Int32) (v_0_runs : Int32) (v_0_nx : Int32) (v_0_ny : Int32) (v_0_spaces : Int32) (v_0_oldNx : Int32) (v_0_oldNy : Int32) (v_0_oldSpaces : Int32) (v_0_points : Int32) (v_0_pieces : Int32) (v_0_rings : Int32) (v_0_outsideSides : Int32) (v_0_looseCount : Int32) (p1 : Int32) (R0 : Int32) (hx : p.tables.exec = Jvm.exec) (hb : c.code = b_Mo_isLine) (hml : c.maxLocals = 2) (hown : s.vm.findClass "SpaceCyclesModel" = some m.cls) (hts : ∀ w ∈ w_Mo_isLine, w.before args s = true) (hK : va_K (dC, dI) vwCl [(cI, .int), (cZ, .boolean), (cJ, .long)] s) (hN : NX s) (hA : ∀ q : Nat, s.heap.size ≤ q → A q)
    (hret : ∀ (pc : Nat) (H : Heap) (locs : List Loc) (ls : Array Slot), decode b_Mo_isLine pc = .ok (.ireturn, 1) → (R0 = 0 ∨ R0 = 1) → va_P (dC, dI) vwCl (wl_Mo_isLine a_0 b_0_isFlat b_0_across b_0_lows b_0_highs b_0_thick b_0_doorCounts b_0_doorFrom b_0_doorTo b_0_xs b_0_ys b_0_labels b_0_oldXs b_0_oldYs b_0_oldLabels b_0_names b_0_oldNames b_0_wanted b_0_common b_0_flatEdges b_0_upEdges b_0_isPoint b_0_stack b_0_pieceLines b_0_pieceBegins b_0_pieceEnds b_0_pieceLeft b_0_pieceRight b_0_outs b_0_isSeen b_0_ringSpaces b_0_ringStarts b_0_ringSizes b_0_ringLeast b_0_looseLines b_0_looseXs b_0_looseYs b_0_looseReaches b_0_far v_0_code v_0_lines v_0_isFresh v_0_hasRun v_0_runs v_0_nx v_0_ny v_0_spaces v_0_oldNx v_0_oldNy v_0_oldSpaces v_0_points v_0_pieces v_0_rings v_0_outsideSides v_0_looseCount) H → va_D A (wl_Mo_isLine a_0 b_0_isFlat b_0_across b_0_lows b_0_highs b_0_thick b_0_doorCounts b_0_doorFrom b_0_doorTo b_0_xs b_0_ys b_0_labels b_0_oldXs b_0_oldYs b_0_oldLabels b_0_names b_0_oldNames b_0_wanted b_0_common b_0_flatEdges b_0_upEdges b_0_isPoint b_0_stack b_0_pieceLines b_0_pieceBegins b_0_pieceEnds b_0_pieceLeft b_0_pieceRight b_0_outs b_0_isSeen b_0_ringSpaces b_0_ringStarts b_0_ringSizes b_0_ringLeast b_0_looseLines b_0_looseXs b_0_looseYs b_0_looseReaches b_0_far v_0_code v_0_lines v_0_isFresh v_0_hasRun v_0_runs v_0_nx v_0_ny v_0_spaces v_0_oldNx v_0_oldNy v_0_oldSpaces v_0_points v_0_pieces v_0_rings v_0_outsideSides v_0_looseCount) → va_S A s.heap H locs → W p l e rm_Mo_isLine s m args below meth c H locs 0 0 Q (F0 m pc ls [.int R0]))
    (hm : m_Mo_isLine p1 v_0_lines = some R0) : ∀ (H : Heap) (locs : List Loc) (ls : Array Slot), va_P (dC, dI) vwCl (wl_Mo_isLine a_0 b_0_isFlat b_0_across b_0_lows b_0_highs b_0_thick b_0_doorCounts b_0_doorFrom b_0_doorTo b_0_xs b_0_ys b_0_labels b_0_oldXs b_0_oldYs b_0_oldLabels b_0_names b_0_oldNames b_0_wanted b_0_common b_0_flatEdges b_0_upEdges b_0_isPoint b_0_stack b_0_pieceLines b_0_pieceBegins b_0_pieceEnds b_0_pieceLeft b_0_pieceRight b_0_outs b_0_isSeen b_0_ringSpaces b_0_ringStarts b_0_ringSizes b_0_ringLeast b_0_looseLines b_0_looseXs b_0_looseYs b_0_looseReaches b_0_far v_0_code v_0_lines v_0_isFresh v_0_hasRun v_0_runs v_0_nx v_0_ny v_0_spaces v_0_oldNx v_0_oldNy v_0_oldSpaces v_0_points v_0_pieces v_0_rings v_0_outsideSides v_0_looseCount) H → va_D A (wl_Mo_isLine a_0 b_0_isFlat b_0_across b_0_lows b_0_highs b_0_thick b_0_doorCounts b_0_doorFrom b_0_doorTo b_0_xs b_0_ys b_0_labels b_0_oldXs b_0_oldYs b_0_oldLabels b_0_names b_0_oldNames b_0_wanted b_0_common b_0_flatEdges b_0_upEdges b_0_isPoint b_0_stack b_0_pieceLines b_0_pieceBegins b_0_pieceEnds b_0_pieceLeft b_0_pieceRight b_0_outs b_0_isSeen b_0_ringSpaces b_0_ringStarts b_0_ringSizes b_0_ringLeast b_0_looseLines b_0_looseXs b_0_looseYs b_0_looseReaches b_0_far v_0_code v_0_lines v_0_isFresh v_0_hasRun v_0_runs v_0_nx v_0_ny v_0_spaces v_0_oldNx v_0_oldNy v_0_oldSpaces v_0_points v_0_pieces v_0_rings v_0_outsideSides v_0_looseCount) → va_S A s.heap H locs → lv_has ls 2 [(0, .ref a_0), (1, .int p1)] → W p l e rm_Mo_isLine s m args below meth c H locs 0 0 Q (F0 m 0 ls []) := by
  intro H locs ls hP hD hS hl
  unfold m_Mo_isLine at hm
  refine lv_iload_n hx hb d_Mo_isLine_0 rfl (lv_at hl 1 rfl) ?_
  refine lv_i2l hx hb d_Mo_isLine_1 rfl ?_
  refine lv_lconst (v := 0) hx hb d_Mo_isLine_2 (by decide) ?_
  refine lv_aload_n hx hb d_Mo_isLine_3 rfl (lv_at hl 0 rfl) ?_
  refine va_get (D := (dC, dI)) (ci := 11) (v := .int v_0_lines) (C := "SpaceCyclesModel") (T := F_Mo) (N := 54) hx hb hts (in_F i_Mo) hown hK hP 0 rfl rfl 6 (by decide) (hts _ (in_c k_274)) (fun _ h9 => h9) rfl d_Mo_isLine_4 ?_
  refine lv_iconst (v := 1) hx hb d_Mo_isLine_7 (by decide) ?_
  refine lv_isub hx hb d_Mo_isLine_8 ?_
  refine lv_i2l hx hb d_Mo_isLine_9 rfl ?_
  obtain ⟨r1, hb2, hm⟩ := bd1_e hm
  have hPc := hP.sub (ws' := (wl_Mo_isIn)) [] rfl
  have hDc := hD.sub (ws' := (wl_Mo_isIn)) [] (by decide) rfl
  refine cl_i (wc' := (wl_Mo_isIn)) (va_runS (As := [.long (Int32.toInt64 p1), .long 0, .long (Int32.toInt64 (v_0_lines - 1))]) (rest := []) ⟨hx, hb, hml, hown, hts⟩ (c_Mo_isIn l dC dI (cI := cI) (cZ := cZ) (cJ := cJ) H.size (Int32.toInt64 p1) 0 (Int32.toInt64 (v_0_lines - 1)) r1 hb2) (va_cwS 3 hts (gl_S k_278 k_276 k_277 k_275) rfl rfl rfl (by decide +kernel) ⟨Nat.le_of_ble_eq_true rfl, Nat.le_of_ble_eq_true rfl⟩) ⟨PP_blind, fun U hU hW => PP_at hK hN hPc hDc hU hW⟩ rfl rfl hl.1 rfl (lv_room (Nat.le_of_ble_eq_true rfl)) d_Mo_isLine_10 ⟨Nat.zero_le _, Nat.zero_le _⟩) hP hD hS hA [] [0] rfl rfl (by decide) (by decide) (fun H locs hP hD hS => ?_)
  have hP : va_P (dC, dI) vwCl (wl_Mo_isLine a_0 b_0_isFlat b_0_across b_0_lows b_0_highs b_0_thick b_0_doorCounts b_0_doorFrom b_0_doorTo b_0_xs b_0_ys b_0_labels b_0_oldXs b_0_oldYs b_0_oldLabels b_0_names b_0_oldNames b_0_wanted b_0_common b_0_flatEdges b_0_upEdges b_0_isPoint b_0_stack b_0_pieceLines b_0_pieceBegins b_0_pieceEnds b_0_pieceLeft b_0_pieceRight b_0_outs b_0_isSeen b_0_ringSpaces b_0_ringStarts b_0_ringSizes b_0_ringLeast b_0_looseLines b_0_looseXs b_0_looseYs b_0_looseReaches b_0_far v_0_code v_0_lines v_0_isFresh v_0_hasRun v_0_runs v_0_nx v_0_ny v_0_spaces v_0_oldNx v_0_oldNy v_0_oldSpaces v_0_points v_0_pieces v_0_rings v_0_outsideSides v_0_looseCount) H := hP.sub [0] rfl
  have hD : va_D A (wl_Mo_isLine a_0 b_0_isFlat b_0_across b_0_lows b_0_highs b_0_thick b_0_doorCounts b_0_doorFrom b_0_doorTo b_0_xs b_0_ys b_0_labels b_0_oldXs b_0_oldYs b_0_oldLabels b_0_names b_0_oldNames b_0_wanted b_0_common b_0_flatEdges b_0_upEdges b_0_isPoint b_0_stack b_0_pieceLines b_0_pieceBegins b_0_pieceEnds b_0_pieceLeft b_0_pieceRight b_0_outs b_0_isSeen b_0_ringSpaces b_0_ringStarts b_0_ringSizes b_0_ringLeast b_0_looseLines b_0_looseXs b_0_looseYs b_0_looseReaches b_0_far v_0_code v_0_lines v_0_isFresh v_0_hasRun v_0_runs v_0_nx v_0_ny v_0_spaces v_0_oldNx v_0_oldNy v_0_oldSpaces v_0_points v_0_pieces v_0_rings v_0_outsideSides v_0_looseCount) := hD.sub [0] (by decide) rfl
  obtain ⟨hB, hm⟩ := gB_e hm
  cases hm
  exact hret _ H locs ls d_Mo_isLine_13 hB hP hD hS
set_option maxHeartbeats 4000000 in
set_option maxRecDepth 100000 in
theorem c_Mo_isLine (l : Launch) (dC : Nat → ClassId) (dI : Nat → Nat → Nat) {cI cZ cJ : ClassId} (a_0 b_0_isFlat b_0_across b_0_lows b_0_highs b_0_thick b_0_doorCounts b_0_doorFrom b_0_doorTo b_0_xs b_0_ys b_0_labels b_0_oldXs b_0_oldYs b_0_oldLabels b_0_names b_0_oldNames b_0_wanted b_0_common b_0_flatEdges b_0_upEdges b_0_isPoint b_0_stack b_0_pieceLines b_0_pieceBegins b_0_pieceEnds b_0_pieceLeft b_0_pieceRight b_0_outs b_0_isSeen b_0_ringSpaces b_0_ringStarts b_0_ringSizes b_0_ringLeast b_0_looseLines b_0_looseXs b_0_looseYs b_0_looseReaches b_0_far : Nat) (sz : Nat) (v_0_code : Int32) (v_0_lines : Int32) (v_0_isFresh : Int32) (v_0_hasRun : Int32) (v_0_runs : Int32) (v_0_nx : Int32) (v_0_ny : Int32) (v_0_spaces : Int32) (v_0_oldNx : Int32) (v_0_oldNy : Int32) (v_0_oldSpaces : Int32) (v_0_points : Int32) (v_0_pieces : Int32) (v_0_rings : Int32) (v_0_outsideSides : Int32) (v_0_looseCount : Int32) (p1 : Int32) (R0 : Int32) (hm : m_Mo_isLine p1 v_0_lines = some R0) : Met l y_Mo_isLine w_Mo_isLine rm_Mo_isLine (PP dC dI [(cI, .int), (cZ, .boolean), (cJ, .long)] [.ref a_0, .int p1] sz (wl_Mo_isLine a_0 b_0_isFlat b_0_across b_0_lows b_0_highs b_0_thick b_0_doorCounts b_0_doorFrom b_0_doorTo b_0_xs b_0_ys b_0_labels b_0_oldXs b_0_oldYs b_0_oldLabels b_0_names b_0_oldNames b_0_wanted b_0_common b_0_flatEdges b_0_upEdges b_0_isPoint b_0_stack b_0_pieceLines b_0_pieceBegins b_0_pieceEnds b_0_pieceLeft b_0_pieceRight b_0_outs b_0_isSeen b_0_ringSpaces b_0_ringStarts b_0_ringSizes b_0_ringLeast b_0_looseLines b_0_looseXs b_0_looseYs b_0_looseReaches b_0_far v_0_code v_0_lines v_0_isFresh v_0_hasRun v_0_runs v_0_nx v_0_ny v_0_spaces v_0_oldNx v_0_oldNy v_0_oldSpaces v_0_points v_0_pieces v_0_rings v_0_outsideSides v_0_looseCount)) (QI dC dI [(cI, .int), (cZ, .boolean), (cJ, .long)] sz (wl_Mo_isLine a_0 b_0_isFlat b_0_across b_0_lows b_0_highs b_0_thick b_0_doorCounts b_0_doorFrom b_0_doorTo b_0_xs b_0_ys b_0_labels b_0_oldXs b_0_oldYs b_0_oldLabels b_0_names b_0_oldNames b_0_wanted b_0_common b_0_flatEdges b_0_upEdges b_0_isPoint b_0_stack b_0_pieceLines b_0_pieceBegins b_0_pieceEnds b_0_pieceLeft b_0_pieceRight b_0_outs b_0_isSeen b_0_ringSpaces b_0_ringStarts b_0_ringSizes b_0_ringLeast b_0_looseLines b_0_looseXs b_0_looseYs b_0_looseReaches b_0_far v_0_code v_0_lines v_0_isFresh v_0_hasRun v_0_runs v_0_nx v_0_ny v_0_spaces v_0_oldNx v_0_oldNy v_0_oldSpaces v_0_points v_0_pieces v_0_rings v_0_outsideSides v_0_looseCount) (wl_Mo_isLine a_0 b_0_isFlat b_0_across b_0_lows b_0_highs b_0_thick b_0_doorCounts b_0_doorFrom b_0_doorTo b_0_xs b_0_ys b_0_labels b_0_oldXs b_0_oldYs b_0_oldLabels b_0_names b_0_oldNames b_0_wanted b_0_common b_0_flatEdges b_0_upEdges b_0_isPoint b_0_stack b_0_pieceLines b_0_pieceBegins b_0_pieceEnds b_0_pieceLeft b_0_pieceRight b_0_outs b_0_isSeen b_0_ringSpaces b_0_ringStarts b_0_ringSizes b_0_ringLeast b_0_looseLines b_0_looseXs b_0_looseYs b_0_looseReaches b_0_far v_0_code v_0_lines v_0_isFresh v_0_hasRun v_0_runs v_0_nx v_0_ny v_0_spaces v_0_oldNx v_0_oldNy v_0_oldSpaces v_0_points v_0_pieces v_0_rings v_0_outsideSides v_0_looseCount) R0) 0 0 (va_A (wl_Mo_isLine a_0 b_0_isFlat b_0_across b_0_lows b_0_highs b_0_thick b_0_doorCounts b_0_doorFrom b_0_doorTo b_0_xs b_0_ys b_0_labels b_0_oldXs b_0_oldYs b_0_oldLabels b_0_names b_0_oldNames b_0_wanted b_0_common b_0_flatEdges b_0_upEdges b_0_isPoint b_0_stack b_0_pieceLines b_0_pieceBegins b_0_pieceEnds b_0_pieceLeft b_0_pieceRight b_0_outs b_0_isSeen b_0_ringSpaces b_0_ringStarts b_0_ringSizes b_0_ringLeast b_0_looseLines b_0_looseXs b_0_looseYs b_0_looseReaches b_0_far v_0_code v_0_lines v_0_isFresh v_0_hasRun v_0_runs v_0_nx v_0_ny v_0_spaces v_0_oldNx v_0_oldNy v_0_oldSpaces v_0_points v_0_pieces v_0_rings v_0_outsideSides v_0_looseCount) sz) := by
  refine Met.ofW (cc := b_Mo_isLine) (maxL := 2) (ret := (some .boolean)) (by decide) rfl ?_
  intro p e s m args below meth c s₁ B hml hv
  obtain ⟨rfl, hsz, hP, hK, hD0, hN⟩ := hv
  subst hsz
  have hl := lv_entry ([.ref a_0, .int p1]) (n := 2) (Nat.le_of_ble_eq_true rfl)
  rw [lg_entry_eq]
  generalize (lg_sl ([.ref a_0, .int p1]) ++ List.replicate (2 - (lg_sl ([.ref a_0, .int p1])).length) Slot.unset).toArray = ls at hl ⊢
  exact t_Mo_isLine a_0 b_0_isFlat b_0_across b_0_lows b_0_highs b_0_thick b_0_doorCounts b_0_doorFrom b_0_doorTo b_0_xs b_0_ys b_0_labels b_0_oldXs b_0_oldYs b_0_oldLabels b_0_names b_0_oldNames b_0_wanted b_0_common b_0_flatEdges b_0_upEdges b_0_isPoint b_0_stack b_0_pieceLines b_0_pieceBegins b_0_pieceEnds b_0_pieceLeft b_0_pieceRight b_0_outs b_0_isSeen b_0_ringSpaces b_0_ringStarts b_0_ringSizes b_0_ringLeast b_0_looseLines b_0_looseXs b_0_looseYs b_0_looseReaches b_0_far v_0_code v_0_lines v_0_isFresh v_0_hasRun v_0_runs v_0_nx v_0_ny v_0_spaces v_0_oldNx v_0_oldNy v_0_oldSpaces v_0_points v_0_pieces v_0_rings v_0_outsideSides v_0_looseCount p1 R0 B.exec B.bytes hml (findClass_of_methodNamed B.named) (atoms_spec (ws := w_Mo_isLine) B.pre) hK hN (fun q h => Or.inr h) (fun pc H locs ls hd hz hP9 hD9 hS => W.zret B.exec B.bytes B.returns (nar_b hz) (fun t ht hW => ⟨⟨_, (), rfl, rfl, by rw [ht]; exact hP9, va_K.moved hW.alike hK, hD9⟩, hS.F ht⟩) hS.2.2 hd) hm s.heap [] ls hP hD0.self va_S.rf hl

theorem k_279 : ((.fieldLink "SpaceCyclesModel" 7 "SpaceCyclesModel" "isFlat" "[Z") : Cond) ∈ gl := gl_i 1122 (by decide +kernel) (by decide +kernel)
theorem k_280 : ((.fieldLink "SpaceCyclesModel" 13 "SpaceCyclesModel" "across" "[I") : Cond) ∈ gl := gl_i 1123 (by decide +kernel) (by decide +kernel)
theorem k_281 : ((.fieldLink "SpaceCyclesModel" 17 "SpaceCyclesModel" "lows" "[I") : Cond) ∈ gl := gl_i 1124 (by decide +kernel) (by decide +kernel)
theorem k_282 : ((.fieldLink "SpaceCyclesModel" 20 "SpaceCyclesModel" "highs" "[I") : Cond) ∈ gl := gl_i 1125 (by decide +kernel) (by decide +kernel)
-- SpaceCyclesModel.lies(IZIII)Z
abbrev b_Mo_lies : ByteArray := prog_13_method_5_code
abbrev y_Mo_lies : MethodName := ⟨"SpaceCyclesModel", "lies", "(IZIII)Z"⟩
abbrev w_Mo_lies : List Cond := Cond.code y_Mo_lies b_Mo_lies 9 (some .boolean) :: gl
abbrev rm_Mo_lies : Room := { frames := 0, cells := 0, slots := 0, locals := 0 }
theorem d_Mo_lies_0 : decode b_Mo_lies 0 = .ok (.iconst 0, 1) := by decide +kernel
theorem d_Mo_lies_1 : decode b_Mo_lies 1 = .ok (.istore 6, 2) := by decide +kernel
theorem d_Mo_lies_3 : decode b_Mo_lies 3 = .ok (.iconst 0, 1) := by decide +kernel
theorem d_Mo_lies_4 : decode b_Mo_lies 4 = .ok (.istore 7, 2) := by decide +kernel
theorem d_Mo_lies_6 : decode b_Mo_lies 6 = .ok (.iload 7, 2) := by decide +kernel
theorem d_Mo_lies_8 : decode b_Mo_lies 8 = .ok (.aload_n 0, 1) := by decide +kernel
theorem d_Mo_lies_9 : decode b_Mo_lies 9 = .ok (.getfield 130, 3) := by decide +kernel
theorem d_Mo_lies_12 : decode b_Mo_lies 12 = .ok (.if_icmp .ge 112, 3) := by decide +kernel
theorem d_Mo_lies_15 : decode b_Mo_lies 15 = .ok (.iload 7, 2) := by decide +kernel
theorem d_Mo_lies_17 : decode b_Mo_lies 17 = .ok (.iload_n 1, 1) := by decide +kernel
theorem d_Mo_lies_18 : decode b_Mo_lies 18 = .ok (.if_icmp .eq 29, 3) := by decide +kernel
theorem d_Mo_lies_21 : decode b_Mo_lies 21 = .ok (.aload_n 0, 1) := by decide +kernel
theorem d_Mo_lies_22 : decode b_Mo_lies 22 = .ok (.getfield 7, 3) := by decide +kernel
theorem d_Mo_lies_25 : decode b_Mo_lies 25 = .ok (.iload 7, 2) := by decide +kernel
theorem d_Mo_lies_27 : decode b_Mo_lies 27 = .ok (.baload, 1) := by decide +kernel
theorem d_Mo_lies_28 : decode b_Mo_lies 28 = .ok (.iload_n 2, 1) := by decide +kernel
theorem d_Mo_lies_29 : decode b_Mo_lies 29 = .ok (.if_icmp .ne 18, 3) := by decide +kernel
theorem d_Mo_lies_32 : decode b_Mo_lies 32 = .ok (.aload_n 0, 1) := by decide +kernel
theorem d_Mo_lies_33 : decode b_Mo_lies 33 = .ok (.getfield 13, 3) := by decide +kernel
theorem d_Mo_lies_36 : decode b_Mo_lies 36 = .ok (.iload 7, 2) := by decide +kernel
theorem d_Mo_lies_38 : decode b_Mo_lies 38 = .ok (.iaload, 1) := by decide +kernel
theorem d_Mo_lies_39 : decode b_Mo_lies 39 = .ok (.iload_n 3, 1) := by decide +kernel
theorem d_Mo_lies_40 : decode b_Mo_lies 40 = .ok (.if_icmp .ne 7, 3) := by decide +kernel
theorem d_Mo_lies_43 : decode b_Mo_lies 43 = .ok (.iconst 1, 1) := by decide +kernel
theorem d_Mo_lies_44 : decode b_Mo_lies 44 = .ok (.goto 4, 3) := by decide +kernel
theorem d_Mo_lies_47 : decode b_Mo_lies 47 = .ok (.iconst 0, 1) := by decide +kernel
theorem d_Mo_lies_48 : decode b_Mo_lies 48 = .ok (.istore 8, 2) := by decide +kernel
theorem d_Mo_lies_50 : decode b_Mo_lies 50 = .ok (.iload 6, 2) := by decide +kernel
theorem d_Mo_lies_52 : decode b_Mo_lies 52 = .ok (.ifCond .ne 59, 3) := by decide +kernel
theorem d_Mo_lies_55 : decode b_Mo_lies 55 = .ok (.iload 8, 2) := by decide +kernel
theorem d_Mo_lies_57 : decode b_Mo_lies 57 = .ok (.ifCond .eq 58, 3) := by decide +kernel
theorem d_Mo_lies_60 : decode b_Mo_lies 60 = .ok (.iload 4, 2) := by decide +kernel
theorem d_Mo_lies_62 : decode b_Mo_lies 62 = .ok (.aload_n 0, 1) := by decide +kernel
theorem d_Mo_lies_63 : decode b_Mo_lies 63 = .ok (.getfield 17, 3) := by decide +kernel
theorem d_Mo_lies_66 : decode b_Mo_lies 66 = .ok (.iload 7, 2) := by decide +kernel
theorem d_Mo_lies_68 : decode b_Mo_lies 68 = .ok (.iaload, 1) := by decide +kernel
theorem d_Mo_lies_69 : decode b_Mo_lies 69 = .ok (.if_icmp .le 8, 3) := by decide +kernel
theorem d_Mo_lies_72 : decode b_Mo_lies 72 = .ok (.iload 4, 2) := by decide +kernel
theorem d_Mo_lies_74 : decode b_Mo_lies 74 = .ok (.goto 10, 3) := by decide +kernel
theorem d_Mo_lies_77 : decode b_Mo_lies 77 = .ok (.aload_n 0, 1) := by decide +kernel
theorem d_Mo_lies_78 : decode b_Mo_lies 78 = .ok (.getfield 17, 3) := by decide +kernel
theorem d_Mo_lies_81 : decode b_Mo_lies 81 = .ok (.iload 7, 2) := by decide +kernel
theorem d_Mo_lies_83 : decode b_Mo_lies 83 = .ok (.iaload, 1) := by decide +kernel
theorem d_Mo_lies_84 : decode b_Mo_lies 84 = .ok (.iload 5, 2) := by decide +kernel
theorem d_Mo_lies_86 : decode b_Mo_lies 86 = .ok (.aload_n 0, 1) := by decide +kernel
theorem d_Mo_lies_87 : decode b_Mo_lies 87 = .ok (.getfield 20, 3) := by decide +kernel
theorem d_Mo_lies_90 : decode b_Mo_lies 90 = .ok (.iload 7, 2) := by decide +kernel
theorem d_Mo_lies_92 : decode b_Mo_lies 92 = .ok (.iaload, 1) := by decide +kernel
theorem d_Mo_lies_93 : decode b_Mo_lies 93 = .ok (.if_icmp .ge 8, 3) := by decide +kernel
theorem d_Mo_lies_96 : decode b_Mo_lies 96 = .ok (.iload 5, 2) := by decide +kernel
theorem d_Mo_lies_98 : decode b_Mo_lies 98 = .ok (.goto 10, 3) := by decide +kernel
theorem d_Mo_lies_101 : decode b_Mo_lies 101 = .ok (.aload_n 0, 1) := by decide +kernel
theorem d_Mo_lies_102 : decode b_Mo_lies 102 = .ok (.getfield 20, 3) := by decide +kernel
theorem d_Mo_lies_105 : decode b_Mo_lies 105 = .ok (.iload 7, 2) := by decide +kernel
theorem d_Mo_lies_107 : decode b_Mo_lies 107 = .ok (.iaload, 1) := by decide +kernel
theorem d_Mo_lies_108 : decode b_Mo_lies 108 = .ok (.if_icmp .ge 7, 3) := by decide +kernel
theorem d_Mo_lies_111 : decode b_Mo_lies 111 = .ok (.iconst 1, 1) := by decide +kernel
theorem d_Mo_lies_112 : decode b_Mo_lies 112 = .ok (.goto 4, 3) := by decide +kernel
theorem d_Mo_lies_115 : decode b_Mo_lies 115 = .ok (.iconst 0, 1) := by decide +kernel
theorem d_Mo_lies_116 : decode b_Mo_lies 116 = .ok (.istore 6, 2) := by decide +kernel
theorem d_Mo_lies_118 : decode b_Mo_lies 118 = .ok (.iinc 7 1, 3) := by decide +kernel
theorem d_Mo_lies_121 : decode b_Mo_lies 121 = .ok (.goto (-115), 3) := by decide +kernel
theorem d_Mo_lies_124 : decode b_Mo_lies 124 = .ok (.iload 6, 2) := by decide +kernel
theorem d_Mo_lies_126 : decode b_Mo_lies 126 = .ok (.ireturn, 1) := by decide +kernel
abbrev wl_Mo_lies (a_0 : Nat) (a_0_isFlat : Nat) (a_0_across : Nat) (a_0_lows : Nat) (a_0_highs : Nat) (b_0_thick : Nat) (b_0_doorCounts : Nat) (b_0_doorFrom : Nat) (b_0_doorTo : Nat) (b_0_xs : Nat) (b_0_ys : Nat) (b_0_labels : Nat) (b_0_oldXs : Nat) (b_0_oldYs : Nat) (b_0_oldLabels : Nat) (b_0_names : Nat) (b_0_oldNames : Nat) (b_0_wanted : Nat) (b_0_common : Nat) (b_0_flatEdges : Nat) (b_0_upEdges : Nat) (b_0_isPoint : Nat) (b_0_stack : Nat) (b_0_pieceLines : Nat) (b_0_pieceBegins : Nat) (b_0_pieceEnds : Nat) (b_0_pieceLeft : Nat) (b_0_pieceRight : Nat) (b_0_outs : Nat) (b_0_isSeen : Nat) (b_0_ringSpaces : Nat) (b_0_ringStarts : Nat) (b_0_ringSizes : Nat) (b_0_ringLeast : Nat) (b_0_looseLines : Nat) (b_0_looseXs : Nat) (b_0_looseYs : Nat) (b_0_looseReaches : Nat) (b_0_far : Nat) (cZ : ClassId) (cI : ClassId) (v_0_code : Int32) (v_0_lines : Int32) (v_0_isFresh : Int32) (v_0_hasRun : Int32) (v_0_runs : Int32) (v_0_nx : Int32) (v_0_ny : Int32) (v_0_spaces : Int32) (v_0_oldNx : Int32) (v_0_oldNy : Int32) (v_0_oldSpaces : Int32) (v_0_points : Int32) (v_0_pieces : Int32) (v_0_rings : Int32) (v_0_outsideSides : Int32) (v_0_looseCount : Int32) (f_0_isFlat : Nat → Int32) (f_0_across : Nat → Int32) (f_0_lows : Nat → Int32) (f_0_highs : Nat → Int32) : va_W := [(a_0, .inr (11, [.int v_0_code, .ref a_0_isFlat, .ref a_0_across, .ref a_0_lows, .ref a_0_highs, .ref b_0_thick, .int v_0_lines, .ref b_0_doorCounts, .ref b_0_doorFrom, .ref b_0_doorTo, .int v_0_isFresh, .int v_0_hasRun, .int v_0_runs, .ref b_0_xs, .ref b_0_ys, .int v_0_nx, .int v_0_ny, .ref b_0_labels, .int v_0_spaces, .ref b_0_oldXs, .ref b_0_oldYs, .int v_0_oldNx, .int v_0_oldNy, .ref b_0_oldLabels, .int v_0_oldSpaces, .ref b_0_names, .ref b_0_oldNames, .ref b_0_wanted, .ref b_0_common, .ref b_0_flatEdges, .ref b_0_upEdges, .ref b_0_isPoint, .int v_0_points, .ref b_0_stack, .ref b_0_pieceLines, .ref b_0_pieceBegins, .ref b_0_pieceEnds, .ref b_0_pieceLeft, .ref b_0_pieceRight, .int v_0_pieces, .ref b_0_outs, .ref b_0_isSeen, .ref b_0_ringSpaces, .ref b_0_ringStarts, .ref b_0_ringSizes, .ref b_0_ringLeast, .int v_0_rings, .int v_0_outsideSides, .ref b_0_looseLines, .ref b_0_looseXs, .ref b_0_looseYs, .ref b_0_looseReaches, .int v_0_looseCount, .ref b_0_far])), (a_0_isFlat, .inl (cZ, 20, .inl f_0_isFlat)), (a_0_across, .inl (cI, 20, .inl f_0_across)), (a_0_lows, .inl (cI, 20, .inl f_0_lows)), (a_0_highs, .inl (cI, 20, .inl f_0_highs))]
def m_Mo_lies_L6 (l1 : Int32) (l2 : Int32) (l3 : Int32) (l4 : Int32) (l5 : Int32) (v_0_lines : Int32) (f_0_isFlat : Nat → Int32) (f_0_across : Nat → Int32) (f_0_lows : Nat → Int32) (f_0_highs : Nat → Int32) : Nat → Int32 → Int32 → Option (Int32)
  | 0, _, _ => none
  | n + 1, l6, l7 =>
    if v_0_lines ≤ l7 then (
      some l6)
    else (
      bd1 (
        if l7 = l1 then (
        some 0)
      else (
        gI l7 20 <|
        if (f_0_isFlat l7.toNatClampNeg) = l2 then (
          gI l7 20 <|
          if (f_0_across l7.toNatClampNeg) = l3 then (
            some 1)
          else (
            some 0))
        else (
          some 0)))
      fun (x5 : Int32) =>
      bd1 (
          if l6 = 0 then (
          if x5 = 0 then (
            some 0)
          else (
            gI l7 20 <|
            bd1 (
              if l4 ≤ (f_0_lows l7.toNatClampNeg) then (
              gI l7 20 <|
              some (f_0_lows l7.toNatClampNeg))
            else (
              some l4))
            fun (x21 : Int32) =>
            gI l7 20 <|
              bd1 (
                if (f_0_highs l7.toNatClampNeg) ≤ l5 then (
                gI l7 20 <|
                some (f_0_highs l7.toNatClampNeg))
              else (
                some l5))
              fun (x28 : Int32) =>
              if x28 ≤ x21 then (
                  some 0)
                else (
                  some 1)))
        else (
          some 1))
        fun (x14 : Int32) =>
        lt_ (l7 + 1) fun x32 =>
          m_Mo_lies_L6 l1 l2 l3 l4 l5 v_0_lines f_0_isFlat f_0_across f_0_lows f_0_highs n x14 x32)
def m_Mo_lies (p1 : Int32) (p2 : Int32) (p3 : Int32) (p4 : Int32) (p5 : Int32) (v_0_lines : Int32) (f_0_isFlat : Nat → Int32) (f_0_across : Nat → Int32) (f_0_lows : Nat → Int32) (f_0_highs : Nat → Int32) : Option (Int32) :=
  bd1 (m_Mo_lies_L6 p1 p2 p3 p4 p5 v_0_lines f_0_isFlat f_0_across f_0_lows f_0_highs fu 0 0) fun x3 =>
  gB x3 <|
  some x3

set_option maxHeartbeats 4000000 in
set_option maxRecDepth 100000 in
theorem t_Mo_lies {p : Program} {l : Launch} {e : Env} {s : State} {m : MethodId} {args : Array Value} {below : List Frame} {meth : Method} {c : Code} {A : Nat → Prop} {Q : State → Prop} {dC : Nat → ClassId} {dI : Nat → Nat → Nat} {cI cZ cJ : ClassId} (a_0 a_0_isFlat a_0_across a_0_lows a_0_highs b_0_thick b_0_doorCounts b_0_doorFrom b_0_doorTo b_0_xs b_0_ys b_0_labels b_0_oldXs b_0_oldYs b_0_oldLabels b_0_names b_0_oldNames b_0_wanted b_0_common b_0_flatEdges b_0_upEdges b_0_isPoint b_0_stack b_0_pieceLines b_0_pieceBegins b_0_pieceEnds b_0_pieceLeft b_0_pieceRight b_0_outs b_0_isSeen b_0_ringSpaces b_0_ringStarts b_0_ringSizes b_0_ringLeast b_0_looseLines b_0_looseXs b_0_looseYs b_0_looseReaches b_0_far : Nat) (v_0_code : Int32) (v_0_lines : Int32) (v_0_isFresh : Int32) (v_0_hasRun : Int32) (v_0_runs : Int32) (v_0_nx : Int32) (v_0_ny : Int32) (v_0_spaces : Int32) (v_0_oldNx : Int32) (v_0_oldNy : Int32) (v_0_oldSpaces : Int32) (v_0_points : Int32) (v_0_pieces : Int32) (v_0_rings : Int32) (v_0_outsideSides : Int32) (v_0_looseCount : Int32) (f_0_isFlat : Nat → Int32) (f_0_across : Nat → Int32) (f_0_lows : Nat → Int32) (f_0_highs : Nat → Int32) (p1 : Int32) (p2 : Int32) (p3 : Int32) (p4 : Int32) (p5 : Int32) (R0 : Int32) (hx : p.tables.exec = Jvm.exec) (hb : c.code = b_Mo_lies) (hml : c.maxLocals = 9) (hown : s.vm.findClass "SpaceCyclesModel" = some m.cls) (hts : ∀ w ∈ w_Mo_lies, w.before args s = true) (hK : va_K (dC, dI) vwCl [(cI, .int), (cZ, .boolean), (cJ, .long)] s) (hN : NX s) (hA : ∀ q : Nat, s.heap.size ≤ q → A q)
    (hret : ∀ (pc : Nat) (H : Heap) (locs : List Loc) (ls : Array Slot), decode b_Mo_lies pc = .ok (.ireturn, 1) → (R0 = 0 ∨ R0 = 1) → va_P (dC, dI) vwCl (wl_Mo_lies a_0 a_0_isFlat a_0_across a_0_lows a_0_highs b_0_thick b_0_doorCounts b_0_doorFrom b_0_doorTo b_0_xs b_0_ys b_0_labels b_0_oldXs b_0_oldYs b_0_oldLabels b_0_names b_0_oldNames b_0_wanted b_0_common b_0_flatEdges b_0_upEdges b_0_isPoint b_0_stack b_0_pieceLines b_0_pieceBegins b_0_pieceEnds b_0_pieceLeft b_0_pieceRight b_0_outs b_0_isSeen b_0_ringSpaces b_0_ringStarts b_0_ringSizes b_0_ringLeast b_0_looseLines b_0_looseXs b_0_looseYs b_0_looseReaches b_0_far cZ cI v_0_code v_0_lines v_0_isFresh v_0_hasRun v_0_runs v_0_nx v_0_ny v_0_spaces v_0_oldNx v_0_oldNy v_0_oldSpaces v_0_points v_0_pieces v_0_rings v_0_outsideSides v_0_looseCount f_0_isFlat f_0_across f_0_lows f_0_highs) H → va_D A (wl_Mo_lies a_0 a_0_isFlat a_0_across a_0_lows a_0_highs b_0_thick b_0_doorCounts b_0_doorFrom b_0_doorTo b_0_xs b_0_ys b_0_labels b_0_oldXs b_0_oldYs b_0_oldLabels b_0_names b_0_oldNames b_0_wanted b_0_common b_0_flatEdges b_0_upEdges b_0_isPoint b_0_stack b_0_pieceLines b_0_pieceBegins b_0_pieceEnds b_0_pieceLeft b_0_pieceRight b_0_outs b_0_isSeen b_0_ringSpaces b_0_ringStarts b_0_ringSizes b_0_ringLeast b_0_looseLines b_0_looseXs b_0_looseYs b_0_looseReaches b_0_far cZ cI v_0_code v_0_lines v_0_isFresh v_0_hasRun v_0_runs v_0_nx v_0_ny v_0_spaces v_0_oldNx v_0_oldNy v_0_oldSpaces v_0_points v_0_pieces v_0_rings v_0_outsideSides v_0_looseCount f_0_isFlat f_0_across f_0_lows f_0_highs) → va_S A s.heap H locs → W p l e rm_Mo_lies s m args below meth c H locs 0 0 Q (F0 m pc ls [.int R0]))
    (hm : m_Mo_lies p1 p2 p3 p4 p5 v_0_lines f_0_isFlat f_0_across f_0_lows f_0_highs = some R0) : ∀ (H : Heap) (locs : List Loc) (ls : Array Slot), va_P (dC, dI) vwCl (wl_Mo_lies a_0 a_0_isFlat a_0_across a_0_lows a_0_highs b_0_thick b_0_doorCounts b_0_doorFrom b_0_doorTo b_0_xs b_0_ys b_0_labels b_0_oldXs b_0_oldYs b_0_oldLabels b_0_names b_0_oldNames b_0_wanted b_0_common b_0_flatEdges b_0_upEdges b_0_isPoint b_0_stack b_0_pieceLines b_0_pieceBegins b_0_pieceEnds b_0_pieceLeft b_0_pieceRight b_0_outs b_0_isSeen b_0_ringSpaces b_0_ringStarts b_0_ringSizes b_0_ringLeast b_0_looseLines b_0_looseXs b_0_looseYs b_0_looseReaches b_0_far cZ cI v_0_code v_0_lines v_0_isFresh v_0_hasRun v_0_runs v_0_nx v_0_ny v_0_spaces v_0_oldNx v_0_oldNy v_0_oldSpaces v_0_points v_0_pieces v_0_rings v_0_outsideSides v_0_looseCount f_0_isFlat f_0_across f_0_lows f_0_highs) H → va_D A (wl_Mo_lies a_0 a_0_isFlat a_0_across a_0_lows a_0_highs b_0_thick b_0_doorCounts b_0_doorFrom b_0_doorTo b_0_xs b_0_ys b_0_labels b_0_oldXs b_0_oldYs b_0_oldLabels b_0_names b_0_oldNames b_0_wanted b_0_common b_0_flatEdges b_0_upEdges b_0_isPoint b_0_stack b_0_pieceLines b_0_pieceBegins b_0_pieceEnds b_0_pieceLeft b_0_pieceRight b_0_outs b_0_isSeen b_0_ringSpaces b_0_ringStarts b_0_ringSizes b_0_ringLeast b_0_looseLines b_0_looseXs b_0_looseYs b_0_looseReaches b_0_far cZ cI v_0_code v_0_lines v_0_isFresh v_0_hasRun v_0_runs v_0_nx v_0_ny v_0_spaces v_0_oldNx v_0_oldNy v_0_oldSpaces v_0_points v_0_pieces v_0_rings v_0_outsideSides v_0_looseCount f_0_isFlat f_0_across f_0_lows f_0_highs) → va_S A s.heap H locs → lv_has ls 9 [(0, .ref a_0), (1, .int p1), (2, .int p2), (3, .int p3), (4, .int p4), (5, .int p5)] → W p l e rm_Mo_lies s m args below meth c H locs 0 0 Q (F0 m 0 ls []) := by
  intro H locs ls hP hD hS hl
  unfold m_Mo_lies at hm
  refine lv_iconst (v := 0) hx hb d_Mo_lies_0 (by decide) ?_
  refine lv_istore (lv' := [(6, .int 0), (0, .ref a_0), (1, .int p1), (2, .int p2), (3, .int p3), (4, .int p4), (5, .int p5)]) hx hb d_Mo_lies_1 hl (by decide) rfl (fun ls hl => ?_)
  refine lv_iconst (v := 0) hx hb d_Mo_lies_3 (by decide) ?_
  refine lv_istore (lv' := [(7, .int 0), (6, .int 0), (0, .ref a_0), (1, .int p1), (2, .int p2), (3, .int p3), (4, .int p4), (5, .int p5)]) hx hb d_Mo_lies_4 hl (by decide) rfl (fun ls hl => ?_)
  have L6_4 : ∀ (n : Nat) (x1 : Int32) (x2 : Int32) (x3 : Int32), m_Mo_lies_L6 p1 p2 p3 p4 p5 v_0_lines f_0_isFlat f_0_across f_0_lows f_0_highs n x1 x2 = some x3 → (∀ (H : Heap) (locs : List Loc) (ls : Array Slot), va_P (dC, dI) vwCl (wl_Mo_lies a_0 a_0_isFlat a_0_across a_0_lows a_0_highs b_0_thick b_0_doorCounts b_0_doorFrom b_0_doorTo b_0_xs b_0_ys b_0_labels b_0_oldXs b_0_oldYs b_0_oldLabels b_0_names b_0_oldNames b_0_wanted b_0_common b_0_flatEdges b_0_upEdges b_0_isPoint b_0_stack b_0_pieceLines b_0_pieceBegins b_0_pieceEnds b_0_pieceLeft b_0_pieceRight b_0_outs b_0_isSeen b_0_ringSpaces b_0_ringStarts b_0_ringSizes b_0_ringLeast b_0_looseLines b_0_looseXs b_0_looseYs b_0_looseReaches b_0_far cZ cI v_0_code v_0_lines v_0_isFresh v_0_hasRun v_0_runs v_0_nx v_0_ny v_0_spaces v_0_oldNx v_0_oldNy v_0_oldSpaces v_0_points v_0_pieces v_0_rings v_0_outsideSides v_0_looseCount f_0_isFlat f_0_across f_0_lows f_0_highs) H → va_D A (wl_Mo_lies a_0 a_0_isFlat a_0_across a_0_lows a_0_highs b_0_thick b_0_doorCounts b_0_doorFrom b_0_doorTo b_0_xs b_0_ys b_0_labels b_0_oldXs b_0_oldYs b_0_oldLabels b_0_names b_0_oldNames b_0_wanted b_0_common b_0_flatEdges b_0_upEdges b_0_isPoint b_0_stack b_0_pieceLines b_0_pieceBegins b_0_pieceEnds b_0_pieceLeft b_0_pieceRight b_0_outs b_0_isSeen b_0_ringSpaces b_0_ringStarts b_0_ringSizes b_0_ringLeast b_0_looseLines b_0_looseXs b_0_looseYs b_0_looseReaches b_0_far cZ cI v_0_code v_0_lines v_0_isFresh v_0_hasRun v_0_runs v_0_nx v_0_ny v_0_spaces v_0_oldNx v_0_oldNy v_0_oldSpaces v_0_points v_0_pieces v_0_rings v_0_outsideSides v_0_looseCount f_0_isFlat f_0_across f_0_lows f_0_highs) → va_S A s.heap H locs → lv_has ls 9 [(6, .int x3)] → W p l e rm_Mo_lies s m args below meth c H locs 0 0 Q (F0 m 124 ls [])) → ∀ (H : Heap) (locs : List Loc) (ls : Array Slot), va_P (dC, dI) vwCl (wl_Mo_lies a_0 a_0_isFlat a_0_across a_0_lows a_0_highs b_0_thick b_0_doorCounts b_0_doorFrom b_0_doorTo b_0_xs b_0_ys b_0_labels b_0_oldXs b_0_oldYs b_0_oldLabels b_0_names b_0_oldNames b_0_wanted b_0_common b_0_flatEdges b_0_upEdges b_0_isPoint b_0_stack b_0_pieceLines b_0_pieceBegins b_0_pieceEnds b_0_pieceLeft b_0_pieceRight b_0_outs b_0_isSeen b_0_ringSpaces b_0_ringStarts b_0_ringSizes b_0_ringLeast b_0_looseLines b_0_looseXs b_0_looseYs b_0_looseReaches b_0_far cZ cI v_0_code v_0_lines v_0_isFresh v_0_hasRun v_0_runs v_0_nx v_0_ny v_0_spaces v_0_oldNx v_0_oldNy v_0_oldSpaces v_0_points v_0_pieces v_0_rings v_0_outsideSides v_0_looseCount f_0_isFlat f_0_across f_0_lows f_0_highs) H → va_D A (wl_Mo_lies a_0 a_0_isFlat a_0_across a_0_lows a_0_highs b_0_thick b_0_doorCounts b_0_doorFrom b_0_doorTo b_0_xs b_0_ys b_0_labels b_0_oldXs b_0_oldYs b_0_oldLabels b_0_names b_0_oldNames b_0_wanted b_0_common b_0_flatEdges b_0_upEdges b_0_isPoint b_0_stack b_0_pieceLines b_0_pieceBegins b_0_pieceEnds b_0_pieceLeft b_0_pieceRight b_0_outs b_0_isSeen b_0_ringSpaces b_0_ringStarts b_0_ringSizes b_0_ringLeast b_0_looseLines b_0_looseXs b_0_looseYs b_0_looseReaches b_0_far cZ cI v_0_code v_0_lines v_0_isFresh v_0_hasRun v_0_runs v_0_nx v_0_ny v_0_spaces v_0_oldNx v_0_oldNy v_0_oldSpaces v_0_points v_0_pieces v_0_rings v_0_outsideSides v_0_looseCount f_0_isFlat f_0_across f_0_lows f_0_highs) → va_S A s.heap H locs → lv_has ls 9 [(0, .ref a_0), (1, .int p1), (2, .int p2), (3, .int p3), (4, .int p4), (5, .int p5), (6, .int x1), (7, .int x2)] → W p l e rm_Mo_lies s m args below meth c H locs 0 0 Q (F0 m 6 ls []) := by
    intro n
    induction n with
    | zero => intro x1 x2 x3 hm; simp [m_Mo_lies_L6] at hm
    | succ n ih =>
      intro x1 x2 x3 hm KE H locs ls hP hD hS hl
      rw [m_Mo_lies_L6] at hm
      refine lv_iload hx hb d_Mo_lies_6 (lv_at hl 7 rfl) ?_
      refine lv_aload_n hx hb d_Mo_lies_8 rfl (lv_at hl 0 rfl) ?_
      refine va_get (D := (dC, dI)) (ci := 11) (v := .int v_0_lines) (C := "SpaceCyclesModel") (T := F_Mo) (N := 54) hx hb hts (in_F i_Mo) hown hK hP 0 rfl rfl 6 (by decide) (hts _ (in_c k_274)) (fun _ h9 => h9) rfl d_Mo_lies_9 ?_
      refine lv_icmp_ge (tgt := 124) hx hb d_Mo_lies_12 (by decide) (fun c5 => ?_) (fun c5 => ?_)
      · replace hm := if_t hm c5
        cases hm
        exact KE H locs ls hP hD hS (lv_sub hl [6] rfl)
      · replace hm := if_f hm c5
        refine lv_iload hx hb d_Mo_lies_15 (lv_at hl 7 rfl) ?_
        refine lv_iload_n hx hb d_Mo_lies_17 rfl (lv_at hl 1 rfl) ?_
        obtain ⟨x9, hb7, hm⟩ := bd1_e hm
        have K6 : ∀ (H : Heap) (locs : List Loc) (ls : Array Slot), va_P (dC, dI) vwCl (wl_Mo_lies a_0 a_0_isFlat a_0_across a_0_lows a_0_highs b_0_thick b_0_doorCounts b_0_doorFrom b_0_doorTo b_0_xs b_0_ys b_0_labels b_0_oldXs b_0_oldYs b_0_oldLabels b_0_names b_0_oldNames b_0_wanted b_0_common b_0_flatEdges b_0_upEdges b_0_isPoint b_0_stack b_0_pieceLines b_0_pieceBegins b_0_pieceEnds b_0_pieceLeft b_0_pieceRight b_0_outs b_0_isSeen b_0_ringSpaces b_0_ringStarts b_0_ringSizes b_0_ringLeast b_0_looseLines b_0_looseXs b_0_looseYs b_0_looseReaches b_0_far cZ cI v_0_code v_0_lines v_0_isFresh v_0_hasRun v_0_runs v_0_nx v_0_ny v_0_spaces v_0_oldNx v_0_oldNy v_0_oldSpaces v_0_points v_0_pieces v_0_rings v_0_outsideSides v_0_looseCount f_0_isFlat f_0_across f_0_lows f_0_highs) H → va_D A (wl_Mo_lies a_0 a_0_isFlat a_0_across a_0_lows a_0_highs b_0_thick b_0_doorCounts b_0_doorFrom b_0_doorTo b_0_xs b_0_ys b_0_labels b_0_oldXs b_0_oldYs b_0_oldLabels b_0_names b_0_oldNames b_0_wanted b_0_common b_0_flatEdges b_0_upEdges b_0_isPoint b_0_stack b_0_pieceLines b_0_pieceBegins b_0_pieceEnds b_0_pieceLeft b_0_pieceRight b_0_outs b_0_isSeen b_0_ringSpaces b_0_ringStarts b_0_ringSizes b_0_ringLeast b_0_looseLines b_0_looseXs b_0_looseYs b_0_looseReaches b_0_far cZ cI v_0_code v_0_lines v_0_isFresh v_0_hasRun v_0_runs v_0_nx v_0_ny v_0_spaces v_0_oldNx v_0_oldNy v_0_oldSpaces v_0_points v_0_pieces v_0_rings v_0_outsideSides v_0_looseCount f_0_isFlat f_0_across f_0_lows f_0_highs) → va_S A s.heap H locs → lv_has ls 9 [(0, .ref a_0), (1, .int p1), (2, .int p2), (3, .int p3), (4, .int p4), (5, .int p5), (6, .int x1), (7, .int x2)] → W p l e rm_Mo_lies s m args below meth c H locs 0 0 Q (F0 m 48 ls [.int x9]) := by
          intro H locs ls hP hD hS hl
          refine lv_istore (lv' := [(8, .int x9), (0, .ref a_0), (1, .int p1), (2, .int p2), (3, .int p3), (4, .int p4), (5, .int p5), (6, .int x1), (7, .int x2)]) hx hb d_Mo_lies_48 hl (by decide) rfl (fun ls hl => ?_)
          refine lv_iload hx hb d_Mo_lies_50 (lv_at hl 7 rfl) ?_
          obtain ⟨x18, hb16, hm⟩ := bd1_e hm
          have K15 : ∀ (H : Heap) (locs : List Loc) (ls : Array Slot), va_P (dC, dI) vwCl (wl_Mo_lies a_0 a_0_isFlat a_0_across a_0_lows a_0_highs b_0_thick b_0_doorCounts b_0_doorFrom b_0_doorTo b_0_xs b_0_ys b_0_labels b_0_oldXs b_0_oldYs b_0_oldLabels b_0_names b_0_oldNames b_0_wanted b_0_common b_0_flatEdges b_0_upEdges b_0_isPoint b_0_stack b_0_pieceLines b_0_pieceBegins b_0_pieceEnds b_0_pieceLeft b_0_pieceRight b_0_outs b_0_isSeen b_0_ringSpaces b_0_ringStarts b_0_ringSizes b_0_ringLeast b_0_looseLines b_0_looseXs b_0_looseYs b_0_looseReaches b_0_far cZ cI v_0_code v_0_lines v_0_isFresh v_0_hasRun v_0_runs v_0_nx v_0_ny v_0_spaces v_0_oldNx v_0_oldNy v_0_oldSpaces v_0_points v_0_pieces v_0_rings v_0_outsideSides v_0_looseCount f_0_isFlat f_0_across f_0_lows f_0_highs) H → va_D A (wl_Mo_lies a_0 a_0_isFlat a_0_across a_0_lows a_0_highs b_0_thick b_0_doorCounts b_0_doorFrom b_0_doorTo b_0_xs b_0_ys b_0_labels b_0_oldXs b_0_oldYs b_0_oldLabels b_0_names b_0_oldNames b_0_wanted b_0_common b_0_flatEdges b_0_upEdges b_0_isPoint b_0_stack b_0_pieceLines b_0_pieceBegins b_0_pieceEnds b_0_pieceLeft b_0_pieceRight b_0_outs b_0_isSeen b_0_ringSpaces b_0_ringStarts b_0_ringSizes b_0_ringLeast b_0_looseLines b_0_looseXs b_0_looseYs b_0_looseReaches b_0_far cZ cI v_0_code v_0_lines v_0_isFresh v_0_hasRun v_0_runs v_0_nx v_0_ny v_0_spaces v_0_oldNx v_0_oldNy v_0_oldSpaces v_0_points v_0_pieces v_0_rings v_0_outsideSides v_0_looseCount f_0_isFlat f_0_across f_0_lows f_0_highs) → va_S A s.heap H locs → lv_has ls 9 [(0, .ref a_0), (1, .int p1), (2, .int p2), (3, .int p3), (4, .int p4), (5, .int p5), (7, .int x2)] → W p l e rm_Mo_lies s m args below meth c H locs 0 0 Q (F0 m 116 ls [.int x18]) := by
            intro H locs ls hP hD hS hl
            refine lv_istore (lv' := [(6, .int x18), (0, .ref a_0), (1, .int p1), (2, .int p2), (3, .int p3), (4, .int p4), (5, .int p5), (7, .int x2)]) hx hb d_Mo_lies_116 hl (by decide) rfl (fun ls hl => ?_)
            obtain ⟨x36, ex36⟩ : ∃ y : Int32, y = x2 + 1 := ⟨_, rfl⟩
            replace hm := lt_el hm ex36
            refine lv_iinc (v := x36) (lv' := [(7, .int x36), (6, .int x18), (0, .ref a_0), (1, .int p1), (2, .int p2), (3, .int p3), (4, .int p4), (5, .int p5)]) hx hb d_Mo_lies_118 hl (k := 7) rfl (by rw [ex36]; rfl) (by decide) rfl (fun ls hl => ?_)
            refine lv_goto (tgt := 6) hx hb d_Mo_lies_121 (by decide) ?_
            exact ih _ _ _ hm KE H locs ls hP hD hS (lv_sub hl [2, 3, 4, 5, 6, 7, 1, 0] rfl)
          replace hm := hb16
          refine lv_if_ne (tgt := 111) hx hb d_Mo_lies_52 (by decide) (fun c19 => ?_) (fun c19 => ?_)
          · replace hm := if_f hm c19
            refine lv_iconst (v := 1) hx hb d_Mo_lies_111 (by decide) ?_
            refine lv_goto (tgt := 116) hx hb d_Mo_lies_112 (by decide) ?_
            cases hm
            exact K15 H locs ls hP hD hS (lv_sub hl [1, 2, 3, 4, 5, 6, 8] rfl)
          · replace hm := if_t hm c19
            refine lv_iload hx hb d_Mo_lies_55 (lv_at hl 0 rfl) ?_
            refine lv_if_eq (tgt := 115) hx hb d_Mo_lies_57 (by decide) (fun c20 => ?_) (fun c20 => ?_)
            · replace hm := if_t hm c20
              refine lv_iconst (v := 0) hx hb d_Mo_lies_115 (by decide) ?_
              cases hm
              exact K15 H locs ls hP hD hS (lv_sub hl [1, 2, 3, 4, 5, 6, 8] rfl)
            · replace hm := if_f hm c20
              refine lv_iload hx hb d_Mo_lies_60 (lv_at hl 5 rfl) ?_
              refine lv_aload_n hx hb d_Mo_lies_62 rfl (lv_at hl 1 rfl) ?_
              refine va_get (D := (dC, dI)) (ci := 11) (v := .ref a_0_lows) (C := "SpaceCyclesModel") (T := F_Mo) (N := 54) hx hb hts (in_F i_Mo) hown hK hP 0 rfl rfl 3 (by decide) (hts _ (in_c k_281)) (fun _ h9 => h9) rfl d_Mo_lies_63 ?_
              refine lv_iload hx hb d_Mo_lies_66 (lv_at hl 8 rfl) ?_
              obtain ⟨hi21, hm⟩ := gI_e hm
              refine va_iald hx hb hK hP 3 0 rfl rfl hi21 d_Mo_lies_68 ?_
              obtain ⟨x25, hb23, hm⟩ := bd1_e hm
              have K22 : ∀ (H : Heap) (locs : List Loc) (ls : Array Slot), va_P (dC, dI) vwCl (wl_Mo_lies a_0 a_0_isFlat a_0_across a_0_lows a_0_highs b_0_thick b_0_doorCounts b_0_doorFrom b_0_doorTo b_0_xs b_0_ys b_0_labels b_0_oldXs b_0_oldYs b_0_oldLabels b_0_names b_0_oldNames b_0_wanted b_0_common b_0_flatEdges b_0_upEdges b_0_isPoint b_0_stack b_0_pieceLines b_0_pieceBegins b_0_pieceEnds b_0_pieceLeft b_0_pieceRight b_0_outs b_0_isSeen b_0_ringSpaces b_0_ringStarts b_0_ringSizes b_0_ringLeast b_0_looseLines b_0_looseXs b_0_looseYs b_0_looseReaches b_0_far cZ cI v_0_code v_0_lines v_0_isFresh v_0_hasRun v_0_runs v_0_nx v_0_ny v_0_spaces v_0_oldNx v_0_oldNy v_0_oldSpaces v_0_points v_0_pieces v_0_rings v_0_outsideSides v_0_looseCount f_0_isFlat f_0_across f_0_lows f_0_highs) H → va_D A (wl_Mo_lies a_0 a_0_isFlat a_0_across a_0_lows a_0_highs b_0_thick b_0_doorCounts b_0_doorFrom b_0_doorTo b_0_xs b_0_ys b_0_labels b_0_oldXs b_0_oldYs b_0_oldLabels b_0_names b_0_oldNames b_0_wanted b_0_common b_0_flatEdges b_0_upEdges b_0_isPoint b_0_stack b_0_pieceLines b_0_pieceBegins b_0_pieceEnds b_0_pieceLeft b_0_pieceRight b_0_outs b_0_isSeen b_0_ringSpaces b_0_ringStarts b_0_ringSizes b_0_ringLeast b_0_looseLines b_0_looseXs b_0_looseYs b_0_looseReaches b_0_far cZ cI v_0_code v_0_lines v_0_isFresh v_0_hasRun v_0_runs v_0_nx v_0_ny v_0_spaces v_0_oldNx v_0_oldNy v_0_oldSpaces v_0_points v_0_pieces v_0_rings v_0_outsideSides v_0_looseCount f_0_isFlat f_0_across f_0_lows f_0_highs) → va_S A s.heap H locs → lv_has ls 9 [(0, .ref a_0), (1, .int p1), (2, .int p2), (3, .int p3), (4, .int p4), (5, .int p5), (7, .int x2)] → W p l e rm_Mo_lies s m args below meth c H locs 0 0 Q (F0 m 84 ls [.int x25]) := by
                intro H locs ls hP hD hS hl
                refine lv_iload hx hb d_Mo_lies_84 (lv_at hl 5 rfl) ?_
                refine lv_aload_n hx hb d_Mo_lies_86 rfl (lv_at hl 0 rfl) ?_
                refine va_get (D := (dC, dI)) (ci := 11) (v := .ref a_0_highs) (C := "SpaceCyclesModel") (T := F_Mo) (N := 54) hx hb hts (in_F i_Mo) hown hK hP 0 rfl rfl 4 (by decide) (hts _ (in_c k_282)) (fun _ h9 => h9) rfl d_Mo_lies_87 ?_
                refine lv_iload hx hb d_Mo_lies_90 (lv_at hl 6 rfl) ?_
                obtain ⟨hi28, hm⟩ := gI_e hm
                refine va_iald hx hb hK hP 4 0 rfl rfl hi28 d_Mo_lies_92 ?_
                obtain ⟨x32, hb30, hm⟩ := bd1_e hm
                have K29 : ∀ (H : Heap) (locs : List Loc) (ls : Array Slot), va_P (dC, dI) vwCl (wl_Mo_lies a_0 a_0_isFlat a_0_across a_0_lows a_0_highs b_0_thick b_0_doorCounts b_0_doorFrom b_0_doorTo b_0_xs b_0_ys b_0_labels b_0_oldXs b_0_oldYs b_0_oldLabels b_0_names b_0_oldNames b_0_wanted b_0_common b_0_flatEdges b_0_upEdges b_0_isPoint b_0_stack b_0_pieceLines b_0_pieceBegins b_0_pieceEnds b_0_pieceLeft b_0_pieceRight b_0_outs b_0_isSeen b_0_ringSpaces b_0_ringStarts b_0_ringSizes b_0_ringLeast b_0_looseLines b_0_looseXs b_0_looseYs b_0_looseReaches b_0_far cZ cI v_0_code v_0_lines v_0_isFresh v_0_hasRun v_0_runs v_0_nx v_0_ny v_0_spaces v_0_oldNx v_0_oldNy v_0_oldSpaces v_0_points v_0_pieces v_0_rings v_0_outsideSides v_0_looseCount f_0_isFlat f_0_across f_0_lows f_0_highs) H → va_D A (wl_Mo_lies a_0 a_0_isFlat a_0_across a_0_lows a_0_highs b_0_thick b_0_doorCounts b_0_doorFrom b_0_doorTo b_0_xs b_0_ys b_0_labels b_0_oldXs b_0_oldYs b_0_oldLabels b_0_names b_0_oldNames b_0_wanted b_0_common b_0_flatEdges b_0_upEdges b_0_isPoint b_0_stack b_0_pieceLines b_0_pieceBegins b_0_pieceEnds b_0_pieceLeft b_0_pieceRight b_0_outs b_0_isSeen b_0_ringSpaces b_0_ringStarts b_0_ringSizes b_0_ringLeast b_0_looseLines b_0_looseXs b_0_looseYs b_0_looseReaches b_0_far cZ cI v_0_code v_0_lines v_0_isFresh v_0_hasRun v_0_runs v_0_nx v_0_ny v_0_spaces v_0_oldNx v_0_oldNy v_0_oldSpaces v_0_points v_0_pieces v_0_rings v_0_outsideSides v_0_looseCount f_0_isFlat f_0_across f_0_lows f_0_highs) → va_S A s.heap H locs → lv_has ls 9 [(0, .ref a_0), (1, .int p1), (2, .int p2), (3, .int p3), (4, .int p4), (5, .int p5), (7, .int x2)] → W p l e rm_Mo_lies s m args below meth c H locs 0 0 Q (F0 m 108 ls [.int x32, .int x25]) := by
                  intro H locs ls hP hD hS hl
                  refine lv_icmp_ge (tgt := 115) hx hb d_Mo_lies_108 (by decide) (fun c35 => ?_) (fun c35 => ?_)
                  · replace hm := if_t hm c35
                    refine lv_iconst (v := 0) hx hb d_Mo_lies_115 (by decide) ?_
                    cases hm
                    exact K15 H locs ls hP hD hS (lv_sub hl [0, 1, 2, 3, 4, 5, 6] rfl)
                  · replace hm := if_f hm c35
                    refine lv_iconst (v := 1) hx hb d_Mo_lies_111 (by decide) ?_
                    refine lv_goto (tgt := 116) hx hb d_Mo_lies_112 (by decide) ?_
                    cases hm
                    exact K15 H locs ls hP hD hS (lv_sub hl [0, 1, 2, 3, 4, 5, 6] rfl)
                replace hm := hb30
                refine lv_icmp_ge (tgt := 101) hx hb d_Mo_lies_93 (by decide) (fun c33 => ?_) (fun c33 => ?_)
                · replace hm := if_t hm c33
                  refine lv_aload_n hx hb d_Mo_lies_101 rfl (lv_at hl 0 rfl) ?_
                  refine va_get (D := (dC, dI)) (ci := 11) (v := .ref a_0_highs) (C := "SpaceCyclesModel") (T := F_Mo) (N := 54) hx hb hts (in_F i_Mo) hown hK hP 0 rfl rfl 4 (by decide) (hts _ (in_c k_282)) (fun _ h9 => h9) rfl d_Mo_lies_102 ?_
                  refine lv_iload hx hb d_Mo_lies_105 (lv_at hl 6 rfl) ?_
                  obtain ⟨hi34, hm⟩ := gI_e hm
                  refine va_iald hx hb hK hP 4 0 rfl rfl hi34 d_Mo_lies_107 ?_
                  cases hm
                  exact K29 H locs ls hP hD hS (lv_sub hl [0, 1, 2, 3, 4, 5, 6] rfl)
                · replace hm := if_f hm c33
                  refine lv_iload hx hb d_Mo_lies_96 (lv_at hl 5 rfl) ?_
                  refine lv_goto (tgt := 108) hx hb d_Mo_lies_98 (by decide) ?_
                  cases hm
                  exact K29 H locs ls hP hD hS (lv_sub hl [0, 1, 2, 3, 4, 5, 6] rfl)
              replace hm := hb23
              refine lv_icmp_le (tgt := 77) hx hb d_Mo_lies_69 (by decide) (fun c26 => ?_) (fun c26 => ?_)
              · replace hm := if_t hm c26
                refine lv_aload_n hx hb d_Mo_lies_77 rfl (lv_at hl 1 rfl) ?_
                refine va_get (D := (dC, dI)) (ci := 11) (v := .ref a_0_lows) (C := "SpaceCyclesModel") (T := F_Mo) (N := 54) hx hb hts (in_F i_Mo) hown hK hP 0 rfl rfl 3 (by decide) (hts _ (in_c k_281)) (fun _ h9 => h9) rfl d_Mo_lies_78 ?_
                refine lv_iload hx hb d_Mo_lies_81 (lv_at hl 8 rfl) ?_
                obtain ⟨hi27, hm⟩ := gI_e hm
                refine va_iald hx hb hK hP 3 0 rfl rfl hi27 d_Mo_lies_83 ?_
                cases hm
                exact K22 H locs ls hP hD hS (lv_sub hl [1, 2, 3, 4, 5, 6, 8] rfl)
              · replace hm := if_f hm c26
                refine lv_iload hx hb d_Mo_lies_72 (lv_at hl 5 rfl) ?_
                refine lv_goto (tgt := 84) hx hb d_Mo_lies_74 (by decide) ?_
                cases hm
                exact K22 H locs ls hP hD hS (lv_sub hl [1, 2, 3, 4, 5, 6, 8] rfl)
        replace hm := hb7
        refine lv_icmp_eq (tgt := 47) hx hb d_Mo_lies_18 (by decide) (fun c10 => ?_) (fun c10 => ?_)
        · replace hm := if_t hm c10
          refine lv_iconst (v := 0) hx hb d_Mo_lies_47 (by decide) ?_
          cases hm
          exact K6 H locs ls hP hD hS (lv_sub hl [0, 1, 2, 3, 4, 5, 6, 7] rfl)
        · replace hm := if_f hm c10
          refine lv_aload_n hx hb d_Mo_lies_21 rfl (lv_at hl 0 rfl) ?_
          refine va_get (D := (dC, dI)) (ci := 11) (v := .ref a_0_isFlat) (C := "SpaceCyclesModel") (T := F_Mo) (N := 54) hx hb hts (in_F i_Mo) hown hK hP 0 rfl rfl 1 (by decide) (hts _ (in_c k_279)) (fun _ h9 => h9) rfl d_Mo_lies_22 ?_
          refine lv_iload hx hb d_Mo_lies_25 (lv_at hl 7 rfl) ?_
          obtain ⟨hi11, hm⟩ := gI_e hm
          refine va_zald hx hb hK hP 1 1 rfl rfl hi11 d_Mo_lies_27 ?_
          refine lv_iload_n hx hb d_Mo_lies_28 rfl (lv_at hl 2 rfl) ?_
          refine lv_icmp_ne (tgt := 47) hx hb d_Mo_lies_29 (by decide) (fun c12 => ?_) (fun c12 => ?_)
          · replace hm := if_f hm c12
            refine lv_iconst (v := 0) hx hb d_Mo_lies_47 (by decide) ?_
            cases hm
            exact K6 H locs ls hP hD hS (lv_sub hl [0, 1, 2, 3, 4, 5, 6, 7] rfl)
          · replace hm := if_t hm c12
            refine lv_aload_n hx hb d_Mo_lies_32 rfl (lv_at hl 0 rfl) ?_
            refine va_get (D := (dC, dI)) (ci := 11) (v := .ref a_0_across) (C := "SpaceCyclesModel") (T := F_Mo) (N := 54) hx hb hts (in_F i_Mo) hown hK hP 0 rfl rfl 2 (by decide) (hts _ (in_c k_280)) (fun _ h9 => h9) rfl d_Mo_lies_33 ?_
            refine lv_iload hx hb d_Mo_lies_36 (lv_at hl 7 rfl) ?_
            obtain ⟨hi13, hm⟩ := gI_e hm
            refine va_iald hx hb hK hP 2 0 rfl rfl hi13 d_Mo_lies_38 ?_
            refine lv_iload_n hx hb d_Mo_lies_39 rfl (lv_at hl 3 rfl) ?_
            refine lv_icmp_ne (tgt := 47) hx hb d_Mo_lies_40 (by decide) (fun c14 => ?_) (fun c14 => ?_)
            · replace hm := if_f hm c14
              refine lv_iconst (v := 0) hx hb d_Mo_lies_47 (by decide) ?_
              cases hm
              exact K6 H locs ls hP hD hS (lv_sub hl [0, 1, 2, 3, 4, 5, 6, 7] rfl)
            · replace hm := if_t hm c14
              refine lv_iconst (v := 1) hx hb d_Mo_lies_43 (by decide) ?_
              refine lv_goto (tgt := 48) hx hb d_Mo_lies_44 (by decide) ?_
              cases hm
              exact K6 H locs ls hP hD hS (lv_sub hl [0, 1, 2, 3, 4, 5, 6, 7] rfl)
  obtain ⟨x3, hb37, hm⟩ := bd1_e hm
  refine L6_4 fu _ _ _ hb37 (fun H locs ls hP hD hS hl => ?_) H locs ls hP hD hS (lv_sub hl [2, 3, 4, 5, 6, 7, 1, 0] rfl)
  refine lv_iload hx hb d_Mo_lies_124 (lv_at hl 0 rfl) ?_
  obtain ⟨hB, hm⟩ := gB_e hm
  cases hm
  exact hret _ H locs ls d_Mo_lies_126 hB hP hD hS
set_option maxHeartbeats 4000000 in
set_option maxRecDepth 100000 in
theorem c_Mo_lies (l : Launch) (dC : Nat → ClassId) (dI : Nat → Nat → Nat) {cI cZ cJ : ClassId} (a_0 a_0_isFlat a_0_across a_0_lows a_0_highs b_0_thick b_0_doorCounts b_0_doorFrom b_0_doorTo b_0_xs b_0_ys b_0_labels b_0_oldXs b_0_oldYs b_0_oldLabels b_0_names b_0_oldNames b_0_wanted b_0_common b_0_flatEdges b_0_upEdges b_0_isPoint b_0_stack b_0_pieceLines b_0_pieceBegins b_0_pieceEnds b_0_pieceLeft b_0_pieceRight b_0_outs b_0_isSeen b_0_ringSpaces b_0_ringStarts b_0_ringSizes b_0_ringLeast b_0_looseLines b_0_looseXs b_0_looseYs b_0_looseReaches b_0_far : Nat) (sz : Nat) (v_0_code : Int32) (v_0_lines : Int32) (v_0_isFresh : Int32) (v_0_hasRun : Int32) (v_0_runs : Int32) (v_0_nx : Int32) (v_0_ny : Int32) (v_0_spaces : Int32) (v_0_oldNx : Int32) (v_0_oldNy : Int32) (v_0_oldSpaces : Int32) (v_0_points : Int32) (v_0_pieces : Int32) (v_0_rings : Int32) (v_0_outsideSides : Int32) (v_0_looseCount : Int32) (f_0_isFlat : Nat → Int32) (f_0_across : Nat → Int32) (f_0_lows : Nat → Int32) (f_0_highs : Nat → Int32) (p1 : Int32) (p2 : Int32) (p3 : Int32) (p4 : Int32) (p5 : Int32) (R0 : Int32) (hm : m_Mo_lies p1 p2 p3 p4 p5 v_0_lines f_0_isFlat f_0_across f_0_lows f_0_highs = some R0) : Met l y_Mo_lies w_Mo_lies rm_Mo_lies (PP dC dI [(cI, .int), (cZ, .boolean), (cJ, .long)] [.ref a_0, .int p1, .int p2, .int p3, .int p4, .int p5] sz (wl_Mo_lies a_0 a_0_isFlat a_0_across a_0_lows a_0_highs b_0_thick b_0_doorCounts b_0_doorFrom b_0_doorTo b_0_xs b_0_ys b_0_labels b_0_oldXs b_0_oldYs b_0_oldLabels b_0_names b_0_oldNames b_0_wanted b_0_common b_0_flatEdges b_0_upEdges b_0_isPoint b_0_stack b_0_pieceLines b_0_pieceBegins b_0_pieceEnds b_0_pieceLeft b_0_pieceRight b_0_outs b_0_isSeen b_0_ringSpaces b_0_ringStarts b_0_ringSizes b_0_ringLeast b_0_looseLines b_0_looseXs b_0_looseYs b_0_looseReaches b_0_far cZ cI v_0_code v_0_lines v_0_isFresh v_0_hasRun v_0_runs v_0_nx v_0_ny v_0_spaces v_0_oldNx v_0_oldNy v_0_oldSpaces v_0_points v_0_pieces v_0_rings v_0_outsideSides v_0_looseCount f_0_isFlat f_0_across f_0_lows f_0_highs)) (QI dC dI [(cI, .int), (cZ, .boolean), (cJ, .long)] sz (wl_Mo_lies a_0 a_0_isFlat a_0_across a_0_lows a_0_highs b_0_thick b_0_doorCounts b_0_doorFrom b_0_doorTo b_0_xs b_0_ys b_0_labels b_0_oldXs b_0_oldYs b_0_oldLabels b_0_names b_0_oldNames b_0_wanted b_0_common b_0_flatEdges b_0_upEdges b_0_isPoint b_0_stack b_0_pieceLines b_0_pieceBegins b_0_pieceEnds b_0_pieceLeft b_0_pieceRight b_0_outs b_0_isSeen b_0_ringSpaces b_0_ringStarts b_0_ringSizes b_0_ringLeast b_0_looseLines b_0_looseXs b_0_looseYs b_0_looseReaches b_0_far cZ cI v_0_code v_0_lines v_0_isFresh v_0_hasRun v_0_runs v_0_nx v_0_ny v_0_spaces v_0_oldNx v_0_oldNy v_0_oldSpaces v_0_points v_0_pieces v_0_rings v_0_outsideSides v_0_looseCount f_0_isFlat f_0_across f_0_lows f_0_highs) (wl_Mo_lies a_0 a_0_isFlat a_0_across a_0_lows a_0_highs b_0_thick b_0_doorCounts b_0_doorFrom b_0_doorTo b_0_xs b_0_ys b_0_labels b_0_oldXs b_0_oldYs b_0_oldLabels b_0_names b_0_oldNames b_0_wanted b_0_common b_0_flatEdges b_0_upEdges b_0_isPoint b_0_stack b_0_pieceLines b_0_pieceBegins b_0_pieceEnds b_0_pieceLeft b_0_pieceRight b_0_outs b_0_isSeen b_0_ringSpaces b_0_ringStarts b_0_ringSizes b_0_ringLeast b_0_looseLines b_0_looseXs b_0_looseYs b_0_looseReaches b_0_far cZ cI v_0_code v_0_lines v_0_isFresh v_0_hasRun v_0_runs v_0_nx v_0_ny v_0_spaces v_0_oldNx v_0_oldNy v_0_oldSpaces v_0_points v_0_pieces v_0_rings v_0_outsideSides v_0_looseCount f_0_isFlat f_0_across f_0_lows f_0_highs) R0) 0 0 (va_A (wl_Mo_lies a_0 a_0_isFlat a_0_across a_0_lows a_0_highs b_0_thick b_0_doorCounts b_0_doorFrom b_0_doorTo b_0_xs b_0_ys b_0_labels b_0_oldXs b_0_oldYs b_0_oldLabels b_0_names b_0_oldNames b_0_wanted b_0_common b_0_flatEdges b_0_upEdges b_0_isPoint b_0_stack b_0_pieceLines b_0_pieceBegins b_0_pieceEnds b_0_pieceLeft b_0_pieceRight b_0_outs b_0_isSeen b_0_ringSpaces b_0_ringStarts b_0_ringSizes b_0_ringLeast b_0_looseLines b_0_looseXs b_0_looseYs b_0_looseReaches b_0_far cZ cI v_0_code v_0_lines v_0_isFresh v_0_hasRun v_0_runs v_0_nx v_0_ny v_0_spaces v_0_oldNx v_0_oldNy v_0_oldSpaces v_0_points v_0_pieces v_0_rings v_0_outsideSides v_0_looseCount f_0_isFlat f_0_across f_0_lows f_0_highs) sz) := by
  refine Met.ofW (cc := b_Mo_lies) (maxL := 9) (ret := (some .boolean)) (by decide) rfl ?_
  intro p e s m args below meth c s₁ B hml hv
  obtain ⟨rfl, hsz, hP, hK, hD0, hN⟩ := hv
  subst hsz
  have hl := lv_entry ([.ref a_0, .int p1, .int p2, .int p3, .int p4, .int p5]) (n := 9) (Nat.le_of_ble_eq_true rfl)
  rw [lg_entry_eq]
  generalize (lg_sl ([.ref a_0, .int p1, .int p2, .int p3, .int p4, .int p5]) ++ List.replicate (9 - (lg_sl ([.ref a_0, .int p1, .int p2, .int p3, .int p4, .int p5])).length) Slot.unset).toArray = ls at hl ⊢
  exact t_Mo_lies a_0 a_0_isFlat a_0_across a_0_lows a_0_highs b_0_thick b_0_doorCounts b_0_doorFrom b_0_doorTo b_0_xs b_0_ys b_0_labels b_0_oldXs b_0_oldYs b_0_oldLabels b_0_names b_0_oldNames b_0_wanted b_0_common b_0_flatEdges b_0_upEdges b_0_isPoint b_0_stack b_0_pieceLines b_0_pieceBegins b_0_pieceEnds b_0_pieceLeft b_0_pieceRight b_0_outs b_0_isSeen b_0_ringSpaces b_0_ringStarts b_0_ringSizes b_0_ringLeast b_0_looseLines b_0_looseXs b_0_looseYs b_0_looseReaches b_0_far v_0_code v_0_lines v_0_isFresh v_0_hasRun v_0_runs v_0_nx v_0_ny v_0_spaces v_0_oldNx v_0_oldNy v_0_oldSpaces v_0_points v_0_pieces v_0_rings v_0_outsideSides v_0_looseCount f_0_isFlat f_0_across f_0_lows f_0_highs p1 p2 p3 p4 p5 R0 B.exec B.bytes hml (findClass_of_methodNamed B.named) (atoms_spec (ws := w_Mo_lies) B.pre) hK hN (fun q h => Or.inr h) (fun pc H locs ls hd hz hP9 hD9 hS => W.zret B.exec B.bytes B.returns (nar_b hz) (fun t ht hW => ⟨⟨_, (), rfl, rfl, by rw [ht]; exact hP9, va_K.moved hW.alike hK, hD9⟩, hS.F ht⟩) hS.2.2 hd) hm s.heap [] ls hP hD0.self va_S.rf hl

theorem k_283 : ((.code ⟨"SpaceCyclesModel", "lies", "(IZIII)Z"⟩ prog_13_method_5_code 9 (some .boolean)) : Cond) ∈ gl := gl_i 1300 (by decide +kernel) (by decide +kernel)
theorem k_284 : ((.selects "SpaceCyclesModel" ⟨"SpaceCyclesModel", "lies", "(IZIII)Z"⟩ ⟨"SpaceCyclesModel", "lies", "(IZIII)Z"⟩) : Cond) ∈ gl := gl_s (by decide +kernel) (by decide +kernel)
theorem k_285 : ((.instanceMethod ⟨"SpaceCyclesModel", "lies", "(IZIII)Z"⟩) : Cond) ∈ gl := gl_i 1299 (by decide +kernel) (by decide +kernel)
theorem k_286 : ((.methodLink "SpaceCyclesModel" 141 ⟨"SpaceCyclesModel", "lies", "(IZIII)Z"⟩) : Cond) ∈ gl := gl_i 1297 (by decide +kernel) (by decide +kernel)
theorem k_287 : ((.fieldLink "SpaceCyclesModel" 23 "SpaceCyclesModel" "thick" "[I") : Cond) ∈ gl := gl_i 1126 (by decide +kernel) (by decide +kernel)
theorem k_288 : ((.fieldLink "SpaceCyclesModel" 26 "SpaceCyclesModel" "doorCounts" "[I") : Cond) ∈ gl := gl_i 1128 (by decide +kernel) (by decide +kernel)
theorem k_289 : ((.fieldLink "SpaceCyclesModel" 145 "SpaceCyclesModel" "isFresh" "Z") : Cond) ∈ gl := gl_i 1131 (by decide +kernel) (by decide +kernel)
-- SpaceCyclesModel.line(IIIII)I
abbrev b_Mo_line : ByteArray := prog_13_method_6_code
abbrev y_Mo_line : MethodName := ⟨"SpaceCyclesModel", "line", "(IIIII)I"⟩
abbrev w_Mo_line : List Cond := Cond.code y_Mo_line b_Mo_line 13 (some .int) :: gl
abbrev rm_Mo_line : Room := { frames := 1, cells := 0, slots := 0, locals := 28 }
theorem d_Mo_line_0 : decode b_Mo_line 0 = .ok (.iload_n 1, 1) := by decide +kernel
theorem d_Mo_line_1 : decode b_Mo_line 1 = .ok (.i2l, 1) := by decide +kernel
theorem d_Mo_line_2 : decode b_Mo_line 2 = .ok (.lconst 0, 1) := by decide +kernel
theorem d_Mo_line_3 : decode b_Mo_line 3 = .ok (.ldc2_w 137, 3) := by decide +kernel
theorem d_Mo_line_6 : decode b_Mo_line 6 = .ok (.invokestatic 133, 3) := by decide +kernel
theorem d_Mo_line_9 : decode b_Mo_line 9 = .ok (.ifCond .eq 64, 3) := by decide +kernel
theorem d_Mo_line_12 : decode b_Mo_line 12 = .ok (.iload_n 2, 1) := by decide +kernel
theorem d_Mo_line_13 : decode b_Mo_line 13 = .ok (.i2l, 1) := by decide +kernel
theorem d_Mo_line_14 : decode b_Mo_line 14 = .ok (.lconst 0, 1) := by decide +kernel
theorem d_Mo_line_15 : decode b_Mo_line 15 = .ok (.ldc2_w 137, 3) := by decide +kernel
theorem d_Mo_line_18 : decode b_Mo_line 18 = .ok (.invokestatic 133, 3) := by decide +kernel
theorem d_Mo_line_21 : decode b_Mo_line 21 = .ok (.ifCond .eq 52, 3) := by decide +kernel
theorem d_Mo_line_24 : decode b_Mo_line 24 = .ok (.iload_n 3, 1) := by decide +kernel
theorem d_Mo_line_25 : decode b_Mo_line 25 = .ok (.i2l, 1) := by decide +kernel
theorem d_Mo_line_26 : decode b_Mo_line 26 = .ok (.lconst 0, 1) := by decide +kernel
theorem d_Mo_line_27 : decode b_Mo_line 27 = .ok (.ldc2_w 137, 3) := by decide +kernel
theorem d_Mo_line_30 : decode b_Mo_line 30 = .ok (.invokestatic 133, 3) := by decide +kernel
theorem d_Mo_line_33 : decode b_Mo_line 33 = .ok (.ifCond .eq 40, 3) := by decide +kernel
theorem d_Mo_line_36 : decode b_Mo_line 36 = .ok (.iload 4, 2) := by decide +kernel
theorem d_Mo_line_38 : decode b_Mo_line 38 = .ok (.i2l, 1) := by decide +kernel
theorem d_Mo_line_39 : decode b_Mo_line 39 = .ok (.lconst 0, 1) := by decide +kernel
theorem d_Mo_line_40 : decode b_Mo_line 40 = .ok (.ldc2_w 137, 3) := by decide +kernel
theorem d_Mo_line_43 : decode b_Mo_line 43 = .ok (.invokestatic 133, 3) := by decide +kernel
theorem d_Mo_line_46 : decode b_Mo_line 46 = .ok (.ifCond .eq 27, 3) := by decide +kernel
theorem d_Mo_line_49 : decode b_Mo_line 49 = .ok (.iload 5, 2) := by decide +kernel
theorem d_Mo_line_51 : decode b_Mo_line 51 = .ok (.i2l, 1) := by decide +kernel
theorem d_Mo_line_52 : decode b_Mo_line 52 = .ok (.lconst 0, 1) := by decide +kernel
theorem d_Mo_line_53 : decode b_Mo_line 53 = .ok (.ldc2_w 139, 3) := by decide +kernel
theorem d_Mo_line_56 : decode b_Mo_line 56 = .ok (.invokestatic 133, 3) := by decide +kernel
theorem d_Mo_line_59 : decode b_Mo_line 59 = .ok (.ifCond .eq 14, 3) := by decide +kernel
theorem d_Mo_line_62 : decode b_Mo_line 62 = .ok (.iload 5, 2) := by decide +kernel
theorem d_Mo_line_64 : decode b_Mo_line 64 = .ok (.iconst 2, 1) := by decide +kernel
theorem d_Mo_line_65 : decode b_Mo_line 65 = .ok (.irem, 1) := by decide +kernel
theorem d_Mo_line_66 : decode b_Mo_line 66 = .ok (.ifCond .ne 7, 3) := by decide +kernel
theorem d_Mo_line_69 : decode b_Mo_line 69 = .ok (.iconst 1, 1) := by decide +kernel
theorem d_Mo_line_70 : decode b_Mo_line 70 = .ok (.goto 4, 3) := by decide +kernel
theorem d_Mo_line_73 : decode b_Mo_line 73 = .ok (.iconst 0, 1) := by decide +kernel
theorem d_Mo_line_74 : decode b_Mo_line 74 = .ok (.istore 6, 2) := by decide +kernel
theorem d_Mo_line_76 : decode b_Mo_line 76 = .ok (.iload_n 1, 1) := by decide +kernel
theorem d_Mo_line_77 : decode b_Mo_line 77 = .ok (.iload_n 3, 1) := by decide +kernel
theorem d_Mo_line_78 : decode b_Mo_line 78 = .ok (.if_icmp .ne 7, 3) := by decide +kernel
theorem d_Mo_line_81 : decode b_Mo_line 81 = .ok (.iconst 1, 1) := by decide +kernel
theorem d_Mo_line_82 : decode b_Mo_line 82 = .ok (.goto 4, 3) := by decide +kernel
theorem d_Mo_line_85 : decode b_Mo_line 85 = .ok (.iconst 0, 1) := by decide +kernel
theorem d_Mo_line_86 : decode b_Mo_line 86 = .ok (.iload_n 2, 1) := by decide +kernel
theorem d_Mo_line_87 : decode b_Mo_line 87 = .ok (.iload 4, 2) := by decide +kernel
theorem d_Mo_line_89 : decode b_Mo_line 89 = .ok (.if_icmp .ne 7, 3) := by decide +kernel
theorem d_Mo_line_92 : decode b_Mo_line 92 = .ok (.iconst 1, 1) := by decide +kernel
theorem d_Mo_line_93 : decode b_Mo_line 93 = .ok (.goto 4, 3) := by decide +kernel
theorem d_Mo_line_96 : decode b_Mo_line 96 = .ok (.iconst 0, 1) := by decide +kernel
theorem d_Mo_line_97 : decode b_Mo_line 97 = .ok (.if_icmp .eq 7, 3) := by decide +kernel
theorem d_Mo_line_100 : decode b_Mo_line 100 = .ok (.iconst 1, 1) := by decide +kernel
theorem d_Mo_line_101 : decode b_Mo_line 101 = .ok (.goto 4, 3) := by decide +kernel
theorem d_Mo_line_104 : decode b_Mo_line 104 = .ok (.iconst 0, 1) := by decide +kernel
theorem d_Mo_line_105 : decode b_Mo_line 105 = .ok (.istore 7, 2) := by decide +kernel
theorem d_Mo_line_107 : decode b_Mo_line 107 = .ok (.aload_n 0, 1) := by decide +kernel
theorem d_Mo_line_108 : decode b_Mo_line 108 = .ok (.iload 6, 2) := by decide +kernel
theorem d_Mo_line_110 : decode b_Mo_line 110 = .ok (.ifCond .eq 8, 3) := by decide +kernel
theorem d_Mo_line_113 : decode b_Mo_line 113 = .ok (.iload 7, 2) := by decide +kernel
theorem d_Mo_line_115 : decode b_Mo_line 115 = .ok (.ifCond .ne 7, 3) := by decide +kernel
theorem d_Mo_line_118 : decode b_Mo_line 118 = .ok (.iconst 1, 1) := by decide +kernel
theorem d_Mo_line_119 : decode b_Mo_line 119 = .ok (.goto 17, 3) := by decide +kernel
theorem d_Mo_line_122 : decode b_Mo_line 122 = .ok (.aload_n 0, 1) := by decide +kernel
theorem d_Mo_line_123 : decode b_Mo_line 123 = .ok (.getfield 130, 3) := by decide +kernel
theorem d_Mo_line_126 : decode b_Mo_line 126 = .ok (.bipush 20, 2) := by decide +kernel
theorem d_Mo_line_128 : decode b_Mo_line 128 = .ok (.if_icmp .ne 7, 3) := by decide +kernel
theorem d_Mo_line_131 : decode b_Mo_line 131 = .ok (.iconst 2, 1) := by decide +kernel
theorem d_Mo_line_132 : decode b_Mo_line 132 = .ok (.goto 4, 3) := by decide +kernel
theorem d_Mo_line_135 : decode b_Mo_line 135 = .ok (.iconst 0, 1) := by decide +kernel
theorem d_Mo_line_136 : decode b_Mo_line 136 = .ok (.putfield 126, 3) := by decide +kernel
theorem d_Mo_line_139 : decode b_Mo_line 139 = .ok (.aload_n 0, 1) := by decide +kernel
theorem d_Mo_line_140 : decode b_Mo_line 140 = .ok (.getfield 126, 3) := by decide +kernel
theorem d_Mo_line_143 : decode b_Mo_line 143 = .ok (.ifCond .le 5, 3) := by decide +kernel
theorem d_Mo_line_146 : decode b_Mo_line 146 = .ok (.iconst 0, 1) := by decide +kernel
theorem d_Mo_line_147 : decode b_Mo_line 147 = .ok (.ireturn, 1) := by decide +kernel
theorem d_Mo_line_148 : decode b_Mo_line 148 = .ok (.iload_n 2, 1) := by decide +kernel
theorem d_Mo_line_149 : decode b_Mo_line 149 = .ok (.iload 4, 2) := by decide +kernel
theorem d_Mo_line_151 : decode b_Mo_line 151 = .ok (.if_icmp .ne 7, 3) := by decide +kernel
theorem d_Mo_line_154 : decode b_Mo_line 154 = .ok (.iconst 1, 1) := by decide +kernel
theorem d_Mo_line_155 : decode b_Mo_line 155 = .ok (.goto 4, 3) := by decide +kernel
theorem d_Mo_line_158 : decode b_Mo_line 158 = .ok (.iconst 0, 1) := by decide +kernel
theorem d_Mo_line_159 : decode b_Mo_line 159 = .ok (.istore 8, 2) := by decide +kernel
theorem d_Mo_line_161 : decode b_Mo_line 161 = .ok (.iload 8, 2) := by decide +kernel
theorem d_Mo_line_163 : decode b_Mo_line 163 = .ok (.ifCond .eq 7, 3) := by decide +kernel
theorem d_Mo_line_166 : decode b_Mo_line 166 = .ok (.iload_n 1, 1) := by decide +kernel
theorem d_Mo_line_167 : decode b_Mo_line 167 = .ok (.goto 4, 3) := by decide +kernel
theorem d_Mo_line_170 : decode b_Mo_line 170 = .ok (.iload_n 2, 1) := by decide +kernel
theorem d_Mo_line_171 : decode b_Mo_line 171 = .ok (.istore 9, 2) := by decide +kernel
theorem d_Mo_line_173 : decode b_Mo_line 173 = .ok (.iload 8, 2) := by decide +kernel
theorem d_Mo_line_175 : decode b_Mo_line 175 = .ok (.ifCond .eq 7, 3) := by decide +kernel
theorem d_Mo_line_178 : decode b_Mo_line 178 = .ok (.iload_n 3, 1) := by decide +kernel
theorem d_Mo_line_179 : decode b_Mo_line 179 = .ok (.goto 5, 3) := by decide +kernel
theorem d_Mo_line_182 : decode b_Mo_line 182 = .ok (.iload 4, 2) := by decide +kernel
theorem d_Mo_line_184 : decode b_Mo_line 184 = .ok (.istore 10, 2) := by decide +kernel
theorem d_Mo_line_186 : decode b_Mo_line 186 = .ok (.iload 9, 2) := by decide +kernel
theorem d_Mo_line_188 : decode b_Mo_line 188 = .ok (.iload 10, 2) := by decide +kernel
theorem d_Mo_line_190 : decode b_Mo_line 190 = .ok (.if_icmp .ge 8, 3) := by decide +kernel
theorem d_Mo_line_193 : decode b_Mo_line 193 = .ok (.iload 9, 2) := by decide +kernel
theorem d_Mo_line_195 : decode b_Mo_line 195 = .ok (.goto 5, 3) := by decide +kernel
theorem d_Mo_line_198 : decode b_Mo_line 198 = .ok (.iload 10, 2) := by decide +kernel
theorem d_Mo_line_200 : decode b_Mo_line 200 = .ok (.istore 11, 2) := by decide +kernel
theorem d_Mo_line_202 : decode b_Mo_line 202 = .ok (.iload 9, 2) := by decide +kernel
theorem d_Mo_line_204 : decode b_Mo_line 204 = .ok (.iload 10, 2) := by decide +kernel
theorem d_Mo_line_206 : decode b_Mo_line 206 = .ok (.if_icmp .ge 8, 3) := by decide +kernel
theorem d_Mo_line_209 : decode b_Mo_line 209 = .ok (.iload 10, 2) := by decide +kernel
theorem d_Mo_line_211 : decode b_Mo_line 211 = .ok (.goto 5, 3) := by decide +kernel
theorem d_Mo_line_214 : decode b_Mo_line 214 = .ok (.iload 9, 2) := by decide +kernel
theorem d_Mo_line_216 : decode b_Mo_line 216 = .ok (.istore 12, 2) := by decide +kernel
theorem d_Mo_line_218 : decode b_Mo_line 218 = .ok (.aload_n 0, 1) := by decide +kernel
theorem d_Mo_line_219 : decode b_Mo_line 219 = .ok (.iconst (-1), 1) := by decide +kernel
theorem d_Mo_line_220 : decode b_Mo_line 220 = .ok (.iload 8, 2) := by decide +kernel
theorem d_Mo_line_222 : decode b_Mo_line 222 = .ok (.iload 8, 2) := by decide +kernel
theorem d_Mo_line_224 : decode b_Mo_line 224 = .ok (.ifCond .eq 7, 3) := by decide +kernel
theorem d_Mo_line_227 : decode b_Mo_line 227 = .ok (.iload_n 2, 1) := by decide +kernel
theorem d_Mo_line_228 : decode b_Mo_line 228 = .ok (.goto 4, 3) := by decide +kernel
theorem d_Mo_line_231 : decode b_Mo_line 231 = .ok (.iload_n 1, 1) := by decide +kernel
theorem d_Mo_line_232 : decode b_Mo_line 232 = .ok (.iload 11, 2) := by decide +kernel
theorem d_Mo_line_234 : decode b_Mo_line 234 = .ok (.iload 12, 2) := by decide +kernel
theorem d_Mo_line_236 : decode b_Mo_line 236 = .ok (.invokevirtual 141, 3) := by decide +kernel
theorem d_Mo_line_239 : decode b_Mo_line 239 = .ok (.ifCond .eq 5, 3) := by decide +kernel
theorem d_Mo_line_242 : decode b_Mo_line 242 = .ok (.iconst (-1), 1) := by decide +kernel
theorem d_Mo_line_243 : decode b_Mo_line 243 = .ok (.ireturn, 1) := by decide +kernel
theorem d_Mo_line_244 : decode b_Mo_line 244 = .ok (.aload_n 0, 1) := by decide +kernel
theorem d_Mo_line_245 : decode b_Mo_line 245 = .ok (.getfield 7, 3) := by decide +kernel
theorem d_Mo_line_248 : decode b_Mo_line 248 = .ok (.aload_n 0, 1) := by decide +kernel
theorem d_Mo_line_249 : decode b_Mo_line 249 = .ok (.getfield 130, 3) := by decide +kernel
theorem d_Mo_line_252 : decode b_Mo_line 252 = .ok (.iload 8, 2) := by decide +kernel
theorem d_Mo_line_254 : decode b_Mo_line 254 = .ok (.bastore, 1) := by decide +kernel
theorem d_Mo_line_255 : decode b_Mo_line 255 = .ok (.aload_n 0, 1) := by decide +kernel
theorem d_Mo_line_256 : decode b_Mo_line 256 = .ok (.getfield 13, 3) := by decide +kernel
theorem d_Mo_line_259 : decode b_Mo_line 259 = .ok (.aload_n 0, 1) := by decide +kernel
theorem d_Mo_line_260 : decode b_Mo_line 260 = .ok (.getfield 130, 3) := by decide +kernel
theorem d_Mo_line_263 : decode b_Mo_line 263 = .ok (.iload 8, 2) := by decide +kernel
theorem d_Mo_line_265 : decode b_Mo_line 265 = .ok (.ifCond .eq 7, 3) := by decide +kernel
theorem d_Mo_line_268 : decode b_Mo_line 268 = .ok (.iload_n 2, 1) := by decide +kernel
theorem d_Mo_line_269 : decode b_Mo_line 269 = .ok (.goto 4, 3) := by decide +kernel
theorem d_Mo_line_272 : decode b_Mo_line 272 = .ok (.iload_n 1, 1) := by decide +kernel
theorem d_Mo_line_273 : decode b_Mo_line 273 = .ok (.iastore, 1) := by decide +kernel
theorem d_Mo_line_274 : decode b_Mo_line 274 = .ok (.aload_n 0, 1) := by decide +kernel
theorem d_Mo_line_275 : decode b_Mo_line 275 = .ok (.getfield 17, 3) := by decide +kernel
theorem d_Mo_line_278 : decode b_Mo_line 278 = .ok (.aload_n 0, 1) := by decide +kernel
theorem d_Mo_line_279 : decode b_Mo_line 279 = .ok (.getfield 130, 3) := by decide +kernel
theorem d_Mo_line_282 : decode b_Mo_line 282 = .ok (.iload 11, 2) := by decide +kernel
theorem d_Mo_line_284 : decode b_Mo_line 284 = .ok (.iastore, 1) := by decide +kernel
theorem d_Mo_line_285 : decode b_Mo_line 285 = .ok (.aload_n 0, 1) := by decide +kernel
theorem d_Mo_line_286 : decode b_Mo_line 286 = .ok (.getfield 20, 3) := by decide +kernel
theorem d_Mo_line_289 : decode b_Mo_line 289 = .ok (.aload_n 0, 1) := by decide +kernel
theorem d_Mo_line_290 : decode b_Mo_line 290 = .ok (.getfield 130, 3) := by decide +kernel
theorem d_Mo_line_293 : decode b_Mo_line 293 = .ok (.iload 12, 2) := by decide +kernel
theorem d_Mo_line_295 : decode b_Mo_line 295 = .ok (.iastore, 1) := by decide +kernel
theorem d_Mo_line_296 : decode b_Mo_line 296 = .ok (.aload_n 0, 1) := by decide +kernel
theorem d_Mo_line_297 : decode b_Mo_line 297 = .ok (.getfield 23, 3) := by decide +kernel
theorem d_Mo_line_300 : decode b_Mo_line 300 = .ok (.aload_n 0, 1) := by decide +kernel
theorem d_Mo_line_301 : decode b_Mo_line 301 = .ok (.getfield 130, 3) := by decide +kernel
theorem d_Mo_line_304 : decode b_Mo_line 304 = .ok (.iload 5, 2) := by decide +kernel
theorem d_Mo_line_306 : decode b_Mo_line 306 = .ok (.iastore, 1) := by decide +kernel
theorem d_Mo_line_307 : decode b_Mo_line 307 = .ok (.aload_n 0, 1) := by decide +kernel
theorem d_Mo_line_308 : decode b_Mo_line 308 = .ok (.getfield 26, 3) := by decide +kernel
theorem d_Mo_line_311 : decode b_Mo_line 311 = .ok (.aload_n 0, 1) := by decide +kernel
theorem d_Mo_line_312 : decode b_Mo_line 312 = .ok (.getfield 130, 3) := by decide +kernel
theorem d_Mo_line_315 : decode b_Mo_line 315 = .ok (.iconst 0, 1) := by decide +kernel
theorem d_Mo_line_316 : decode b_Mo_line 316 = .ok (.iastore, 1) := by decide +kernel
theorem d_Mo_line_317 : decode b_Mo_line 317 = .ok (.aload_n 0, 1) := by decide +kernel
theorem d_Mo_line_318 : decode b_Mo_line 318 = .ok (.dup, 1) := by decide +kernel
theorem d_Mo_line_319 : decode b_Mo_line 319 = .ok (.getfield 130, 3) := by decide +kernel
theorem d_Mo_line_322 : decode b_Mo_line 322 = .ok (.iconst 1, 1) := by decide +kernel
theorem d_Mo_line_323 : decode b_Mo_line 323 = .ok (.iadd, 1) := by decide +kernel
theorem d_Mo_line_324 : decode b_Mo_line 324 = .ok (.putfield 130, 3) := by decide +kernel
theorem d_Mo_line_327 : decode b_Mo_line 327 = .ok (.aload_n 0, 1) := by decide +kernel
theorem d_Mo_line_328 : decode b_Mo_line 328 = .ok (.iconst 0, 1) := by decide +kernel
theorem d_Mo_line_329 : decode b_Mo_line 329 = .ok (.putfield 145, 3) := by decide +kernel
theorem d_Mo_line_332 : decode b_Mo_line 332 = .ok (.aload_n 0, 1) := by decide +kernel
theorem d_Mo_line_333 : decode b_Mo_line 333 = .ok (.getfield 130, 3) := by decide +kernel
theorem d_Mo_line_336 : decode b_Mo_line 336 = .ok (.iconst 1, 1) := by decide +kernel
theorem d_Mo_line_337 : decode b_Mo_line 337 = .ok (.isub, 1) := by decide +kernel
theorem d_Mo_line_338 : decode b_Mo_line 338 = .ok (.ireturn, 1) := by decide +kernel
abbrev wl_Mo_line (a_0 : Nat) (a_0_isFlat : Nat) (a_0_across : Nat) (a_0_lows : Nat) (a_0_highs : Nat) (a_0_thick : Nat) (a_0_doorCounts : Nat) (b_0_doorFrom : Nat) (b_0_doorTo : Nat) (b_0_xs : Nat) (b_0_ys : Nat) (b_0_labels : Nat) (b_0_oldXs : Nat) (b_0_oldYs : Nat) (b_0_oldLabels : Nat) (b_0_names : Nat) (b_0_oldNames : Nat) (b_0_wanted : Nat) (b_0_common : Nat) (b_0_flatEdges : Nat) (b_0_upEdges : Nat) (b_0_isPoint : Nat) (b_0_stack : Nat) (b_0_pieceLines : Nat) (b_0_pieceBegins : Nat) (b_0_pieceEnds : Nat) (b_0_pieceLeft : Nat) (b_0_pieceRight : Nat) (b_0_outs : Nat) (b_0_isSeen : Nat) (b_0_ringSpaces : Nat) (b_0_ringStarts : Nat) (b_0_ringSizes : Nat) (b_0_ringLeast : Nat) (b_0_looseLines : Nat) (b_0_looseXs : Nat) (b_0_looseYs : Nat) (b_0_looseReaches : Nat) (b_0_far : Nat) (cZ : ClassId) (cI : ClassId) (v_0_code : Int32) (v_0_lines : Int32) (v_0_isFresh : Int32) (v_0_hasRun : Int32) (v_0_runs : Int32) (v_0_nx : Int32) (v_0_ny : Int32) (v_0_spaces : Int32) (v_0_oldNx : Int32) (v_0_oldNy : Int32) (v_0_oldSpaces : Int32) (v_0_points : Int32) (v_0_pieces : Int32) (v_0_rings : Int32) (v_0_outsideSides : Int32) (v_0_looseCount : Int32) (f_0_isFlat : Nat → Int32) (f_0_across : Nat → Int32) (f_0_lows : Nat → Int32) (f_0_highs : Nat → Int32) (f_0_thick : Nat → Int32) (f_0_doorCounts : Nat → Int32) : va_W := [(a_0, .inr (11, [.int v_0_code, .ref a_0_isFlat, .ref a_0_across, .ref a_0_lows, .ref a_0_highs, .ref a_0_thick, .int v_0_lines, .ref a_0_doorCounts, .ref b_0_doorFrom, .ref b_0_doorTo, .int v_0_isFresh, .int v_0_hasRun, .int v_0_runs, .ref b_0_xs, .ref b_0_ys, .int v_0_nx, .int v_0_ny, .ref b_0_labels, .int v_0_spaces, .ref b_0_oldXs, .ref b_0_oldYs, .int v_0_oldNx, .int v_0_oldNy, .ref b_0_oldLabels, .int v_0_oldSpaces, .ref b_0_names, .ref b_0_oldNames, .ref b_0_wanted, .ref b_0_common, .ref b_0_flatEdges, .ref b_0_upEdges, .ref b_0_isPoint, .int v_0_points, .ref b_0_stack, .ref b_0_pieceLines, .ref b_0_pieceBegins, .ref b_0_pieceEnds, .ref b_0_pieceLeft, .ref b_0_pieceRight, .int v_0_pieces, .ref b_0_outs, .ref b_0_isSeen, .ref b_0_ringSpaces, .ref b_0_ringStarts, .ref b_0_ringSizes, .ref b_0_ringLeast, .int v_0_rings, .int v_0_outsideSides, .ref b_0_looseLines, .ref b_0_looseXs, .ref b_0_looseYs, .ref b_0_looseReaches, .int v_0_looseCount, .ref b_0_far])), (a_0_isFlat, .inl (cZ, 20, .inl f_0_isFlat)), (a_0_across, .inl (cI, 20, .inl f_0_across)), (a_0_lows, .inl (cI, 20, .inl f_0_lows)), (a_0_highs, .inl (cI, 20, .inl f_0_highs)), (a_0_thick, .inl (cI, 20, .inl f_0_thick)), (a_0_doorCounts, .inl (cI, 20, .inl f_0_doorCounts))]
def m_Mo_line (p1 : Int32) (p2 : Int32) (p3 : Int32) (p4 : Int32) (p5 : Int32) (v_0_code : Int32) (v_0_lines : Int32) (v_0_isFresh : Int32) (f_0_isFlat : Nat → Int32) (f_0_across : Nat → Int32) (f_0_lows : Nat → Int32) (f_0_highs : Nat → Int32) (f_0_thick : Nat → Int32) (f_0_doorCounts : Nat → Int32) : Option (Int32 × (Int32) × (Int32) × (Int32) × (Nat → Int32) × (Nat → Int32) × (Nat → Int32) × (Nat → Int32) × (Nat → Int32) × (Nat → Int32)) :=
  bd1 (m_Mo_isIn (Int32.toInt64 p1) 0 500) fun r1 =>
  bd1 (
    if r1 = 0 then (
    some 0)
  else (
    bd1 (m_Mo_isIn (Int32.toInt64 p2) 0 500) fun r8 =>
    if r8 = 0 then (
      some 0)
    else (
      bd1 (m_Mo_isIn (Int32.toInt64 p3) 0 500) fun r11 =>
      if r11 = 0 then (
        some 0)
      else (
        bd1 (m_Mo_isIn (Int32.toInt64 p4) 0 500) fun r14 =>
        if r14 = 0 then (
          some 0)
        else (
          bd1 (m_Mo_isIn (Int32.toInt64 p5) 0 60) fun r17 =>
          if r17 = 0 then (
            some 0)
          else (
            if (p5 - p5 / 2 * 2) = 0 then (
              some 1)
            else (
              some 0)))))))
  fun (x6 : Int32) =>
  bd1 (
      if p1 = p3 then (
      some 1)
    else (
      some 0))
    fun (x24 : Int32) =>
    bd1 (
        if p2 = p4 then (
        some 1)
      else (
        some 0))
      fun (x29 : Int32) =>
      bd1 (
          if x24 = x29 then (
          some 0)
        else (
          some 1))
        fun (x34 : Int32) =>
        bd1 (
            if x6 = 0 then (
            some 1)
          else (
            if x34 = 0 then (
              some 1)
            else (
              if v_0_lines = 20 then (
                some 2)
              else (
                some 0))))
          fun (x39 : Int32) =>
          if x39 ≤ 0 then (
              bd1 (
                if p2 = p4 then (
                some 1)
              else (
                some 0))
              fun (x47 : Int32) =>
              bd1 (
                  if x47 = 0 then (
                  some p2)
                else (
                  some p1))
                fun (x52 : Int32) =>
                bd1 (
                    if x47 = 0 then (
                    some p4)
                  else (
                    some p3))
                  fun (x57 : Int32) =>
                  bd1 (
                      if x57 ≤ x52 then (
                      some x57)
                    else (
                      some x52))
                    fun (x62 : Int32) =>
                    bd1 (
                        if x57 ≤ x52 then (
                        some x52)
                      else (
                        some x57))
                      fun (x67 : Int32) =>
                      bd1 (
                          if x47 = 0 then (
                          some p1)
                        else (
                          some p2))
                        fun (x72 : Int32) =>
                        bd1 (m_Mo_lies (-1) x47 x72 x62 x67 v_0_lines f_0_isFlat f_0_across f_0_lows f_0_highs) fun r74 =>
                          if r74 = 0 then (
                            gI v_0_lines 20 <|
                            lt_ (upd f_0_isFlat v_0_lines.toNatClampNeg (vp_nar .boolean x47)) fun f78 =>
                            bd1 (
                              if x47 = 0 then (
                              some p1)
                            else (
                              some p2))
                            fun (x82 : Int32) =>
                            gI v_0_lines 20 <|
                              lt_ (upd f_0_across v_0_lines.toNatClampNeg x82) fun f85 =>
                              gI v_0_lines 20 <|
                              lt_ (upd f_0_lows v_0_lines.toNatClampNeg x62) fun f87 =>
                              gI v_0_lines 20 <|
                              lt_ (upd f_0_highs v_0_lines.toNatClampNeg x67) fun f89 =>
                              gI v_0_lines 20 <|
                              lt_ (upd f_0_thick v_0_lines.toNatClampNeg p5) fun f91 =>
                              gI v_0_lines 20 <|
                              lt_ (upd f_0_doorCounts v_0_lines.toNatClampNeg 0) fun f93 =>
                              lt_ (v_0_lines + 1) fun x94 =>
                              some (x94 - 1, x39, x94, 0, f78, f85, f87, f89, f91, f93))
                          else (
                            some ((-1), x39, v_0_lines, v_0_isFresh, f_0_isFlat, f_0_across, f_0_lows, f_0_highs, f_0_thick, f_0_doorCounts)))
            else (
              some (0, x39, v_0_lines, v_0_isFresh, f_0_isFlat, f_0_across, f_0_lows, f_0_highs, f_0_thick, f_0_doorCounts))

set_option maxHeartbeats 4000000 in
set_option maxRecDepth 100000 in
theorem t_Mo_line {p : Program} {l : Launch} {e : Env} {s : State} {m : MethodId} {args : Array Value} {below : List Frame} {meth : Method} {c : Code} {A : Nat → Prop} {Q : State → Prop} {dC : Nat → ClassId} {dI : Nat → Nat → Nat} {cI cZ cJ : ClassId} (a_0 a_0_isFlat a_0_across a_0_lows a_0_highs a_0_thick a_0_doorCounts b_0_doorFrom b_0_doorTo b_0_xs b_0_ys b_0_labels b_0_oldXs b_0_oldYs b_0_oldLabels b_0_names b_0_oldNames b_0_wanted b_0_common b_0_flatEdges b_0_upEdges b_0_isPoint b_0_stack b_0_pieceLines b_0_pieceBegins b_0_pieceEnds b_0_pieceLeft b_0_pieceRight b_0_outs b_0_isSeen b_0_ringSpaces b_0_ringStarts b_0_ringSizes b_0_ringLeast b_0_looseLines b_0_looseXs b_0_looseYs b_0_looseReaches b_0_far : Nat) (v_0_code : Int32) (v_0_lines : Int32) (v_0_isFresh : Int32) (v_0_hasRun : Int32) (v_0_runs : Int32) (v_0_nx : Int32) (v_0_ny : Int32) (v_0_spaces : Int32) (v_0_oldNx : Int32) (v_0_oldNy : Int32) (v_0_oldSpaces : Int32) (v_0_points : Int32) (v_0_pieces : Int32) (v_0_rings : Int32) (v_0_outsideSides : Int32) (v_0_looseCount : Int32) (f_0_isFlat : Nat → Int32) (f_0_across : Nat → Int32) (f_0_lows : Nat → Int32) (f_0_highs : Nat → Int32) (f_0_thick : Nat → Int32) (f_0_doorCounts : Nat → Int32) (p1 : Int32) (p2 : Int32) (p3 : Int32) (p4 : Int32) (p5 : Int32) (R0 : Int32) (ov_0_code : Int32) (ov_0_lines : Int32) (ov_0_isFresh : Int32) (of_0_isFlat : Nat → Int32) (of_0_across : Nat → Int32) (of_0_lows : Nat → Int32) (of_0_highs : Nat → Int32) (of_0_thick : Nat → Int32) (of_0_doorCounts : Nat → Int32) (hx : p.tables.exec = Jvm.exec) (hb : c.code = b_Mo_line) (hml : c.maxLocals = 13) (hown : s.vm.findClass "SpaceCyclesModel" = some m.cls) (hts : ∀ w ∈ w_Mo_line, w.before args s = true) (hK : va_K (dC, dI) vwCl [(cI, .int), (cZ, .boolean), (cJ, .long)] s) (hN : NX s) (hA : ∀ q : Nat, s.heap.size ≤ q → A q)
    (hret : ∀ (pc : Nat) (H : Heap) (locs : List Loc) (ls : Array Slot), decode b_Mo_line pc = .ok (.ireturn, 1) → va_P (dC, dI) vwCl (wl_Mo_line a_0 a_0_isFlat a_0_across a_0_lows a_0_highs a_0_thick a_0_doorCounts b_0_doorFrom b_0_doorTo b_0_xs b_0_ys b_0_labels b_0_oldXs b_0_oldYs b_0_oldLabels b_0_names b_0_oldNames b_0_wanted b_0_common b_0_flatEdges b_0_upEdges b_0_isPoint b_0_stack b_0_pieceLines b_0_pieceBegins b_0_pieceEnds b_0_pieceLeft b_0_pieceRight b_0_outs b_0_isSeen b_0_ringSpaces b_0_ringStarts b_0_ringSizes b_0_ringLeast b_0_looseLines b_0_looseXs b_0_looseYs b_0_looseReaches b_0_far cZ cI ov_0_code ov_0_lines ov_0_isFresh v_0_hasRun v_0_runs v_0_nx v_0_ny v_0_spaces v_0_oldNx v_0_oldNy v_0_oldSpaces v_0_points v_0_pieces v_0_rings v_0_outsideSides v_0_looseCount of_0_isFlat of_0_across of_0_lows of_0_highs of_0_thick of_0_doorCounts) H → va_D A (wl_Mo_line a_0 a_0_isFlat a_0_across a_0_lows a_0_highs a_0_thick a_0_doorCounts b_0_doorFrom b_0_doorTo b_0_xs b_0_ys b_0_labels b_0_oldXs b_0_oldYs b_0_oldLabels b_0_names b_0_oldNames b_0_wanted b_0_common b_0_flatEdges b_0_upEdges b_0_isPoint b_0_stack b_0_pieceLines b_0_pieceBegins b_0_pieceEnds b_0_pieceLeft b_0_pieceRight b_0_outs b_0_isSeen b_0_ringSpaces b_0_ringStarts b_0_ringSizes b_0_ringLeast b_0_looseLines b_0_looseXs b_0_looseYs b_0_looseReaches b_0_far cZ cI ov_0_code ov_0_lines ov_0_isFresh v_0_hasRun v_0_runs v_0_nx v_0_ny v_0_spaces v_0_oldNx v_0_oldNy v_0_oldSpaces v_0_points v_0_pieces v_0_rings v_0_outsideSides v_0_looseCount of_0_isFlat of_0_across of_0_lows of_0_highs of_0_thick of_0_doorCounts) → va_S A s.heap H locs → W p l e rm_Mo_line s m args below meth c H locs 0 0 Q (F0 m pc ls [.int R0]))
    (hm : m_Mo_line p1 p2 p3 p4 p5 v_0_code v_0_lines v_0_isFresh f_0_isFlat f_0_across f_0_lows f_0_highs f_0_thick f_0_doorCounts = some (R0, ov_0_code, ov_0_lines, ov_0_isFresh, of_0_isFlat, of_0_across, of_0_lows, of_0_highs, of_0_thick, of_0_doorCounts)) : ∀ (H : Heap) (locs : List Loc) (ls : Array Slot), va_P (dC, dI) vwCl (wl_Mo_line a_0 a_0_isFlat a_0_across a_0_lows a_0_highs a_0_thick a_0_doorCounts b_0_doorFrom b_0_doorTo b_0_xs b_0_ys b_0_labels b_0_oldXs b_0_oldYs b_0_oldLabels b_0_names b_0_oldNames b_0_wanted b_0_common b_0_flatEdges b_0_upEdges b_0_isPoint b_0_stack b_0_pieceLines b_0_pieceBegins b_0_pieceEnds b_0_pieceLeft b_0_pieceRight b_0_outs b_0_isSeen b_0_ringSpaces b_0_ringStarts b_0_ringSizes b_0_ringLeast b_0_looseLines b_0_looseXs b_0_looseYs b_0_looseReaches b_0_far cZ cI v_0_code v_0_lines v_0_isFresh v_0_hasRun v_0_runs v_0_nx v_0_ny v_0_spaces v_0_oldNx v_0_oldNy v_0_oldSpaces v_0_points v_0_pieces v_0_rings v_0_outsideSides v_0_looseCount f_0_isFlat f_0_across f_0_lows f_0_highs f_0_thick f_0_doorCounts) H → va_D A (wl_Mo_line a_0 a_0_isFlat a_0_across a_0_lows a_0_highs a_0_thick a_0_doorCounts b_0_doorFrom b_0_doorTo b_0_xs b_0_ys b_0_labels b_0_oldXs b_0_oldYs b_0_oldLabels b_0_names b_0_oldNames b_0_wanted b_0_common b_0_flatEdges b_0_upEdges b_0_isPoint b_0_stack b_0_pieceLines b_0_pieceBegins b_0_pieceEnds b_0_pieceLeft b_0_pieceRight b_0_outs b_0_isSeen b_0_ringSpaces b_0_ringStarts b_0_ringSizes b_0_ringLeast b_0_looseLines b_0_looseXs b_0_looseYs b_0_looseReaches b_0_far cZ cI v_0_code v_0_lines v_0_isFresh v_0_hasRun v_0_runs v_0_nx v_0_ny v_0_spaces v_0_oldNx v_0_oldNy v_0_oldSpaces v_0_points v_0_pieces v_0_rings v_0_outsideSides v_0_looseCount f_0_isFlat f_0_across f_0_lows f_0_highs f_0_thick f_0_doorCounts) → va_S A s.heap H locs → lv_has ls 13 [(0, .ref a_0), (1, .int p1), (2, .int p2), (3, .int p3), (4, .int p4), (5, .int p5)] → W p l e rm_Mo_line s m args below meth c H locs 0 0 Q (F0 m 0 ls []) := by
  intro H locs ls hP hD hS hl
  unfold m_Mo_line at hm
  refine lv_iload_n hx hb d_Mo_line_0 rfl (lv_at hl 1 rfl) ?_
  refine lv_i2l hx hb d_Mo_line_1 rfl ?_
  refine lv_lconst (v := 0) hx hb d_Mo_line_2 (by decide) ?_
  refine lv_ldc2 (v := 500) hx hb hown (hts (.constantLong "SpaceCyclesModel" 137 500) (by decide +kernel)) d_Mo_line_3 ?_
  obtain ⟨r1, hb2, hm⟩ := bd1_e hm
  have hPc := hP.sub (ws' := (wl_Mo_isIn)) [] rfl
  have hDc := hD.sub (ws' := (wl_Mo_isIn)) [] (by decide) rfl
  refine cl_i (wc' := (wl_Mo_isIn)) (va_runS (As := [.long (Int32.toInt64 p1), .long 0, .long 500]) (rest := []) ⟨hx, hb, hml, hown, hts⟩ (c_Mo_isIn l dC dI (cI := cI) (cZ := cZ) (cJ := cJ) H.size (Int32.toInt64 p1) 0 500 r1 hb2) (va_cwS 3 hts (gl_S k_278 k_276 k_277 k_275) rfl rfl rfl (by decide +kernel) ⟨Nat.le_of_ble_eq_true rfl, Nat.le_of_ble_eq_true rfl⟩) ⟨PP_blind, fun U hU hW => PP_at hK hN hPc hDc hU hW⟩ rfl rfl hl.1 rfl (lv_room (Nat.le_of_ble_eq_true rfl)) d_Mo_line_6 ⟨Nat.zero_le _, Nat.zero_le _⟩) hP hD hS hA [] [0, 1, 2, 3, 4, 5, 6] rfl rfl (by decide) (by decide) (fun H locs hP hD hS => ?_)
  have hP : va_P (dC, dI) vwCl (wl_Mo_line a_0 a_0_isFlat a_0_across a_0_lows a_0_highs a_0_thick a_0_doorCounts b_0_doorFrom b_0_doorTo b_0_xs b_0_ys b_0_labels b_0_oldXs b_0_oldYs b_0_oldLabels b_0_names b_0_oldNames b_0_wanted b_0_common b_0_flatEdges b_0_upEdges b_0_isPoint b_0_stack b_0_pieceLines b_0_pieceBegins b_0_pieceEnds b_0_pieceLeft b_0_pieceRight b_0_outs b_0_isSeen b_0_ringSpaces b_0_ringStarts b_0_ringSizes b_0_ringLeast b_0_looseLines b_0_looseXs b_0_looseYs b_0_looseReaches b_0_far cZ cI v_0_code v_0_lines v_0_isFresh v_0_hasRun v_0_runs v_0_nx v_0_ny v_0_spaces v_0_oldNx v_0_oldNy v_0_oldSpaces v_0_points v_0_pieces v_0_rings v_0_outsideSides v_0_looseCount f_0_isFlat f_0_across f_0_lows f_0_highs f_0_thick f_0_doorCounts) H := hP.sub [0, 1, 2, 3, 4, 5, 6] rfl
  have hD : va_D A (wl_Mo_line a_0 a_0_isFlat a_0_across a_0_lows a_0_highs a_0_thick a_0_doorCounts b_0_doorFrom b_0_doorTo b_0_xs b_0_ys b_0_labels b_0_oldXs b_0_oldYs b_0_oldLabels b_0_names b_0_oldNames b_0_wanted b_0_common b_0_flatEdges b_0_upEdges b_0_isPoint b_0_stack b_0_pieceLines b_0_pieceBegins b_0_pieceEnds b_0_pieceLeft b_0_pieceRight b_0_outs b_0_isSeen b_0_ringSpaces b_0_ringStarts b_0_ringSizes b_0_ringLeast b_0_looseLines b_0_looseXs b_0_looseYs b_0_looseReaches b_0_far cZ cI v_0_code v_0_lines v_0_isFresh v_0_hasRun v_0_runs v_0_nx v_0_ny v_0_spaces v_0_oldNx v_0_oldNy v_0_oldSpaces v_0_points v_0_pieces v_0_rings v_0_outsideSides v_0_looseCount f_0_isFlat f_0_across f_0_lows f_0_highs f_0_thick f_0_doorCounts) := hD.sub [0, 1, 2, 3, 4, 5, 6] (by decide) rfl
  obtain ⟨x6, hb4, hm⟩ := bd1_e hm
  have K3 : ∀ (H : Heap) (locs : List Loc) (ls : Array Slot), va_P (dC, dI) vwCl (wl_Mo_line a_0 a_0_isFlat a_0_across a_0_lows a_0_highs a_0_thick a_0_doorCounts b_0_doorFrom b_0_doorTo b_0_xs b_0_ys b_0_labels b_0_oldXs b_0_oldYs b_0_oldLabels b_0_names b_0_oldNames b_0_wanted b_0_common b_0_flatEdges b_0_upEdges b_0_isPoint b_0_stack b_0_pieceLines b_0_pieceBegins b_0_pieceEnds b_0_pieceLeft b_0_pieceRight b_0_outs b_0_isSeen b_0_ringSpaces b_0_ringStarts b_0_ringSizes b_0_ringLeast b_0_looseLines b_0_looseXs b_0_looseYs b_0_looseReaches b_0_far cZ cI v_0_code v_0_lines v_0_isFresh v_0_hasRun v_0_runs v_0_nx v_0_ny v_0_spaces v_0_oldNx v_0_oldNy v_0_oldSpaces v_0_points v_0_pieces v_0_rings v_0_outsideSides v_0_looseCount f_0_isFlat f_0_across f_0_lows f_0_highs f_0_thick f_0_doorCounts) H → va_D A (wl_Mo_line a_0 a_0_isFlat a_0_across a_0_lows a_0_highs a_0_thick a_0_doorCounts b_0_doorFrom b_0_doorTo b_0_xs b_0_ys b_0_labels b_0_oldXs b_0_oldYs b_0_oldLabels b_0_names b_0_oldNames b_0_wanted b_0_common b_0_flatEdges b_0_upEdges b_0_isPoint b_0_stack b_0_pieceLines b_0_pieceBegins b_0_pieceEnds b_0_pieceLeft b_0_pieceRight b_0_outs b_0_isSeen b_0_ringSpaces b_0_ringStarts b_0_ringSizes b_0_ringLeast b_0_looseLines b_0_looseXs b_0_looseYs b_0_looseReaches b_0_far cZ cI v_0_code v_0_lines v_0_isFresh v_0_hasRun v_0_runs v_0_nx v_0_ny v_0_spaces v_0_oldNx v_0_oldNy v_0_oldSpaces v_0_points v_0_pieces v_0_rings v_0_outsideSides v_0_looseCount f_0_isFlat f_0_across f_0_lows f_0_highs f_0_thick f_0_doorCounts) → va_S A s.heap H locs → lv_has ls 13 [(0, .ref a_0), (1, .int p1), (2, .int p2), (3, .int p3), (4, .int p4), (5, .int p5)] → W p l e rm_Mo_line s m args below meth c H locs 0 0 Q (F0 m 74 ls [.int x6]) := by
    intro H locs ls hP hD hS hl
    refine lv_istore (lv' := [(6, .int x6), (0, .ref a_0), (1, .int p1), (2, .int p2), (3, .int p3), (4, .int p4), (5, .int p5)]) hx hb d_Mo_line_74 hl (by decide) rfl (fun ls hl => ?_)
    refine lv_iload_n hx hb d_Mo_line_76 rfl (lv_at hl 2 rfl) ?_
    refine lv_iload_n hx hb d_Mo_line_77 rfl (lv_at hl 4 rfl) ?_
    obtain ⟨x24, hb22, hm⟩ := bd1_e hm
    have K21 : ∀ (H : Heap) (locs : List Loc) (ls : Array Slot), va_P (dC, dI) vwCl (wl_Mo_line a_0 a_0_isFlat a_0_across a_0_lows a_0_highs a_0_thick a_0_doorCounts b_0_doorFrom b_0_doorTo b_0_xs b_0_ys b_0_labels b_0_oldXs b_0_oldYs b_0_oldLabels b_0_names b_0_oldNames b_0_wanted b_0_common b_0_flatEdges b_0_upEdges b_0_isPoint b_0_stack b_0_pieceLines b_0_pieceBegins b_0_pieceEnds b_0_pieceLeft b_0_pieceRight b_0_outs b_0_isSeen b_0_ringSpaces b_0_ringStarts b_0_ringSizes b_0_ringLeast b_0_looseLines b_0_looseXs b_0_looseYs b_0_looseReaches b_0_far cZ cI v_0_code v_0_lines v_0_isFresh v_0_hasRun v_0_runs v_0_nx v_0_ny v_0_spaces v_0_oldNx v_0_oldNy v_0_oldSpaces v_0_points v_0_pieces v_0_rings v_0_outsideSides v_0_looseCount f_0_isFlat f_0_across f_0_lows f_0_highs f_0_thick f_0_doorCounts) H → va_D A (wl_Mo_line a_0 a_0_isFlat a_0_across a_0_lows a_0_highs a_0_thick a_0_doorCounts b_0_doorFrom b_0_doorTo b_0_xs b_0_ys b_0_labels b_0_oldXs b_0_oldYs b_0_oldLabels b_0_names b_0_oldNames b_0_wanted b_0_common b_0_flatEdges b_0_upEdges b_0_isPoint b_0_stack b_0_pieceLines b_0_pieceBegins b_0_pieceEnds b_0_pieceLeft b_0_pieceRight b_0_outs b_0_isSeen b_0_ringSpaces b_0_ringStarts b_0_ringSizes b_0_ringLeast b_0_looseLines b_0_looseXs b_0_looseYs b_0_looseReaches b_0_far cZ cI v_0_code v_0_lines v_0_isFresh v_0_hasRun v_0_runs v_0_nx v_0_ny v_0_spaces v_0_oldNx v_0_oldNy v_0_oldSpaces v_0_points v_0_pieces v_0_rings v_0_outsideSides v_0_looseCount f_0_isFlat f_0_across f_0_lows f_0_highs f_0_thick f_0_doorCounts) → va_S A s.heap H locs → lv_has ls 13 [(0, .ref a_0), (1, .int p1), (2, .int p2), (3, .int p3), (4, .int p4), (5, .int p5), (6, .int x6)] → W p l e rm_Mo_line s m args below meth c H locs 0 0 Q (F0 m 86 ls [.int x24]) := by
      intro H locs ls hP hD hS hl
      refine lv_iload_n hx hb d_Mo_line_86 rfl (lv_at hl 2 rfl) ?_
      refine lv_iload hx hb d_Mo_line_87 (lv_at hl 4 rfl) ?_
      obtain ⟨x29, hb27, hm⟩ := bd1_e hm
      have K26 : ∀ (H : Heap) (locs : List Loc) (ls : Array Slot), va_P (dC, dI) vwCl (wl_Mo_line a_0 a_0_isFlat a_0_across a_0_lows a_0_highs a_0_thick a_0_doorCounts b_0_doorFrom b_0_doorTo b_0_xs b_0_ys b_0_labels b_0_oldXs b_0_oldYs b_0_oldLabels b_0_names b_0_oldNames b_0_wanted b_0_common b_0_flatEdges b_0_upEdges b_0_isPoint b_0_stack b_0_pieceLines b_0_pieceBegins b_0_pieceEnds b_0_pieceLeft b_0_pieceRight b_0_outs b_0_isSeen b_0_ringSpaces b_0_ringStarts b_0_ringSizes b_0_ringLeast b_0_looseLines b_0_looseXs b_0_looseYs b_0_looseReaches b_0_far cZ cI v_0_code v_0_lines v_0_isFresh v_0_hasRun v_0_runs v_0_nx v_0_ny v_0_spaces v_0_oldNx v_0_oldNy v_0_oldSpaces v_0_points v_0_pieces v_0_rings v_0_outsideSides v_0_looseCount f_0_isFlat f_0_across f_0_lows f_0_highs f_0_thick f_0_doorCounts) H → va_D A (wl_Mo_line a_0 a_0_isFlat a_0_across a_0_lows a_0_highs a_0_thick a_0_doorCounts b_0_doorFrom b_0_doorTo b_0_xs b_0_ys b_0_labels b_0_oldXs b_0_oldYs b_0_oldLabels b_0_names b_0_oldNames b_0_wanted b_0_common b_0_flatEdges b_0_upEdges b_0_isPoint b_0_stack b_0_pieceLines b_0_pieceBegins b_0_pieceEnds b_0_pieceLeft b_0_pieceRight b_0_outs b_0_isSeen b_0_ringSpaces b_0_ringStarts b_0_ringSizes b_0_ringLeast b_0_looseLines b_0_looseXs b_0_looseYs b_0_looseReaches b_0_far cZ cI v_0_code v_0_lines v_0_isFresh v_0_hasRun v_0_runs v_0_nx v_0_ny v_0_spaces v_0_oldNx v_0_oldNy v_0_oldSpaces v_0_points v_0_pieces v_0_rings v_0_outsideSides v_0_looseCount f_0_isFlat f_0_across f_0_lows f_0_highs f_0_thick f_0_doorCounts) → va_S A s.heap H locs → lv_has ls 13 [(0, .ref a_0), (1, .int p1), (2, .int p2), (3, .int p3), (4, .int p4), (5, .int p5), (6, .int x6)] → W p l e rm_Mo_line s m args below meth c H locs 0 0 Q (F0 m 97 ls [.int x29, .int x24]) := by
        intro H locs ls hP hD hS hl
        obtain ⟨x34, hb32, hm⟩ := bd1_e hm
        have K31 : ∀ (H : Heap) (locs : List Loc) (ls : Array Slot), va_P (dC, dI) vwCl (wl_Mo_line a_0 a_0_isFlat a_0_across a_0_lows a_0_highs a_0_thick a_0_doorCounts b_0_doorFrom b_0_doorTo b_0_xs b_0_ys b_0_labels b_0_oldXs b_0_oldYs b_0_oldLabels b_0_names b_0_oldNames b_0_wanted b_0_common b_0_flatEdges b_0_upEdges b_0_isPoint b_0_stack b_0_pieceLines b_0_pieceBegins b_0_pieceEnds b_0_pieceLeft b_0_pieceRight b_0_outs b_0_isSeen b_0_ringSpaces b_0_ringStarts b_0_ringSizes b_0_ringLeast b_0_looseLines b_0_looseXs b_0_looseYs b_0_looseReaches b_0_far cZ cI v_0_code v_0_lines v_0_isFresh v_0_hasRun v_0_runs v_0_nx v_0_ny v_0_spaces v_0_oldNx v_0_oldNy v_0_oldSpaces v_0_points v_0_pieces v_0_rings v_0_outsideSides v_0_looseCount f_0_isFlat f_0_across f_0_lows f_0_highs f_0_thick f_0_doorCounts) H → va_D A (wl_Mo_line a_0 a_0_isFlat a_0_across a_0_lows a_0_highs a_0_thick a_0_doorCounts b_0_doorFrom b_0_doorTo b_0_xs b_0_ys b_0_labels b_0_oldXs b_0_oldYs b_0_oldLabels b_0_names b_0_oldNames b_0_wanted b_0_common b_0_flatEdges b_0_upEdges b_0_isPoint b_0_stack b_0_pieceLines b_0_pieceBegins b_0_pieceEnds b_0_pieceLeft b_0_pieceRight b_0_outs b_0_isSeen b_0_ringSpaces b_0_ringStarts b_0_ringSizes b_0_ringLeast b_0_looseLines b_0_looseXs b_0_looseYs b_0_looseReaches b_0_far cZ cI v_0_code v_0_lines v_0_isFresh v_0_hasRun v_0_runs v_0_nx v_0_ny v_0_spaces v_0_oldNx v_0_oldNy v_0_oldSpaces v_0_points v_0_pieces v_0_rings v_0_outsideSides v_0_looseCount f_0_isFlat f_0_across f_0_lows f_0_highs f_0_thick f_0_doorCounts) → va_S A s.heap H locs → lv_has ls 13 [(0, .ref a_0), (1, .int p1), (2, .int p2), (3, .int p3), (4, .int p4), (5, .int p5), (6, .int x6)] → W p l e rm_Mo_line s m args below meth c H locs 0 0 Q (F0 m 105 ls [.int x34]) := by
          intro H locs ls hP hD hS hl
          refine lv_istore (lv' := [(7, .int x34), (0, .ref a_0), (1, .int p1), (2, .int p2), (3, .int p3), (4, .int p4), (5, .int p5), (6, .int x6)]) hx hb d_Mo_line_105 hl (by decide) rfl (fun ls hl => ?_)
          refine lv_aload_n hx hb d_Mo_line_107 rfl (lv_at hl 1 rfl) ?_
          refine lv_iload hx hb d_Mo_line_108 (lv_at hl 7 rfl) ?_
          obtain ⟨x39, hb37, hm⟩ := bd1_e hm
          have K36 : ∀ (H : Heap) (locs : List Loc) (ls : Array Slot), va_P (dC, dI) vwCl (wl_Mo_line a_0 a_0_isFlat a_0_across a_0_lows a_0_highs a_0_thick a_0_doorCounts b_0_doorFrom b_0_doorTo b_0_xs b_0_ys b_0_labels b_0_oldXs b_0_oldYs b_0_oldLabels b_0_names b_0_oldNames b_0_wanted b_0_common b_0_flatEdges b_0_upEdges b_0_isPoint b_0_stack b_0_pieceLines b_0_pieceBegins b_0_pieceEnds b_0_pieceLeft b_0_pieceRight b_0_outs b_0_isSeen b_0_ringSpaces b_0_ringStarts b_0_ringSizes b_0_ringLeast b_0_looseLines b_0_looseXs b_0_looseYs b_0_looseReaches b_0_far cZ cI v_0_code v_0_lines v_0_isFresh v_0_hasRun v_0_runs v_0_nx v_0_ny v_0_spaces v_0_oldNx v_0_oldNy v_0_oldSpaces v_0_points v_0_pieces v_0_rings v_0_outsideSides v_0_looseCount f_0_isFlat f_0_across f_0_lows f_0_highs f_0_thick f_0_doorCounts) H → va_D A (wl_Mo_line a_0 a_0_isFlat a_0_across a_0_lows a_0_highs a_0_thick a_0_doorCounts b_0_doorFrom b_0_doorTo b_0_xs b_0_ys b_0_labels b_0_oldXs b_0_oldYs b_0_oldLabels b_0_names b_0_oldNames b_0_wanted b_0_common b_0_flatEdges b_0_upEdges b_0_isPoint b_0_stack b_0_pieceLines b_0_pieceBegins b_0_pieceEnds b_0_pieceLeft b_0_pieceRight b_0_outs b_0_isSeen b_0_ringSpaces b_0_ringStarts b_0_ringSizes b_0_ringLeast b_0_looseLines b_0_looseXs b_0_looseYs b_0_looseReaches b_0_far cZ cI v_0_code v_0_lines v_0_isFresh v_0_hasRun v_0_runs v_0_nx v_0_ny v_0_spaces v_0_oldNx v_0_oldNy v_0_oldSpaces v_0_points v_0_pieces v_0_rings v_0_outsideSides v_0_looseCount f_0_isFlat f_0_across f_0_lows f_0_highs f_0_thick f_0_doorCounts) → va_S A s.heap H locs → lv_has ls 13 [(0, .ref a_0), (1, .int p1), (2, .int p2), (3, .int p3), (4, .int p4), (5, .int p5)] → W p l e rm_Mo_line s m args below meth c H locs 0 0 Q (F0 m 136 ls [.int x39, .ref a_0]) := by
            intro H locs ls hP hD hS hl
            refine va_put (D := (dC, dI)) (ci := 11) (v := .int x39) (ty := .int) (C := "SpaceCyclesModel") (T := F_Mo) (N := 54) hx hb hts (in_F i_Mo) t_Mo t_Mo_ok n_Mo hown hK hP hD hS 0 rfl rfl 0 (by decide) (hts _ (in_c k_273)) (fun _ h9 => h9) rfl (by decide +kernel) rfl rfl (Nat.le_of_ble_eq_true rfl) d_Mo_line_136 (fun H locs hP hD hS => ?_)
            have hP : va_P (dC, dI) vwCl (wl_Mo_line a_0 a_0_isFlat a_0_across a_0_lows a_0_highs a_0_thick a_0_doorCounts b_0_doorFrom b_0_doorTo b_0_xs b_0_ys b_0_labels b_0_oldXs b_0_oldYs b_0_oldLabels b_0_names b_0_oldNames b_0_wanted b_0_common b_0_flatEdges b_0_upEdges b_0_isPoint b_0_stack b_0_pieceLines b_0_pieceBegins b_0_pieceEnds b_0_pieceLeft b_0_pieceRight b_0_outs b_0_isSeen b_0_ringSpaces b_0_ringStarts b_0_ringSizes b_0_ringLeast b_0_looseLines b_0_looseXs b_0_looseYs b_0_looseReaches b_0_far cZ cI x39 v_0_lines v_0_isFresh v_0_hasRun v_0_runs v_0_nx v_0_ny v_0_spaces v_0_oldNx v_0_oldNy v_0_oldSpaces v_0_points v_0_pieces v_0_rings v_0_outsideSides v_0_looseCount f_0_isFlat f_0_across f_0_lows f_0_highs f_0_thick f_0_doorCounts) H := hP
            have hD : va_D A (wl_Mo_line a_0 a_0_isFlat a_0_across a_0_lows a_0_highs a_0_thick a_0_doorCounts b_0_doorFrom b_0_doorTo b_0_xs b_0_ys b_0_labels b_0_oldXs b_0_oldYs b_0_oldLabels b_0_names b_0_oldNames b_0_wanted b_0_common b_0_flatEdges b_0_upEdges b_0_isPoint b_0_stack b_0_pieceLines b_0_pieceBegins b_0_pieceEnds b_0_pieceLeft b_0_pieceRight b_0_outs b_0_isSeen b_0_ringSpaces b_0_ringStarts b_0_ringSizes b_0_ringLeast b_0_looseLines b_0_looseXs b_0_looseYs b_0_looseReaches b_0_far cZ cI x39 v_0_lines v_0_isFresh v_0_hasRun v_0_runs v_0_nx v_0_ny v_0_spaces v_0_oldNx v_0_oldNy v_0_oldSpaces v_0_points v_0_pieces v_0_rings v_0_outsideSides v_0_looseCount f_0_isFlat f_0_across f_0_lows f_0_highs f_0_thick f_0_doorCounts) := hD
            refine lv_aload_n hx hb d_Mo_line_139 rfl (lv_at hl 0 rfl) ?_
            refine va_get (D := (dC, dI)) (ci := 11) (v := .int x39) (C := "SpaceCyclesModel") (T := F_Mo) (N := 54) hx hb hts (in_F i_Mo) hown hK hP 0 rfl rfl 0 (by decide) (hts _ (in_c k_273)) (fun _ h9 => h9) rfl d_Mo_line_140 ?_
            refine lv_if_le (tgt := 148) hx hb d_Mo_line_143 (by decide) (fun c43 => ?_) (fun c43 => ?_)
            · replace hm := if_t hm c43
              refine lv_iload_n hx hb d_Mo_line_148 rfl (lv_at hl 2 rfl) ?_
              refine lv_iload hx hb d_Mo_line_149 (lv_at hl 4 rfl) ?_
              obtain ⟨x47, hb45, hm⟩ := bd1_e hm
              have K44 : ∀ (H : Heap) (locs : List Loc) (ls : Array Slot), va_P (dC, dI) vwCl (wl_Mo_line a_0 a_0_isFlat a_0_across a_0_lows a_0_highs a_0_thick a_0_doorCounts b_0_doorFrom b_0_doorTo b_0_xs b_0_ys b_0_labels b_0_oldXs b_0_oldYs b_0_oldLabels b_0_names b_0_oldNames b_0_wanted b_0_common b_0_flatEdges b_0_upEdges b_0_isPoint b_0_stack b_0_pieceLines b_0_pieceBegins b_0_pieceEnds b_0_pieceLeft b_0_pieceRight b_0_outs b_0_isSeen b_0_ringSpaces b_0_ringStarts b_0_ringSizes b_0_ringLeast b_0_looseLines b_0_looseXs b_0_looseYs b_0_looseReaches b_0_far cZ cI x39 v_0_lines v_0_isFresh v_0_hasRun v_0_runs v_0_nx v_0_ny v_0_spaces v_0_oldNx v_0_oldNy v_0_oldSpaces v_0_points v_0_pieces v_0_rings v_0_outsideSides v_0_looseCount f_0_isFlat f_0_across f_0_lows f_0_highs f_0_thick f_0_doorCounts) H → va_D A (wl_Mo_line a_0 a_0_isFlat a_0_across a_0_lows a_0_highs a_0_thick a_0_doorCounts b_0_doorFrom b_0_doorTo b_0_xs b_0_ys b_0_labels b_0_oldXs b_0_oldYs b_0_oldLabels b_0_names b_0_oldNames b_0_wanted b_0_common b_0_flatEdges b_0_upEdges b_0_isPoint b_0_stack b_0_pieceLines b_0_pieceBegins b_0_pieceEnds b_0_pieceLeft b_0_pieceRight b_0_outs b_0_isSeen b_0_ringSpaces b_0_ringStarts b_0_ringSizes b_0_ringLeast b_0_looseLines b_0_looseXs b_0_looseYs b_0_looseReaches b_0_far cZ cI x39 v_0_lines v_0_isFresh v_0_hasRun v_0_runs v_0_nx v_0_ny v_0_spaces v_0_oldNx v_0_oldNy v_0_oldSpaces v_0_points v_0_pieces v_0_rings v_0_outsideSides v_0_looseCount f_0_isFlat f_0_across f_0_lows f_0_highs f_0_thick f_0_doorCounts) → va_S A s.heap H locs → lv_has ls 13 [(0, .ref a_0), (1, .int p1), (2, .int p2), (3, .int p3), (4, .int p4), (5, .int p5)] → W p l e rm_Mo_line s m args below meth c H locs 0 0 Q (F0 m 159 ls [.int x47]) := by
                intro H locs ls hP hD hS hl
                refine lv_istore (lv' := [(8, .int x47), (0, .ref a_0), (1, .int p1), (2, .int p2), (3, .int p3), (4, .int p4), (5, .int p5)]) hx hb d_Mo_line_159 hl (by decide) rfl (fun ls hl => ?_)
                refine lv_iload hx hb d_Mo_line_161 (lv_at hl 0 rfl) ?_
                obtain ⟨x52, hb50, hm⟩ := bd1_e hm
                have K49 : ∀ (H : Heap) (locs : List Loc) (ls : Array Slot), va_P (dC, dI) vwCl (wl_Mo_line a_0 a_0_isFlat a_0_across a_0_lows a_0_highs a_0_thick a_0_doorCounts b_0_doorFrom b_0_doorTo b_0_xs b_0_ys b_0_labels b_0_oldXs b_0_oldYs b_0_oldLabels b_0_names b_0_oldNames b_0_wanted b_0_common b_0_flatEdges b_0_upEdges b_0_isPoint b_0_stack b_0_pieceLines b_0_pieceBegins b_0_pieceEnds b_0_pieceLeft b_0_pieceRight b_0_outs b_0_isSeen b_0_ringSpaces b_0_ringStarts b_0_ringSizes b_0_ringLeast b_0_looseLines b_0_looseXs b_0_looseYs b_0_looseReaches b_0_far cZ cI x39 v_0_lines v_0_isFresh v_0_hasRun v_0_runs v_0_nx v_0_ny v_0_spaces v_0_oldNx v_0_oldNy v_0_oldSpaces v_0_points v_0_pieces v_0_rings v_0_outsideSides v_0_looseCount f_0_isFlat f_0_across f_0_lows f_0_highs f_0_thick f_0_doorCounts) H → va_D A (wl_Mo_line a_0 a_0_isFlat a_0_across a_0_lows a_0_highs a_0_thick a_0_doorCounts b_0_doorFrom b_0_doorTo b_0_xs b_0_ys b_0_labels b_0_oldXs b_0_oldYs b_0_oldLabels b_0_names b_0_oldNames b_0_wanted b_0_common b_0_flatEdges b_0_upEdges b_0_isPoint b_0_stack b_0_pieceLines b_0_pieceBegins b_0_pieceEnds b_0_pieceLeft b_0_pieceRight b_0_outs b_0_isSeen b_0_ringSpaces b_0_ringStarts b_0_ringSizes b_0_ringLeast b_0_looseLines b_0_looseXs b_0_looseYs b_0_looseReaches b_0_far cZ cI x39 v_0_lines v_0_isFresh v_0_hasRun v_0_runs v_0_nx v_0_ny v_0_spaces v_0_oldNx v_0_oldNy v_0_oldSpaces v_0_points v_0_pieces v_0_rings v_0_outsideSides v_0_looseCount f_0_isFlat f_0_across f_0_lows f_0_highs f_0_thick f_0_doorCounts) → va_S A s.heap H locs → lv_has ls 13 [(0, .ref a_0), (1, .int p1), (2, .int p2), (3, .int p3), (4, .int p4), (5, .int p5), (8, .int x47)] → W p l e rm_Mo_line s m args below meth c H locs 0 0 Q (F0 m 171 ls [.int x52]) := by
                  intro H locs ls hP hD hS hl
                  refine lv_istore (lv' := [(9, .int x52), (0, .ref a_0), (1, .int p1), (2, .int p2), (3, .int p3), (4, .int p4), (5, .int p5), (8, .int x47)]) hx hb d_Mo_line_171 hl (by decide) rfl (fun ls hl => ?_)
                  refine lv_iload hx hb d_Mo_line_173 (lv_at hl 7 rfl) ?_
                  obtain ⟨x57, hb55, hm⟩ := bd1_e hm
                  have K54 : ∀ (H : Heap) (locs : List Loc) (ls : Array Slot), va_P (dC, dI) vwCl (wl_Mo_line a_0 a_0_isFlat a_0_across a_0_lows a_0_highs a_0_thick a_0_doorCounts b_0_doorFrom b_0_doorTo b_0_xs b_0_ys b_0_labels b_0_oldXs b_0_oldYs b_0_oldLabels b_0_names b_0_oldNames b_0_wanted b_0_common b_0_flatEdges b_0_upEdges b_0_isPoint b_0_stack b_0_pieceLines b_0_pieceBegins b_0_pieceEnds b_0_pieceLeft b_0_pieceRight b_0_outs b_0_isSeen b_0_ringSpaces b_0_ringStarts b_0_ringSizes b_0_ringLeast b_0_looseLines b_0_looseXs b_0_looseYs b_0_looseReaches b_0_far cZ cI x39 v_0_lines v_0_isFresh v_0_hasRun v_0_runs v_0_nx v_0_ny v_0_spaces v_0_oldNx v_0_oldNy v_0_oldSpaces v_0_points v_0_pieces v_0_rings v_0_outsideSides v_0_looseCount f_0_isFlat f_0_across f_0_lows f_0_highs f_0_thick f_0_doorCounts) H → va_D A (wl_Mo_line a_0 a_0_isFlat a_0_across a_0_lows a_0_highs a_0_thick a_0_doorCounts b_0_doorFrom b_0_doorTo b_0_xs b_0_ys b_0_labels b_0_oldXs b_0_oldYs b_0_oldLabels b_0_names b_0_oldNames b_0_wanted b_0_common b_0_flatEdges b_0_upEdges b_0_isPoint b_0_stack b_0_pieceLines b_0_pieceBegins b_0_pieceEnds b_0_pieceLeft b_0_pieceRight b_0_outs b_0_isSeen b_0_ringSpaces b_0_ringStarts b_0_ringSizes b_0_ringLeast b_0_looseLines b_0_looseXs b_0_looseYs b_0_looseReaches b_0_far cZ cI x39 v_0_lines v_0_isFresh v_0_hasRun v_0_runs v_0_nx v_0_ny v_0_spaces v_0_oldNx v_0_oldNy v_0_oldSpaces v_0_points v_0_pieces v_0_rings v_0_outsideSides v_0_looseCount f_0_isFlat f_0_across f_0_lows f_0_highs f_0_thick f_0_doorCounts) → va_S A s.heap H locs → lv_has ls 13 [(0, .ref a_0), (1, .int p1), (2, .int p2), (5, .int p5), (8, .int x47), (9, .int x52)] → W p l e rm_Mo_line s m args below meth c H locs 0 0 Q (F0 m 184 ls [.int x57]) := by
                    intro H locs ls hP hD hS hl
                    refine lv_istore (lv' := [(10, .int x57), (0, .ref a_0), (1, .int p1), (2, .int p2), (5, .int p5), (8, .int x47), (9, .int x52)]) hx hb d_Mo_line_184 hl (by decide) rfl (fun ls hl => ?_)
                    refine lv_iload hx hb d_Mo_line_186 (lv_at hl 6 rfl) ?_
                    refine lv_iload hx hb d_Mo_line_188 (lv_at hl 0 rfl) ?_
                    obtain ⟨x62, hb60, hm⟩ := bd1_e hm
                    have K59 : ∀ (H : Heap) (locs : List Loc) (ls : Array Slot), va_P (dC, dI) vwCl (wl_Mo_line a_0 a_0_isFlat a_0_across a_0_lows a_0_highs a_0_thick a_0_doorCounts b_0_doorFrom b_0_doorTo b_0_xs b_0_ys b_0_labels b_0_oldXs b_0_oldYs b_0_oldLabels b_0_names b_0_oldNames b_0_wanted b_0_common b_0_flatEdges b_0_upEdges b_0_isPoint b_0_stack b_0_pieceLines b_0_pieceBegins b_0_pieceEnds b_0_pieceLeft b_0_pieceRight b_0_outs b_0_isSeen b_0_ringSpaces b_0_ringStarts b_0_ringSizes b_0_ringLeast b_0_looseLines b_0_looseXs b_0_looseYs b_0_looseReaches b_0_far cZ cI x39 v_0_lines v_0_isFresh v_0_hasRun v_0_runs v_0_nx v_0_ny v_0_spaces v_0_oldNx v_0_oldNy v_0_oldSpaces v_0_points v_0_pieces v_0_rings v_0_outsideSides v_0_looseCount f_0_isFlat f_0_across f_0_lows f_0_highs f_0_thick f_0_doorCounts) H → va_D A (wl_Mo_line a_0 a_0_isFlat a_0_across a_0_lows a_0_highs a_0_thick a_0_doorCounts b_0_doorFrom b_0_doorTo b_0_xs b_0_ys b_0_labels b_0_oldXs b_0_oldYs b_0_oldLabels b_0_names b_0_oldNames b_0_wanted b_0_common b_0_flatEdges b_0_upEdges b_0_isPoint b_0_stack b_0_pieceLines b_0_pieceBegins b_0_pieceEnds b_0_pieceLeft b_0_pieceRight b_0_outs b_0_isSeen b_0_ringSpaces b_0_ringStarts b_0_ringSizes b_0_ringLeast b_0_looseLines b_0_looseXs b_0_looseYs b_0_looseReaches b_0_far cZ cI x39 v_0_lines v_0_isFresh v_0_hasRun v_0_runs v_0_nx v_0_ny v_0_spaces v_0_oldNx v_0_oldNy v_0_oldSpaces v_0_points v_0_pieces v_0_rings v_0_outsideSides v_0_looseCount f_0_isFlat f_0_across f_0_lows f_0_highs f_0_thick f_0_doorCounts) → va_S A s.heap H locs → lv_has ls 13 [(0, .ref a_0), (1, .int p1), (2, .int p2), (5, .int p5), (8, .int x47), (9, .int x52), (10, .int x57)] → W p l e rm_Mo_line s m args below meth c H locs 0 0 Q (F0 m 200 ls [.int x62]) := by
                      intro H locs ls hP hD hS hl
                      refine lv_istore (lv' := [(11, .int x62), (0, .ref a_0), (1, .int p1), (2, .int p2), (5, .int p5), (8, .int x47), (9, .int x52), (10, .int x57)]) hx hb d_Mo_line_200 hl (by decide) rfl (fun ls hl => ?_)
                      refine lv_iload hx hb d_Mo_line_202 (lv_at hl 6 rfl) ?_
                      refine lv_iload hx hb d_Mo_line_204 (lv_at hl 7 rfl) ?_
                      obtain ⟨x67, hb65, hm⟩ := bd1_e hm
                      have K64 : ∀ (H : Heap) (locs : List Loc) (ls : Array Slot), va_P (dC, dI) vwCl (wl_Mo_line a_0 a_0_isFlat a_0_across a_0_lows a_0_highs a_0_thick a_0_doorCounts b_0_doorFrom b_0_doorTo b_0_xs b_0_ys b_0_labels b_0_oldXs b_0_oldYs b_0_oldLabels b_0_names b_0_oldNames b_0_wanted b_0_common b_0_flatEdges b_0_upEdges b_0_isPoint b_0_stack b_0_pieceLines b_0_pieceBegins b_0_pieceEnds b_0_pieceLeft b_0_pieceRight b_0_outs b_0_isSeen b_0_ringSpaces b_0_ringStarts b_0_ringSizes b_0_ringLeast b_0_looseLines b_0_looseXs b_0_looseYs b_0_looseReaches b_0_far cZ cI x39 v_0_lines v_0_isFresh v_0_hasRun v_0_runs v_0_nx v_0_ny v_0_spaces v_0_oldNx v_0_oldNy v_0_oldSpaces v_0_points v_0_pieces v_0_rings v_0_outsideSides v_0_looseCount f_0_isFlat f_0_across f_0_lows f_0_highs f_0_thick f_0_doorCounts) H → va_D A (wl_Mo_line a_0 a_0_isFlat a_0_across a_0_lows a_0_highs a_0_thick a_0_doorCounts b_0_doorFrom b_0_doorTo b_0_xs b_0_ys b_0_labels b_0_oldXs b_0_oldYs b_0_oldLabels b_0_names b_0_oldNames b_0_wanted b_0_common b_0_flatEdges b_0_upEdges b_0_isPoint b_0_stack b_0_pieceLines b_0_pieceBegins b_0_pieceEnds b_0_pieceLeft b_0_pieceRight b_0_outs b_0_isSeen b_0_ringSpaces b_0_ringStarts b_0_ringSizes b_0_ringLeast b_0_looseLines b_0_looseXs b_0_looseYs b_0_looseReaches b_0_far cZ cI x39 v_0_lines v_0_isFresh v_0_hasRun v_0_runs v_0_nx v_0_ny v_0_spaces v_0_oldNx v_0_oldNy v_0_oldSpaces v_0_points v_0_pieces v_0_rings v_0_outsideSides v_0_looseCount f_0_isFlat f_0_across f_0_lows f_0_highs f_0_thick f_0_doorCounts) → va_S A s.heap H locs → lv_has ls 13 [(0, .ref a_0), (1, .int p1), (2, .int p2), (5, .int p5), (8, .int x47), (11, .int x62)] → W p l e rm_Mo_line s m args below meth c H locs 0 0 Q (F0 m 216 ls [.int x67]) := by
                        intro H locs ls hP hD hS hl
                        refine lv_istore (lv' := [(12, .int x67), (0, .ref a_0), (1, .int p1), (2, .int p2), (5, .int p5), (8, .int x47), (11, .int x62)]) hx hb d_Mo_line_216 hl (by decide) rfl (fun ls hl => ?_)
                        refine lv_aload_n hx hb d_Mo_line_218 rfl (lv_at hl 1 rfl) ?_
                        refine lv_iconst (v := (-1)) hx hb d_Mo_line_219 (by decide) ?_
                        refine lv_iload hx hb d_Mo_line_220 (lv_at hl 5 rfl) ?_
                        refine lv_iload hx hb d_Mo_line_222 (lv_at hl 5 rfl) ?_
                        obtain ⟨x72, hb70, hm⟩ := bd1_e hm
                        have K69 : ∀ (H : Heap) (locs : List Loc) (ls : Array Slot), va_P (dC, dI) vwCl (wl_Mo_line a_0 a_0_isFlat a_0_across a_0_lows a_0_highs a_0_thick a_0_doorCounts b_0_doorFrom b_0_doorTo b_0_xs b_0_ys b_0_labels b_0_oldXs b_0_oldYs b_0_oldLabels b_0_names b_0_oldNames b_0_wanted b_0_common b_0_flatEdges b_0_upEdges b_0_isPoint b_0_stack b_0_pieceLines b_0_pieceBegins b_0_pieceEnds b_0_pieceLeft b_0_pieceRight b_0_outs b_0_isSeen b_0_ringSpaces b_0_ringStarts b_0_ringSizes b_0_ringLeast b_0_looseLines b_0_looseXs b_0_looseYs b_0_looseReaches b_0_far cZ cI x39 v_0_lines v_0_isFresh v_0_hasRun v_0_runs v_0_nx v_0_ny v_0_spaces v_0_oldNx v_0_oldNy v_0_oldSpaces v_0_points v_0_pieces v_0_rings v_0_outsideSides v_0_looseCount f_0_isFlat f_0_across f_0_lows f_0_highs f_0_thick f_0_doorCounts) H → va_D A (wl_Mo_line a_0 a_0_isFlat a_0_across a_0_lows a_0_highs a_0_thick a_0_doorCounts b_0_doorFrom b_0_doorTo b_0_xs b_0_ys b_0_labels b_0_oldXs b_0_oldYs b_0_oldLabels b_0_names b_0_oldNames b_0_wanted b_0_common b_0_flatEdges b_0_upEdges b_0_isPoint b_0_stack b_0_pieceLines b_0_pieceBegins b_0_pieceEnds b_0_pieceLeft b_0_pieceRight b_0_outs b_0_isSeen b_0_ringSpaces b_0_ringStarts b_0_ringSizes b_0_ringLeast b_0_looseLines b_0_looseXs b_0_looseYs b_0_looseReaches b_0_far cZ cI x39 v_0_lines v_0_isFresh v_0_hasRun v_0_runs v_0_nx v_0_ny v_0_spaces v_0_oldNx v_0_oldNy v_0_oldSpaces v_0_points v_0_pieces v_0_rings v_0_outsideSides v_0_looseCount f_0_isFlat f_0_across f_0_lows f_0_highs f_0_thick f_0_doorCounts) → va_S A s.heap H locs → lv_has ls 13 [(0, .ref a_0), (1, .int p1), (2, .int p2), (5, .int p5), (8, .int x47), (11, .int x62), (12, .int x67)] → W p l e rm_Mo_line s m args below meth c H locs 0 0 Q (F0 m 232 ls [.int x72, .int x47, .int (-1), .ref a_0]) := by
                          intro H locs ls hP hD hS hl
                          refine lv_iload hx hb d_Mo_line_232 (lv_at hl 5 rfl) ?_
                          refine lv_iload hx hb d_Mo_line_234 (lv_at hl 6 rfl) ?_
                          obtain ⟨r74, hb75, hm⟩ := bd1_e hm
                          have hPc := hP.sub (ws' := (wl_Mo_lies a_0 a_0_isFlat a_0_across a_0_lows a_0_highs a_0_thick a_0_doorCounts b_0_doorFrom b_0_doorTo b_0_xs b_0_ys b_0_labels b_0_oldXs b_0_oldYs b_0_oldLabels b_0_names b_0_oldNames b_0_wanted b_0_common b_0_flatEdges b_0_upEdges b_0_isPoint b_0_stack b_0_pieceLines b_0_pieceBegins b_0_pieceEnds b_0_pieceLeft b_0_pieceRight b_0_outs b_0_isSeen b_0_ringSpaces b_0_ringStarts b_0_ringSizes b_0_ringLeast b_0_looseLines b_0_looseXs b_0_looseYs b_0_looseReaches b_0_far cZ cI x39 v_0_lines v_0_isFresh v_0_hasRun v_0_runs v_0_nx v_0_ny v_0_spaces v_0_oldNx v_0_oldNy v_0_oldSpaces v_0_points v_0_pieces v_0_rings v_0_outsideSides v_0_looseCount f_0_isFlat f_0_across f_0_lows f_0_highs)) [0, 1, 2, 3, 4] rfl
                          have hDc := hD.sub (ws' := (wl_Mo_lies a_0 a_0_isFlat a_0_across a_0_lows a_0_highs a_0_thick a_0_doorCounts b_0_doorFrom b_0_doorTo b_0_xs b_0_ys b_0_labels b_0_oldXs b_0_oldYs b_0_oldLabels b_0_names b_0_oldNames b_0_wanted b_0_common b_0_flatEdges b_0_upEdges b_0_isPoint b_0_stack b_0_pieceLines b_0_pieceBegins b_0_pieceEnds b_0_pieceLeft b_0_pieceRight b_0_outs b_0_isSeen b_0_ringSpaces b_0_ringStarts b_0_ringSizes b_0_ringLeast b_0_looseLines b_0_looseXs b_0_looseYs b_0_looseReaches b_0_far cZ cI x39 v_0_lines v_0_isFresh v_0_hasRun v_0_runs v_0_nx v_0_ny v_0_spaces v_0_oldNx v_0_oldNy v_0_oldSpaces v_0_points v_0_pieces v_0_rings v_0_outsideSides v_0_looseCount f_0_isFlat f_0_across f_0_lows f_0_highs)) [0, 1, 2, 3, 4] (by decide) rfl
                          refine cl_i (wc' := (wl_Mo_lies a_0 a_0_isFlat a_0_across a_0_lows a_0_highs a_0_thick a_0_doorCounts b_0_doorFrom b_0_doorTo b_0_xs b_0_ys b_0_labels b_0_oldXs b_0_oldYs b_0_oldLabels b_0_names b_0_oldNames b_0_wanted b_0_common b_0_flatEdges b_0_upEdges b_0_isPoint b_0_stack b_0_pieceLines b_0_pieceBegins b_0_pieceEnds b_0_pieceLeft b_0_pieceRight b_0_outs b_0_isSeen b_0_ringSpaces b_0_ringStarts b_0_ringSizes b_0_ringLeast b_0_looseLines b_0_looseXs b_0_looseYs b_0_looseReaches b_0_far cZ cI x39 v_0_lines v_0_isFresh v_0_hasRun v_0_runs v_0_nx v_0_ny v_0_spaces v_0_oldNx v_0_oldNy v_0_oldSpaces v_0_points v_0_pieces v_0_rings v_0_outsideSides v_0_looseCount f_0_isFlat f_0_across f_0_lows f_0_highs)) (va_runV (As := [.int (-1), .int x47, .int x72, .int x62, .int x67]) (rest := []) ⟨hx, hb, hml, hown, hts⟩ (c_Mo_lies l dC dI (cI := cI) (cZ := cZ) (cJ := cJ) a_0 a_0_isFlat a_0_across a_0_lows a_0_highs a_0_thick a_0_doorCounts b_0_doorFrom b_0_doorTo b_0_xs b_0_ys b_0_labels b_0_oldXs b_0_oldYs b_0_oldLabels b_0_names b_0_oldNames b_0_wanted b_0_common b_0_flatEdges b_0_upEdges b_0_isPoint b_0_stack b_0_pieceLines b_0_pieceBegins b_0_pieceEnds b_0_pieceLeft b_0_pieceRight b_0_outs b_0_isSeen b_0_ringSpaces b_0_ringStarts b_0_ringSizes b_0_ringLeast b_0_looseLines b_0_looseXs b_0_looseYs b_0_looseReaches b_0_far H.size x39 v_0_lines v_0_isFresh v_0_hasRun v_0_runs v_0_nx v_0_ny v_0_spaces v_0_oldNx v_0_oldNy v_0_oldSpaces v_0_points v_0_pieces v_0_rings v_0_outsideSides v_0_looseCount f_0_isFlat f_0_across f_0_lows f_0_highs (-1) x47 x72 x62 x67 r74 hb75) (cwV 5 hts (gl_V k_286 k_285 k_284 k_277 k_283) rfl rfl rfl (by decide +kernel) ⟨Nat.le_of_ble_eq_true rfl, Nat.le_of_ble_eq_true rfl⟩) ⟨PP_blind, va_recv hK hPc (ci := 11) (q0 := 0) rfl rfl, fun U hU hW => PP_at hK hN hPc hDc hU hW⟩ rfl rfl hl.1 rfl (lv_room (Nat.le_of_ble_eq_true rfl)) d_Mo_line_236 ⟨Nat.zero_le _, Nat.zero_le _⟩) hP hD hS hA [0, 1, 2, 3, 4] [5, 6] rfl rfl (by decide) (by decide) (fun H locs hP hD hS => ?_)
                          have hP : va_P (dC, dI) vwCl (wl_Mo_line a_0 a_0_isFlat a_0_across a_0_lows a_0_highs a_0_thick a_0_doorCounts b_0_doorFrom b_0_doorTo b_0_xs b_0_ys b_0_labels b_0_oldXs b_0_oldYs b_0_oldLabels b_0_names b_0_oldNames b_0_wanted b_0_common b_0_flatEdges b_0_upEdges b_0_isPoint b_0_stack b_0_pieceLines b_0_pieceBegins b_0_pieceEnds b_0_pieceLeft b_0_pieceRight b_0_outs b_0_isSeen b_0_ringSpaces b_0_ringStarts b_0_ringSizes b_0_ringLeast b_0_looseLines b_0_looseXs b_0_looseYs b_0_looseReaches b_0_far cZ cI x39 v_0_lines v_0_isFresh v_0_hasRun v_0_runs v_0_nx v_0_ny v_0_spaces v_0_oldNx v_0_oldNy v_0_oldSpaces v_0_points v_0_pieces v_0_rings v_0_outsideSides v_0_looseCount f_0_isFlat f_0_across f_0_lows f_0_highs f_0_thick f_0_doorCounts) H := hP.sub [2, 3, 4, 5, 6, 0, 1] rfl
                          have hD : va_D A (wl_Mo_line a_0 a_0_isFlat a_0_across a_0_lows a_0_highs a_0_thick a_0_doorCounts b_0_doorFrom b_0_doorTo b_0_xs b_0_ys b_0_labels b_0_oldXs b_0_oldYs b_0_oldLabels b_0_names b_0_oldNames b_0_wanted b_0_common b_0_flatEdges b_0_upEdges b_0_isPoint b_0_stack b_0_pieceLines b_0_pieceBegins b_0_pieceEnds b_0_pieceLeft b_0_pieceRight b_0_outs b_0_isSeen b_0_ringSpaces b_0_ringStarts b_0_ringSizes b_0_ringLeast b_0_looseLines b_0_looseXs b_0_looseYs b_0_looseReaches b_0_far cZ cI x39 v_0_lines v_0_isFresh v_0_hasRun v_0_runs v_0_nx v_0_ny v_0_spaces v_0_oldNx v_0_oldNy v_0_oldSpaces v_0_points v_0_pieces v_0_rings v_0_outsideSides v_0_looseCount f_0_isFlat f_0_across f_0_lows f_0_highs f_0_thick f_0_doorCounts) := hD.sub [2, 3, 4, 5, 6, 0, 1] (by decide) rfl
                          refine lv_if_eq (tgt := 244) hx hb d_Mo_line_239 (by decide) (fun c76 => ?_) (fun c76 => ?_)
                          · replace hm := if_t hm c76
                            refine lv_aload_n hx hb d_Mo_line_244 rfl (lv_at hl 0 rfl) ?_
                            refine va_get (D := (dC, dI)) (ci := 11) (v := .ref a_0_isFlat) (C := "SpaceCyclesModel") (T := F_Mo) (N := 54) hx hb hts (in_F i_Mo) hown hK hP 0 rfl rfl 1 (by decide) (hts _ (in_c k_279)) (fun _ h9 => h9) rfl d_Mo_line_245 ?_
                            refine lv_aload_n hx hb d_Mo_line_248 rfl (lv_at hl 0 rfl) ?_
                            refine va_get (D := (dC, dI)) (ci := 11) (v := .int v_0_lines) (C := "SpaceCyclesModel") (T := F_Mo) (N := 54) hx hb hts (in_F i_Mo) hown hK hP 0 rfl rfl 6 (by decide) (hts _ (in_c k_274)) (fun _ h9 => h9) rfl d_Mo_line_249 ?_
                            refine lv_iload hx hb d_Mo_line_252 (lv_at hl 4 rfl) ?_
                            obtain ⟨hi77, hm⟩ := gI_e hm
                            obtain ⟨f78, ef78⟩ : ∃ y : Nat → Int32, y = upd f_0_isFlat v_0_lines.toNatClampNeg (vp_nar .boolean x47) := ⟨_, rfl⟩
                            replace hm := lt_el hm ef78
                            refine va_zast hx hb hK hP hD hS 1 1 rfl rfl hi77 d_Mo_line_254 (fun H locs hP hD hS => ?_)
                            rw [← ef78] at hP hD
                            have hP : va_P (dC, dI) vwCl (wl_Mo_line a_0 a_0_isFlat a_0_across a_0_lows a_0_highs a_0_thick a_0_doorCounts b_0_doorFrom b_0_doorTo b_0_xs b_0_ys b_0_labels b_0_oldXs b_0_oldYs b_0_oldLabels b_0_names b_0_oldNames b_0_wanted b_0_common b_0_flatEdges b_0_upEdges b_0_isPoint b_0_stack b_0_pieceLines b_0_pieceBegins b_0_pieceEnds b_0_pieceLeft b_0_pieceRight b_0_outs b_0_isSeen b_0_ringSpaces b_0_ringStarts b_0_ringSizes b_0_ringLeast b_0_looseLines b_0_looseXs b_0_looseYs b_0_looseReaches b_0_far cZ cI x39 v_0_lines v_0_isFresh v_0_hasRun v_0_runs v_0_nx v_0_ny v_0_spaces v_0_oldNx v_0_oldNy v_0_oldSpaces v_0_points v_0_pieces v_0_rings v_0_outsideSides v_0_looseCount f78 f_0_across f_0_lows f_0_highs f_0_thick f_0_doorCounts) H := hP
                            have hD : va_D A (wl_Mo_line a_0 a_0_isFlat a_0_across a_0_lows a_0_highs a_0_thick a_0_doorCounts b_0_doorFrom b_0_doorTo b_0_xs b_0_ys b_0_labels b_0_oldXs b_0_oldYs b_0_oldLabels b_0_names b_0_oldNames b_0_wanted b_0_common b_0_flatEdges b_0_upEdges b_0_isPoint b_0_stack b_0_pieceLines b_0_pieceBegins b_0_pieceEnds b_0_pieceLeft b_0_pieceRight b_0_outs b_0_isSeen b_0_ringSpaces b_0_ringStarts b_0_ringSizes b_0_ringLeast b_0_looseLines b_0_looseXs b_0_looseYs b_0_looseReaches b_0_far cZ cI x39 v_0_lines v_0_isFresh v_0_hasRun v_0_runs v_0_nx v_0_ny v_0_spaces v_0_oldNx v_0_oldNy v_0_oldSpaces v_0_points v_0_pieces v_0_rings v_0_outsideSides v_0_looseCount f78 f_0_across f_0_lows f_0_highs f_0_thick f_0_doorCounts) := hD
                            refine lv_aload_n hx hb d_Mo_line_255 rfl (lv_at hl 0 rfl) ?_
                            refine va_get (D := (dC, dI)) (ci := 11) (v := .ref a_0_across) (C := "SpaceCyclesModel") (T := F_Mo) (N := 54) hx hb hts (in_F i_Mo) hown hK hP 0 rfl rfl 2 (by decide) (hts _ (in_c k_280)) (fun _ h9 => h9) rfl d_Mo_line_256 ?_
                            refine lv_aload_n hx hb d_Mo_line_259 rfl (lv_at hl 0 rfl) ?_
                            refine va_get (D := (dC, dI)) (ci := 11) (v := .int v_0_lines) (C := "SpaceCyclesModel") (T := F_Mo) (N := 54) hx hb hts (in_F i_Mo) hown hK hP 0 rfl rfl 6 (by decide) (hts _ (in_c k_274)) (fun _ h9 => h9) rfl d_Mo_line_260 ?_
                            refine lv_iload hx hb d_Mo_line_263 (lv_at hl 4 rfl) ?_
                            obtain ⟨x82, hb80, hm⟩ := bd1_e hm
                            have K79 : ∀ (H : Heap) (locs : List Loc) (ls : Array Slot), va_P (dC, dI) vwCl (wl_Mo_line a_0 a_0_isFlat a_0_across a_0_lows a_0_highs a_0_thick a_0_doorCounts b_0_doorFrom b_0_doorTo b_0_xs b_0_ys b_0_labels b_0_oldXs b_0_oldYs b_0_oldLabels b_0_names b_0_oldNames b_0_wanted b_0_common b_0_flatEdges b_0_upEdges b_0_isPoint b_0_stack b_0_pieceLines b_0_pieceBegins b_0_pieceEnds b_0_pieceLeft b_0_pieceRight b_0_outs b_0_isSeen b_0_ringSpaces b_0_ringStarts b_0_ringSizes b_0_ringLeast b_0_looseLines b_0_looseXs b_0_looseYs b_0_looseReaches b_0_far cZ cI x39 v_0_lines v_0_isFresh v_0_hasRun v_0_runs v_0_nx v_0_ny v_0_spaces v_0_oldNx v_0_oldNy v_0_oldSpaces v_0_points v_0_pieces v_0_rings v_0_outsideSides v_0_looseCount f78 f_0_across f_0_lows f_0_highs f_0_thick f_0_doorCounts) H → va_D A (wl_Mo_line a_0 a_0_isFlat a_0_across a_0_lows a_0_highs a_0_thick a_0_doorCounts b_0_doorFrom b_0_doorTo b_0_xs b_0_ys b_0_labels b_0_oldXs b_0_oldYs b_0_oldLabels b_0_names b_0_oldNames b_0_wanted b_0_common b_0_flatEdges b_0_upEdges b_0_isPoint b_0_stack b_0_pieceLines b_0_pieceBegins b_0_pieceEnds b_0_pieceLeft b_0_pieceRight b_0_outs b_0_isSeen b_0_ringSpaces b_0_ringStarts b_0_ringSizes b_0_ringLeast b_0_looseLines b_0_looseXs b_0_looseYs b_0_looseReaches b_0_far cZ cI x39 v_0_lines v_0_isFresh v_0_hasRun v_0_runs v_0_nx v_0_ny v_0_spaces v_0_oldNx v_0_oldNy v_0_oldSpaces v_0_points v_0_pieces v_0_rings v_0_outsideSides v_0_looseCount f78 f_0_across f_0_lows f_0_highs f_0_thick f_0_doorCounts) → va_S A s.heap H locs → lv_has ls 13 [(0, .ref a_0), (5, .int p5), (11, .int x62), (12, .int x67)] → W p l e rm_Mo_line s m args below meth c H locs 0 0 Q (F0 m 273 ls [.int x82, .int v_0_lines, .ref a_0_across]) := by
                              intro H locs ls hP hD hS hl
                              obtain ⟨hi84, hm⟩ := gI_e hm
                              obtain ⟨f85, ef85⟩ : ∃ y : Nat → Int32, y = upd f_0_across v_0_lines.toNatClampNeg x82 := ⟨_, rfl⟩
                              replace hm := lt_el hm ef85
                              refine va_iast hx hb hK hP hD hS 2 0 rfl rfl hi84 d_Mo_line_273 (fun H locs hP hD hS => ?_)
                              rw [← ef85] at hP hD
                              have hP : va_P (dC, dI) vwCl (wl_Mo_line a_0 a_0_isFlat a_0_across a_0_lows a_0_highs a_0_thick a_0_doorCounts b_0_doorFrom b_0_doorTo b_0_xs b_0_ys b_0_labels b_0_oldXs b_0_oldYs b_0_oldLabels b_0_names b_0_oldNames b_0_wanted b_0_common b_0_flatEdges b_0_upEdges b_0_isPoint b_0_stack b_0_pieceLines b_0_pieceBegins b_0_pieceEnds b_0_pieceLeft b_0_pieceRight b_0_outs b_0_isSeen b_0_ringSpaces b_0_ringStarts b_0_ringSizes b_0_ringLeast b_0_looseLines b_0_looseXs b_0_looseYs b_0_looseReaches b_0_far cZ cI x39 v_0_lines v_0_isFresh v_0_hasRun v_0_runs v_0_nx v_0_ny v_0_spaces v_0_oldNx v_0_oldNy v_0_oldSpaces v_0_points v_0_pieces v_0_rings v_0_outsideSides v_0_looseCount f78 f85 f_0_lows f_0_highs f_0_thick f_0_doorCounts) H := hP
                              have hD : va_D A (wl_Mo_line a_0 a_0_isFlat a_0_across a_0_lows a_0_highs a_0_thick a_0_doorCounts b_0_doorFrom b_0_doorTo b_0_xs b_0_ys b_0_labels b_0_oldXs b_0_oldYs b_0_oldLabels b_0_names b_0_oldNames b_0_wanted b_0_common b_0_flatEdges b_0_upEdges b_0_isPoint b_0_stack b_0_pieceLines b_0_pieceBegins b_0_pieceEnds b_0_pieceLeft b_0_pieceRight b_0_outs b_0_isSeen b_0_ringSpaces b_0_ringStarts b_0_ringSizes b_0_ringLeast b_0_looseLines b_0_looseXs b_0_looseYs b_0_looseReaches b_0_far cZ cI x39 v_0_lines v_0_isFresh v_0_hasRun v_0_runs v_0_nx v_0_ny v_0_spaces v_0_oldNx v_0_oldNy v_0_oldSpaces v_0_points v_0_pieces v_0_rings v_0_outsideSides v_0_looseCount f78 f85 f_0_lows f_0_highs f_0_thick f_0_doorCounts) := hD
                              refine lv_aload_n hx hb d_Mo_line_274 rfl (lv_at hl 0 rfl) ?_
                              refine va_get (D := (dC, dI)) (ci := 11) (v := .ref a_0_lows) (C := "SpaceCyclesModel") (T := F_Mo) (N := 54) hx hb hts (in_F i_Mo) hown hK hP 0 rfl rfl 3 (by decide) (hts _ (in_c k_281)) (fun _ h9 => h9) rfl d_Mo_line_275 ?_
                              refine lv_aload_n hx hb d_Mo_line_278 rfl (lv_at hl 0 rfl) ?_
                              refine va_get (D := (dC, dI)) (ci := 11) (v := .int v_0_lines) (C := "SpaceCyclesModel") (T := F_Mo) (N := 54) hx hb hts (in_F i_Mo) hown hK hP 0 rfl rfl 6 (by decide) (hts _ (in_c k_274)) (fun _ h9 => h9) rfl d_Mo_line_279 ?_
                              refine lv_iload hx hb d_Mo_line_282 (lv_at hl 2 rfl) ?_
                              obtain ⟨hi86, hm⟩ := gI_e hm
                              obtain ⟨f87, ef87⟩ : ∃ y : Nat → Int32, y = upd f_0_lows v_0_lines.toNatClampNeg x62 := ⟨_, rfl⟩
                              replace hm := lt_el hm ef87
                              refine va_iast hx hb hK hP hD hS 3 0 rfl rfl hi86 d_Mo_line_284 (fun H locs hP hD hS => ?_)
                              rw [← ef87] at hP hD
                              have hP : va_P (dC, dI) vwCl (wl_Mo_line a_0 a_0_isFlat a_0_across a_0_lows a_0_highs a_0_thick a_0_doorCounts b_0_doorFrom b_0_doorTo b_0_xs b_0_ys b_0_labels b_0_oldXs b_0_oldYs b_0_oldLabels b_0_names b_0_oldNames b_0_wanted b_0_common b_0_flatEdges b_0_upEdges b_0_isPoint b_0_stack b_0_pieceLines b_0_pieceBegins b_0_pieceEnds b_0_pieceLeft b_0_pieceRight b_0_outs b_0_isSeen b_0_ringSpaces b_0_ringStarts b_0_ringSizes b_0_ringLeast b_0_looseLines b_0_looseXs b_0_looseYs b_0_looseReaches b_0_far cZ cI x39 v_0_lines v_0_isFresh v_0_hasRun v_0_runs v_0_nx v_0_ny v_0_spaces v_0_oldNx v_0_oldNy v_0_oldSpaces v_0_points v_0_pieces v_0_rings v_0_outsideSides v_0_looseCount f78 f85 f87 f_0_highs f_0_thick f_0_doorCounts) H := hP
                              have hD : va_D A (wl_Mo_line a_0 a_0_isFlat a_0_across a_0_lows a_0_highs a_0_thick a_0_doorCounts b_0_doorFrom b_0_doorTo b_0_xs b_0_ys b_0_labels b_0_oldXs b_0_oldYs b_0_oldLabels b_0_names b_0_oldNames b_0_wanted b_0_common b_0_flatEdges b_0_upEdges b_0_isPoint b_0_stack b_0_pieceLines b_0_pieceBegins b_0_pieceEnds b_0_pieceLeft b_0_pieceRight b_0_outs b_0_isSeen b_0_ringSpaces b_0_ringStarts b_0_ringSizes b_0_ringLeast b_0_looseLines b_0_looseXs b_0_looseYs b_0_looseReaches b_0_far cZ cI x39 v_0_lines v_0_isFresh v_0_hasRun v_0_runs v_0_nx v_0_ny v_0_spaces v_0_oldNx v_0_oldNy v_0_oldSpaces v_0_points v_0_pieces v_0_rings v_0_outsideSides v_0_looseCount f78 f85 f87 f_0_highs f_0_thick f_0_doorCounts) := hD
                              refine lv_aload_n hx hb d_Mo_line_285 rfl (lv_at hl 0 rfl) ?_
                              refine va_get (D := (dC, dI)) (ci := 11) (v := .ref a_0_highs) (C := "SpaceCyclesModel") (T := F_Mo) (N := 54) hx hb hts (in_F i_Mo) hown hK hP 0 rfl rfl 4 (by decide) (hts _ (in_c k_282)) (fun _ h9 => h9) rfl d_Mo_line_286 ?_
                              refine lv_aload_n hx hb d_Mo_line_289 rfl (lv_at hl 0 rfl) ?_
                              refine va_get (D := (dC, dI)) (ci := 11) (v := .int v_0_lines) (C := "SpaceCyclesModel") (T := F_Mo) (N := 54) hx hb hts (in_F i_Mo) hown hK hP 0 rfl rfl 6 (by decide) (hts _ (in_c k_274)) (fun _ h9 => h9) rfl d_Mo_line_290 ?_
                              refine lv_iload hx hb d_Mo_line_293 (lv_at hl 3 rfl) ?_
                              obtain ⟨hi88, hm⟩ := gI_e hm
                              obtain ⟨f89, ef89⟩ : ∃ y : Nat → Int32, y = upd f_0_highs v_0_lines.toNatClampNeg x67 := ⟨_, rfl⟩
                              replace hm := lt_el hm ef89
                              refine va_iast hx hb hK hP hD hS 4 0 rfl rfl hi88 d_Mo_line_295 (fun H locs hP hD hS => ?_)
                              rw [← ef89] at hP hD
                              have hP : va_P (dC, dI) vwCl (wl_Mo_line a_0 a_0_isFlat a_0_across a_0_lows a_0_highs a_0_thick a_0_doorCounts b_0_doorFrom b_0_doorTo b_0_xs b_0_ys b_0_labels b_0_oldXs b_0_oldYs b_0_oldLabels b_0_names b_0_oldNames b_0_wanted b_0_common b_0_flatEdges b_0_upEdges b_0_isPoint b_0_stack b_0_pieceLines b_0_pieceBegins b_0_pieceEnds b_0_pieceLeft b_0_pieceRight b_0_outs b_0_isSeen b_0_ringSpaces b_0_ringStarts b_0_ringSizes b_0_ringLeast b_0_looseLines b_0_looseXs b_0_looseYs b_0_looseReaches b_0_far cZ cI x39 v_0_lines v_0_isFresh v_0_hasRun v_0_runs v_0_nx v_0_ny v_0_spaces v_0_oldNx v_0_oldNy v_0_oldSpaces v_0_points v_0_pieces v_0_rings v_0_outsideSides v_0_looseCount f78 f85 f87 f89 f_0_thick f_0_doorCounts) H := hP
                              have hD : va_D A (wl_Mo_line a_0 a_0_isFlat a_0_across a_0_lows a_0_highs a_0_thick a_0_doorCounts b_0_doorFrom b_0_doorTo b_0_xs b_0_ys b_0_labels b_0_oldXs b_0_oldYs b_0_oldLabels b_0_names b_0_oldNames b_0_wanted b_0_common b_0_flatEdges b_0_upEdges b_0_isPoint b_0_stack b_0_pieceLines b_0_pieceBegins b_0_pieceEnds b_0_pieceLeft b_0_pieceRight b_0_outs b_0_isSeen b_0_ringSpaces b_0_ringStarts b_0_ringSizes b_0_ringLeast b_0_looseLines b_0_looseXs b_0_looseYs b_0_looseReaches b_0_far cZ cI x39 v_0_lines v_0_isFresh v_0_hasRun v_0_runs v_0_nx v_0_ny v_0_spaces v_0_oldNx v_0_oldNy v_0_oldSpaces v_0_points v_0_pieces v_0_rings v_0_outsideSides v_0_looseCount f78 f85 f87 f89 f_0_thick f_0_doorCounts) := hD
                              refine lv_aload_n hx hb d_Mo_line_296 rfl (lv_at hl 0 rfl) ?_
                              refine va_get (D := (dC, dI)) (ci := 11) (v := .ref a_0_thick) (C := "SpaceCyclesModel") (T := F_Mo) (N := 54) hx hb hts (in_F i_Mo) hown hK hP 0 rfl rfl 5 (by decide) (hts _ (in_c k_287)) (fun _ h9 => h9) rfl d_Mo_line_297 ?_
                              refine lv_aload_n hx hb d_Mo_line_300 rfl (lv_at hl 0 rfl) ?_
                              refine va_get (D := (dC, dI)) (ci := 11) (v := .int v_0_lines) (C := "SpaceCyclesModel") (T := F_Mo) (N := 54) hx hb hts (in_F i_Mo) hown hK hP 0 rfl rfl 6 (by decide) (hts _ (in_c k_274)) (fun _ h9 => h9) rfl d_Mo_line_301 ?_
                              refine lv_iload hx hb d_Mo_line_304 (lv_at hl 1 rfl) ?_
                              obtain ⟨hi90, hm⟩ := gI_e hm
                              obtain ⟨f91, ef91⟩ : ∃ y : Nat → Int32, y = upd f_0_thick v_0_lines.toNatClampNeg p5 := ⟨_, rfl⟩
                              replace hm := lt_el hm ef91
                              refine va_iast hx hb hK hP hD hS 5 0 rfl rfl hi90 d_Mo_line_306 (fun H locs hP hD hS => ?_)
                              rw [← ef91] at hP hD
                              have hP : va_P (dC, dI) vwCl (wl_Mo_line a_0 a_0_isFlat a_0_across a_0_lows a_0_highs a_0_thick a_0_doorCounts b_0_doorFrom b_0_doorTo b_0_xs b_0_ys b_0_labels b_0_oldXs b_0_oldYs b_0_oldLabels b_0_names b_0_oldNames b_0_wanted b_0_common b_0_flatEdges b_0_upEdges b_0_isPoint b_0_stack b_0_pieceLines b_0_pieceBegins b_0_pieceEnds b_0_pieceLeft b_0_pieceRight b_0_outs b_0_isSeen b_0_ringSpaces b_0_ringStarts b_0_ringSizes b_0_ringLeast b_0_looseLines b_0_looseXs b_0_looseYs b_0_looseReaches b_0_far cZ cI x39 v_0_lines v_0_isFresh v_0_hasRun v_0_runs v_0_nx v_0_ny v_0_spaces v_0_oldNx v_0_oldNy v_0_oldSpaces v_0_points v_0_pieces v_0_rings v_0_outsideSides v_0_looseCount f78 f85 f87 f89 f91 f_0_doorCounts) H := hP
                              have hD : va_D A (wl_Mo_line a_0 a_0_isFlat a_0_across a_0_lows a_0_highs a_0_thick a_0_doorCounts b_0_doorFrom b_0_doorTo b_0_xs b_0_ys b_0_labels b_0_oldXs b_0_oldYs b_0_oldLabels b_0_names b_0_oldNames b_0_wanted b_0_common b_0_flatEdges b_0_upEdges b_0_isPoint b_0_stack b_0_pieceLines b_0_pieceBegins b_0_pieceEnds b_0_pieceLeft b_0_pieceRight b_0_outs b_0_isSeen b_0_ringSpaces b_0_ringStarts b_0_ringSizes b_0_ringLeast b_0_looseLines b_0_looseXs b_0_looseYs b_0_looseReaches b_0_far cZ cI x39 v_0_lines v_0_isFresh v_0_hasRun v_0_runs v_0_nx v_0_ny v_0_spaces v_0_oldNx v_0_oldNy v_0_oldSpaces v_0_points v_0_pieces v_0_rings v_0_outsideSides v_0_looseCount f78 f85 f87 f89 f91 f_0_doorCounts) := hD
                              refine lv_aload_n hx hb d_Mo_line_307 rfl (lv_at hl 0 rfl) ?_
                              refine va_get (D := (dC, dI)) (ci := 11) (v := .ref a_0_doorCounts) (C := "SpaceCyclesModel") (T := F_Mo) (N := 54) hx hb hts (in_F i_Mo) hown hK hP 0 rfl rfl 7 (by decide) (hts _ (in_c k_288)) (fun _ h9 => h9) rfl d_Mo_line_308 ?_
                              refine lv_aload_n hx hb d_Mo_line_311 rfl (lv_at hl 0 rfl) ?_
                              refine va_get (D := (dC, dI)) (ci := 11) (v := .int v_0_lines) (C := "SpaceCyclesModel") (T := F_Mo) (N := 54) hx hb hts (in_F i_Mo) hown hK hP 0 rfl rfl 6 (by decide) (hts _ (in_c k_274)) (fun _ h9 => h9) rfl d_Mo_line_312 ?_
                              refine lv_iconst (v := 0) hx hb d_Mo_line_315 (by decide) ?_
                              obtain ⟨hi92, hm⟩ := gI_e hm
                              obtain ⟨f93, ef93⟩ : ∃ y : Nat → Int32, y = upd f_0_doorCounts v_0_lines.toNatClampNeg 0 := ⟨_, rfl⟩
                              replace hm := lt_el hm ef93
                              refine va_iast hx hb hK hP hD hS 6 0 rfl rfl hi92 d_Mo_line_316 (fun H locs hP hD hS => ?_)
                              rw [← ef93] at hP hD
                              have hP : va_P (dC, dI) vwCl (wl_Mo_line a_0 a_0_isFlat a_0_across a_0_lows a_0_highs a_0_thick a_0_doorCounts b_0_doorFrom b_0_doorTo b_0_xs b_0_ys b_0_labels b_0_oldXs b_0_oldYs b_0_oldLabels b_0_names b_0_oldNames b_0_wanted b_0_common b_0_flatEdges b_0_upEdges b_0_isPoint b_0_stack b_0_pieceLines b_0_pieceBegins b_0_pieceEnds b_0_pieceLeft b_0_pieceRight b_0_outs b_0_isSeen b_0_ringSpaces b_0_ringStarts b_0_ringSizes b_0_ringLeast b_0_looseLines b_0_looseXs b_0_looseYs b_0_looseReaches b_0_far cZ cI x39 v_0_lines v_0_isFresh v_0_hasRun v_0_runs v_0_nx v_0_ny v_0_spaces v_0_oldNx v_0_oldNy v_0_oldSpaces v_0_points v_0_pieces v_0_rings v_0_outsideSides v_0_looseCount f78 f85 f87 f89 f91 f93) H := hP
                              have hD : va_D A (wl_Mo_line a_0 a_0_isFlat a_0_across a_0_lows a_0_highs a_0_thick a_0_doorCounts b_0_doorFrom b_0_doorTo b_0_xs b_0_ys b_0_labels b_0_oldXs b_0_oldYs b_0_oldLabels b_0_names b_0_oldNames b_0_wanted b_0_common b_0_flatEdges b_0_upEdges b_0_isPoint b_0_stack b_0_pieceLines b_0_pieceBegins b_0_pieceEnds b_0_pieceLeft b_0_pieceRight b_0_outs b_0_isSeen b_0_ringSpaces b_0_ringStarts b_0_ringSizes b_0_ringLeast b_0_looseLines b_0_looseXs b_0_looseYs b_0_looseReaches b_0_far cZ cI x39 v_0_lines v_0_isFresh v_0_hasRun v_0_runs v_0_nx v_0_ny v_0_spaces v_0_oldNx v_0_oldNy v_0_oldSpaces v_0_points v_0_pieces v_0_rings v_0_outsideSides v_0_looseCount f78 f85 f87 f89 f91 f93) := hD
                              refine lv_aload_n hx hb d_Mo_line_317 rfl (lv_at hl 0 rfl) ?_
                              refine lv_dup hx hb d_Mo_line_318 rfl ?_
                              refine va_get (D := (dC, dI)) (ci := 11) (v := .int v_0_lines) (C := "SpaceCyclesModel") (T := F_Mo) (N := 54) hx hb hts (in_F i_Mo) hown hK hP 0 rfl rfl 6 (by decide) (hts _ (in_c k_274)) (fun _ h9 => h9) rfl d_Mo_line_319 ?_
                              refine lv_iconst (v := 1) hx hb d_Mo_line_322 (by decide) ?_
                              refine lv_iadd hx hb d_Mo_line_323 ?_
                              refine lv_topi (fun x94 ex94 => ?_)
                              replace hm := lt_el hm ex94
                              refine va_put (D := (dC, dI)) (ci := 11) (v := .int x94) (ty := .int) (C := "SpaceCyclesModel") (T := F_Mo) (N := 54) hx hb hts (in_F i_Mo) t_Mo t_Mo_ok n_Mo hown hK hP hD hS 0 rfl rfl 6 (by decide) (hts _ (in_c k_274)) (fun _ h9 => h9) rfl (by decide +kernel) rfl rfl (Nat.le_of_ble_eq_true rfl) d_Mo_line_324 (fun H locs hP hD hS => ?_)
                              have hP : va_P (dC, dI) vwCl (wl_Mo_line a_0 a_0_isFlat a_0_across a_0_lows a_0_highs a_0_thick a_0_doorCounts b_0_doorFrom b_0_doorTo b_0_xs b_0_ys b_0_labels b_0_oldXs b_0_oldYs b_0_oldLabels b_0_names b_0_oldNames b_0_wanted b_0_common b_0_flatEdges b_0_upEdges b_0_isPoint b_0_stack b_0_pieceLines b_0_pieceBegins b_0_pieceEnds b_0_pieceLeft b_0_pieceRight b_0_outs b_0_isSeen b_0_ringSpaces b_0_ringStarts b_0_ringSizes b_0_ringLeast b_0_looseLines b_0_looseXs b_0_looseYs b_0_looseReaches b_0_far cZ cI x39 x94 v_0_isFresh v_0_hasRun v_0_runs v_0_nx v_0_ny v_0_spaces v_0_oldNx v_0_oldNy v_0_oldSpaces v_0_points v_0_pieces v_0_rings v_0_outsideSides v_0_looseCount f78 f85 f87 f89 f91 f93) H := hP
                              have hD : va_D A (wl_Mo_line a_0 a_0_isFlat a_0_across a_0_lows a_0_highs a_0_thick a_0_doorCounts b_0_doorFrom b_0_doorTo b_0_xs b_0_ys b_0_labels b_0_oldXs b_0_oldYs b_0_oldLabels b_0_names b_0_oldNames b_0_wanted b_0_common b_0_flatEdges b_0_upEdges b_0_isPoint b_0_stack b_0_pieceLines b_0_pieceBegins b_0_pieceEnds b_0_pieceLeft b_0_pieceRight b_0_outs b_0_isSeen b_0_ringSpaces b_0_ringStarts b_0_ringSizes b_0_ringLeast b_0_looseLines b_0_looseXs b_0_looseYs b_0_looseReaches b_0_far cZ cI x39 x94 v_0_isFresh v_0_hasRun v_0_runs v_0_nx v_0_ny v_0_spaces v_0_oldNx v_0_oldNy v_0_oldSpaces v_0_points v_0_pieces v_0_rings v_0_outsideSides v_0_looseCount f78 f85 f87 f89 f91 f93) := hD
                              refine lv_aload_n hx hb d_Mo_line_327 rfl (lv_at hl 0 rfl) ?_
                              refine lv_iconst (v := 0) hx hb d_Mo_line_328 (by decide) ?_
                              refine va_put (D := (dC, dI)) (ci := 11) (v := .int 0) (ty := .boolean) (C := "SpaceCyclesModel") (T := F_Mo) (N := 54) hx hb hts (in_F i_Mo) t_Mo t_Mo_ok n_Mo hown hK hP hD hS 0 rfl rfl 10 (by decide) (hts _ (in_c k_289)) (fun _ h9 => h9) rfl (by decide +kernel) rfl rfl (Nat.le_of_ble_eq_true rfl) d_Mo_line_329 (fun H locs hP hD hS => ?_)
                              have hP : va_P (dC, dI) vwCl (wl_Mo_line a_0 a_0_isFlat a_0_across a_0_lows a_0_highs a_0_thick a_0_doorCounts b_0_doorFrom b_0_doorTo b_0_xs b_0_ys b_0_labels b_0_oldXs b_0_oldYs b_0_oldLabels b_0_names b_0_oldNames b_0_wanted b_0_common b_0_flatEdges b_0_upEdges b_0_isPoint b_0_stack b_0_pieceLines b_0_pieceBegins b_0_pieceEnds b_0_pieceLeft b_0_pieceRight b_0_outs b_0_isSeen b_0_ringSpaces b_0_ringStarts b_0_ringSizes b_0_ringLeast b_0_looseLines b_0_looseXs b_0_looseYs b_0_looseReaches b_0_far cZ cI x39 x94 0 v_0_hasRun v_0_runs v_0_nx v_0_ny v_0_spaces v_0_oldNx v_0_oldNy v_0_oldSpaces v_0_points v_0_pieces v_0_rings v_0_outsideSides v_0_looseCount f78 f85 f87 f89 f91 f93) H := hP
                              have hD : va_D A (wl_Mo_line a_0 a_0_isFlat a_0_across a_0_lows a_0_highs a_0_thick a_0_doorCounts b_0_doorFrom b_0_doorTo b_0_xs b_0_ys b_0_labels b_0_oldXs b_0_oldYs b_0_oldLabels b_0_names b_0_oldNames b_0_wanted b_0_common b_0_flatEdges b_0_upEdges b_0_isPoint b_0_stack b_0_pieceLines b_0_pieceBegins b_0_pieceEnds b_0_pieceLeft b_0_pieceRight b_0_outs b_0_isSeen b_0_ringSpaces b_0_ringStarts b_0_ringSizes b_0_ringLeast b_0_looseLines b_0_looseXs b_0_looseYs b_0_looseReaches b_0_far cZ cI x39 x94 0 v_0_hasRun v_0_runs v_0_nx v_0_ny v_0_spaces v_0_oldNx v_0_oldNy v_0_oldSpaces v_0_points v_0_pieces v_0_rings v_0_outsideSides v_0_looseCount f78 f85 f87 f89 f91 f93) := hD
                              refine lv_aload_n hx hb d_Mo_line_332 rfl (lv_at hl 0 rfl) ?_
                              refine va_get (D := (dC, dI)) (ci := 11) (v := .int x94) (C := "SpaceCyclesModel") (T := F_Mo) (N := 54) hx hb hts (in_F i_Mo) hown hK hP 0 rfl rfl 6 (by decide) (hts _ (in_c k_274)) (fun _ h9 => h9) rfl d_Mo_line_333 ?_
                              refine lv_iconst (v := 1) hx hb d_Mo_line_336 (by decide) ?_
                              refine lv_isub hx hb d_Mo_line_337 ?_
                              cases hm
                              exact hret _ H locs ls d_Mo_line_338 hP hD hS
                            replace hm := hb80
                            refine lv_if_eq (tgt := 272) hx hb d_Mo_line_265 (by decide) (fun c83 => ?_) (fun c83 => ?_)
                            · replace hm := if_t hm c83
                              refine lv_iload_n hx hb d_Mo_line_272 rfl (lv_at hl 1 rfl) ?_
                              cases hm
                              exact K79 H locs ls hP hD hS (lv_sub hl [0, 3, 5, 6] rfl)
                            · replace hm := if_f hm c83
                              refine lv_iload_n hx hb d_Mo_line_268 rfl (lv_at hl 2 rfl) ?_
                              refine lv_goto (tgt := 273) hx hb d_Mo_line_269 (by decide) ?_
                              cases hm
                              exact K79 H locs ls hP hD hS (lv_sub hl [0, 3, 5, 6] rfl)
                          · replace hm := if_f hm c76
                            refine lv_iconst (v := (-1)) hx hb d_Mo_line_242 (by decide) ?_
                            cases hm
                            exact hret _ H locs ls d_Mo_line_243 hP hD hS
                        replace hm := hb70
                        refine lv_if_eq (tgt := 231) hx hb d_Mo_line_224 (by decide) (fun c73 => ?_) (fun c73 => ?_)
                        · replace hm := if_t hm c73
                          refine lv_iload_n hx hb d_Mo_line_231 rfl (lv_at hl 2 rfl) ?_
                          cases hm
                          exact K69 H locs ls hP hD hS (lv_sub hl [1, 2, 3, 4, 5, 6, 0] rfl)
                        · replace hm := if_f hm c73
                          refine lv_iload_n hx hb d_Mo_line_227 rfl (lv_at hl 3 rfl) ?_
                          refine lv_goto (tgt := 232) hx hb d_Mo_line_228 (by decide) ?_
                          cases hm
                          exact K69 H locs ls hP hD hS (lv_sub hl [1, 2, 3, 4, 5, 6, 0] rfl)
                      replace hm := hb65
                      refine lv_icmp_ge (tgt := 214) hx hb d_Mo_line_206 (by decide) (fun c68 => ?_) (fun c68 => ?_)
                      · replace hm := if_t hm c68
                        refine lv_iload hx hb d_Mo_line_214 (lv_at hl 6 rfl) ?_
                        cases hm
                        exact K64 H locs ls hP hD hS (lv_sub hl [1, 2, 3, 4, 5, 0] rfl)
                      · replace hm := if_f hm c68
                        refine lv_iload hx hb d_Mo_line_209 (lv_at hl 7 rfl) ?_
                        refine lv_goto (tgt := 216) hx hb d_Mo_line_211 (by decide) ?_
                        cases hm
                        exact K64 H locs ls hP hD hS (lv_sub hl [1, 2, 3, 4, 5, 0] rfl)
                    replace hm := hb60
                    refine lv_icmp_ge (tgt := 198) hx hb d_Mo_line_190 (by decide) (fun c63 => ?_) (fun c63 => ?_)
                    · replace hm := if_t hm c63
                      refine lv_iload hx hb d_Mo_line_198 (lv_at hl 0 rfl) ?_
                      cases hm
                      exact K59 H locs ls hP hD hS (lv_sub hl [1, 2, 3, 4, 5, 6, 0] rfl)
                    · replace hm := if_f hm c63
                      refine lv_iload hx hb d_Mo_line_193 (lv_at hl 6 rfl) ?_
                      refine lv_goto (tgt := 200) hx hb d_Mo_line_195 (by decide) ?_
                      cases hm
                      exact K59 H locs ls hP hD hS (lv_sub hl [1, 2, 3, 4, 5, 6, 0] rfl)
                  replace hm := hb55
                  refine lv_if_eq (tgt := 182) hx hb d_Mo_line_175 (by decide) (fun c58 => ?_) (fun c58 => ?_)
                  · replace hm := if_t hm c58
                    refine lv_iload hx hb d_Mo_line_182 (lv_at hl 5 rfl) ?_
                    cases hm
                    exact K54 H locs ls hP hD hS (lv_sub hl [1, 2, 3, 6, 7, 0] rfl)
                  · replace hm := if_f hm c58
                    refine lv_iload_n hx hb d_Mo_line_178 rfl (lv_at hl 4 rfl) ?_
                    refine lv_goto (tgt := 184) hx hb d_Mo_line_179 (by decide) ?_
                    cases hm
                    exact K54 H locs ls hP hD hS (lv_sub hl [1, 2, 3, 6, 7, 0] rfl)
                replace hm := hb50
                refine lv_if_eq (tgt := 170) hx hb d_Mo_line_163 (by decide) (fun c53 => ?_) (fun c53 => ?_)
                · replace hm := if_t hm c53
                  refine lv_iload_n hx hb d_Mo_line_170 rfl (lv_at hl 3 rfl) ?_
                  cases hm
                  exact K49 H locs ls hP hD hS (lv_sub hl [1, 2, 3, 4, 5, 6, 0] rfl)
                · replace hm := if_f hm c53
                  refine lv_iload_n hx hb d_Mo_line_166 rfl (lv_at hl 2 rfl) ?_
                  refine lv_goto (tgt := 171) hx hb d_Mo_line_167 (by decide) ?_
                  cases hm
                  exact K49 H locs ls hP hD hS (lv_sub hl [1, 2, 3, 4, 5, 6, 0] rfl)
              replace hm := hb45
              refine lv_icmp_ne (tgt := 158) hx hb d_Mo_line_151 (by decide) (fun c48 => ?_) (fun c48 => ?_)
              · replace hm := if_f hm c48
                refine lv_iconst (v := 0) hx hb d_Mo_line_158 (by decide) ?_
                cases hm
                exact K44 H locs ls hP hD hS (lv_sub hl [0, 1, 2, 3, 4, 5] rfl)
              · replace hm := if_t hm c48
                refine lv_iconst (v := 1) hx hb d_Mo_line_154 (by decide) ?_
                refine lv_goto (tgt := 159) hx hb d_Mo_line_155 (by decide) ?_
                cases hm
                exact K44 H locs ls hP hD hS (lv_sub hl [0, 1, 2, 3, 4, 5] rfl)
            · replace hm := if_f hm c43
              refine lv_iconst (v := 0) hx hb d_Mo_line_146 (by decide) ?_
              cases hm
              exact hret _ H locs ls d_Mo_line_147 hP hD hS
          replace hm := hb37
          refine lv_if_eq (tgt := 118) hx hb d_Mo_line_110 (by decide) (fun c40 => ?_) (fun c40 => ?_)
          · replace hm := if_t hm c40
            refine lv_iconst (v := 1) hx hb d_Mo_line_118 (by decide) ?_
            refine lv_goto (tgt := 136) hx hb d_Mo_line_119 (by decide) ?_
            cases hm
            exact K36 H locs ls hP hD hS (lv_sub hl [1, 2, 3, 4, 5, 6] rfl)
          · replace hm := if_f hm c40
            refine lv_iload hx hb d_Mo_line_113 (lv_at hl 0 rfl) ?_
            refine lv_if_ne (tgt := 122) hx hb d_Mo_line_115 (by decide) (fun c41 => ?_) (fun c41 => ?_)
            · replace hm := if_f hm c41
              refine lv_aload_n hx hb d_Mo_line_122 rfl (lv_at hl 1 rfl) ?_
              refine va_get (D := (dC, dI)) (ci := 11) (v := .int v_0_lines) (C := "SpaceCyclesModel") (T := F_Mo) (N := 54) hx hb hts (in_F i_Mo) hown hK hP 0 rfl rfl 6 (by decide) (hts _ (in_c k_274)) (fun _ h9 => h9) rfl d_Mo_line_123 ?_
              refine lv_bipush (v := 20) hx hb d_Mo_line_126 (by decide) ?_
              refine lv_icmp_ne (tgt := 135) hx hb d_Mo_line_128 (by decide) (fun c42 => ?_) (fun c42 => ?_)
              · replace hm := if_f hm c42
                refine lv_iconst (v := 0) hx hb d_Mo_line_135 (by decide) ?_
                cases hm
                exact K36 H locs ls hP hD hS (lv_sub hl [1, 2, 3, 4, 5, 6] rfl)
              · replace hm := if_t hm c42
                refine lv_iconst (v := 2) hx hb d_Mo_line_131 (by decide) ?_
                refine lv_goto (tgt := 136) hx hb d_Mo_line_132 (by decide) ?_
                cases hm
                exact K36 H locs ls hP hD hS (lv_sub hl [1, 2, 3, 4, 5, 6] rfl)
            · replace hm := if_t hm c41
              refine lv_iconst (v := 1) hx hb d_Mo_line_118 (by decide) ?_
              refine lv_goto (tgt := 136) hx hb d_Mo_line_119 (by decide) ?_
              cases hm
              exact K36 H locs ls hP hD hS (lv_sub hl [1, 2, 3, 4, 5, 6] rfl)
        replace hm := hb32
        refine lv_icmp_eq (tgt := 104) hx hb d_Mo_line_97 (by decide) (fun c35 => ?_) (fun c35 => ?_)
        · replace hm := if_t hm c35
          refine lv_iconst (v := 0) hx hb d_Mo_line_104 (by decide) ?_
          cases hm
          exact K31 H locs ls hP hD hS (lv_sub hl [0, 1, 2, 3, 4, 5, 6] rfl)
        · replace hm := if_f hm c35
          refine lv_iconst (v := 1) hx hb d_Mo_line_100 (by decide) ?_
          refine lv_goto (tgt := 105) hx hb d_Mo_line_101 (by decide) ?_
          cases hm
          exact K31 H locs ls hP hD hS (lv_sub hl [0, 1, 2, 3, 4, 5, 6] rfl)
      replace hm := hb27
      refine lv_icmp_ne (tgt := 96) hx hb d_Mo_line_89 (by decide) (fun c30 => ?_) (fun c30 => ?_)
      · replace hm := if_f hm c30
        refine lv_iconst (v := 0) hx hb d_Mo_line_96 (by decide) ?_
        cases hm
        exact K26 H locs ls hP hD hS (lv_sub hl [0, 1, 2, 3, 4, 5, 6] rfl)
      · replace hm := if_t hm c30
        refine lv_iconst (v := 1) hx hb d_Mo_line_92 (by decide) ?_
        refine lv_goto (tgt := 97) hx hb d_Mo_line_93 (by decide) ?_
        cases hm
        exact K26 H locs ls hP hD hS (lv_sub hl [0, 1, 2, 3, 4, 5, 6] rfl)
    replace hm := hb22
    refine lv_icmp_ne (tgt := 85) hx hb d_Mo_line_78 (by decide) (fun c25 => ?_) (fun c25 => ?_)
    · replace hm := if_f hm c25
      refine lv_iconst (v := 0) hx hb d_Mo_line_85 (by decide) ?_
      cases hm
      exact K21 H locs ls hP hD hS (lv_sub hl [1, 2, 3, 4, 5, 6, 0] rfl)
    · replace hm := if_t hm c25
      refine lv_iconst (v := 1) hx hb d_Mo_line_81 (by decide) ?_
      refine lv_goto (tgt := 86) hx hb d_Mo_line_82 (by decide) ?_
      cases hm
      exact K21 H locs ls hP hD hS (lv_sub hl [1, 2, 3, 4, 5, 6, 0] rfl)
  replace hm := hb4
  refine lv_if_eq (tgt := 73) hx hb d_Mo_line_9 (by decide) (fun c7 => ?_) (fun c7 => ?_)
  · replace hm := if_t hm c7
    refine lv_iconst (v := 0) hx hb d_Mo_line_73 (by decide) ?_
    cases hm
    exact K3 H locs ls hP hD hS (lv_sub hl [0, 1, 2, 3, 4, 5] rfl)
  · replace hm := if_f hm c7
    refine lv_iload_n hx hb d_Mo_line_12 rfl (lv_at hl 2 rfl) ?_
    refine lv_i2l hx hb d_Mo_line_13 rfl ?_
    refine lv_lconst (v := 0) hx hb d_Mo_line_14 (by decide) ?_
    refine lv_ldc2 (v := 500) hx hb hown (hts (.constantLong "SpaceCyclesModel" 137 500) (by decide +kernel)) d_Mo_line_15 ?_
    obtain ⟨r8, hb9, hm⟩ := bd1_e hm
    have hPc := hP.sub (ws' := (wl_Mo_isIn)) [] rfl
    have hDc := hD.sub (ws' := (wl_Mo_isIn)) [] (by decide) rfl
    refine cl_i (wc' := (wl_Mo_isIn)) (va_runS (As := [.long (Int32.toInt64 p2), .long 0, .long 500]) (rest := []) ⟨hx, hb, hml, hown, hts⟩ (c_Mo_isIn l dC dI (cI := cI) (cZ := cZ) (cJ := cJ) H.size (Int32.toInt64 p2) 0 500 r8 hb9) (va_cwS 3 hts (gl_S k_278 k_276 k_277 k_275) rfl rfl rfl (by decide +kernel) ⟨Nat.le_of_ble_eq_true rfl, Nat.le_of_ble_eq_true rfl⟩) ⟨PP_blind, fun U hU hW => PP_at hK hN hPc hDc hU hW⟩ rfl rfl hl.1 rfl (lv_room (Nat.le_of_ble_eq_true rfl)) d_Mo_line_18 ⟨Nat.zero_le _, Nat.zero_le _⟩) hP hD hS hA [] [0, 1, 2, 3, 4, 5, 6] rfl rfl (by decide) (by decide) (fun H locs hP hD hS => ?_)
    have hP : va_P (dC, dI) vwCl (wl_Mo_line a_0 a_0_isFlat a_0_across a_0_lows a_0_highs a_0_thick a_0_doorCounts b_0_doorFrom b_0_doorTo b_0_xs b_0_ys b_0_labels b_0_oldXs b_0_oldYs b_0_oldLabels b_0_names b_0_oldNames b_0_wanted b_0_common b_0_flatEdges b_0_upEdges b_0_isPoint b_0_stack b_0_pieceLines b_0_pieceBegins b_0_pieceEnds b_0_pieceLeft b_0_pieceRight b_0_outs b_0_isSeen b_0_ringSpaces b_0_ringStarts b_0_ringSizes b_0_ringLeast b_0_looseLines b_0_looseXs b_0_looseYs b_0_looseReaches b_0_far cZ cI v_0_code v_0_lines v_0_isFresh v_0_hasRun v_0_runs v_0_nx v_0_ny v_0_spaces v_0_oldNx v_0_oldNy v_0_oldSpaces v_0_points v_0_pieces v_0_rings v_0_outsideSides v_0_looseCount f_0_isFlat f_0_across f_0_lows f_0_highs f_0_thick f_0_doorCounts) H := hP.sub [0, 1, 2, 3, 4, 5, 6] rfl
    have hD : va_D A (wl_Mo_line a_0 a_0_isFlat a_0_across a_0_lows a_0_highs a_0_thick a_0_doorCounts b_0_doorFrom b_0_doorTo b_0_xs b_0_ys b_0_labels b_0_oldXs b_0_oldYs b_0_oldLabels b_0_names b_0_oldNames b_0_wanted b_0_common b_0_flatEdges b_0_upEdges b_0_isPoint b_0_stack b_0_pieceLines b_0_pieceBegins b_0_pieceEnds b_0_pieceLeft b_0_pieceRight b_0_outs b_0_isSeen b_0_ringSpaces b_0_ringStarts b_0_ringSizes b_0_ringLeast b_0_looseLines b_0_looseXs b_0_looseYs b_0_looseReaches b_0_far cZ cI v_0_code v_0_lines v_0_isFresh v_0_hasRun v_0_runs v_0_nx v_0_ny v_0_spaces v_0_oldNx v_0_oldNy v_0_oldSpaces v_0_points v_0_pieces v_0_rings v_0_outsideSides v_0_looseCount f_0_isFlat f_0_across f_0_lows f_0_highs f_0_thick f_0_doorCounts) := hD.sub [0, 1, 2, 3, 4, 5, 6] (by decide) rfl
    refine lv_if_eq (tgt := 73) hx hb d_Mo_line_21 (by decide) (fun c10 => ?_) (fun c10 => ?_)
    · replace hm := if_t hm c10
      refine lv_iconst (v := 0) hx hb d_Mo_line_73 (by decide) ?_
      cases hm
      exact K3 H locs ls hP hD hS (lv_sub hl [0, 1, 2, 3, 4, 5] rfl)
    · replace hm := if_f hm c10
      refine lv_iload_n hx hb d_Mo_line_24 rfl (lv_at hl 3 rfl) ?_
      refine lv_i2l hx hb d_Mo_line_25 rfl ?_
      refine lv_lconst (v := 0) hx hb d_Mo_line_26 (by decide) ?_
      refine lv_ldc2 (v := 500) hx hb hown (hts (.constantLong "SpaceCyclesModel" 137 500) (by decide +kernel)) d_Mo_line_27 ?_
      obtain ⟨r11, hb12, hm⟩ := bd1_e hm
      have hPc := hP.sub (ws' := (wl_Mo_isIn)) [] rfl
      have hDc := hD.sub (ws' := (wl_Mo_isIn)) [] (by decide) rfl
      refine cl_i (wc' := (wl_Mo_isIn)) (va_runS (As := [.long (Int32.toInt64 p3), .long 0, .long 500]) (rest := []) ⟨hx, hb, hml, hown, hts⟩ (c_Mo_isIn l dC dI (cI := cI) (cZ := cZ) (cJ := cJ) H.size (Int32.toInt64 p3) 0 500 r11 hb12) (va_cwS 3 hts (gl_S k_278 k_276 k_277 k_275) rfl rfl rfl (by decide +kernel) ⟨Nat.le_of_ble_eq_true rfl, Nat.le_of_ble_eq_true rfl⟩) ⟨PP_blind, fun U hU hW => PP_at hK hN hPc hDc hU hW⟩ rfl rfl hl.1 rfl (lv_room (Nat.le_of_ble_eq_true rfl)) d_Mo_line_30 ⟨Nat.zero_le _, Nat.zero_le _⟩) hP hD hS hA [] [0, 1, 2, 3, 4, 5, 6] rfl rfl (by decide) (by decide) (fun H locs hP hD hS => ?_)
      have hP : va_P (dC, dI) vwCl (wl_Mo_line a_0 a_0_isFlat a_0_across a_0_lows a_0_highs a_0_thick a_0_doorCounts b_0_doorFrom b_0_doorTo b_0_xs b_0_ys b_0_labels b_0_oldXs b_0_oldYs b_0_oldLabels b_0_names b_0_oldNames b_0_wanted b_0_common b_0_flatEdges b_0_upEdges b_0_isPoint b_0_stack b_0_pieceLines b_0_pieceBegins b_0_pieceEnds b_0_pieceLeft b_0_pieceRight b_0_outs b_0_isSeen b_0_ringSpaces b_0_ringStarts b_0_ringSizes b_0_ringLeast b_0_looseLines b_0_looseXs b_0_looseYs b_0_looseReaches b_0_far cZ cI v_0_code v_0_lines v_0_isFresh v_0_hasRun v_0_runs v_0_nx v_0_ny v_0_spaces v_0_oldNx v_0_oldNy v_0_oldSpaces v_0_points v_0_pieces v_0_rings v_0_outsideSides v_0_looseCount f_0_isFlat f_0_across f_0_lows f_0_highs f_0_thick f_0_doorCounts) H := hP.sub [0, 1, 2, 3, 4, 5, 6] rfl
      have hD : va_D A (wl_Mo_line a_0 a_0_isFlat a_0_across a_0_lows a_0_highs a_0_thick a_0_doorCounts b_0_doorFrom b_0_doorTo b_0_xs b_0_ys b_0_labels b_0_oldXs b_0_oldYs b_0_oldLabels b_0_names b_0_oldNames b_0_wanted b_0_common b_0_flatEdges b_0_upEdges b_0_isPoint b_0_stack b_0_pieceLines b_0_pieceBegins b_0_pieceEnds b_0_pieceLeft b_0_pieceRight b_0_outs b_0_isSeen b_0_ringSpaces b_0_ringStarts b_0_ringSizes b_0_ringLeast b_0_looseLines b_0_looseXs b_0_looseYs b_0_looseReaches b_0_far cZ cI v_0_code v_0_lines v_0_isFresh v_0_hasRun v_0_runs v_0_nx v_0_ny v_0_spaces v_0_oldNx v_0_oldNy v_0_oldSpaces v_0_points v_0_pieces v_0_rings v_0_outsideSides v_0_looseCount f_0_isFlat f_0_across f_0_lows f_0_highs f_0_thick f_0_doorCounts) := hD.sub [0, 1, 2, 3, 4, 5, 6] (by decide) rfl
      refine lv_if_eq (tgt := 73) hx hb d_Mo_line_33 (by decide) (fun c13 => ?_) (fun c13 => ?_)
      · replace hm := if_t hm c13
        refine lv_iconst (v := 0) hx hb d_Mo_line_73 (by decide) ?_
        cases hm
        exact K3 H locs ls hP hD hS (lv_sub hl [0, 1, 2, 3, 4, 5] rfl)
      · replace hm := if_f hm c13
        refine lv_iload hx hb d_Mo_line_36 (lv_at hl 4 rfl) ?_
        refine lv_i2l hx hb d_Mo_line_38 rfl ?_
        refine lv_lconst (v := 0) hx hb d_Mo_line_39 (by decide) ?_
        refine lv_ldc2 (v := 500) hx hb hown (hts (.constantLong "SpaceCyclesModel" 137 500) (by decide +kernel)) d_Mo_line_40 ?_
        obtain ⟨r14, hb15, hm⟩ := bd1_e hm
        have hPc := hP.sub (ws' := (wl_Mo_isIn)) [] rfl
        have hDc := hD.sub (ws' := (wl_Mo_isIn)) [] (by decide) rfl
        refine cl_i (wc' := (wl_Mo_isIn)) (va_runS (As := [.long (Int32.toInt64 p4), .long 0, .long 500]) (rest := []) ⟨hx, hb, hml, hown, hts⟩ (c_Mo_isIn l dC dI (cI := cI) (cZ := cZ) (cJ := cJ) H.size (Int32.toInt64 p4) 0 500 r14 hb15) (va_cwS 3 hts (gl_S k_278 k_276 k_277 k_275) rfl rfl rfl (by decide +kernel) ⟨Nat.le_of_ble_eq_true rfl, Nat.le_of_ble_eq_true rfl⟩) ⟨PP_blind, fun U hU hW => PP_at hK hN hPc hDc hU hW⟩ rfl rfl hl.1 rfl (lv_room (Nat.le_of_ble_eq_true rfl)) d_Mo_line_43 ⟨Nat.zero_le _, Nat.zero_le _⟩) hP hD hS hA [] [0, 1, 2, 3, 4, 5, 6] rfl rfl (by decide) (by decide) (fun H locs hP hD hS => ?_)
        have hP : va_P (dC, dI) vwCl (wl_Mo_line a_0 a_0_isFlat a_0_across a_0_lows a_0_highs a_0_thick a_0_doorCounts b_0_doorFrom b_0_doorTo b_0_xs b_0_ys b_0_labels b_0_oldXs b_0_oldYs b_0_oldLabels b_0_names b_0_oldNames b_0_wanted b_0_common b_0_flatEdges b_0_upEdges b_0_isPoint b_0_stack b_0_pieceLines b_0_pieceBegins b_0_pieceEnds b_0_pieceLeft b_0_pieceRight b_0_outs b_0_isSeen b_0_ringSpaces b_0_ringStarts b_0_ringSizes b_0_ringLeast b_0_looseLines b_0_looseXs b_0_looseYs b_0_looseReaches b_0_far cZ cI v_0_code v_0_lines v_0_isFresh v_0_hasRun v_0_runs v_0_nx v_0_ny v_0_spaces v_0_oldNx v_0_oldNy v_0_oldSpaces v_0_points v_0_pieces v_0_rings v_0_outsideSides v_0_looseCount f_0_isFlat f_0_across f_0_lows f_0_highs f_0_thick f_0_doorCounts) H := hP.sub [0, 1, 2, 3, 4, 5, 6] rfl
        have hD : va_D A (wl_Mo_line a_0 a_0_isFlat a_0_across a_0_lows a_0_highs a_0_thick a_0_doorCounts b_0_doorFrom b_0_doorTo b_0_xs b_0_ys b_0_labels b_0_oldXs b_0_oldYs b_0_oldLabels b_0_names b_0_oldNames b_0_wanted b_0_common b_0_flatEdges b_0_upEdges b_0_isPoint b_0_stack b_0_pieceLines b_0_pieceBegins b_0_pieceEnds b_0_pieceLeft b_0_pieceRight b_0_outs b_0_isSeen b_0_ringSpaces b_0_ringStarts b_0_ringSizes b_0_ringLeast b_0_looseLines b_0_looseXs b_0_looseYs b_0_looseReaches b_0_far cZ cI v_0_code v_0_lines v_0_isFresh v_0_hasRun v_0_runs v_0_nx v_0_ny v_0_spaces v_0_oldNx v_0_oldNy v_0_oldSpaces v_0_points v_0_pieces v_0_rings v_0_outsideSides v_0_looseCount f_0_isFlat f_0_across f_0_lows f_0_highs f_0_thick f_0_doorCounts) := hD.sub [0, 1, 2, 3, 4, 5, 6] (by decide) rfl
        refine lv_if_eq (tgt := 73) hx hb d_Mo_line_46 (by decide) (fun c16 => ?_) (fun c16 => ?_)
        · replace hm := if_t hm c16
          refine lv_iconst (v := 0) hx hb d_Mo_line_73 (by decide) ?_
          cases hm
          exact K3 H locs ls hP hD hS (lv_sub hl [0, 1, 2, 3, 4, 5] rfl)
        · replace hm := if_f hm c16
          refine lv_iload hx hb d_Mo_line_49 (lv_at hl 5 rfl) ?_
          refine lv_i2l hx hb d_Mo_line_51 rfl ?_
          refine lv_lconst (v := 0) hx hb d_Mo_line_52 (by decide) ?_
          refine lv_ldc2 (v := 60) hx hb hown (hts (.constantLong "SpaceCyclesModel" 139 60) (by decide +kernel)) d_Mo_line_53 ?_
          obtain ⟨r17, hb18, hm⟩ := bd1_e hm
          have hPc := hP.sub (ws' := (wl_Mo_isIn)) [] rfl
          have hDc := hD.sub (ws' := (wl_Mo_isIn)) [] (by decide) rfl
          refine cl_i (wc' := (wl_Mo_isIn)) (va_runS (As := [.long (Int32.toInt64 p5), .long 0, .long 60]) (rest := []) ⟨hx, hb, hml, hown, hts⟩ (c_Mo_isIn l dC dI (cI := cI) (cZ := cZ) (cJ := cJ) H.size (Int32.toInt64 p5) 0 60 r17 hb18) (va_cwS 3 hts (gl_S k_278 k_276 k_277 k_275) rfl rfl rfl (by decide +kernel) ⟨Nat.le_of_ble_eq_true rfl, Nat.le_of_ble_eq_true rfl⟩) ⟨PP_blind, fun U hU hW => PP_at hK hN hPc hDc hU hW⟩ rfl rfl hl.1 rfl (lv_room (Nat.le_of_ble_eq_true rfl)) d_Mo_line_56 ⟨Nat.zero_le _, Nat.zero_le _⟩) hP hD hS hA [] [0, 1, 2, 3, 4, 5, 6] rfl rfl (by decide) (by decide) (fun H locs hP hD hS => ?_)
          have hP : va_P (dC, dI) vwCl (wl_Mo_line a_0 a_0_isFlat a_0_across a_0_lows a_0_highs a_0_thick a_0_doorCounts b_0_doorFrom b_0_doorTo b_0_xs b_0_ys b_0_labels b_0_oldXs b_0_oldYs b_0_oldLabels b_0_names b_0_oldNames b_0_wanted b_0_common b_0_flatEdges b_0_upEdges b_0_isPoint b_0_stack b_0_pieceLines b_0_pieceBegins b_0_pieceEnds b_0_pieceLeft b_0_pieceRight b_0_outs b_0_isSeen b_0_ringSpaces b_0_ringStarts b_0_ringSizes b_0_ringLeast b_0_looseLines b_0_looseXs b_0_looseYs b_0_looseReaches b_0_far cZ cI v_0_code v_0_lines v_0_isFresh v_0_hasRun v_0_runs v_0_nx v_0_ny v_0_spaces v_0_oldNx v_0_oldNy v_0_oldSpaces v_0_points v_0_pieces v_0_rings v_0_outsideSides v_0_looseCount f_0_isFlat f_0_across f_0_lows f_0_highs f_0_thick f_0_doorCounts) H := hP.sub [0, 1, 2, 3, 4, 5, 6] rfl
          have hD : va_D A (wl_Mo_line a_0 a_0_isFlat a_0_across a_0_lows a_0_highs a_0_thick a_0_doorCounts b_0_doorFrom b_0_doorTo b_0_xs b_0_ys b_0_labels b_0_oldXs b_0_oldYs b_0_oldLabels b_0_names b_0_oldNames b_0_wanted b_0_common b_0_flatEdges b_0_upEdges b_0_isPoint b_0_stack b_0_pieceLines b_0_pieceBegins b_0_pieceEnds b_0_pieceLeft b_0_pieceRight b_0_outs b_0_isSeen b_0_ringSpaces b_0_ringStarts b_0_ringSizes b_0_ringLeast b_0_looseLines b_0_looseXs b_0_looseYs b_0_looseReaches b_0_far cZ cI v_0_code v_0_lines v_0_isFresh v_0_hasRun v_0_runs v_0_nx v_0_ny v_0_spaces v_0_oldNx v_0_oldNy v_0_oldSpaces v_0_points v_0_pieces v_0_rings v_0_outsideSides v_0_looseCount f_0_isFlat f_0_across f_0_lows f_0_highs f_0_thick f_0_doorCounts) := hD.sub [0, 1, 2, 3, 4, 5, 6] (by decide) rfl
          refine lv_if_eq (tgt := 73) hx hb d_Mo_line_59 (by decide) (fun c19 => ?_) (fun c19 => ?_)
          · replace hm := if_t hm c19
            refine lv_iconst (v := 0) hx hb d_Mo_line_73 (by decide) ?_
            cases hm
            exact K3 H locs ls hP hD hS (lv_sub hl [0, 1, 2, 3, 4, 5] rfl)
          · replace hm := if_f hm c19
            refine lv_iload hx hb d_Mo_line_62 (lv_at hl 5 rfl) ?_
            refine lv_iconst (v := 2) hx hb d_Mo_line_64 (by decide) ?_
            refine lv_irem hx hb d_Mo_line_65 (by decide) ?_
            refine lv_if_ne (tgt := 73) hx hb d_Mo_line_66 (by decide) (fun c20 => ?_) (fun c20 => ?_)
            · replace hm := if_f hm c20
              refine lv_iconst (v := 0) hx hb d_Mo_line_73 (by decide) ?_
              cases hm
              exact K3 H locs ls hP hD hS (lv_sub hl [0, 1, 2, 3, 4, 5] rfl)
            · replace hm := if_t hm c20
              refine lv_iconst (v := 1) hx hb d_Mo_line_69 (by decide) ?_
              refine lv_goto (tgt := 74) hx hb d_Mo_line_70 (by decide) ?_
              cases hm
              exact K3 H locs ls hP hD hS (lv_sub hl [0, 1, 2, 3, 4, 5] rfl)
set_option maxHeartbeats 4000000 in
set_option maxRecDepth 100000 in
theorem c_Mo_line (l : Launch) (dC : Nat → ClassId) (dI : Nat → Nat → Nat) {cI cZ cJ : ClassId} (a_0 a_0_isFlat a_0_across a_0_lows a_0_highs a_0_thick a_0_doorCounts b_0_doorFrom b_0_doorTo b_0_xs b_0_ys b_0_labels b_0_oldXs b_0_oldYs b_0_oldLabels b_0_names b_0_oldNames b_0_wanted b_0_common b_0_flatEdges b_0_upEdges b_0_isPoint b_0_stack b_0_pieceLines b_0_pieceBegins b_0_pieceEnds b_0_pieceLeft b_0_pieceRight b_0_outs b_0_isSeen b_0_ringSpaces b_0_ringStarts b_0_ringSizes b_0_ringLeast b_0_looseLines b_0_looseXs b_0_looseYs b_0_looseReaches b_0_far : Nat) (sz : Nat) (v_0_code : Int32) (v_0_lines : Int32) (v_0_isFresh : Int32) (v_0_hasRun : Int32) (v_0_runs : Int32) (v_0_nx : Int32) (v_0_ny : Int32) (v_0_spaces : Int32) (v_0_oldNx : Int32) (v_0_oldNy : Int32) (v_0_oldSpaces : Int32) (v_0_points : Int32) (v_0_pieces : Int32) (v_0_rings : Int32) (v_0_outsideSides : Int32) (v_0_looseCount : Int32) (f_0_isFlat : Nat → Int32) (f_0_across : Nat → Int32) (f_0_lows : Nat → Int32) (f_0_highs : Nat → Int32) (f_0_thick : Nat → Int32) (f_0_doorCounts : Nat → Int32) (p1 : Int32) (p2 : Int32) (p3 : Int32) (p4 : Int32) (p5 : Int32) (R0 : Int32) (ov_0_code : Int32) (ov_0_lines : Int32) (ov_0_isFresh : Int32) (of_0_isFlat : Nat → Int32) (of_0_across : Nat → Int32) (of_0_lows : Nat → Int32) (of_0_highs : Nat → Int32) (of_0_thick : Nat → Int32) (of_0_doorCounts : Nat → Int32) (hm : m_Mo_line p1 p2 p3 p4 p5 v_0_code v_0_lines v_0_isFresh f_0_isFlat f_0_across f_0_lows f_0_highs f_0_thick f_0_doorCounts = some (R0, ov_0_code, ov_0_lines, ov_0_isFresh, of_0_isFlat, of_0_across, of_0_lows, of_0_highs, of_0_thick, of_0_doorCounts)) : Met l y_Mo_line w_Mo_line rm_Mo_line (PP dC dI [(cI, .int), (cZ, .boolean), (cJ, .long)] [.ref a_0, .int p1, .int p2, .int p3, .int p4, .int p5] sz (wl_Mo_line a_0 a_0_isFlat a_0_across a_0_lows a_0_highs a_0_thick a_0_doorCounts b_0_doorFrom b_0_doorTo b_0_xs b_0_ys b_0_labels b_0_oldXs b_0_oldYs b_0_oldLabels b_0_names b_0_oldNames b_0_wanted b_0_common b_0_flatEdges b_0_upEdges b_0_isPoint b_0_stack b_0_pieceLines b_0_pieceBegins b_0_pieceEnds b_0_pieceLeft b_0_pieceRight b_0_outs b_0_isSeen b_0_ringSpaces b_0_ringStarts b_0_ringSizes b_0_ringLeast b_0_looseLines b_0_looseXs b_0_looseYs b_0_looseReaches b_0_far cZ cI v_0_code v_0_lines v_0_isFresh v_0_hasRun v_0_runs v_0_nx v_0_ny v_0_spaces v_0_oldNx v_0_oldNy v_0_oldSpaces v_0_points v_0_pieces v_0_rings v_0_outsideSides v_0_looseCount f_0_isFlat f_0_across f_0_lows f_0_highs f_0_thick f_0_doorCounts)) (QI dC dI [(cI, .int), (cZ, .boolean), (cJ, .long)] sz (wl_Mo_line a_0 a_0_isFlat a_0_across a_0_lows a_0_highs a_0_thick a_0_doorCounts b_0_doorFrom b_0_doorTo b_0_xs b_0_ys b_0_labels b_0_oldXs b_0_oldYs b_0_oldLabels b_0_names b_0_oldNames b_0_wanted b_0_common b_0_flatEdges b_0_upEdges b_0_isPoint b_0_stack b_0_pieceLines b_0_pieceBegins b_0_pieceEnds b_0_pieceLeft b_0_pieceRight b_0_outs b_0_isSeen b_0_ringSpaces b_0_ringStarts b_0_ringSizes b_0_ringLeast b_0_looseLines b_0_looseXs b_0_looseYs b_0_looseReaches b_0_far cZ cI v_0_code v_0_lines v_0_isFresh v_0_hasRun v_0_runs v_0_nx v_0_ny v_0_spaces v_0_oldNx v_0_oldNy v_0_oldSpaces v_0_points v_0_pieces v_0_rings v_0_outsideSides v_0_looseCount f_0_isFlat f_0_across f_0_lows f_0_highs f_0_thick f_0_doorCounts) (wl_Mo_line a_0 a_0_isFlat a_0_across a_0_lows a_0_highs a_0_thick a_0_doorCounts b_0_doorFrom b_0_doorTo b_0_xs b_0_ys b_0_labels b_0_oldXs b_0_oldYs b_0_oldLabels b_0_names b_0_oldNames b_0_wanted b_0_common b_0_flatEdges b_0_upEdges b_0_isPoint b_0_stack b_0_pieceLines b_0_pieceBegins b_0_pieceEnds b_0_pieceLeft b_0_pieceRight b_0_outs b_0_isSeen b_0_ringSpaces b_0_ringStarts b_0_ringSizes b_0_ringLeast b_0_looseLines b_0_looseXs b_0_looseYs b_0_looseReaches b_0_far cZ cI ov_0_code ov_0_lines ov_0_isFresh v_0_hasRun v_0_runs v_0_nx v_0_ny v_0_spaces v_0_oldNx v_0_oldNy v_0_oldSpaces v_0_points v_0_pieces v_0_rings v_0_outsideSides v_0_looseCount of_0_isFlat of_0_across of_0_lows of_0_highs of_0_thick of_0_doorCounts) R0) 0 0 (va_A (wl_Mo_line a_0 a_0_isFlat a_0_across a_0_lows a_0_highs a_0_thick a_0_doorCounts b_0_doorFrom b_0_doorTo b_0_xs b_0_ys b_0_labels b_0_oldXs b_0_oldYs b_0_oldLabels b_0_names b_0_oldNames b_0_wanted b_0_common b_0_flatEdges b_0_upEdges b_0_isPoint b_0_stack b_0_pieceLines b_0_pieceBegins b_0_pieceEnds b_0_pieceLeft b_0_pieceRight b_0_outs b_0_isSeen b_0_ringSpaces b_0_ringStarts b_0_ringSizes b_0_ringLeast b_0_looseLines b_0_looseXs b_0_looseYs b_0_looseReaches b_0_far cZ cI v_0_code v_0_lines v_0_isFresh v_0_hasRun v_0_runs v_0_nx v_0_ny v_0_spaces v_0_oldNx v_0_oldNy v_0_oldSpaces v_0_points v_0_pieces v_0_rings v_0_outsideSides v_0_looseCount f_0_isFlat f_0_across f_0_lows f_0_highs f_0_thick f_0_doorCounts) sz) := by
  refine Met.ofW (cc := b_Mo_line) (maxL := 13) (ret := (some .int)) (by decide) rfl ?_
  intro p e s m args below meth c s₁ B hml hv
  obtain ⟨rfl, hsz, hP, hK, hD0, hN⟩ := hv
  subst hsz
  have hl := lv_entry ([.ref a_0, .int p1, .int p2, .int p3, .int p4, .int p5]) (n := 13) (Nat.le_of_ble_eq_true rfl)
  rw [lg_entry_eq]
  generalize (lg_sl ([.ref a_0, .int p1, .int p2, .int p3, .int p4, .int p5]) ++ List.replicate (13 - (lg_sl ([.ref a_0, .int p1, .int p2, .int p3, .int p4, .int p5])).length) Slot.unset).toArray = ls at hl ⊢
  exact t_Mo_line a_0 a_0_isFlat a_0_across a_0_lows a_0_highs a_0_thick a_0_doorCounts b_0_doorFrom b_0_doorTo b_0_xs b_0_ys b_0_labels b_0_oldXs b_0_oldYs b_0_oldLabels b_0_names b_0_oldNames b_0_wanted b_0_common b_0_flatEdges b_0_upEdges b_0_isPoint b_0_stack b_0_pieceLines b_0_pieceBegins b_0_pieceEnds b_0_pieceLeft b_0_pieceRight b_0_outs b_0_isSeen b_0_ringSpaces b_0_ringStarts b_0_ringSizes b_0_ringLeast b_0_looseLines b_0_looseXs b_0_looseYs b_0_looseReaches b_0_far v_0_code v_0_lines v_0_isFresh v_0_hasRun v_0_runs v_0_nx v_0_ny v_0_spaces v_0_oldNx v_0_oldNy v_0_oldSpaces v_0_points v_0_pieces v_0_rings v_0_outsideSides v_0_looseCount f_0_isFlat f_0_across f_0_lows f_0_highs f_0_thick f_0_doorCounts p1 p2 p3 p4 p5 R0 ov_0_code ov_0_lines ov_0_isFresh of_0_isFlat of_0_across of_0_lows of_0_highs of_0_thick of_0_doorCounts B.exec B.bytes hml (findClass_of_methodNamed B.named) (atoms_spec (ws := w_Mo_line) B.pre) hK hN (fun q h => Or.inr h) (fun pc H locs ls hd hP9 hD9 hS => W.iret B.exec B.bytes B.returns (fun t ht hW => ⟨⟨_, (), rfl, rfl, by rw [ht]; exact hP9, va_K.moved hW.alike hK, hD9⟩, hS.F ht⟩) hS.2.2 hd) hm s.heap [] ls hP hD0.self va_S.rf hl

theorem k_290 : ((.code ⟨"SpaceCyclesModel", "isLine", "(I)Z"⟩ prog_13_method_4_code 2 (some .boolean)) : Cond) ∈ gl := gl_i 1308 (by decide +kernel) (by decide +kernel)
theorem k_291 : ((.selects "SpaceCyclesModel" ⟨"SpaceCyclesModel", "isLine", "(I)Z"⟩ ⟨"SpaceCyclesModel", "isLine", "(I)Z"⟩) : Cond) ∈ gl := gl_s (by decide +kernel) (by decide +kernel)
theorem k_292 : ((.instanceMethod ⟨"SpaceCyclesModel", "isLine", "(I)Z"⟩) : Cond) ∈ gl := gl_i 1307 (by decide +kernel) (by decide +kernel)
theorem k_293 : ((.methodLink "SpaceCyclesModel" 149 ⟨"SpaceCyclesModel", "isLine", "(I)Z"⟩) : Cond) ∈ gl := gl_i 1305 (by decide +kernel) (by decide +kernel)
-- SpaceCyclesModel.move(III)Z
abbrev b_Mo_move : ByteArray := prog_13_method_7_code
abbrev y_Mo_move : MethodName := ⟨"SpaceCyclesModel", "move", "(III)Z"⟩
abbrev w_Mo_move : List Cond := Cond.code y_Mo_move b_Mo_move 11 (some .boolean) :: gl
abbrev rm_Mo_move : Room := { frames := 2, cells := 0, slots := 0, locals := 46 }
theorem d_Mo_move_0 : decode b_Mo_move 0 = .ok (.aload_n 0, 1) := by decide +kernel
theorem d_Mo_move_1 : decode b_Mo_move 1 = .ok (.aload_n 0, 1) := by decide +kernel
theorem d_Mo_move_2 : decode b_Mo_move 2 = .ok (.iload_n 1, 1) := by decide +kernel
theorem d_Mo_move_3 : decode b_Mo_move 3 = .ok (.invokevirtual 149, 3) := by decide +kernel
theorem d_Mo_move_6 : decode b_Mo_move 6 = .ok (.ifCond .eq 7, 3) := by decide +kernel
theorem d_Mo_move_9 : decode b_Mo_move 9 = .ok (.iconst 0, 1) := by decide +kernel
theorem d_Mo_move_10 : decode b_Mo_move 10 = .ok (.goto 4, 3) := by decide +kernel
theorem d_Mo_move_13 : decode b_Mo_move 13 = .ok (.iconst 1, 1) := by decide +kernel
theorem d_Mo_move_14 : decode b_Mo_move 14 = .ok (.putfield 126, 3) := by decide +kernel
theorem d_Mo_move_17 : decode b_Mo_move 17 = .ok (.aload_n 0, 1) := by decide +kernel
theorem d_Mo_move_18 : decode b_Mo_move 18 = .ok (.getfield 126, 3) := by decide +kernel
theorem d_Mo_move_21 : decode b_Mo_move 21 = .ok (.ifCond .le 5, 3) := by decide +kernel
theorem d_Mo_move_24 : decode b_Mo_move 24 = .ok (.iconst 0, 1) := by decide +kernel
theorem d_Mo_move_25 : decode b_Mo_move 25 = .ok (.ireturn, 1) := by decide +kernel
theorem d_Mo_move_26 : decode b_Mo_move 26 = .ok (.aload_n 0, 1) := by decide +kernel
theorem d_Mo_move_27 : decode b_Mo_move 27 = .ok (.getfield 7, 3) := by decide +kernel
theorem d_Mo_move_30 : decode b_Mo_move 30 = .ok (.iload_n 1, 1) := by decide +kernel
theorem d_Mo_move_31 : decode b_Mo_move 31 = .ok (.baload, 1) := by decide +kernel
theorem d_Mo_move_32 : decode b_Mo_move 32 = .ok (.istore 4, 2) := by decide +kernel
theorem d_Mo_move_34 : decode b_Mo_move 34 = .ok (.aload_n 0, 1) := by decide +kernel
theorem d_Mo_move_35 : decode b_Mo_move 35 = .ok (.getfield 13, 3) := by decide +kernel
theorem d_Mo_move_38 : decode b_Mo_move 38 = .ok (.iload_n 1, 1) := by decide +kernel
theorem d_Mo_move_39 : decode b_Mo_move 39 = .ok (.iaload, 1) := by decide +kernel
theorem d_Mo_move_40 : decode b_Mo_move 40 = .ok (.i2l, 1) := by decide +kernel
theorem d_Mo_move_41 : decode b_Mo_move 41 = .ok (.iload 4, 2) := by decide +kernel
theorem d_Mo_move_43 : decode b_Mo_move 43 = .ok (.ifCond .eq 7, 3) := by decide +kernel
theorem d_Mo_move_46 : decode b_Mo_move 46 = .ok (.iload_n 3, 1) := by decide +kernel
theorem d_Mo_move_47 : decode b_Mo_move 47 = .ok (.goto 4, 3) := by decide +kernel
theorem d_Mo_move_50 : decode b_Mo_move 50 = .ok (.iload_n 2, 1) := by decide +kernel
theorem d_Mo_move_51 : decode b_Mo_move 51 = .ok (.i2l, 1) := by decide +kernel
theorem d_Mo_move_52 : decode b_Mo_move 52 = .ok (.ladd, 1) := by decide +kernel
theorem d_Mo_move_53 : decode b_Mo_move 53 = .ok (.lstore 5, 2) := by decide +kernel
theorem d_Mo_move_55 : decode b_Mo_move 55 = .ok (.aload_n 0, 1) := by decide +kernel
theorem d_Mo_move_56 : decode b_Mo_move 56 = .ok (.getfield 17, 3) := by decide +kernel
theorem d_Mo_move_59 : decode b_Mo_move 59 = .ok (.iload_n 1, 1) := by decide +kernel
theorem d_Mo_move_60 : decode b_Mo_move 60 = .ok (.iaload, 1) := by decide +kernel
theorem d_Mo_move_61 : decode b_Mo_move 61 = .ok (.i2l, 1) := by decide +kernel
theorem d_Mo_move_62 : decode b_Mo_move 62 = .ok (.iload 4, 2) := by decide +kernel
theorem d_Mo_move_64 : decode b_Mo_move 64 = .ok (.ifCond .eq 7, 3) := by decide +kernel
theorem d_Mo_move_67 : decode b_Mo_move 67 = .ok (.iload_n 2, 1) := by decide +kernel
theorem d_Mo_move_68 : decode b_Mo_move 68 = .ok (.goto 4, 3) := by decide +kernel
theorem d_Mo_move_71 : decode b_Mo_move 71 = .ok (.iload_n 3, 1) := by decide +kernel
theorem d_Mo_move_72 : decode b_Mo_move 72 = .ok (.i2l, 1) := by decide +kernel
theorem d_Mo_move_73 : decode b_Mo_move 73 = .ok (.ladd, 1) := by decide +kernel
theorem d_Mo_move_74 : decode b_Mo_move 74 = .ok (.lstore 7, 2) := by decide +kernel
theorem d_Mo_move_76 : decode b_Mo_move 76 = .ok (.aload_n 0, 1) := by decide +kernel
theorem d_Mo_move_77 : decode b_Mo_move 77 = .ok (.getfield 20, 3) := by decide +kernel
theorem d_Mo_move_80 : decode b_Mo_move 80 = .ok (.iload_n 1, 1) := by decide +kernel
theorem d_Mo_move_81 : decode b_Mo_move 81 = .ok (.iaload, 1) := by decide +kernel
theorem d_Mo_move_82 : decode b_Mo_move 82 = .ok (.i2l, 1) := by decide +kernel
theorem d_Mo_move_83 : decode b_Mo_move 83 = .ok (.iload 4, 2) := by decide +kernel
theorem d_Mo_move_85 : decode b_Mo_move 85 = .ok (.ifCond .eq 7, 3) := by decide +kernel
theorem d_Mo_move_88 : decode b_Mo_move 88 = .ok (.iload_n 2, 1) := by decide +kernel
theorem d_Mo_move_89 : decode b_Mo_move 89 = .ok (.goto 4, 3) := by decide +kernel
theorem d_Mo_move_92 : decode b_Mo_move 92 = .ok (.iload_n 3, 1) := by decide +kernel
theorem d_Mo_move_93 : decode b_Mo_move 93 = .ok (.i2l, 1) := by decide +kernel
theorem d_Mo_move_94 : decode b_Mo_move 94 = .ok (.ladd, 1) := by decide +kernel
theorem d_Mo_move_95 : decode b_Mo_move 95 = .ok (.lstore 9, 2) := by decide +kernel
theorem d_Mo_move_97 : decode b_Mo_move 97 = .ok (.aload_n 0, 1) := by decide +kernel
theorem d_Mo_move_98 : decode b_Mo_move 98 = .ok (.lload 5, 2) := by decide +kernel
theorem d_Mo_move_100 : decode b_Mo_move 100 = .ok (.lconst 0, 1) := by decide +kernel
theorem d_Mo_move_101 : decode b_Mo_move 101 = .ok (.ldc2_w 137, 3) := by decide +kernel
theorem d_Mo_move_104 : decode b_Mo_move 104 = .ok (.invokestatic 133, 3) := by decide +kernel
theorem d_Mo_move_107 : decode b_Mo_move 107 = .ok (.ifCond .eq 31, 3) := by decide +kernel
theorem d_Mo_move_110 : decode b_Mo_move 110 = .ok (.lload 7, 2) := by decide +kernel
theorem d_Mo_move_112 : decode b_Mo_move 112 = .ok (.lconst 0, 1) := by decide +kernel
theorem d_Mo_move_113 : decode b_Mo_move 113 = .ok (.ldc2_w 137, 3) := by decide +kernel
theorem d_Mo_move_116 : decode b_Mo_move 116 = .ok (.invokestatic 133, 3) := by decide +kernel
theorem d_Mo_move_119 : decode b_Mo_move 119 = .ok (.ifCond .eq 19, 3) := by decide +kernel
theorem d_Mo_move_122 : decode b_Mo_move 122 = .ok (.lload 9, 2) := by decide +kernel
theorem d_Mo_move_124 : decode b_Mo_move 124 = .ok (.lconst 0, 1) := by decide +kernel
theorem d_Mo_move_125 : decode b_Mo_move 125 = .ok (.ldc2_w 137, 3) := by decide +kernel
theorem d_Mo_move_128 : decode b_Mo_move 128 = .ok (.invokestatic 133, 3) := by decide +kernel
theorem d_Mo_move_131 : decode b_Mo_move 131 = .ok (.ifCond .eq 7, 3) := by decide +kernel
theorem d_Mo_move_134 : decode b_Mo_move 134 = .ok (.iconst 0, 1) := by decide +kernel
theorem d_Mo_move_135 : decode b_Mo_move 135 = .ok (.goto 4, 3) := by decide +kernel
theorem d_Mo_move_138 : decode b_Mo_move 138 = .ok (.iconst 1, 1) := by decide +kernel
theorem d_Mo_move_139 : decode b_Mo_move 139 = .ok (.putfield 126, 3) := by decide +kernel
theorem d_Mo_move_142 : decode b_Mo_move 142 = .ok (.aload_n 0, 1) := by decide +kernel
theorem d_Mo_move_143 : decode b_Mo_move 143 = .ok (.getfield 126, 3) := by decide +kernel
theorem d_Mo_move_146 : decode b_Mo_move 146 = .ok (.ifCond .gt 22, 3) := by decide +kernel
theorem d_Mo_move_149 : decode b_Mo_move 149 = .ok (.aload_n 0, 1) := by decide +kernel
theorem d_Mo_move_150 : decode b_Mo_move 150 = .ok (.iload_n 1, 1) := by decide +kernel
theorem d_Mo_move_151 : decode b_Mo_move 151 = .ok (.iload 4, 2) := by decide +kernel
theorem d_Mo_move_153 : decode b_Mo_move 153 = .ok (.lload 5, 2) := by decide +kernel
theorem d_Mo_move_155 : decode b_Mo_move 155 = .ok (.l2i, 1) := by decide +kernel
theorem d_Mo_move_156 : decode b_Mo_move 156 = .ok (.lload 7, 2) := by decide +kernel
theorem d_Mo_move_158 : decode b_Mo_move 158 = .ok (.l2i, 1) := by decide +kernel
theorem d_Mo_move_159 : decode b_Mo_move 159 = .ok (.lload 9, 2) := by decide +kernel
theorem d_Mo_move_161 : decode b_Mo_move 161 = .ok (.l2i, 1) := by decide +kernel
theorem d_Mo_move_162 : decode b_Mo_move 162 = .ok (.invokevirtual 141, 3) := by decide +kernel
theorem d_Mo_move_165 : decode b_Mo_move 165 = .ok (.ifCond .eq 5, 3) := by decide +kernel
theorem d_Mo_move_168 : decode b_Mo_move 168 = .ok (.iconst 0, 1) := by decide +kernel
theorem d_Mo_move_169 : decode b_Mo_move 169 = .ok (.ireturn, 1) := by decide +kernel
theorem d_Mo_move_170 : decode b_Mo_move 170 = .ok (.aload_n 0, 1) := by decide +kernel
theorem d_Mo_move_171 : decode b_Mo_move 171 = .ok (.getfield 13, 3) := by decide +kernel
theorem d_Mo_move_174 : decode b_Mo_move 174 = .ok (.iload_n 1, 1) := by decide +kernel
theorem d_Mo_move_175 : decode b_Mo_move 175 = .ok (.lload 5, 2) := by decide +kernel
theorem d_Mo_move_177 : decode b_Mo_move 177 = .ok (.l2i, 1) := by decide +kernel
theorem d_Mo_move_178 : decode b_Mo_move 178 = .ok (.iastore, 1) := by decide +kernel
theorem d_Mo_move_179 : decode b_Mo_move 179 = .ok (.aload_n 0, 1) := by decide +kernel
theorem d_Mo_move_180 : decode b_Mo_move 180 = .ok (.getfield 17, 3) := by decide +kernel
theorem d_Mo_move_183 : decode b_Mo_move 183 = .ok (.iload_n 1, 1) := by decide +kernel
theorem d_Mo_move_184 : decode b_Mo_move 184 = .ok (.lload 7, 2) := by decide +kernel
theorem d_Mo_move_186 : decode b_Mo_move 186 = .ok (.l2i, 1) := by decide +kernel
theorem d_Mo_move_187 : decode b_Mo_move 187 = .ok (.iastore, 1) := by decide +kernel
theorem d_Mo_move_188 : decode b_Mo_move 188 = .ok (.aload_n 0, 1) := by decide +kernel
theorem d_Mo_move_189 : decode b_Mo_move 189 = .ok (.getfield 20, 3) := by decide +kernel
theorem d_Mo_move_192 : decode b_Mo_move 192 = .ok (.iload_n 1, 1) := by decide +kernel
theorem d_Mo_move_193 : decode b_Mo_move 193 = .ok (.lload 9, 2) := by decide +kernel
theorem d_Mo_move_195 : decode b_Mo_move 195 = .ok (.l2i, 1) := by decide +kernel
theorem d_Mo_move_196 : decode b_Mo_move 196 = .ok (.iastore, 1) := by decide +kernel
theorem d_Mo_move_197 : decode b_Mo_move 197 = .ok (.aload_n 0, 1) := by decide +kernel
theorem d_Mo_move_198 : decode b_Mo_move 198 = .ok (.iconst 0, 1) := by decide +kernel
theorem d_Mo_move_199 : decode b_Mo_move 199 = .ok (.putfield 145, 3) := by decide +kernel
theorem d_Mo_move_202 : decode b_Mo_move 202 = .ok (.iconst 1, 1) := by decide +kernel
theorem d_Mo_move_203 : decode b_Mo_move 203 = .ok (.ireturn, 1) := by decide +kernel
abbrev wl_Mo_move (a_0 : Nat) (a_0_isFlat : Nat) (a_0_across : Nat) (a_0_lows : Nat) (a_0_highs : Nat) (b_0_thick : Nat) (b_0_doorCounts : Nat) (b_0_doorFrom : Nat) (b_0_doorTo : Nat) (b_0_xs : Nat) (b_0_ys : Nat) (b_0_labels : Nat) (b_0_oldXs : Nat) (b_0_oldYs : Nat) (b_0_oldLabels : Nat) (b_0_names : Nat) (b_0_oldNames : Nat) (b_0_wanted : Nat) (b_0_common : Nat) (b_0_flatEdges : Nat) (b_0_upEdges : Nat) (b_0_isPoint : Nat) (b_0_stack : Nat) (b_0_pieceLines : Nat) (b_0_pieceBegins : Nat) (b_0_pieceEnds : Nat) (b_0_pieceLeft : Nat) (b_0_pieceRight : Nat) (b_0_outs : Nat) (b_0_isSeen : Nat) (b_0_ringSpaces : Nat) (b_0_ringStarts : Nat) (b_0_ringSizes : Nat) (b_0_ringLeast : Nat) (b_0_looseLines : Nat) (b_0_looseXs : Nat) (b_0_looseYs : Nat) (b_0_looseReaches : Nat) (b_0_far : Nat) (cZ : ClassId) (cI : ClassId) (v_0_code : Int32) (v_0_lines : Int32) (v_0_isFresh : Int32) (v_0_hasRun : Int32) (v_0_runs : Int32) (v_0_nx : Int32) (v_0_ny : Int32) (v_0_spaces : Int32) (v_0_oldNx : Int32) (v_0_oldNy : Int32) (v_0_oldSpaces : Int32) (v_0_points : Int32) (v_0_pieces : Int32) (v_0_rings : Int32) (v_0_outsideSides : Int32) (v_0_looseCount : Int32) (f_0_isFlat : Nat → Int32) (f_0_across : Nat → Int32) (f_0_lows : Nat → Int32) (f_0_highs : Nat → Int32) : va_W := [(a_0, .inr (11, [.int v_0_code, .ref a_0_isFlat, .ref a_0_across, .ref a_0_lows, .ref a_0_highs, .ref b_0_thick, .int v_0_lines, .ref b_0_doorCounts, .ref b_0_doorFrom, .ref b_0_doorTo, .int v_0_isFresh, .int v_0_hasRun, .int v_0_runs, .ref b_0_xs, .ref b_0_ys, .int v_0_nx, .int v_0_ny, .ref b_0_labels, .int v_0_spaces, .ref b_0_oldXs, .ref b_0_oldYs, .int v_0_oldNx, .int v_0_oldNy, .ref b_0_oldLabels, .int v_0_oldSpaces, .ref b_0_names, .ref b_0_oldNames, .ref b_0_wanted, .ref b_0_common, .ref b_0_flatEdges, .ref b_0_upEdges, .ref b_0_isPoint, .int v_0_points, .ref b_0_stack, .ref b_0_pieceLines, .ref b_0_pieceBegins, .ref b_0_pieceEnds, .ref b_0_pieceLeft, .ref b_0_pieceRight, .int v_0_pieces, .ref b_0_outs, .ref b_0_isSeen, .ref b_0_ringSpaces, .ref b_0_ringStarts, .ref b_0_ringSizes, .ref b_0_ringLeast, .int v_0_rings, .int v_0_outsideSides, .ref b_0_looseLines, .ref b_0_looseXs, .ref b_0_looseYs, .ref b_0_looseReaches, .int v_0_looseCount, .ref b_0_far])), (a_0_isFlat, .inl (cZ, 20, .inl f_0_isFlat)), (a_0_across, .inl (cI, 20, .inl f_0_across)), (a_0_lows, .inl (cI, 20, .inl f_0_lows)), (a_0_highs, .inl (cI, 20, .inl f_0_highs))]
def m_Mo_move (p1 : Int32) (p2 : Int32) (p3 : Int32) (v_0_code : Int32) (v_0_lines : Int32) (v_0_isFresh : Int32) (f_0_isFlat : Nat → Int32) (f_0_across : Nat → Int32) (f_0_lows : Nat → Int32) (f_0_highs : Nat → Int32) : Option (Int32 × (Int32) × (Int32) × (Nat → Int32) × (Nat → Int32) × (Nat → Int32)) :=
  bd1 (m_Mo_isLine p1 v_0_lines) fun r1 =>
  bd1 (
    if r1 = 0 then (
    some 1)
  else (
    some 0))
  fun (x6 : Int32) =>
  if x6 ≤ 0 then (
      gI p1 20 <|
      lt_ (f_0_isFlat p1.toNatClampNeg) fun x10 =>
      gI p1 20 <|
      bd1 (
        if x10 = 0 then (
        some p2)
      else (
        some p3))
      fun (x15 : Int32) =>
      lt_ ((Int32.toInt64 (f_0_across p1.toNatClampNeg)) + (Int32.toInt64 x15)) fun y17 =>
        gI p1 20 <|
        bd1 (
          if x10 = 0 then (
          some p3)
        else (
          some p2))
        fun (x22 : Int32) =>
        lt_ ((Int32.toInt64 (f_0_lows p1.toNatClampNeg)) + (Int32.toInt64 x22)) fun y24 =>
          gI p1 20 <|
          bd1 (
            if x10 = 0 then (
            some p3)
          else (
            some p2))
          fun (x29 : Int32) =>
          lt_ ((Int32.toInt64 (f_0_highs p1.toNatClampNeg)) + (Int32.toInt64 x29)) fun y31 =>
            bd1 (m_Mo_isIn y17 0 500) fun r32 =>
            bd1 (
              if r32 = 0 then (
              some 1)
            else (
              bd1 (m_Mo_isIn y24 0 500) fun r39 =>
              if r39 = 0 then (
                some 1)
              else (
                bd1 (m_Mo_isIn y31 0 500) fun r42 =>
                if r42 = 0 then (
                  some 1)
                else (
                  some 0))))
            fun (x37 : Int32) =>
            if 0 < x37 then (
                gB 0 <|
                some (0, x37, v_0_isFresh, f_0_across, f_0_lows, f_0_highs))
              else (
                bd1 (m_Mo_lies p1 x10 (Int64.toInt32 y17) (Int64.toInt32 y24) (Int64.toInt32 y31) v_0_lines f_0_isFlat f_0_across f_0_lows f_0_highs) fun r46 =>
                if r46 = 0 then (
                  gI p1 20 <|
                  lt_ (upd f_0_across p1.toNatClampNeg (Int64.toInt32 y17)) fun f50 =>
                  gI p1 20 <|
                  lt_ (upd f_0_lows p1.toNatClampNeg (Int64.toInt32 y24)) fun f52 =>
                  gI p1 20 <|
                  lt_ (upd f_0_highs p1.toNatClampNeg (Int64.toInt32 y31)) fun f54 =>
                  gB 1 <|
                  some (1, x37, 0, f50, f52, f54))
                else (
                  gB 0 <|
                  some (0, x37, v_0_isFresh, f_0_across, f_0_lows, f_0_highs))))
    else (
      gB 0 <|
      some (0, x6, v_0_isFresh, f_0_across, f_0_lows, f_0_highs))

set_option maxHeartbeats 4000000 in
set_option maxRecDepth 100000 in
theorem t_Mo_move {p : Program} {l : Launch} {e : Env} {s : State} {m : MethodId} {args : Array Value} {below : List Frame} {meth : Method} {c : Code} {A : Nat → Prop} {Q : State → Prop} {dC : Nat → ClassId} {dI : Nat → Nat → Nat} {cI cZ cJ : ClassId} (a_0 a_0_isFlat a_0_across a_0_lows a_0_highs b_0_thick b_0_doorCounts b_0_doorFrom b_0_doorTo b_0_xs b_0_ys b_0_labels b_0_oldXs b_0_oldYs b_0_oldLabels b_0_names b_0_oldNames b_0_wanted b_0_common b_0_flatEdges b_0_upEdges b_0_isPoint b_0_stack b_0_pieceLines b_0_pieceBegins b_0_pieceEnds b_0_pieceLeft b_0_pieceRight b_0_outs b_0_isSeen b_0_ringSpaces b_0_ringStarts b_0_ringSizes b_0_ringLeast b_0_looseLines b_0_looseXs b_0_looseYs b_0_looseReaches b_0_far : Nat) (v_0_code : Int32) (v_0_lines : Int32) (v_0_isFresh : Int32) (v_0_hasRun : Int32) (v_0_runs : Int32) (v_0_nx : Int32) (v_0_ny : Int32) (v_0_spaces : Int32) (v_0_oldNx : Int32) (v_0_oldNy : Int32) (v_0_oldSpaces : Int32) (v_0_points : Int32) (v_0_pieces : Int32) (v_0_rings : Int32) (v_0_outsideSides : Int32) (v_0_looseCount : Int32) (f_0_isFlat : Nat → Int32) (f_0_across : Nat → Int32) (f_0_lows : Nat → Int32) (f_0_highs : Nat → Int32) (p1 : Int32) (p2 : Int32) (p3 : Int32) (R0 : Int32) (ov_0_code : Int32) (ov_0_isFresh : Int32) (of_0_across : Nat → Int32) (of_0_lows : Nat → Int32) (of_0_highs : Nat → Int32) (hx : p.tables.exec = Jvm.exec) (hb : c.code = b_Mo_move) (hml : c.maxLocals = 11) (hown : s.vm.findClass "SpaceCyclesModel" = some m.cls) (hts : ∀ w ∈ w_Mo_move, w.before args s = true) (hK : va_K (dC, dI) vwCl [(cI, .int), (cZ, .boolean), (cJ, .long)] s) (hN : NX s) (hA : ∀ q : Nat, s.heap.size ≤ q → A q)
    (hret : ∀ (pc : Nat) (H : Heap) (locs : List Loc) (ls : Array Slot), decode b_Mo_move pc = .ok (.ireturn, 1) → (R0 = 0 ∨ R0 = 1) → va_P (dC, dI) vwCl (wl_Mo_move a_0 a_0_isFlat a_0_across a_0_lows a_0_highs b_0_thick b_0_doorCounts b_0_doorFrom b_0_doorTo b_0_xs b_0_ys b_0_labels b_0_oldXs b_0_oldYs b_0_oldLabels b_0_names b_0_oldNames b_0_wanted b_0_common b_0_flatEdges b_0_upEdges b_0_isPoint b_0_stack b_0_pieceLines b_0_pieceBegins b_0_pieceEnds b_0_pieceLeft b_0_pieceRight b_0_outs b_0_isSeen b_0_ringSpaces b_0_ringStarts b_0_ringSizes b_0_ringLeast b_0_looseLines b_0_looseXs b_0_looseYs b_0_looseReaches b_0_far cZ cI ov_0_code v_0_lines ov_0_isFresh v_0_hasRun v_0_runs v_0_nx v_0_ny v_0_spaces v_0_oldNx v_0_oldNy v_0_oldSpaces v_0_points v_0_pieces v_0_rings v_0_outsideSides v_0_looseCount f_0_isFlat of_0_across of_0_lows of_0_highs) H → va_D A (wl_Mo_move a_0 a_0_isFlat a_0_across a_0_lows a_0_highs b_0_thick b_0_doorCounts b_0_doorFrom b_0_doorTo b_0_xs b_0_ys b_0_labels b_0_oldXs b_0_oldYs b_0_oldLabels b_0_names b_0_oldNames b_0_wanted b_0_common b_0_flatEdges b_0_upEdges b_0_isPoint b_0_stack b_0_pieceLines b_0_pieceBegins b_0_pieceEnds b_0_pieceLeft b_0_pieceRight b_0_outs b_0_isSeen b_0_ringSpaces b_0_ringStarts b_0_ringSizes b_0_ringLeast b_0_looseLines b_0_looseXs b_0_looseYs b_0_looseReaches b_0_far cZ cI ov_0_code v_0_lines ov_0_isFresh v_0_hasRun v_0_runs v_0_nx v_0_ny v_0_spaces v_0_oldNx v_0_oldNy v_0_oldSpaces v_0_points v_0_pieces v_0_rings v_0_outsideSides v_0_looseCount f_0_isFlat of_0_across of_0_lows of_0_highs) → va_S A s.heap H locs → W p l e rm_Mo_move s m args below meth c H locs 0 0 Q (F0 m pc ls [.int R0]))
    (hm : m_Mo_move p1 p2 p3 v_0_code v_0_lines v_0_isFresh f_0_isFlat f_0_across f_0_lows f_0_highs = some (R0, ov_0_code, ov_0_isFresh, of_0_across, of_0_lows, of_0_highs)) : ∀ (H : Heap) (locs : List Loc) (ls : Array Slot), va_P (dC, dI) vwCl (wl_Mo_move a_0 a_0_isFlat a_0_across a_0_lows a_0_highs b_0_thick b_0_doorCounts b_0_doorFrom b_0_doorTo b_0_xs b_0_ys b_0_labels b_0_oldXs b_0_oldYs b_0_oldLabels b_0_names b_0_oldNames b_0_wanted b_0_common b_0_flatEdges b_0_upEdges b_0_isPoint b_0_stack b_0_pieceLines b_0_pieceBegins b_0_pieceEnds b_0_pieceLeft b_0_pieceRight b_0_outs b_0_isSeen b_0_ringSpaces b_0_ringStarts b_0_ringSizes b_0_ringLeast b_0_looseLines b_0_looseXs b_0_looseYs b_0_looseReaches b_0_far cZ cI v_0_code v_0_lines v_0_isFresh v_0_hasRun v_0_runs v_0_nx v_0_ny v_0_spaces v_0_oldNx v_0_oldNy v_0_oldSpaces v_0_points v_0_pieces v_0_rings v_0_outsideSides v_0_looseCount f_0_isFlat f_0_across f_0_lows f_0_highs) H → va_D A (wl_Mo_move a_0 a_0_isFlat a_0_across a_0_lows a_0_highs b_0_thick b_0_doorCounts b_0_doorFrom b_0_doorTo b_0_xs b_0_ys b_0_labels b_0_oldXs b_0_oldYs b_0_oldLabels b_0_names b_0_oldNames b_0_wanted b_0_common b_0_flatEdges b_0_upEdges b_0_isPoint b_0_stack b_0_pieceLines b_0_pieceBegins b_0_pieceEnds b_0_pieceLeft b_0_pieceRight b_0_outs b_0_isSeen b_0_ringSpaces b_0_ringStarts b_0_ringSizes b_0_ringLeast b_0_looseLines b_0_looseXs b_0_looseYs b_0_looseReaches b_0_far cZ cI v_0_code v_0_lines v_0_isFresh v_0_hasRun v_0_runs v_0_nx v_0_ny v_0_spaces v_0_oldNx v_0_oldNy v_0_oldSpaces v_0_points v_0_pieces v_0_rings v_0_outsideSides v_0_looseCount f_0_isFlat f_0_across f_0_lows f_0_highs) → va_S A s.heap H locs → lv_has ls 11 [(0, .ref a_0), (1, .int p1), (2, .int p2), (3, .int p3)] → W p l e rm_Mo_move s m args below meth c H locs 0 0 Q (F0 m 0 ls []) := by
  intro H locs ls hP hD hS hl
  unfold m_Mo_move at hm
  refine lv_aload_n hx hb d_Mo_move_0 rfl (lv_at hl 0 rfl) ?_
  refine lv_aload_n hx hb d_Mo_move_1 rfl (lv_at hl 0 rfl) ?_
  refine lv_iload_n hx hb d_Mo_move_2 rfl (lv_at hl 1 rfl) ?_
  obtain ⟨r1, hb2, hm⟩ := bd1_e hm
  have hPc := hP.sub (ws' := (wl_Mo_isLine a_0 a_0_isFlat a_0_across a_0_lows a_0_highs b_0_thick b_0_doorCounts b_0_doorFrom b_0_doorTo b_0_xs b_0_ys b_0_labels b_0_oldXs b_0_oldYs b_0_oldLabels b_0_names b_0_oldNames b_0_wanted b_0_common b_0_flatEdges b_0_upEdges b_0_isPoint b_0_stack b_0_pieceLines b_0_pieceBegins b_0_pieceEnds b_0_pieceLeft b_0_pieceRight b_0_outs b_0_isSeen b_0_ringSpaces b_0_ringStarts b_0_ringSizes b_0_ringLeast b_0_looseLines b_0_looseXs b_0_looseYs b_0_looseReaches b_0_far v_0_code v_0_lines v_0_isFresh v_0_hasRun v_0_runs v_0_nx v_0_ny v_0_spaces v_0_oldNx v_0_oldNy v_0_oldSpaces v_0_points v_0_pieces v_0_rings v_0_outsideSides v_0_looseCount)) [0] rfl
  have hDc := hD.sub (ws' := (wl_Mo_isLine a_0 a_0_isFlat a_0_across a_0_lows a_0_highs b_0_thick b_0_doorCounts b_0_doorFrom b_0_doorTo b_0_xs b_0_ys b_0_labels b_0_oldXs b_0_oldYs b_0_oldLabels b_0_names b_0_oldNames b_0_wanted b_0_common b_0_flatEdges b_0_upEdges b_0_isPoint b_0_stack b_0_pieceLines b_0_pieceBegins b_0_pieceEnds b_0_pieceLeft b_0_pieceRight b_0_outs b_0_isSeen b_0_ringSpaces b_0_ringStarts b_0_ringSizes b_0_ringLeast b_0_looseLines b_0_looseXs b_0_looseYs b_0_looseReaches b_0_far v_0_code v_0_lines v_0_isFresh v_0_hasRun v_0_runs v_0_nx v_0_ny v_0_spaces v_0_oldNx v_0_oldNy v_0_oldSpaces v_0_points v_0_pieces v_0_rings v_0_outsideSides v_0_looseCount)) [0] (by decide) rfl
  refine cl_i (wc' := (wl_Mo_isLine a_0 a_0_isFlat a_0_across a_0_lows a_0_highs b_0_thick b_0_doorCounts b_0_doorFrom b_0_doorTo b_0_xs b_0_ys b_0_labels b_0_oldXs b_0_oldYs b_0_oldLabels b_0_names b_0_oldNames b_0_wanted b_0_common b_0_flatEdges b_0_upEdges b_0_isPoint b_0_stack b_0_pieceLines b_0_pieceBegins b_0_pieceEnds b_0_pieceLeft b_0_pieceRight b_0_outs b_0_isSeen b_0_ringSpaces b_0_ringStarts b_0_ringSizes b_0_ringLeast b_0_looseLines b_0_looseXs b_0_looseYs b_0_looseReaches b_0_far v_0_code v_0_lines v_0_isFresh v_0_hasRun v_0_runs v_0_nx v_0_ny v_0_spaces v_0_oldNx v_0_oldNy v_0_oldSpaces v_0_points v_0_pieces v_0_rings v_0_outsideSides v_0_looseCount)) (va_runV (As := [.int p1]) (rest := [.ref a_0]) ⟨hx, hb, hml, hown, hts⟩ (c_Mo_isLine l dC dI (cI := cI) (cZ := cZ) (cJ := cJ) a_0 a_0_isFlat a_0_across a_0_lows a_0_highs b_0_thick b_0_doorCounts b_0_doorFrom b_0_doorTo b_0_xs b_0_ys b_0_labels b_0_oldXs b_0_oldYs b_0_oldLabels b_0_names b_0_oldNames b_0_wanted b_0_common b_0_flatEdges b_0_upEdges b_0_isPoint b_0_stack b_0_pieceLines b_0_pieceBegins b_0_pieceEnds b_0_pieceLeft b_0_pieceRight b_0_outs b_0_isSeen b_0_ringSpaces b_0_ringStarts b_0_ringSizes b_0_ringLeast b_0_looseLines b_0_looseXs b_0_looseYs b_0_looseReaches b_0_far H.size v_0_code v_0_lines v_0_isFresh v_0_hasRun v_0_runs v_0_nx v_0_ny v_0_spaces v_0_oldNx v_0_oldNy v_0_oldSpaces v_0_points v_0_pieces v_0_rings v_0_outsideSides v_0_looseCount p1 r1 hb2) (cwV 1 hts (gl_V k_293 k_292 k_291 k_277 k_290) rfl rfl rfl (by decide +kernel) ⟨Nat.le_of_ble_eq_true rfl, Nat.le_of_ble_eq_true rfl⟩) ⟨PP_blind, va_recv hK hPc (ci := 11) (q0 := 0) rfl rfl, fun U hU hW => PP_at hK hN hPc hDc hU hW⟩ rfl rfl hl.1 rfl (lv_room (Nat.le_of_ble_eq_true rfl)) d_Mo_move_3 ⟨Nat.zero_le _, Nat.zero_le _⟩) hP hD hS hA [0] [1, 2, 3, 4] rfl rfl (by decide) (by decide) (fun H locs hP hD hS => ?_)
  have hP : va_P (dC, dI) vwCl (wl_Mo_move a_0 a_0_isFlat a_0_across a_0_lows a_0_highs b_0_thick b_0_doorCounts b_0_doorFrom b_0_doorTo b_0_xs b_0_ys b_0_labels b_0_oldXs b_0_oldYs b_0_oldLabels b_0_names b_0_oldNames b_0_wanted b_0_common b_0_flatEdges b_0_upEdges b_0_isPoint b_0_stack b_0_pieceLines b_0_pieceBegins b_0_pieceEnds b_0_pieceLeft b_0_pieceRight b_0_outs b_0_isSeen b_0_ringSpaces b_0_ringStarts b_0_ringSizes b_0_ringLeast b_0_looseLines b_0_looseXs b_0_looseYs b_0_looseReaches b_0_far cZ cI v_0_code v_0_lines v_0_isFresh v_0_hasRun v_0_runs v_0_nx v_0_ny v_0_spaces v_0_oldNx v_0_oldNy v_0_oldSpaces v_0_points v_0_pieces v_0_rings v_0_outsideSides v_0_looseCount f_0_isFlat f_0_across f_0_lows f_0_highs) H := hP.sub [4, 0, 1, 2, 3] rfl
  have hD : va_D A (wl_Mo_move a_0 a_0_isFlat a_0_across a_0_lows a_0_highs b_0_thick b_0_doorCounts b_0_doorFrom b_0_doorTo b_0_xs b_0_ys b_0_labels b_0_oldXs b_0_oldYs b_0_oldLabels b_0_names b_0_oldNames b_0_wanted b_0_common b_0_flatEdges b_0_upEdges b_0_isPoint b_0_stack b_0_pieceLines b_0_pieceBegins b_0_pieceEnds b_0_pieceLeft b_0_pieceRight b_0_outs b_0_isSeen b_0_ringSpaces b_0_ringStarts b_0_ringSizes b_0_ringLeast b_0_looseLines b_0_looseXs b_0_looseYs b_0_looseReaches b_0_far cZ cI v_0_code v_0_lines v_0_isFresh v_0_hasRun v_0_runs v_0_nx v_0_ny v_0_spaces v_0_oldNx v_0_oldNy v_0_oldSpaces v_0_points v_0_pieces v_0_rings v_0_outsideSides v_0_looseCount f_0_isFlat f_0_across f_0_lows f_0_highs) := hD.sub [4, 0, 1, 2, 3] (by decide) rfl
  obtain ⟨x6, hb4, hm⟩ := bd1_e hm
  have K3 : ∀ (H : Heap) (locs : List Loc) (ls : Array Slot), va_P (dC, dI) vwCl (wl_Mo_move a_0 a_0_isFlat a_0_across a_0_lows a_0_highs b_0_thick b_0_doorCounts b_0_doorFrom b_0_doorTo b_0_xs b_0_ys b_0_labels b_0_oldXs b_0_oldYs b_0_oldLabels b_0_names b_0_oldNames b_0_wanted b_0_common b_0_flatEdges b_0_upEdges b_0_isPoint b_0_stack b_0_pieceLines b_0_pieceBegins b_0_pieceEnds b_0_pieceLeft b_0_pieceRight b_0_outs b_0_isSeen b_0_ringSpaces b_0_ringStarts b_0_ringSizes b_0_ringLeast b_0_looseLines b_0_looseXs b_0_looseYs b_0_looseReaches b_0_far cZ cI v_0_code v_0_lines v_0_isFresh v_0_hasRun v_0_runs v_0_nx v_0_ny v_0_spaces v_0_oldNx v_0_oldNy v_0_oldSpaces v_0_points v_0_pieces v_0_rings v_0_outsideSides v_0_looseCount f_0_isFlat f_0_across f_0_lows f_0_highs) H → va_D A (wl_Mo_move a_0 a_0_isFlat a_0_across a_0_lows a_0_highs b_0_thick b_0_doorCounts b_0_doorFrom b_0_doorTo b_0_xs b_0_ys b_0_labels b_0_oldXs b_0_oldYs b_0_oldLabels b_0_names b_0_oldNames b_0_wanted b_0_common b_0_flatEdges b_0_upEdges b_0_isPoint b_0_stack b_0_pieceLines b_0_pieceBegins b_0_pieceEnds b_0_pieceLeft b_0_pieceRight b_0_outs b_0_isSeen b_0_ringSpaces b_0_ringStarts b_0_ringSizes b_0_ringLeast b_0_looseLines b_0_looseXs b_0_looseYs b_0_looseReaches b_0_far cZ cI v_0_code v_0_lines v_0_isFresh v_0_hasRun v_0_runs v_0_nx v_0_ny v_0_spaces v_0_oldNx v_0_oldNy v_0_oldSpaces v_0_points v_0_pieces v_0_rings v_0_outsideSides v_0_looseCount f_0_isFlat f_0_across f_0_lows f_0_highs) → va_S A s.heap H locs → lv_has ls 11 [(0, .ref a_0), (1, .int p1), (2, .int p2), (3, .int p3)] → W p l e rm_Mo_move s m args below meth c H locs 0 0 Q (F0 m 14 ls [.int x6, .ref a_0]) := by
    intro H locs ls hP hD hS hl
    refine va_put (D := (dC, dI)) (ci := 11) (v := .int x6) (ty := .int) (C := "SpaceCyclesModel") (T := F_Mo) (N := 54) hx hb hts (in_F i_Mo) t_Mo t_Mo_ok n_Mo hown hK hP hD hS 0 rfl rfl 0 (by decide) (hts _ (in_c k_273)) (fun _ h9 => h9) rfl (by decide +kernel) rfl rfl (Nat.le_of_ble_eq_true rfl) d_Mo_move_14 (fun H locs hP hD hS => ?_)
    have hP : va_P (dC, dI) vwCl (wl_Mo_move a_0 a_0_isFlat a_0_across a_0_lows a_0_highs b_0_thick b_0_doorCounts b_0_doorFrom b_0_doorTo b_0_xs b_0_ys b_0_labels b_0_oldXs b_0_oldYs b_0_oldLabels b_0_names b_0_oldNames b_0_wanted b_0_common b_0_flatEdges b_0_upEdges b_0_isPoint b_0_stack b_0_pieceLines b_0_pieceBegins b_0_pieceEnds b_0_pieceLeft b_0_pieceRight b_0_outs b_0_isSeen b_0_ringSpaces b_0_ringStarts b_0_ringSizes b_0_ringLeast b_0_looseLines b_0_looseXs b_0_looseYs b_0_looseReaches b_0_far cZ cI x6 v_0_lines v_0_isFresh v_0_hasRun v_0_runs v_0_nx v_0_ny v_0_spaces v_0_oldNx v_0_oldNy v_0_oldSpaces v_0_points v_0_pieces v_0_rings v_0_outsideSides v_0_looseCount f_0_isFlat f_0_across f_0_lows f_0_highs) H := hP
    have hD : va_D A (wl_Mo_move a_0 a_0_isFlat a_0_across a_0_lows a_0_highs b_0_thick b_0_doorCounts b_0_doorFrom b_0_doorTo b_0_xs b_0_ys b_0_labels b_0_oldXs b_0_oldYs b_0_oldLabels b_0_names b_0_oldNames b_0_wanted b_0_common b_0_flatEdges b_0_upEdges b_0_isPoint b_0_stack b_0_pieceLines b_0_pieceBegins b_0_pieceEnds b_0_pieceLeft b_0_pieceRight b_0_outs b_0_isSeen b_0_ringSpaces b_0_ringStarts b_0_ringSizes b_0_ringLeast b_0_looseLines b_0_looseXs b_0_looseYs b_0_looseReaches b_0_far cZ cI x6 v_0_lines v_0_isFresh v_0_hasRun v_0_runs v_0_nx v_0_ny v_0_spaces v_0_oldNx v_0_oldNy v_0_oldSpaces v_0_points v_0_pieces v_0_rings v_0_outsideSides v_0_looseCount f_0_isFlat f_0_across f_0_lows f_0_highs) := hD
    refine lv_aload_n hx hb d_Mo_move_17 rfl (lv_at hl 0 rfl) ?_
    refine va_get (D := (dC, dI)) (ci := 11) (v := .int x6) (C := "SpaceCyclesModel") (T := F_Mo) (N := 54) hx hb hts (in_F i_Mo) hown hK hP 0 rfl rfl 0 (by decide) (hts _ (in_c k_273)) (fun _ h9 => h9) rfl d_Mo_move_18 ?_
    refine lv_if_le (tgt := 26) hx hb d_Mo_move_21 (by decide) (fun c8 => ?_) (fun c8 => ?_)
    · replace hm := if_t hm c8
      refine lv_aload_n hx hb d_Mo_move_26 rfl (lv_at hl 0 rfl) ?_
      refine va_get (D := (dC, dI)) (ci := 11) (v := .ref a_0_isFlat) (C := "SpaceCyclesModel") (T := F_Mo) (N := 54) hx hb hts (in_F i_Mo) hown hK hP 0 rfl rfl 1 (by decide) (hts _ (in_c k_279)) (fun _ h9 => h9) rfl d_Mo_move_27 ?_
      refine lv_iload_n hx hb d_Mo_move_30 rfl (lv_at hl 1 rfl) ?_
      obtain ⟨hi9, hm⟩ := gI_e hm
      refine va_zald hx hb hK hP 1 1 rfl rfl hi9 d_Mo_move_31 ?_
      refine lv_topi (fun x10 ex10 => ?_)
      replace hm := lt_el hm ex10
      refine lv_istore (lv' := [(4, .int x10), (0, .ref a_0), (1, .int p1), (2, .int p2), (3, .int p3)]) hx hb d_Mo_move_32 hl (by decide) rfl (fun ls hl => ?_)
      refine lv_aload_n hx hb d_Mo_move_34 rfl (lv_at hl 1 rfl) ?_
      refine va_get (D := (dC, dI)) (ci := 11) (v := .ref a_0_across) (C := "SpaceCyclesModel") (T := F_Mo) (N := 54) hx hb hts (in_F i_Mo) hown hK hP 0 rfl rfl 2 (by decide) (hts _ (in_c k_280)) (fun _ h9 => h9) rfl d_Mo_move_35 ?_
      refine lv_iload_n hx hb d_Mo_move_38 rfl (lv_at hl 2 rfl) ?_
      obtain ⟨hi11, hm⟩ := gI_e hm
      refine va_iald hx hb hK hP 2 0 rfl rfl hi11 d_Mo_move_39 ?_
      refine lv_i2l hx hb d_Mo_move_40 rfl ?_
      refine lv_iload hx hb d_Mo_move_41 (lv_at hl 0 rfl) ?_
      obtain ⟨x15, hb13, hm⟩ := bd1_e hm
      have K12 : ∀ (H : Heap) (locs : List Loc) (ls : Array Slot), va_P (dC, dI) vwCl (wl_Mo_move a_0 a_0_isFlat a_0_across a_0_lows a_0_highs b_0_thick b_0_doorCounts b_0_doorFrom b_0_doorTo b_0_xs b_0_ys b_0_labels b_0_oldXs b_0_oldYs b_0_oldLabels b_0_names b_0_oldNames b_0_wanted b_0_common b_0_flatEdges b_0_upEdges b_0_isPoint b_0_stack b_0_pieceLines b_0_pieceBegins b_0_pieceEnds b_0_pieceLeft b_0_pieceRight b_0_outs b_0_isSeen b_0_ringSpaces b_0_ringStarts b_0_ringSizes b_0_ringLeast b_0_looseLines b_0_looseXs b_0_looseYs b_0_looseReaches b_0_far cZ cI x6 v_0_lines v_0_isFresh v_0_hasRun v_0_runs v_0_nx v_0_ny v_0_spaces v_0_oldNx v_0_oldNy v_0_oldSpaces v_0_points v_0_pieces v_0_rings v_0_outsideSides v_0_looseCount f_0_isFlat f_0_across f_0_lows f_0_highs) H → va_D A (wl_Mo_move a_0 a_0_isFlat a_0_across a_0_lows a_0_highs b_0_thick b_0_doorCounts b_0_doorFrom b_0_doorTo b_0_xs b_0_ys b_0_labels b_0_oldXs b_0_oldYs b_0_oldLabels b_0_names b_0_oldNames b_0_wanted b_0_common b_0_flatEdges b_0_upEdges b_0_isPoint b_0_stack b_0_pieceLines b_0_pieceBegins b_0_pieceEnds b_0_pieceLeft b_0_pieceRight b_0_outs b_0_isSeen b_0_ringSpaces b_0_ringStarts b_0_ringSizes b_0_ringLeast b_0_looseLines b_0_looseXs b_0_looseYs b_0_looseReaches b_0_far cZ cI x6 v_0_lines v_0_isFresh v_0_hasRun v_0_runs v_0_nx v_0_ny v_0_spaces v_0_oldNx v_0_oldNy v_0_oldSpaces v_0_points v_0_pieces v_0_rings v_0_outsideSides v_0_looseCount f_0_isFlat f_0_across f_0_lows f_0_highs) → va_S A s.heap H locs → lv_has ls 11 [(0, .ref a_0), (1, .int p1), (2, .int p2), (3, .int p3), (4, .int x10)] → W p l e rm_Mo_move s m args below meth c H locs 0 0 Q (F0 m 51 ls [.int x15, .long (Int32.toInt64 (f_0_across p1.toNatClampNeg))]) := by
        intro H locs ls hP hD hS hl
        refine lv_i2l hx hb d_Mo_move_51 rfl ?_
        refine lv_ladd hx hb d_Mo_move_52 ?_
        refine lv_topl (fun y17 ey17 => ?_)
        replace hm := lt_el hm ey17
        refine lv_lstore (lv' := [(5, .long y17), (0, .ref a_0), (1, .int p1), (2, .int p2), (3, .int p3), (4, .int x10)]) hx hb d_Mo_move_53 hl (by decide) rfl (fun ls hl => ?_)
        refine lv_aload_n hx hb d_Mo_move_55 rfl (lv_at hl 1 rfl) ?_
        refine va_get (D := (dC, dI)) (ci := 11) (v := .ref a_0_lows) (C := "SpaceCyclesModel") (T := F_Mo) (N := 54) hx hb hts (in_F i_Mo) hown hK hP 0 rfl rfl 3 (by decide) (hts _ (in_c k_281)) (fun _ h9 => h9) rfl d_Mo_move_56 ?_
        refine lv_iload_n hx hb d_Mo_move_59 rfl (lv_at hl 2 rfl) ?_
        obtain ⟨hi18, hm⟩ := gI_e hm
        refine va_iald hx hb hK hP 3 0 rfl rfl hi18 d_Mo_move_60 ?_
        refine lv_i2l hx hb d_Mo_move_61 rfl ?_
        refine lv_iload hx hb d_Mo_move_62 (lv_at hl 5 rfl) ?_
        obtain ⟨x22, hb20, hm⟩ := bd1_e hm
        have K19 : ∀ (H : Heap) (locs : List Loc) (ls : Array Slot), va_P (dC, dI) vwCl (wl_Mo_move a_0 a_0_isFlat a_0_across a_0_lows a_0_highs b_0_thick b_0_doorCounts b_0_doorFrom b_0_doorTo b_0_xs b_0_ys b_0_labels b_0_oldXs b_0_oldYs b_0_oldLabels b_0_names b_0_oldNames b_0_wanted b_0_common b_0_flatEdges b_0_upEdges b_0_isPoint b_0_stack b_0_pieceLines b_0_pieceBegins b_0_pieceEnds b_0_pieceLeft b_0_pieceRight b_0_outs b_0_isSeen b_0_ringSpaces b_0_ringStarts b_0_ringSizes b_0_ringLeast b_0_looseLines b_0_looseXs b_0_looseYs b_0_looseReaches b_0_far cZ cI x6 v_0_lines v_0_isFresh v_0_hasRun v_0_runs v_0_nx v_0_ny v_0_spaces v_0_oldNx v_0_oldNy v_0_oldSpaces v_0_points v_0_pieces v_0_rings v_0_outsideSides v_0_looseCount f_0_isFlat f_0_across f_0_lows f_0_highs) H → va_D A (wl_Mo_move a_0 a_0_isFlat a_0_across a_0_lows a_0_highs b_0_thick b_0_doorCounts b_0_doorFrom b_0_doorTo b_0_xs b_0_ys b_0_labels b_0_oldXs b_0_oldYs b_0_oldLabels b_0_names b_0_oldNames b_0_wanted b_0_common b_0_flatEdges b_0_upEdges b_0_isPoint b_0_stack b_0_pieceLines b_0_pieceBegins b_0_pieceEnds b_0_pieceLeft b_0_pieceRight b_0_outs b_0_isSeen b_0_ringSpaces b_0_ringStarts b_0_ringSizes b_0_ringLeast b_0_looseLines b_0_looseXs b_0_looseYs b_0_looseReaches b_0_far cZ cI x6 v_0_lines v_0_isFresh v_0_hasRun v_0_runs v_0_nx v_0_ny v_0_spaces v_0_oldNx v_0_oldNy v_0_oldSpaces v_0_points v_0_pieces v_0_rings v_0_outsideSides v_0_looseCount f_0_isFlat f_0_across f_0_lows f_0_highs) → va_S A s.heap H locs → lv_has ls 11 [(0, .ref a_0), (1, .int p1), (2, .int p2), (3, .int p3), (4, .int x10), (5, .long y17)] → W p l e rm_Mo_move s m args below meth c H locs 0 0 Q (F0 m 72 ls [.int x22, .long (Int32.toInt64 (f_0_lows p1.toNatClampNeg))]) := by
          intro H locs ls hP hD hS hl
          refine lv_i2l hx hb d_Mo_move_72 rfl ?_
          refine lv_ladd hx hb d_Mo_move_73 ?_
          refine lv_topl (fun y24 ey24 => ?_)
          replace hm := lt_el hm ey24
          refine lv_lstore (lv' := [(7, .long y24), (0, .ref a_0), (1, .int p1), (2, .int p2), (3, .int p3), (4, .int x10), (5, .long y17)]) hx hb d_Mo_move_74 hl (by decide) rfl (fun ls hl => ?_)
          refine lv_aload_n hx hb d_Mo_move_76 rfl (lv_at hl 1 rfl) ?_
          refine va_get (D := (dC, dI)) (ci := 11) (v := .ref a_0_highs) (C := "SpaceCyclesModel") (T := F_Mo) (N := 54) hx hb hts (in_F i_Mo) hown hK hP 0 rfl rfl 4 (by decide) (hts _ (in_c k_282)) (fun _ h9 => h9) rfl d_Mo_move_77 ?_
          refine lv_iload_n hx hb d_Mo_move_80 rfl (lv_at hl 2 rfl) ?_
          obtain ⟨hi25, hm⟩ := gI_e hm
          refine va_iald hx hb hK hP 4 0 rfl rfl hi25 d_Mo_move_81 ?_
          refine lv_i2l hx hb d_Mo_move_82 rfl ?_
          refine lv_iload hx hb d_Mo_move_83 (lv_at hl 5 rfl) ?_
          obtain ⟨x29, hb27, hm⟩ := bd1_e hm
          have K26 : ∀ (H : Heap) (locs : List Loc) (ls : Array Slot), va_P (dC, dI) vwCl (wl_Mo_move a_0 a_0_isFlat a_0_across a_0_lows a_0_highs b_0_thick b_0_doorCounts b_0_doorFrom b_0_doorTo b_0_xs b_0_ys b_0_labels b_0_oldXs b_0_oldYs b_0_oldLabels b_0_names b_0_oldNames b_0_wanted b_0_common b_0_flatEdges b_0_upEdges b_0_isPoint b_0_stack b_0_pieceLines b_0_pieceBegins b_0_pieceEnds b_0_pieceLeft b_0_pieceRight b_0_outs b_0_isSeen b_0_ringSpaces b_0_ringStarts b_0_ringSizes b_0_ringLeast b_0_looseLines b_0_looseXs b_0_looseYs b_0_looseReaches b_0_far cZ cI x6 v_0_lines v_0_isFresh v_0_hasRun v_0_runs v_0_nx v_0_ny v_0_spaces v_0_oldNx v_0_oldNy v_0_oldSpaces v_0_points v_0_pieces v_0_rings v_0_outsideSides v_0_looseCount f_0_isFlat f_0_across f_0_lows f_0_highs) H → va_D A (wl_Mo_move a_0 a_0_isFlat a_0_across a_0_lows a_0_highs b_0_thick b_0_doorCounts b_0_doorFrom b_0_doorTo b_0_xs b_0_ys b_0_labels b_0_oldXs b_0_oldYs b_0_oldLabels b_0_names b_0_oldNames b_0_wanted b_0_common b_0_flatEdges b_0_upEdges b_0_isPoint b_0_stack b_0_pieceLines b_0_pieceBegins b_0_pieceEnds b_0_pieceLeft b_0_pieceRight b_0_outs b_0_isSeen b_0_ringSpaces b_0_ringStarts b_0_ringSizes b_0_ringLeast b_0_looseLines b_0_looseXs b_0_looseYs b_0_looseReaches b_0_far cZ cI x6 v_0_lines v_0_isFresh v_0_hasRun v_0_runs v_0_nx v_0_ny v_0_spaces v_0_oldNx v_0_oldNy v_0_oldSpaces v_0_points v_0_pieces v_0_rings v_0_outsideSides v_0_looseCount f_0_isFlat f_0_across f_0_lows f_0_highs) → va_S A s.heap H locs → lv_has ls 11 [(0, .ref a_0), (1, .int p1), (4, .int x10), (5, .long y17), (7, .long y24)] → W p l e rm_Mo_move s m args below meth c H locs 0 0 Q (F0 m 93 ls [.int x29, .long (Int32.toInt64 (f_0_highs p1.toNatClampNeg))]) := by
            intro H locs ls hP hD hS hl
            refine lv_i2l hx hb d_Mo_move_93 rfl ?_
            refine lv_ladd hx hb d_Mo_move_94 ?_
            refine lv_topl (fun y31 ey31 => ?_)
            replace hm := lt_el hm ey31
            refine lv_lstore (lv' := [(9, .long y31), (0, .ref a_0), (1, .int p1), (4, .int x10), (5, .long y17), (7, .long y24)]) hx hb d_Mo_move_95 hl (by decide) rfl (fun ls hl => ?_)
            refine lv_aload_n hx hb d_Mo_move_97 rfl (lv_at hl 1 rfl) ?_
            refine lv_lload hx hb d_Mo_move_98 (lv_at hl 4 rfl) ?_
            refine lv_lconst (v := 0) hx hb d_Mo_move_100 (by decide) ?_
            refine lv_ldc2 (v := 500) hx hb hown (hts (.constantLong "SpaceCyclesModel" 137 500) (by decide +kernel)) d_Mo_move_101 ?_
            obtain ⟨r32, hb33, hm⟩ := bd1_e hm
            have hPc := hP.sub (ws' := (wl_Mo_isIn)) [] rfl
            have hDc := hD.sub (ws' := (wl_Mo_isIn)) [] (by decide) rfl
            refine cl_i (wc' := (wl_Mo_isIn)) (va_runS (As := [.long y17, .long 0, .long 500]) (rest := [.ref a_0]) ⟨hx, hb, hml, hown, hts⟩ (c_Mo_isIn l dC dI (cI := cI) (cZ := cZ) (cJ := cJ) H.size y17 0 500 r32 hb33) (va_cwS 3 hts (gl_S k_278 k_276 k_277 k_275) rfl rfl rfl (by decide +kernel) ⟨Nat.le_of_ble_eq_true rfl, Nat.le_of_ble_eq_true rfl⟩) ⟨PP_blind, fun U hU hW => PP_at hK hN hPc hDc hU hW⟩ rfl rfl hl.1 rfl (lv_room (Nat.le_of_ble_eq_true rfl)) d_Mo_move_104 ⟨Nat.zero_le _, Nat.zero_le _⟩) hP hD hS hA [] [0, 1, 2, 3, 4] rfl rfl (by decide) (by decide) (fun H locs hP hD hS => ?_)
            have hP : va_P (dC, dI) vwCl (wl_Mo_move a_0 a_0_isFlat a_0_across a_0_lows a_0_highs b_0_thick b_0_doorCounts b_0_doorFrom b_0_doorTo b_0_xs b_0_ys b_0_labels b_0_oldXs b_0_oldYs b_0_oldLabels b_0_names b_0_oldNames b_0_wanted b_0_common b_0_flatEdges b_0_upEdges b_0_isPoint b_0_stack b_0_pieceLines b_0_pieceBegins b_0_pieceEnds b_0_pieceLeft b_0_pieceRight b_0_outs b_0_isSeen b_0_ringSpaces b_0_ringStarts b_0_ringSizes b_0_ringLeast b_0_looseLines b_0_looseXs b_0_looseYs b_0_looseReaches b_0_far cZ cI x6 v_0_lines v_0_isFresh v_0_hasRun v_0_runs v_0_nx v_0_ny v_0_spaces v_0_oldNx v_0_oldNy v_0_oldSpaces v_0_points v_0_pieces v_0_rings v_0_outsideSides v_0_looseCount f_0_isFlat f_0_across f_0_lows f_0_highs) H := hP.sub [0, 1, 2, 3, 4] rfl
            have hD : va_D A (wl_Mo_move a_0 a_0_isFlat a_0_across a_0_lows a_0_highs b_0_thick b_0_doorCounts b_0_doorFrom b_0_doorTo b_0_xs b_0_ys b_0_labels b_0_oldXs b_0_oldYs b_0_oldLabels b_0_names b_0_oldNames b_0_wanted b_0_common b_0_flatEdges b_0_upEdges b_0_isPoint b_0_stack b_0_pieceLines b_0_pieceBegins b_0_pieceEnds b_0_pieceLeft b_0_pieceRight b_0_outs b_0_isSeen b_0_ringSpaces b_0_ringStarts b_0_ringSizes b_0_ringLeast b_0_looseLines b_0_looseXs b_0_looseYs b_0_looseReaches b_0_far cZ cI x6 v_0_lines v_0_isFresh v_0_hasRun v_0_runs v_0_nx v_0_ny v_0_spaces v_0_oldNx v_0_oldNy v_0_oldSpaces v_0_points v_0_pieces v_0_rings v_0_outsideSides v_0_looseCount f_0_isFlat f_0_across f_0_lows f_0_highs) := hD.sub [0, 1, 2, 3, 4] (by decide) rfl
            obtain ⟨x37, hb35, hm⟩ := bd1_e hm
            have K34 : ∀ (H : Heap) (locs : List Loc) (ls : Array Slot), va_P (dC, dI) vwCl (wl_Mo_move a_0 a_0_isFlat a_0_across a_0_lows a_0_highs b_0_thick b_0_doorCounts b_0_doorFrom b_0_doorTo b_0_xs b_0_ys b_0_labels b_0_oldXs b_0_oldYs b_0_oldLabels b_0_names b_0_oldNames b_0_wanted b_0_common b_0_flatEdges b_0_upEdges b_0_isPoint b_0_stack b_0_pieceLines b_0_pieceBegins b_0_pieceEnds b_0_pieceLeft b_0_pieceRight b_0_outs b_0_isSeen b_0_ringSpaces b_0_ringStarts b_0_ringSizes b_0_ringLeast b_0_looseLines b_0_looseXs b_0_looseYs b_0_looseReaches b_0_far cZ cI x6 v_0_lines v_0_isFresh v_0_hasRun v_0_runs v_0_nx v_0_ny v_0_spaces v_0_oldNx v_0_oldNy v_0_oldSpaces v_0_points v_0_pieces v_0_rings v_0_outsideSides v_0_looseCount f_0_isFlat f_0_across f_0_lows f_0_highs) H → va_D A (wl_Mo_move a_0 a_0_isFlat a_0_across a_0_lows a_0_highs b_0_thick b_0_doorCounts b_0_doorFrom b_0_doorTo b_0_xs b_0_ys b_0_labels b_0_oldXs b_0_oldYs b_0_oldLabels b_0_names b_0_oldNames b_0_wanted b_0_common b_0_flatEdges b_0_upEdges b_0_isPoint b_0_stack b_0_pieceLines b_0_pieceBegins b_0_pieceEnds b_0_pieceLeft b_0_pieceRight b_0_outs b_0_isSeen b_0_ringSpaces b_0_ringStarts b_0_ringSizes b_0_ringLeast b_0_looseLines b_0_looseXs b_0_looseYs b_0_looseReaches b_0_far cZ cI x6 v_0_lines v_0_isFresh v_0_hasRun v_0_runs v_0_nx v_0_ny v_0_spaces v_0_oldNx v_0_oldNy v_0_oldSpaces v_0_points v_0_pieces v_0_rings v_0_outsideSides v_0_looseCount f_0_isFlat f_0_across f_0_lows f_0_highs) → va_S A s.heap H locs → lv_has ls 11 [(0, .ref a_0), (1, .int p1), (4, .int x10), (5, .long y17), (7, .long y24), (9, .long y31)] → W p l e rm_Mo_move s m args below meth c H locs 0 0 Q (F0 m 139 ls [.int x37, .ref a_0]) := by
              intro H locs ls hP hD hS hl
              refine va_put (D := (dC, dI)) (ci := 11) (v := .int x37) (ty := .int) (C := "SpaceCyclesModel") (T := F_Mo) (N := 54) hx hb hts (in_F i_Mo) t_Mo t_Mo_ok n_Mo hown hK hP hD hS 0 rfl rfl 0 (by decide) (hts _ (in_c k_273)) (fun _ h9 => h9) rfl (by decide +kernel) rfl rfl (Nat.le_of_ble_eq_true rfl) d_Mo_move_139 (fun H locs hP hD hS => ?_)
              have hP : va_P (dC, dI) vwCl (wl_Mo_move a_0 a_0_isFlat a_0_across a_0_lows a_0_highs b_0_thick b_0_doorCounts b_0_doorFrom b_0_doorTo b_0_xs b_0_ys b_0_labels b_0_oldXs b_0_oldYs b_0_oldLabels b_0_names b_0_oldNames b_0_wanted b_0_common b_0_flatEdges b_0_upEdges b_0_isPoint b_0_stack b_0_pieceLines b_0_pieceBegins b_0_pieceEnds b_0_pieceLeft b_0_pieceRight b_0_outs b_0_isSeen b_0_ringSpaces b_0_ringStarts b_0_ringSizes b_0_ringLeast b_0_looseLines b_0_looseXs b_0_looseYs b_0_looseReaches b_0_far cZ cI x37 v_0_lines v_0_isFresh v_0_hasRun v_0_runs v_0_nx v_0_ny v_0_spaces v_0_oldNx v_0_oldNy v_0_oldSpaces v_0_points v_0_pieces v_0_rings v_0_outsideSides v_0_looseCount f_0_isFlat f_0_across f_0_lows f_0_highs) H := hP
              have hD : va_D A (wl_Mo_move a_0 a_0_isFlat a_0_across a_0_lows a_0_highs b_0_thick b_0_doorCounts b_0_doorFrom b_0_doorTo b_0_xs b_0_ys b_0_labels b_0_oldXs b_0_oldYs b_0_oldLabels b_0_names b_0_oldNames b_0_wanted b_0_common b_0_flatEdges b_0_upEdges b_0_isPoint b_0_stack b_0_pieceLines b_0_pieceBegins b_0_pieceEnds b_0_pieceLeft b_0_pieceRight b_0_outs b_0_isSeen b_0_ringSpaces b_0_ringStarts b_0_ringSizes b_0_ringLeast b_0_looseLines b_0_looseXs b_0_looseYs b_0_looseReaches b_0_far cZ cI x37 v_0_lines v_0_isFresh v_0_hasRun v_0_runs v_0_nx v_0_ny v_0_spaces v_0_oldNx v_0_oldNy v_0_oldSpaces v_0_points v_0_pieces v_0_rings v_0_outsideSides v_0_looseCount f_0_isFlat f_0_across f_0_lows f_0_highs) := hD
              refine lv_aload_n hx hb d_Mo_move_142 rfl (lv_at hl 0 rfl) ?_
              refine va_get (D := (dC, dI)) (ci := 11) (v := .int x37) (C := "SpaceCyclesModel") (T := F_Mo) (N := 54) hx hb hts (in_F i_Mo) hown hK hP 0 rfl rfl 0 (by decide) (hts _ (in_c k_273)) (fun _ h9 => h9) rfl d_Mo_move_143 ?_
              refine lv_if_gt (tgt := 168) hx hb d_Mo_move_146 (by decide) (fun c45 => ?_) (fun c45 => ?_)
              · replace hm := if_t hm c45
                refine lv_iconst (v := 0) hx hb d_Mo_move_168 (by decide) ?_
                obtain ⟨hB, hm⟩ := gB_e hm
                cases hm
                exact hret _ H locs ls d_Mo_move_169 hB hP hD hS
              · replace hm := if_f hm c45
                refine lv_aload_n hx hb d_Mo_move_149 rfl (lv_at hl 0 rfl) ?_
                refine lv_iload_n hx hb d_Mo_move_150 rfl (lv_at hl 1 rfl) ?_
                refine lv_iload hx hb d_Mo_move_151 (lv_at hl 2 rfl) ?_
                refine lv_lload hx hb d_Mo_move_153 (lv_at hl 3 rfl) ?_
                refine lv_l2i hx hb d_Mo_move_155 rfl ?_
                refine lv_lload hx hb d_Mo_move_156 (lv_at hl 4 rfl) ?_
                refine lv_l2i hx hb d_Mo_move_158 rfl ?_
                refine lv_lload hx hb d_Mo_move_159 (lv_at hl 5 rfl) ?_
                refine lv_l2i hx hb d_Mo_move_161 rfl ?_
                obtain ⟨r46, hb47, hm⟩ := bd1_e hm
                have hPc := hP.sub (ws' := (wl_Mo_lies a_0 a_0_isFlat a_0_across a_0_lows a_0_highs b_0_thick b_0_doorCounts b_0_doorFrom b_0_doorTo b_0_xs b_0_ys b_0_labels b_0_oldXs b_0_oldYs b_0_oldLabels b_0_names b_0_oldNames b_0_wanted b_0_common b_0_flatEdges b_0_upEdges b_0_isPoint b_0_stack b_0_pieceLines b_0_pieceBegins b_0_pieceEnds b_0_pieceLeft b_0_pieceRight b_0_outs b_0_isSeen b_0_ringSpaces b_0_ringStarts b_0_ringSizes b_0_ringLeast b_0_looseLines b_0_looseXs b_0_looseYs b_0_looseReaches b_0_far cZ cI x37 v_0_lines v_0_isFresh v_0_hasRun v_0_runs v_0_nx v_0_ny v_0_spaces v_0_oldNx v_0_oldNy v_0_oldSpaces v_0_points v_0_pieces v_0_rings v_0_outsideSides v_0_looseCount f_0_isFlat f_0_across f_0_lows f_0_highs)) [0, 1, 2, 3, 4] rfl
                have hDc := hD.sub (ws' := (wl_Mo_lies a_0 a_0_isFlat a_0_across a_0_lows a_0_highs b_0_thick b_0_doorCounts b_0_doorFrom b_0_doorTo b_0_xs b_0_ys b_0_labels b_0_oldXs b_0_oldYs b_0_oldLabels b_0_names b_0_oldNames b_0_wanted b_0_common b_0_flatEdges b_0_upEdges b_0_isPoint b_0_stack b_0_pieceLines b_0_pieceBegins b_0_pieceEnds b_0_pieceLeft b_0_pieceRight b_0_outs b_0_isSeen b_0_ringSpaces b_0_ringStarts b_0_ringSizes b_0_ringLeast b_0_looseLines b_0_looseXs b_0_looseYs b_0_looseReaches b_0_far cZ cI x37 v_0_lines v_0_isFresh v_0_hasRun v_0_runs v_0_nx v_0_ny v_0_spaces v_0_oldNx v_0_oldNy v_0_oldSpaces v_0_points v_0_pieces v_0_rings v_0_outsideSides v_0_looseCount f_0_isFlat f_0_across f_0_lows f_0_highs)) [0, 1, 2, 3, 4] (by decide) rfl
                refine cl_i (wc' := (wl_Mo_lies a_0 a_0_isFlat a_0_across a_0_lows a_0_highs b_0_thick b_0_doorCounts b_0_doorFrom b_0_doorTo b_0_xs b_0_ys b_0_labels b_0_oldXs b_0_oldYs b_0_oldLabels b_0_names b_0_oldNames b_0_wanted b_0_common b_0_flatEdges b_0_upEdges b_0_isPoint b_0_stack b_0_pieceLines b_0_pieceBegins b_0_pieceEnds b_0_pieceLeft b_0_pieceRight b_0_outs b_0_isSeen b_0_ringSpaces b_0_ringStarts b_0_ringSizes b_0_ringLeast b_0_looseLines b_0_looseXs b_0_looseYs b_0_looseReaches b_0_far cZ cI x37 v_0_lines v_0_isFresh v_0_hasRun v_0_runs v_0_nx v_0_ny v_0_spaces v_0_oldNx v_0_oldNy v_0_oldSpaces v_0_points v_0_pieces v_0_rings v_0_outsideSides v_0_looseCount f_0_isFlat f_0_across f_0_lows f_0_highs)) (va_runV (As := [.int p1, .int x10, .int (Int64.toInt32 y17), .int (Int64.toInt32 y24), .int (Int64.toInt32 y31)]) (rest := []) ⟨hx, hb, hml, hown, hts⟩ (c_Mo_lies l dC dI (cI := cI) (cZ := cZ) (cJ := cJ) a_0 a_0_isFlat a_0_across a_0_lows a_0_highs b_0_thick b_0_doorCounts b_0_doorFrom b_0_doorTo b_0_xs b_0_ys b_0_labels b_0_oldXs b_0_oldYs b_0_oldLabels b_0_names b_0_oldNames b_0_wanted b_0_common b_0_flatEdges b_0_upEdges b_0_isPoint b_0_stack b_0_pieceLines b_0_pieceBegins b_0_pieceEnds b_0_pieceLeft b_0_pieceRight b_0_outs b_0_isSeen b_0_ringSpaces b_0_ringStarts b_0_ringSizes b_0_ringLeast b_0_looseLines b_0_looseXs b_0_looseYs b_0_looseReaches b_0_far H.size x37 v_0_lines v_0_isFresh v_0_hasRun v_0_runs v_0_nx v_0_ny v_0_spaces v_0_oldNx v_0_oldNy v_0_oldSpaces v_0_points v_0_pieces v_0_rings v_0_outsideSides v_0_looseCount f_0_isFlat f_0_across f_0_lows f_0_highs p1 x10 (Int64.toInt32 y17) (Int64.toInt32 y24) (Int64.toInt32 y31) r46 hb47) (cwV 5 hts (gl_V k_286 k_285 k_284 k_277 k_283) rfl rfl rfl (by decide +kernel) ⟨Nat.le_of_ble_eq_true rfl, Nat.le_of_ble_eq_true rfl⟩) ⟨PP_blind, va_recv hK hPc (ci := 11) (q0 := 0) rfl rfl, fun U hU hW => PP_at hK hN hPc hDc hU hW⟩ rfl rfl hl.1 rfl (lv_room (Nat.le_of_ble_eq_true rfl)) d_Mo_move_162 ⟨Nat.zero_le _, Nat.zero_le _⟩) hP hD hS hA [0, 1, 2, 3, 4] [] rfl rfl (by decide) (by decide) (fun H locs hP hD hS => ?_)
                have hP : va_P (dC, dI) vwCl (wl_Mo_move a_0 a_0_isFlat a_0_across a_0_lows a_0_highs b_0_thick b_0_doorCounts b_0_doorFrom b_0_doorTo b_0_xs b_0_ys b_0_labels b_0_oldXs b_0_oldYs b_0_oldLabels b_0_names b_0_oldNames b_0_wanted b_0_common b_0_flatEdges b_0_upEdges b_0_isPoint b_0_stack b_0_pieceLines b_0_pieceBegins b_0_pieceEnds b_0_pieceLeft b_0_pieceRight b_0_outs b_0_isSeen b_0_ringSpaces b_0_ringStarts b_0_ringSizes b_0_ringLeast b_0_looseLines b_0_looseXs b_0_looseYs b_0_looseReaches b_0_far cZ cI x37 v_0_lines v_0_isFresh v_0_hasRun v_0_runs v_0_nx v_0_ny v_0_spaces v_0_oldNx v_0_oldNy v_0_oldSpaces v_0_points v_0_pieces v_0_rings v_0_outsideSides v_0_looseCount f_0_isFlat f_0_across f_0_lows f_0_highs) H := hP.sub [0, 1, 2, 3, 4] rfl
                have hD : va_D A (wl_Mo_move a_0 a_0_isFlat a_0_across a_0_lows a_0_highs b_0_thick b_0_doorCounts b_0_doorFrom b_0_doorTo b_0_xs b_0_ys b_0_labels b_0_oldXs b_0_oldYs b_0_oldLabels b_0_names b_0_oldNames b_0_wanted b_0_common b_0_flatEdges b_0_upEdges b_0_isPoint b_0_stack b_0_pieceLines b_0_pieceBegins b_0_pieceEnds b_0_pieceLeft b_0_pieceRight b_0_outs b_0_isSeen b_0_ringSpaces b_0_ringStarts b_0_ringSizes b_0_ringLeast b_0_looseLines b_0_looseXs b_0_looseYs b_0_looseReaches b_0_far cZ cI x37 v_0_lines v_0_isFresh v_0_hasRun v_0_runs v_0_nx v_0_ny v_0_spaces v_0_oldNx v_0_oldNy v_0_oldSpaces v_0_points v_0_pieces v_0_rings v_0_outsideSides v_0_looseCount f_0_isFlat f_0_across f_0_lows f_0_highs) := hD.sub [0, 1, 2, 3, 4] (by decide) rfl
                refine lv_if_eq (tgt := 170) hx hb d_Mo_move_165 (by decide) (fun c48 => ?_) (fun c48 => ?_)
                · replace hm := if_t hm c48
                  refine lv_aload_n hx hb d_Mo_move_170 rfl (lv_at hl 0 rfl) ?_
                  refine va_get (D := (dC, dI)) (ci := 11) (v := .ref a_0_across) (C := "SpaceCyclesModel") (T := F_Mo) (N := 54) hx hb hts (in_F i_Mo) hown hK hP 0 rfl rfl 2 (by decide) (hts _ (in_c k_280)) (fun _ h9 => h9) rfl d_Mo_move_171 ?_
                  refine lv_iload_n hx hb d_Mo_move_174 rfl (lv_at hl 1 rfl) ?_
                  refine lv_lload hx hb d_Mo_move_175 (lv_at hl 3 rfl) ?_
                  refine lv_l2i hx hb d_Mo_move_177 rfl ?_
                  obtain ⟨hi49, hm⟩ := gI_e hm
                  obtain ⟨f50, ef50⟩ : ∃ y : Nat → Int32, y = upd f_0_across p1.toNatClampNeg (Int64.toInt32 y17) := ⟨_, rfl⟩
                  replace hm := lt_el hm ef50
                  refine va_iast hx hb hK hP hD hS 2 0 rfl rfl hi49 d_Mo_move_178 (fun H locs hP hD hS => ?_)
                  rw [← ef50] at hP hD
                  have hP : va_P (dC, dI) vwCl (wl_Mo_move a_0 a_0_isFlat a_0_across a_0_lows a_0_highs b_0_thick b_0_doorCounts b_0_doorFrom b_0_doorTo b_0_xs b_0_ys b_0_labels b_0_oldXs b_0_oldYs b_0_oldLabels b_0_names b_0_oldNames b_0_wanted b_0_common b_0_flatEdges b_0_upEdges b_0_isPoint b_0_stack b_0_pieceLines b_0_pieceBegins b_0_pieceEnds b_0_pieceLeft b_0_pieceRight b_0_outs b_0_isSeen b_0_ringSpaces b_0_ringStarts b_0_ringSizes b_0_ringLeast b_0_looseLines b_0_looseXs b_0_looseYs b_0_looseReaches b_0_far cZ cI x37 v_0_lines v_0_isFresh v_0_hasRun v_0_runs v_0_nx v_0_ny v_0_spaces v_0_oldNx v_0_oldNy v_0_oldSpaces v_0_points v_0_pieces v_0_rings v_0_outsideSides v_0_looseCount f_0_isFlat f50 f_0_lows f_0_highs) H := hP
                  have hD : va_D A (wl_Mo_move a_0 a_0_isFlat a_0_across a_0_lows a_0_highs b_0_thick b_0_doorCounts b_0_doorFrom b_0_doorTo b_0_xs b_0_ys b_0_labels b_0_oldXs b_0_oldYs b_0_oldLabels b_0_names b_0_oldNames b_0_wanted b_0_common b_0_flatEdges b_0_upEdges b_0_isPoint b_0_stack b_0_pieceLines b_0_pieceBegins b_0_pieceEnds b_0_pieceLeft b_0_pieceRight b_0_outs b_0_isSeen b_0_ringSpaces b_0_ringStarts b_0_ringSizes b_0_ringLeast b_0_looseLines b_0_looseXs b_0_looseYs b_0_looseReaches b_0_far cZ cI x37 v_0_lines v_0_isFresh v_0_hasRun v_0_runs v_0_nx v_0_ny v_0_spaces v_0_oldNx v_0_oldNy v_0_oldSpaces v_0_points v_0_pieces v_0_rings v_0_outsideSides v_0_looseCount f_0_isFlat f50 f_0_lows f_0_highs) := hD
                  refine lv_aload_n hx hb d_Mo_move_179 rfl (lv_at hl 0 rfl) ?_
                  refine va_get (D := (dC, dI)) (ci := 11) (v := .ref a_0_lows) (C := "SpaceCyclesModel") (T := F_Mo) (N := 54) hx hb hts (in_F i_Mo) hown hK hP 0 rfl rfl 3 (by decide) (hts _ (in_c k_281)) (fun _ h9 => h9) rfl d_Mo_move_180 ?_
                  refine lv_iload_n hx hb d_Mo_move_183 rfl (lv_at hl 1 rfl) ?_
                  refine lv_lload hx hb d_Mo_move_184 (lv_at hl 4 rfl) ?_
                  refine lv_l2i hx hb d_Mo_move_186 rfl ?_
                  obtain ⟨hi51, hm⟩ := gI_e hm
                  obtain ⟨f52, ef52⟩ : ∃ y : Nat → Int32, y = upd f_0_lows p1.toNatClampNeg (Int64.toInt32 y24) := ⟨_, rfl⟩
                  replace hm := lt_el hm ef52
                  refine va_iast hx hb hK hP hD hS 3 0 rfl rfl hi51 d_Mo_move_187 (fun H locs hP hD hS => ?_)
                  rw [← ef52] at hP hD
                  have hP : va_P (dC, dI) vwCl (wl_Mo_move a_0 a_0_isFlat a_0_across a_0_lows a_0_highs b_0_thick b_0_doorCounts b_0_doorFrom b_0_doorTo b_0_xs b_0_ys b_0_labels b_0_oldXs b_0_oldYs b_0_oldLabels b_0_names b_0_oldNames b_0_wanted b_0_common b_0_flatEdges b_0_upEdges b_0_isPoint b_0_stack b_0_pieceLines b_0_pieceBegins b_0_pieceEnds b_0_pieceLeft b_0_pieceRight b_0_outs b_0_isSeen b_0_ringSpaces b_0_ringStarts b_0_ringSizes b_0_ringLeast b_0_looseLines b_0_looseXs b_0_looseYs b_0_looseReaches b_0_far cZ cI x37 v_0_lines v_0_isFresh v_0_hasRun v_0_runs v_0_nx v_0_ny v_0_spaces v_0_oldNx v_0_oldNy v_0_oldSpaces v_0_points v_0_pieces v_0_rings v_0_outsideSides v_0_looseCount f_0_isFlat f50 f52 f_0_highs) H := hP
                  have hD : va_D A (wl_Mo_move a_0 a_0_isFlat a_0_across a_0_lows a_0_highs b_0_thick b_0_doorCounts b_0_doorFrom b_0_doorTo b_0_xs b_0_ys b_0_labels b_0_oldXs b_0_oldYs b_0_oldLabels b_0_names b_0_oldNames b_0_wanted b_0_common b_0_flatEdges b_0_upEdges b_0_isPoint b_0_stack b_0_pieceLines b_0_pieceBegins b_0_pieceEnds b_0_pieceLeft b_0_pieceRight b_0_outs b_0_isSeen b_0_ringSpaces b_0_ringStarts b_0_ringSizes b_0_ringLeast b_0_looseLines b_0_looseXs b_0_looseYs b_0_looseReaches b_0_far cZ cI x37 v_0_lines v_0_isFresh v_0_hasRun v_0_runs v_0_nx v_0_ny v_0_spaces v_0_oldNx v_0_oldNy v_0_oldSpaces v_0_points v_0_pieces v_0_rings v_0_outsideSides v_0_looseCount f_0_isFlat f50 f52 f_0_highs) := hD
                  refine lv_aload_n hx hb d_Mo_move_188 rfl (lv_at hl 0 rfl) ?_
                  refine va_get (D := (dC, dI)) (ci := 11) (v := .ref a_0_highs) (C := "SpaceCyclesModel") (T := F_Mo) (N := 54) hx hb hts (in_F i_Mo) hown hK hP 0 rfl rfl 4 (by decide) (hts _ (in_c k_282)) (fun _ h9 => h9) rfl d_Mo_move_189 ?_
                  refine lv_iload_n hx hb d_Mo_move_192 rfl (lv_at hl 1 rfl) ?_
                  refine lv_lload hx hb d_Mo_move_193 (lv_at hl 5 rfl) ?_
                  refine lv_l2i hx hb d_Mo_move_195 rfl ?_
                  obtain ⟨hi53, hm⟩ := gI_e hm
                  obtain ⟨f54, ef54⟩ : ∃ y : Nat → Int32, y = upd f_0_highs p1.toNatClampNeg (Int64.toInt32 y31) := ⟨_, rfl⟩
                  replace hm := lt_el hm ef54
                  refine va_iast hx hb hK hP hD hS 4 0 rfl rfl hi53 d_Mo_move_196 (fun H locs hP hD hS => ?_)
                  rw [← ef54] at hP hD
                  have hP : va_P (dC, dI) vwCl (wl_Mo_move a_0 a_0_isFlat a_0_across a_0_lows a_0_highs b_0_thick b_0_doorCounts b_0_doorFrom b_0_doorTo b_0_xs b_0_ys b_0_labels b_0_oldXs b_0_oldYs b_0_oldLabels b_0_names b_0_oldNames b_0_wanted b_0_common b_0_flatEdges b_0_upEdges b_0_isPoint b_0_stack b_0_pieceLines b_0_pieceBegins b_0_pieceEnds b_0_pieceLeft b_0_pieceRight b_0_outs b_0_isSeen b_0_ringSpaces b_0_ringStarts b_0_ringSizes b_0_ringLeast b_0_looseLines b_0_looseXs b_0_looseYs b_0_looseReaches b_0_far cZ cI x37 v_0_lines v_0_isFresh v_0_hasRun v_0_runs v_0_nx v_0_ny v_0_spaces v_0_oldNx v_0_oldNy v_0_oldSpaces v_0_points v_0_pieces v_0_rings v_0_outsideSides v_0_looseCount f_0_isFlat f50 f52 f54) H := hP
                  have hD : va_D A (wl_Mo_move a_0 a_0_isFlat a_0_across a_0_lows a_0_highs b_0_thick b_0_doorCounts b_0_doorFrom b_0_doorTo b_0_xs b_0_ys b_0_labels b_0_oldXs b_0_oldYs b_0_oldLabels b_0_names b_0_oldNames b_0_wanted b_0_common b_0_flatEdges b_0_upEdges b_0_isPoint b_0_stack b_0_pieceLines b_0_pieceBegins b_0_pieceEnds b_0_pieceLeft b_0_pieceRight b_0_outs b_0_isSeen b_0_ringSpaces b_0_ringStarts b_0_ringSizes b_0_ringLeast b_0_looseLines b_0_looseXs b_0_looseYs b_0_looseReaches b_0_far cZ cI x37 v_0_lines v_0_isFresh v_0_hasRun v_0_runs v_0_nx v_0_ny v_0_spaces v_0_oldNx v_0_oldNy v_0_oldSpaces v_0_points v_0_pieces v_0_rings v_0_outsideSides v_0_looseCount f_0_isFlat f50 f52 f54) := hD
                  refine lv_aload_n hx hb d_Mo_move_197 rfl (lv_at hl 0 rfl) ?_
                  refine lv_iconst (v := 0) hx hb d_Mo_move_198 (by decide) ?_
                  refine va_put (D := (dC, dI)) (ci := 11) (v := .int 0) (ty := .boolean) (C := "SpaceCyclesModel") (T := F_Mo) (N := 54) hx hb hts (in_F i_Mo) t_Mo t_Mo_ok n_Mo hown hK hP hD hS 0 rfl rfl 10 (by decide) (hts _ (in_c k_289)) (fun _ h9 => h9) rfl (by decide +kernel) rfl rfl (Nat.le_of_ble_eq_true rfl) d_Mo_move_199 (fun H locs hP hD hS => ?_)
                  have hP : va_P (dC, dI) vwCl (wl_Mo_move a_0 a_0_isFlat a_0_across a_0_lows a_0_highs b_0_thick b_0_doorCounts b_0_doorFrom b_0_doorTo b_0_xs b_0_ys b_0_labels b_0_oldXs b_0_oldYs b_0_oldLabels b_0_names b_0_oldNames b_0_wanted b_0_common b_0_flatEdges b_0_upEdges b_0_isPoint b_0_stack b_0_pieceLines b_0_pieceBegins b_0_pieceEnds b_0_pieceLeft b_0_pieceRight b_0_outs b_0_isSeen b_0_ringSpaces b_0_ringStarts b_0_ringSizes b_0_ringLeast b_0_looseLines b_0_looseXs b_0_looseYs b_0_looseReaches b_0_far cZ cI x37 v_0_lines 0 v_0_hasRun v_0_runs v_0_nx v_0_ny v_0_spaces v_0_oldNx v_0_oldNy v_0_oldSpaces v_0_points v_0_pieces v_0_rings v_0_outsideSides v_0_looseCount f_0_isFlat f50 f52 f54) H := hP
                  have hD : va_D A (wl_Mo_move a_0 a_0_isFlat a_0_across a_0_lows a_0_highs b_0_thick b_0_doorCounts b_0_doorFrom b_0_doorTo b_0_xs b_0_ys b_0_labels b_0_oldXs b_0_oldYs b_0_oldLabels b_0_names b_0_oldNames b_0_wanted b_0_common b_0_flatEdges b_0_upEdges b_0_isPoint b_0_stack b_0_pieceLines b_0_pieceBegins b_0_pieceEnds b_0_pieceLeft b_0_pieceRight b_0_outs b_0_isSeen b_0_ringSpaces b_0_ringStarts b_0_ringSizes b_0_ringLeast b_0_looseLines b_0_looseXs b_0_looseYs b_0_looseReaches b_0_far cZ cI x37 v_0_lines 0 v_0_hasRun v_0_runs v_0_nx v_0_ny v_0_spaces v_0_oldNx v_0_oldNy v_0_oldSpaces v_0_points v_0_pieces v_0_rings v_0_outsideSides v_0_looseCount f_0_isFlat f50 f52 f54) := hD
                  refine lv_iconst (v := 1) hx hb d_Mo_move_202 (by decide) ?_
                  obtain ⟨hB, hm⟩ := gB_e hm
                  cases hm
                  exact hret _ H locs ls d_Mo_move_203 hB hP hD hS
                · replace hm := if_f hm c48
                  refine lv_iconst (v := 0) hx hb d_Mo_move_168 (by decide) ?_
                  obtain ⟨hB, hm⟩ := gB_e hm
                  cases hm
                  exact hret _ H locs ls d_Mo_move_169 hB hP hD hS
            replace hm := hb35
            refine lv_if_eq (tgt := 138) hx hb d_Mo_move_107 (by decide) (fun c38 => ?_) (fun c38 => ?_)
            · replace hm := if_t hm c38
              refine lv_iconst (v := 1) hx hb d_Mo_move_138 (by decide) ?_
              cases hm
              exact K34 H locs ls hP hD hS (lv_sub hl [1, 2, 3, 4, 5, 0] rfl)
            · replace hm := if_f hm c38
              refine lv_lload hx hb d_Mo_move_110 (lv_at hl 5 rfl) ?_
              refine lv_lconst (v := 0) hx hb d_Mo_move_112 (by decide) ?_
              refine lv_ldc2 (v := 500) hx hb hown (hts (.constantLong "SpaceCyclesModel" 137 500) (by decide +kernel)) d_Mo_move_113 ?_
              obtain ⟨r39, hb40, hm⟩ := bd1_e hm
              have hPc := hP.sub (ws' := (wl_Mo_isIn)) [] rfl
              have hDc := hD.sub (ws' := (wl_Mo_isIn)) [] (by decide) rfl
              refine cl_i (wc' := (wl_Mo_isIn)) (va_runS (As := [.long y24, .long 0, .long 500]) (rest := [.ref a_0]) ⟨hx, hb, hml, hown, hts⟩ (c_Mo_isIn l dC dI (cI := cI) (cZ := cZ) (cJ := cJ) H.size y24 0 500 r39 hb40) (va_cwS 3 hts (gl_S k_278 k_276 k_277 k_275) rfl rfl rfl (by decide +kernel) ⟨Nat.le_of_ble_eq_true rfl, Nat.le_of_ble_eq_true rfl⟩) ⟨PP_blind, fun U hU hW => PP_at hK hN hPc hDc hU hW⟩ rfl rfl hl.1 rfl (lv_room (Nat.le_of_ble_eq_true rfl)) d_Mo_move_116 ⟨Nat.zero_le _, Nat.zero_le _⟩) hP hD hS hA [] [0, 1, 2, 3, 4] rfl rfl (by decide) (by decide) (fun H locs hP hD hS => ?_)
              have hP : va_P (dC, dI) vwCl (wl_Mo_move a_0 a_0_isFlat a_0_across a_0_lows a_0_highs b_0_thick b_0_doorCounts b_0_doorFrom b_0_doorTo b_0_xs b_0_ys b_0_labels b_0_oldXs b_0_oldYs b_0_oldLabels b_0_names b_0_oldNames b_0_wanted b_0_common b_0_flatEdges b_0_upEdges b_0_isPoint b_0_stack b_0_pieceLines b_0_pieceBegins b_0_pieceEnds b_0_pieceLeft b_0_pieceRight b_0_outs b_0_isSeen b_0_ringSpaces b_0_ringStarts b_0_ringSizes b_0_ringLeast b_0_looseLines b_0_looseXs b_0_looseYs b_0_looseReaches b_0_far cZ cI x6 v_0_lines v_0_isFresh v_0_hasRun v_0_runs v_0_nx v_0_ny v_0_spaces v_0_oldNx v_0_oldNy v_0_oldSpaces v_0_points v_0_pieces v_0_rings v_0_outsideSides v_0_looseCount f_0_isFlat f_0_across f_0_lows f_0_highs) H := hP.sub [0, 1, 2, 3, 4] rfl
              have hD : va_D A (wl_Mo_move a_0 a_0_isFlat a_0_across a_0_lows a_0_highs b_0_thick b_0_doorCounts b_0_doorFrom b_0_doorTo b_0_xs b_0_ys b_0_labels b_0_oldXs b_0_oldYs b_0_oldLabels b_0_names b_0_oldNames b_0_wanted b_0_common b_0_flatEdges b_0_upEdges b_0_isPoint b_0_stack b_0_pieceLines b_0_pieceBegins b_0_pieceEnds b_0_pieceLeft b_0_pieceRight b_0_outs b_0_isSeen b_0_ringSpaces b_0_ringStarts b_0_ringSizes b_0_ringLeast b_0_looseLines b_0_looseXs b_0_looseYs b_0_looseReaches b_0_far cZ cI x6 v_0_lines v_0_isFresh v_0_hasRun v_0_runs v_0_nx v_0_ny v_0_spaces v_0_oldNx v_0_oldNy v_0_oldSpaces v_0_points v_0_pieces v_0_rings v_0_outsideSides v_0_looseCount f_0_isFlat f_0_across f_0_lows f_0_highs) := hD.sub [0, 1, 2, 3, 4] (by decide) rfl
              refine lv_if_eq (tgt := 138) hx hb d_Mo_move_119 (by decide) (fun c41 => ?_) (fun c41 => ?_)
              · replace hm := if_t hm c41
                refine lv_iconst (v := 1) hx hb d_Mo_move_138 (by decide) ?_
                cases hm
                exact K34 H locs ls hP hD hS (lv_sub hl [1, 2, 3, 4, 5, 0] rfl)
              · replace hm := if_f hm c41
                refine lv_lload hx hb d_Mo_move_122 (lv_at hl 0 rfl) ?_
                refine lv_lconst (v := 0) hx hb d_Mo_move_124 (by decide) ?_
                refine lv_ldc2 (v := 500) hx hb hown (hts (.constantLong "SpaceCyclesModel" 137 500) (by decide +kernel)) d_Mo_move_125 ?_
                obtain ⟨r42, hb43, hm⟩ := bd1_e hm
                have hPc := hP.sub (ws' := (wl_Mo_isIn)) [] rfl
                have hDc := hD.sub (ws' := (wl_Mo_isIn)) [] (by decide) rfl
                refine cl_i (wc' := (wl_Mo_isIn)) (va_runS (As := [.long y31, .long 0, .long 500]) (rest := [.ref a_0]) ⟨hx, hb, hml, hown, hts⟩ (c_Mo_isIn l dC dI (cI := cI) (cZ := cZ) (cJ := cJ) H.size y31 0 500 r42 hb43) (va_cwS 3 hts (gl_S k_278 k_276 k_277 k_275) rfl rfl rfl (by decide +kernel) ⟨Nat.le_of_ble_eq_true rfl, Nat.le_of_ble_eq_true rfl⟩) ⟨PP_blind, fun U hU hW => PP_at hK hN hPc hDc hU hW⟩ rfl rfl hl.1 rfl (lv_room (Nat.le_of_ble_eq_true rfl)) d_Mo_move_128 ⟨Nat.zero_le _, Nat.zero_le _⟩) hP hD hS hA [] [0, 1, 2, 3, 4] rfl rfl (by decide) (by decide) (fun H locs hP hD hS => ?_)
                have hP : va_P (dC, dI) vwCl (wl_Mo_move a_0 a_0_isFlat a_0_across a_0_lows a_0_highs b_0_thick b_0_doorCounts b_0_doorFrom b_0_doorTo b_0_xs b_0_ys b_0_labels b_0_oldXs b_0_oldYs b_0_oldLabels b_0_names b_0_oldNames b_0_wanted b_0_common b_0_flatEdges b_0_upEdges b_0_isPoint b_0_stack b_0_pieceLines b_0_pieceBegins b_0_pieceEnds b_0_pieceLeft b_0_pieceRight b_0_outs b_0_isSeen b_0_ringSpaces b_0_ringStarts b_0_ringSizes b_0_ringLeast b_0_looseLines b_0_looseXs b_0_looseYs b_0_looseReaches b_0_far cZ cI x6 v_0_lines v_0_isFresh v_0_hasRun v_0_runs v_0_nx v_0_ny v_0_spaces v_0_oldNx v_0_oldNy v_0_oldSpaces v_0_points v_0_pieces v_0_rings v_0_outsideSides v_0_looseCount f_0_isFlat f_0_across f_0_lows f_0_highs) H := hP.sub [0, 1, 2, 3, 4] rfl
                have hD : va_D A (wl_Mo_move a_0 a_0_isFlat a_0_across a_0_lows a_0_highs b_0_thick b_0_doorCounts b_0_doorFrom b_0_doorTo b_0_xs b_0_ys b_0_labels b_0_oldXs b_0_oldYs b_0_oldLabels b_0_names b_0_oldNames b_0_wanted b_0_common b_0_flatEdges b_0_upEdges b_0_isPoint b_0_stack b_0_pieceLines b_0_pieceBegins b_0_pieceEnds b_0_pieceLeft b_0_pieceRight b_0_outs b_0_isSeen b_0_ringSpaces b_0_ringStarts b_0_ringSizes b_0_ringLeast b_0_looseLines b_0_looseXs b_0_looseYs b_0_looseReaches b_0_far cZ cI x6 v_0_lines v_0_isFresh v_0_hasRun v_0_runs v_0_nx v_0_ny v_0_spaces v_0_oldNx v_0_oldNy v_0_oldSpaces v_0_points v_0_pieces v_0_rings v_0_outsideSides v_0_looseCount f_0_isFlat f_0_across f_0_lows f_0_highs) := hD.sub [0, 1, 2, 3, 4] (by decide) rfl
                refine lv_if_eq (tgt := 138) hx hb d_Mo_move_131 (by decide) (fun c44 => ?_) (fun c44 => ?_)
                · replace hm := if_t hm c44
                  refine lv_iconst (v := 1) hx hb d_Mo_move_138 (by decide) ?_
                  cases hm
                  exact K34 H locs ls hP hD hS (lv_sub hl [1, 2, 3, 4, 5, 0] rfl)
                · replace hm := if_f hm c44
                  refine lv_iconst (v := 0) hx hb d_Mo_move_134 (by decide) ?_
                  refine lv_goto (tgt := 139) hx hb d_Mo_move_135 (by decide) ?_
                  cases hm
                  exact K34 H locs ls hP hD hS (lv_sub hl [1, 2, 3, 4, 5, 0] rfl)
          replace hm := hb27
          refine lv_if_eq (tgt := 92) hx hb d_Mo_move_85 (by decide) (fun c30 => ?_) (fun c30 => ?_)
          · replace hm := if_t hm c30
            refine lv_iload_n hx hb d_Mo_move_92 rfl (lv_at hl 4 rfl) ?_
            cases hm
            exact K26 H locs ls hP hD hS (lv_sub hl [1, 2, 5, 6, 0] rfl)
          · replace hm := if_f hm c30
            refine lv_iload_n hx hb d_Mo_move_88 rfl (lv_at hl 3 rfl) ?_
            refine lv_goto (tgt := 93) hx hb d_Mo_move_89 (by decide) ?_
            cases hm
            exact K26 H locs ls hP hD hS (lv_sub hl [1, 2, 5, 6, 0] rfl)
        replace hm := hb20
        refine lv_if_eq (tgt := 71) hx hb d_Mo_move_64 (by decide) (fun c23 => ?_) (fun c23 => ?_)
        · replace hm := if_t hm c23
          refine lv_iload_n hx hb d_Mo_move_71 rfl (lv_at hl 4 rfl) ?_
          cases hm
          exact K19 H locs ls hP hD hS (lv_sub hl [1, 2, 3, 4, 5, 0] rfl)
        · replace hm := if_f hm c23
          refine lv_iload_n hx hb d_Mo_move_67 rfl (lv_at hl 3 rfl) ?_
          refine lv_goto (tgt := 72) hx hb d_Mo_move_68 (by decide) ?_
          cases hm
          exact K19 H locs ls hP hD hS (lv_sub hl [1, 2, 3, 4, 5, 0] rfl)
      replace hm := hb13
      refine lv_if_eq (tgt := 50) hx hb d_Mo_move_43 (by decide) (fun c16 => ?_) (fun c16 => ?_)
      · replace hm := if_t hm c16
        refine lv_iload_n hx hb d_Mo_move_50 rfl (lv_at hl 3 rfl) ?_
        cases hm
        exact K12 H locs ls hP hD hS (lv_sub hl [1, 2, 3, 4, 0] rfl)
      · replace hm := if_f hm c16
        refine lv_iload_n hx hb d_Mo_move_46 rfl (lv_at hl 4 rfl) ?_
        refine lv_goto (tgt := 51) hx hb d_Mo_move_47 (by decide) ?_
        cases hm
        exact K12 H locs ls hP hD hS (lv_sub hl [1, 2, 3, 4, 0] rfl)
    · replace hm := if_f hm c8
      refine lv_iconst (v := 0) hx hb d_Mo_move_24 (by decide) ?_
      obtain ⟨hB, hm⟩ := gB_e hm
      cases hm
      exact hret _ H locs ls d_Mo_move_25 hB hP hD hS
  replace hm := hb4
  refine lv_if_eq (tgt := 13) hx hb d_Mo_move_6 (by decide) (fun c7 => ?_) (fun c7 => ?_)
  · replace hm := if_t hm c7
    refine lv_iconst (v := 1) hx hb d_Mo_move_13 (by decide) ?_
    cases hm
    exact K3 H locs ls hP hD hS (lv_sub hl [0, 1, 2, 3] rfl)
  · replace hm := if_f hm c7
    refine lv_iconst (v := 0) hx hb d_Mo_move_9 (by decide) ?_
    refine lv_goto (tgt := 14) hx hb d_Mo_move_10 (by decide) ?_
    cases hm
    exact K3 H locs ls hP hD hS (lv_sub hl [0, 1, 2, 3] rfl)
set_option maxHeartbeats 4000000 in
set_option maxRecDepth 100000 in
theorem c_Mo_move (l : Launch) (dC : Nat → ClassId) (dI : Nat → Nat → Nat) {cI cZ cJ : ClassId} (a_0 a_0_isFlat a_0_across a_0_lows a_0_highs b_0_thick b_0_doorCounts b_0_doorFrom b_0_doorTo b_0_xs b_0_ys b_0_labels b_0_oldXs b_0_oldYs b_0_oldLabels b_0_names b_0_oldNames b_0_wanted b_0_common b_0_flatEdges b_0_upEdges b_0_isPoint b_0_stack b_0_pieceLines b_0_pieceBegins b_0_pieceEnds b_0_pieceLeft b_0_pieceRight b_0_outs b_0_isSeen b_0_ringSpaces b_0_ringStarts b_0_ringSizes b_0_ringLeast b_0_looseLines b_0_looseXs b_0_looseYs b_0_looseReaches b_0_far : Nat) (sz : Nat) (v_0_code : Int32) (v_0_lines : Int32) (v_0_isFresh : Int32) (v_0_hasRun : Int32) (v_0_runs : Int32) (v_0_nx : Int32) (v_0_ny : Int32) (v_0_spaces : Int32) (v_0_oldNx : Int32) (v_0_oldNy : Int32) (v_0_oldSpaces : Int32) (v_0_points : Int32) (v_0_pieces : Int32) (v_0_rings : Int32) (v_0_outsideSides : Int32) (v_0_looseCount : Int32) (f_0_isFlat : Nat → Int32) (f_0_across : Nat → Int32) (f_0_lows : Nat → Int32) (f_0_highs : Nat → Int32) (p1 : Int32) (p2 : Int32) (p3 : Int32) (R0 : Int32) (ov_0_code : Int32) (ov_0_isFresh : Int32) (of_0_across : Nat → Int32) (of_0_lows : Nat → Int32) (of_0_highs : Nat → Int32) (hm : m_Mo_move p1 p2 p3 v_0_code v_0_lines v_0_isFresh f_0_isFlat f_0_across f_0_lows f_0_highs = some (R0, ov_0_code, ov_0_isFresh, of_0_across, of_0_lows, of_0_highs)) : Met l y_Mo_move w_Mo_move rm_Mo_move (PP dC dI [(cI, .int), (cZ, .boolean), (cJ, .long)] [.ref a_0, .int p1, .int p2, .int p3] sz (wl_Mo_move a_0 a_0_isFlat a_0_across a_0_lows a_0_highs b_0_thick b_0_doorCounts b_0_doorFrom b_0_doorTo b_0_xs b_0_ys b_0_labels b_0_oldXs b_0_oldYs b_0_oldLabels b_0_names b_0_oldNames b_0_wanted b_0_common b_0_flatEdges b_0_upEdges b_0_isPoint b_0_stack b_0_pieceLines b_0_pieceBegins b_0_pieceEnds b_0_pieceLeft b_0_pieceRight b_0_outs b_0_isSeen b_0_ringSpaces b_0_ringStarts b_0_ringSizes b_0_ringLeast b_0_looseLines b_0_looseXs b_0_looseYs b_0_looseReaches b_0_far cZ cI v_0_code v_0_lines v_0_isFresh v_0_hasRun v_0_runs v_0_nx v_0_ny v_0_spaces v_0_oldNx v_0_oldNy v_0_oldSpaces v_0_points v_0_pieces v_0_rings v_0_outsideSides v_0_looseCount f_0_isFlat f_0_across f_0_lows f_0_highs)) (QI dC dI [(cI, .int), (cZ, .boolean), (cJ, .long)] sz (wl_Mo_move a_0 a_0_isFlat a_0_across a_0_lows a_0_highs b_0_thick b_0_doorCounts b_0_doorFrom b_0_doorTo b_0_xs b_0_ys b_0_labels b_0_oldXs b_0_oldYs b_0_oldLabels b_0_names b_0_oldNames b_0_wanted b_0_common b_0_flatEdges b_0_upEdges b_0_isPoint b_0_stack b_0_pieceLines b_0_pieceBegins b_0_pieceEnds b_0_pieceLeft b_0_pieceRight b_0_outs b_0_isSeen b_0_ringSpaces b_0_ringStarts b_0_ringSizes b_0_ringLeast b_0_looseLines b_0_looseXs b_0_looseYs b_0_looseReaches b_0_far cZ cI v_0_code v_0_lines v_0_isFresh v_0_hasRun v_0_runs v_0_nx v_0_ny v_0_spaces v_0_oldNx v_0_oldNy v_0_oldSpaces v_0_points v_0_pieces v_0_rings v_0_outsideSides v_0_looseCount f_0_isFlat f_0_across f_0_lows f_0_highs) (wl_Mo_move a_0 a_0_isFlat a_0_across a_0_lows a_0_highs b_0_thick b_0_doorCounts b_0_doorFrom b_0_doorTo b_0_xs b_0_ys b_0_labels b_0_oldXs b_0_oldYs b_0_oldLabels b_0_names b_0_oldNames b_0_wanted b_0_common b_0_flatEdges b_0_upEdges b_0_isPoint b_0_stack b_0_pieceLines b_0_pieceBegins b_0_pieceEnds b_0_pieceLeft b_0_pieceRight b_0_outs b_0_isSeen b_0_ringSpaces b_0_ringStarts b_0_ringSizes b_0_ringLeast b_0_looseLines b_0_looseXs b_0_looseYs b_0_looseReaches b_0_far cZ cI ov_0_code v_0_lines ov_0_isFresh v_0_hasRun v_0_runs v_0_nx v_0_ny v_0_spaces v_0_oldNx v_0_oldNy v_0_oldSpaces v_0_points v_0_pieces v_0_rings v_0_outsideSides v_0_looseCount f_0_isFlat of_0_across of_0_lows of_0_highs) R0) 0 0 (va_A (wl_Mo_move a_0 a_0_isFlat a_0_across a_0_lows a_0_highs b_0_thick b_0_doorCounts b_0_doorFrom b_0_doorTo b_0_xs b_0_ys b_0_labels b_0_oldXs b_0_oldYs b_0_oldLabels b_0_names b_0_oldNames b_0_wanted b_0_common b_0_flatEdges b_0_upEdges b_0_isPoint b_0_stack b_0_pieceLines b_0_pieceBegins b_0_pieceEnds b_0_pieceLeft b_0_pieceRight b_0_outs b_0_isSeen b_0_ringSpaces b_0_ringStarts b_0_ringSizes b_0_ringLeast b_0_looseLines b_0_looseXs b_0_looseYs b_0_looseReaches b_0_far cZ cI v_0_code v_0_lines v_0_isFresh v_0_hasRun v_0_runs v_0_nx v_0_ny v_0_spaces v_0_oldNx v_0_oldNy v_0_oldSpaces v_0_points v_0_pieces v_0_rings v_0_outsideSides v_0_looseCount f_0_isFlat f_0_across f_0_lows f_0_highs) sz) := by
  refine Met.ofW (cc := b_Mo_move) (maxL := 11) (ret := (some .boolean)) (by decide) rfl ?_
  intro p e s m args below meth c s₁ B hml hv
  obtain ⟨rfl, hsz, hP, hK, hD0, hN⟩ := hv
  subst hsz
  have hl := lv_entry ([.ref a_0, .int p1, .int p2, .int p3]) (n := 11) (Nat.le_of_ble_eq_true rfl)
  rw [lg_entry_eq]
  generalize (lg_sl ([.ref a_0, .int p1, .int p2, .int p3]) ++ List.replicate (11 - (lg_sl ([.ref a_0, .int p1, .int p2, .int p3])).length) Slot.unset).toArray = ls at hl ⊢
  exact t_Mo_move a_0 a_0_isFlat a_0_across a_0_lows a_0_highs b_0_thick b_0_doorCounts b_0_doorFrom b_0_doorTo b_0_xs b_0_ys b_0_labels b_0_oldXs b_0_oldYs b_0_oldLabels b_0_names b_0_oldNames b_0_wanted b_0_common b_0_flatEdges b_0_upEdges b_0_isPoint b_0_stack b_0_pieceLines b_0_pieceBegins b_0_pieceEnds b_0_pieceLeft b_0_pieceRight b_0_outs b_0_isSeen b_0_ringSpaces b_0_ringStarts b_0_ringSizes b_0_ringLeast b_0_looseLines b_0_looseXs b_0_looseYs b_0_looseReaches b_0_far v_0_code v_0_lines v_0_isFresh v_0_hasRun v_0_runs v_0_nx v_0_ny v_0_spaces v_0_oldNx v_0_oldNy v_0_oldSpaces v_0_points v_0_pieces v_0_rings v_0_outsideSides v_0_looseCount f_0_isFlat f_0_across f_0_lows f_0_highs p1 p2 p3 R0 ov_0_code ov_0_isFresh of_0_across of_0_lows of_0_highs B.exec B.bytes hml (findClass_of_methodNamed B.named) (atoms_spec (ws := w_Mo_move) B.pre) hK hN (fun q h => Or.inr h) (fun pc H locs ls hd hz hP9 hD9 hS => W.zret B.exec B.bytes B.returns (nar_b hz) (fun t ht hW => ⟨⟨_, (), rfl, rfl, by rw [ht]; exact hP9, va_K.moved hW.alike hK, hD9⟩, hS.F ht⟩) hS.2.2 hd) hm s.heap [] ls hP hD0.self va_S.rf hl

theorem k_294 : ((.fieldLink "SpaceCyclesModel" 29 "SpaceCyclesModel" "doorFrom" "[I") : Cond) ∈ gl := gl_i 1129 (by decide +kernel) (by decide +kernel)
theorem k_295 : ((.fieldLink "SpaceCyclesModel" 32 "SpaceCyclesModel" "doorTo" "[I") : Cond) ∈ gl := gl_i 1130 (by decide +kernel) (by decide +kernel)
-- SpaceCyclesModel.door(III)I
abbrev b_Mo_door : ByteArray := prog_13_method_8_code
abbrev y_Mo_door : MethodName := ⟨"SpaceCyclesModel", "door", "(III)I"⟩
abbrev w_Mo_door : List Cond := Cond.code y_Mo_door b_Mo_door 5 (some .int) :: gl
abbrev rm_Mo_door : Room := { frames := 2, cells := 0, slots := 0, locals := 46 }
theorem d_Mo_door_0 : decode b_Mo_door 0 = .ok (.aload_n 0, 1) := by decide +kernel
theorem d_Mo_door_1 : decode b_Mo_door 1 = .ok (.iload_n 1, 1) := by decide +kernel
theorem d_Mo_door_2 : decode b_Mo_door 2 = .ok (.invokevirtual 149, 3) := by decide +kernel
theorem d_Mo_door_5 : decode b_Mo_door 5 = .ok (.ifCond .eq 33, 3) := by decide +kernel
theorem d_Mo_door_8 : decode b_Mo_door 8 = .ok (.iload_n 2, 1) := by decide +kernel
theorem d_Mo_door_9 : decode b_Mo_door 9 = .ok (.ifCond .lt 29, 3) := by decide +kernel
theorem d_Mo_door_12 : decode b_Mo_door 12 = .ok (.iload_n 2, 1) := by decide +kernel
theorem d_Mo_door_13 : decode b_Mo_door 13 = .ok (.iload_n 3, 1) := by decide +kernel
theorem d_Mo_door_14 : decode b_Mo_door 14 = .ok (.if_icmp .ge 24, 3) := by decide +kernel
theorem d_Mo_door_17 : decode b_Mo_door 17 = .ok (.iload_n 3, 1) := by decide +kernel
theorem d_Mo_door_18 : decode b_Mo_door 18 = .ok (.aload_n 0, 1) := by decide +kernel
theorem d_Mo_door_19 : decode b_Mo_door 19 = .ok (.getfield 20, 3) := by decide +kernel
theorem d_Mo_door_22 : decode b_Mo_door 22 = .ok (.iload_n 1, 1) := by decide +kernel
theorem d_Mo_door_23 : decode b_Mo_door 23 = .ok (.iaload, 1) := by decide +kernel
theorem d_Mo_door_24 : decode b_Mo_door 24 = .ok (.aload_n 0, 1) := by decide +kernel
theorem d_Mo_door_25 : decode b_Mo_door 25 = .ok (.getfield 17, 3) := by decide +kernel
theorem d_Mo_door_28 : decode b_Mo_door 28 = .ok (.iload_n 1, 1) := by decide +kernel
theorem d_Mo_door_29 : decode b_Mo_door 29 = .ok (.iaload, 1) := by decide +kernel
theorem d_Mo_door_30 : decode b_Mo_door 30 = .ok (.isub, 1) := by decide +kernel
theorem d_Mo_door_31 : decode b_Mo_door 31 = .ok (.if_icmp .gt 7, 3) := by decide +kernel
theorem d_Mo_door_34 : decode b_Mo_door 34 = .ok (.iconst 1, 1) := by decide +kernel
theorem d_Mo_door_35 : decode b_Mo_door 35 = .ok (.goto 4, 3) := by decide +kernel
theorem d_Mo_door_38 : decode b_Mo_door 38 = .ok (.iconst 0, 1) := by decide +kernel
theorem d_Mo_door_39 : decode b_Mo_door 39 = .ok (.istore 4, 2) := by decide +kernel
theorem d_Mo_door_41 : decode b_Mo_door 41 = .ok (.aload_n 0, 1) := by decide +kernel
theorem d_Mo_door_42 : decode b_Mo_door 42 = .ok (.iload 4, 2) := by decide +kernel
theorem d_Mo_door_44 : decode b_Mo_door 44 = .ok (.ifCond .ne 7, 3) := by decide +kernel
theorem d_Mo_door_47 : decode b_Mo_door 47 = .ok (.iconst 1, 1) := by decide +kernel
theorem d_Mo_door_48 : decode b_Mo_door 48 = .ok (.goto 19, 3) := by decide +kernel
theorem d_Mo_door_51 : decode b_Mo_door 51 = .ok (.aload_n 0, 1) := by decide +kernel
theorem d_Mo_door_52 : decode b_Mo_door 52 = .ok (.getfield 26, 3) := by decide +kernel
theorem d_Mo_door_55 : decode b_Mo_door 55 = .ok (.iload_n 1, 1) := by decide +kernel
theorem d_Mo_door_56 : decode b_Mo_door 56 = .ok (.iaload, 1) := by decide +kernel
theorem d_Mo_door_57 : decode b_Mo_door 57 = .ok (.bipush 6, 2) := by decide +kernel
theorem d_Mo_door_59 : decode b_Mo_door 59 = .ok (.if_icmp .ne 7, 3) := by decide +kernel
theorem d_Mo_door_62 : decode b_Mo_door 62 = .ok (.iconst 2, 1) := by decide +kernel
theorem d_Mo_door_63 : decode b_Mo_door 63 = .ok (.goto 4, 3) := by decide +kernel
theorem d_Mo_door_66 : decode b_Mo_door 66 = .ok (.iconst 0, 1) := by decide +kernel
theorem d_Mo_door_67 : decode b_Mo_door 67 = .ok (.putfield 126, 3) := by decide +kernel
theorem d_Mo_door_70 : decode b_Mo_door 70 = .ok (.aload_n 0, 1) := by decide +kernel
theorem d_Mo_door_71 : decode b_Mo_door 71 = .ok (.getfield 126, 3) := by decide +kernel
theorem d_Mo_door_74 : decode b_Mo_door 74 = .ok (.ifCond .le 5, 3) := by decide +kernel
theorem d_Mo_door_77 : decode b_Mo_door 77 = .ok (.iconst 0, 1) := by decide +kernel
theorem d_Mo_door_78 : decode b_Mo_door 78 = .ok (.ireturn, 1) := by decide +kernel
theorem d_Mo_door_79 : decode b_Mo_door 79 = .ok (.aload_n 0, 1) := by decide +kernel
theorem d_Mo_door_80 : decode b_Mo_door 80 = .ok (.getfield 29, 3) := by decide +kernel
theorem d_Mo_door_83 : decode b_Mo_door 83 = .ok (.bipush 6, 2) := by decide +kernel
theorem d_Mo_door_85 : decode b_Mo_door 85 = .ok (.iload_n 1, 1) := by decide +kernel
theorem d_Mo_door_86 : decode b_Mo_door 86 = .ok (.imul, 1) := by decide +kernel
theorem d_Mo_door_87 : decode b_Mo_door 87 = .ok (.aload_n 0, 1) := by decide +kernel
theorem d_Mo_door_88 : decode b_Mo_door 88 = .ok (.getfield 26, 3) := by decide +kernel
theorem d_Mo_door_91 : decode b_Mo_door 91 = .ok (.iload_n 1, 1) := by decide +kernel
theorem d_Mo_door_92 : decode b_Mo_door 92 = .ok (.iaload, 1) := by decide +kernel
theorem d_Mo_door_93 : decode b_Mo_door 93 = .ok (.iadd, 1) := by decide +kernel
theorem d_Mo_door_94 : decode b_Mo_door 94 = .ok (.iload_n 2, 1) := by decide +kernel
theorem d_Mo_door_95 : decode b_Mo_door 95 = .ok (.iastore, 1) := by decide +kernel
theorem d_Mo_door_96 : decode b_Mo_door 96 = .ok (.aload_n 0, 1) := by decide +kernel
theorem d_Mo_door_97 : decode b_Mo_door 97 = .ok (.getfield 32, 3) := by decide +kernel
theorem d_Mo_door_100 : decode b_Mo_door 100 = .ok (.bipush 6, 2) := by decide +kernel
theorem d_Mo_door_102 : decode b_Mo_door 102 = .ok (.iload_n 1, 1) := by decide +kernel
theorem d_Mo_door_103 : decode b_Mo_door 103 = .ok (.imul, 1) := by decide +kernel
theorem d_Mo_door_104 : decode b_Mo_door 104 = .ok (.aload_n 0, 1) := by decide +kernel
theorem d_Mo_door_105 : decode b_Mo_door 105 = .ok (.getfield 26, 3) := by decide +kernel
theorem d_Mo_door_108 : decode b_Mo_door 108 = .ok (.iload_n 1, 1) := by decide +kernel
theorem d_Mo_door_109 : decode b_Mo_door 109 = .ok (.iaload, 1) := by decide +kernel
theorem d_Mo_door_110 : decode b_Mo_door 110 = .ok (.iadd, 1) := by decide +kernel
theorem d_Mo_door_111 : decode b_Mo_door 111 = .ok (.iload_n 3, 1) := by decide +kernel
theorem d_Mo_door_112 : decode b_Mo_door 112 = .ok (.iastore, 1) := by decide +kernel
theorem d_Mo_door_113 : decode b_Mo_door 113 = .ok (.aload_n 0, 1) := by decide +kernel
theorem d_Mo_door_114 : decode b_Mo_door 114 = .ok (.getfield 26, 3) := by decide +kernel
theorem d_Mo_door_117 : decode b_Mo_door 117 = .ok (.iload_n 1, 1) := by decide +kernel
theorem d_Mo_door_118 : decode b_Mo_door 118 = .ok (.dup2, 1) := by decide +kernel
theorem d_Mo_door_119 : decode b_Mo_door 119 = .ok (.iaload, 1) := by decide +kernel
theorem d_Mo_door_120 : decode b_Mo_door 120 = .ok (.iconst 1, 1) := by decide +kernel
theorem d_Mo_door_121 : decode b_Mo_door 121 = .ok (.iadd, 1) := by decide +kernel
theorem d_Mo_door_122 : decode b_Mo_door 122 = .ok (.iastore, 1) := by decide +kernel
theorem d_Mo_door_123 : decode b_Mo_door 123 = .ok (.aload_n 0, 1) := by decide +kernel
theorem d_Mo_door_124 : decode b_Mo_door 124 = .ok (.getfield 26, 3) := by decide +kernel
theorem d_Mo_door_127 : decode b_Mo_door 127 = .ok (.iload_n 1, 1) := by decide +kernel
theorem d_Mo_door_128 : decode b_Mo_door 128 = .ok (.iaload, 1) := by decide +kernel
theorem d_Mo_door_129 : decode b_Mo_door 129 = .ok (.ireturn, 1) := by decide +kernel
abbrev wl_Mo_door (a_0 : Nat) (a_0_lows : Nat) (a_0_highs : Nat) (a_0_doorCounts : Nat) (a_0_doorFrom : Nat) (a_0_doorTo : Nat) (b_0_isFlat : Nat) (b_0_across : Nat) (b_0_thick : Nat) (b_0_xs : Nat) (b_0_ys : Nat) (b_0_labels : Nat) (b_0_oldXs : Nat) (b_0_oldYs : Nat) (b_0_oldLabels : Nat) (b_0_names : Nat) (b_0_oldNames : Nat) (b_0_wanted : Nat) (b_0_common : Nat) (b_0_flatEdges : Nat) (b_0_upEdges : Nat) (b_0_isPoint : Nat) (b_0_stack : Nat) (b_0_pieceLines : Nat) (b_0_pieceBegins : Nat) (b_0_pieceEnds : Nat) (b_0_pieceLeft : Nat) (b_0_pieceRight : Nat) (b_0_outs : Nat) (b_0_isSeen : Nat) (b_0_ringSpaces : Nat) (b_0_ringStarts : Nat) (b_0_ringSizes : Nat) (b_0_ringLeast : Nat) (b_0_looseLines : Nat) (b_0_looseXs : Nat) (b_0_looseYs : Nat) (b_0_looseReaches : Nat) (b_0_far : Nat) (cI : ClassId) (v_0_code : Int32) (v_0_lines : Int32) (v_0_isFresh : Int32) (v_0_hasRun : Int32) (v_0_runs : Int32) (v_0_nx : Int32) (v_0_ny : Int32) (v_0_spaces : Int32) (v_0_oldNx : Int32) (v_0_oldNy : Int32) (v_0_oldSpaces : Int32) (v_0_points : Int32) (v_0_pieces : Int32) (v_0_rings : Int32) (v_0_outsideSides : Int32) (v_0_looseCount : Int32) (f_0_lows : Nat → Int32) (f_0_highs : Nat → Int32) (f_0_doorCounts : Nat → Int32) (f_0_doorFrom : Nat → Int32) (f_0_doorTo : Nat → Int32) : va_W := [(a_0, .inr (11, [.int v_0_code, .ref b_0_isFlat, .ref b_0_across, .ref a_0_lows, .ref a_0_highs, .ref b_0_thick, .int v_0_lines, .ref a_0_doorCounts, .ref a_0_doorFrom, .ref a_0_doorTo, .int v_0_isFresh, .int v_0_hasRun, .int v_0_runs, .ref b_0_xs, .ref b_0_ys, .int v_0_nx, .int v_0_ny, .ref b_0_labels, .int v_0_spaces, .ref b_0_oldXs, .ref b_0_oldYs, .int v_0_oldNx, .int v_0_oldNy, .ref b_0_oldLabels, .int v_0_oldSpaces, .ref b_0_names, .ref b_0_oldNames, .ref b_0_wanted, .ref b_0_common, .ref b_0_flatEdges, .ref b_0_upEdges, .ref b_0_isPoint, .int v_0_points, .ref b_0_stack, .ref b_0_pieceLines, .ref b_0_pieceBegins, .ref b_0_pieceEnds, .ref b_0_pieceLeft, .ref b_0_pieceRight, .int v_0_pieces, .ref b_0_outs, .ref b_0_isSeen, .ref b_0_ringSpaces, .ref b_0_ringStarts, .ref b_0_ringSizes, .ref b_0_ringLeast, .int v_0_rings, .int v_0_outsideSides, .ref b_0_looseLines, .ref b_0_looseXs, .ref b_0_looseYs, .ref b_0_looseReaches, .int v_0_looseCount, .ref b_0_far])), (a_0_lows, .inl (cI, 20, .inl f_0_lows)), (a_0_highs, .inl (cI, 20, .inl f_0_highs)), (a_0_doorCounts, .inl (cI, 20, .inl f_0_doorCounts)), (a_0_doorFrom, .inl (cI, 120, .inl f_0_doorFrom)), (a_0_doorTo, .inl (cI, 120, .inl f_0_doorTo))]
def m_Mo_door (p1 : Int32) (p2 : Int32) (p3 : Int32) (v_0_code : Int32) (v_0_lines : Int32) (f_0_lows : Nat → Int32) (f_0_highs : Nat → Int32) (f_0_doorCounts : Nat → Int32) (f_0_doorFrom : Nat → Int32) (f_0_doorTo : Nat → Int32) : Option (Int32 × (Int32) × (Nat → Int32) × (Nat → Int32) × (Nat → Int32)) :=
  bd1 (m_Mo_isLine p1 v_0_lines) fun r1 =>
  bd1 (
    if r1 = 0 then (
    some 0)
  else (
    if p2 < 0 then (
      some 0)
    else (
      if p3 ≤ p2 then (
        some 0)
      else (
        gI p1 20 <|
        gI p1 20 <|
        if ((f_0_highs p1.toNatClampNeg) - (f_0_lows p1.toNatClampNeg)) < p3 then (
          some 0)
        else (
          some 1)))))
  fun (x6 : Int32) =>
  bd1 (
      if x6 = 0 then (
      some 1)
    else (
      gI p1 20 <|
      if (f_0_doorCounts p1.toNatClampNeg) = 6 then (
        some 2)
      else (
        some 0)))
    fun (x16 : Int32) =>
    if x16 ≤ 0 then (
        gI p1 20 <|
        gI ((6 * p1) + (f_0_doorCounts p1.toNatClampNeg)) 120 <|
        lt_ (upd f_0_doorFrom ((6 * p1) + (f_0_doorCounts p1.toNatClampNeg)).toNatClampNeg p2) fun f23 =>
        gI p1 20 <|
        gI ((6 * p1) + (f_0_doorCounts p1.toNatClampNeg)) 120 <|
        lt_ (upd f_0_doorTo ((6 * p1) + (f_0_doorCounts p1.toNatClampNeg)).toNatClampNeg p3) fun f26 =>
        gI p1 20 <|
        gI p1 20 <|
        lt_ (upd f_0_doorCounts p1.toNatClampNeg ((f_0_doorCounts p1.toNatClampNeg) + 1)) fun f29 =>
        gI p1 20 <|
        some (f29 p1.toNatClampNeg, x16, f29, f23, f26))
      else (
        some (0, x16, f_0_doorCounts, f_0_doorFrom, f_0_doorTo))

set_option maxHeartbeats 4000000 in
set_option maxRecDepth 100000 in
theorem t_Mo_door {p : Program} {l : Launch} {e : Env} {s : State} {m : MethodId} {args : Array Value} {below : List Frame} {meth : Method} {c : Code} {A : Nat → Prop} {Q : State → Prop} {dC : Nat → ClassId} {dI : Nat → Nat → Nat} {cI cZ cJ : ClassId} (a_0 a_0_lows a_0_highs a_0_doorCounts a_0_doorFrom a_0_doorTo b_0_isFlat b_0_across b_0_thick b_0_xs b_0_ys b_0_labels b_0_oldXs b_0_oldYs b_0_oldLabels b_0_names b_0_oldNames b_0_wanted b_0_common b_0_flatEdges b_0_upEdges b_0_isPoint b_0_stack b_0_pieceLines b_0_pieceBegins b_0_pieceEnds b_0_pieceLeft b_0_pieceRight b_0_outs b_0_isSeen b_0_ringSpaces b_0_ringStarts b_0_ringSizes b_0_ringLeast b_0_looseLines b_0_looseXs b_0_looseYs b_0_looseReaches b_0_far : Nat) (v_0_code : Int32) (v_0_lines : Int32) (v_0_isFresh : Int32) (v_0_hasRun : Int32) (v_0_runs : Int32) (v_0_nx : Int32) (v_0_ny : Int32) (v_0_spaces : Int32) (v_0_oldNx : Int32) (v_0_oldNy : Int32) (v_0_oldSpaces : Int32) (v_0_points : Int32) (v_0_pieces : Int32) (v_0_rings : Int32) (v_0_outsideSides : Int32) (v_0_looseCount : Int32) (f_0_lows : Nat → Int32) (f_0_highs : Nat → Int32) (f_0_doorCounts : Nat → Int32) (f_0_doorFrom : Nat → Int32) (f_0_doorTo : Nat → Int32) (p1 : Int32) (p2 : Int32) (p3 : Int32) (R0 : Int32) (ov_0_code : Int32) (of_0_doorCounts : Nat → Int32) (of_0_doorFrom : Nat → Int32) (of_0_doorTo : Nat → Int32) (hx : p.tables.exec = Jvm.exec) (hb : c.code = b_Mo_door) (hml : c.maxLocals = 5) (hown : s.vm.findClass "SpaceCyclesModel" = some m.cls) (hts : ∀ w ∈ w_Mo_door, w.before args s = true) (hK : va_K (dC, dI) vwCl [(cI, .int), (cZ, .boolean), (cJ, .long)] s) (hN : NX s) (hA : ∀ q : Nat, s.heap.size ≤ q → A q)
    (hret : ∀ (pc : Nat) (H : Heap) (locs : List Loc) (ls : Array Slot), decode b_Mo_door pc = .ok (.ireturn, 1) → va_P (dC, dI) vwCl (wl_Mo_door a_0 a_0_lows a_0_highs a_0_doorCounts a_0_doorFrom a_0_doorTo b_0_isFlat b_0_across b_0_thick b_0_xs b_0_ys b_0_labels b_0_oldXs b_0_oldYs b_0_oldLabels b_0_names b_0_oldNames b_0_wanted b_0_common b_0_flatEdges b_0_upEdges b_0_isPoint b_0_stack b_0_pieceLines b_0_pieceBegins b_0_pieceEnds b_0_pieceLeft b_0_pieceRight b_0_outs b_0_isSeen b_0_ringSpaces b_0_ringStarts b_0_ringSizes b_0_ringLeast b_0_looseLines b_0_looseXs b_0_looseYs b_0_looseReaches b_0_far cI ov_0_code v_0_lines v_0_isFresh v_0_hasRun v_0_runs v_0_nx v_0_ny v_0_spaces v_0_oldNx v_0_oldNy v_0_oldSpaces v_0_points v_0_pieces v_0_rings v_0_outsideSides v_0_looseCount f_0_lows f_0_highs of_0_doorCounts of_0_doorFrom of_0_doorTo) H → va_D A (wl_Mo_door a_0 a_0_lows a_0_highs a_0_doorCounts a_0_doorFrom a_0_doorTo b_0_isFlat b_0_across b_0_thick b_0_xs b_0_ys b_0_labels b_0_oldXs b_0_oldYs b_0_oldLabels b_0_names b_0_oldNames b_0_wanted b_0_common b_0_flatEdges b_0_upEdges b_0_isPoint b_0_stack b_0_pieceLines b_0_pieceBegins b_0_pieceEnds b_0_pieceLeft b_0_pieceRight b_0_outs b_0_isSeen b_0_ringSpaces b_0_ringStarts b_0_ringSizes b_0_ringLeast b_0_looseLines b_0_looseXs b_0_looseYs b_0_looseReaches b_0_far cI ov_0_code v_0_lines v_0_isFresh v_0_hasRun v_0_runs v_0_nx v_0_ny v_0_spaces v_0_oldNx v_0_oldNy v_0_oldSpaces v_0_points v_0_pieces v_0_rings v_0_outsideSides v_0_looseCount f_0_lows f_0_highs of_0_doorCounts of_0_doorFrom of_0_doorTo) → va_S A s.heap H locs → W p l e rm_Mo_door s m args below meth c H locs 0 0 Q (F0 m pc ls [.int R0]))
    (hm : m_Mo_door p1 p2 p3 v_0_code v_0_lines f_0_lows f_0_highs f_0_doorCounts f_0_doorFrom f_0_doorTo = some (R0, ov_0_code, of_0_doorCounts, of_0_doorFrom, of_0_doorTo)) : ∀ (H : Heap) (locs : List Loc) (ls : Array Slot), va_P (dC, dI) vwCl (wl_Mo_door a_0 a_0_lows a_0_highs a_0_doorCounts a_0_doorFrom a_0_doorTo b_0_isFlat b_0_across b_0_thick b_0_xs b_0_ys b_0_labels b_0_oldXs b_0_oldYs b_0_oldLabels b_0_names b_0_oldNames b_0_wanted b_0_common b_0_flatEdges b_0_upEdges b_0_isPoint b_0_stack b_0_pieceLines b_0_pieceBegins b_0_pieceEnds b_0_pieceLeft b_0_pieceRight b_0_outs b_0_isSeen b_0_ringSpaces b_0_ringStarts b_0_ringSizes b_0_ringLeast b_0_looseLines b_0_looseXs b_0_looseYs b_0_looseReaches b_0_far cI v_0_code v_0_lines v_0_isFresh v_0_hasRun v_0_runs v_0_nx v_0_ny v_0_spaces v_0_oldNx v_0_oldNy v_0_oldSpaces v_0_points v_0_pieces v_0_rings v_0_outsideSides v_0_looseCount f_0_lows f_0_highs f_0_doorCounts f_0_doorFrom f_0_doorTo) H → va_D A (wl_Mo_door a_0 a_0_lows a_0_highs a_0_doorCounts a_0_doorFrom a_0_doorTo b_0_isFlat b_0_across b_0_thick b_0_xs b_0_ys b_0_labels b_0_oldXs b_0_oldYs b_0_oldLabels b_0_names b_0_oldNames b_0_wanted b_0_common b_0_flatEdges b_0_upEdges b_0_isPoint b_0_stack b_0_pieceLines b_0_pieceBegins b_0_pieceEnds b_0_pieceLeft b_0_pieceRight b_0_outs b_0_isSeen b_0_ringSpaces b_0_ringStarts b_0_ringSizes b_0_ringLeast b_0_looseLines b_0_looseXs b_0_looseYs b_0_looseReaches b_0_far cI v_0_code v_0_lines v_0_isFresh v_0_hasRun v_0_runs v_0_nx v_0_ny v_0_spaces v_0_oldNx v_0_oldNy v_0_oldSpaces v_0_points v_0_pieces v_0_rings v_0_outsideSides v_0_looseCount f_0_lows f_0_highs f_0_doorCounts f_0_doorFrom f_0_doorTo) → va_S A s.heap H locs → lv_has ls 5 [(0, .ref a_0), (1, .int p1), (2, .int p2), (3, .int p3)] → W p l e rm_Mo_door s m args below meth c H locs 0 0 Q (F0 m 0 ls []) := by
  intro H locs ls hP hD hS hl
  unfold m_Mo_door at hm
  refine lv_aload_n hx hb d_Mo_door_0 rfl (lv_at hl 0 rfl) ?_
  refine lv_iload_n hx hb d_Mo_door_1 rfl (lv_at hl 1 rfl) ?_
  obtain ⟨r1, hb2, hm⟩ := bd1_e hm
  have hPc := hP.sub (ws' := (wl_Mo_isLine a_0 b_0_isFlat b_0_across a_0_lows a_0_highs b_0_thick a_0_doorCounts a_0_doorFrom a_0_doorTo b_0_xs b_0_ys b_0_labels b_0_oldXs b_0_oldYs b_0_oldLabels b_0_names b_0_oldNames b_0_wanted b_0_common b_0_flatEdges b_0_upEdges b_0_isPoint b_0_stack b_0_pieceLines b_0_pieceBegins b_0_pieceEnds b_0_pieceLeft b_0_pieceRight b_0_outs b_0_isSeen b_0_ringSpaces b_0_ringStarts b_0_ringSizes b_0_ringLeast b_0_looseLines b_0_looseXs b_0_looseYs b_0_looseReaches b_0_far v_0_code v_0_lines v_0_isFresh v_0_hasRun v_0_runs v_0_nx v_0_ny v_0_spaces v_0_oldNx v_0_oldNy v_0_oldSpaces v_0_points v_0_pieces v_0_rings v_0_outsideSides v_0_looseCount)) [0] rfl
  have hDc := hD.sub (ws' := (wl_Mo_isLine a_0 b_0_isFlat b_0_across a_0_lows a_0_highs b_0_thick a_0_doorCounts a_0_doorFrom a_0_doorTo b_0_xs b_0_ys b_0_labels b_0_oldXs b_0_oldYs b_0_oldLabels b_0_names b_0_oldNames b_0_wanted b_0_common b_0_flatEdges b_0_upEdges b_0_isPoint b_0_stack b_0_pieceLines b_0_pieceBegins b_0_pieceEnds b_0_pieceLeft b_0_pieceRight b_0_outs b_0_isSeen b_0_ringSpaces b_0_ringStarts b_0_ringSizes b_0_ringLeast b_0_looseLines b_0_looseXs b_0_looseYs b_0_looseReaches b_0_far v_0_code v_0_lines v_0_isFresh v_0_hasRun v_0_runs v_0_nx v_0_ny v_0_spaces v_0_oldNx v_0_oldNy v_0_oldSpaces v_0_points v_0_pieces v_0_rings v_0_outsideSides v_0_looseCount)) [0] (by decide) rfl
  refine cl_i (wc' := (wl_Mo_isLine a_0 b_0_isFlat b_0_across a_0_lows a_0_highs b_0_thick a_0_doorCounts a_0_doorFrom a_0_doorTo b_0_xs b_0_ys b_0_labels b_0_oldXs b_0_oldYs b_0_oldLabels b_0_names b_0_oldNames b_0_wanted b_0_common b_0_flatEdges b_0_upEdges b_0_isPoint b_0_stack b_0_pieceLines b_0_pieceBegins b_0_pieceEnds b_0_pieceLeft b_0_pieceRight b_0_outs b_0_isSeen b_0_ringSpaces b_0_ringStarts b_0_ringSizes b_0_ringLeast b_0_looseLines b_0_looseXs b_0_looseYs b_0_looseReaches b_0_far v_0_code v_0_lines v_0_isFresh v_0_hasRun v_0_runs v_0_nx v_0_ny v_0_spaces v_0_oldNx v_0_oldNy v_0_oldSpaces v_0_points v_0_pieces v_0_rings v_0_outsideSides v_0_looseCount)) (va_runV (As := [.int p1]) (rest := []) ⟨hx, hb, hml, hown, hts⟩ (c_Mo_isLine l dC dI (cI := cI) (cZ := cZ) (cJ := cJ) a_0 b_0_isFlat b_0_across a_0_lows a_0_highs b_0_thick a_0_doorCounts a_0_doorFrom a_0_doorTo b_0_xs b_0_ys b_0_labels b_0_oldXs b_0_oldYs b_0_oldLabels b_0_names b_0_oldNames b_0_wanted b_0_common b_0_flatEdges b_0_upEdges b_0_isPoint b_0_stack b_0_pieceLines b_0_pieceBegins b_0_pieceEnds b_0_pieceLeft b_0_pieceRight b_0_outs b_0_isSeen b_0_ringSpaces b_0_ringStarts b_0_ringSizes b_0_ringLeast b_0_looseLines b_0_looseXs b_0_looseYs b_0_looseReaches b_0_far H.size v_0_code v_0_lines v_0_isFresh v_0_hasRun v_0_runs v_0_nx v_0_ny v_0_spaces v_0_oldNx v_0_oldNy v_0_oldSpaces v_0_points v_0_pieces v_0_rings v_0_outsideSides v_0_looseCount p1 r1 hb2) (cwV 1 hts (gl_V k_293 k_292 k_291 k_277 k_290) rfl rfl rfl (by decide +kernel) ⟨Nat.le_of_ble_eq_true rfl, Nat.le_of_ble_eq_true rfl⟩) ⟨PP_blind, va_recv hK hPc (ci := 11) (q0 := 0) rfl rfl, fun U hU hW => PP_at hK hN hPc hDc hU hW⟩ rfl rfl hl.1 rfl (lv_room (Nat.le_of_ble_eq_true rfl)) d_Mo_door_2 ⟨Nat.zero_le _, Nat.zero_le _⟩) hP hD hS hA [0] [1, 2, 3, 4, 5] rfl rfl (by decide) (by decide) (fun H locs hP hD hS => ?_)
  have hP : va_P (dC, dI) vwCl (wl_Mo_door a_0 a_0_lows a_0_highs a_0_doorCounts a_0_doorFrom a_0_doorTo b_0_isFlat b_0_across b_0_thick b_0_xs b_0_ys b_0_labels b_0_oldXs b_0_oldYs b_0_oldLabels b_0_names b_0_oldNames b_0_wanted b_0_common b_0_flatEdges b_0_upEdges b_0_isPoint b_0_stack b_0_pieceLines b_0_pieceBegins b_0_pieceEnds b_0_pieceLeft b_0_pieceRight b_0_outs b_0_isSeen b_0_ringSpaces b_0_ringStarts b_0_ringSizes b_0_ringLeast b_0_looseLines b_0_looseXs b_0_looseYs b_0_looseReaches b_0_far cI v_0_code v_0_lines v_0_isFresh v_0_hasRun v_0_runs v_0_nx v_0_ny v_0_spaces v_0_oldNx v_0_oldNy v_0_oldSpaces v_0_points v_0_pieces v_0_rings v_0_outsideSides v_0_looseCount f_0_lows f_0_highs f_0_doorCounts f_0_doorFrom f_0_doorTo) H := hP.sub [5, 0, 1, 2, 3, 4] rfl
  have hD : va_D A (wl_Mo_door a_0 a_0_lows a_0_highs a_0_doorCounts a_0_doorFrom a_0_doorTo b_0_isFlat b_0_across b_0_thick b_0_xs b_0_ys b_0_labels b_0_oldXs b_0_oldYs b_0_oldLabels b_0_names b_0_oldNames b_0_wanted b_0_common b_0_flatEdges b_0_upEdges b_0_isPoint b_0_stack b_0_pieceLines b_0_pieceBegins b_0_pieceEnds b_0_pieceLeft b_0_pieceRight b_0_outs b_0_isSeen b_0_ringSpaces b_0_ringStarts b_0_ringSizes b_0_ringLeast b_0_looseLines b_0_looseXs b_0_looseYs b_0_looseReaches b_0_far cI v_0_code v_0_lines v_0_isFresh v_0_hasRun v_0_runs v_0_nx v_0_ny v_0_spaces v_0_oldNx v_0_oldNy v_0_oldSpaces v_0_points v_0_pieces v_0_rings v_0_outsideSides v_0_looseCount f_0_lows f_0_highs f_0_doorCounts f_0_doorFrom f_0_doorTo) := hD.sub [5, 0, 1, 2, 3, 4] (by decide) rfl
  obtain ⟨x6, hb4, hm⟩ := bd1_e hm
  have K3 : ∀ (H : Heap) (locs : List Loc) (ls : Array Slot), va_P (dC, dI) vwCl (wl_Mo_door a_0 a_0_lows a_0_highs a_0_doorCounts a_0_doorFrom a_0_doorTo b_0_isFlat b_0_across b_0_thick b_0_xs b_0_ys b_0_labels b_0_oldXs b_0_oldYs b_0_oldLabels b_0_names b_0_oldNames b_0_wanted b_0_common b_0_flatEdges b_0_upEdges b_0_isPoint b_0_stack b_0_pieceLines b_0_pieceBegins b_0_pieceEnds b_0_pieceLeft b_0_pieceRight b_0_outs b_0_isSeen b_0_ringSpaces b_0_ringStarts b_0_ringSizes b_0_ringLeast b_0_looseLines b_0_looseXs b_0_looseYs b_0_looseReaches b_0_far cI v_0_code v_0_lines v_0_isFresh v_0_hasRun v_0_runs v_0_nx v_0_ny v_0_spaces v_0_oldNx v_0_oldNy v_0_oldSpaces v_0_points v_0_pieces v_0_rings v_0_outsideSides v_0_looseCount f_0_lows f_0_highs f_0_doorCounts f_0_doorFrom f_0_doorTo) H → va_D A (wl_Mo_door a_0 a_0_lows a_0_highs a_0_doorCounts a_0_doorFrom a_0_doorTo b_0_isFlat b_0_across b_0_thick b_0_xs b_0_ys b_0_labels b_0_oldXs b_0_oldYs b_0_oldLabels b_0_names b_0_oldNames b_0_wanted b_0_common b_0_flatEdges b_0_upEdges b_0_isPoint b_0_stack b_0_pieceLines b_0_pieceBegins b_0_pieceEnds b_0_pieceLeft b_0_pieceRight b_0_outs b_0_isSeen b_0_ringSpaces b_0_ringStarts b_0_ringSizes b_0_ringLeast b_0_looseLines b_0_looseXs b_0_looseYs b_0_looseReaches b_0_far cI v_0_code v_0_lines v_0_isFresh v_0_hasRun v_0_runs v_0_nx v_0_ny v_0_spaces v_0_oldNx v_0_oldNy v_0_oldSpaces v_0_points v_0_pieces v_0_rings v_0_outsideSides v_0_looseCount f_0_lows f_0_highs f_0_doorCounts f_0_doorFrom f_0_doorTo) → va_S A s.heap H locs → lv_has ls 5 [(0, .ref a_0), (1, .int p1), (2, .int p2), (3, .int p3)] → W p l e rm_Mo_door s m args below meth c H locs 0 0 Q (F0 m 39 ls [.int x6]) := by
    intro H locs ls hP hD hS hl
    refine lv_istore (lv' := [(4, .int x6), (0, .ref a_0), (1, .int p1), (2, .int p2), (3, .int p3)]) hx hb d_Mo_door_39 hl (by decide) rfl (fun ls hl => ?_)
    refine lv_aload_n hx hb d_Mo_door_41 rfl (lv_at hl 1 rfl) ?_
    refine lv_iload hx hb d_Mo_door_42 (lv_at hl 0 rfl) ?_
    obtain ⟨x16, hb14, hm⟩ := bd1_e hm
    have K13 : ∀ (H : Heap) (locs : List Loc) (ls : Array Slot), va_P (dC, dI) vwCl (wl_Mo_door a_0 a_0_lows a_0_highs a_0_doorCounts a_0_doorFrom a_0_doorTo b_0_isFlat b_0_across b_0_thick b_0_xs b_0_ys b_0_labels b_0_oldXs b_0_oldYs b_0_oldLabels b_0_names b_0_oldNames b_0_wanted b_0_common b_0_flatEdges b_0_upEdges b_0_isPoint b_0_stack b_0_pieceLines b_0_pieceBegins b_0_pieceEnds b_0_pieceLeft b_0_pieceRight b_0_outs b_0_isSeen b_0_ringSpaces b_0_ringStarts b_0_ringSizes b_0_ringLeast b_0_looseLines b_0_looseXs b_0_looseYs b_0_looseReaches b_0_far cI v_0_code v_0_lines v_0_isFresh v_0_hasRun v_0_runs v_0_nx v_0_ny v_0_spaces v_0_oldNx v_0_oldNy v_0_oldSpaces v_0_points v_0_pieces v_0_rings v_0_outsideSides v_0_looseCount f_0_lows f_0_highs f_0_doorCounts f_0_doorFrom f_0_doorTo) H → va_D A (wl_Mo_door a_0 a_0_lows a_0_highs a_0_doorCounts a_0_doorFrom a_0_doorTo b_0_isFlat b_0_across b_0_thick b_0_xs b_0_ys b_0_labels b_0_oldXs b_0_oldYs b_0_oldLabels b_0_names b_0_oldNames b_0_wanted b_0_common b_0_flatEdges b_0_upEdges b_0_isPoint b_0_stack b_0_pieceLines b_0_pieceBegins b_0_pieceEnds b_0_pieceLeft b_0_pieceRight b_0_outs b_0_isSeen b_0_ringSpaces b_0_ringStarts b_0_ringSizes b_0_ringLeast b_0_looseLines b_0_looseXs b_0_looseYs b_0_looseReaches b_0_far cI v_0_code v_0_lines v_0_isFresh v_0_hasRun v_0_runs v_0_nx v_0_ny v_0_spaces v_0_oldNx v_0_oldNy v_0_oldSpaces v_0_points v_0_pieces v_0_rings v_0_outsideSides v_0_looseCount f_0_lows f_0_highs f_0_doorCounts f_0_doorFrom f_0_doorTo) → va_S A s.heap H locs → lv_has ls 5 [(0, .ref a_0), (1, .int p1), (2, .int p2), (3, .int p3)] → W p l e rm_Mo_door s m args below meth c H locs 0 0 Q (F0 m 67 ls [.int x16, .ref a_0]) := by
      intro H locs ls hP hD hS hl
      refine va_put (D := (dC, dI)) (ci := 11) (v := .int x16) (ty := .int) (C := "SpaceCyclesModel") (T := F_Mo) (N := 54) hx hb hts (in_F i_Mo) t_Mo t_Mo_ok n_Mo hown hK hP hD hS 0 rfl rfl 0 (by decide) (hts _ (in_c k_273)) (fun _ h9 => h9) rfl (by decide +kernel) rfl rfl (Nat.le_of_ble_eq_true rfl) d_Mo_door_67 (fun H locs hP hD hS => ?_)
      have hP : va_P (dC, dI) vwCl (wl_Mo_door a_0 a_0_lows a_0_highs a_0_doorCounts a_0_doorFrom a_0_doorTo b_0_isFlat b_0_across b_0_thick b_0_xs b_0_ys b_0_labels b_0_oldXs b_0_oldYs b_0_oldLabels b_0_names b_0_oldNames b_0_wanted b_0_common b_0_flatEdges b_0_upEdges b_0_isPoint b_0_stack b_0_pieceLines b_0_pieceBegins b_0_pieceEnds b_0_pieceLeft b_0_pieceRight b_0_outs b_0_isSeen b_0_ringSpaces b_0_ringStarts b_0_ringSizes b_0_ringLeast b_0_looseLines b_0_looseXs b_0_looseYs b_0_looseReaches b_0_far cI x16 v_0_lines v_0_isFresh v_0_hasRun v_0_runs v_0_nx v_0_ny v_0_spaces v_0_oldNx v_0_oldNy v_0_oldSpaces v_0_points v_0_pieces v_0_rings v_0_outsideSides v_0_looseCount f_0_lows f_0_highs f_0_doorCounts f_0_doorFrom f_0_doorTo) H := hP
      have hD : va_D A (wl_Mo_door a_0 a_0_lows a_0_highs a_0_doorCounts a_0_doorFrom a_0_doorTo b_0_isFlat b_0_across b_0_thick b_0_xs b_0_ys b_0_labels b_0_oldXs b_0_oldYs b_0_oldLabels b_0_names b_0_oldNames b_0_wanted b_0_common b_0_flatEdges b_0_upEdges b_0_isPoint b_0_stack b_0_pieceLines b_0_pieceBegins b_0_pieceEnds b_0_pieceLeft b_0_pieceRight b_0_outs b_0_isSeen b_0_ringSpaces b_0_ringStarts b_0_ringSizes b_0_ringLeast b_0_looseLines b_0_looseXs b_0_looseYs b_0_looseReaches b_0_far cI x16 v_0_lines v_0_isFresh v_0_hasRun v_0_runs v_0_nx v_0_ny v_0_spaces v_0_oldNx v_0_oldNy v_0_oldSpaces v_0_points v_0_pieces v_0_rings v_0_outsideSides v_0_looseCount f_0_lows f_0_highs f_0_doorCounts f_0_doorFrom f_0_doorTo) := hD
      refine lv_aload_n hx hb d_Mo_door_70 rfl (lv_at hl 0 rfl) ?_
      refine va_get (D := (dC, dI)) (ci := 11) (v := .int x16) (C := "SpaceCyclesModel") (T := F_Mo) (N := 54) hx hb hts (in_F i_Mo) hown hK hP 0 rfl rfl 0 (by decide) (hts _ (in_c k_273)) (fun _ h9 => h9) rfl d_Mo_door_71 ?_
      refine lv_if_le (tgt := 79) hx hb d_Mo_door_74 (by decide) (fun c20 => ?_) (fun c20 => ?_)
      · replace hm := if_t hm c20
        refine lv_aload_n hx hb d_Mo_door_79 rfl (lv_at hl 0 rfl) ?_
        refine va_get (D := (dC, dI)) (ci := 11) (v := .ref a_0_doorFrom) (C := "SpaceCyclesModel") (T := F_Mo) (N := 54) hx hb hts (in_F i_Mo) hown hK hP 0 rfl rfl 8 (by decide) (hts _ (in_c k_294)) (fun _ h9 => h9) rfl d_Mo_door_80 ?_
        refine lv_bipush (v := 6) hx hb d_Mo_door_83 (by decide) ?_
        refine lv_iload_n hx hb d_Mo_door_85 rfl (lv_at hl 1 rfl) ?_
        refine lv_imul hx hb d_Mo_door_86 ?_
        refine lv_aload_n hx hb d_Mo_door_87 rfl (lv_at hl 0 rfl) ?_
        refine va_get (D := (dC, dI)) (ci := 11) (v := .ref a_0_doorCounts) (C := "SpaceCyclesModel") (T := F_Mo) (N := 54) hx hb hts (in_F i_Mo) hown hK hP 0 rfl rfl 7 (by decide) (hts _ (in_c k_288)) (fun _ h9 => h9) rfl d_Mo_door_88 ?_
        refine lv_iload_n hx hb d_Mo_door_91 rfl (lv_at hl 1 rfl) ?_
        obtain ⟨hi21, hm⟩ := gI_e hm
        refine va_iald hx hb hK hP 3 0 rfl rfl hi21 d_Mo_door_92 ?_
        refine lv_iadd hx hb d_Mo_door_93 ?_
        refine lv_iload_n hx hb d_Mo_door_94 rfl (lv_at hl 2 rfl) ?_
        obtain ⟨hi22, hm⟩ := gI_e hm
        obtain ⟨f23, ef23⟩ : ∃ y : Nat → Int32, y = upd f_0_doorFrom ((6 * p1) + (f_0_doorCounts p1.toNatClampNeg)).toNatClampNeg p2 := ⟨_, rfl⟩
        replace hm := lt_el hm ef23
        refine va_iast hx hb hK hP hD hS 4 0 rfl rfl hi22 d_Mo_door_95 (fun H locs hP hD hS => ?_)
        rw [← ef23] at hP hD
        have hP : va_P (dC, dI) vwCl (wl_Mo_door a_0 a_0_lows a_0_highs a_0_doorCounts a_0_doorFrom a_0_doorTo b_0_isFlat b_0_across b_0_thick b_0_xs b_0_ys b_0_labels b_0_oldXs b_0_oldYs b_0_oldLabels b_0_names b_0_oldNames b_0_wanted b_0_common b_0_flatEdges b_0_upEdges b_0_isPoint b_0_stack b_0_pieceLines b_0_pieceBegins b_0_pieceEnds b_0_pieceLeft b_0_pieceRight b_0_outs b_0_isSeen b_0_ringSpaces b_0_ringStarts b_0_ringSizes b_0_ringLeast b_0_looseLines b_0_looseXs b_0_looseYs b_0_looseReaches b_0_far cI x16 v_0_lines v_0_isFresh v_0_hasRun v_0_runs v_0_nx v_0_ny v_0_spaces v_0_oldNx v_0_oldNy v_0_oldSpaces v_0_points v_0_pieces v_0_rings v_0_outsideSides v_0_looseCount f_0_lows f_0_highs f_0_doorCounts f23 f_0_doorTo) H := hP
        have hD : va_D A (wl_Mo_door a_0 a_0_lows a_0_highs a_0_doorCounts a_0_doorFrom a_0_doorTo b_0_isFlat b_0_across b_0_thick b_0_xs b_0_ys b_0_labels b_0_oldXs b_0_oldYs b_0_oldLabels b_0_names b_0_oldNames b_0_wanted b_0_common b_0_flatEdges b_0_upEdges b_0_isPoint b_0_stack b_0_pieceLines b_0_pieceBegins b_0_pieceEnds b_0_pieceLeft b_0_pieceRight b_0_outs b_0_isSeen b_0_ringSpaces b_0_ringStarts b_0_ringSizes b_0_ringLeast b_0_looseLines b_0_looseXs b_0_looseYs b_0_looseReaches b_0_far cI x16 v_0_lines v_0_isFresh v_0_hasRun v_0_runs v_0_nx v_0_ny v_0_spaces v_0_oldNx v_0_oldNy v_0_oldSpaces v_0_points v_0_pieces v_0_rings v_0_outsideSides v_0_looseCount f_0_lows f_0_highs f_0_doorCounts f23 f_0_doorTo) := hD
        refine lv_aload_n hx hb d_Mo_door_96 rfl (lv_at hl 0 rfl) ?_
        refine va_get (D := (dC, dI)) (ci := 11) (v := .ref a_0_doorTo) (C := "SpaceCyclesModel") (T := F_Mo) (N := 54) hx hb hts (in_F i_Mo) hown hK hP 0 rfl rfl 9 (by decide) (hts _ (in_c k_295)) (fun _ h9 => h9) rfl d_Mo_door_97 ?_
        refine lv_bipush (v := 6) hx hb d_Mo_door_100 (by decide) ?_
        refine lv_iload_n hx hb d_Mo_door_102 rfl (lv_at hl 1 rfl) ?_
        refine lv_imul hx hb d_Mo_door_103 ?_
        refine lv_aload_n hx hb d_Mo_door_104 rfl (lv_at hl 0 rfl) ?_
        refine va_get (D := (dC, dI)) (ci := 11) (v := .ref a_0_doorCounts) (C := "SpaceCyclesModel") (T := F_Mo) (N := 54) hx hb hts (in_F i_Mo) hown hK hP 0 rfl rfl 7 (by decide) (hts _ (in_c k_288)) (fun _ h9 => h9) rfl d_Mo_door_105 ?_
        refine lv_iload_n hx hb d_Mo_door_108 rfl (lv_at hl 1 rfl) ?_
        obtain ⟨hi24, hm⟩ := gI_e hm
        refine va_iald hx hb hK hP 3 0 rfl rfl hi24 d_Mo_door_109 ?_
        refine lv_iadd hx hb d_Mo_door_110 ?_
        refine lv_iload_n hx hb d_Mo_door_111 rfl (lv_at hl 3 rfl) ?_
        obtain ⟨hi25, hm⟩ := gI_e hm
        obtain ⟨f26, ef26⟩ : ∃ y : Nat → Int32, y = upd f_0_doorTo ((6 * p1) + (f_0_doorCounts p1.toNatClampNeg)).toNatClampNeg p3 := ⟨_, rfl⟩
        replace hm := lt_el hm ef26
        refine va_iast hx hb hK hP hD hS 5 0 rfl rfl hi25 d_Mo_door_112 (fun H locs hP hD hS => ?_)
        rw [← ef26] at hP hD
        have hP : va_P (dC, dI) vwCl (wl_Mo_door a_0 a_0_lows a_0_highs a_0_doorCounts a_0_doorFrom a_0_doorTo b_0_isFlat b_0_across b_0_thick b_0_xs b_0_ys b_0_labels b_0_oldXs b_0_oldYs b_0_oldLabels b_0_names b_0_oldNames b_0_wanted b_0_common b_0_flatEdges b_0_upEdges b_0_isPoint b_0_stack b_0_pieceLines b_0_pieceBegins b_0_pieceEnds b_0_pieceLeft b_0_pieceRight b_0_outs b_0_isSeen b_0_ringSpaces b_0_ringStarts b_0_ringSizes b_0_ringLeast b_0_looseLines b_0_looseXs b_0_looseYs b_0_looseReaches b_0_far cI x16 v_0_lines v_0_isFresh v_0_hasRun v_0_runs v_0_nx v_0_ny v_0_spaces v_0_oldNx v_0_oldNy v_0_oldSpaces v_0_points v_0_pieces v_0_rings v_0_outsideSides v_0_looseCount f_0_lows f_0_highs f_0_doorCounts f23 f26) H := hP
        have hD : va_D A (wl_Mo_door a_0 a_0_lows a_0_highs a_0_doorCounts a_0_doorFrom a_0_doorTo b_0_isFlat b_0_across b_0_thick b_0_xs b_0_ys b_0_labels b_0_oldXs b_0_oldYs b_0_oldLabels b_0_names b_0_oldNames b_0_wanted b_0_common b_0_flatEdges b_0_upEdges b_0_isPoint b_0_stack b_0_pieceLines b_0_pieceBegins b_0_pieceEnds b_0_pieceLeft b_0_pieceRight b_0_outs b_0_isSeen b_0_ringSpaces b_0_ringStarts b_0_ringSizes b_0_ringLeast b_0_looseLines b_0_looseXs b_0_looseYs b_0_looseReaches b_0_far cI x16 v_0_lines v_0_isFresh v_0_hasRun v_0_runs v_0_nx v_0_ny v_0_spaces v_0_oldNx v_0_oldNy v_0_oldSpaces v_0_points v_0_pieces v_0_rings v_0_outsideSides v_0_looseCount f_0_lows f_0_highs f_0_doorCounts f23 f26) := hD
        refine lv_aload_n hx hb d_Mo_door_113 rfl (lv_at hl 0 rfl) ?_
        refine va_get (D := (dC, dI)) (ci := 11) (v := .ref a_0_doorCounts) (C := "SpaceCyclesModel") (T := F_Mo) (N := 54) hx hb hts (in_F i_Mo) hown hK hP 0 rfl rfl 7 (by decide) (hts _ (in_c k_288)) (fun _ h9 => h9) rfl d_Mo_door_114 ?_
        refine lv_iload_n hx hb d_Mo_door_117 rfl (lv_at hl 1 rfl) ?_
        refine lv_dup2_11 hx hb d_Mo_door_118 rfl rfl ?_
        obtain ⟨hi27, hm⟩ := gI_e hm
        refine va_iald hx hb hK hP 3 0 rfl rfl hi27 d_Mo_door_119 ?_
        refine lv_iconst (v := 1) hx hb d_Mo_door_120 (by decide) ?_
        refine lv_iadd hx hb d_Mo_door_121 ?_
        obtain ⟨hi28, hm⟩ := gI_e hm
        obtain ⟨f29, ef29⟩ : ∃ y : Nat → Int32, y = upd f_0_doorCounts p1.toNatClampNeg ((f_0_doorCounts p1.toNatClampNeg) + 1) := ⟨_, rfl⟩
        replace hm := lt_el hm ef29
        refine va_iast hx hb hK hP hD hS 3 0 rfl rfl hi28 d_Mo_door_122 (fun H locs hP hD hS => ?_)
        rw [← ef29] at hP hD
        have hP : va_P (dC, dI) vwCl (wl_Mo_door a_0 a_0_lows a_0_highs a_0_doorCounts a_0_doorFrom a_0_doorTo b_0_isFlat b_0_across b_0_thick b_0_xs b_0_ys b_0_labels b_0_oldXs b_0_oldYs b_0_oldLabels b_0_names b_0_oldNames b_0_wanted b_0_common b_0_flatEdges b_0_upEdges b_0_isPoint b_0_stack b_0_pieceLines b_0_pieceBegins b_0_pieceEnds b_0_pieceLeft b_0_pieceRight b_0_outs b_0_isSeen b_0_ringSpaces b_0_ringStarts b_0_ringSizes b_0_ringLeast b_0_looseLines b_0_looseXs b_0_looseYs b_0_looseReaches b_0_far cI x16 v_0_lines v_0_isFresh v_0_hasRun v_0_runs v_0_nx v_0_ny v_0_spaces v_0_oldNx v_0_oldNy v_0_oldSpaces v_0_points v_0_pieces v_0_rings v_0_outsideSides v_0_looseCount f_0_lows f_0_highs f29 f23 f26) H := hP
        have hD : va_D A (wl_Mo_door a_0 a_0_lows a_0_highs a_0_doorCounts a_0_doorFrom a_0_doorTo b_0_isFlat b_0_across b_0_thick b_0_xs b_0_ys b_0_labels b_0_oldXs b_0_oldYs b_0_oldLabels b_0_names b_0_oldNames b_0_wanted b_0_common b_0_flatEdges b_0_upEdges b_0_isPoint b_0_stack b_0_pieceLines b_0_pieceBegins b_0_pieceEnds b_0_pieceLeft b_0_pieceRight b_0_outs b_0_isSeen b_0_ringSpaces b_0_ringStarts b_0_ringSizes b_0_ringLeast b_0_looseLines b_0_looseXs b_0_looseYs b_0_looseReaches b_0_far cI x16 v_0_lines v_0_isFresh v_0_hasRun v_0_runs v_0_nx v_0_ny v_0_spaces v_0_oldNx v_0_oldNy v_0_oldSpaces v_0_points v_0_pieces v_0_rings v_0_outsideSides v_0_looseCount f_0_lows f_0_highs f29 f23 f26) := hD
        refine lv_aload_n hx hb d_Mo_door_123 rfl (lv_at hl 0 rfl) ?_
        refine va_get (D := (dC, dI)) (ci := 11) (v := .ref a_0_doorCounts) (C := "SpaceCyclesModel") (T := F_Mo) (N := 54) hx hb hts (in_F i_Mo) hown hK hP 0 rfl rfl 7 (by decide) (hts _ (in_c k_288)) (fun _ h9 => h9) rfl d_Mo_door_124 ?_
        refine lv_iload_n hx hb d_Mo_door_127 rfl (lv_at hl 1 rfl) ?_
        obtain ⟨hi30, hm⟩ := gI_e hm
        refine va_iald hx hb hK hP 3 0 rfl rfl hi30 d_Mo_door_128 ?_
        cases hm
        exact hret _ H locs ls d_Mo_door_129 hP hD hS
      · replace hm := if_f hm c20
        refine lv_iconst (v := 0) hx hb d_Mo_door_77 (by decide) ?_
        cases hm
        exact hret _ H locs ls d_Mo_door_78 hP hD hS
    replace hm := hb14
    refine lv_if_ne (tgt := 51) hx hb d_Mo_door_44 (by decide) (fun c17 => ?_) (fun c17 => ?_)
    · replace hm := if_f hm c17
      refine lv_aload_n hx hb d_Mo_door_51 rfl (lv_at hl 1 rfl) ?_
      refine va_get (D := (dC, dI)) (ci := 11) (v := .ref a_0_doorCounts) (C := "SpaceCyclesModel") (T := F_Mo) (N := 54) hx hb hts (in_F i_Mo) hown hK hP 0 rfl rfl 7 (by decide) (hts _ (in_c k_288)) (fun _ h9 => h9) rfl d_Mo_door_52 ?_
      refine lv_iload_n hx hb d_Mo_door_55 rfl (lv_at hl 2 rfl) ?_
      obtain ⟨hi18, hm⟩ := gI_e hm
      refine va_iald hx hb hK hP 3 0 rfl rfl hi18 d_Mo_door_56 ?_
      refine lv_bipush (v := 6) hx hb d_Mo_door_57 (by decide) ?_
      refine lv_icmp_ne (tgt := 66) hx hb d_Mo_door_59 (by decide) (fun c19 => ?_) (fun c19 => ?_)
      · replace hm := if_f hm c19
        refine lv_iconst (v := 0) hx hb d_Mo_door_66 (by decide) ?_
        cases hm
        exact K13 H locs ls hP hD hS (lv_sub hl [1, 2, 3, 4] rfl)
      · replace hm := if_t hm c19
        refine lv_iconst (v := 2) hx hb d_Mo_door_62 (by decide) ?_
        refine lv_goto (tgt := 67) hx hb d_Mo_door_63 (by decide) ?_
        cases hm
        exact K13 H locs ls hP hD hS (lv_sub hl [1, 2, 3, 4] rfl)
    · replace hm := if_t hm c17
      refine lv_iconst (v := 1) hx hb d_Mo_door_47 (by decide) ?_
      refine lv_goto (tgt := 67) hx hb d_Mo_door_48 (by decide) ?_
      cases hm
      exact K13 H locs ls hP hD hS (lv_sub hl [1, 2, 3, 4] rfl)
  replace hm := hb4
  refine lv_if_eq (tgt := 38) hx hb d_Mo_door_5 (by decide) (fun c7 => ?_) (fun c7 => ?_)
  · replace hm := if_t hm c7
    refine lv_iconst (v := 0) hx hb d_Mo_door_38 (by decide) ?_
    cases hm
    exact K3 H locs ls hP hD hS (lv_sub hl [0, 1, 2, 3] rfl)
  · replace hm := if_f hm c7
    refine lv_iload_n hx hb d_Mo_door_8 rfl (lv_at hl 2 rfl) ?_
    refine lv_if_lt (tgt := 38) hx hb d_Mo_door_9 (by decide) (fun c8 => ?_) (fun c8 => ?_)
    · replace hm := if_t hm c8
      refine lv_iconst (v := 0) hx hb d_Mo_door_38 (by decide) ?_
      cases hm
      exact K3 H locs ls hP hD hS (lv_sub hl [0, 1, 2, 3] rfl)
    · replace hm := if_f hm c8
      refine lv_iload_n hx hb d_Mo_door_12 rfl (lv_at hl 2 rfl) ?_
      refine lv_iload_n hx hb d_Mo_door_13 rfl (lv_at hl 3 rfl) ?_
      refine lv_icmp_ge (tgt := 38) hx hb d_Mo_door_14 (by decide) (fun c9 => ?_) (fun c9 => ?_)
      · replace hm := if_t hm c9
        refine lv_iconst (v := 0) hx hb d_Mo_door_38 (by decide) ?_
        cases hm
        exact K3 H locs ls hP hD hS (lv_sub hl [0, 1, 2, 3] rfl)
      · replace hm := if_f hm c9
        refine lv_iload_n hx hb d_Mo_door_17 rfl (lv_at hl 3 rfl) ?_
        refine lv_aload_n hx hb d_Mo_door_18 rfl (lv_at hl 0 rfl) ?_
        refine va_get (D := (dC, dI)) (ci := 11) (v := .ref a_0_highs) (C := "SpaceCyclesModel") (T := F_Mo) (N := 54) hx hb hts (in_F i_Mo) hown hK hP 0 rfl rfl 4 (by decide) (hts _ (in_c k_282)) (fun _ h9 => h9) rfl d_Mo_door_19 ?_
        refine lv_iload_n hx hb d_Mo_door_22 rfl (lv_at hl 1 rfl) ?_
        obtain ⟨hi10, hm⟩ := gI_e hm
        refine va_iald hx hb hK hP 2 0 rfl rfl hi10 d_Mo_door_23 ?_
        refine lv_aload_n hx hb d_Mo_door_24 rfl (lv_at hl 0 rfl) ?_
        refine va_get (D := (dC, dI)) (ci := 11) (v := .ref a_0_lows) (C := "SpaceCyclesModel") (T := F_Mo) (N := 54) hx hb hts (in_F i_Mo) hown hK hP 0 rfl rfl 3 (by decide) (hts _ (in_c k_281)) (fun _ h9 => h9) rfl d_Mo_door_25 ?_
        refine lv_iload_n hx hb d_Mo_door_28 rfl (lv_at hl 1 rfl) ?_
        obtain ⟨hi11, hm⟩ := gI_e hm
        refine va_iald hx hb hK hP 1 0 rfl rfl hi11 d_Mo_door_29 ?_
        refine lv_isub hx hb d_Mo_door_30 ?_
        refine lv_icmp_gt (tgt := 38) hx hb d_Mo_door_31 (by decide) (fun c12 => ?_) (fun c12 => ?_)
        · replace hm := if_t hm c12
          refine lv_iconst (v := 0) hx hb d_Mo_door_38 (by decide) ?_
          cases hm
          exact K3 H locs ls hP hD hS (lv_sub hl [0, 1, 2, 3] rfl)
        · replace hm := if_f hm c12
          refine lv_iconst (v := 1) hx hb d_Mo_door_34 (by decide) ?_
          refine lv_goto (tgt := 39) hx hb d_Mo_door_35 (by decide) ?_
          cases hm
          exact K3 H locs ls hP hD hS (lv_sub hl [0, 1, 2, 3] rfl)
set_option maxHeartbeats 4000000 in
set_option maxRecDepth 100000 in
theorem c_Mo_door (l : Launch) (dC : Nat → ClassId) (dI : Nat → Nat → Nat) {cI cZ cJ : ClassId} (a_0 a_0_lows a_0_highs a_0_doorCounts a_0_doorFrom a_0_doorTo b_0_isFlat b_0_across b_0_thick b_0_xs b_0_ys b_0_labels b_0_oldXs b_0_oldYs b_0_oldLabels b_0_names b_0_oldNames b_0_wanted b_0_common b_0_flatEdges b_0_upEdges b_0_isPoint b_0_stack b_0_pieceLines b_0_pieceBegins b_0_pieceEnds b_0_pieceLeft b_0_pieceRight b_0_outs b_0_isSeen b_0_ringSpaces b_0_ringStarts b_0_ringSizes b_0_ringLeast b_0_looseLines b_0_looseXs b_0_looseYs b_0_looseReaches b_0_far : Nat) (sz : Nat) (v_0_code : Int32) (v_0_lines : Int32) (v_0_isFresh : Int32) (v_0_hasRun : Int32) (v_0_runs : Int32) (v_0_nx : Int32) (v_0_ny : Int32) (v_0_spaces : Int32) (v_0_oldNx : Int32) (v_0_oldNy : Int32) (v_0_oldSpaces : Int32) (v_0_points : Int32) (v_0_pieces : Int32) (v_0_rings : Int32) (v_0_outsideSides : Int32) (v_0_looseCount : Int32) (f_0_lows : Nat → Int32) (f_0_highs : Nat → Int32) (f_0_doorCounts : Nat → Int32) (f_0_doorFrom : Nat → Int32) (f_0_doorTo : Nat → Int32) (p1 : Int32) (p2 : Int32) (p3 : Int32) (R0 : Int32) (ov_0_code : Int32) (of_0_doorCounts : Nat → Int32) (of_0_doorFrom : Nat → Int32) (of_0_doorTo : Nat → Int32) (hm : m_Mo_door p1 p2 p3 v_0_code v_0_lines f_0_lows f_0_highs f_0_doorCounts f_0_doorFrom f_0_doorTo = some (R0, ov_0_code, of_0_doorCounts, of_0_doorFrom, of_0_doorTo)) : Met l y_Mo_door w_Mo_door rm_Mo_door (PP dC dI [(cI, .int), (cZ, .boolean), (cJ, .long)] [.ref a_0, .int p1, .int p2, .int p3] sz (wl_Mo_door a_0 a_0_lows a_0_highs a_0_doorCounts a_0_doorFrom a_0_doorTo b_0_isFlat b_0_across b_0_thick b_0_xs b_0_ys b_0_labels b_0_oldXs b_0_oldYs b_0_oldLabels b_0_names b_0_oldNames b_0_wanted b_0_common b_0_flatEdges b_0_upEdges b_0_isPoint b_0_stack b_0_pieceLines b_0_pieceBegins b_0_pieceEnds b_0_pieceLeft b_0_pieceRight b_0_outs b_0_isSeen b_0_ringSpaces b_0_ringStarts b_0_ringSizes b_0_ringLeast b_0_looseLines b_0_looseXs b_0_looseYs b_0_looseReaches b_0_far cI v_0_code v_0_lines v_0_isFresh v_0_hasRun v_0_runs v_0_nx v_0_ny v_0_spaces v_0_oldNx v_0_oldNy v_0_oldSpaces v_0_points v_0_pieces v_0_rings v_0_outsideSides v_0_looseCount f_0_lows f_0_highs f_0_doorCounts f_0_doorFrom f_0_doorTo)) (QI dC dI [(cI, .int), (cZ, .boolean), (cJ, .long)] sz (wl_Mo_door a_0 a_0_lows a_0_highs a_0_doorCounts a_0_doorFrom a_0_doorTo b_0_isFlat b_0_across b_0_thick b_0_xs b_0_ys b_0_labels b_0_oldXs b_0_oldYs b_0_oldLabels b_0_names b_0_oldNames b_0_wanted b_0_common b_0_flatEdges b_0_upEdges b_0_isPoint b_0_stack b_0_pieceLines b_0_pieceBegins b_0_pieceEnds b_0_pieceLeft b_0_pieceRight b_0_outs b_0_isSeen b_0_ringSpaces b_0_ringStarts b_0_ringSizes b_0_ringLeast b_0_looseLines b_0_looseXs b_0_looseYs b_0_looseReaches b_0_far cI v_0_code v_0_lines v_0_isFresh v_0_hasRun v_0_runs v_0_nx v_0_ny v_0_spaces v_0_oldNx v_0_oldNy v_0_oldSpaces v_0_points v_0_pieces v_0_rings v_0_outsideSides v_0_looseCount f_0_lows f_0_highs f_0_doorCounts f_0_doorFrom f_0_doorTo) (wl_Mo_door a_0 a_0_lows a_0_highs a_0_doorCounts a_0_doorFrom a_0_doorTo b_0_isFlat b_0_across b_0_thick b_0_xs b_0_ys b_0_labels b_0_oldXs b_0_oldYs b_0_oldLabels b_0_names b_0_oldNames b_0_wanted b_0_common b_0_flatEdges b_0_upEdges b_0_isPoint b_0_stack b_0_pieceLines b_0_pieceBegins b_0_pieceEnds b_0_pieceLeft b_0_pieceRight b_0_outs b_0_isSeen b_0_ringSpaces b_0_ringStarts b_0_ringSizes b_0_ringLeast b_0_looseLines b_0_looseXs b_0_looseYs b_0_looseReaches b_0_far cI ov_0_code v_0_lines v_0_isFresh v_0_hasRun v_0_runs v_0_nx v_0_ny v_0_spaces v_0_oldNx v_0_oldNy v_0_oldSpaces v_0_points v_0_pieces v_0_rings v_0_outsideSides v_0_looseCount f_0_lows f_0_highs of_0_doorCounts of_0_doorFrom of_0_doorTo) R0) 0 0 (va_A (wl_Mo_door a_0 a_0_lows a_0_highs a_0_doorCounts a_0_doorFrom a_0_doorTo b_0_isFlat b_0_across b_0_thick b_0_xs b_0_ys b_0_labels b_0_oldXs b_0_oldYs b_0_oldLabels b_0_names b_0_oldNames b_0_wanted b_0_common b_0_flatEdges b_0_upEdges b_0_isPoint b_0_stack b_0_pieceLines b_0_pieceBegins b_0_pieceEnds b_0_pieceLeft b_0_pieceRight b_0_outs b_0_isSeen b_0_ringSpaces b_0_ringStarts b_0_ringSizes b_0_ringLeast b_0_looseLines b_0_looseXs b_0_looseYs b_0_looseReaches b_0_far cI v_0_code v_0_lines v_0_isFresh v_0_hasRun v_0_runs v_0_nx v_0_ny v_0_spaces v_0_oldNx v_0_oldNy v_0_oldSpaces v_0_points v_0_pieces v_0_rings v_0_outsideSides v_0_looseCount f_0_lows f_0_highs f_0_doorCounts f_0_doorFrom f_0_doorTo) sz) := by
  refine Met.ofW (cc := b_Mo_door) (maxL := 5) (ret := (some .int)) (by decide) rfl ?_
  intro p e s m args below meth c s₁ B hml hv
  obtain ⟨rfl, hsz, hP, hK, hD0, hN⟩ := hv
  subst hsz
  have hl := lv_entry ([.ref a_0, .int p1, .int p2, .int p3]) (n := 5) (Nat.le_of_ble_eq_true rfl)
  rw [lg_entry_eq]
  generalize (lg_sl ([.ref a_0, .int p1, .int p2, .int p3]) ++ List.replicate (5 - (lg_sl ([.ref a_0, .int p1, .int p2, .int p3])).length) Slot.unset).toArray = ls at hl ⊢
  exact t_Mo_door a_0 a_0_lows a_0_highs a_0_doorCounts a_0_doorFrom a_0_doorTo b_0_isFlat b_0_across b_0_thick b_0_xs b_0_ys b_0_labels b_0_oldXs b_0_oldYs b_0_oldLabels b_0_names b_0_oldNames b_0_wanted b_0_common b_0_flatEdges b_0_upEdges b_0_isPoint b_0_stack b_0_pieceLines b_0_pieceBegins b_0_pieceEnds b_0_pieceLeft b_0_pieceRight b_0_outs b_0_isSeen b_0_ringSpaces b_0_ringStarts b_0_ringSizes b_0_ringLeast b_0_looseLines b_0_looseXs b_0_looseYs b_0_looseReaches b_0_far v_0_code v_0_lines v_0_isFresh v_0_hasRun v_0_runs v_0_nx v_0_ny v_0_spaces v_0_oldNx v_0_oldNy v_0_oldSpaces v_0_points v_0_pieces v_0_rings v_0_outsideSides v_0_looseCount f_0_lows f_0_highs f_0_doorCounts f_0_doorFrom f_0_doorTo p1 p2 p3 R0 ov_0_code of_0_doorCounts of_0_doorFrom of_0_doorTo B.exec B.bytes hml (findClass_of_methodNamed B.named) (atoms_spec (ws := w_Mo_door) B.pre) hK hN (fun q h => Or.inr h) (fun pc H locs ls hd hP9 hD9 hS => W.iret B.exec B.bytes B.returns (fun t ht hW => ⟨⟨_, (), rfl, rfl, by rw [ht]; exact hP9, va_K.moved hW.alike hK, hD9⟩, hS.F ht⟩) hS.2.2 hd) hm s.heap [] ls hP hD0.self va_S.rf hl

-- SpaceCyclesModel.put([III)I
abbrev b_Mo_put : ByteArray := prog_13_method_9_code
abbrev y_Mo_put : MethodName := ⟨"SpaceCyclesModel", "put", "([III)I"⟩
abbrev w_Mo_put : List Cond := Cond.code y_Mo_put b_Mo_put 5 (some .int) :: gl
abbrev rm_Mo_put : Room := { frames := 0, cells := 0, slots := 0, locals := 0 }
theorem d_Mo_put_0 : decode b_Mo_put 0 = .ok (.iconst 0, 1) := by decide +kernel
theorem d_Mo_put_1 : decode b_Mo_put 1 = .ok (.istore_n 3, 1) := by decide +kernel
theorem d_Mo_put_2 : decode b_Mo_put 2 = .ok (.iload_n 3, 1) := by decide +kernel
theorem d_Mo_put_3 : decode b_Mo_put 3 = .ok (.iload_n 1, 1) := by decide +kernel
theorem d_Mo_put_4 : decode b_Mo_put 4 = .ok (.if_icmp .ge 16, 3) := by decide +kernel
theorem d_Mo_put_7 : decode b_Mo_put 7 = .ok (.aload_n 0, 1) := by decide +kernel
theorem d_Mo_put_8 : decode b_Mo_put 8 = .ok (.iload_n 3, 1) := by decide +kernel
theorem d_Mo_put_9 : decode b_Mo_put 9 = .ok (.iaload, 1) := by decide +kernel
theorem d_Mo_put_10 : decode b_Mo_put 10 = .ok (.iload_n 2, 1) := by decide +kernel
theorem d_Mo_put_11 : decode b_Mo_put 11 = .ok (.if_icmp .ge 9, 3) := by decide +kernel
theorem d_Mo_put_14 : decode b_Mo_put 14 = .ok (.iinc 3 1, 3) := by decide +kernel
theorem d_Mo_put_17 : decode b_Mo_put 17 = .ok (.goto (-15), 3) := by decide +kernel
theorem d_Mo_put_20 : decode b_Mo_put 20 = .ok (.iload_n 3, 1) := by decide +kernel
theorem d_Mo_put_21 : decode b_Mo_put 21 = .ok (.iload_n 1, 1) := by decide +kernel
theorem d_Mo_put_22 : decode b_Mo_put 22 = .ok (.if_icmp .ge 12, 3) := by decide +kernel
theorem d_Mo_put_25 : decode b_Mo_put 25 = .ok (.aload_n 0, 1) := by decide +kernel
theorem d_Mo_put_26 : decode b_Mo_put 26 = .ok (.iload_n 3, 1) := by decide +kernel
theorem d_Mo_put_27 : decode b_Mo_put 27 = .ok (.iaload, 1) := by decide +kernel
theorem d_Mo_put_28 : decode b_Mo_put 28 = .ok (.iload_n 2, 1) := by decide +kernel
theorem d_Mo_put_29 : decode b_Mo_put 29 = .ok (.if_icmp .ne 5, 3) := by decide +kernel
theorem d_Mo_put_32 : decode b_Mo_put 32 = .ok (.iload_n 1, 1) := by decide +kernel
theorem d_Mo_put_33 : decode b_Mo_put 33 = .ok (.ireturn, 1) := by decide +kernel
theorem d_Mo_put_34 : decode b_Mo_put 34 = .ok (.iload_n 1, 1) := by decide +kernel
theorem d_Mo_put_35 : decode b_Mo_put 35 = .ok (.istore 4, 2) := by decide +kernel
theorem d_Mo_put_37 : decode b_Mo_put 37 = .ok (.iload 4, 2) := by decide +kernel
theorem d_Mo_put_39 : decode b_Mo_put 39 = .ok (.iload_n 3, 1) := by decide +kernel
theorem d_Mo_put_40 : decode b_Mo_put 40 = .ok (.if_icmp .le 19, 3) := by decide +kernel
theorem d_Mo_put_43 : decode b_Mo_put 43 = .ok (.aload_n 0, 1) := by decide +kernel
theorem d_Mo_put_44 : decode b_Mo_put 44 = .ok (.iload 4, 2) := by decide +kernel
theorem d_Mo_put_46 : decode b_Mo_put 46 = .ok (.aload_n 0, 1) := by decide +kernel
theorem d_Mo_put_47 : decode b_Mo_put 47 = .ok (.iload 4, 2) := by decide +kernel
theorem d_Mo_put_49 : decode b_Mo_put 49 = .ok (.iconst 1, 1) := by decide +kernel
theorem d_Mo_put_50 : decode b_Mo_put 50 = .ok (.isub, 1) := by decide +kernel
theorem d_Mo_put_51 : decode b_Mo_put 51 = .ok (.iaload, 1) := by decide +kernel
theorem d_Mo_put_52 : decode b_Mo_put 52 = .ok (.iastore, 1) := by decide +kernel
theorem d_Mo_put_53 : decode b_Mo_put 53 = .ok (.iinc 4 (-1), 3) := by decide +kernel
theorem d_Mo_put_56 : decode b_Mo_put 56 = .ok (.goto (-19), 3) := by decide +kernel
theorem d_Mo_put_59 : decode b_Mo_put 59 = .ok (.aload_n 0, 1) := by decide +kernel
theorem d_Mo_put_60 : decode b_Mo_put 60 = .ok (.iload_n 3, 1) := by decide +kernel
theorem d_Mo_put_61 : decode b_Mo_put 61 = .ok (.iload_n 2, 1) := by decide +kernel
theorem d_Mo_put_62 : decode b_Mo_put 62 = .ok (.iastore, 1) := by decide +kernel
theorem d_Mo_put_63 : decode b_Mo_put 63 = .ok (.iload_n 1, 1) := by decide +kernel
theorem d_Mo_put_64 : decode b_Mo_put 64 = .ok (.iconst 1, 1) := by decide +kernel
theorem d_Mo_put_65 : decode b_Mo_put 65 = .ok (.iadd, 1) := by decide +kernel
theorem d_Mo_put_66 : decode b_Mo_put 66 = .ok (.ireturn, 1) := by decide +kernel
abbrev wl_Mo_put (a_0 : Nat) (cI : ClassId) (n0 : Nat) (f_0 : Nat → Int32) : va_W := [(a_0, .inl (cI, n0, .inl f_0))]
def m_Mo_put_L2 (l1 : Int32) (l2 : Int32) (n0 : Nat) (f_0 : Nat → Int32) : Nat → Int32 → Option (Int32)
  | 0, _ => none
  | n + 1, l3 =>
    if l1 ≤ l3 then (
      some l3)
    else (
      gI l3 n0 <|
      if l2 ≤ (f_0 l3.toNatClampNeg) then (
        some l3)
      else (
        lt_ (l3 + 1) fun x4 =>
        m_Mo_put_L2 l1 l2 n0 f_0 n x4))

def m_Mo_put_L37 (l3 : Int32) (n0 : Nat) : Nat → Int32 → (Nat → Int32) → Option ((Nat → Int32))
  | 0, _, _ => none
  | n + 1, l4, f_0 =>
    if l4 ≤ l3 then (
      some f_0)
    else (
      gI (l4 - 1) n0 <|
      gI l4 n0 <|
      lt_ (upd f_0 l4.toNatClampNeg (f_0 (l4 - 1).toNatClampNeg)) fun f18 =>
      lt_ (l4 + (-1)) fun x19 =>
      m_Mo_put_L37 l3 n0 n x19 f18)
def m_Mo_put (n0 : Nat) (p1 : Int32) (p2 : Int32) (f_0 : Nat → Int32) : Option (Int32 × (Nat → Int32)) :=
  bd1 (m_Mo_put_L2 p1 p2 n0 f_0 fu 0) fun x2 =>
  bs0 (
    if p1 ≤ x2 then (
    some (Sum.inr ()))
  else (
    gI x2 n0 <|
    if (f_0 x2.toNatClampNeg) = p2 then (
      some (Sum.inl (p1, f_0)))
    else (
      some (Sum.inr ())))) <|
  bd1 (m_Mo_put_L37 x2 n0 fu p1 f_0) fun f17 =>
    gI x2 n0 <|
    lt_ (upd f17 x2.toNatClampNeg p2) fun f26 =>
    some (p1 + 1, f26)

set_option maxHeartbeats 4000000 in
set_option maxRecDepth 100000 in
theorem t_Mo_put {p : Program} {l : Launch} {e : Env} {s : State} {m : MethodId} {args : Array Value} {below : List Frame} {meth : Method} {c : Code} {A : Nat → Prop} {Q : State → Prop} {dC : Nat → ClassId} {dI : Nat → Nat → Nat} {cI cZ cJ : ClassId} (a_0 : Nat) (n0 : Nat) (f_0 : Nat → Int32) (p1 : Int32) (p2 : Int32) (R0 : Int32) (of_0 : Nat → Int32) (hx : p.tables.exec = Jvm.exec) (hb : c.code = b_Mo_put) (hml : c.maxLocals = 5) (hown : s.vm.findClass "SpaceCyclesModel" = some m.cls) (hts : ∀ w ∈ w_Mo_put, w.before args s = true) (hK : va_K (dC, dI) vwCl [(cI, .int), (cZ, .boolean), (cJ, .long)] s) (hN : NX s) (hA : ∀ q : Nat, s.heap.size ≤ q → A q)
    (hret : ∀ (pc : Nat) (H : Heap) (locs : List Loc) (ls : Array Slot), decode b_Mo_put pc = .ok (.ireturn, 1) → va_P (dC, dI) vwCl (wl_Mo_put a_0 cI n0 of_0) H → va_D A (wl_Mo_put a_0 cI n0 of_0) → va_S A s.heap H locs → W p l e rm_Mo_put s m args below meth c H locs 0 0 Q (F0 m pc ls [.int R0]))
    (hm : m_Mo_put n0 p1 p2 f_0 = some (R0, of_0)) : ∀ (H : Heap) (locs : List Loc) (ls : Array Slot), va_P (dC, dI) vwCl (wl_Mo_put a_0 cI n0 f_0) H → va_D A (wl_Mo_put a_0 cI n0 f_0) → va_S A s.heap H locs → lv_has ls 5 [(0, .ref a_0), (1, .int p1), (2, .int p2)] → W p l e rm_Mo_put s m args below meth c H locs 0 0 Q (F0 m 0 ls []) := by
  intro H locs ls hP hD hS hl
  unfold m_Mo_put at hm
  refine lv_iconst (v := 0) hx hb d_Mo_put_0 (by decide) ?_
  refine lv_istore_n (lv' := [(3, .int 0), (0, .ref a_0), (1, .int p1), (2, .int p2)]) hx hb d_Mo_put_1 rfl hl (by decide) rfl (fun ls hl => ?_)
  have L2_3 : ∀ (n : Nat) (x1 : Int32) (x2 : Int32), m_Mo_put_L2 p1 p2 n0 f_0 n x1 = some x2 → (∀ (H : Heap) (locs : List Loc) (ls : Array Slot), va_P (dC, dI) vwCl (wl_Mo_put a_0 cI n0 f_0) H → va_D A (wl_Mo_put a_0 cI n0 f_0) → va_S A s.heap H locs → lv_has ls 5 [(0, .ref a_0), (1, .int p1), (2, .int p2), (3, .int x2)] → W p l e rm_Mo_put s m args below meth c H locs 0 0 Q (F0 m 20 ls [])) → ∀ (H : Heap) (locs : List Loc) (ls : Array Slot), va_P (dC, dI) vwCl (wl_Mo_put a_0 cI n0 f_0) H → va_D A (wl_Mo_put a_0 cI n0 f_0) → va_S A s.heap H locs → lv_has ls 5 [(0, .ref a_0), (1, .int p1), (2, .int p2), (3, .int x1)] → W p l e rm_Mo_put s m args below meth c H locs 0 0 Q (F0 m 2 ls []) := by
    intro n
    induction n with
    | zero => intro x1 x2 hm; simp [m_Mo_put_L2] at hm
    | succ n ih =>
      intro x1 x2 hm KE H locs ls hP hD hS hl
      rw [m_Mo_put_L2] at hm
      refine lv_iload_n hx hb d_Mo_put_2 rfl (lv_at hl 3 rfl) ?_
      refine lv_iload_n hx hb d_Mo_put_3 rfl (lv_at hl 1 rfl) ?_
      refine lv_icmp_ge (tgt := 20) hx hb d_Mo_put_4 (by decide) (fun c4 => ?_) (fun c4 => ?_)
      · replace hm := if_t hm c4
        cases hm
        exact KE H locs ls hP hD hS (lv_sub hl [0, 1, 2, 3] rfl)
      · replace hm := if_f hm c4
        refine lv_aload_n hx hb d_Mo_put_7 rfl (lv_at hl 0 rfl) ?_
        refine lv_iload_n hx hb d_Mo_put_8 rfl (lv_at hl 3 rfl) ?_
        obtain ⟨hi5, hm⟩ := gI_e hm
        refine va_iald hx hb hK hP 0 0 rfl rfl hi5 d_Mo_put_9 ?_
        refine lv_iload_n hx hb d_Mo_put_10 rfl (lv_at hl 2 rfl) ?_
        refine lv_icmp_ge (tgt := 20) hx hb d_Mo_put_11 (by decide) (fun c6 => ?_) (fun c6 => ?_)
        · replace hm := if_t hm c6
          cases hm
          exact KE H locs ls hP hD hS (lv_sub hl [0, 1, 2, 3] rfl)
        · replace hm := if_f hm c6
          obtain ⟨x7, ex7⟩ : ∃ y : Int32, y = x1 + 1 := ⟨_, rfl⟩
          replace hm := lt_el hm ex7
          refine lv_iinc (v := x7) (lv' := [(3, .int x7), (0, .ref a_0), (1, .int p1), (2, .int p2)]) hx hb d_Mo_put_14 hl (k := 3) rfl (by rw [ex7]; rfl) (by decide) rfl (fun ls hl => ?_)
          refine lv_goto (tgt := 2) hx hb d_Mo_put_17 (by decide) ?_
          exact ih _ _ hm KE H locs ls hP hD hS (lv_sub hl [1, 2, 3, 0] rfl)
  obtain ⟨x2, hb8, hm⟩ := bd1_e hm
  refine L2_3 fu _ _ hb8 (fun H locs ls hP hD hS hl => ?_) H locs ls hP hD hS (lv_sub hl [1, 2, 3, 0] rfl)
  refine lv_iload_n hx hb d_Mo_put_20 rfl (lv_at hl 3 rfl) ?_
  refine lv_iload_n hx hb d_Mo_put_21 rfl (lv_at hl 1 rfl) ?_
  obtain ⟨zhz11, hb10, hz11, hm⟩ := bs0_z hm
  have K9 : zhz11 = Sum.inr () → ∀ (H : Heap) (locs : List Loc) (ls : Array Slot), va_P (dC, dI) vwCl (wl_Mo_put a_0 cI n0 f_0) H → va_D A (wl_Mo_put a_0 cI n0 f_0) → va_S A s.heap H locs → lv_has ls 5 [(0, .ref a_0), (1, .int p1), (2, .int p2), (3, .int x2)] → W p l e rm_Mo_put s m args below meth c H locs 0 0 Q (F0 m 34 ls []) := by
    intro  hq H locs ls hP hD hS hl
    replace hm := hm  hq
    refine lv_iload_n hx hb d_Mo_put_34 rfl (lv_at hl 1 rfl) ?_
    refine lv_istore (lv' := [(4, .int p1), (0, .ref a_0), (1, .int p1), (2, .int p2), (3, .int x2)]) hx hb d_Mo_put_35 hl (by decide) rfl (fun ls hl => ?_)
    have L37_18 : ∀ (n : Nat) (x15 : Int32) (f16 : Nat → Int32) (f17 : Nat → Int32), m_Mo_put_L37 x2 n0 n x15 f16 = some f17 → (∀ (H : Heap) (locs : List Loc) (ls : Array Slot), va_P (dC, dI) vwCl (wl_Mo_put a_0 cI n0 f17) H → va_D A (wl_Mo_put a_0 cI n0 f17) → va_S A s.heap H locs → lv_has ls 5 [(0, .ref a_0), (1, .int p1), (2, .int p2), (3, .int x2)] → W p l e rm_Mo_put s m args below meth c H locs 0 0 Q (F0 m 59 ls [])) → ∀ (H : Heap) (locs : List Loc) (ls : Array Slot), va_P (dC, dI) vwCl (wl_Mo_put a_0 cI n0 f16) H → va_D A (wl_Mo_put a_0 cI n0 f16) → va_S A s.heap H locs → lv_has ls 5 [(0, .ref a_0), (1, .int p1), (2, .int p2), (3, .int x2), (4, .int x15)] → W p l e rm_Mo_put s m args below meth c H locs 0 0 Q (F0 m 37 ls []) := by
      intro n
      induction n with
      | zero => intro x15 f16 f17 hm; simp [m_Mo_put_L37] at hm
      | succ n ih =>
        intro x15 f16 f17 hm KE H locs ls hP hD hS hl
        rw [m_Mo_put_L37] at hm
        refine lv_iload hx hb d_Mo_put_37 (lv_at hl 4 rfl) ?_
        refine lv_iload_n hx hb d_Mo_put_39 rfl (lv_at hl 3 rfl) ?_
        refine lv_icmp_le (tgt := 59) hx hb d_Mo_put_40 (by decide) (fun c19 => ?_) (fun c19 => ?_)
        · replace hm := if_t hm c19
          cases hm
          exact KE H locs ls hP hD hS (lv_sub hl [0, 1, 2, 3] rfl)
        · replace hm := if_f hm c19
          refine lv_aload_n hx hb d_Mo_put_43 rfl (lv_at hl 0 rfl) ?_
          refine lv_iload hx hb d_Mo_put_44 (lv_at hl 4 rfl) ?_
          refine lv_aload_n hx hb d_Mo_put_46 rfl (lv_at hl 0 rfl) ?_
          refine lv_iload hx hb d_Mo_put_47 (lv_at hl 4 rfl) ?_
          refine lv_iconst (v := 1) hx hb d_Mo_put_49 (by decide) ?_
          refine lv_isub hx hb d_Mo_put_50 ?_
          obtain ⟨hi20, hm⟩ := gI_e hm
          refine va_iald hx hb hK hP 0 0 rfl rfl hi20 d_Mo_put_51 ?_
          obtain ⟨hi21, hm⟩ := gI_e hm
          obtain ⟨f22, ef22⟩ : ∃ y : Nat → Int32, y = upd f16 x15.toNatClampNeg (f16 (x15 - 1).toNatClampNeg) := ⟨_, rfl⟩
          replace hm := lt_el hm ef22
          refine va_iast hx hb hK hP hD hS 0 0 rfl rfl hi21 d_Mo_put_52 (fun H locs hP hD hS => ?_)
          rw [← ef22] at hP hD
          have hP : va_P (dC, dI) vwCl (wl_Mo_put a_0 cI n0 f22) H := hP
          have hD : va_D A (wl_Mo_put a_0 cI n0 f22) := hD
          obtain ⟨x23, ex23⟩ : ∃ y : Int32, y = x15 + (-1) := ⟨_, rfl⟩
          replace hm := lt_el hm ex23
          refine lv_iinc (v := x23) (lv' := [(4, .int x23), (0, .ref a_0), (1, .int p1), (2, .int p2), (3, .int x2)]) hx hb d_Mo_put_53 hl (k := 4) rfl (by rw [ex23]; rfl) (by decide) rfl (fun ls hl => ?_)
          refine lv_goto (tgt := 37) hx hb d_Mo_put_56 (by decide) ?_
          exact ih _ _ _ hm KE H locs ls hP hD hS (lv_sub hl [1, 2, 3, 4, 0] rfl)
    obtain ⟨f17, hb24, hm⟩ := bd1_e hm
    refine L37_18 fu _ _ _ hb24 (fun H locs ls hP hD hS hl => ?_) H locs ls hP hD hS (lv_sub hl [1, 2, 3, 4, 0] rfl)
    refine lv_aload_n hx hb d_Mo_put_59 rfl (lv_at hl 0 rfl) ?_
    refine lv_iload_n hx hb d_Mo_put_60 rfl (lv_at hl 3 rfl) ?_
    refine lv_iload_n hx hb d_Mo_put_61 rfl (lv_at hl 2 rfl) ?_
    obtain ⟨hi25, hm⟩ := gI_e hm
    obtain ⟨f26, ef26⟩ : ∃ y : Nat → Int32, y = upd f17 x2.toNatClampNeg p2 := ⟨_, rfl⟩
    replace hm := lt_el hm ef26
    refine va_iast hx hb hK hP hD hS 0 0 rfl rfl hi25 d_Mo_put_62 (fun H locs hP hD hS => ?_)
    rw [← ef26] at hP hD
    have hP : va_P (dC, dI) vwCl (wl_Mo_put a_0 cI n0 f26) H := hP
    have hD : va_D A (wl_Mo_put a_0 cI n0 f26) := hD
    refine lv_iload_n hx hb d_Mo_put_63 rfl (lv_at hl 1 rfl) ?_
    refine lv_iconst (v := 1) hx hb d_Mo_put_64 (by decide) ?_
    refine lv_iadd hx hb d_Mo_put_65 ?_
    cases hm
    exact hret _ H locs ls d_Mo_put_66 hP hD hS
  replace hm := hb10
  refine lv_icmp_ge (tgt := 34) hx hb d_Mo_put_22 (by decide) (fun c12 => ?_) (fun c12 => ?_)
  · replace hm := if_t hm c12
    cases hm
    exact K9  rfl H locs ls hP hD hS (lv_sub hl [0, 1, 2, 3] rfl)
  · replace hm := if_f hm c12
    refine lv_aload_n hx hb d_Mo_put_25 rfl (lv_at hl 0 rfl) ?_
    refine lv_iload_n hx hb d_Mo_put_26 rfl (lv_at hl 3 rfl) ?_
    obtain ⟨hi13, hm⟩ := gI_e hm
    refine va_iald hx hb hK hP 0 0 rfl rfl hi13 d_Mo_put_27 ?_
    refine lv_iload_n hx hb d_Mo_put_28 rfl (lv_at hl 2 rfl) ?_
    refine lv_icmp_ne (tgt := 34) hx hb d_Mo_put_29 (by decide) (fun c14 => ?_) (fun c14 => ?_)
    · replace hm := if_f hm c14
      cases hm
      exact K9  rfl H locs ls hP hD hS (lv_sub hl [0, 1, 2, 3] rfl)
    · replace hm := if_t hm c14
      refine lv_iload_n hx hb d_Mo_put_32 rfl (lv_at hl 1 rfl) ?_
      cases hm
      cases (hz11 _ rfl)
      exact hret _ H locs ls d_Mo_put_33 hP hD hS
set_option maxHeartbeats 4000000 in
set_option maxRecDepth 100000 in
theorem c_Mo_put (l : Launch) (dC : Nat → ClassId) (dI : Nat → Nat → Nat) {cI cZ cJ : ClassId} (a_0 : Nat) (sz : Nat) (n0 : Nat) (f_0 : Nat → Int32) (p1 : Int32) (p2 : Int32) (R0 : Int32) (of_0 : Nat → Int32) (hm : m_Mo_put n0 p1 p2 f_0 = some (R0, of_0)) : Met l y_Mo_put w_Mo_put rm_Mo_put (PP dC dI [(cI, .int), (cZ, .boolean), (cJ, .long)] [.ref a_0, .int p1, .int p2] sz (wl_Mo_put a_0 cI n0 f_0)) (QI dC dI [(cI, .int), (cZ, .boolean), (cJ, .long)] sz (wl_Mo_put a_0 cI n0 f_0) (wl_Mo_put a_0 cI n0 of_0) R0) 0 0 (va_A (wl_Mo_put a_0 cI n0 f_0) sz) := by
  refine Met.ofW (cc := b_Mo_put) (maxL := 5) (ret := (some .int)) (by decide) rfl ?_
  intro p e s m args below meth c s₁ B hml hv
  obtain ⟨rfl, hsz, hP, hK, hD0, hN⟩ := hv
  subst hsz
  have hl := lv_entry ([.ref a_0, .int p1, .int p2]) (n := 5) (Nat.le_of_ble_eq_true rfl)
  rw [lg_entry_eq]
  generalize (lg_sl ([.ref a_0, .int p1, .int p2]) ++ List.replicate (5 - (lg_sl ([.ref a_0, .int p1, .int p2])).length) Slot.unset).toArray = ls at hl ⊢
  exact t_Mo_put a_0 n0 f_0 p1 p2 R0 of_0 B.exec B.bytes hml (findClass_of_methodNamed B.named) (atoms_spec (ws := w_Mo_put) B.pre) hK hN (fun q h => Or.inr h) (fun pc H locs ls hd hP9 hD9 hS => W.iret B.exec B.bytes B.returns (fun t ht hW => ⟨⟨_, (), rfl, rfl, by rw [ht]; exact hP9, va_K.moved hW.alike hK, hD9⟩, hS.F ht⟩) hS.2.2 hd) hm s.heap [] ls hP hD0.self va_S.rf hl

-- SpaceCyclesModel.find([II)I
abbrev b_Mo_find : ByteArray := prog_13_method_10_code
abbrev y_Mo_find : MethodName := ⟨"SpaceCyclesModel", "find", "([II)I"⟩
abbrev w_Mo_find : List Cond := Cond.code y_Mo_find b_Mo_find 3 (some .int) :: gl
abbrev rm_Mo_find : Room := { frames := 0, cells := 0, slots := 0, locals := 0 }
theorem d_Mo_find_0 : decode b_Mo_find 0 = .ok (.iconst 0, 1) := by decide +kernel
theorem d_Mo_find_1 : decode b_Mo_find 1 = .ok (.istore_n 2, 1) := by decide +kernel
theorem d_Mo_find_2 : decode b_Mo_find 2 = .ok (.aload_n 0, 1) := by decide +kernel
theorem d_Mo_find_3 : decode b_Mo_find 3 = .ok (.iload_n 2, 1) := by decide +kernel
theorem d_Mo_find_4 : decode b_Mo_find 4 = .ok (.iaload, 1) := by decide +kernel
theorem d_Mo_find_5 : decode b_Mo_find 5 = .ok (.iload_n 1, 1) := by decide +kernel
theorem d_Mo_find_6 : decode b_Mo_find 6 = .ok (.if_icmp .eq 9, 3) := by decide +kernel
theorem d_Mo_find_9 : decode b_Mo_find 9 = .ok (.iinc 2 1, 3) := by decide +kernel
theorem d_Mo_find_12 : decode b_Mo_find 12 = .ok (.goto (-10), 3) := by decide +kernel
theorem d_Mo_find_15 : decode b_Mo_find 15 = .ok (.iload_n 2, 1) := by decide +kernel
theorem d_Mo_find_16 : decode b_Mo_find 16 = .ok (.ireturn, 1) := by decide +kernel
abbrev wl_Mo_find (a_0 : Nat) (cI : ClassId) (n0 : Nat) (f_0 : Nat → Int32) : va_W := [(a_0, .inl (cI, n0, .inl f_0))]
def m_Mo_find_L2 (l1 : Int32) (n0 : Nat) (f_0 : Nat → Int32) : Nat → Int32 → Option (Int32)
  | 0, _ => none
  | n + 1, l2 =>
    gI l2 n0 <|
    if (f_0 l2.toNatClampNeg) = l1 then (
      some l2)
    else (
      lt_ (l2 + 1) fun x3 =>
      m_Mo_find_L2 l1 n0 f_0 n x3)
def m_Mo_find (n0 : Nat) (p1 : Int32) (f_0 : Nat → Int32) : Option (Int32) :=
  bd1 (m_Mo_find_L2 p1 n0 f_0 fu 0) fun x2 =>
  some x2

set_option maxHeartbeats 4000000 in
set_option maxRecDepth 100000 in
theorem t_Mo_find {p : Program} {l : Launch} {e : Env} {s : State} {m : MethodId} {args : Array Value} {below : List Frame} {meth : Method} {c : Code} {A : Nat → Prop} {Q : State → Prop} {dC : Nat → ClassId} {dI : Nat → Nat → Nat} {cI cZ cJ : ClassId} (a_0 : Nat) (n0 : Nat) (f_0 : Nat → Int32) (p1 : Int32) (R0 : Int32) (hx : p.tables.exec = Jvm.exec) (hb : c.code = b_Mo_find) (hml : c.maxLocals = 3) (hown : s.vm.findClass "SpaceCyclesModel" = some m.cls) (hts : ∀ w ∈ w_Mo_find, w.before args s = true) (hK : va_K (dC, dI) vwCl [(cI, .int), (cZ, .boolean), (cJ, .long)] s) (hN : NX s) (hA : ∀ q : Nat, s.heap.size ≤ q → A q)
    (hret : ∀ (pc : Nat) (H : Heap) (locs : List Loc) (ls : Array Slot), decode b_Mo_find pc = .ok (.ireturn, 1) → va_P (dC, dI) vwCl (wl_Mo_find a_0 cI n0 f_0) H → va_D A (wl_Mo_find a_0 cI n0 f_0) → va_S A s.heap H locs → W p l e rm_Mo_find s m args below meth c H locs 0 0 Q (F0 m pc ls [.int R0]))
    (hm : m_Mo_find n0 p1 f_0 = some R0) : ∀ (H : Heap) (locs : List Loc) (ls : Array Slot), va_P (dC, dI) vwCl (wl_Mo_find a_0 cI n0 f_0) H → va_D A (wl_Mo_find a_0 cI n0 f_0) → va_S A s.heap H locs → lv_has ls 3 [(0, .ref a_0), (1, .int p1)] → W p l e rm_Mo_find s m args below meth c H locs 0 0 Q (F0 m 0 ls []) := by
  intro H locs ls hP hD hS hl
  unfold m_Mo_find at hm
  refine lv_iconst (v := 0) hx hb d_Mo_find_0 (by decide) ?_
  refine lv_istore_n (lv' := [(2, .int 0), (0, .ref a_0), (1, .int p1)]) hx hb d_Mo_find_1 rfl hl (by decide) rfl (fun ls hl => ?_)
  have L2_3 : ∀ (n : Nat) (x1 : Int32) (x2 : Int32), m_Mo_find_L2 p1 n0 f_0 n x1 = some x2 → (∀ (H : Heap) (locs : List Loc) (ls : Array Slot), va_P (dC, dI) vwCl (wl_Mo_find a_0 cI n0 f_0) H → va_D A (wl_Mo_find a_0 cI n0 f_0) → va_S A s.heap H locs → lv_has ls 3 [(2, .int x2)] → W p l e rm_Mo_find s m args below meth c H locs 0 0 Q (F0 m 15 ls [])) → ∀ (H : Heap) (locs : List Loc) (ls : Array Slot), va_P (dC, dI) vwCl (wl_Mo_find a_0 cI n0 f_0) H → va_D A (wl_Mo_find a_0 cI n0 f_0) → va_S A s.heap H locs → lv_has ls 3 [(0, .ref a_0), (1, .int p1), (2, .int x1)] → W p l e rm_Mo_find s m args below meth c H locs 0 0 Q (F0 m 2 ls []) := by
    intro n
    induction n with
    | zero => intro x1 x2 hm; simp [m_Mo_find_L2] at hm
    | succ n ih =>
      intro x1 x2 hm KE H locs ls hP hD hS hl
      rw [m_Mo_find_L2] at hm
      refine lv_aload_n hx hb d_Mo_find_2 rfl (lv_at hl 0 rfl) ?_
      refine lv_iload_n hx hb d_Mo_find_3 rfl (lv_at hl 2 rfl) ?_
      obtain ⟨hi4, hm⟩ := gI_e hm
      refine va_iald hx hb hK hP 0 0 rfl rfl hi4 d_Mo_find_4 ?_
      refine lv_iload_n hx hb d_Mo_find_5 rfl (lv_at hl 1 rfl) ?_
      refine lv_icmp_eq (tgt := 15) hx hb d_Mo_find_6 (by decide) (fun c5 => ?_) (fun c5 => ?_)
      · replace hm := if_t hm c5
        cases hm
        exact KE H locs ls hP hD hS (lv_sub hl [2] rfl)
      · replace hm := if_f hm c5
        obtain ⟨x6, ex6⟩ : ∃ y : Int32, y = x1 + 1 := ⟨_, rfl⟩
        replace hm := lt_el hm ex6
        refine lv_iinc (v := x6) (lv' := [(2, .int x6), (0, .ref a_0), (1, .int p1)]) hx hb d_Mo_find_9 hl (k := 2) rfl (by rw [ex6]; rfl) (by decide) rfl (fun ls hl => ?_)
        refine lv_goto (tgt := 2) hx hb d_Mo_find_12 (by decide) ?_
        exact ih _ _ hm KE H locs ls hP hD hS (lv_sub hl [1, 2, 0] rfl)
  obtain ⟨x2, hb7, hm⟩ := bd1_e hm
  refine L2_3 fu _ _ hb7 (fun H locs ls hP hD hS hl => ?_) H locs ls hP hD hS (lv_sub hl [1, 2, 0] rfl)
  refine lv_iload_n hx hb d_Mo_find_15 rfl (lv_at hl 0 rfl) ?_
  cases hm
  exact hret _ H locs ls d_Mo_find_16 hP hD hS
set_option maxHeartbeats 4000000 in
set_option maxRecDepth 100000 in
theorem c_Mo_find (l : Launch) (dC : Nat → ClassId) (dI : Nat → Nat → Nat) {cI cZ cJ : ClassId} (a_0 : Nat) (sz : Nat) (n0 : Nat) (f_0 : Nat → Int32) (p1 : Int32) (R0 : Int32) (hm : m_Mo_find n0 p1 f_0 = some R0) : Met l y_Mo_find w_Mo_find rm_Mo_find (PP dC dI [(cI, .int), (cZ, .boolean), (cJ, .long)] [.ref a_0, .int p1] sz (wl_Mo_find a_0 cI n0 f_0)) (QI dC dI [(cI, .int), (cZ, .boolean), (cJ, .long)] sz (wl_Mo_find a_0 cI n0 f_0) (wl_Mo_find a_0 cI n0 f_0) R0) 0 0 (va_A (wl_Mo_find a_0 cI n0 f_0) sz) := by
  refine Met.ofW (cc := b_Mo_find) (maxL := 3) (ret := (some .int)) (by decide) rfl ?_
  intro p e s m args below meth c s₁ B hml hv
  obtain ⟨rfl, hsz, hP, hK, hD0, hN⟩ := hv
  subst hsz
  have hl := lv_entry ([.ref a_0, .int p1]) (n := 3) (Nat.le_of_ble_eq_true rfl)
  rw [lg_entry_eq]
  generalize (lg_sl ([.ref a_0, .int p1]) ++ List.replicate (3 - (lg_sl ([.ref a_0, .int p1])).length) Slot.unset).toArray = ls at hl ⊢
  exact t_Mo_find a_0 n0 f_0 p1 R0 B.exec B.bytes hml (findClass_of_methodNamed B.named) (atoms_spec (ws := w_Mo_find) B.pre) hK hN (fun q h => Or.inr h) (fun pc H locs ls hd hP9 hD9 hS => W.iret B.exec B.bytes B.returns (fun t ht hW => ⟨⟨_, (), rfl, rfl, by rw [ht]; exact hP9, va_K.moved hW.alike hK, hD9⟩, hS.F ht⟩) hS.2.2 hd) hm s.heap [] ls hP hD0.self va_S.rf hl
