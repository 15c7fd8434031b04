theorem k_464 : ((.classLink "SpaceCycles" 88 "java/lang/IllegalArgumentException") : Cond) ∈ gl := gl_i 372 (by decide +kernel) (by decide +kernel)
theorem k_465 : ((.initialized "java/lang/IllegalArgumentException") : Cond) ∈ gl := gl_i 16 (by decide +kernel) (by decide +kernel)
-- SpaceCycles.needCoordinate(J)V: may throw
abbrev b_Sp_needCoordinate : ByteArray := prog_1_method_20_code
abbrev y_Sp_needCoordinate : MethodName := ⟨"SpaceCycles", "needCoordinate", "(J)V"⟩
abbrev w_Sp_needCoordinate : List Cond := Cond.code y_Sp_needCoordinate b_Sp_needCoordinate 2 none :: gl
abbrev rm_Sp_needCoordinate : Room := { frames := 8, cells := 1, slots := 6, locals := 200 }
theorem d_Sp_needCoordinate_0 : decode b_Sp_needCoordinate 0 = .ok (.lload_n 0, 1) := by decide +kernel
theorem d_Sp_needCoordinate_1 : decode b_Sp_needCoordinate 1 = .ok (.lconst 0, 1) := by decide +kernel
theorem d_Sp_needCoordinate_2 : decode b_Sp_needCoordinate 2 = .ok (.lcmp, 1) := by decide +kernel
theorem d_Sp_needCoordinate_3 : decode b_Sp_needCoordinate 3 = .ok (.ifCond .lt 11, 3) := by decide +kernel
theorem d_Sp_needCoordinate_6 : decode b_Sp_needCoordinate 6 = .ok (.lload_n 0, 1) := by decide +kernel
theorem d_Sp_needCoordinate_7 : decode b_Sp_needCoordinate 7 = .ok (.ldc2_w 292, 3) := by decide +kernel
theorem d_Sp_needCoordinate_10 : decode b_Sp_needCoordinate 10 = .ok (.lcmp, 1) := by decide +kernel
theorem d_Sp_needCoordinate_11 : decode b_Sp_needCoordinate 11 = .ok (.ifCond .le 14, 3) := by decide +kernel
theorem d_Sp_needCoordinate_14 : decode b_Sp_needCoordinate 14 = .ok (.new 88, 3) := by decide +kernel
theorem d_Sp_needCoordinate_17 : decode b_Sp_needCoordinate 17 = .ok (.dup, 1) := by decide +kernel
theorem d_Sp_needCoordinate_18 : decode b_Sp_needCoordinate 18 = .ok (.ldc_w 294, 3) := by decide +kernel
theorem d_Sp_needCoordinate_21 : decode b_Sp_needCoordinate 21 = .ok (.invokespecial 92, 3) := by decide +kernel
theorem d_Sp_needCoordinate_24 : decode b_Sp_needCoordinate 24 = .ok (.athrow, 1) := by decide +kernel
theorem d_Sp_needCoordinate_25 : decode b_Sp_needCoordinate 25 = .ok (.return_, 1) := by decide +kernel
abbrev wl_Sp_needCoordinate : va_W := []
def m_Sp_needCoordinate (p0 : Int64) : Option (Sum Nat (Unit)) :=
  if (lg_cmp p0 0) < 0 then (
    some (Sum.inl 1))
  else (
    if (lg_cmp p0 500) ≤ 0 then (
      some (Sum.inr ()))
    else (
      some (Sum.inl 1)))

set_option maxHeartbeats 4000000 in
set_option maxRecDepth 100000 in
theorem t_Sp_needCoordinate {p : Program} {l : Launch} {e : Env} {s : State} {m : MethodId} {args : Array Value} {below : List Frame} {meth : Method} {c : Code} {A : Nat → Prop} {dC : Nat → ClassId} {dI : Nat → Nat → Nat} {cI cZ cJ : ClassId} {Qc : Array Value → State → Outcome → State → Prop} {free : Addr → Prop}  (p0 : Int64) (Z : Sum Nat (Unit)) (htr : l.stackTraces = false) (hX : TX A s s.heap) (hout : c.exceptionTable.toList = []) (hlocks : meth.locks = false) (hx : p.tables.exec = Jvm.exec) (hb : c.code = b_Sp_needCoordinate) (hml : c.maxLocals = 2) (hown : s.vm.findClass "SpaceCycles" = some m.cls) (hts : ∀ w ∈ w_Sp_needCoordinate, w.before args s = true) (hK : va_K (dC, dI) vwCl [(cI, .int), (cZ, .boolean), (cJ, .long)] s) (hN : NX s) (hA : ∀ q : Nat, s.heap.size ≤ q → A q)
    (hret : Z = Sum.inr () → ∀ (pc : Nat) (ls : Array Slot), decode b_Sp_needCoordinate pc = .ok (.return_, 1) → W p l e rm_Sp_needCoordinate s m args below meth c s.heap [] 0 0 (XMQ below Qc (fun E => Z = Sum.inl (xk E)) args s free) (F0 m pc ls []))
    (hm : m_Sp_needCoordinate p0 = some Z) (hP : va_P (dC, dI) vwCl (wl_Sp_needCoordinate) s.heap) (hD : va_D A (wl_Sp_needCoordinate)) (hS : va_S A s.heap s.heap []) : ∀ ls : Array Slot, lv_has ls 2 [(0, .long p0)] → W p l e rm_Sp_needCoordinate s m args below meth c s.heap [] 0 0 (XMQ below Qc (fun E => Z = Sum.inl (xk E)) args s free) (F0 m 0 ls []) := by
  intro ls hl
  unfold m_Sp_needCoordinate at hm
  refine lv_lload_n hx hb d_Sp_needCoordinate_0 rfl (lv_at hl 0 rfl) ?_
  refine lv_lconst (v := 0) hx hb d_Sp_needCoordinate_1 (by decide) ?_
  refine W.lcmp hx hb d_Sp_needCoordinate_2 ?_
  refine lv_if_lt (tgt := 14) hx hb d_Sp_needCoordinate_3 (by decide) (fun c1 => ?_) (fun c1 => ?_)
  · replace hm := if_t hm c1
    cases hm
    obtain ⟨sa, hsa⟩ := hX.text 0 rfl; exact x_throw hx hb htr hown fit_IA fit_up (hts _ (in_c k_464)) (hts _ (in_c k_465)) hsa (hX.atoms hts atoms_IA) (by rw [hml]; exact hl.1) d_Sp_needCoordinate_14 d_Sp_needCoordinate_17 (Or.inr ⟨d_Sp_needCoordinate_18, rfl⟩) d_Sp_needCoordinate_21 d_Sp_needCoordinate_24 hout rfl (Nat.le_of_ble_eq_true rfl) (Nat.le_of_ble_eq_true rfl) (Nat.le_of_ble_eq_true rfl) (Nat.le_of_ble_eq_true rfl) hlocks
  · replace hm := if_f hm c1
    refine lv_lload_n hx hb d_Sp_needCoordinate_6 rfl (lv_at hl 0 rfl) ?_
    refine lv_ldc2 (v := 500) hx hb hown (hts (.constantLong "SpaceCycles" 292 500) (by decide +kernel)) d_Sp_needCoordinate_7 ?_
    refine W.lcmp hx hb d_Sp_needCoordinate_10 ?_
    refine lv_if_le (tgt := 25) hx hb d_Sp_needCoordinate_11 (by decide) (fun c2 => ?_) (fun c2 => ?_)
    · replace hm := if_t hm c2
      cases hm
      exact hret rfl _ ls d_Sp_needCoordinate_25
    · replace hm := if_f hm c2
      cases hm
      obtain ⟨sa, hsa⟩ := hX.text 0 rfl; exact x_throw hx hb htr hown fit_IA fit_up (hts _ (in_c k_464)) (hts _ (in_c k_465)) hsa (hX.atoms hts atoms_IA) (by rw [hml]; exact hl.1) d_Sp_needCoordinate_14 d_Sp_needCoordinate_17 (Or.inr ⟨d_Sp_needCoordinate_18, rfl⟩) d_Sp_needCoordinate_21 d_Sp_needCoordinate_24 hout rfl (Nat.le_of_ble_eq_true rfl) (Nat.le_of_ble_eq_true rfl) (Nat.le_of_ble_eq_true rfl) (Nat.le_of_ble_eq_true rfl) hlocks
set_option maxHeartbeats 4000000 in
set_option maxRecDepth 100000 in
theorem c_Sp_needCoordinate (l : Launch) (htr : l.stackTraces = false) (dC : Nat → ClassId) (dI : Nat → Nat → Nat) {cI cZ cJ : ClassId} (sz : Nat)  (p0 : Int64) (Z : Sum Nat (Unit)) (hm : m_Sp_needCoordinate p0 = some Z) : XMet l y_Sp_needCoordinate w_Sp_needCoordinate rm_Sp_needCoordinate (PPX dC dI [(cI, .int), (cZ, .boolean), (cJ, .long)] [.long p0] sz (wl_Sp_needCoordinate)) (va_Qv (fun (_ : Unit) => Z = Sum.inr ()) (fun _ _ => True) (fun _ => False)) (fun E => Z = Sum.inl (xk E)) (fun _ => False) := by
  refine XMet.ofW (cc := b_Sp_needCoordinate) (maxL := 2) (ret := none) (by decide) rfl ?_
  intro p e s m args below meth c s₁ B hml hout hv
  obtain ⟨rfl, hsz, hP, hK, hD0, hN, hX⟩ := hv
  subst hsz
  have hl := lv_entry ([.long p0]) (n := 2) (Nat.le_of_ble_eq_true rfl)
  rw [lg_entry_eq]
  generalize (lg_sl ([.long p0]) ++ List.replicate (2 - (lg_sl ([.long p0])).length) Slot.unset).toArray = ls at hl ⊢
  exact t_Sp_needCoordinate (A := va_A (wl_Sp_needCoordinate) s.heap.size) p0 Z htr hX hout B.notSynchronized B.exec B.bytes hml (findClass_of_methodNamed B.named) (atoms_spec (ws := w_Sp_needCoordinate) B.pre) hK hN (fun q h => Or.inr h) (fun hz pc ls hd => x_ret (W.vret B.exec B.bytes B.returns (fun t ht hW => ⟨⟨(), rfl, hz, trivial⟩, by rw [ht]; exact Nat.le_refl _, fun q _ _ => by rw [ht]⟩) (fun q h => by cases h) hd)) hm hP hD0.self va_S.rf ls hl

-- SpaceCycles.needBetween(III)V: may throw
abbrev b_Sp_needBetween : ByteArray := prog_1_method_19_code
abbrev y_Sp_needBetween : MethodName := ⟨"SpaceCycles", "needBetween", "(III)V"⟩
abbrev w_Sp_needBetween : List Cond := Cond.code y_Sp_needBetween b_Sp_needBetween 3 none :: gl
abbrev rm_Sp_needBetween : Room := { frames := 8, cells := 1, slots := 6, locals := 200 }
theorem d_Sp_needBetween_0 : decode b_Sp_needBetween 0 = .ok (.iload_n 0, 1) := by decide +kernel
theorem d_Sp_needBetween_1 : decode b_Sp_needBetween 1 = .ok (.iload_n 1, 1) := by decide +kernel
theorem d_Sp_needBetween_2 : decode b_Sp_needBetween 2 = .ok (.if_icmp .lt 8, 3) := by decide +kernel
theorem d_Sp_needBetween_5 : decode b_Sp_needBetween 5 = .ok (.iload_n 0, 1) := by decide +kernel
theorem d_Sp_needBetween_6 : decode b_Sp_needBetween 6 = .ok (.iload_n 2, 1) := by decide +kernel
theorem d_Sp_needBetween_7 : decode b_Sp_needBetween 7 = .ok (.if_icmp .le 14, 3) := by decide +kernel
theorem d_Sp_needBetween_10 : decode b_Sp_needBetween 10 = .ok (.new 88, 3) := by decide +kernel
theorem d_Sp_needBetween_13 : decode b_Sp_needBetween 13 = .ok (.dup, 1) := by decide +kernel
theorem d_Sp_needBetween_14 : decode b_Sp_needBetween 14 = .ok (.ldc_w 290, 3) := by decide +kernel
theorem d_Sp_needBetween_17 : decode b_Sp_needBetween 17 = .ok (.invokespecial 92, 3) := by decide +kernel
theorem d_Sp_needBetween_20 : decode b_Sp_needBetween 20 = .ok (.athrow, 1) := by decide +kernel
theorem d_Sp_needBetween_21 : decode b_Sp_needBetween 21 = .ok (.return_, 1) := by decide +kernel
abbrev wl_Sp_needBetween : va_W := []
def m_Sp_needBetween (p0 : Int32) (p1 : Int32) (p2 : Int32) : Option (Sum Nat (Unit)) :=
  if p0 < p1 then (
    some (Sum.inl 1))
  else (
    if p0 ≤ p2 then (
      some (Sum.inr ()))
    else (
      some (Sum.inl 1)))

set_option maxHeartbeats 4000000 in
set_option maxRecDepth 100000 in
theorem t_Sp_needBetween {p : Program} {l : Launch} {e : Env} {s : State} {m : MethodId} {args : Array Value} {below : List Frame} {meth : Method} {c : Code} {A : Nat → Prop} {dC : Nat → ClassId} {dI : Nat → Nat → Nat} {cI cZ cJ : ClassId} {Qc : Array Value → State → Outcome → State → Prop} {free : Addr → Prop}  (p0 : Int32) (p1 : Int32) (p2 : Int32) (Z : Sum Nat (Unit)) (htr : l.stackTraces = false) (hX : TX A s s.heap) (hout : c.exceptionTable.toList = []) (hlocks : meth.locks = false) (hx : p.tables.exec = Jvm.exec) (hb : c.code = b_Sp_needBetween) (hml : c.maxLocals = 3) (hown : s.vm.findClass "SpaceCycles" = some m.cls) (hts : ∀ w ∈ w_Sp_needBetween, w.before args s = true) (hK : va_K (dC, dI) vwCl [(cI, .int), (cZ, .boolean), (cJ, .long)] s) (hN : NX s) (hA : ∀ q : Nat, s.heap.size ≤ q → A q)
    (hret : Z = Sum.inr () → ∀ (pc : Nat) (ls : Array Slot), decode b_Sp_needBetween pc = .ok (.return_, 1) → W p l e rm_Sp_needBetween s m args below meth c s.heap [] 0 0 (XMQ below Qc (fun E => Z = Sum.inl (xk E)) args s free) (F0 m pc ls []))
    (hm : m_Sp_needBetween p0 p1 p2 = some Z) (hP : va_P (dC, dI) vwCl (wl_Sp_needBetween) s.heap) (hD : va_D A (wl_Sp_needBetween)) (hS : va_S A s.heap s.heap []) : ∀ ls : Array Slot, lv_has ls 3 [(0, .int p0), (1, .int p1), (2, .int p2)] → W p l e rm_Sp_needBetween s m args below meth c s.heap [] 0 0 (XMQ below Qc (fun E => Z = Sum.inl (xk E)) args s free) (F0 m 0 ls []) := by
  intro ls hl
  unfold m_Sp_needBetween at hm
  refine lv_iload_n hx hb d_Sp_needBetween_0 rfl (lv_at hl 0 rfl) ?_
  refine lv_iload_n hx hb d_Sp_needBetween_1 rfl (lv_at hl 1 rfl) ?_
  refine lv_icmp_lt (tgt := 10) hx hb d_Sp_needBetween_2 (by decide) (fun c1 => ?_) (fun c1 => ?_)
  · replace hm := if_t hm c1
    cases hm
    obtain ⟨sa, hsa⟩ := hX.text 1 rfl; exact x_throw hx hb htr hown fit_IA fit_up (hts _ (in_c k_464)) (hts _ (in_c k_465)) hsa (hX.atoms hts atoms_IA) (by rw [hml]; exact hl.1) d_Sp_needBetween_10 d_Sp_needBetween_13 (Or.inr ⟨d_Sp_needBetween_14, rfl⟩) d_Sp_needBetween_17 d_Sp_needBetween_20 hout rfl (Nat.le_of_ble_eq_true rfl) (Nat.le_of_ble_eq_true rfl) (Nat.le_of_ble_eq_true rfl) (Nat.le_of_ble_eq_true rfl) hlocks
  · replace hm := if_f hm c1
    refine lv_iload_n hx hb d_Sp_needBetween_5 rfl (lv_at hl 0 rfl) ?_
    refine lv_iload_n hx hb d_Sp_needBetween_6 rfl (lv_at hl 2 rfl) ?_
    refine lv_icmp_le (tgt := 21) hx hb d_Sp_needBetween_7 (by decide) (fun c2 => ?_) (fun c2 => ?_)
    · replace hm := if_t hm c2
      cases hm
      exact hret rfl _ ls d_Sp_needBetween_21
    · replace hm := if_f hm c2
      cases hm
      obtain ⟨sa, hsa⟩ := hX.text 1 rfl; exact x_throw hx hb htr hown fit_IA fit_up (hts _ (in_c k_464)) (hts _ (in_c k_465)) hsa (hX.atoms hts atoms_IA) (by rw [hml]; exact hl.1) d_Sp_needBetween_10 d_Sp_needBetween_13 (Or.inr ⟨d_Sp_needBetween_14, rfl⟩) d_Sp_needBetween_17 d_Sp_needBetween_20 hout rfl (Nat.le_of_ble_eq_true rfl) (Nat.le_of_ble_eq_true rfl) (Nat.le_of_ble_eq_true rfl) (Nat.le_of_ble_eq_true rfl) hlocks
set_option maxHeartbeats 4000000 in
set_option maxRecDepth 100000 in
theorem c_Sp_needBetween (l : Launch) (htr : l.stackTraces = false) (dC : Nat → ClassId) (dI : Nat → Nat → Nat) {cI cZ cJ : ClassId} (sz : Nat)  (p0 : Int32) (p1 : Int32) (p2 : Int32) (Z : Sum Nat (Unit)) (hm : m_Sp_needBetween p0 p1 p2 = some Z) : XMet l y_Sp_needBetween w_Sp_needBetween rm_Sp_needBetween (PPX dC dI [(cI, .int), (cZ, .boolean), (cJ, .long)] [.int p0, .int p1, .int p2] sz (wl_Sp_needBetween)) (va_Qv (fun (_ : Unit) => Z = Sum.inr ()) (fun _ _ => True) (fun _ => False)) (fun E => Z = Sum.inl (xk E)) (fun _ => False) := by
  refine XMet.ofW (cc := b_Sp_needBetween) (maxL := 3) (ret := none) (by decide) rfl ?_
  intro p e s m args below meth c s₁ B hml hout hv
  obtain ⟨rfl, hsz, hP, hK, hD0, hN, hX⟩ := hv
  subst hsz
  have hl := lv_entry ([.int p0, .int p1, .int p2]) (n := 3) (Nat.le_of_ble_eq_true rfl)
  rw [lg_entry_eq]
  generalize (lg_sl ([.int p0, .int p1, .int p2]) ++ List.replicate (3 - (lg_sl ([.int p0, .int p1, .int p2])).length) Slot.unset).toArray = ls at hl ⊢
  exact t_Sp_needBetween (A := va_A (wl_Sp_needBetween) s.heap.size) p0 p1 p2 Z htr hX hout B.notSynchronized B.exec B.bytes hml (findClass_of_methodNamed B.named) (atoms_spec (ws := w_Sp_needBetween) B.pre) hK hN (fun q h => Or.inr h) (fun hz pc ls hd => x_ret (W.vret B.exec B.bytes B.returns (fun t ht hW => ⟨⟨(), rfl, hz, trivial⟩, by rw [ht]; exact Nat.le_refl _, fun q _ _ => by rw [ht]⟩) (fun q h => by cases h) hd)) hm hP hD0.self va_S.rf ls hl

theorem k_466 : ((.fieldLink "SpaceCycles" 12 "SpaceCycles" "lines" "LSpaceCycles$Lines;") : Cond) ∈ gl := gl_i 322 (by decide +kernel) (by decide +kernel)
theorem k_467 : ((.fieldLink "SpaceCycles" 97 "SpaceCycles$Lines" "count" "I") : Cond) ∈ gl := gl_i 76 (by decide +kernel) (by decide +kernel)
-- SpaceCycles.needLine(I)V: may throw
abbrev b_Sp_needLine : ByteArray := prog_1_method_21_code
abbrev y_Sp_needLine : MethodName := ⟨"SpaceCycles", "needLine", "(I)V"⟩
abbrev w_Sp_needLine : List Cond := Cond.code y_Sp_needLine b_Sp_needLine 2 none :: gl
abbrev rm_Sp_needLine : Room := { frames := 8, cells := 1, slots := 6, locals := 200 }
theorem d_Sp_needLine_0 : decode b_Sp_needLine 0 = .ok (.iload_n 1, 1) := by decide +kernel
theorem d_Sp_needLine_1 : decode b_Sp_needLine 1 = .ok (.ifCond .lt 14, 3) := by decide +kernel
theorem d_Sp_needLine_4 : decode b_Sp_needLine 4 = .ok (.iload_n 1, 1) := by decide +kernel
theorem d_Sp_needLine_5 : decode b_Sp_needLine 5 = .ok (.aload_n 0, 1) := by decide +kernel
theorem d_Sp_needLine_6 : decode b_Sp_needLine 6 = .ok (.getfield 12, 3) := by decide +kernel
theorem d_Sp_needLine_9 : decode b_Sp_needLine 9 = .ok (.getfield 97, 3) := by decide +kernel
theorem d_Sp_needLine_12 : decode b_Sp_needLine 12 = .ok (.if_icmp .lt 14, 3) := by decide +kernel
theorem d_Sp_needLine_15 : decode b_Sp_needLine 15 = .ok (.new 88, 3) := by decide +kernel
theorem d_Sp_needLine_18 : decode b_Sp_needLine 18 = .ok (.dup, 1) := by decide +kernel
theorem d_Sp_needLine_19 : decode b_Sp_needLine 19 = .ok (.ldc_w 296, 3) := by decide +kernel
theorem d_Sp_needLine_22 : decode b_Sp_needLine 22 = .ok (.invokespecial 92, 3) := by decide +kernel
theorem d_Sp_needLine_25 : decode b_Sp_needLine 25 = .ok (.athrow, 1) := by decide +kernel
theorem d_Sp_needLine_26 : decode b_Sp_needLine 26 = .ok (.return_, 1) := by decide +kernel
abbrev wl_Sp_needLine (a_0 : Nat) (a_0_lines : Nat) (b_0_flood : Nat) (b_0_net : Nat) (b_0_loops : Nat) (b_0_common : Nat) (b_0_names : Nat) (b_0_ways : Nat) (b_0_marked : Nat) (b_0_lines_lowX : Nat) (b_0_lines_lowY : Nat) (b_0_lines_highX : Nat) (b_0_lines_highY : Nat) (b_0_lines_thickness : Nat) (b_0_lines_doors : Nat) (b_0_lines_doorFrom : Nat) (b_0_lines_doorTo : Nat) (r_0_now : Nat) (r_0_before : Nat) (v_0_runs : Int32) (v_0_stale : Int32) (v_0_lines_count : Int32) : va_W := [(a_0, .inr (0, [.ref a_0_lines, .ref b_0_flood, .ref b_0_net, .ref b_0_loops, .ref b_0_common, .ref b_0_names, .ref b_0_ways, .ref b_0_marked, .ref r_0_now, .ref r_0_before, .int v_0_runs, .int v_0_stale])), (a_0_lines, .inr (1, [.ref b_0_lines_lowX, .ref b_0_lines_lowY, .ref b_0_lines_highX, .ref b_0_lines_highY, .ref b_0_lines_thickness, .ref b_0_lines_doors, .ref b_0_lines_doorFrom, .ref b_0_lines_doorTo, .int v_0_lines_count]))]
def m_Sp_needLine (p1 : Int32) (v_0_lines_count : Int32) : Option (Sum Nat (Unit)) :=
  if p1 < 0 then (
    some (Sum.inl 1))
  else (
    if p1 < v_0_lines_count then (
      some (Sum.inr ()))
    else (
      some (Sum.inl 1)))

set_option maxHeartbeats 4000000 in
set_option maxRecDepth 100000 in
theorem t_Sp_needLine {p : Program} {l : Launch} {e : Env} {s : State} {m : MethodId} {args : Array Value} {below : List Frame} {meth : Method} {c : Code} {A : Nat → Prop} {dC : Nat → ClassId} {dI : Nat → Nat → Nat} {cI cZ cJ : ClassId} {Qc : Array Value → State → Outcome → State → Prop} {free : Addr → Prop} (a_0 a_0_lines b_0_flood b_0_net b_0_loops b_0_common b_0_names b_0_ways b_0_marked b_0_lines_lowX b_0_lines_lowY b_0_lines_highX b_0_lines_highY b_0_lines_thickness b_0_lines_doors b_0_lines_doorFrom b_0_lines_doorTo : Nat) (r_0_now : Nat) (r_0_before : Nat) (v_0_runs : Int32) (v_0_stale : Int32) (v_0_lines_count : Int32) (p1 : Int32) (Z : Sum Nat (Unit)) (htr : l.stackTraces = false) (hX : TX A s s.heap) (hout : c.exceptionTable.toList = []) (hlocks : meth.locks = false) (hx : p.tables.exec = Jvm.exec) (hb : c.code = b_Sp_needLine) (hml : c.maxLocals = 2) (hown : s.vm.findClass "SpaceCycles" = some m.cls) (hts : ∀ w ∈ w_Sp_needLine, w.before args s = true) (hK : va_K (dC, dI) vwCl [(cI, .int), (cZ, .boolean), (cJ, .long)] s) (hN : NX s) (hA : ∀ q : Nat, s.heap.size ≤ q → A q)
    (hret : Z = Sum.inr () → ∀ (pc : Nat) (ls : Array Slot), decode b_Sp_needLine pc = .ok (.return_, 1) → W p l e rm_Sp_needLine s m args below meth c s.heap [] 0 0 (XMQ below Qc (fun E => Z = Sum.inl (xk E)) args s free) (F0 m pc ls []))
    (hm : m_Sp_needLine p1 v_0_lines_count = some Z) (hP : va_P (dC, dI) vwCl (wl_Sp_needLine a_0 a_0_lines b_0_flood b_0_net b_0_loops b_0_common b_0_names b_0_ways b_0_marked b_0_lines_lowX b_0_lines_lowY b_0_lines_highX b_0_lines_highY b_0_lines_thickness b_0_lines_doors b_0_lines_doorFrom b_0_lines_doorTo r_0_now r_0_before v_0_runs v_0_stale v_0_lines_count) s.heap) (hD : va_D A (wl_Sp_needLine a_0 a_0_lines b_0_flood b_0_net b_0_loops b_0_common b_0_names b_0_ways b_0_marked b_0_lines_lowX b_0_lines_lowY b_0_lines_highX b_0_lines_highY b_0_lines_thickness b_0_lines_doors b_0_lines_doorFrom b_0_lines_doorTo r_0_now r_0_before v_0_runs v_0_stale v_0_lines_count)) (hS : va_S A s.heap s.heap []) : ∀ ls : Array Slot, lv_has ls 2 [(0, .ref a_0), (1, .int p1)] → W p l e rm_Sp_needLine s m args below meth c s.heap [] 0 0 (XMQ below Qc (fun E => Z = Sum.inl (xk E)) args s free) (F0 m 0 ls []) := by
  intro ls hl
  unfold m_Sp_needLine at hm
  refine lv_iload_n hx hb d_Sp_needLine_0 rfl (lv_at hl 1 rfl) ?_
  refine lv_if_lt (tgt := 15) hx hb d_Sp_needLine_1 (by decide) (fun c1 => ?_) (fun c1 => ?_)
  · replace hm := if_t hm c1
    cases hm
    obtain ⟨sa, hsa⟩ := hX.text 5 rfl; exact x_throw hx hb htr hown fit_IA fit_up (hts _ (in_c k_464)) (hts _ (in_c k_465)) hsa (hX.atoms hts atoms_IA) (by rw [hml]; exact hl.1) d_Sp_needLine_15 d_Sp_needLine_18 (Or.inr ⟨d_Sp_needLine_19, rfl⟩) d_Sp_needLine_22 d_Sp_needLine_25 hout rfl (Nat.le_of_ble_eq_true rfl) (Nat.le_of_ble_eq_true rfl) (Nat.le_of_ble_eq_true rfl) (Nat.le_of_ble_eq_true rfl) hlocks
  · replace hm := if_f hm c1
    refine lv_iload_n hx hb d_Sp_needLine_4 rfl (lv_at hl 1 rfl) ?_
    refine lv_aload_n hx hb d_Sp_needLine_5 rfl (lv_at hl 0 rfl) ?_
    refine va_get (D := (dC, dI)) (ci := 0) (v := .ref a_0_lines) (C := "SpaceCycles") (T := F_Sp) (N := 12) hx hb hts (in_F i_Sp) hown hK hP 0 rfl rfl 0 (by decide) (hts _ (in_c k_466)) (fun _ h9 => h9) rfl d_Sp_needLine_6 ?_
    refine va_get (D := (dC, dI)) (ci := 1) (v := .int v_0_lines_count) (C := "SpaceCycles$Lines") (T := F_Li) (N := 9) hx hb hts (in_F i_Li) hown hK hP 1 rfl rfl 8 (by decide) (hts _ (in_c k_467)) (fun _ h9 => h9) rfl d_Sp_needLine_9 ?_
    refine lv_icmp_lt (tgt := 26) hx hb d_Sp_needLine_12 (by decide) (fun c2 => ?_) (fun c2 => ?_)
    · replace hm := if_t hm c2
      cases hm
      exact hret rfl _ ls d_Sp_needLine_26
    · replace hm := if_f hm c2
      cases hm
      obtain ⟨sa, hsa⟩ := hX.text 5 rfl; exact x_throw hx hb htr hown fit_IA fit_up (hts _ (in_c k_464)) (hts _ (in_c k_465)) hsa (hX.atoms hts atoms_IA) (by rw [hml]; exact hl.1) d_Sp_needLine_15 d_Sp_needLine_18 (Or.inr ⟨d_Sp_needLine_19, rfl⟩) d_Sp_needLine_22 d_Sp_needLine_25 hout rfl (Nat.le_of_ble_eq_true rfl) (Nat.le_of_ble_eq_true rfl) (Nat.le_of_ble_eq_true rfl) (Nat.le_of_ble_eq_true rfl) hlocks
set_option maxHeartbeats 4000000 in
set_option maxRecDepth 100000 in
theorem c_Sp_needLine (l : Launch) (htr : l.stackTraces = false) (dC : Nat → ClassId) (dI : Nat → Nat → Nat) {cI cZ cJ : ClassId} (a_0 a_0_lines b_0_flood b_0_net b_0_loops b_0_common b_0_names b_0_ways b_0_marked b_0_lines_lowX b_0_lines_lowY b_0_lines_highX b_0_lines_highY b_0_lines_thickness b_0_lines_doors b_0_lines_doorFrom b_0_lines_doorTo : Nat) (sz : Nat) (r_0_now : Nat) (r_0_before : Nat) (v_0_runs : Int32) (v_0_stale : Int32) (v_0_lines_count : Int32) (p1 : Int32) (Z : Sum Nat (Unit)) (hm : m_Sp_needLine p1 v_0_lines_count = some Z) : XMet l y_Sp_needLine w_Sp_needLine rm_Sp_needLine (PPX dC dI [(cI, .int), (cZ, .boolean), (cJ, .long)] [.ref a_0, .int p1] sz (wl_Sp_needLine a_0 a_0_lines b_0_flood b_0_net b_0_loops b_0_common b_0_names b_0_ways b_0_marked b_0_lines_lowX b_0_lines_lowY b_0_lines_highX b_0_lines_highY b_0_lines_thickness b_0_lines_doors b_0_lines_doorFrom b_0_lines_doorTo r_0_now r_0_before v_0_runs v_0_stale v_0_lines_count)) (va_Qv (fun (_ : Unit) => Z = Sum.inr ()) (fun _ _ => True) (fun _ => False)) (fun E => Z = Sum.inl (xk E)) (fun _ => False) := by
  refine XMet.ofW (cc := b_Sp_needLine) (maxL := 2) (ret := none) (by decide) rfl ?_
  intro p e s m args below meth c s₁ B hml hout hv
  obtain ⟨rfl, hsz, hP, hK, hD0, hN, hX⟩ := hv
  subst hsz
  have hl := lv_entry ([.ref a_0, .int p1]) (n := 2) (Nat.le_of_ble_eq_true rfl)
  rw [lg_entry_eq]
  generalize (lg_sl ([.ref a_0, .int p1]) ++ List.replicate (2 - (lg_sl ([.ref a_0, .int p1])).length) Slot.unset).toArray = ls at hl ⊢
  exact t_Sp_needLine (A := va_A (wl_Sp_needLine a_0 a_0_lines b_0_flood b_0_net b_0_loops b_0_common b_0_names b_0_ways b_0_marked b_0_lines_lowX b_0_lines_lowY b_0_lines_highX b_0_lines_highY b_0_lines_thickness b_0_lines_doors b_0_lines_doorFrom b_0_lines_doorTo r_0_now r_0_before v_0_runs v_0_stale v_0_lines_count) s.heap.size) a_0 a_0_lines b_0_flood b_0_net b_0_loops b_0_common b_0_names b_0_ways b_0_marked b_0_lines_lowX b_0_lines_lowY b_0_lines_highX b_0_lines_highY b_0_lines_thickness b_0_lines_doors b_0_lines_doorFrom b_0_lines_doorTo r_0_now r_0_before v_0_runs v_0_stale v_0_lines_count p1 Z htr hX hout B.notSynchronized B.exec B.bytes hml (findClass_of_methodNamed B.named) (atoms_spec (ws := w_Sp_needLine) B.pre) hK hN (fun q h => Or.inr h) (fun hz pc ls hd => x_ret (W.vret B.exec B.bytes B.returns (fun t ht hW => ⟨⟨(), rfl, hz, trivial⟩, by rw [ht]; exact Nat.le_refl _, fun q _ _ => by rw [ht]⟩) (fun q h => by cases h) hd)) hm hP hD0.self va_S.rf ls hl

theorem k_468 : ((.fieldLink "SpaceCycles" 76 "SpaceCycles" "stale" "Z") : Cond) ∈ gl := gl_i 333 (by decide +kernel) (by decide +kernel)
theorem k_469 : ((.classLink "SpaceCycles" 100 "java/lang/IllegalStateException") : Cond) ∈ gl := gl_i 445 (by decide +kernel) (by decide +kernel)
theorem k_470 : ((.initialized "java/lang/IllegalStateException") : Cond) ∈ gl := gl_i 17 (by decide +kernel) (by decide +kernel)
-- SpaceCycles.needFreshRun()V: may throw
abbrev b_Sp_needFreshRun : ByteArray := prog_1_method_25_code
abbrev y_Sp_needFreshRun : MethodName := ⟨"SpaceCycles", "needFreshRun", "()V"⟩
abbrev w_Sp_needFreshRun : List Cond := Cond.code y_Sp_needFreshRun b_Sp_needFreshRun 1 none :: gl
abbrev rm_Sp_needFreshRun : Room := { frames := 8, cells := 1, slots := 6, locals := 200 }
theorem d_Sp_needFreshRun_0 : decode b_Sp_needFreshRun 0 = .ok (.aload_n 0, 1) := by decide +kernel
theorem d_Sp_needFreshRun_1 : decode b_Sp_needFreshRun 1 = .ok (.getfield 76, 3) := by decide +kernel
theorem d_Sp_needFreshRun_4 : decode b_Sp_needFreshRun 4 = .ok (.ifCond .eq 14, 3) := by decide +kernel
theorem d_Sp_needFreshRun_7 : decode b_Sp_needFreshRun 7 = .ok (.new 100, 3) := by decide +kernel
theorem d_Sp_needFreshRun_10 : decode b_Sp_needFreshRun 10 = .ok (.dup, 1) := by decide +kernel
theorem d_Sp_needFreshRun_11 : decode b_Sp_needFreshRun 11 = .ok (.ldc_w 304, 3) := by decide +kernel
theorem d_Sp_needFreshRun_14 : decode b_Sp_needFreshRun 14 = .ok (.invokespecial 104, 3) := by decide +kernel
theorem d_Sp_needFreshRun_17 : decode b_Sp_needFreshRun 17 = .ok (.athrow, 1) := by decide +kernel
theorem d_Sp_needFreshRun_18 : decode b_Sp_needFreshRun 18 = .ok (.return_, 1) := by decide +kernel
abbrev wl_Sp_needFreshRun (a_0 : Nat) (b_0_lines : Nat) (b_0_flood : Nat) (b_0_net : Nat) (b_0_loops : Nat) (b_0_common : Nat) (b_0_names : Nat) (b_0_ways : Nat) (b_0_marked : Nat) (r_0_now : Nat) (r_0_before : Nat) (v_0_runs : Int32) (v_0_stale : Int32) : va_W := [(a_0, .inr (0, [.ref b_0_lines, .ref b_0_flood, .ref b_0_net, .ref b_0_loops, .ref b_0_common, .ref b_0_names, .ref b_0_ways, .ref b_0_marked, .ref r_0_now, .ref r_0_before, .int v_0_runs, .int v_0_stale]))]
def m_Sp_needFreshRun (v_0_stale : Int32) : Option (Sum Nat (Unit)) :=
  if v_0_stale = 0 then (
    some (Sum.inr ()))
  else (
    some (Sum.inl 2))

set_option maxHeartbeats 4000000 in
set_option maxRecDepth 100000 in
theorem t_Sp_needFreshRun {p : Program} {l : Launch} {e : Env} {s : State} {m : MethodId} {args : Array Value} {below : List Frame} {meth : Method} {c : Code} {A : Nat → Prop} {dC : Nat → ClassId} {dI : Nat → Nat → Nat} {cI cZ cJ : ClassId} {Qc : Array Value → State → Outcome → State → Prop} {free : Addr → Prop} (a_0 b_0_lines b_0_flood b_0_net b_0_loops b_0_common b_0_names b_0_ways b_0_marked : Nat) (r_0_now : Nat) (r_0_before : Nat) (v_0_runs : Int32) (v_0_stale : Int32)  (Z : Sum Nat (Unit)) (htr : l.stackTraces = false) (hX : TX A s s.heap) (hout : c.exceptionTable.toList = []) (hlocks : meth.locks = false) (hx : p.tables.exec = Jvm.exec) (hb : c.code = b_Sp_needFreshRun) (hml : c.maxLocals = 1) (hown : s.vm.findClass "SpaceCycles" = some m.cls) (hts : ∀ w ∈ w_Sp_needFreshRun, w.before args s = true) (hK : va_K (dC, dI) vwCl [(cI, .int), (cZ, .boolean), (cJ, .long)] s) (hN : NX s) (hA : ∀ q : Nat, s.heap.size ≤ q → A q)
    (hret : Z = Sum.inr () → ∀ (pc : Nat) (ls : Array Slot), decode b_Sp_needFreshRun pc = .ok (.return_, 1) → W p l e rm_Sp_needFreshRun s m args below meth c s.heap [] 0 0 (XMQ below Qc (fun E => Z = Sum.inl (xk E)) args s free) (F0 m pc ls []))
    (hm : m_Sp_needFreshRun v_0_stale = some Z) (hP : va_P (dC, dI) vwCl (wl_Sp_needFreshRun a_0 b_0_lines b_0_flood b_0_net b_0_loops b_0_common b_0_names b_0_ways b_0_marked r_0_now r_0_before v_0_runs v_0_stale) s.heap) (hD : va_D A (wl_Sp_needFreshRun a_0 b_0_lines b_0_flood b_0_net b_0_loops b_0_common b_0_names b_0_ways b_0_marked r_0_now r_0_before v_0_runs v_0_stale)) (hS : va_S A s.heap s.heap []) : ∀ ls : Array Slot, lv_has ls 1 [(0, .ref a_0)] → W p l e rm_Sp_needFreshRun s m args below meth c s.heap [] 0 0 (XMQ below Qc (fun E => Z = Sum.inl (xk E)) args s free) (F0 m 0 ls []) := by
  intro ls hl
  unfold m_Sp_needFreshRun at hm
  refine lv_aload_n hx hb d_Sp_needFreshRun_0 rfl (lv_at hl 0 rfl) ?_
  refine va_get (D := (dC, dI)) (ci := 0) (v := .int v_0_stale) (C := "SpaceCycles") (T := F_Sp) (N := 12) hx hb hts (in_F i_Sp) hown hK hP 0 rfl rfl 11 (by decide) (hts _ (in_c k_468)) (fun _ h9 => h9) rfl d_Sp_needFreshRun_1 ?_
  refine lv_if_eq (tgt := 18) hx hb d_Sp_needFreshRun_4 (by decide) (fun c1 => ?_) (fun c1 => ?_)
  · replace hm := if_t hm c1
    cases hm
    exact hret rfl _ ls d_Sp_needFreshRun_18
  · replace hm := if_f hm c1
    cases hm
    obtain ⟨sa, hsa⟩ := hX.text 9 rfl; exact x_throw hx hb htr hown fit_IS fit_up (hts _ (in_c k_469)) (hts _ (in_c k_470)) hsa (hX.atoms hts atoms_IS) (by rw [hml]; exact hl.1) d_Sp_needFreshRun_7 d_Sp_needFreshRun_10 (Or.inr ⟨d_Sp_needFreshRun_11, rfl⟩) d_Sp_needFreshRun_14 d_Sp_needFreshRun_17 hout rfl (Nat.le_of_ble_eq_true rfl) (Nat.le_of_ble_eq_true rfl) (Nat.le_of_ble_eq_true rfl) (Nat.le_of_ble_eq_true rfl) hlocks
set_option maxHeartbeats 4000000 in
set_option maxRecDepth 100000 in
theorem c_Sp_needFreshRun (l : Launch) (htr : l.stackTraces = false) (dC : Nat → ClassId) (dI : Nat → Nat → Nat) {cI cZ cJ : ClassId} (a_0 b_0_lines b_0_flood b_0_net b_0_loops b_0_common b_0_names b_0_ways b_0_marked : Nat) (sz : Nat) (r_0_now : Nat) (r_0_before : Nat) (v_0_runs : Int32) (v_0_stale : Int32)  (Z : Sum Nat (Unit)) (hm : m_Sp_needFreshRun v_0_stale = some Z) : XMet l y_Sp_needFreshRun w_Sp_needFreshRun rm_Sp_needFreshRun (PPX dC dI [(cI, .int), (cZ, .boolean), (cJ, .long)] [.ref a_0] sz (wl_Sp_needFreshRun a_0 b_0_lines b_0_flood b_0_net b_0_loops b_0_common b_0_names b_0_ways b_0_marked r_0_now r_0_before v_0_runs v_0_stale)) (va_Qv (fun (_ : Unit) => Z = Sum.inr ()) (fun _ _ => True) (fun _ => False)) (fun E => Z = Sum.inl (xk E)) (fun _ => False) := by
  refine XMet.ofW (cc := b_Sp_needFreshRun) (maxL := 1) (ret := none) (by decide) rfl ?_
  intro p e s m args below meth c s₁ B hml hout hv
  obtain ⟨rfl, hsz, hP, hK, hD0, hN, hX⟩ := hv
  subst hsz
  have hl := lv_entry ([.ref a_0]) (n := 1) (Nat.le_of_ble_eq_true rfl)
  rw [lg_entry_eq]
  generalize (lg_sl ([.ref a_0]) ++ List.replicate (1 - (lg_sl ([.ref a_0])).length) Slot.unset).toArray = ls at hl ⊢
  exact t_Sp_needFreshRun (A := va_A (wl_Sp_needFreshRun a_0 b_0_lines b_0_flood b_0_net b_0_loops b_0_common b_0_names b_0_ways b_0_marked r_0_now r_0_before v_0_runs v_0_stale) s.heap.size) a_0 b_0_lines b_0_flood b_0_net b_0_loops b_0_common b_0_names b_0_ways b_0_marked r_0_now r_0_before v_0_runs v_0_stale Z htr hX hout B.notSynchronized B.exec B.bytes hml (findClass_of_methodNamed B.named) (atoms_spec (ws := w_Sp_needFreshRun) B.pre) hK hN (fun q h => Or.inr h) (fun hz pc ls hd => x_ret (W.vret B.exec B.bytes B.returns (fun t ht hW => ⟨⟨(), rfl, hz, trivial⟩, by rw [ht]; exact Nat.le_refl _, fun q _ _ => by rw [ht]⟩) (fun q h => by cases h) hd)) hm hP hD0.self va_S.rf ls hl

theorem k_471 : ((.fieldLink "SpaceCycles" 65 "SpaceCycles" "now" "LSpaceCycles$Grid;") : Cond) ∈ gl := gl_i 330 (by decide +kernel) (by decide +kernel)
theorem k_472 : ((.fieldLink "SpaceCycles" 181 "SpaceCycles$Grid" "spaces" "I") : Cond) ∈ gl := gl_i 312 (by decide +kernel) (by decide +kernel)
-- SpaceCycles.needSpace(I)V: may throw
abbrev b_Sp_needSpace : ByteArray := prog_1_method_22_code
abbrev y_Sp_needSpace : MethodName := ⟨"SpaceCycles", "needSpace", "(I)V"⟩
abbrev w_Sp_needSpace : List Cond := Cond.code y_Sp_needSpace b_Sp_needSpace 2 none :: gl
abbrev rm_Sp_needSpace : Room := { frames := 8, cells := 1, slots := 6, locals := 200 }
theorem d_Sp_needSpace_0 : decode b_Sp_needSpace 0 = .ok (.iload_n 1, 1) := by decide +kernel
theorem d_Sp_needSpace_1 : decode b_Sp_needSpace 1 = .ok (.ifCond .lt 14, 3) := by decide +kernel
theorem d_Sp_needSpace_4 : decode b_Sp_needSpace 4 = .ok (.iload_n 1, 1) := by decide +kernel
theorem d_Sp_needSpace_5 : decode b_Sp_needSpace 5 = .ok (.aload_n 0, 1) := by decide +kernel
theorem d_Sp_needSpace_6 : decode b_Sp_needSpace 6 = .ok (.getfield 65, 3) := by decide +kernel
theorem d_Sp_needSpace_9 : decode b_Sp_needSpace 9 = .ok (.getfield 181, 3) := by decide +kernel
theorem d_Sp_needSpace_12 : decode b_Sp_needSpace 12 = .ok (.if_icmp .lt 14, 3) := by decide +kernel
theorem d_Sp_needSpace_15 : decode b_Sp_needSpace 15 = .ok (.new 88, 3) := by decide +kernel
theorem d_Sp_needSpace_18 : decode b_Sp_needSpace 18 = .ok (.dup, 1) := by decide +kernel
theorem d_Sp_needSpace_19 : decode b_Sp_needSpace 19 = .ok (.ldc_w 298, 3) := by decide +kernel
theorem d_Sp_needSpace_22 : decode b_Sp_needSpace 22 = .ok (.invokespecial 92, 3) := by decide +kernel
theorem d_Sp_needSpace_25 : decode b_Sp_needSpace 25 = .ok (.athrow, 1) := by decide +kernel
theorem d_Sp_needSpace_26 : decode b_Sp_needSpace 26 = .ok (.return_, 1) := by decide +kernel
abbrev wl_Sp_needSpace (a_0 : Nat) (a_0_now : Nat) (b_0_lines : Nat) (b_0_flood : Nat) (b_0_net : Nat) (b_0_loops : Nat) (b_0_common : Nat) (b_0_names : Nat) (b_0_ways : Nat) (b_0_marked : Nat) (b_0_now_xs : Nat) (b_0_now_ys : Nat) (b_0_now_cells : Nat) (r_0_now : Nat) (r_0_before : Nat) (v_0_runs : Int32) (v_0_stale : Int32) (v_0_now_spaces : Int32) : va_W := [(a_0, .inr (0, [.ref b_0_lines, .ref b_0_flood, .ref b_0_net, .ref b_0_loops, .ref b_0_common, .ref b_0_names, .ref b_0_ways, .ref b_0_marked, .ref r_0_now, .ref r_0_before, .int v_0_runs, .int v_0_stale])), (a_0_now, .inr (8, [.ref b_0_now_xs, .ref b_0_now_ys, .ref b_0_now_cells, .int v_0_now_spaces]))]
def m_Sp_needSpace (p1 : Int32) (v_0_now_spaces : Int32) : Option (Sum Nat (Unit)) :=
  if p1 < 0 then (
    some (Sum.inl 1))
  else (
    if p1 < v_0_now_spaces then (
      some (Sum.inr ()))
    else (
      some (Sum.inl 1)))

set_option maxHeartbeats 4000000 in
set_option maxRecDepth 100000 in
theorem t_Sp_needSpace {p : Program} {l : Launch} {e : Env} {s : State} {m : MethodId} {args : Array Value} {below : List Frame} {meth : Method} {c : Code} {A : Nat → Prop} {dC : Nat → ClassId} {dI : Nat → Nat → Nat} {cI cZ cJ : ClassId} {Qc : Array Value → State → Outcome → State → Prop} {free : Addr → Prop} (a_0 a_0_now b_0_lines b_0_flood b_0_net b_0_loops b_0_common b_0_names b_0_ways b_0_marked b_0_now_xs b_0_now_ys b_0_now_cells : Nat) (r_0_before : Nat) (v_0_runs : Int32) (v_0_stale : Int32) (v_0_now_spaces : Int32) (p1 : Int32) (Z : Sum Nat (Unit)) (htr : l.stackTraces = false) (hX : TX A s s.heap) (hout : c.exceptionTable.toList = []) (hlocks : meth.locks = false) (hx : p.tables.exec = Jvm.exec) (hb : c.code = b_Sp_needSpace) (hml : c.maxLocals = 2) (hown : s.vm.findClass "SpaceCycles" = some m.cls) (hts : ∀ w ∈ w_Sp_needSpace, w.before args s = true) (hK : va_K (dC, dI) vwCl [(cI, .int), (cZ, .boolean), (cJ, .long)] s) (hN : NX s) (hA : ∀ q : Nat, s.heap.size ≤ q → A q)
    (hret : Z = Sum.inr () → ∀ (pc : Nat) (ls : Array Slot), decode b_Sp_needSpace pc = .ok (.return_, 1) → W p l e rm_Sp_needSpace s m args below meth c s.heap [] 0 0 (XMQ below Qc (fun E => Z = Sum.inl (xk E)) args s free) (F0 m pc ls []))
    (hm : m_Sp_needSpace p1 v_0_now_spaces = some Z) (hP : va_P (dC, dI) vwCl (wl_Sp_needSpace a_0 a_0_now b_0_lines b_0_flood b_0_net b_0_loops b_0_common b_0_names b_0_ways b_0_marked b_0_now_xs b_0_now_ys b_0_now_cells a_0_now r_0_before v_0_runs v_0_stale v_0_now_spaces) s.heap) (hD : va_D A (wl_Sp_needSpace a_0 a_0_now b_0_lines b_0_flood b_0_net b_0_loops b_0_common b_0_names b_0_ways b_0_marked b_0_now_xs b_0_now_ys b_0_now_cells a_0_now r_0_before v_0_runs v_0_stale v_0_now_spaces)) (hS : va_S A s.heap s.heap []) : ∀ ls : Array Slot, lv_has ls 2 [(0, .ref a_0), (1, .int p1)] → W p l e rm_Sp_needSpace s m args below meth c s.heap [] 0 0 (XMQ below Qc (fun E => Z = Sum.inl (xk E)) args s free) (F0 m 0 ls []) := by
  intro ls hl
  unfold m_Sp_needSpace at hm
  refine lv_iload_n hx hb d_Sp_needSpace_0 rfl (lv_at hl 1 rfl) ?_
  refine lv_if_lt (tgt := 15) hx hb d_Sp_needSpace_1 (by decide) (fun c1 => ?_) (fun c1 => ?_)
  · replace hm := if_t hm c1
    cases hm
    obtain ⟨sa, hsa⟩ := hX.text 10 rfl; exact x_throw hx hb htr hown fit_IA fit_up (hts _ (in_c k_464)) (hts _ (in_c k_465)) hsa (hX.atoms hts atoms_IA) (by rw [hml]; exact hl.1) d_Sp_needSpace_15 d_Sp_needSpace_18 (Or.inr ⟨d_Sp_needSpace_19, rfl⟩) d_Sp_needSpace_22 d_Sp_needSpace_25 hout rfl (Nat.le_of_ble_eq_true rfl) (Nat.le_of_ble_eq_true rfl) (Nat.le_of_ble_eq_true rfl) (Nat.le_of_ble_eq_true rfl) hlocks
  · replace hm := if_f hm c1
    refine lv_iload_n hx hb d_Sp_needSpace_4 rfl (lv_at hl 1 rfl) ?_
    refine lv_aload_n hx hb d_Sp_needSpace_5 rfl (lv_at hl 0 rfl) ?_
    refine va_get (D := (dC, dI)) (ci := 0) (v := .ref a_0_now) (C := "SpaceCycles") (T := F_Sp) (N := 12) hx hb hts (in_F i_Sp) hown hK hP 0 rfl rfl 8 (by decide) (hts _ (in_c k_471)) (fun _ h9 => h9) rfl d_Sp_needSpace_6 ?_
    refine va_get (D := (dC, dI)) (ci := 8) (v := .int v_0_now_spaces) (C := "SpaceCycles$Grid") (T := F_Gr) (N := 4) hx hb hts (in_F i_Gr) hown hK hP 1 rfl rfl 3 (by decide) (hts _ (in_c k_472)) (fun _ h9 => h9) rfl d_Sp_needSpace_9 ?_
    refine lv_icmp_lt (tgt := 26) hx hb d_Sp_needSpace_12 (by decide) (fun c2 => ?_) (fun c2 => ?_)
    · replace hm := if_t hm c2
      cases hm
      exact hret rfl _ ls d_Sp_needSpace_26
    · replace hm := if_f hm c2
      cases hm
      obtain ⟨sa, hsa⟩ := hX.text 10 rfl; exact x_throw hx hb htr hown fit_IA fit_up (hts _ (in_c k_464)) (hts _ (in_c k_465)) hsa (hX.atoms hts atoms_IA) (by rw [hml]; exact hl.1) d_Sp_needSpace_15 d_Sp_needSpace_18 (Or.inr ⟨d_Sp_needSpace_19, rfl⟩) d_Sp_needSpace_22 d_Sp_needSpace_25 hout rfl (Nat.le_of_ble_eq_true rfl) (Nat.le_of_ble_eq_true rfl) (Nat.le_of_ble_eq_true rfl) (Nat.le_of_ble_eq_true rfl) hlocks
set_option maxHeartbeats 4000000 in
set_option maxRecDepth 100000 in
theorem c_Sp_needSpace (l : Launch) (htr : l.stackTraces = false) (dC : Nat → ClassId) (dI : Nat → Nat → Nat) {cI cZ cJ : ClassId} (a_0 a_0_now b_0_lines b_0_flood b_0_net b_0_loops b_0_common b_0_names b_0_ways b_0_marked b_0_now_xs b_0_now_ys b_0_now_cells : Nat) (sz : Nat) (r_0_before : Nat) (v_0_runs : Int32) (v_0_stale : Int32) (v_0_now_spaces : Int32) (p1 : Int32) (Z : Sum Nat (Unit)) (hm : m_Sp_needSpace p1 v_0_now_spaces = some Z) : XMet l y_Sp_needSpace w_Sp_needSpace rm_Sp_needSpace (PPX dC dI [(cI, .int), (cZ, .boolean), (cJ, .long)] [.ref a_0, .int p1] sz (wl_Sp_needSpace a_0 a_0_now b_0_lines b_0_flood b_0_net b_0_loops b_0_common b_0_names b_0_ways b_0_marked b_0_now_xs b_0_now_ys b_0_now_cells a_0_now r_0_before v_0_runs v_0_stale v_0_now_spaces)) (va_Qv (fun (_ : Unit) => Z = Sum.inr ()) (fun _ _ => True) (fun _ => False)) (fun E => Z = Sum.inl (xk E)) (fun _ => False) := by
  refine XMet.ofW (cc := b_Sp_needSpace) (maxL := 2) (ret := none) (by decide) rfl ?_
  intro p e s m args below meth c s₁ B hml hout hv
  obtain ⟨rfl, hsz, hP, hK, hD0, hN, hX⟩ := hv
  subst hsz
  have hl := lv_entry ([.ref a_0, .int p1]) (n := 2) (Nat.le_of_ble_eq_true rfl)
  rw [lg_entry_eq]
  generalize (lg_sl ([.ref a_0, .int p1]) ++ List.replicate (2 - (lg_sl ([.ref a_0, .int p1])).length) Slot.unset).toArray = ls at hl ⊢
  exact t_Sp_needSpace (A := va_A (wl_Sp_needSpace a_0 a_0_now b_0_lines b_0_flood b_0_net b_0_loops b_0_common b_0_names b_0_ways b_0_marked b_0_now_xs b_0_now_ys b_0_now_cells a_0_now r_0_before v_0_runs v_0_stale v_0_now_spaces) s.heap.size) a_0 a_0_now b_0_lines b_0_flood b_0_net b_0_loops b_0_common b_0_names b_0_ways b_0_marked b_0_now_xs b_0_now_ys b_0_now_cells r_0_before v_0_runs v_0_stale v_0_now_spaces p1 Z htr hX hout B.notSynchronized B.exec B.bytes hml (findClass_of_methodNamed B.named) (atoms_spec (ws := w_Sp_needSpace) B.pre) hK hN (fun q h => Or.inr h) (fun hz pc ls hd => x_ret (W.vret B.exec B.bytes B.returns (fun t ht hW => ⟨⟨(), rfl, hz, trivial⟩, by rw [ht]; exact Nat.le_refl _, fun q _ _ => by rw [ht]⟩) (fun q h => by cases h) hd)) hm hP hD0.self va_S.rf ls hl

theorem k_473 : ((.fieldLink "SpaceCycles" 33 "SpaceCycles" "loops" "LSpaceCycles$Rings;") : Cond) ∈ gl := gl_i 325 (by decide +kernel) (by decide +kernel)
theorem k_474 : ((.code ⟨"SpaceCycles$Rings", "find", "(II)I"⟩ prog_9_method_5_code 5 (some .int)) : Cond) ∈ gl := gl_i 938 (by decide +kernel) (by decide +kernel)
theorem k_475 : ((.selects "SpaceCycles$Rings" ⟨"SpaceCycles$Rings", "find", "(II)I"⟩ ⟨"SpaceCycles$Rings", "find", "(II)I"⟩) : Cond) ∈ gl := gl_i 937 (by decide +kernel) (by decide +kernel)
theorem k_476 : ((.instanceMethod ⟨"SpaceCycles$Rings", "find", "(II)I"⟩) : Cond) ∈ gl := gl_i 936 (by decide +kernel) (by decide +kernel)
theorem k_477 : ((.methodLink "SpaceCycles" 300 ⟨"SpaceCycles$Rings", "find", "(II)I"⟩) : Cond) ∈ gl := gl_i 935 (by decide +kernel) (by decide +kernel)
-- SpaceCycles.needRing(II)I: may throw
abbrev b_Sp_needRing : ByteArray := prog_1_method_24_code
abbrev y_Sp_needRing : MethodName := ⟨"SpaceCycles", "needRing", "(II)I"⟩
abbrev w_Sp_needRing : List Cond := Cond.code y_Sp_needRing b_Sp_needRing 4 (some .int) :: gl
abbrev rm_Sp_needRing : Room := { frames := 8, cells := 1, slots := 6, locals := 200 }
theorem d_Sp_needRing_0 : decode b_Sp_needRing 0 = .ok (.aload_n 0, 1) := by decide +kernel
theorem d_Sp_needRing_1 : decode b_Sp_needRing 1 = .ok (.getfield 33, 3) := by decide +kernel
theorem d_Sp_needRing_4 : decode b_Sp_needRing 4 = .ok (.iload_n 1, 1) := by decide +kernel
theorem d_Sp_needRing_5 : decode b_Sp_needRing 5 = .ok (.iload_n 2, 1) := by decide +kernel
theorem d_Sp_needRing_6 : decode b_Sp_needRing 6 = .ok (.invokevirtual 300, 3) := by decide +kernel
theorem d_Sp_needRing_9 : decode b_Sp_needRing 9 = .ok (.istore_n 3, 1) := by decide +kernel
theorem d_Sp_needRing_10 : decode b_Sp_needRing 10 = .ok (.iload_n 3, 1) := by decide +kernel
theorem d_Sp_needRing_11 : decode b_Sp_needRing 11 = .ok (.iconst (-1), 1) := by decide +kernel
theorem d_Sp_needRing_12 : decode b_Sp_needRing 12 = .ok (.if_icmp .ne 14, 3) := by decide +kernel
theorem d_Sp_needRing_15 : decode b_Sp_needRing 15 = .ok (.new 88, 3) := by decide +kernel
theorem d_Sp_needRing_18 : decode b_Sp_needRing 18 = .ok (.dup, 1) := by decide +kernel
theorem d_Sp_needRing_19 : decode b_Sp_needRing 19 = .ok (.ldc_w 302, 3) := by decide +kernel
theorem d_Sp_needRing_22 : decode b_Sp_needRing 22 = .ok (.invokespecial 92, 3) := by decide +kernel
theorem d_Sp_needRing_25 : decode b_Sp_needRing 25 = .ok (.athrow, 1) := by decide +kernel
theorem d_Sp_needRing_26 : decode b_Sp_needRing 26 = .ok (.iload_n 3, 1) := by decide +kernel
theorem d_Sp_needRing_27 : decode b_Sp_needRing 27 = .ok (.ireturn, 1) := by decide +kernel
abbrev wl_Sp_needRing (a_0 : Nat) (a_0_loops : Nat) (a_0_loops_spaces : Nat) (b_0_lines : Nat) (b_0_flood : Nat) (b_0_net : Nat) (b_0_common : Nat) (b_0_names : Nat) (b_0_ways : Nat) (b_0_marked : Nat) (b_0_loops_order : Nat) (b_0_loops_gone : Nat) (b_0_loops_starts : Nat) (cI : ClassId) (r_0_now : Nat) (r_0_before : Nat) (v_0_runs : Int32) (v_0_stale : Int32) (v_0_loops_count : Int32) (v_0_loops_filled : Int32) (f_0_loops_spaces : Nat → Int32) : va_W := [(a_0, .inr (0, [.ref b_0_lines, .ref b_0_flood, .ref b_0_net, .ref a_0_loops, .ref b_0_common, .ref b_0_names, .ref b_0_ways, .ref b_0_marked, .ref r_0_now, .ref r_0_before, .int v_0_runs, .int v_0_stale])), (a_0_loops, .inr (4, [.ref b_0_loops_order, .ref b_0_loops_gone, .ref b_0_loops_starts, .ref a_0_loops_spaces, .int v_0_loops_count, .int v_0_loops_filled])), (a_0_loops_spaces, .inl (cI, 220, .inl f_0_loops_spaces))]
def m_Sp_needRing (p1 : Int32) (p2 : Int32) (v_0_loops_count : Int32) (f_0_loops_spaces : Nat → Int32) : Option (Sum Nat (Int32)) :=
  bd1 (m_Ri_find p1 p2 v_0_loops_count f_0_loops_spaces) fun r1 =>
  if r1 = (-1) then (
    some (Sum.inl 1))
  else (
    some (Sum.inr r1))

set_option maxHeartbeats 4000000 in
set_option maxRecDepth 100000 in
theorem t_Sp_needRing {p : Program} {l : Launch} {e : Env} {s : State} {m : MethodId} {args : Array Value} {below : List Frame} {meth : Method} {c : Code} {A : Nat → Prop} {dC : Nat → ClassId} {dI : Nat → Nat → Nat} {cI cZ cJ : ClassId} {Qc : Array Value → State → Outcome → State → Prop} {free : Addr → Prop} (a_0 a_0_loops a_0_loops_spaces b_0_lines b_0_flood b_0_net b_0_common b_0_names b_0_ways b_0_marked b_0_loops_order b_0_loops_gone b_0_loops_starts : Nat) (r_0_now : Nat) (r_0_before : Nat) (v_0_runs : Int32) (v_0_stale : Int32) (v_0_loops_count : Int32) (v_0_loops_filled : Int32) (f_0_loops_spaces : Nat → Int32) (p1 : Int32) (p2 : Int32) (Z : Sum Nat (Int32)) (htr : l.stackTraces = false) (hX : TX A s s.heap) (hout : c.exceptionTable.toList = []) (hlocks : meth.locks = false) (hx : p.tables.exec = Jvm.exec) (hb : c.code = b_Sp_needRing) (hml : c.maxLocals = 4) (hown : s.vm.findClass "SpaceCycles" = some m.cls) (hts : ∀ w ∈ w_Sp_needRing, w.before args s = true) (hK : va_K (dC, dI) vwCl [(cI, .int), (cZ, .boolean), (cJ, .long)] s) (hN : NX s) (hA : ∀ q : Nat, s.heap.size ≤ q → A q)
    (hret : ∀ r : Int32, Z = Sum.inr r → ∀ (pc : Nat) (ls : Array Slot), decode b_Sp_needRing pc = .ok (.ireturn, 1) → W p l e rm_Sp_needRing s m args below meth c s.heap [] 0 0 (XMQ below Qc (fun E => Z = Sum.inl (xk E)) args s free) (F0 m pc ls [.int r]))
    (hm : m_Sp_needRing p1 p2 v_0_loops_count f_0_loops_spaces = some Z) (hP : va_P (dC, dI) vwCl (wl_Sp_needRing a_0 a_0_loops a_0_loops_spaces b_0_lines b_0_flood b_0_net b_0_common b_0_names b_0_ways b_0_marked b_0_loops_order b_0_loops_gone b_0_loops_starts cI r_0_now r_0_before v_0_runs v_0_stale v_0_loops_count v_0_loops_filled f_0_loops_spaces) s.heap) (hD : va_D A (wl_Sp_needRing a_0 a_0_loops a_0_loops_spaces b_0_lines b_0_flood b_0_net b_0_common b_0_names b_0_ways b_0_marked b_0_loops_order b_0_loops_gone b_0_loops_starts cI r_0_now r_0_before v_0_runs v_0_stale v_0_loops_count v_0_loops_filled f_0_loops_spaces)) (hS : va_S A s.heap s.heap []) : ∀ ls : Array Slot, lv_has ls 4 [(0, .ref a_0), (1, .int p1), (2, .int p2)] → W p l e rm_Sp_needRing s m args below meth c s.heap [] 0 0 (XMQ below Qc (fun E => Z = Sum.inl (xk E)) args s free) (F0 m 0 ls []) := by
  intro ls hl
  unfold m_Sp_needRing at hm
  refine lv_aload_n hx hb d_Sp_needRing_0 rfl (lv_at hl 0 rfl) ?_
  refine va_get (D := (dC, dI)) (ci := 0) (v := .ref a_0_loops) (C := "SpaceCycles") (T := F_Sp) (N := 12) hx hb hts (in_F i_Sp) hown hK hP 0 rfl rfl 3 (by decide) (hts _ (in_c k_473)) (fun _ h9 => h9) rfl d_Sp_needRing_1 ?_
  refine lv_iload_n hx hb d_Sp_needRing_4 rfl (lv_at hl 1 rfl) ?_
  refine lv_iload_n hx hb d_Sp_needRing_5 rfl (lv_at hl 2 rfl) ?_
  obtain ⟨r1, hb2, hm⟩ := bd1_e hm
  have hPc := hP.sub (ws' := (wl_Ri_find a_0_loops a_0_loops_spaces b_0_loops_order b_0_loops_gone b_0_loops_starts cI v_0_loops_count v_0_loops_filled f_0_loops_spaces)) [1, 2] rfl
  have hDc := hD.sub (ws' := (wl_Ri_find a_0_loops a_0_loops_spaces b_0_loops_order b_0_loops_gone b_0_loops_starts cI v_0_loops_count v_0_loops_filled f_0_loops_spaces)) [1, 2] (by decide) rfl
  refine cl_pi (va_runV (As := [.int p1, .int p2]) (rest := []) ⟨hx, hb, hml, hown, hts⟩ (cp_Ri_find l dC dI (cI := cI) (cZ := cZ) (cJ := cJ) a_0_loops a_0_loops_spaces b_0_loops_order b_0_loops_gone b_0_loops_starts s.heap.size v_0_loops_count v_0_loops_filled f_0_loops_spaces p1 p2 r1 hb2) (cwV 2 hts (gl_V k_477 k_476 k_475 k_241 k_474) rfl rfl rfl (by decide +kernel) ⟨Nat.le_of_ble_eq_true rfl, Nat.le_of_ble_eq_true rfl⟩) ⟨PP_blind, va_recv hK hPc (ci := 4) (q0 := 0) rfl rfl, fun U hU hW => PP_at hK hN hPc hDc hU hW⟩ rfl rfl hl.1 rfl (lv_room (Nat.le_of_ble_eq_true rfl)) d_Sp_needRing_6 ⟨Nat.zero_le _, Nat.zero_le _⟩) ?_
  refine lv_istore_n (lv' := [(3, .int r1), (0, .ref a_0), (1, .int p1), (2, .int p2)]) hx hb d_Sp_needRing_9 rfl hl (by decide) rfl (fun ls hl => ?_)
  refine lv_iload_n hx hb d_Sp_needRing_10 rfl (lv_at hl 0 rfl) ?_
  refine lv_iconst (v := (-1)) hx hb d_Sp_needRing_11 (by decide) ?_
  refine lv_icmp_ne (tgt := 26) hx hb d_Sp_needRing_12 (by decide) (fun c3 => ?_) (fun c3 => ?_)
  · replace hm := if_f hm c3
    refine lv_iload_n hx hb d_Sp_needRing_26 rfl (lv_at hl 0 rfl) ?_
    cases hm
    exact hret _ rfl _ ls d_Sp_needRing_27
  · replace hm := if_t hm c3
    cases hm
    obtain ⟨sa, hsa⟩ := hX.text 11 rfl; exact x_throw hx hb htr hown fit_IA fit_up (hts _ (in_c k_464)) (hts _ (in_c k_465)) hsa (hX.atoms hts atoms_IA) (by rw [hml]; exact hl.1) d_Sp_needRing_15 d_Sp_needRing_18 (Or.inr ⟨d_Sp_needRing_19, rfl⟩) d_Sp_needRing_22 d_Sp_needRing_25 hout rfl (Nat.le_of_ble_eq_true rfl) (Nat.le_of_ble_eq_true rfl) (Nat.le_of_ble_eq_true rfl) (Nat.le_of_ble_eq_true rfl) hlocks
set_option maxHeartbeats 4000000 in
set_option maxRecDepth 100000 in
theorem c_Sp_needRing (l : Launch) (htr : l.stackTraces = false) (dC : Nat → ClassId) (dI : Nat → Nat → Nat) {cI cZ cJ : ClassId} (a_0 a_0_loops a_0_loops_spaces b_0_lines b_0_flood b_0_net b_0_common b_0_names b_0_ways b_0_marked b_0_loops_order b_0_loops_gone b_0_loops_starts : Nat) (sz : Nat) (r_0_now : Nat) (r_0_before : Nat) (v_0_runs : Int32) (v_0_stale : Int32) (v_0_loops_count : Int32) (v_0_loops_filled : Int32) (f_0_loops_spaces : Nat → Int32) (p1 : Int32) (p2 : Int32) (Z : Sum Nat (Int32)) (hm : m_Sp_needRing p1 p2 v_0_loops_count f_0_loops_spaces = some Z) : XMet l y_Sp_needRing w_Sp_needRing rm_Sp_needRing (PPX dC dI [(cI, .int), (cZ, .boolean), (cJ, .long)] [.ref a_0, .int p1, .int p2] sz (wl_Sp_needRing a_0 a_0_loops a_0_loops_spaces b_0_lines b_0_flood b_0_net b_0_common b_0_names b_0_ways b_0_marked b_0_loops_order b_0_loops_gone b_0_loops_starts cI r_0_now r_0_before v_0_runs v_0_stale v_0_loops_count v_0_loops_filled f_0_loops_spaces)) (va_Qi (fun (r : Int32) (_ : Unit) => Z = Sum.inr r) (fun _ _ => True) (fun _ => False)) (fun E => Z = Sum.inl (xk E)) (fun _ => False) := by
  refine XMet.ofW (cc := b_Sp_needRing) (maxL := 4) (ret := (some .int)) (by decide) rfl ?_
  intro p e s m args below meth c s₁ B hml hout hv
  obtain ⟨rfl, hsz, hP, hK, hD0, hN, hX⟩ := hv
  subst hsz
  have hl := lv_entry ([.ref a_0, .int p1, .int p2]) (n := 4) (Nat.le_of_ble_eq_true rfl)
  rw [lg_entry_eq]
  generalize (lg_sl ([.ref a_0, .int p1, .int p2]) ++ List.replicate (4 - (lg_sl ([.ref a_0, .int p1, .int p2])).length) Slot.unset).toArray = ls at hl ⊢
  exact t_Sp_needRing (A := va_A (wl_Sp_needRing a_0 a_0_loops a_0_loops_spaces b_0_lines b_0_flood b_0_net b_0_common b_0_names b_0_ways b_0_marked b_0_loops_order b_0_loops_gone b_0_loops_starts cI r_0_now r_0_before v_0_runs v_0_stale v_0_loops_count v_0_loops_filled f_0_loops_spaces) s.heap.size) a_0 a_0_loops a_0_loops_spaces b_0_lines b_0_flood b_0_net b_0_common b_0_names b_0_ways b_0_marked b_0_loops_order b_0_loops_gone b_0_loops_starts r_0_now r_0_before v_0_runs v_0_stale v_0_loops_count v_0_loops_filled f_0_loops_spaces p1 p2 Z htr hX hout B.notSynchronized B.exec B.bytes hml (findClass_of_methodNamed B.named) (atoms_spec (ws := w_Sp_needRing) B.pre) hK hN (fun q h => Or.inr h) (fun r hz pc ls hd => x_ret (W.iret B.exec B.bytes B.returns (fun t ht hW => ⟨⟨r, (), rfl, hz, trivial⟩, by rw [ht]; exact Nat.le_refl _, fun q _ _ => by rw [ht]⟩) (fun q h => by cases h) hd)) hm hP hD0.self va_S.rf ls hl

theorem k_478 : ((.fieldLink "SpaceCycles" 72 "SpaceCycles" "runs" "I") : Cond) ∈ gl := gl_i 332 (by decide +kernel) (by decide +kernel)
-- SpaceCycles.needSpaceOrOutside(I)V: may throw
abbrev b_Sp_needSpaceOrOutside : ByteArray := prog_1_method_23_code
abbrev y_Sp_needSpaceOrOutside : MethodName := ⟨"SpaceCycles", "needSpaceOrOutside", "(I)V"⟩
abbrev w_Sp_needSpaceOrOutside : List Cond := Cond.code y_Sp_needSpaceOrOutside b_Sp_needSpaceOrOutside 2 none :: gl
abbrev rm_Sp_needSpaceOrOutside : Room := { frames := 8, cells := 1, slots := 6, locals := 200 }
theorem d_Sp_needSpaceOrOutside_0 : decode b_Sp_needSpaceOrOutside 0 = .ok (.aload_n 0, 1) := by decide +kernel
theorem d_Sp_needSpaceOrOutside_1 : decode b_Sp_needSpaceOrOutside 1 = .ok (.getfield 72, 3) := by decide +kernel
theorem d_Sp_needSpaceOrOutside_4 : decode b_Sp_needSpaceOrOutside 4 = .ok (.ifCond .eq 19, 3) := by decide +kernel
theorem d_Sp_needSpaceOrOutside_7 : decode b_Sp_needSpaceOrOutside 7 = .ok (.iload_n 1, 1) := by decide +kernel
theorem d_Sp_needSpaceOrOutside_8 : decode b_Sp_needSpaceOrOutside 8 = .ok (.iconst (-1), 1) := by decide +kernel
theorem d_Sp_needSpaceOrOutside_9 : decode b_Sp_needSpaceOrOutside 9 = .ok (.if_icmp .lt 14, 3) := by decide +kernel
theorem d_Sp_needSpaceOrOutside_12 : decode b_Sp_needSpaceOrOutside 12 = .ok (.iload_n 1, 1) := by decide +kernel
theorem d_Sp_needSpaceOrOutside_13 : decode b_Sp_needSpaceOrOutside 13 = .ok (.aload_n 0, 1) := by decide +kernel
theorem d_Sp_needSpaceOrOutside_14 : decode b_Sp_needSpaceOrOutside 14 = .ok (.getfield 65, 3) := by decide +kernel
theorem d_Sp_needSpaceOrOutside_17 : decode b_Sp_needSpaceOrOutside 17 = .ok (.getfield 181, 3) := by decide +kernel
theorem d_Sp_needSpaceOrOutside_20 : decode b_Sp_needSpaceOrOutside 20 = .ok (.if_icmp .lt 14, 3) := by decide +kernel
theorem d_Sp_needSpaceOrOutside_23 : decode b_Sp_needSpaceOrOutside 23 = .ok (.new 88, 3) := by decide +kernel
theorem d_Sp_needSpaceOrOutside_26 : decode b_Sp_needSpaceOrOutside 26 = .ok (.dup, 1) := by decide +kernel
theorem d_Sp_needSpaceOrOutside_27 : decode b_Sp_needSpaceOrOutside 27 = .ok (.ldc_w 298, 3) := by decide +kernel
theorem d_Sp_needSpaceOrOutside_30 : decode b_Sp_needSpaceOrOutside 30 = .ok (.invokespecial 92, 3) := by decide +kernel
theorem d_Sp_needSpaceOrOutside_33 : decode b_Sp_needSpaceOrOutside 33 = .ok (.athrow, 1) := by decide +kernel
theorem d_Sp_needSpaceOrOutside_34 : decode b_Sp_needSpaceOrOutside 34 = .ok (.return_, 1) := by decide +kernel
abbrev wl_Sp_needSpaceOrOutside (a_0 : Nat) (a_0_now : Nat) (b_0_lines : Nat) (b_0_flood : Nat) (b_0_net : Nat) (b_0_loops : Nat) (b_0_common : Nat) (b_0_names : Nat) (b_0_ways : Nat) (b_0_marked : Nat) (b_0_now_xs : Nat) (b_0_now_ys : Nat) (b_0_now_cells : Nat) (r_0_now : Nat) (r_0_before : Nat) (v_0_runs : Int32) (v_0_stale : Int32) (v_0_now_spaces : Int32) : va_W := [(a_0, .inr (0, [.ref b_0_lines, .ref b_0_flood, .ref b_0_net, .ref b_0_loops, .ref b_0_common, .ref b_0_names, .ref b_0_ways, .ref b_0_marked, .ref r_0_now, .ref r_0_before, .int v_0_runs, .int v_0_stale])), (a_0_now, .inr (8, [.ref b_0_now_xs, .ref b_0_now_ys, .ref b_0_now_cells, .int v_0_now_spaces]))]
def m_Sp_needSpaceOrOutside (p1 : Int32) (v_0_runs : Int32) (v_0_now_spaces : Int32) : Option (Sum Nat (Unit)) :=
  if v_0_runs = 0 then (
    some (Sum.inl 1))
  else (
    if p1 < (-1) then (
      some (Sum.inl 1))
    else (
      if p1 < v_0_now_spaces then (
        some (Sum.inr ()))
      else (
        some (Sum.inl 1))))

set_option maxHeartbeats 4000000 in
set_option maxRecDepth 100000 in
theorem t_Sp_needSpaceOrOutside {p : Program} {l : Launch} {e : Env} {s : State} {m : MethodId} {args : Array Value} {below : List Frame} {meth : Method} {c : Code} {A : Nat → Prop} {dC : Nat → ClassId} {dI : Nat → Nat → Nat} {cI cZ cJ : ClassId} {Qc : Array Value → State → Outcome → State → Prop} {free : Addr → Prop} (a_0 a_0_now b_0_lines b_0_flood b_0_net b_0_loops b_0_common b_0_names b_0_ways b_0_marked b_0_now_xs b_0_now_ys b_0_now_cells : Nat) (r_0_before : Nat) (v_0_runs : Int32) (v_0_stale : Int32) (v_0_now_spaces : Int32) (p1 : Int32) (Z : Sum Nat (Unit)) (htr : l.stackTraces = false) (hX : TX A s s.heap) (hout : c.exceptionTable.toList = []) (hlocks : meth.locks = false) (hx : p.tables.exec = Jvm.exec) (hb : c.code = b_Sp_needSpaceOrOutside) (hml : c.maxLocals = 2) (hown : s.vm.findClass "SpaceCycles" = some m.cls) (hts : ∀ w ∈ w_Sp_needSpaceOrOutside, w.before args s = true) (hK : va_K (dC, dI) vwCl [(cI, .int), (cZ, .boolean), (cJ, .long)] s) (hN : NX s) (hA : ∀ q : Nat, s.heap.size ≤ q → A q)
    (hret : Z = Sum.inr () → ∀ (pc : Nat) (ls : Array Slot), decode b_Sp_needSpaceOrOutside pc = .ok (.return_, 1) → W p l e rm_Sp_needSpaceOrOutside s m args below meth c s.heap [] 0 0 (XMQ below Qc (fun E => Z = Sum.inl (xk E)) args s free) (F0 m pc ls []))
    (hm : m_Sp_needSpaceOrOutside p1 v_0_runs v_0_now_spaces = some Z) (hP : va_P (dC, dI) vwCl (wl_Sp_needSpaceOrOutside a_0 a_0_now b_0_lines b_0_flood b_0_net b_0_loops b_0_common b_0_names b_0_ways b_0_marked b_0_now_xs b_0_now_ys b_0_now_cells a_0_now r_0_before v_0_runs v_0_stale v_0_now_spaces) s.heap) (hD : va_D A (wl_Sp_needSpaceOrOutside a_0 a_0_now b_0_lines b_0_flood b_0_net b_0_loops b_0_common b_0_names b_0_ways b_0_marked b_0_now_xs b_0_now_ys b_0_now_cells a_0_now r_0_before v_0_runs v_0_stale v_0_now_spaces)) (hS : va_S A s.heap s.heap []) : ∀ ls : Array Slot, lv_has ls 2 [(0, .ref a_0), (1, .int p1)] → W p l e rm_Sp_needSpaceOrOutside s m args below meth c s.heap [] 0 0 (XMQ below Qc (fun E => Z = Sum.inl (xk E)) args s free) (F0 m 0 ls []) := by
  intro ls hl
  unfold m_Sp_needSpaceOrOutside at hm
  refine lv_aload_n hx hb d_Sp_needSpaceOrOutside_0 rfl (lv_at hl 0 rfl) ?_
  refine va_get (D := (dC, dI)) (ci := 0) (v := .int v_0_runs) (C := "SpaceCycles") (T := F_Sp) (N := 12) hx hb hts (in_F i_Sp) hown hK hP 0 rfl rfl 10 (by decide) (hts _ (in_c k_478)) (fun _ h9 => h9) rfl d_Sp_needSpaceOrOutside_1 ?_
  refine lv_if_eq (tgt := 23) hx hb d_Sp_needSpaceOrOutside_4 (by decide) (fun c1 => ?_) (fun c1 => ?_)
  · replace hm := if_t hm c1
    cases hm
    obtain ⟨sa, hsa⟩ := hX.text 10 rfl; exact x_throw hx hb htr hown fit_IA fit_up (hts _ (in_c k_464)) (hts _ (in_c k_465)) hsa (hX.atoms hts atoms_IA) (by rw [hml]; exact hl.1) d_Sp_needSpaceOrOutside_23 d_Sp_needSpaceOrOutside_26 (Or.inr ⟨d_Sp_needSpaceOrOutside_27, rfl⟩) d_Sp_needSpaceOrOutside_30 d_Sp_needSpaceOrOutside_33 hout rfl (Nat.le_of_ble_eq_true rfl) (Nat.le_of_ble_eq_true rfl) (Nat.le_of_ble_eq_true rfl) (Nat.le_of_ble_eq_true rfl) hlocks
  · replace hm := if_f hm c1
    refine lv_iload_n hx hb d_Sp_needSpaceOrOutside_7 rfl (lv_at hl 1 rfl) ?_
    refine lv_iconst (v := (-1)) hx hb d_Sp_needSpaceOrOutside_8 (by decide) ?_
    refine lv_icmp_lt (tgt := 23) hx hb d_Sp_needSpaceOrOutside_9 (by decide) (fun c2 => ?_) (fun c2 => ?_)
    · replace hm := if_t hm c2
      cases hm
      obtain ⟨sa, hsa⟩ := hX.text 10 rfl; exact x_throw hx hb htr hown fit_IA fit_up (hts _ (in_c k_464)) (hts _ (in_c k_465)) hsa (hX.atoms hts atoms_IA) (by rw [hml]; exact hl.1) d_Sp_needSpaceOrOutside_23 d_Sp_needSpaceOrOutside_26 (Or.inr ⟨d_Sp_needSpaceOrOutside_27, rfl⟩) d_Sp_needSpaceOrOutside_30 d_Sp_needSpaceOrOutside_33 hout rfl (Nat.le_of_ble_eq_true rfl) (Nat.le_of_ble_eq_true rfl) (Nat.le_of_ble_eq_true rfl) (Nat.le_of_ble_eq_true rfl) hlocks
    · replace hm := if_f hm c2
      refine lv_iload_n hx hb d_Sp_needSpaceOrOutside_12 rfl (lv_at hl 1 rfl) ?_
      refine lv_aload_n hx hb d_Sp_needSpaceOrOutside_13 rfl (lv_at hl 0 rfl) ?_
      refine va_get (D := (dC, dI)) (ci := 0) (v := .ref a_0_now) (C := "SpaceCycles") (T := F_Sp) (N := 12) hx hb hts (in_F i_Sp) hown hK hP 0 rfl rfl 8 (by decide) (hts _ (in_c k_471)) (fun _ h9 => h9) rfl d_Sp_needSpaceOrOutside_14 ?_
      refine va_get (D := (dC, dI)) (ci := 8) (v := .int v_0_now_spaces) (C := "SpaceCycles$Grid") (T := F_Gr) (N := 4) hx hb hts (in_F i_Gr) hown hK hP 1 rfl rfl 3 (by decide) (hts _ (in_c k_472)) (fun _ h9 => h9) rfl d_Sp_needSpaceOrOutside_17 ?_
      refine lv_icmp_lt (tgt := 34) hx hb d_Sp_needSpaceOrOutside_20 (by decide) (fun c3 => ?_) (fun c3 => ?_)
      · replace hm := if_t hm c3
        cases hm
        exact hret rfl _ ls d_Sp_needSpaceOrOutside_34
      · replace hm := if_f hm c3
        cases hm
        obtain ⟨sa, hsa⟩ := hX.text 10 rfl; exact x_throw hx hb htr hown fit_IA fit_up (hts _ (in_c k_464)) (hts _ (in_c k_465)) hsa (hX.atoms hts atoms_IA) (by rw [hml]; exact hl.1) d_Sp_needSpaceOrOutside_23 d_Sp_needSpaceOrOutside_26 (Or.inr ⟨d_Sp_needSpaceOrOutside_27, rfl⟩) d_Sp_needSpaceOrOutside_30 d_Sp_needSpaceOrOutside_33 hout rfl (Nat.le_of_ble_eq_true rfl) (Nat.le_of_ble_eq_true rfl) (Nat.le_of_ble_eq_true rfl) (Nat.le_of_ble_eq_true rfl) hlocks
set_option maxHeartbeats 4000000 in
set_option maxRecDepth 100000 in
theorem c_Sp_needSpaceOrOutside (l : Launch) (htr : l.stackTraces = false) (dC : Nat → ClassId) (dI : Nat → Nat → Nat) {cI cZ cJ : ClassId} (a_0 a_0_now b_0_lines b_0_flood b_0_net b_0_loops b_0_common b_0_names b_0_ways b_0_marked b_0_now_xs b_0_now_ys b_0_now_cells : Nat) (sz : Nat) (r_0_before : Nat) (v_0_runs : Int32) (v_0_stale : Int32) (v_0_now_spaces : Int32) (p1 : Int32) (Z : Sum Nat (Unit)) (hm : m_Sp_needSpaceOrOutside p1 v_0_runs v_0_now_spaces = some Z) : XMet l y_Sp_needSpaceOrOutside w_Sp_needSpaceOrOutside rm_Sp_needSpaceOrOutside (PPX dC dI [(cI, .int), (cZ, .boolean), (cJ, .long)] [.ref a_0, .int p1] sz (wl_Sp_needSpaceOrOutside a_0 a_0_now b_0_lines b_0_flood b_0_net b_0_loops b_0_common b_0_names b_0_ways b_0_marked b_0_now_xs b_0_now_ys b_0_now_cells a_0_now r_0_before v_0_runs v_0_stale v_0_now_spaces)) (va_Qv (fun (_ : Unit) => Z = Sum.inr ()) (fun _ _ => True) (fun _ => False)) (fun E => Z = Sum.inl (xk E)) (fun _ => False) := by
  refine XMet.ofW (cc := b_Sp_needSpaceOrOutside) (maxL := 2) (ret := none) (by decide) rfl ?_
  intro p e s m args below meth c s₁ B hml hout hv
  obtain ⟨rfl, hsz, hP, hK, hD0, hN, hX⟩ := hv
  subst hsz
  have hl := lv_entry ([.ref a_0, .int p1]) (n := 2) (Nat.le_of_ble_eq_true rfl)
  rw [lg_entry_eq]
  generalize (lg_sl ([.ref a_0, .int p1]) ++ List.replicate (2 - (lg_sl ([.ref a_0, .int p1])).length) Slot.unset).toArray = ls at hl ⊢
  exact t_Sp_needSpaceOrOutside (A := va_A (wl_Sp_needSpaceOrOutside a_0 a_0_now b_0_lines b_0_flood b_0_net b_0_loops b_0_common b_0_names b_0_ways b_0_marked b_0_now_xs b_0_now_ys b_0_now_cells a_0_now r_0_before v_0_runs v_0_stale v_0_now_spaces) s.heap.size) a_0 a_0_now b_0_lines b_0_flood b_0_net b_0_loops b_0_common b_0_names b_0_ways b_0_marked b_0_now_xs b_0_now_ys b_0_now_cells r_0_before v_0_runs v_0_stale v_0_now_spaces p1 Z htr hX hout B.notSynchronized B.exec B.bytes hml (findClass_of_methodNamed B.named) (atoms_spec (ws := w_Sp_needSpaceOrOutside) B.pre) hK hN (fun q h => Or.inr h) (fun hz pc ls hd => x_ret (W.vret B.exec B.bytes B.returns (fun t ht hW => ⟨⟨(), rfl, hz, trivial⟩, by rw [ht]; exact Nat.le_refl _, fun q _ _ => by rw [ht]⟩) (fun q h => by cases h) hd)) hm hP hD0.self va_S.rf ls hl
