-- SpaceCycles.turned(II)I
abbrev b_Sp_turned : ByteArray := prog_1_method_26_code
abbrev y_Sp_turned : MethodName := ⟨"SpaceCycles", "turned", "(II)I"⟩
abbrev w_Sp_turned : List Cond := Cond.code y_Sp_turned b_Sp_turned 2 (some .int) :: gl
abbrev rm_Sp_turned : Room := { frames := 0, cells := 0, slots := 0, locals := 0 }
theorem d_Sp_turned_0 : decode b_Sp_turned 0 = .ok (.iload_n 0, 1) := by decide +kernel
theorem d_Sp_turned_1 : decode b_Sp_turned 1 = .ok (.iload_n 1, 1) := by decide +kernel
theorem d_Sp_turned_2 : decode b_Sp_turned 2 = .ok (.iadd, 1) := by decide +kernel
theorem d_Sp_turned_3 : decode b_Sp_turned 3 = .ok (.iconst 3, 1) := by decide +kernel
theorem d_Sp_turned_4 : decode b_Sp_turned 4 = .ok (.iand, 1) := by decide +kernel
theorem d_Sp_turned_5 : decode b_Sp_turned 5 = .ok (.ireturn, 1) := by decide +kernel
abbrev wl_Sp_turned : va_W := []
def m_Sp_turned (p0 : Int32) (p1 : Int32) : Option (Int32) :=
  some ((p0 + p1) &&& 3)

set_option maxHeartbeats 4000000 in
set_option maxRecDepth 100000 in
theorem t_Sp_turned {p : Program} {l : Launch} {e : Env} {s : State} {m : MethodId} {args : Array Value} {below : List Frame} {meth : Method} {c : Code} {A : Nat → Prop} {Q : State → Prop} {dC : Nat → ClassId} {dI : Nat → Nat → Nat} {cI cZ cJ : ClassId}  (p0 : Int32) (p1 : Int32) (R0 : Int32) (hx : p.tables.exec = Jvm.exec) (hb : c.code = b_Sp_turned) (hml : c.maxLocals = 2) (hown : s.vm.findClass "SpaceCycles" = some m.cls) (hts : ∀ w ∈ w_Sp_turned, w.before args s = true) (hK : va_K (dC, dI) vwCl [(cI, .int), (cZ, .boolean), (cJ, .long)] s) (hN : NX s) (hA : ∀ q : Nat, s.heap.size ≤ q → A q)
    (hret : ∀ (pc : Nat) (H : Heap) (locs : List Loc) (ls : Array Slot), decode b_Sp_turned pc = .ok (.ireturn, 1) → va_P (dC, dI) vwCl (wl_Sp_turned) H → va_D A (wl_Sp_turned) → va_S A s.heap H locs → W p l e rm_Sp_turned s m args below meth c H locs 0 0 Q (F0 m pc ls [.int R0]))
    (hm : m_Sp_turned p0 p1 = some R0) : ∀ (H : Heap) (locs : List Loc) (ls : Array Slot), va_P (dC, dI) vwCl (wl_Sp_turned) H → va_D A (wl_Sp_turned) → va_S A s.heap H locs → lv_has ls 2 [(0, .int p0), (1, .int p1)] → W p l e rm_Sp_turned s m args below meth c H locs 0 0 Q (F0 m 0 ls []) := by
  intro H locs ls hP hD hS hl
  unfold m_Sp_turned at hm
  refine lv_iload_n hx hb d_Sp_turned_0 rfl (lv_at hl 0 rfl) ?_
  refine lv_iload_n hx hb d_Sp_turned_1 rfl (lv_at hl 1 rfl) ?_
  refine lv_iadd hx hb d_Sp_turned_2 ?_
  refine lv_iconst (v := 3) hx hb d_Sp_turned_3 (by decide) ?_
  refine lv_iand hx hb d_Sp_turned_4 ?_
  cases hm
  exact hret _ H locs ls d_Sp_turned_5 hP hD hS
set_option maxHeartbeats 4000000 in
set_option maxRecDepth 100000 in
theorem c_Sp_turned (l : Launch) (dC : Nat → ClassId) (dI : Nat → Nat → Nat) {cI cZ cJ : ClassId} (sz : Nat)  (p0 : Int32) (p1 : Int32) (R0 : Int32) (hm : m_Sp_turned p0 p1 = some R0) : Met l y_Sp_turned w_Sp_turned rm_Sp_turned (PP dC dI [(cI, .int), (cZ, .boolean), (cJ, .long)] [.int p0, .int p1] sz (wl_Sp_turned)) (QI dC dI [(cI, .int), (cZ, .boolean), (cJ, .long)] sz (wl_Sp_turned) (wl_Sp_turned) R0) 0 0 (va_A (wl_Sp_turned) sz) := by
  refine Met.ofW (cc := b_Sp_turned) (maxL := 2) (ret := (some .int)) (by decide) rfl ?_
  intro p e s m args below meth c s₁ B hml hv
  obtain ⟨rfl, hsz, hP, hK, hD0, hN⟩ := hv
  subst hsz
  have hl := lv_entry ([.int p0, .int p1]) (n := 2) (Nat.le_of_ble_eq_true rfl)
  rw [lg_entry_eq]
  generalize (lg_sl ([.int p0, .int p1]) ++ List.replicate (2 - (lg_sl ([.int p0, .int p1])).length) Slot.unset).toArray = ls at hl ⊢
  exact t_Sp_turned p0 p1 R0 B.exec B.bytes hml (findClass_of_methodNamed B.named) (atoms_spec (ws := w_Sp_turned) B.pre) hK hN (fun q h => Or.inr h) (fun pc H locs ls hd hP9 hD9 hS => W.iret B.exec B.bytes B.returns (fun t ht hW => ⟨⟨_, (), rfl, rfl, by rw [ht]; exact hP9, va_K.moved hW.alike hK, hD9⟩, hS.F ht⟩) hS.2.2 hd) hm s.heap [] ls hP hD0.self va_S.rf hl
