-- java/util/Arrays.rangeCheck(III)V
abbrev b_Ar_rangeCheck : ByteArray := prog_28_method_30_code
abbrev y_Ar_rangeCheck : MethodName := ⟨"java/util/Arrays", "rangeCheck", "(III)V"⟩
abbrev w_Ar_rangeCheck : List Cond := Cond.code y_Ar_rangeCheck b_Ar_rangeCheck 3 none :: gl
abbrev rm_Ar_rangeCheck : Room := { frames := 0, cells := 0, slots := 0, locals := 0 }
theorem d_Ar_rangeCheck_0 : decode b_Ar_rangeCheck 0 = .ok (.iload_n 1, 1) := by decide +kernel
theorem d_Ar_rangeCheck_1 : decode b_Ar_rangeCheck 1 = .ok (.iload_n 2, 1) := by decide +kernel
theorem d_Ar_rangeCheck_2 : decode b_Ar_rangeCheck 2 = .ok (.if_icmp .le 44, 3) := by decide +kernel
theorem d_Ar_rangeCheck_46 : decode b_Ar_rangeCheck 46 = .ok (.iload_n 1, 1) := by decide +kernel
theorem d_Ar_rangeCheck_47 : decode b_Ar_rangeCheck 47 = .ok (.ifCond .ge 12, 3) := by decide +kernel
theorem d_Ar_rangeCheck_59 : decode b_Ar_rangeCheck 59 = .ok (.iload_n 2, 1) := by decide +kernel
theorem d_Ar_rangeCheck_60 : decode b_Ar_rangeCheck 60 = .ok (.iload_n 0, 1) := by decide +kernel
theorem d_Ar_rangeCheck_61 : decode b_Ar_rangeCheck 61 = .ok (.if_icmp .le 12, 3) := by decide +kernel
theorem d_Ar_rangeCheck_73 : decode b_Ar_rangeCheck 73 = .ok (.return_, 1) := by decide +kernel
abbrev wl_Ar_rangeCheck : va_W := []
def m_Ar_rangeCheck (p0 : Int32) (p1 : Int32) (p2 : Int32) : Option (Unit) :=
  if p1 ≤ p2 then (
    if 0 ≤ p1 then (
      if p2 ≤ p0 then (
        some ())
      else (
        none))
    else (
      none))
  else (
    none)

set_option maxHeartbeats 4000000 in
set_option maxRecDepth 100000 in
theorem t_Ar_rangeCheck {p : Program} {l : Launch} {e : Env} {s : State} {m : MethodId} {args : Array Value} {below : List Frame} {meth : Method} {c : Code} {A : Nat → Prop} {Q : State → Prop} {dC : Nat → ClassId} {dI : Nat → Nat → Nat} {cI cZ cJ : ClassId}  (p0 : Int32) (p1 : Int32) (p2 : Int32)  (hx : p.tables.exec = Jvm.exec) (hb : c.code = b_Ar_rangeCheck) (hml : c.maxLocals = 3) (hown : s.vm.findClass "java/util/Arrays" = some m.cls) (hts : ∀ w ∈ w_Ar_rangeCheck, w.before args s = true) (hK : va_K (dC, dI) vwCl [(cI, .int), (cZ, .boolean), (cJ, .long)] s) (hN : NX s) (hA : ∀ q : Nat, s.heap.size ≤ q → A q)
    (hret : ∀ (pc : Nat) (H : Heap) (locs : List Loc) (ls : Array Slot), decode b_Ar_rangeCheck pc = .ok (.return_, 1) → va_P (dC, dI) vwCl (wl_Ar_rangeCheck) H → va_D A (wl_Ar_rangeCheck) → va_S A s.heap H locs → W p l e rm_Ar_rangeCheck s m args below meth c H locs 0 0 Q (F0 m pc ls []))
    (hm : m_Ar_rangeCheck p0 p1 p2 = some ()) : ∀ (H : Heap) (locs : List Loc) (ls : Array Slot), va_P (dC, dI) vwCl (wl_Ar_rangeCheck) H → va_D A (wl_Ar_rangeCheck) → va_S A s.heap H locs → lv_has ls 3 [(0, .int p0), (1, .int p1), (2, .int p2)] → W p l e rm_Ar_rangeCheck s m args below meth c H locs 0 0 Q (F0 m 0 ls []) := by
  intro H locs ls hP hD hS hl
  unfold m_Ar_rangeCheck at hm
  refine lv_iload_n hx hb d_Ar_rangeCheck_0 rfl (lv_at hl 1 rfl) ?_
  refine lv_iload_n hx hb d_Ar_rangeCheck_1 rfl (lv_at hl 2 rfl) ?_
  refine lv_icmp_le (tgt := 46) hx hb d_Ar_rangeCheck_2 (by decide) (fun c1 => ?_) (fun c1 => ?_)
  · replace hm := if_t hm c1
    refine lv_iload_n hx hb d_Ar_rangeCheck_46 rfl (lv_at hl 1 rfl) ?_
    refine lv_if_ge (tgt := 59) hx hb d_Ar_rangeCheck_47 (by decide) (fun c2 => ?_) (fun c2 => ?_)
    · replace hm := if_t hm c2
      refine lv_iload_n hx hb d_Ar_rangeCheck_59 rfl (lv_at hl 2 rfl) ?_
      refine lv_iload_n hx hb d_Ar_rangeCheck_60 rfl (lv_at hl 0 rfl) ?_
      refine lv_icmp_le (tgt := 73) hx hb d_Ar_rangeCheck_61 (by decide) (fun c3 => ?_) (fun c3 => ?_)
      · replace hm := if_t hm c3
        cases hm
        exact hret _ H locs ls d_Ar_rangeCheck_73 hP hD hS
      · replace hm := if_f hm c3
        cases hm
    · replace hm := if_f hm c2
      cases hm
  · replace hm := if_f hm c1
    cases hm
set_option maxHeartbeats 4000000 in
set_option maxRecDepth 100000 in
theorem c_Ar_rangeCheck (l : Launch) (dC : Nat → ClassId) (dI : Nat → Nat → Nat) {cI cZ cJ : ClassId} (sz : Nat)  (p0 : Int32) (p1 : Int32) (p2 : Int32)  (hm : m_Ar_rangeCheck p0 p1 p2 = some ()) : Met l y_Ar_rangeCheck w_Ar_rangeCheck rm_Ar_rangeCheck (PP dC dI [(cI, .int), (cZ, .boolean), (cJ, .long)] [.int p0, .int p1, .int p2] sz (wl_Ar_rangeCheck)) (QV dC dI [(cI, .int), (cZ, .boolean), (cJ, .long)] sz (wl_Ar_rangeCheck) (wl_Ar_rangeCheck)) 0 0 (va_A (wl_Ar_rangeCheck) sz) := by
  refine Met.ofW (cc := b_Ar_rangeCheck) (maxL := 3) (ret := none) (by decide) rfl ?_
  intro p e s m args below meth c s₁ B hml hv
  obtain ⟨rfl, hsz, hP, hK, hD0, hN⟩ := hv
  subst hsz
  have hl := lv_entry ([.int p0, .int p1, .int p2]) (n := 3) (Nat.le_of_ble_eq_true rfl)
  rw [lg_entry_eq]
  generalize (lg_sl ([.int p0, .int p1, .int p2]) ++ List.replicate (3 - (lg_sl ([.int p0, .int p1, .int p2])).length) Slot.unset).toArray = ls at hl ⊢
  exact t_Ar_rangeCheck p0 p1 p2 B.exec B.bytes hml (findClass_of_methodNamed B.named) (atoms_spec (ws := w_Ar_rangeCheck) B.pre) hK hN (fun q h => Or.inr h) (fun pc H locs ls hd hP9 hD9 hS => W.vret B.exec B.bytes B.returns (fun t ht hW => ⟨⟨(), rfl, trivial, by rw [ht]; exact hP9, va_K.moved hW.alike hK, hD9⟩, hS.F ht⟩) hS.2.2 hd) hm s.heap [] ls hP hD0.self va_S.rf hl

-- java/util/Arrays.fill([II)V
abbrev b_Ar_fill0 : ByteArray := prog_28_method_103_code
abbrev y_Ar_fill0 : MethodName := ⟨"java/util/Arrays", "fill", "([II)V"⟩
abbrev w_Ar_fill0 : List Cond := Cond.code y_Ar_fill0 b_Ar_fill0 4 none :: gl
abbrev rm_Ar_fill0 : Room := { frames := 0, cells := 0, slots := 0, locals := 0 }
theorem d_Ar_fill0_0 : decode b_Ar_fill0 0 = .ok (.iconst 0, 1) := by decide +kernel
theorem d_Ar_fill0_1 : decode b_Ar_fill0 1 = .ok (.istore_n 2, 1) := by decide +kernel
theorem d_Ar_fill0_2 : decode b_Ar_fill0 2 = .ok (.aload_n 0, 1) := by decide +kernel
theorem d_Ar_fill0_3 : decode b_Ar_fill0 3 = .ok (.arraylength, 1) := by decide +kernel
theorem d_Ar_fill0_4 : decode b_Ar_fill0 4 = .ok (.istore_n 3, 1) := by decide +kernel
theorem d_Ar_fill0_5 : decode b_Ar_fill0 5 = .ok (.iload_n 2, 1) := by decide +kernel
theorem d_Ar_fill0_6 : decode b_Ar_fill0 6 = .ok (.iload_n 3, 1) := by decide +kernel
theorem d_Ar_fill0_7 : decode b_Ar_fill0 7 = .ok (.if_icmp .ge 13, 3) := by decide +kernel
theorem d_Ar_fill0_10 : decode b_Ar_fill0 10 = .ok (.aload_n 0, 1) := by decide +kernel
theorem d_Ar_fill0_11 : decode b_Ar_fill0 11 = .ok (.iload_n 2, 1) := by decide +kernel
theorem d_Ar_fill0_12 : decode b_Ar_fill0 12 = .ok (.iload_n 1, 1) := by decide +kernel
theorem d_Ar_fill0_13 : decode b_Ar_fill0 13 = .ok (.iastore, 1) := by decide +kernel
theorem d_Ar_fill0_14 : decode b_Ar_fill0 14 = .ok (.iinc 2 1, 3) := by decide +kernel
theorem d_Ar_fill0_17 : decode b_Ar_fill0 17 = .ok (.goto (-12), 3) := by decide +kernel
theorem d_Ar_fill0_20 : decode b_Ar_fill0 20 = .ok (.return_, 1) := by decide +kernel
abbrev wl_Ar_fill0 (a_0 : Nat) (cI : ClassId) (n0 : Nat) (f_0 : Nat → Int32) : va_W := [(a_0, .inl (cI, n0, .inl f_0))]
def m_Ar_fill0_L5 (l1 : Int32) (l3 : Int32) (n0 : Nat) : Nat → Int32 → (Nat → Int32) → Option ((Nat → Int32))
  | 0, _, _ => none
  | n + 1, l2, f_0 =>
    if l3 ≤ l2 then (
      some f_0)
    else (
      gI l2 n0 <|
      lt_ (upd f_0 l2.toNatClampNeg l1) fun f4 =>
      lt_ (l2 + 1) fun x5 =>
      m_Ar_fill0_L5 l1 l3 n0 n x5 f4)
def m_Ar_fill0 (n0 : Nat) (p1 : Int32) (f_0 : Nat → Int32) : Option ((Nat → Int32)) :=
  lt_ (Int32.ofNat n0) fun x1 =>
  bd1 (m_Ar_fill0_L5 p1 x1 n0 fu 0 f_0) fun f4 =>
  some f4

set_option maxHeartbeats 4000000 in
set_option maxRecDepth 100000 in
theorem t_Ar_fill0 {p : Program} {l : Launch} {e : Env} {s : State} {m : MethodId} {args : Array Value} {below : List Frame} {meth : Method} {c : Code} {A : Nat → Prop} {Q : State → Prop} {dC : Nat → ClassId} {dI : Nat → Nat → Nat} {cI cZ cJ : ClassId} (a_0 : Nat) (n0 : Nat) (f_0 : Nat → Int32) (p1 : Int32) (of_0 : Nat → Int32) (hx : p.tables.exec = Jvm.exec) (hb : c.code = b_Ar_fill0) (hml : c.maxLocals = 4) (hown : s.vm.findClass "java/util/Arrays" = some m.cls) (hts : ∀ w ∈ w_Ar_fill0, w.before args s = true) (hK : va_K (dC, dI) vwCl [(cI, .int), (cZ, .boolean), (cJ, .long)] s) (hN : NX s) (hA : ∀ q : Nat, s.heap.size ≤ q → A q)
    (hret : ∀ (pc : Nat) (H : Heap) (locs : List Loc) (ls : Array Slot), decode b_Ar_fill0 pc = .ok (.return_, 1) → va_P (dC, dI) vwCl (wl_Ar_fill0 a_0 cI n0 of_0) H → va_D A (wl_Ar_fill0 a_0 cI n0 of_0) → va_S A s.heap H locs → W p l e rm_Ar_fill0 s m args below meth c H locs 0 0 Q (F0 m pc ls []))
    (hm : m_Ar_fill0 n0 p1 f_0 = some of_0) : ∀ (H : Heap) (locs : List Loc) (ls : Array Slot), va_P (dC, dI) vwCl (wl_Ar_fill0 a_0 cI n0 f_0) H → va_D A (wl_Ar_fill0 a_0 cI n0 f_0) → va_S A s.heap H locs → lv_has ls 4 [(0, .ref a_0), (1, .int p1)] → W p l e rm_Ar_fill0 s m args below meth c H locs 0 0 Q (F0 m 0 ls []) := by
  intro H locs ls hP hD hS hl
  unfold m_Ar_fill0 at hm
  refine lv_iconst (v := 0) hx hb d_Ar_fill0_0 (by decide) ?_
  refine lv_istore_n (lv' := [(2, .int 0), (0, .ref a_0), (1, .int p1)]) hx hb d_Ar_fill0_1 rfl hl (by decide) rfl (fun ls hl => ?_)
  refine lv_aload_n hx hb d_Ar_fill0_2 rfl (lv_at hl 1 rfl) ?_
  refine va_alen (v := (Int32.ofNat n0)) hx hb hK hP 0 0 rfl rfl rfl d_Ar_fill0_3 ?_
  refine lv_topi (fun x1 ex1 => ?_)
  replace hm := lt_el hm ex1
  refine lv_istore_n (lv' := [(3, .int x1), (2, .int 0), (0, .ref a_0), (1, .int p1)]) hx hb d_Ar_fill0_4 rfl hl (by decide) rfl (fun ls hl => ?_)
  have L5_5 : ∀ (n : Nat) (x2 : Int32) (f3 : Nat → Int32) (f4 : Nat → Int32), m_Ar_fill0_L5 p1 x1 n0 n x2 f3 = some f4 → (∀ (H : Heap) (locs : List Loc) (ls : Array Slot), va_P (dC, dI) vwCl (wl_Ar_fill0 a_0 cI n0 f4) H → va_D A (wl_Ar_fill0 a_0 cI n0 f4) → va_S A s.heap H locs → lv_has ls 4 [] → W p l e rm_Ar_fill0 s m args below meth c H locs 0 0 Q (F0 m 20 ls [])) → ∀ (H : Heap) (locs : List Loc) (ls : Array Slot), va_P (dC, dI) vwCl (wl_Ar_fill0 a_0 cI n0 f3) H → va_D A (wl_Ar_fill0 a_0 cI n0 f3) → va_S A s.heap H locs → lv_has ls 4 [(0, .ref a_0), (1, .int p1), (2, .int x2), (3, .int x1)] → W p l e rm_Ar_fill0 s m args below meth c H locs 0 0 Q (F0 m 5 ls []) := by
    intro n
    induction n with
    | zero => intro x2 f3 f4 hm; simp [m_Ar_fill0_L5] at hm
    | succ n ih =>
      intro x2 f3 f4 hm KE H locs ls hP hD hS hl
      rw [m_Ar_fill0_L5] at hm
      refine lv_iload_n hx hb d_Ar_fill0_5 rfl (lv_at hl 2 rfl) ?_
      refine lv_iload_n hx hb d_Ar_fill0_6 rfl (lv_at hl 3 rfl) ?_
      refine lv_icmp_ge (tgt := 20) hx hb d_Ar_fill0_7 (by decide) (fun c6 => ?_) (fun c6 => ?_)
      · replace hm := if_t hm c6
        cases hm
        exact KE H locs ls hP hD hS (lv_sub hl [] rfl)
      · replace hm := if_f hm c6
        refine lv_aload_n hx hb d_Ar_fill0_10 rfl (lv_at hl 0 rfl) ?_
        refine lv_iload_n hx hb d_Ar_fill0_11 rfl (lv_at hl 2 rfl) ?_
        refine lv_iload_n hx hb d_Ar_fill0_12 rfl (lv_at hl 1 rfl) ?_
        obtain ⟨hi7, hm⟩ := gI_e hm
        obtain ⟨f8, ef8⟩ : ∃ y : Nat → Int32, y = upd f3 x2.toNatClampNeg p1 := ⟨_, rfl⟩
        replace hm := lt_el hm ef8
        refine va_iast hx hb hK hP hD hS 0 0 rfl rfl hi7 d_Ar_fill0_13 (fun H locs hP hD hS => ?_)
        rw [← ef8] at hP hD
        have hP : va_P (dC, dI) vwCl (wl_Ar_fill0 a_0 cI n0 f8) H := hP
        have hD : va_D A (wl_Ar_fill0 a_0 cI n0 f8) := hD
        obtain ⟨x9, ex9⟩ : ∃ y : Int32, y = x2 + 1 := ⟨_, rfl⟩
        replace hm := lt_el hm ex9
        refine lv_iinc (v := x9) (lv' := [(2, .int x9), (0, .ref a_0), (1, .int p1), (3, .int x1)]) hx hb d_Ar_fill0_14 hl (k := 2) rfl (by rw [ex9]; rfl) (by decide) rfl (fun ls hl => ?_)
        refine lv_goto (tgt := 5) hx hb d_Ar_fill0_17 (by decide) ?_
        exact ih _ _ _ hm KE H locs ls hP hD hS (lv_sub hl [1, 2, 0, 3] rfl)
  obtain ⟨f4, hb10, hm⟩ := bd1_e hm
  refine L5_5 fu _ _ _ hb10 (fun H locs ls hP hD hS hl => ?_) H locs ls hP hD hS (lv_sub hl [2, 3, 1, 0] rfl)
  cases hm
  exact hret _ H locs ls d_Ar_fill0_20 hP hD hS
set_option maxHeartbeats 4000000 in
set_option maxRecDepth 100000 in
theorem c_Ar_fill0 (l : Launch) (dC : Nat → ClassId) (dI : Nat → Nat → Nat) {cI cZ cJ : ClassId} (a_0 : Nat) (sz : Nat) (n0 : Nat) (f_0 : Nat → Int32) (p1 : Int32) (of_0 : Nat → Int32) (hm : m_Ar_fill0 n0 p1 f_0 = some of_0) : Met l y_Ar_fill0 w_Ar_fill0 rm_Ar_fill0 (PP dC dI [(cI, .int), (cZ, .boolean), (cJ, .long)] [.ref a_0, .int p1] sz (wl_Ar_fill0 a_0 cI n0 f_0)) (QV dC dI [(cI, .int), (cZ, .boolean), (cJ, .long)] sz (wl_Ar_fill0 a_0 cI n0 f_0) (wl_Ar_fill0 a_0 cI n0 of_0)) 0 0 (va_A (wl_Ar_fill0 a_0 cI n0 f_0) sz) := by
  refine Met.ofW (cc := b_Ar_fill0) (maxL := 4) (ret := none) (by decide) rfl ?_
  intro p e s m args below meth c s₁ B hml hv
  obtain ⟨rfl, hsz, hP, hK, hD0, hN⟩ := hv
  subst hsz
  have hl := lv_entry ([.ref a_0, .int p1]) (n := 4) (Nat.le_of_ble_eq_true rfl)
  rw [lg_entry_eq]
  generalize (lg_sl ([.ref a_0, .int p1]) ++ List.replicate (4 - (lg_sl ([.ref a_0, .int p1])).length) Slot.unset).toArray = ls at hl ⊢
  exact t_Ar_fill0 a_0 n0 f_0 p1 of_0 B.exec B.bytes hml (findClass_of_methodNamed B.named) (atoms_spec (ws := w_Ar_fill0) B.pre) hK hN (fun q h => Or.inr h) (fun pc H locs ls hd hP9 hD9 hS => W.vret B.exec B.bytes B.returns (fun t ht hW => ⟨⟨(), rfl, trivial, by rw [ht]; exact hP9, va_K.moved hW.alike hK, hD9⟩, hS.F ht⟩) hS.2.2 hd) hm s.heap [] ls hP hD0.self va_S.rf hl

theorem k_0 : ((.code ⟨"java/util/Arrays", "rangeCheck", "(III)V"⟩ prog_28_method_30_code 3 none) : Cond) ∈ gl := gl_i 542 (by decide +kernel) (by decide +kernel)
theorem k_1 : ((.static ⟨"java/util/Arrays", "rangeCheck", "(III)V"⟩) : Cond) ∈ gl := gl_i 541 (by decide +kernel) (by decide +kernel)
theorem k_2 : ((.initialized "java/util/Arrays") : Cond) ∈ gl := gl_i 19 (by decide +kernel) (by decide +kernel)
theorem k_3 : ((.methodLink "java/util/Arrays" 13 ⟨"java/util/Arrays", "rangeCheck", "(III)V"⟩) : Cond) ∈ gl := gl_i 540 (by decide +kernel) (by decide +kernel)
-- java/util/Arrays.fill([IIII)V
abbrev b_Ar_fill1 : ByteArray := prog_28_method_104_code
abbrev y_Ar_fill1 : MethodName := ⟨"java/util/Arrays", "fill", "([IIII)V"⟩
abbrev w_Ar_fill1 : List Cond := Cond.code y_Ar_fill1 b_Ar_fill1 5 none :: gl
abbrev rm_Ar_fill1 : Room := { frames := 1, cells := 0, slots := 0, locals := 22 }
theorem d_Ar_fill1_0 : decode b_Ar_fill1 0 = .ok (.aload_n 0, 1) := by decide +kernel
theorem d_Ar_fill1_1 : decode b_Ar_fill1 1 = .ok (.arraylength, 1) := by decide +kernel
theorem d_Ar_fill1_2 : decode b_Ar_fill1 2 = .ok (.iload_n 1, 1) := by decide +kernel
theorem d_Ar_fill1_3 : decode b_Ar_fill1 3 = .ok (.iload_n 2, 1) := by decide +kernel
theorem d_Ar_fill1_4 : decode b_Ar_fill1 4 = .ok (.invokestatic 13, 3) := by decide +kernel
theorem d_Ar_fill1_7 : decode b_Ar_fill1 7 = .ok (.iload_n 1, 1) := by decide +kernel
theorem d_Ar_fill1_8 : decode b_Ar_fill1 8 = .ok (.istore 4, 2) := by decide +kernel
theorem d_Ar_fill1_10 : decode b_Ar_fill1 10 = .ok (.iload 4, 2) := by decide +kernel
theorem d_Ar_fill1_12 : decode b_Ar_fill1 12 = .ok (.iload_n 2, 1) := by decide +kernel
theorem d_Ar_fill1_13 : decode b_Ar_fill1 13 = .ok (.if_icmp .ge 14, 3) := by decide +kernel
theorem d_Ar_fill1_16 : decode b_Ar_fill1 16 = .ok (.aload_n 0, 1) := by decide +kernel
theorem d_Ar_fill1_17 : decode b_Ar_fill1 17 = .ok (.iload 4, 2) := by decide +kernel
theorem d_Ar_fill1_19 : decode b_Ar_fill1 19 = .ok (.iload_n 3, 1) := by decide +kernel
theorem d_Ar_fill1_20 : decode b_Ar_fill1 20 = .ok (.iastore, 1) := by decide +kernel
theorem d_Ar_fill1_21 : decode b_Ar_fill1 21 = .ok (.iinc 4 1, 3) := by decide +kernel
theorem d_Ar_fill1_24 : decode b_Ar_fill1 24 = .ok (.goto (-14), 3) := by decide +kernel
theorem d_Ar_fill1_27 : decode b_Ar_fill1 27 = .ok (.return_, 1) := by decide +kernel
abbrev wl_Ar_fill1 (a_0 : Nat) (cI : ClassId) (n0 : Nat) (f_0 : Nat → Int32) : va_W := [(a_0, .inl (cI, n0, .inl f_0))]
def m_Ar_fill1_L10 (l2 : Int32) (l3 : Int32) (n0 : Nat) : Nat → Int32 → (Nat → Int32) → Option ((Nat → Int32))
  | 0, _, _ => none
  | n + 1, l4, f_0 =>
    if l2 ≤ l4 then (
      some f_0)
    else (
      gI l4 n0 <|
      lt_ (upd f_0 l4.toNatClampNeg l3) fun f4 =>
      lt_ (l4 + 1) fun x5 =>
      m_Ar_fill1_L10 l2 l3 n0 n x5 f4)
def m_Ar_fill1 (n0 : Nat) (p1 : Int32) (p2 : Int32) (p3 : Int32) (f_0 : Nat → Int32) : Option ((Nat → Int32)) :=
  bd0 (m_Ar_rangeCheck (Int32.ofNat n0) p1 p2) <|
  bd1 (m_Ar_fill1_L10 p2 p3 n0 fu p1 f_0) fun f4 =>
  some f4

set_option maxHeartbeats 4000000 in
set_option maxRecDepth 100000 in
theorem t_Ar_fill1 {p : Program} {l : Launch} {e : Env} {s : State} {m : MethodId} {args : Array Value} {below : List Frame} {meth : Method} {c : Code} {A : Nat → Prop} {Q : State → Prop} {dC : Nat → ClassId} {dI : Nat → Nat → Nat} {cI cZ cJ : ClassId} (a_0 : Nat) (n0 : Nat) (f_0 : Nat → Int32) (p1 : Int32) (p2 : Int32) (p3 : Int32) (of_0 : Nat → Int32) (hx : p.tables.exec = Jvm.exec) (hb : c.code = b_Ar_fill1) (hml : c.maxLocals = 5) (hown : s.vm.findClass "java/util/Arrays" = some m.cls) (hts : ∀ w ∈ w_Ar_fill1, w.before args s = true) (hK : va_K (dC, dI) vwCl [(cI, .int), (cZ, .boolean), (cJ, .long)] s) (hN : NX s) (hA : ∀ q : Nat, s.heap.size ≤ q → A q)
    (hret : ∀ (pc : Nat) (H : Heap) (locs : List Loc) (ls : Array Slot), decode b_Ar_fill1 pc = .ok (.return_, 1) → va_P (dC, dI) vwCl (wl_Ar_fill1 a_0 cI n0 of_0) H → va_D A (wl_Ar_fill1 a_0 cI n0 of_0) → va_S A s.heap H locs → W p l e rm_Ar_fill1 s m args below meth c H locs 0 0 Q (F0 m pc ls []))
    (hm : m_Ar_fill1 n0 p1 p2 p3 f_0 = some of_0) : ∀ (H : Heap) (locs : List Loc) (ls : Array Slot), va_P (dC, dI) vwCl (wl_Ar_fill1 a_0 cI n0 f_0) H → va_D A (wl_Ar_fill1 a_0 cI n0 f_0) → va_S A s.heap H locs → lv_has ls 5 [(0, .ref a_0), (1, .int p1), (2, .int p2), (3, .int p3)] → W p l e rm_Ar_fill1 s m args below meth c H locs 0 0 Q (F0 m 0 ls []) := by
  intro H locs ls hP hD hS hl
  unfold m_Ar_fill1 at hm
  refine lv_aload_n hx hb d_Ar_fill1_0 rfl (lv_at hl 0 rfl) ?_
  refine va_alen (v := (Int32.ofNat n0)) hx hb hK hP 0 0 rfl rfl rfl d_Ar_fill1_1 ?_
  refine lv_iload_n hx hb d_Ar_fill1_2 rfl (lv_at hl 1 rfl) ?_
  refine lv_iload_n hx hb d_Ar_fill1_3 rfl (lv_at hl 2 rfl) ?_
  obtain ⟨hb1, hm⟩ := bd0_e hm
  have hPc := hP.sub (ws' := (wl_Ar_rangeCheck)) [] rfl
  have hDc := hD.sub (ws' := (wl_Ar_rangeCheck)) [] (by decide) rfl
  refine cl_v (wc' := (wl_Ar_rangeCheck)) (va_runS (As := [.int (Int32.ofNat n0), .int p1, .int p2]) (rest := []) ⟨hx, hb, hml, hown, hts⟩ (c_Ar_rangeCheck l dC dI (cI := cI) (cZ := cZ) (cJ := cJ) H.size (Int32.ofNat n0) p1 p2 hb1) (va_cwS 3 hts (gl_S k_3 k_1 k_2 k_0) rfl rfl rfl (by decide +kernel) ⟨Nat.le_of_ble_eq_true rfl, Nat.le_of_ble_eq_true rfl⟩) ⟨PP_blind, fun U hU hW => PP_at hK hN hPc hDc hU hW⟩ rfl rfl hl.1 rfl (lv_room (Nat.le_of_ble_eq_true rfl)) d_Ar_fill1_4 ⟨Nat.zero_le _, Nat.zero_le _⟩) hP hD hS hA [] [0] rfl rfl (by decide) (by decide) (fun H locs hP hD hS => ?_)
  have hP : va_P (dC, dI) vwCl (wl_Ar_fill1 a_0 cI n0 f_0) H := hP.sub [0] rfl
  have hD : va_D A (wl_Ar_fill1 a_0 cI n0 f_0) := hD.sub [0] (by decide) rfl
  refine lv_iload_n hx hb d_Ar_fill1_7 rfl (lv_at hl 1 rfl) ?_
  refine lv_istore (lv' := [(4, .int p1), (0, .ref a_0), (1, .int p1), (2, .int p2), (3, .int p3)]) hx hb d_Ar_fill1_8 hl (by decide) rfl (fun ls hl => ?_)
  have L10_5 : ∀ (n : Nat) (x2 : Int32) (f3 : Nat → Int32) (f4 : Nat → Int32), m_Ar_fill1_L10 p2 p3 n0 n x2 f3 = some f4 → (∀ (H : Heap) (locs : List Loc) (ls : Array Slot), va_P (dC, dI) vwCl (wl_Ar_fill1 a_0 cI n0 f4) H → va_D A (wl_Ar_fill1 a_0 cI n0 f4) → va_S A s.heap H locs → lv_has ls 5 [] → W p l e rm_Ar_fill1 s m args below meth c H locs 0 0 Q (F0 m 27 ls [])) → ∀ (H : Heap) (locs : List Loc) (ls : Array Slot), va_P (dC, dI) vwCl (wl_Ar_fill1 a_0 cI n0 f3) H → va_D A (wl_Ar_fill1 a_0 cI n0 f3) → va_S A s.heap H locs → lv_has ls 5 [(0, .ref a_0), (2, .int p2), (3, .int p3), (4, .int x2)] → W p l e rm_Ar_fill1 s m args below meth c H locs 0 0 Q (F0 m 10 ls []) := by
    intro n
    induction n with
    | zero => intro x2 f3 f4 hm; simp [m_Ar_fill1_L10] at hm
    | succ n ih =>
      intro x2 f3 f4 hm KE H locs ls hP hD hS hl
      rw [m_Ar_fill1_L10] at hm
      refine lv_iload hx hb d_Ar_fill1_10 (lv_at hl 3 rfl) ?_
      refine lv_iload_n hx hb d_Ar_fill1_12 rfl (lv_at hl 1 rfl) ?_
      refine lv_icmp_ge (tgt := 27) hx hb d_Ar_fill1_13 (by decide) (fun c6 => ?_) (fun c6 => ?_)
      · replace hm := if_t hm c6
        cases hm
        exact KE H locs ls hP hD hS (lv_sub hl [] rfl)
      · replace hm := if_f hm c6
        refine lv_aload_n hx hb d_Ar_fill1_16 rfl (lv_at hl 0 rfl) ?_
        refine lv_iload hx hb d_Ar_fill1_17 (lv_at hl 3 rfl) ?_
        refine lv_iload_n hx hb d_Ar_fill1_19 rfl (lv_at hl 2 rfl) ?_
        obtain ⟨hi7, hm⟩ := gI_e hm
        obtain ⟨f8, ef8⟩ : ∃ y : Nat → Int32, y = upd f3 x2.toNatClampNeg p3 := ⟨_, rfl⟩
        replace hm := lt_el hm ef8
        refine va_iast hx hb hK hP hD hS 0 0 rfl rfl hi7 d_Ar_fill1_20 (fun H locs hP hD hS => ?_)
        rw [← ef8] at hP hD
        have hP : va_P (dC, dI) vwCl (wl_Ar_fill1 a_0 cI n0 f8) H := hP
        have hD : va_D A (wl_Ar_fill1 a_0 cI n0 f8) := hD
        obtain ⟨x9, ex9⟩ : ∃ y : Int32, y = x2 + 1 := ⟨_, rfl⟩
        replace hm := lt_el hm ex9
        refine lv_iinc (v := x9) (lv' := [(4, .int x9), (0, .ref a_0), (2, .int p2), (3, .int p3)]) hx hb d_Ar_fill1_21 hl (k := 3) rfl (by rw [ex9]; rfl) (by decide) rfl (fun ls hl => ?_)
        refine lv_goto (tgt := 10) hx hb d_Ar_fill1_24 (by decide) ?_
        exact ih _ _ _ hm KE H locs ls hP hD hS (lv_sub hl [1, 2, 3, 0] rfl)
  obtain ⟨f4, hb10, hm⟩ := bd1_e hm
  refine L10_5 fu _ _ _ hb10 (fun H locs ls hP hD hS hl => ?_) H locs ls hP hD hS (lv_sub hl [1, 3, 4, 0] rfl)
  cases hm
  exact hret _ H locs ls d_Ar_fill1_27 hP hD hS
set_option maxHeartbeats 4000000 in
set_option maxRecDepth 100000 in
theorem c_Ar_fill1 (l : Launch) (dC : Nat → ClassId) (dI : Nat → Nat → Nat) {cI cZ cJ : ClassId} (a_0 : Nat) (sz : Nat) (n0 : Nat) (f_0 : Nat → Int32) (p1 : Int32) (p2 : Int32) (p3 : Int32) (of_0 : Nat → Int32) (hm : m_Ar_fill1 n0 p1 p2 p3 f_0 = some of_0) : Met l y_Ar_fill1 w_Ar_fill1 rm_Ar_fill1 (PP dC dI [(cI, .int), (cZ, .boolean), (cJ, .long)] [.ref a_0, .int p1, .int p2, .int p3] sz (wl_Ar_fill1 a_0 cI n0 f_0)) (QV dC dI [(cI, .int), (cZ, .boolean), (cJ, .long)] sz (wl_Ar_fill1 a_0 cI n0 f_0) (wl_Ar_fill1 a_0 cI n0 of_0)) 0 0 (va_A (wl_Ar_fill1 a_0 cI n0 f_0) sz) := by
  refine Met.ofW (cc := b_Ar_fill1) (maxL := 5) (ret := none) (by decide) rfl ?_
  intro p e s m args below meth c s₁ B hml hv
  obtain ⟨rfl, hsz, hP, hK, hD0, hN⟩ := hv
  subst hsz
  have hl := lv_entry ([.ref a_0, .int p1, .int p2, .int p3]) (n := 5) (Nat.le_of_ble_eq_true rfl)
  rw [lg_entry_eq]
  generalize (lg_sl ([.ref a_0, .int p1, .int p2, .int p3]) ++ List.replicate (5 - (lg_sl ([.ref a_0, .int p1, .int p2, .int p3])).length) Slot.unset).toArray = ls at hl ⊢
  exact t_Ar_fill1 a_0 n0 f_0 p1 p2 p3 of_0 B.exec B.bytes hml (findClass_of_methodNamed B.named) (atoms_spec (ws := w_Ar_fill1) B.pre) hK hN (fun q h => Or.inr h) (fun pc H locs ls hd hP9 hD9 hS => W.vret B.exec B.bytes B.returns (fun t ht hW => ⟨⟨(), rfl, trivial, by rw [ht]; exact hP9, va_K.moved hW.alike hK, hD9⟩, hS.F ht⟩) hS.2.2 hd) hm s.heap [] ls hP hD0.self va_S.rf hl

theorem k_4 : ((.fieldLink "SpaceCycles$Cuts" 15 "SpaceCycles$Cuts" "count" "I") : Cond) ∈ gl := gl_i 286 (by decide +kernel) (by decide +kernel)
theorem k_5 : ((.fieldLink "SpaceCycles$Cuts" 9 "SpaceCycles$Cuts" "places" "[I") : Cond) ∈ gl := gl_i 283 (by decide +kernel) (by decide +kernel)
-- SpaceCycles$Cuts.upTo(I)I
abbrev b_Cu_upTo : ByteArray := prog_3_method_3_code
abbrev y_Cu_upTo : MethodName := ⟨"SpaceCycles$Cuts", "upTo", "(I)I"⟩
abbrev w_Cu_upTo : List Cond := Cond.code y_Cu_upTo b_Cu_upTo 3 (some .int) :: gl
abbrev rm_Cu_upTo : Room := { frames := 0, cells := 0, slots := 0, locals := 0 }
theorem d_Cu_upTo_0 : decode b_Cu_upTo 0 = .ok (.iconst 0, 1) := by decide +kernel
theorem d_Cu_upTo_1 : decode b_Cu_upTo 1 = .ok (.istore_n 2, 1) := by decide +kernel
theorem d_Cu_upTo_2 : decode b_Cu_upTo 2 = .ok (.iload_n 2, 1) := by decide +kernel
theorem d_Cu_upTo_3 : decode b_Cu_upTo 3 = .ok (.aload_n 0, 1) := by decide +kernel
theorem d_Cu_upTo_4 : decode b_Cu_upTo 4 = .ok (.getfield 15, 3) := by decide +kernel
theorem d_Cu_upTo_7 : decode b_Cu_upTo 7 = .ok (.if_icmp .ge 19, 3) := by decide +kernel
theorem d_Cu_upTo_10 : decode b_Cu_upTo 10 = .ok (.aload_n 0, 1) := by decide +kernel
theorem d_Cu_upTo_11 : decode b_Cu_upTo 11 = .ok (.getfield 9, 3) := by decide +kernel
theorem d_Cu_upTo_14 : decode b_Cu_upTo 14 = .ok (.iload_n 2, 1) := by decide +kernel
theorem d_Cu_upTo_15 : decode b_Cu_upTo 15 = .ok (.iaload, 1) := by decide +kernel
theorem d_Cu_upTo_16 : decode b_Cu_upTo 16 = .ok (.iload_n 1, 1) := by decide +kernel
theorem d_Cu_upTo_17 : decode b_Cu_upTo 17 = .ok (.if_icmp .gt 9, 3) := by decide +kernel
theorem d_Cu_upTo_20 : decode b_Cu_upTo 20 = .ok (.iinc 2 1, 3) := by decide +kernel
theorem d_Cu_upTo_23 : decode b_Cu_upTo 23 = .ok (.goto (-21), 3) := by decide +kernel
theorem d_Cu_upTo_26 : decode b_Cu_upTo 26 = .ok (.iload_n 2, 1) := by decide +kernel
theorem d_Cu_upTo_27 : decode b_Cu_upTo 27 = .ok (.ireturn, 1) := by decide +kernel
abbrev wl_Cu_upTo (a_0 : Nat) (a_0_places : Nat) (cI : ClassId) (v_0_count : Int32) (f_0_places : Nat → Int32) : va_W := [(a_0, .inr (9, [.ref a_0_places, .int v_0_count])), (a_0_places, .inl (cI, 40, .inl f_0_places))]
def m_Cu_upTo_L2 (l1 : Int32) (v_0_count : Int32) (f_0_places : Nat → Int32) : Nat → Int32 → Option (Int32)
  | 0, _ => none
  | n + 1, l2 =>
    if v_0_count ≤ l2 then (
      some l2)
    else (
      gI l2 40 <|
      if l1 < (f_0_places l2.toNatClampNeg) then (
        some l2)
      else (
        lt_ (l2 + 1) fun x4 =>
        m_Cu_upTo_L2 l1 v_0_count f_0_places n x4))
def m_Cu_upTo (p1 : Int32) (v_0_count : Int32) (f_0_places : Nat → Int32) : Option (Int32) :=
  bd1 (m_Cu_upTo_L2 p1 v_0_count f_0_places fu 0) fun x2 =>
  some x2

set_option maxHeartbeats 4000000 in
set_option maxRecDepth 100000 in
theorem t_Cu_upTo {p : Program} {l : Launch} {e : Env} {s : State} {m : MethodId} {args : Array Value} {below : List Frame} {meth : Method} {c : Code} {A : Nat → Prop} {Q : State → Prop} {dC : Nat → ClassId} {dI : Nat → Nat → Nat} {cI cZ cJ : ClassId} (a_0 a_0_places : Nat) (v_0_count : Int32) (f_0_places : Nat → Int32) (p1 : Int32) (R0 : Int32) (hx : p.tables.exec = Jvm.exec) (hb : c.code = b_Cu_upTo) (hml : c.maxLocals = 3) (hown : s.vm.findClass "SpaceCycles$Cuts" = some m.cls) (hts : ∀ w ∈ w_Cu_upTo, w.before args s = true) (hK : va_K (dC, dI) vwCl [(cI, .int), (cZ, .boolean), (cJ, .long)] s) (hN : NX s) (hA : ∀ q : Nat, s.heap.size ≤ q → A q)
    (hret : ∀ (pc : Nat) (H : Heap) (locs : List Loc) (ls : Array Slot), decode b_Cu_upTo pc = .ok (.ireturn, 1) → va_P (dC, dI) vwCl (wl_Cu_upTo a_0 a_0_places cI v_0_count f_0_places) H → va_D A (wl_Cu_upTo a_0 a_0_places cI v_0_count f_0_places) → va_S A s.heap H locs → W p l e rm_Cu_upTo s m args below meth c H locs 0 0 Q (F0 m pc ls [.int R0]))
    (hm : m_Cu_upTo p1 v_0_count f_0_places = some R0) : ∀ (H : Heap) (locs : List Loc) (ls : Array Slot), va_P (dC, dI) vwCl (wl_Cu_upTo a_0 a_0_places cI v_0_count f_0_places) H → va_D A (wl_Cu_upTo a_0 a_0_places cI v_0_count f_0_places) → va_S A s.heap H locs → lv_has ls 3 [(0, .ref a_0), (1, .int p1)] → W p l e rm_Cu_upTo s m args below meth c H locs 0 0 Q (F0 m 0 ls []) := by
  intro H locs ls hP hD hS hl
  unfold m_Cu_upTo at hm
  refine lv_iconst (v := 0) hx hb d_Cu_upTo_0 (by decide) ?_
  refine lv_istore_n (lv' := [(2, .int 0), (0, .ref a_0), (1, .int p1)]) hx hb d_Cu_upTo_1 rfl hl (by decide) rfl (fun ls hl => ?_)
  have L2_3 : ∀ (n : Nat) (x1 : Int32) (x2 : Int32), m_Cu_upTo_L2 p1 v_0_count f_0_places n x1 = some x2 → (∀ (H : Heap) (locs : List Loc) (ls : Array Slot), va_P (dC, dI) vwCl (wl_Cu_upTo a_0 a_0_places cI v_0_count f_0_places) H → va_D A (wl_Cu_upTo a_0 a_0_places cI v_0_count f_0_places) → va_S A s.heap H locs → lv_has ls 3 [(2, .int x2)] → W p l e rm_Cu_upTo s m args below meth c H locs 0 0 Q (F0 m 26 ls [])) → ∀ (H : Heap) (locs : List Loc) (ls : Array Slot), va_P (dC, dI) vwCl (wl_Cu_upTo a_0 a_0_places cI v_0_count f_0_places) H → va_D A (wl_Cu_upTo a_0 a_0_places cI v_0_count f_0_places) → va_S A s.heap H locs → lv_has ls 3 [(0, .ref a_0), (1, .int p1), (2, .int x1)] → W p l e rm_Cu_upTo s m args below meth c H locs 0 0 Q (F0 m 2 ls []) := by
    intro n
    induction n with
    | zero => intro x1 x2 hm; simp [m_Cu_upTo_L2] at hm
    | succ n ih =>
      intro x1 x2 hm KE H locs ls hP hD hS hl
      rw [m_Cu_upTo_L2] at hm
      refine lv_iload_n hx hb d_Cu_upTo_2 rfl (lv_at hl 2 rfl) ?_
      refine lv_aload_n hx hb d_Cu_upTo_3 rfl (lv_at hl 0 rfl) ?_
      refine va_get (D := (dC, dI)) (ci := 9) (v := .int v_0_count) (C := "SpaceCycles$Cuts") (T := F_Cu) (N := 2) hx hb hts (in_F i_Cu) hown hK hP 0 rfl rfl 1 (by decide) (hts _ (in_c k_4)) (fun _ h9 => h9) rfl d_Cu_upTo_4 ?_
      refine lv_icmp_ge (tgt := 26) hx hb d_Cu_upTo_7 (by decide) (fun c4 => ?_) (fun c4 => ?_)
      · replace hm := if_t hm c4
        cases hm
        exact KE H locs ls hP hD hS (lv_sub hl [2] rfl)
      · replace hm := if_f hm c4
        refine lv_aload_n hx hb d_Cu_upTo_10 rfl (lv_at hl 0 rfl) ?_
        refine va_get (D := (dC, dI)) (ci := 9) (v := .ref a_0_places) (C := "SpaceCycles$Cuts") (T := F_Cu) (N := 2) hx hb hts (in_F i_Cu) hown hK hP 0 rfl rfl 0 (by decide) (hts _ (in_c k_5)) (fun _ h9 => h9) rfl d_Cu_upTo_11 ?_
        refine lv_iload_n hx hb d_Cu_upTo_14 rfl (lv_at hl 2 rfl) ?_
        obtain ⟨hi5, hm⟩ := gI_e hm
        refine va_iald hx hb hK hP 1 0 rfl rfl hi5 d_Cu_upTo_15 ?_
        refine lv_iload_n hx hb d_Cu_upTo_16 rfl (lv_at hl 1 rfl) ?_
        refine lv_icmp_gt (tgt := 26) hx hb d_Cu_upTo_17 (by decide) (fun c6 => ?_) (fun c6 => ?_)
        · replace hm := if_t hm c6
          cases hm
          exact KE H locs ls hP hD hS (lv_sub hl [2] rfl)
        · replace hm := if_f hm c6
          obtain ⟨x7, ex7⟩ : ∃ y : Int32, y = x1 + 1 := ⟨_, rfl⟩
          replace hm := lt_el hm ex7
          refine lv_iinc (v := x7) (lv' := [(2, .int x7), (0, .ref a_0), (1, .int p1)]) hx hb d_Cu_upTo_20 hl (k := 2) rfl (by rw [ex7]; rfl) (by decide) rfl (fun ls hl => ?_)
          refine lv_goto (tgt := 2) hx hb d_Cu_upTo_23 (by decide) ?_
          exact ih _ _ hm KE H locs ls hP hD hS (lv_sub hl [1, 2, 0] rfl)
  obtain ⟨x2, hb8, hm⟩ := bd1_e hm
  refine L2_3 fu _ _ hb8 (fun H locs ls hP hD hS hl => ?_) H locs ls hP hD hS (lv_sub hl [1, 2, 0] rfl)
  refine lv_iload_n hx hb d_Cu_upTo_26 rfl (lv_at hl 0 rfl) ?_
  cases hm
  exact hret _ H locs ls d_Cu_upTo_27 hP hD hS
set_option maxHeartbeats 4000000 in
set_option maxRecDepth 100000 in
theorem c_Cu_upTo (l : Launch) (dC : Nat → ClassId) (dI : Nat → Nat → Nat) {cI cZ cJ : ClassId} (a_0 a_0_places : Nat) (sz : Nat) (v_0_count : Int32) (f_0_places : Nat → Int32) (p1 : Int32) (R0 : Int32) (hm : m_Cu_upTo p1 v_0_count f_0_places = some R0) : Met l y_Cu_upTo w_Cu_upTo rm_Cu_upTo (PP dC dI [(cI, .int), (cZ, .boolean), (cJ, .long)] [.ref a_0, .int p1] sz (wl_Cu_upTo a_0 a_0_places cI v_0_count f_0_places)) (QI dC dI [(cI, .int), (cZ, .boolean), (cJ, .long)] sz (wl_Cu_upTo a_0 a_0_places cI v_0_count f_0_places) (wl_Cu_upTo a_0 a_0_places cI v_0_count f_0_places) R0) 0 0 (va_A (wl_Cu_upTo a_0 a_0_places cI v_0_count f_0_places) sz) := by
  refine Met.ofW (cc := b_Cu_upTo) (maxL := 3) (ret := (some .int)) (by decide) rfl ?_
  intro p e s m args below meth c s₁ B hml hv
  obtain ⟨rfl, hsz, hP, hK, hD0, hN⟩ := hv
  subst hsz
  have hl := lv_entry ([.ref a_0, .int p1]) (n := 3) (Nat.le_of_ble_eq_true rfl)
  rw [lg_entry_eq]
  generalize (lg_sl ([.ref a_0, .int p1]) ++ List.replicate (3 - (lg_sl ([.ref a_0, .int p1])).length) Slot.unset).toArray = ls at hl ⊢
  exact t_Cu_upTo a_0 a_0_places v_0_count f_0_places p1 R0 B.exec B.bytes hml (findClass_of_methodNamed B.named) (atoms_spec (ws := w_Cu_upTo) B.pre) hK hN (fun q h => Or.inr h) (fun pc H locs ls hd hP9 hD9 hS => W.iret B.exec B.bytes B.returns (fun t ht hW => ⟨⟨_, (), rfl, rfl, by rw [ht]; exact hP9, va_K.moved hW.alike hK, hD9⟩, hS.F ht⟩) hS.2.2 hd) hm s.heap [] ls hP hD0.self va_S.rf hl

theorem k_6 : ((.code ⟨"SpaceCycles$Cuts", "upTo", "(I)I"⟩ prog_3_method_3_code 3 (some .int)) : Cond) ∈ gl := gl_i 525 (by decide +kernel) (by decide +kernel)
theorem k_7 : ((.selects "SpaceCycles$Cuts" ⟨"SpaceCycles$Cuts", "upTo", "(I)I"⟩ ⟨"SpaceCycles$Cuts", "upTo", "(I)I"⟩) : Cond) ∈ gl := gl_i 524 (by decide +kernel) (by decide +kernel)
theorem k_8 : ((.instanceMethod ⟨"SpaceCycles$Cuts", "upTo", "(I)I"⟩) : Cond) ∈ gl := gl_i 523 (by decide +kernel) (by decide +kernel)
theorem k_9 : ((.initialized "SpaceCycles$Cuts") : Cond) ∈ gl := gl_i 11 (by decide +kernel) (by decide +kernel)
theorem k_10 : ((.methodLink "SpaceCycles$Cuts" 19 ⟨"SpaceCycles$Cuts", "upTo", "(I)I"⟩) : Cond) ∈ gl := gl_i 522 (by decide +kernel) (by decide +kernel)
-- SpaceCycles$Cuts.add(I)V
abbrev b_Cu_add : ByteArray := prog_3_method_2_code
abbrev y_Cu_add : MethodName := ⟨"SpaceCycles$Cuts", "add", "(I)V"⟩
abbrev w_Cu_add : List Cond := Cond.code y_Cu_add b_Cu_add 5 none :: gl
abbrev rm_Cu_add : Room := { frames := 1, cells := 0, slots := 0, locals := 22 }
theorem d_Cu_add_0 : decode b_Cu_add 0 = .ok (.aload_n 0, 1) := by decide +kernel
theorem d_Cu_add_1 : decode b_Cu_add 1 = .ok (.iload_n 1, 1) := by decide +kernel
theorem d_Cu_add_2 : decode b_Cu_add 2 = .ok (.invokevirtual 19, 3) := by decide +kernel
theorem d_Cu_add_5 : decode b_Cu_add 5 = .ok (.istore_n 2, 1) := by decide +kernel
theorem d_Cu_add_6 : decode b_Cu_add 6 = .ok (.iload_n 2, 1) := by decide +kernel
theorem d_Cu_add_7 : decode b_Cu_add 7 = .ok (.ifCond .le 19, 3) := by decide +kernel
theorem d_Cu_add_10 : decode b_Cu_add 10 = .ok (.aload_n 0, 1) := by decide +kernel
theorem d_Cu_add_11 : decode b_Cu_add 11 = .ok (.getfield 9, 3) := by decide +kernel
theorem d_Cu_add_14 : decode b_Cu_add 14 = .ok (.iload_n 2, 1) := by decide +kernel
theorem d_Cu_add_15 : decode b_Cu_add 15 = .ok (.iconst 1, 1) := by decide +kernel
theorem d_Cu_add_16 : decode b_Cu_add 16 = .ok (.isub, 1) := by decide +kernel
theorem d_Cu_add_17 : decode b_Cu_add 17 = .ok (.iaload, 1) := by decide +kernel
theorem d_Cu_add_18 : decode b_Cu_add 18 = .ok (.iload_n 1, 1) := by decide +kernel
theorem d_Cu_add_19 : decode b_Cu_add 19 = .ok (.if_icmp .ne 7, 3) := by decide +kernel
theorem d_Cu_add_22 : decode b_Cu_add 22 = .ok (.iconst 1, 1) := by decide +kernel
theorem d_Cu_add_23 : decode b_Cu_add 23 = .ok (.goto 4, 3) := by decide +kernel
theorem d_Cu_add_26 : decode b_Cu_add 26 = .ok (.iconst 0, 1) := by decide +kernel
theorem d_Cu_add_27 : decode b_Cu_add 27 = .ok (.istore_n 3, 1) := by decide +kernel
theorem d_Cu_add_28 : decode b_Cu_add 28 = .ok (.iload_n 3, 1) := by decide +kernel
theorem d_Cu_add_29 : decode b_Cu_add 29 = .ok (.ifCond .ne 12, 3) := by decide +kernel
theorem d_Cu_add_32 : decode b_Cu_add 32 = .ok (.aload_n 0, 1) := by decide +kernel
theorem d_Cu_add_33 : decode b_Cu_add 33 = .ok (.getfield 15, 3) := by decide +kernel
theorem d_Cu_add_36 : decode b_Cu_add 36 = .ok (.bipush 40, 2) := by decide +kernel
theorem d_Cu_add_38 : decode b_Cu_add 38 = .ok (.if_icmp .lt 4, 3) := by decide +kernel
theorem d_Cu_add_41 : decode b_Cu_add 41 = .ok (.return_, 1) := by decide +kernel
theorem d_Cu_add_42 : decode b_Cu_add 42 = .ok (.aload_n 0, 1) := by decide +kernel
theorem d_Cu_add_43 : decode b_Cu_add 43 = .ok (.getfield 15, 3) := by decide +kernel
theorem d_Cu_add_46 : decode b_Cu_add 46 = .ok (.istore 4, 2) := by decide +kernel
theorem d_Cu_add_48 : decode b_Cu_add 48 = .ok (.iload 4, 2) := by decide +kernel
theorem d_Cu_add_50 : decode b_Cu_add 50 = .ok (.iload_n 2, 1) := by decide +kernel
theorem d_Cu_add_51 : decode b_Cu_add 51 = .ok (.if_icmp .le 25, 3) := by decide +kernel
theorem d_Cu_add_54 : decode b_Cu_add 54 = .ok (.aload_n 0, 1) := by decide +kernel
theorem d_Cu_add_55 : decode b_Cu_add 55 = .ok (.getfield 9, 3) := by decide +kernel
theorem d_Cu_add_58 : decode b_Cu_add 58 = .ok (.iload 4, 2) := by decide +kernel
theorem d_Cu_add_60 : decode b_Cu_add 60 = .ok (.aload_n 0, 1) := by decide +kernel
theorem d_Cu_add_61 : decode b_Cu_add 61 = .ok (.getfield 9, 3) := by decide +kernel
theorem d_Cu_add_64 : decode b_Cu_add 64 = .ok (.iload 4, 2) := by decide +kernel
theorem d_Cu_add_66 : decode b_Cu_add 66 = .ok (.iconst 1, 1) := by decide +kernel
theorem d_Cu_add_67 : decode b_Cu_add 67 = .ok (.isub, 1) := by decide +kernel
theorem d_Cu_add_68 : decode b_Cu_add 68 = .ok (.iaload, 1) := by decide +kernel
theorem d_Cu_add_69 : decode b_Cu_add 69 = .ok (.iastore, 1) := by decide +kernel
theorem d_Cu_add_70 : decode b_Cu_add 70 = .ok (.iinc 4 (-1), 3) := by decide +kernel
theorem d_Cu_add_73 : decode b_Cu_add 73 = .ok (.goto (-25), 3) := by decide +kernel
theorem d_Cu_add_76 : decode b_Cu_add 76 = .ok (.aload_n 0, 1) := by decide +kernel
theorem d_Cu_add_77 : decode b_Cu_add 77 = .ok (.getfield 9, 3) := by decide +kernel
theorem d_Cu_add_80 : decode b_Cu_add 80 = .ok (.iload_n 2, 1) := by decide +kernel
theorem d_Cu_add_81 : decode b_Cu_add 81 = .ok (.iload_n 1, 1) := by decide +kernel
theorem d_Cu_add_82 : decode b_Cu_add 82 = .ok (.iastore, 1) := by decide +kernel
theorem d_Cu_add_83 : decode b_Cu_add 83 = .ok (.aload_n 0, 1) := by decide +kernel
theorem d_Cu_add_84 : decode b_Cu_add 84 = .ok (.dup, 1) := by decide +kernel
theorem d_Cu_add_85 : decode b_Cu_add 85 = .ok (.getfield 15, 3) := by decide +kernel
theorem d_Cu_add_88 : decode b_Cu_add 88 = .ok (.iconst 1, 1) := by decide +kernel
theorem d_Cu_add_89 : decode b_Cu_add 89 = .ok (.iadd, 1) := by decide +kernel
theorem d_Cu_add_90 : decode b_Cu_add 90 = .ok (.putfield 15, 3) := by decide +kernel
theorem d_Cu_add_93 : decode b_Cu_add 93 = .ok (.return_, 1) := by decide +kernel
abbrev wl_Cu_add (a_0 : Nat) (a_0_places : Nat) (cI : ClassId) (v_0_count : Int32) (f_0_places : Nat → Int32) : va_W := [(a_0, .inr (9, [.ref a_0_places, .int v_0_count])), (a_0_places, .inl (cI, 40, .inl f_0_places))]
def m_Cu_add_L48 (l2 : Int32) : Nat → Int32 → (Nat → Int32) → Option ((Nat → Int32))
  | 0, _, _ => none
  | n + 1, l4, f_0_places =>
    if l4 ≤ l2 then (
      some f_0_places)
    else (
      gI (l4 - 1) 40 <|
      gI l4 40 <|
      lt_ (upd f_0_places l4.toNatClampNeg (f_0_places (l4 - 1).toNatClampNeg)) fun f15 =>
      lt_ (l4 + (-1)) fun x16 =>
      m_Cu_add_L48 l2 n x16 f15)
def m_Cu_add (p1 : Int32) (v_0_count : Int32) (f_0_places : Nat → Int32) : Option ((Int32) × (Nat → Int32)) :=
  bd1 (m_Cu_upTo p1 v_0_count f_0_places) fun r1 =>
  bd1 (
    if r1 ≤ 0 then (
    some 0)
  else (
    gI (r1 - 1) 40 <|
    if (f_0_places (r1 - 1).toNatClampNeg) = p1 then (
      some 1)
    else (
      some 0)))
  fun (x6 : Int32) =>
  if x6 = 0 then (
      if v_0_count < 40 then (
        bd1 (m_Cu_add_L48 r1 fu v_0_count f_0_places) fun f14 =>
        gI r1 40 <|
        lt_ (upd f14 r1.toNatClampNeg p1) fun f23 =>
        lt_ (v_0_count + 1) fun x24 =>
        some (x24, f23))
      else (
        some (v_0_count, f_0_places)))
    else (
      some (v_0_count, f_0_places))

set_option maxHeartbeats 4000000 in
set_option maxRecDepth 100000 in
theorem t_Cu_add {p : Program} {l : Launch} {e : Env} {s : State} {m : MethodId} {args : Array Value} {below : List Frame} {meth : Method} {c : Code} {A : Nat → Prop} {Q : State → Prop} {dC : Nat → ClassId} {dI : Nat → Nat → Nat} {cI cZ cJ : ClassId} (a_0 a_0_places : Nat) (v_0_count : Int32) (f_0_places : Nat → Int32) (p1 : Int32) (ov_0_count : Int32) (of_0_places : Nat → Int32) (hx : p.tables.exec = Jvm.exec) (hb : c.code = b_Cu_add) (hml : c.maxLocals = 5) (hown : s.vm.findClass "SpaceCycles$Cuts" = some m.cls) (hts : ∀ w ∈ w_Cu_add, w.before args s = true) (hK : va_K (dC, dI) vwCl [(cI, .int), (cZ, .boolean), (cJ, .long)] s) (hN : NX s) (hA : ∀ q : Nat, s.heap.size ≤ q → A q)
    (hret : ∀ (pc : Nat) (H : Heap) (locs : List Loc) (ls : Array Slot), decode b_Cu_add pc = .ok (.return_, 1) → va_P (dC, dI) vwCl (wl_Cu_add a_0 a_0_places cI ov_0_count of_0_places) H → va_D A (wl_Cu_add a_0 a_0_places cI ov_0_count of_0_places) → va_S A s.heap H locs → W p l e rm_Cu_add s m args below meth c H locs 0 0 Q (F0 m pc ls []))
    (hm : m_Cu_add p1 v_0_count f_0_places = some (ov_0_count, of_0_places)) : ∀ (H : Heap) (locs : List Loc) (ls : Array Slot), va_P (dC, dI) vwCl (wl_Cu_add a_0 a_0_places cI v_0_count f_0_places) H → va_D A (wl_Cu_add a_0 a_0_places cI v_0_count f_0_places) → va_S A s.heap H locs → lv_has ls 5 [(0, .ref a_0), (1, .int p1)] → W p l e rm_Cu_add s m args below meth c H locs 0 0 Q (F0 m 0 ls []) := by
  intro H locs ls hP hD hS hl
  unfold m_Cu_add at hm
  refine lv_aload_n hx hb d_Cu_add_0 rfl (lv_at hl 0 rfl) ?_
  refine lv_iload_n hx hb d_Cu_add_1 rfl (lv_at hl 1 rfl) ?_
  obtain ⟨r1, hb2, hm⟩ := bd1_e hm
  have hPc := hP.sub (ws' := (wl_Cu_upTo a_0 a_0_places cI v_0_count f_0_places)) [0, 1] rfl
  have hDc := hD.sub (ws' := (wl_Cu_upTo a_0 a_0_places cI v_0_count f_0_places)) [0, 1] (by decide) rfl
  refine cl_i (wc' := (wl_Cu_upTo a_0 a_0_places cI v_0_count f_0_places)) (va_runV (As := [.int p1]) (rest := []) ⟨hx, hb, hml, hown, hts⟩ (c_Cu_upTo l dC dI (cI := cI) (cZ := cZ) (cJ := cJ) a_0 a_0_places H.size v_0_count f_0_places p1 r1 hb2) (cwV 1 hts (gl_V k_10 k_8 k_7 k_9 k_6) rfl rfl rfl (by decide +kernel) ⟨Nat.le_of_ble_eq_true rfl, Nat.le_of_ble_eq_true rfl⟩) ⟨PP_blind, va_recv hK hPc (ci := 9) (q0 := 0) rfl rfl, fun U hU hW => PP_at hK hN hPc hDc hU hW⟩ rfl rfl hl.1 rfl (lv_room (Nat.le_of_ble_eq_true rfl)) d_Cu_add_2 ⟨Nat.zero_le _, Nat.zero_le _⟩) hP hD hS hA [0, 1] [] rfl rfl (by decide) (by decide) (fun H locs hP hD hS => ?_)
  have hP : va_P (dC, dI) vwCl (wl_Cu_add a_0 a_0_places cI v_0_count f_0_places) H := hP.sub [0, 1] rfl
  have hD : va_D A (wl_Cu_add a_0 a_0_places cI v_0_count f_0_places) := hD.sub [0, 1] (by decide) rfl
  refine lv_istore_n (lv' := [(2, .int r1), (0, .ref a_0), (1, .int p1)]) hx hb d_Cu_add_5 rfl hl (by decide) rfl (fun ls hl => ?_)
  refine lv_iload_n hx hb d_Cu_add_6 rfl (lv_at hl 0 rfl) ?_
  obtain ⟨x6, hb4, hm⟩ := bd1_e hm
  have K3 : ∀ (H : Heap) (locs : List Loc) (ls : Array Slot), va_P (dC, dI) vwCl (wl_Cu_add a_0 a_0_places cI v_0_count f_0_places) H → va_D A (wl_Cu_add a_0 a_0_places cI v_0_count f_0_places) → va_S A s.heap H locs → lv_has ls 5 [(0, .ref a_0), (1, .int p1), (2, .int r1)] → W p l e rm_Cu_add s m args below meth c H locs 0 0 Q (F0 m 27 ls [.int x6]) := by
    intro H locs ls hP hD hS hl
    refine lv_istore_n (lv' := [(3, .int x6), (0, .ref a_0), (1, .int p1), (2, .int r1)]) hx hb d_Cu_add_27 rfl hl (by decide) rfl (fun ls hl => ?_)
    refine lv_iload_n hx hb d_Cu_add_28 rfl (lv_at hl 0 rfl) ?_
    refine lv_if_ne (tgt := 41) hx hb d_Cu_add_29 (by decide) (fun c10 => ?_) (fun c10 => ?_)
    · replace hm := if_f hm c10
      cases hm
      exact hret _ H locs ls d_Cu_add_41 hP hD hS
    · replace hm := if_t hm c10
      refine lv_aload_n hx hb d_Cu_add_32 rfl (lv_at hl 1 rfl) ?_
      refine va_get (D := (dC, dI)) (ci := 9) (v := .int v_0_count) (C := "SpaceCycles$Cuts") (T := F_Cu) (N := 2) hx hb hts (in_F i_Cu) hown hK hP 0 rfl rfl 1 (by decide) (hts _ (in_c k_4)) (fun _ h9 => h9) rfl d_Cu_add_33 ?_
      refine lv_bipush (v := 40) hx hb d_Cu_add_36 (by decide) ?_
      refine lv_icmp_lt (tgt := 42) hx hb d_Cu_add_38 (by decide) (fun c11 => ?_) (fun c11 => ?_)
      · replace hm := if_t hm c11
        refine lv_aload_n hx hb d_Cu_add_42 rfl (lv_at hl 1 rfl) ?_
        refine va_get (D := (dC, dI)) (ci := 9) (v := .int v_0_count) (C := "SpaceCycles$Cuts") (T := F_Cu) (N := 2) hx hb hts (in_F i_Cu) hown hK hP 0 rfl rfl 1 (by decide) (hts _ (in_c k_4)) (fun _ h9 => h9) rfl d_Cu_add_43 ?_
        refine lv_istore (lv' := [(4, .int v_0_count), (3, .int x6), (0, .ref a_0), (1, .int p1), (2, .int r1)]) hx hb d_Cu_add_46 hl (by decide) rfl (fun ls hl => ?_)
        have L48_15 : ∀ (n : Nat) (x12 : Int32) (f13 : Nat → Int32) (f14 : Nat → Int32), m_Cu_add_L48 r1 n x12 f13 = some f14 → (∀ (H : Heap) (locs : List Loc) (ls : Array Slot), va_P (dC, dI) vwCl (wl_Cu_add a_0 a_0_places cI v_0_count f14) H → va_D A (wl_Cu_add a_0 a_0_places cI v_0_count f14) → va_S A s.heap H locs → lv_has ls 5 [(0, .ref a_0), (1, .int p1), (2, .int r1)] → W p l e rm_Cu_add s m args below meth c H locs 0 0 Q (F0 m 76 ls [])) → ∀ (H : Heap) (locs : List Loc) (ls : Array Slot), va_P (dC, dI) vwCl (wl_Cu_add a_0 a_0_places cI v_0_count f13) H → va_D A (wl_Cu_add a_0 a_0_places cI v_0_count f13) → va_S A s.heap H locs → lv_has ls 5 [(0, .ref a_0), (1, .int p1), (2, .int r1), (4, .int x12)] → W p l e rm_Cu_add s m args below meth c H locs 0 0 Q (F0 m 48 ls []) := by
          intro n
          induction n with
          | zero => intro x12 f13 f14 hm; simp [m_Cu_add_L48] at hm
          | succ n ih =>
            intro x12 f13 f14 hm KE H locs ls hP hD hS hl
            rw [m_Cu_add_L48] at hm
            refine lv_iload hx hb d_Cu_add_48 (lv_at hl 3 rfl) ?_
            refine lv_iload_n hx hb d_Cu_add_50 rfl (lv_at hl 2 rfl) ?_
            refine lv_icmp_le (tgt := 76) hx hb d_Cu_add_51 (by decide) (fun c16 => ?_) (fun c16 => ?_)
            · replace hm := if_t hm c16
              cases hm
              exact KE H locs ls hP hD hS (lv_sub hl [0, 1, 2] rfl)
            · replace hm := if_f hm c16
              refine lv_aload_n hx hb d_Cu_add_54 rfl (lv_at hl 0 rfl) ?_
              refine va_get (D := (dC, dI)) (ci := 9) (v := .ref a_0_places) (C := "SpaceCycles$Cuts") (T := F_Cu) (N := 2) hx hb hts (in_F i_Cu) hown hK hP 0 rfl rfl 0 (by decide) (hts _ (in_c k_5)) (fun _ h9 => h9) rfl d_Cu_add_55 ?_
              refine lv_iload hx hb d_Cu_add_58 (lv_at hl 3 rfl) ?_
              refine lv_aload_n hx hb d_Cu_add_60 rfl (lv_at hl 0 rfl) ?_
              refine va_get (D := (dC, dI)) (ci := 9) (v := .ref a_0_places) (C := "SpaceCycles$Cuts") (T := F_Cu) (N := 2) hx hb hts (in_F i_Cu) hown hK hP 0 rfl rfl 0 (by decide) (hts _ (in_c k_5)) (fun _ h9 => h9) rfl d_Cu_add_61 ?_
              refine lv_iload hx hb d_Cu_add_64 (lv_at hl 3 rfl) ?_
              refine lv_iconst (v := 1) hx hb d_Cu_add_66 (by decide) ?_
              refine lv_isub hx hb d_Cu_add_67 ?_
              obtain ⟨hi17, hm⟩ := gI_e hm
              refine va_iald hx hb hK hP 1 0 rfl rfl hi17 d_Cu_add_68 ?_
              obtain ⟨hi18, hm⟩ := gI_e hm
              obtain ⟨f19, ef19⟩ : ∃ y : Nat → Int32, y = upd f13 x12.toNatClampNeg (f13 (x12 - 1).toNatClampNeg) := ⟨_, rfl⟩
              replace hm := lt_el hm ef19
              refine va_iast hx hb hK hP hD hS 1 0 rfl rfl hi18 d_Cu_add_69 (fun H locs hP hD hS => ?_)
              rw [← ef19] at hP hD
              have hP : va_P (dC, dI) vwCl (wl_Cu_add a_0 a_0_places cI v_0_count f19) H := hP
              have hD : va_D A (wl_Cu_add a_0 a_0_places cI v_0_count f19) := hD
              obtain ⟨x20, ex20⟩ : ∃ y : Int32, y = x12 + (-1) := ⟨_, rfl⟩
              replace hm := lt_el hm ex20
              refine lv_iinc (v := x20) (lv' := [(4, .int x20), (0, .ref a_0), (1, .int p1), (2, .int r1)]) hx hb d_Cu_add_70 hl (k := 3) rfl (by rw [ex20]; rfl) (by decide) rfl (fun ls hl => ?_)
              refine lv_goto (tgt := 48) hx hb d_Cu_add_73 (by decide) ?_
              exact ih _ _ _ hm KE H locs ls hP hD hS (lv_sub hl [1, 2, 3, 0] rfl)
        obtain ⟨f14, hb21, hm⟩ := bd1_e hm
        refine L48_15 fu _ _ _ hb21 (fun H locs ls hP hD hS hl => ?_) H locs ls hP hD hS (lv_sub hl [2, 3, 4, 0] rfl)
        refine lv_aload_n hx hb d_Cu_add_76 rfl (lv_at hl 0 rfl) ?_
        refine va_get (D := (dC, dI)) (ci := 9) (v := .ref a_0_places) (C := "SpaceCycles$Cuts") (T := F_Cu) (N := 2) hx hb hts (in_F i_Cu) hown hK hP 0 rfl rfl 0 (by decide) (hts _ (in_c k_5)) (fun _ h9 => h9) rfl d_Cu_add_77 ?_
        refine lv_iload_n hx hb d_Cu_add_80 rfl (lv_at hl 2 rfl) ?_
        refine lv_iload_n hx hb d_Cu_add_81 rfl (lv_at hl 1 rfl) ?_
        obtain ⟨hi22, hm⟩ := gI_e hm
        obtain ⟨f23, ef23⟩ : ∃ y : Nat → Int32, y = upd f14 r1.toNatClampNeg p1 := ⟨_, rfl⟩
        replace hm := lt_el hm ef23
        refine va_iast hx hb hK hP hD hS 1 0 rfl rfl hi22 d_Cu_add_82 (fun H locs hP hD hS => ?_)
        rw [← ef23] at hP hD
        have hP : va_P (dC, dI) vwCl (wl_Cu_add a_0 a_0_places cI v_0_count f23) H := hP
        have hD : va_D A (wl_Cu_add a_0 a_0_places cI v_0_count f23) := hD
        refine lv_aload_n hx hb d_Cu_add_83 rfl (lv_at hl 0 rfl) ?_
        refine lv_dup hx hb d_Cu_add_84 rfl ?_
        refine va_get (D := (dC, dI)) (ci := 9) (v := .int v_0_count) (C := "SpaceCycles$Cuts") (T := F_Cu) (N := 2) hx hb hts (in_F i_Cu) hown hK hP 0 rfl rfl 1 (by decide) (hts _ (in_c k_4)) (fun _ h9 => h9) rfl d_Cu_add_85 ?_
        refine lv_iconst (v := 1) hx hb d_Cu_add_88 (by decide) ?_
        refine lv_iadd hx hb d_Cu_add_89 ?_
        refine lv_topi (fun x24 ex24 => ?_)
        replace hm := lt_el hm ex24
        refine va_put (D := (dC, dI)) (ci := 9) (v := .int x24) (ty := .int) (C := "SpaceCycles$Cuts") (T := F_Cu) (N := 2) hx hb hts (in_F i_Cu) t_Cu t_Cu_ok n_Cu hown hK hP hD hS 0 rfl rfl 1 (by decide) (hts _ (in_c k_4)) (fun _ h9 => h9) rfl (by decide +kernel) rfl rfl (Nat.le_of_ble_eq_true rfl) d_Cu_add_90 (fun H locs hP hD hS => ?_)
        have hP : va_P (dC, dI) vwCl (wl_Cu_add a_0 a_0_places cI x24 f23) H := hP
        have hD : va_D A (wl_Cu_add a_0 a_0_places cI x24 f23) := hD
        cases hm
        exact hret _ H locs ls d_Cu_add_93 hP hD hS
      · replace hm := if_f hm c11
        cases hm
        exact hret _ H locs ls d_Cu_add_41 hP hD hS
  replace hm := hb4
  refine lv_if_le (tgt := 26) hx hb d_Cu_add_7 (by decide) (fun c7 => ?_) (fun c7 => ?_)
  · replace hm := if_t hm c7
    refine lv_iconst (v := 0) hx hb d_Cu_add_26 (by decide) ?_
    cases hm
    exact K3 H locs ls hP hD hS (lv_sub hl [1, 2, 0] rfl)
  · replace hm := if_f hm c7
    refine lv_aload_n hx hb d_Cu_add_10 rfl (lv_at hl 1 rfl) ?_
    refine va_get (D := (dC, dI)) (ci := 9) (v := .ref a_0_places) (C := "SpaceCycles$Cuts") (T := F_Cu) (N := 2) hx hb hts (in_F i_Cu) hown hK hP 0 rfl rfl 0 (by decide) (hts _ (in_c k_5)) (fun _ h9 => h9) rfl d_Cu_add_11 ?_
    refine lv_iload_n hx hb d_Cu_add_14 rfl (lv_at hl 0 rfl) ?_
    refine lv_iconst (v := 1) hx hb d_Cu_add_15 (by decide) ?_
    refine lv_isub hx hb d_Cu_add_16 ?_
    obtain ⟨hi8, hm⟩ := gI_e hm
    refine va_iald hx hb hK hP 1 0 rfl rfl hi8 d_Cu_add_17 ?_
    refine lv_iload_n hx hb d_Cu_add_18 rfl (lv_at hl 2 rfl) ?_
    refine lv_icmp_ne (tgt := 26) hx hb d_Cu_add_19 (by decide) (fun c9 => ?_) (fun c9 => ?_)
    · replace hm := if_f hm c9
      refine lv_iconst (v := 0) hx hb d_Cu_add_26 (by decide) ?_
      cases hm
      exact K3 H locs ls hP hD hS (lv_sub hl [1, 2, 0] rfl)
    · replace hm := if_t hm c9
      refine lv_iconst (v := 1) hx hb d_Cu_add_22 (by decide) ?_
      refine lv_goto (tgt := 27) hx hb d_Cu_add_23 (by decide) ?_
      cases hm
      exact K3 H locs ls hP hD hS (lv_sub hl [1, 2, 0] rfl)
set_option maxHeartbeats 4000000 in
set_option maxRecDepth 100000 in
theorem c_Cu_add (l : Launch) (dC : Nat → ClassId) (dI : Nat → Nat → Nat) {cI cZ cJ : ClassId} (a_0 a_0_places : Nat) (sz : Nat) (v_0_count : Int32) (f_0_places : Nat → Int32) (p1 : Int32) (ov_0_count : Int32) (of_0_places : Nat → Int32) (hm : m_Cu_add p1 v_0_count f_0_places = some (ov_0_count, of_0_places)) : Met l y_Cu_add w_Cu_add rm_Cu_add (PP dC dI [(cI, .int), (cZ, .boolean), (cJ, .long)] [.ref a_0, .int p1] sz (wl_Cu_add a_0 a_0_places cI v_0_count f_0_places)) (QV dC dI [(cI, .int), (cZ, .boolean), (cJ, .long)] sz (wl_Cu_add a_0 a_0_places cI v_0_count f_0_places) (wl_Cu_add a_0 a_0_places cI ov_0_count of_0_places)) 0 0 (va_A (wl_Cu_add a_0 a_0_places cI v_0_count f_0_places) sz) := by
  refine Met.ofW (cc := b_Cu_add) (maxL := 5) (ret := none) (by decide) rfl ?_
  intro p e s m args below meth c s₁ B hml hv
  obtain ⟨rfl, hsz, hP, hK, hD0, hN⟩ := hv
  subst hsz
  have hl := lv_entry ([.ref a_0, .int p1]) (n := 5) (Nat.le_of_ble_eq_true rfl)
  rw [lg_entry_eq]
  generalize (lg_sl ([.ref a_0, .int p1]) ++ List.replicate (5 - (lg_sl ([.ref a_0, .int p1])).length) Slot.unset).toArray = ls at hl ⊢
  exact t_Cu_add a_0 a_0_places v_0_count f_0_places p1 ov_0_count of_0_places B.exec B.bytes hml (findClass_of_methodNamed B.named) (atoms_spec (ws := w_Cu_add) B.pre) hK hN (fun q h => Or.inr h) (fun pc H locs ls hd hP9 hD9 hS => W.vret B.exec B.bytes B.returns (fun t ht hW => ⟨⟨(), rfl, trivial, by rw [ht]; exact hP9, va_K.moved hW.alike hK, hD9⟩, hS.F ht⟩) hS.2.2 hd) hm s.heap [] ls hP hD0.self va_S.rf hl

theorem k_11 : ((.methodLink "SpaceCycles$Cuts" 23 ⟨"java/lang/Math", "max", "(II)I"⟩) : Cond) ∈ gl := gl_i 789 (by decide +kernel) (by decide +kernel)
theorem k_12 : ((.static ⟨"java/lang/Math", "max", "(II)I"⟩) : Cond) ∈ gl := gl_i 465 (by decide +kernel) (by decide +kernel)
theorem k_13 : ((.initialized "java/lang/Math") : Cond) ∈ gl := gl_i 18 (by decide +kernel) (by decide +kernel)
theorem k_14 : ((.code ⟨"java/lang/Math", "max", "(II)I"⟩ prog_20_method_65_code 2 (some .int)) : Cond) ∈ gl := gl_i 466 (by decide +kernel) (by decide +kernel)
-- SpaceCycles$Cuts.indexOf(I)I
abbrev b_Cu_indexOf : ByteArray := prog_3_method_4_code
abbrev y_Cu_indexOf : MethodName := ⟨"SpaceCycles$Cuts", "indexOf", "(I)I"⟩
abbrev w_Cu_indexOf : List Cond := Cond.code y_Cu_indexOf b_Cu_indexOf 2 (some .int) :: gl
abbrev rm_Cu_indexOf : Room := { frames := 1, cells := 0, slots := 0, locals := 64 }
theorem d_Cu_indexOf_0 : decode b_Cu_indexOf 0 = .ok (.iconst 0, 1) := by decide +kernel
theorem d_Cu_indexOf_1 : decode b_Cu_indexOf 1 = .ok (.aload_n 0, 1) := by decide +kernel
theorem d_Cu_indexOf_2 : decode b_Cu_indexOf 2 = .ok (.iload_n 1, 1) := by decide +kernel
theorem d_Cu_indexOf_3 : decode b_Cu_indexOf 3 = .ok (.invokevirtual 19, 3) := by decide +kernel
theorem d_Cu_indexOf_6 : decode b_Cu_indexOf 6 = .ok (.iconst 1, 1) := by decide +kernel
theorem d_Cu_indexOf_7 : decode b_Cu_indexOf 7 = .ok (.isub, 1) := by decide +kernel
theorem d_Cu_indexOf_8 : decode b_Cu_indexOf 8 = .ok (.invokestatic 23, 3) := by decide +kernel
theorem d_Cu_indexOf_11 : decode b_Cu_indexOf 11 = .ok (.ireturn, 1) := by decide +kernel
abbrev wl_Cu_indexOf (a_0 : Nat) (a_0_places : Nat) (cI : ClassId) (v_0_count : Int32) (f_0_places : Nat → Int32) : va_W := [(a_0, .inr (9, [.ref a_0_places, .int v_0_count])), (a_0_places, .inl (cI, 40, .inl f_0_places))]
def m_Cu_indexOf (p1 : Int32) (v_0_count : Int32) (f_0_places : Nat → Int32) : Option (Int32) :=
  bd1 (m_Cu_upTo p1 v_0_count f_0_places) fun r1 =>
  some (jmax 0 (r1 - 1))

set_option maxHeartbeats 4000000 in
set_option maxRecDepth 100000 in
theorem t_Cu_indexOf {p : Program} {l : Launch} {e : Env} {s : State} {m : MethodId} {args : Array Value} {below : List Frame} {meth : Method} {c : Code} {A : Nat → Prop} {Q : State → Prop} {dC : Nat → ClassId} {dI : Nat → Nat → Nat} {cI cZ cJ : ClassId} (a_0 a_0_places : Nat) (v_0_count : Int32) (f_0_places : Nat → Int32) (p1 : Int32) (R0 : Int32) (hx : p.tables.exec = Jvm.exec) (hb : c.code = b_Cu_indexOf) (hml : c.maxLocals = 2) (hown : s.vm.findClass "SpaceCycles$Cuts" = some m.cls) (hts : ∀ w ∈ w_Cu_indexOf, w.before args s = true) (hK : va_K (dC, dI) vwCl [(cI, .int), (cZ, .boolean), (cJ, .long)] s) (hN : NX s) (hA : ∀ q : Nat, s.heap.size ≤ q → A q)
    (hret : ∀ (pc : Nat) (H : Heap) (locs : List Loc) (ls : Array Slot), decode b_Cu_indexOf pc = .ok (.ireturn, 1) → va_P (dC, dI) vwCl (wl_Cu_indexOf a_0 a_0_places cI v_0_count f_0_places) H → va_D A (wl_Cu_indexOf a_0 a_0_places cI v_0_count f_0_places) → va_S A s.heap H locs → W p l e rm_Cu_indexOf s m args below meth c H locs 0 0 Q (F0 m pc ls [.int R0]))
    (hm : m_Cu_indexOf p1 v_0_count f_0_places = some R0) : ∀ (H : Heap) (locs : List Loc) (ls : Array Slot), va_P (dC, dI) vwCl (wl_Cu_indexOf a_0 a_0_places cI v_0_count f_0_places) H → va_D A (wl_Cu_indexOf a_0 a_0_places cI v_0_count f_0_places) → va_S A s.heap H locs → lv_has ls 2 [(0, .ref a_0), (1, .int p1)] → W p l e rm_Cu_indexOf s m args below meth c H locs 0 0 Q (F0 m 0 ls []) := by
  intro H locs ls hP hD hS hl
  unfold m_Cu_indexOf at hm
  refine lv_iconst (v := 0) hx hb d_Cu_indexOf_0 (by decide) ?_
  refine lv_aload_n hx hb d_Cu_indexOf_1 rfl (lv_at hl 0 rfl) ?_
  refine lv_iload_n hx hb d_Cu_indexOf_2 rfl (lv_at hl 1 rfl) ?_
  obtain ⟨r1, hb2, hm⟩ := bd1_e hm
  have hPc := hP.sub (ws' := (wl_Cu_upTo a_0 a_0_places cI v_0_count f_0_places)) [0, 1] rfl
  have hDc := hD.sub (ws' := (wl_Cu_upTo a_0 a_0_places cI v_0_count f_0_places)) [0, 1] (by decide) rfl
  refine cl_i (wc' := (wl_Cu_upTo a_0 a_0_places cI v_0_count f_0_places)) (va_runV (As := [.int p1]) (rest := [.int 0]) ⟨hx, hb, hml, hown, hts⟩ (c_Cu_upTo l dC dI (cI := cI) (cZ := cZ) (cJ := cJ) a_0 a_0_places H.size v_0_count f_0_places p1 r1 hb2) (cwV 1 hts (gl_V k_10 k_8 k_7 k_9 k_6) rfl rfl rfl (by decide +kernel) ⟨Nat.le_of_ble_eq_true rfl, Nat.le_of_ble_eq_true rfl⟩) ⟨PP_blind, va_recv hK hPc (ci := 9) (q0 := 0) rfl rfl, fun U hU hW => PP_at hK hN hPc hDc hU hW⟩ rfl rfl hl.1 rfl (lv_room (Nat.le_of_ble_eq_true rfl)) d_Cu_indexOf_3 ⟨Nat.zero_le _, Nat.zero_le _⟩) hP hD hS hA [0, 1] [] rfl rfl (by decide) (by decide) (fun H locs hP hD hS => ?_)
  have hP : va_P (dC, dI) vwCl (wl_Cu_indexOf a_0 a_0_places cI v_0_count f_0_places) H := hP.sub [0, 1] rfl
  have hD : va_D A (wl_Cu_indexOf a_0 a_0_places cI v_0_count f_0_places) := hD.sub [0, 1] (by decide) rfl
  refine lv_iconst (v := 1) hx hb d_Cu_indexOf_6 (by decide) ?_
  refine lv_isub hx hb d_Cu_indexOf_7 ?_
  refine va_mmax hx hb (by rw [hml]; exact hl.1.symm) hown (hts _ (in_c k_11)) (hts _ (in_c k_12)) (hts _ (in_c k_13)) (hts _ (in_c k_14)) (Nat.le_of_ble_eq_true rfl) (Nat.le_of_ble_eq_true rfl) (Nat.zero_le _) (Nat.zero_le _) d_Cu_indexOf_8 ?_
  cases hm
  exact hret _ H locs ls d_Cu_indexOf_11 hP hD hS
set_option maxHeartbeats 4000000 in
set_option maxRecDepth 100000 in
theorem c_Cu_indexOf (l : Launch) (dC : Nat → ClassId) (dI : Nat → Nat → Nat) {cI cZ cJ : ClassId} (a_0 a_0_places : Nat) (sz : Nat) (v_0_count : Int32) (f_0_places : Nat → Int32) (p1 : Int32) (R0 : Int32) (hm : m_Cu_indexOf p1 v_0_count f_0_places = some R0) : Met l y_Cu_indexOf w_Cu_indexOf rm_Cu_indexOf (PP dC dI [(cI, .int), (cZ, .boolean), (cJ, .long)] [.ref a_0, .int p1] sz (wl_Cu_indexOf a_0 a_0_places cI v_0_count f_0_places)) (QI dC dI [(cI, .int), (cZ, .boolean), (cJ, .long)] sz (wl_Cu_indexOf a_0 a_0_places cI v_0_count f_0_places) (wl_Cu_indexOf a_0 a_0_places cI v_0_count f_0_places) R0) 0 0 (va_A (wl_Cu_indexOf a_0 a_0_places cI v_0_count f_0_places) sz) := by
  refine Met.ofW (cc := b_Cu_indexOf) (maxL := 2) (ret := (some .int)) (by decide) rfl ?_
  intro p e s m args below meth c s₁ B hml hv
  obtain ⟨rfl, hsz, hP, hK, hD0, hN⟩ := hv
  subst hsz
  have hl := lv_entry ([.ref a_0, .int p1]) (n := 2) (Nat.le_of_ble_eq_true rfl)
  rw [lg_entry_eq]
  generalize (lg_sl ([.ref a_0, .int p1]) ++ List.replicate (2 - (lg_sl ([.ref a_0, .int p1])).length) Slot.unset).toArray = ls at hl ⊢
  exact t_Cu_indexOf a_0 a_0_places v_0_count f_0_places p1 R0 B.exec B.bytes hml (findClass_of_methodNamed B.named) (atoms_spec (ws := w_Cu_indexOf) B.pre) hK hN (fun q h => Or.inr h) (fun pc H locs ls hd hP9 hD9 hS => W.iret B.exec B.bytes B.returns (fun t ht hW => ⟨⟨_, (), rfl, rfl, by rw [ht]; exact hP9, va_K.moved hW.alike hK, hD9⟩, hS.F ht⟩) hS.2.2 hd) hm s.heap [] ls hP hD0.self va_S.rf hl
