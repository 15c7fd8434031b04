theorem k_115 : ((.code ⟨"SpaceCycles$Common", "areaOf", "(II)I"⟩ prog_2_method_4_code 3 (some .int)) : Cond) ∈ gl := gl_i 890 (by decide +kernel) (by decide +kernel)
theorem k_116 : ((.selects "SpaceCycles$Common" ⟨"SpaceCycles$Common", "areaOf", "(II)I"⟩ ⟨"SpaceCycles$Common", "areaOf", "(II)I"⟩) : Cond) ∈ gl := gl_i 889 (by decide +kernel) (by decide +kernel)
theorem k_117 : ((.instanceMethod ⟨"SpaceCycles$Common", "areaOf", "(II)I"⟩) : Cond) ∈ gl := gl_i 888 (by decide +kernel) (by decide +kernel)
theorem k_118 : ((.initialized "SpaceCycles$Common") : Cond) ∈ gl := gl_i 6 (by decide +kernel) (by decide +kernel)
theorem k_119 : ((.methodLink "SpaceCycles$Names" 49 ⟨"SpaceCycles$Common", "areaOf", "(II)I"⟩) : Cond) ∈ gl := gl_i 887 (by decide +kernel) (by decide +kernel)
theorem k_120 : ((.fieldLink "SpaceCycles$Names" 18 "SpaceCycles$Names" "shares" "[I") : Cond) ∈ gl := gl_i 247 (by decide +kernel) (by decide +kernel)
theorem k_121 : ((.fieldLink "SpaceCycles$Names" 15 "SpaceCycles$Names" "passed" "[I") : Cond) ∈ gl := gl_i 246 (by decide +kernel) (by decide +kernel)
theorem k_122 : ((.fieldLink "SpaceCycles$Names" 9 "SpaceCycles$Names" "given" "[I") : Cond) ∈ gl := gl_i 244 (by decide +kernel) (by decide +kernel)
-- SpaceCycles$Names.leave(LSpaceCycles$Common;II)V
abbrev b_Na_leave : ByteArray := prog_7_method_3_code
abbrev y_Na_leave : MethodName := ⟨"SpaceCycles$Names", "leave", "(LSpaceCycles$Common;II)V"⟩
abbrev w_Na_leave : List Cond := Cond.code y_Na_leave b_Na_leave 7 none :: gl
abbrev rm_Na_leave : Room := { frames := 1, cells := 0, slots := 0, locals := 22 }
theorem d_Na_leave_0 : decode b_Na_leave 0 = .ok (.iconst (-1), 1) := by decide +kernel
theorem d_Na_leave_1 : decode b_Na_leave 1 = .ok (.istore 4, 2) := by decide +kernel
theorem d_Na_leave_3 : decode b_Na_leave 3 = .ok (.iconst 0, 1) := by decide +kernel
theorem d_Na_leave_4 : decode b_Na_leave 4 = .ok (.istore 5, 2) := by decide +kernel
theorem d_Na_leave_6 : decode b_Na_leave 6 = .ok (.iconst 0, 1) := by decide +kernel
theorem d_Na_leave_7 : decode b_Na_leave 7 = .ok (.istore 6, 2) := by decide +kernel
theorem d_Na_leave_9 : decode b_Na_leave 9 = .ok (.iload 6, 2) := by decide +kernel
theorem d_Na_leave_11 : decode b_Na_leave 11 = .ok (.iload_n 3, 1) := by decide +kernel
theorem d_Na_leave_12 : decode b_Na_leave 12 = .ok (.if_icmp .ge 34, 3) := by decide +kernel
theorem d_Na_leave_15 : decode b_Na_leave 15 = .ok (.aload_n 1, 1) := by decide +kernel
theorem d_Na_leave_16 : decode b_Na_leave 16 = .ok (.iload_n 2, 1) := by decide +kernel
theorem d_Na_leave_17 : decode b_Na_leave 17 = .ok (.iload 6, 2) := by decide +kernel
theorem d_Na_leave_19 : decode b_Na_leave 19 = .ok (.invokevirtual 49, 3) := by decide +kernel
theorem d_Na_leave_22 : decode b_Na_leave 22 = .ok (.iload 5, 2) := by decide +kernel
theorem d_Na_leave_24 : decode b_Na_leave 24 = .ok (.if_icmp .le 16, 3) := by decide +kernel
theorem d_Na_leave_27 : decode b_Na_leave 27 = .ok (.aload_n 1, 1) := by decide +kernel
theorem d_Na_leave_28 : decode b_Na_leave 28 = .ok (.iload_n 2, 1) := by decide +kernel
theorem d_Na_leave_29 : decode b_Na_leave 29 = .ok (.iload 6, 2) := by decide +kernel
theorem d_Na_leave_31 : decode b_Na_leave 31 = .ok (.invokevirtual 49, 3) := by decide +kernel
theorem d_Na_leave_34 : decode b_Na_leave 34 = .ok (.istore 5, 2) := by decide +kernel
theorem d_Na_leave_36 : decode b_Na_leave 36 = .ok (.iload 6, 2) := by decide +kernel
theorem d_Na_leave_38 : decode b_Na_leave 38 = .ok (.istore 4, 2) := by decide +kernel
theorem d_Na_leave_40 : decode b_Na_leave 40 = .ok (.iinc 6 1, 3) := by decide +kernel
theorem d_Na_leave_43 : decode b_Na_leave 43 = .ok (.goto (-34), 3) := by decide +kernel
theorem d_Na_leave_46 : decode b_Na_leave 46 = .ok (.iload 4, 2) := by decide +kernel
theorem d_Na_leave_48 : decode b_Na_leave 48 = .ok (.iconst (-1), 1) := by decide +kernel
theorem d_Na_leave_49 : decode b_Na_leave 49 = .ok (.if_icmp .eq 37, 3) := by decide +kernel
theorem d_Na_leave_52 : decode b_Na_leave 52 = .ok (.iload 5, 2) := by decide +kernel
theorem d_Na_leave_54 : decode b_Na_leave 54 = .ok (.aload_n 0, 1) := by decide +kernel
theorem d_Na_leave_55 : decode b_Na_leave 55 = .ok (.getfield 18, 3) := by decide +kernel
theorem d_Na_leave_58 : decode b_Na_leave 58 = .ok (.iload 4, 2) := by decide +kernel
theorem d_Na_leave_60 : decode b_Na_leave 60 = .ok (.iaload, 1) := by decide +kernel
theorem d_Na_leave_61 : decode b_Na_leave 61 = .ok (.if_icmp .le 25, 3) := by decide +kernel
theorem d_Na_leave_64 : decode b_Na_leave 64 = .ok (.aload_n 0, 1) := by decide +kernel
theorem d_Na_leave_65 : decode b_Na_leave 65 = .ok (.getfield 18, 3) := by decide +kernel
theorem d_Na_leave_68 : decode b_Na_leave 68 = .ok (.iload 4, 2) := by decide +kernel
theorem d_Na_leave_70 : decode b_Na_leave 70 = .ok (.iload 5, 2) := by decide +kernel
theorem d_Na_leave_72 : decode b_Na_leave 72 = .ok (.iastore, 1) := by decide +kernel
theorem d_Na_leave_73 : decode b_Na_leave 73 = .ok (.aload_n 0, 1) := by decide +kernel
theorem d_Na_leave_74 : decode b_Na_leave 74 = .ok (.getfield 15, 3) := by decide +kernel
theorem d_Na_leave_77 : decode b_Na_leave 77 = .ok (.iload 4, 2) := by decide +kernel
theorem d_Na_leave_79 : decode b_Na_leave 79 = .ok (.aload_n 0, 1) := by decide +kernel
theorem d_Na_leave_80 : decode b_Na_leave 80 = .ok (.getfield 9, 3) := by decide +kernel
theorem d_Na_leave_83 : decode b_Na_leave 83 = .ok (.iload_n 2, 1) := by decide +kernel
theorem d_Na_leave_84 : decode b_Na_leave 84 = .ok (.iaload, 1) := by decide +kernel
theorem d_Na_leave_85 : decode b_Na_leave 85 = .ok (.iastore, 1) := by decide +kernel
theorem d_Na_leave_86 : decode b_Na_leave 86 = .ok (.return_, 1) := by decide +kernel
abbrev wl_Na_leave (a_0 : Nat) (a_0_given : Nat) (a_0_passed : Nat) (a_0_shares : Nat) (a_1 : Nat) (a_1_areas : Nat) (b_1_columns : Nat) (b_1_rows : Nat) (cI : ClassId) (f_0_given : Nat → Int32) (f_0_passed : Nat → Int32) (f_0_shares : Nat → Int32) (v_1_known : Int32) (f_1_areas : Nat → Int32) : va_W := [(a_0, .inr (6, [.ref a_0_given, .ref a_0_passed, .ref a_0_shares])), (a_0_given, .inl (cI, 81, .inl f_0_given)), (a_0_passed, .inl (cI, 81, .inl f_0_passed)), (a_0_shares, .inl (cI, 81, .inl f_0_shares)), (a_1, .inr (5, [.ref b_1_columns, .ref b_1_rows, .ref a_1_areas, .int v_1_known])), (a_1_areas, .inl (cI, 6561, .inl f_1_areas))]
def m_Na_leave_L9 (l2 : Int32) (l3 : Int32) (f_1_areas : Nat → Int32) : Nat → Int32 → Int32 → Int32 → Option (Int32 × Int32)
  | 0, _, _, _ => none
  | n + 1, l4, l5, l6 =>
    if l3 ≤ l6 then (
      some (l4, l5))
    else (
      bd1 (m_Co_areaOf l2 l6 f_1_areas) fun r2 =>
      bd2 (
        if r2 ≤ l5 then (
        some (l4, l5))
      else (
        bd1 (m_Co_areaOf l2 l6 f_1_areas) fun r10 =>
        some (l6, r10)))
      fun (x7 : Int32) (x8 : Int32) =>
      lt_ (l6 + 1) fun x12 =>
        m_Na_leave_L9 l2 l3 f_1_areas n x7 x8 x12)
def m_Na_leave (p2 : Int32) (p3 : Int32) (f_0_given : Nat → Int32) (f_0_passed : Nat → Int32) (f_0_shares : Nat → Int32) (f_1_areas : Nat → Int32) : Option ((Nat → Int32) × (Nat → Int32)) :=
  bd2 (m_Na_leave_L9 p2 p3 f_1_areas fu (-1) 0 0) fun x4 x5 =>
  bd2 (
    if x4 = (-1) then (
    some (f_0_passed, f_0_shares))
  else (
    gI x4 81 <|
    if x5 ≤ (f_0_shares x4.toNatClampNeg) then (
      some (f_0_passed, f_0_shares))
    else (
      gI x4 81 <|
      lt_ (upd f_0_shares x4.toNatClampNeg x5) fun f29 =>
      gI p2 81 <|
      gI x4 81 <|
      lt_ (upd f_0_passed x4.toNatClampNeg (f_0_given p2.toNatClampNeg)) fun f32 =>
      some (f32, f29))))
  fun (f23 : Nat → Int32) (f24 : Nat → Int32) =>
  some (f23, f24)

set_option maxHeartbeats 4000000 in
set_option maxRecDepth 100000 in
theorem t_Na_leave {p : Program} {l : Launch} {e : Env} {s : State} {m : MethodId} {args : Array Value} {below : List Frame} {meth : Method} {c : Code} {A : Nat → Prop} {Q : State → Prop} {dC : Nat → ClassId} {dI : Nat → Nat → Nat} {cI cZ cJ : ClassId} (a_0 a_0_given a_0_passed a_0_shares a_1 a_1_areas b_1_columns b_1_rows : Nat) (f_0_given : Nat → Int32) (f_0_passed : Nat → Int32) (f_0_shares : Nat → Int32) (v_1_known : Int32) (f_1_areas : Nat → Int32) (p2 : Int32) (p3 : Int32) (of_0_passed : Nat → Int32) (of_0_shares : Nat → Int32) (hx : p.tables.exec = Jvm.exec) (hb : c.code = b_Na_leave) (hml : c.maxLocals = 7) (hown : s.vm.findClass "SpaceCycles$Names" = some m.cls) (hts : ∀ w ∈ w_Na_leave, w.before args s = true) (hK : va_K (dC, dI) vwCl [(cI, .int), (cZ, .boolean), (cJ, .long)] s) (hN : NX s) (hA : ∀ q : Nat, s.heap.size ≤ q → A q)
    (hret : ∀ (pc : Nat) (H : Heap) (locs : List Loc) (ls : Array Slot), decode b_Na_leave pc = .ok (.return_, 1) → va_P (dC, dI) vwCl (wl_Na_leave a_0 a_0_given a_0_passed a_0_shares a_1 a_1_areas b_1_columns b_1_rows cI f_0_given of_0_passed of_0_shares v_1_known f_1_areas) H → va_D A (wl_Na_leave a_0 a_0_given a_0_passed a_0_shares a_1 a_1_areas b_1_columns b_1_rows cI f_0_given of_0_passed of_0_shares v_1_known f_1_areas) → va_S A s.heap H locs → W p l e rm_Na_leave s m args below meth c H locs 0 0 Q (F0 m pc ls []))
    (hm : m_Na_leave p2 p3 f_0_given f_0_passed f_0_shares f_1_areas = some (of_0_passed, of_0_shares)) : ∀ (H : Heap) (locs : List Loc) (ls : Array Slot), va_P (dC, dI) vwCl (wl_Na_leave a_0 a_0_given a_0_passed a_0_shares a_1 a_1_areas b_1_columns b_1_rows cI f_0_given f_0_passed f_0_shares v_1_known f_1_areas) H → va_D A (wl_Na_leave a_0 a_0_given a_0_passed a_0_shares a_1 a_1_areas b_1_columns b_1_rows cI f_0_given f_0_passed f_0_shares v_1_known f_1_areas) → va_S A s.heap H locs → lv_has ls 7 [(0, .ref a_0), (1, .ref a_1), (2, .int p2), (3, .int p3)] → W p l e rm_Na_leave s m args below meth c H locs 0 0 Q (F0 m 0 ls []) := by
  intro H locs ls hP hD hS hl
  unfold m_Na_leave at hm
  refine lv_iconst (v := (-1)) hx hb d_Na_leave_0 (by decide) ?_
  refine lv_istore (lv' := [(4, .int (-1)), (0, .ref a_0), (1, .ref a_1), (2, .int p2), (3, .int p3)]) hx hb d_Na_leave_1 hl (by decide) rfl (fun ls hl => ?_)
  refine lv_iconst (v := 0) hx hb d_Na_leave_3 (by decide) ?_
  refine lv_istore (lv' := [(5, .int 0), (4, .int (-1)), (0, .ref a_0), (1, .ref a_1), (2, .int p2), (3, .int p3)]) hx hb d_Na_leave_4 hl (by decide) rfl (fun ls hl => ?_)
  refine lv_iconst (v := 0) hx hb d_Na_leave_6 (by decide) ?_
  refine lv_istore (lv' := [(6, .int 0), (5, .int 0), (4, .int (-1)), (0, .ref a_0), (1, .ref a_1), (2, .int p2), (3, .int p3)]) hx hb d_Na_leave_7 hl (by decide) rfl (fun ls hl => ?_)
  have L9_6 : ∀ (n : Nat) (x1 : Int32) (x2 : Int32) (x3 : Int32) (x4 : Int32) (x5 : Int32), m_Na_leave_L9 p2 p3 f_1_areas n x1 x2 x3 = some (x4, x5) → (∀ (H : Heap) (locs : List Loc) (ls : Array Slot), va_P (dC, dI) vwCl (wl_Na_leave a_0 a_0_given a_0_passed a_0_shares a_1 a_1_areas b_1_columns b_1_rows cI f_0_given f_0_passed f_0_shares v_1_known f_1_areas) H → va_D A (wl_Na_leave a_0 a_0_given a_0_passed a_0_shares a_1 a_1_areas b_1_columns b_1_rows cI f_0_given f_0_passed f_0_shares v_1_known f_1_areas) → va_S A s.heap H locs → lv_has ls 7 [(0, .ref a_0), (2, .int p2), (4, .int x4), (5, .int x5)] → W p l e rm_Na_leave s m args below meth c H locs 0 0 Q (F0 m 46 ls [])) → ∀ (H : Heap) (locs : List Loc) (ls : Array Slot), va_P (dC, dI) vwCl (wl_Na_leave a_0 a_0_given a_0_passed a_0_shares a_1 a_1_areas b_1_columns b_1_rows cI f_0_given f_0_passed f_0_shares v_1_known f_1_areas) H → va_D A (wl_Na_leave a_0 a_0_given a_0_passed a_0_shares a_1 a_1_areas b_1_columns b_1_rows cI f_0_given f_0_passed f_0_shares v_1_known f_1_areas) → va_S A s.heap H locs → lv_has ls 7 [(0, .ref a_0), (1, .ref a_1), (2, .int p2), (3, .int p3), (4, .int x1), (5, .int x2), (6, .int x3)] → W p l e rm_Na_leave s m args below meth c H locs 0 0 Q (F0 m 9 ls []) := by
    intro n
    induction n with
    | zero => intro x1 x2 x3 x4 x5 hm; simp [m_Na_leave_L9] at hm
    | succ n ih =>
      intro x1 x2 x3 x4 x5 hm KE H locs ls hP hD hS hl
      rw [m_Na_leave_L9] at hm
      refine lv_iload hx hb d_Na_leave_9 (lv_at hl 6 rfl) ?_
      refine lv_iload_n hx hb d_Na_leave_11 rfl (lv_at hl 3 rfl) ?_
      refine lv_icmp_ge (tgt := 46) hx hb d_Na_leave_12 (by decide) (fun c7 => ?_) (fun c7 => ?_)
      · replace hm := if_t hm c7
        cases hm
        exact KE H locs ls hP hD hS (lv_sub hl [0, 2, 4, 5] rfl)
      · replace hm := if_f hm c7
        refine lv_aload_n hx hb d_Na_leave_15 rfl (lv_at hl 1 rfl) ?_
        refine lv_iload_n hx hb d_Na_leave_16 rfl (lv_at hl 2 rfl) ?_
        refine lv_iload hx hb d_Na_leave_17 (lv_at hl 6 rfl) ?_
        obtain ⟨r8, hb9, hm⟩ := bd1_e hm
        have hPc := hP.sub (ws' := (wl_Co_areaOf a_1 a_1_areas b_1_columns b_1_rows cI v_1_known f_1_areas)) [4, 5] rfl
        have hDc := hD.sub (ws' := (wl_Co_areaOf a_1 a_1_areas b_1_columns b_1_rows cI v_1_known f_1_areas)) [4, 5] (by decide) rfl
        refine cl_i (wc' := (wl_Co_areaOf a_1 a_1_areas b_1_columns b_1_rows cI v_1_known f_1_areas)) (va_runV (As := [.int p2, .int x3]) (rest := []) ⟨hx, hb, hml, hown, hts⟩ (c_Co_areaOf l dC dI (cI := cI) (cZ := cZ) (cJ := cJ) a_1 a_1_areas b_1_columns b_1_rows H.size v_1_known f_1_areas p2 x3 r8 hb9) (cwV 2 hts (gl_V k_119 k_117 k_116 k_118 k_115) rfl rfl rfl (by decide +kernel) ⟨Nat.le_of_ble_eq_true rfl, Nat.le_of_ble_eq_true rfl⟩) ⟨PP_blind, va_recv hK hPc (ci := 5) (q0 := 0) rfl rfl, fun U hU hW => PP_at hK hN hPc hDc hU hW⟩ rfl rfl hl.1 rfl (lv_room (Nat.le_of_ble_eq_true rfl)) d_Na_leave_19 ⟨Nat.zero_le _, Nat.zero_le _⟩) hP hD hS hA [4, 5] [0, 1, 2, 3] rfl rfl (by decide) (by decide) (fun H locs hP hD hS => ?_)
        have hP : va_P (dC, dI) vwCl (wl_Na_leave a_0 a_0_given a_0_passed a_0_shares a_1 a_1_areas b_1_columns b_1_rows cI f_0_given f_0_passed f_0_shares v_1_known f_1_areas) H := hP.sub [0, 1, 2, 3, 4, 5] rfl
        have hD : va_D A (wl_Na_leave a_0 a_0_given a_0_passed a_0_shares a_1 a_1_areas b_1_columns b_1_rows cI f_0_given f_0_passed f_0_shares v_1_known f_1_areas) := hD.sub [0, 1, 2, 3, 4, 5] (by decide) rfl
        refine lv_iload hx hb d_Na_leave_22 (lv_at hl 5 rfl) ?_
        obtain ⟨x13, x14, hb11, hm⟩ := bd2_e hm
        have K10 : ∀ (H : Heap) (locs : List Loc) (ls : Array Slot), va_P (dC, dI) vwCl (wl_Na_leave a_0 a_0_given a_0_passed a_0_shares a_1 a_1_areas b_1_columns b_1_rows cI f_0_given f_0_passed f_0_shares v_1_known f_1_areas) H → va_D A (wl_Na_leave a_0 a_0_given a_0_passed a_0_shares a_1 a_1_areas b_1_columns b_1_rows cI f_0_given f_0_passed f_0_shares v_1_known f_1_areas) → va_S A s.heap H locs → lv_has ls 7 [(0, .ref a_0), (1, .ref a_1), (2, .int p2), (3, .int p3), (4, .int x13), (5, .int x14), (6, .int x3)] → W p l e rm_Na_leave s m args below meth c H locs 0 0 Q (F0 m 40 ls []) := by
          intro H locs ls hP hD hS hl
          obtain ⟨x18, ex18⟩ : ∃ y : Int32, y = x3 + 1 := ⟨_, rfl⟩
          replace hm := lt_el hm ex18
          refine lv_iinc (v := x18) (lv' := [(6, .int x18), (0, .ref a_0), (1, .ref a_1), (2, .int p2), (3, .int p3), (4, .int x13), (5, .int x14)]) hx hb d_Na_leave_40 hl (k := 6) rfl (by rw [ex18]; rfl) (by decide) rfl (fun ls hl => ?_)
          refine lv_goto (tgt := 9) hx hb d_Na_leave_43 (by decide) ?_
          exact ih _ _ _ _ _ hm KE H locs ls hP hD hS (lv_sub hl [1, 2, 3, 4, 5, 6, 0] rfl)
        replace hm := hb11
        refine lv_icmp_le (tgt := 40) hx hb d_Na_leave_24 (by decide) (fun c15 => ?_) (fun c15 => ?_)
        · replace hm := if_t hm c15
          cases hm
          exact K10 H locs ls hP hD hS (lv_sub hl [0, 1, 2, 3, 4, 5, 6] rfl)
        · replace hm := if_f hm c15
          refine lv_aload_n hx hb d_Na_leave_27 rfl (lv_at hl 1 rfl) ?_
          refine lv_iload_n hx hb d_Na_leave_28 rfl (lv_at hl 2 rfl) ?_
          refine lv_iload hx hb d_Na_leave_29 (lv_at hl 6 rfl) ?_
          obtain ⟨r16, hb17, hm⟩ := bd1_e hm
          have hPc := hP.sub (ws' := (wl_Co_areaOf a_1 a_1_areas b_1_columns b_1_rows cI v_1_known f_1_areas)) [4, 5] rfl
          have hDc := hD.sub (ws' := (wl_Co_areaOf a_1 a_1_areas b_1_columns b_1_rows cI v_1_known f_1_areas)) [4, 5] (by decide) rfl
          refine cl_i (wc' := (wl_Co_areaOf a_1 a_1_areas b_1_columns b_1_rows cI v_1_known f_1_areas)) (va_runV (As := [.int p2, .int x3]) (rest := []) ⟨hx, hb, hml, hown, hts⟩ (c_Co_areaOf l dC dI (cI := cI) (cZ := cZ) (cJ := cJ) a_1 a_1_areas b_1_columns b_1_rows H.size v_1_known f_1_areas p2 x3 r16 hb17) (cwV 2 hts (gl_V k_119 k_117 k_116 k_118 k_115) rfl rfl rfl (by decide +kernel) ⟨Nat.le_of_ble_eq_true rfl, Nat.le_of_ble_eq_true rfl⟩) ⟨PP_blind, va_recv hK hPc (ci := 5) (q0 := 0) rfl rfl, fun U hU hW => PP_at hK hN hPc hDc hU hW⟩ rfl rfl hl.1 rfl (lv_room (Nat.le_of_ble_eq_true rfl)) d_Na_leave_31 ⟨Nat.zero_le _, Nat.zero_le _⟩) hP hD hS hA [4, 5] [0, 1, 2, 3] rfl rfl (by decide) (by decide) (fun H locs hP hD hS => ?_)
          have hP : va_P (dC, dI) vwCl (wl_Na_leave a_0 a_0_given a_0_passed a_0_shares a_1 a_1_areas b_1_columns b_1_rows cI f_0_given f_0_passed f_0_shares v_1_known f_1_areas) H := hP.sub [0, 1, 2, 3, 4, 5] rfl
          have hD : va_D A (wl_Na_leave a_0 a_0_given a_0_passed a_0_shares a_1 a_1_areas b_1_columns b_1_rows cI f_0_given f_0_passed f_0_shares v_1_known f_1_areas) := hD.sub [0, 1, 2, 3, 4, 5] (by decide) rfl
          refine lv_istore (lv' := [(5, .int r16), (0, .ref a_0), (1, .ref a_1), (2, .int p2), (3, .int p3), (4, .int x1), (6, .int x3)]) hx hb d_Na_leave_34 hl (by decide) rfl (fun ls hl => ?_)
          refine lv_iload hx hb d_Na_leave_36 (lv_at hl 6 rfl) ?_
          refine lv_istore (lv' := [(4, .int x3), (5, .int r16), (0, .ref a_0), (1, .ref a_1), (2, .int p2), (3, .int p3), (6, .int x3)]) hx hb d_Na_leave_38 hl (by decide) rfl (fun ls hl => ?_)
          cases hm
          exact K10 H locs ls hP hD hS (lv_sub hl [2, 3, 4, 5, 0, 1, 6] rfl)
  obtain ⟨x4, x5, hb19, hm⟩ := bd2_e hm
  refine L9_6 fu _ _ _ _ _ hb19 (fun H locs ls hP hD hS hl => ?_) H locs ls hP hD hS (lv_sub hl [3, 4, 5, 6, 2, 1, 0] rfl)
  refine lv_iload hx hb d_Na_leave_46 (lv_at hl 2 rfl) ?_
  refine lv_iconst (v := (-1)) hx hb d_Na_leave_48 (by decide) ?_
  obtain ⟨f23, f24, hb21, hm⟩ := bd2_e hm
  have K20 : ∀ (H : Heap) (locs : List Loc) (ls : Array Slot), va_P (dC, dI) vwCl (wl_Na_leave a_0 a_0_given a_0_passed a_0_shares a_1 a_1_areas b_1_columns b_1_rows cI f_0_given f23 f24 v_1_known f_1_areas) H → va_D A (wl_Na_leave a_0 a_0_given a_0_passed a_0_shares a_1 a_1_areas b_1_columns b_1_rows cI f_0_given f23 f24 v_1_known f_1_areas) → va_S A s.heap H locs → lv_has ls 7 [] → W p l e rm_Na_leave s m args below meth c H locs 0 0 Q (F0 m 86 ls []) := by
    intro H locs ls hP hD hS hl
    cases hm
    exact hret _ H locs ls d_Na_leave_86 hP hD hS
  replace hm := hb21
  refine lv_icmp_eq (tgt := 86) hx hb d_Na_leave_49 (by decide) (fun c25 => ?_) (fun c25 => ?_)
  · replace hm := if_t hm c25
    cases hm
    exact K20 H locs ls hP hD hS (lv_sub hl [] rfl)
  · replace hm := if_f hm c25
    refine lv_iload hx hb d_Na_leave_52 (lv_at hl 3 rfl) ?_
    refine lv_aload_n hx hb d_Na_leave_54 rfl (lv_at hl 0 rfl) ?_
    refine va_get (D := (dC, dI)) (ci := 6) (v := .ref a_0_shares) (C := "SpaceCycles$Names") (T := F_Na) (N := 3) hx hb hts (in_F i_Na) hown hK hP 0 rfl rfl 2 (by decide) (hts _ (in_c k_120)) (fun _ h9 => h9) rfl d_Na_leave_55 ?_
    refine lv_iload hx hb d_Na_leave_58 (lv_at hl 2 rfl) ?_
    obtain ⟨hi26, hm⟩ := gI_e hm
    refine va_iald hx hb hK hP 3 0 rfl rfl hi26 d_Na_leave_60 ?_
    refine lv_icmp_le (tgt := 86) hx hb d_Na_leave_61 (by decide) (fun c27 => ?_) (fun c27 => ?_)
    · replace hm := if_t hm c27
      cases hm
      exact K20 H locs ls hP hD hS (lv_sub hl [] rfl)
    · replace hm := if_f hm c27
      refine lv_aload_n hx hb d_Na_leave_64 rfl (lv_at hl 0 rfl) ?_
      refine va_get (D := (dC, dI)) (ci := 6) (v := .ref a_0_shares) (C := "SpaceCycles$Names") (T := F_Na) (N := 3) hx hb hts (in_F i_Na) hown hK hP 0 rfl rfl 2 (by decide) (hts _ (in_c k_120)) (fun _ h9 => h9) rfl d_Na_leave_65 ?_
      refine lv_iload hx hb d_Na_leave_68 (lv_at hl 2 rfl) ?_
      refine lv_iload hx hb d_Na_leave_70 (lv_at hl 3 rfl) ?_
      obtain ⟨hi28, hm⟩ := gI_e hm
      obtain ⟨f29, ef29⟩ : ∃ y : Nat → Int32, y = upd f_0_shares x4.toNatClampNeg x5 := ⟨_, rfl⟩
      replace hm := lt_el hm ef29
      refine va_iast hx hb hK hP hD hS 3 0 rfl rfl hi28 d_Na_leave_72 (fun H locs hP hD hS => ?_)
      rw [← ef29] at hP hD
      have hP : va_P (dC, dI) vwCl (wl_Na_leave a_0 a_0_given a_0_passed a_0_shares a_1 a_1_areas b_1_columns b_1_rows cI f_0_given f_0_passed f29 v_1_known f_1_areas) H := hP
      have hD : va_D A (wl_Na_leave a_0 a_0_given a_0_passed a_0_shares a_1 a_1_areas b_1_columns b_1_rows cI f_0_given f_0_passed f29 v_1_known f_1_areas) := hD
      refine lv_aload_n hx hb d_Na_leave_73 rfl (lv_at hl 0 rfl) ?_
      refine va_get (D := (dC, dI)) (ci := 6) (v := .ref a_0_passed) (C := "SpaceCycles$Names") (T := F_Na) (N := 3) hx hb hts (in_F i_Na) hown hK hP 0 rfl rfl 1 (by decide) (hts _ (in_c k_121)) (fun _ h9 => h9) rfl d_Na_leave_74 ?_
      refine lv_iload hx hb d_Na_leave_77 (lv_at hl 2 rfl) ?_
      refine lv_aload_n hx hb d_Na_leave_79 rfl (lv_at hl 0 rfl) ?_
      refine va_get (D := (dC, dI)) (ci := 6) (v := .ref a_0_given) (C := "SpaceCycles$Names") (T := F_Na) (N := 3) hx hb hts (in_F i_Na) hown hK hP 0 rfl rfl 0 (by decide) (hts _ (in_c k_122)) (fun _ h9 => h9) rfl d_Na_leave_80 ?_
      refine lv_iload_n hx hb d_Na_leave_83 rfl (lv_at hl 1 rfl) ?_
      obtain ⟨hi30, hm⟩ := gI_e hm
      refine va_iald hx hb hK hP 1 0 rfl rfl hi30 d_Na_leave_84 ?_
      obtain ⟨hi31, hm⟩ := gI_e hm
      obtain ⟨f32, ef32⟩ : ∃ y : Nat → Int32, y = upd f_0_passed x4.toNatClampNeg (f_0_given p2.toNatClampNeg) := ⟨_, rfl⟩
      replace hm := lt_el hm ef32
      refine va_iast hx hb hK hP hD hS 2 0 rfl rfl hi31 d_Na_leave_85 (fun H locs hP hD hS => ?_)
      rw [← ef32] at hP hD
      have hP : va_P (dC, dI) vwCl (wl_Na_leave a_0 a_0_given a_0_passed a_0_shares a_1 a_1_areas b_1_columns b_1_rows cI f_0_given f32 f29 v_1_known f_1_areas) H := hP
      have hD : va_D A (wl_Na_leave a_0 a_0_given a_0_passed a_0_shares a_1 a_1_areas b_1_columns b_1_rows cI f_0_given f32 f29 v_1_known f_1_areas) := hD
      cases hm
      exact K20 H locs ls hP hD hS (lv_sub hl [] rfl)
set_option maxHeartbeats 4000000 in
set_option maxRecDepth 100000 in
theorem c_Na_leave (l : Launch) (dC : Nat → ClassId) (dI : Nat → Nat → Nat) {cI cZ cJ : ClassId} (a_0 a_0_given a_0_passed a_0_shares a_1 a_1_areas b_1_columns b_1_rows : Nat) (sz : Nat) (f_0_given : Nat → Int32) (f_0_passed : Nat → Int32) (f_0_shares : Nat → Int32) (v_1_known : Int32) (f_1_areas : Nat → Int32) (p2 : Int32) (p3 : Int32) (of_0_passed : Nat → Int32) (of_0_shares : Nat → Int32) (hm : m_Na_leave p2 p3 f_0_given f_0_passed f_0_shares f_1_areas = some (of_0_passed, of_0_shares)) : Met l y_Na_leave w_Na_leave rm_Na_leave (PP dC dI [(cI, .int), (cZ, .boolean), (cJ, .long)] [.ref a_0, .ref a_1, .int p2, .int p3] sz (wl_Na_leave a_0 a_0_given a_0_passed a_0_shares a_1 a_1_areas b_1_columns b_1_rows cI f_0_given f_0_passed f_0_shares v_1_known f_1_areas)) (QV dC dI [(cI, .int), (cZ, .boolean), (cJ, .long)] sz (wl_Na_leave a_0 a_0_given a_0_passed a_0_shares a_1 a_1_areas b_1_columns b_1_rows cI f_0_given f_0_passed f_0_shares v_1_known f_1_areas) (wl_Na_leave a_0 a_0_given a_0_passed a_0_shares a_1 a_1_areas b_1_columns b_1_rows cI f_0_given of_0_passed of_0_shares v_1_known f_1_areas)) 0 0 (va_A (wl_Na_leave a_0 a_0_given a_0_passed a_0_shares a_1 a_1_areas b_1_columns b_1_rows cI f_0_given f_0_passed f_0_shares v_1_known f_1_areas) sz) := by
  refine Met.ofW (cc := b_Na_leave) (maxL := 7) (ret := none) (by decide) rfl ?_
  intro p e s m args below meth c s₁ B hml hv
  obtain ⟨rfl, hsz, hP, hK, hD0, hN⟩ := hv
  subst hsz
  have hl := lv_entry ([.ref a_0, .ref a_1, .int p2, .int p3]) (n := 7) (Nat.le_of_ble_eq_true rfl)
  rw [lg_entry_eq]
  generalize (lg_sl ([.ref a_0, .ref a_1, .int p2, .int p3]) ++ List.replicate (7 - (lg_sl ([.ref a_0, .ref a_1, .int p2, .int p3])).length) Slot.unset).toArray = ls at hl ⊢
  exact t_Na_leave a_0 a_0_given a_0_passed a_0_shares a_1 a_1_areas b_1_columns b_1_rows f_0_given f_0_passed f_0_shares v_1_known f_1_areas p2 p3 of_0_passed of_0_shares B.exec B.bytes hml (findClass_of_methodNamed B.named) (atoms_spec (ws := w_Na_leave) B.pre) hK hN (fun q h => Or.inr h) (fun pc H locs ls hd hP9 hD9 hS => W.vret B.exec B.bytes B.returns (fun t ht hW => ⟨⟨(), rfl, trivial, by rw [ht]; exact hP9, va_K.moved hW.alike hK, hD9⟩, hS.F ht⟩) hS.2.2 hd) hm s.heap [] ls hP hD0.self va_S.rf hl

theorem k_123 : ((.code ⟨"java/util/Arrays", "fill", "([II)V"⟩ prog_28_method_103_code 4 none) : Cond) ∈ gl := gl_i 870 (by decide +kernel) (by decide +kernel)
theorem k_124 : ((.static ⟨"java/util/Arrays", "fill", "([II)V"⟩) : Cond) ∈ gl := gl_i 869 (by decide +kernel) (by decide +kernel)
theorem k_125 : ((.methodLink "SpaceCycles$Names" 21 ⟨"java/util/Arrays", "fill", "([II)V"⟩) : Cond) ∈ gl := gl_i 868 (by decide +kernel) (by decide +kernel)
theorem k_126 : ((.fieldLink "SpaceCycles$Names" 27 "SpaceCycles$Grid" "spaces" "I") : Cond) ∈ gl := gl_i 309 (by decide +kernel) (by decide +kernel)
theorem k_127 : ((.code ⟨"SpaceCycles$Common", "find", "(LSpaceCycles$Grid;LSpaceCycles$Grid;)V"⟩ prog_2_method_3_code 7 none) : Cond) ∈ gl := gl_i 874 (by decide +kernel) (by decide +kernel)
theorem k_128 : ((.selects "SpaceCycles$Common" ⟨"SpaceCycles$Common", "find", "(LSpaceCycles$Grid;LSpaceCycles$Grid;)V"⟩ ⟨"SpaceCycles$Common", "find", "(LSpaceCycles$Grid;LSpaceCycles$Grid;)V"⟩) : Cond) ∈ gl := gl_i 873 (by decide +kernel) (by decide +kernel)
theorem k_129 : ((.instanceMethod ⟨"SpaceCycles$Common", "find", "(LSpaceCycles$Grid;LSpaceCycles$Grid;)V"⟩) : Cond) ∈ gl := gl_i 872 (by decide +kernel) (by decide +kernel)
theorem k_130 : ((.methodLink "SpaceCycles$Names" 33 ⟨"SpaceCycles$Common", "find", "(LSpaceCycles$Grid;LSpaceCycles$Grid;)V"⟩) : Cond) ∈ gl := gl_i 871 (by decide +kernel) (by decide +kernel)
theorem k_131 : ((.code ⟨"SpaceCycles$Names", "leave", "(LSpaceCycles$Common;II)V"⟩ prog_7_method_3_code 7 none) : Cond) ∈ gl := gl_i 886 (by decide +kernel) (by decide +kernel)
theorem k_132 : ((.selects "SpaceCycles$Names" ⟨"SpaceCycles$Names", "leave", "(LSpaceCycles$Common;II)V"⟩ ⟨"SpaceCycles$Names", "leave", "(LSpaceCycles$Common;II)V"⟩) : Cond) ∈ gl := gl_s (by decide +kernel) (by decide +kernel)
theorem k_133 : ((.instanceMethod ⟨"SpaceCycles$Names", "leave", "(LSpaceCycles$Common;II)V"⟩) : Cond) ∈ gl := gl_i 885 (by decide +kernel) (by decide +kernel)
theorem k_134 : ((.initialized "SpaceCycles$Names") : Cond) ∈ gl := gl_i 8 (by decide +kernel) (by decide +kernel)
theorem k_135 : ((.methodLink "SpaceCycles$Names" 39 ⟨"SpaceCycles$Names", "leave", "(LSpaceCycles$Common;II)V"⟩) : Cond) ∈ gl := gl_i 883 (by decide +kernel) (by decide +kernel)
theorem k_136 : ((.methodLink "SpaceCycles$Names" 43 ⟨"java/lang/System", "arraycopy", "(Ljava/lang/Object;ILjava/lang/Object;II)V"⟩) : Cond) ∈ gl := gl_i 891 (by decide +kernel) (by decide +kernel)
theorem k_137 : ((.native ⟨"java/lang/System", "arraycopy", "(Ljava/lang/Object;ILjava/lang/Object;II)V"⟩) : Cond) ∈ gl := gl_i 617 (by decide +kernel) (by decide +kernel)
theorem k_138 : ((.static ⟨"java/lang/System", "arraycopy", "(Ljava/lang/Object;ILjava/lang/Object;II)V"⟩) : Cond) ∈ gl := gl_i 616 (by decide +kernel) (by decide +kernel)
theorem k_139 : ((.initialized "java/lang/System") : Cond) ∈ gl := gl_i 25 (by decide +kernel) (by decide +kernel)
-- SpaceCycles$Names.passOn(LSpaceCycles$Common;LSpaceCycles$Grid;LSpaceCycles$Grid;)V
abbrev b_Na_passOn : ByteArray := prog_7_method_2_code
abbrev y_Na_passOn : MethodName := ⟨"SpaceCycles$Names", "passOn", "(LSpaceCycles$Common;LSpaceCycles$Grid;LSpaceCycles$Grid;)V"⟩
abbrev w_Na_passOn : List Cond := Cond.code y_Na_passOn b_Na_passOn 5 none :: gl
abbrev rm_Na_passOn : Room := { frames := 3, cells := 0, slots := 0, locals := 116 }
theorem d_Na_passOn_0 : decode b_Na_passOn 0 = .ok (.aload_n 0, 1) := by decide +kernel
theorem d_Na_passOn_1 : decode b_Na_passOn 1 = .ok (.getfield 15, 3) := by decide +kernel
theorem d_Na_passOn_4 : decode b_Na_passOn 4 = .ok (.iconst 0, 1) := by decide +kernel
theorem d_Na_passOn_5 : decode b_Na_passOn 5 = .ok (.invokestatic 21, 3) := by decide +kernel
theorem d_Na_passOn_8 : decode b_Na_passOn 8 = .ok (.aload_n 0, 1) := by decide +kernel
theorem d_Na_passOn_9 : decode b_Na_passOn 9 = .ok (.getfield 18, 3) := by decide +kernel
theorem d_Na_passOn_12 : decode b_Na_passOn 12 = .ok (.iconst 0, 1) := by decide +kernel
theorem d_Na_passOn_13 : decode b_Na_passOn 13 = .ok (.invokestatic 21, 3) := by decide +kernel
theorem d_Na_passOn_16 : decode b_Na_passOn 16 = .ok (.iconst 0, 1) := by decide +kernel
theorem d_Na_passOn_17 : decode b_Na_passOn 17 = .ok (.istore 4, 2) := by decide +kernel
theorem d_Na_passOn_19 : decode b_Na_passOn 19 = .ok (.iload 4, 2) := by decide +kernel
theorem d_Na_passOn_21 : decode b_Na_passOn 21 = .ok (.aload_n 2, 1) := by decide +kernel
theorem d_Na_passOn_22 : decode b_Na_passOn 22 = .ok (.getfield 27, 3) := by decide +kernel
theorem d_Na_passOn_25 : decode b_Na_passOn 25 = .ok (.if_icmp .ge 36, 3) := by decide +kernel
theorem d_Na_passOn_28 : decode b_Na_passOn 28 = .ok (.aload_n 0, 1) := by decide +kernel
theorem d_Na_passOn_29 : decode b_Na_passOn 29 = .ok (.getfield 9, 3) := by decide +kernel
theorem d_Na_passOn_32 : decode b_Na_passOn 32 = .ok (.iload 4, 2) := by decide +kernel
theorem d_Na_passOn_34 : decode b_Na_passOn 34 = .ok (.iaload, 1) := by decide +kernel
theorem d_Na_passOn_35 : decode b_Na_passOn 35 = .ok (.ifCond .eq 20, 3) := by decide +kernel
theorem d_Na_passOn_38 : decode b_Na_passOn 38 = .ok (.aload_n 1, 1) := by decide +kernel
theorem d_Na_passOn_39 : decode b_Na_passOn 39 = .ok (.aload_n 2, 1) := by decide +kernel
theorem d_Na_passOn_40 : decode b_Na_passOn 40 = .ok (.aload_n 3, 1) := by decide +kernel
theorem d_Na_passOn_41 : decode b_Na_passOn 41 = .ok (.invokevirtual 33, 3) := by decide +kernel
theorem d_Na_passOn_44 : decode b_Na_passOn 44 = .ok (.aload_n 0, 1) := by decide +kernel
theorem d_Na_passOn_45 : decode b_Na_passOn 45 = .ok (.aload_n 1, 1) := by decide +kernel
theorem d_Na_passOn_46 : decode b_Na_passOn 46 = .ok (.iload 4, 2) := by decide +kernel
theorem d_Na_passOn_48 : decode b_Na_passOn 48 = .ok (.aload_n 3, 1) := by decide +kernel
theorem d_Na_passOn_49 : decode b_Na_passOn 49 = .ok (.getfield 27, 3) := by decide +kernel
theorem d_Na_passOn_52 : decode b_Na_passOn 52 = .ok (.invokevirtual 39, 3) := by decide +kernel
theorem d_Na_passOn_55 : decode b_Na_passOn 55 = .ok (.iinc 4 1, 3) := by decide +kernel
theorem d_Na_passOn_58 : decode b_Na_passOn 58 = .ok (.goto (-39), 3) := by decide +kernel
theorem d_Na_passOn_61 : decode b_Na_passOn 61 = .ok (.aload_n 0, 1) := by decide +kernel
theorem d_Na_passOn_62 : decode b_Na_passOn 62 = .ok (.getfield 15, 3) := by decide +kernel
theorem d_Na_passOn_65 : decode b_Na_passOn 65 = .ok (.iconst 0, 1) := by decide +kernel
theorem d_Na_passOn_66 : decode b_Na_passOn 66 = .ok (.aload_n 0, 1) := by decide +kernel
theorem d_Na_passOn_67 : decode b_Na_passOn 67 = .ok (.getfield 9, 3) := by decide +kernel
theorem d_Na_passOn_70 : decode b_Na_passOn 70 = .ok (.iconst 0, 1) := by decide +kernel
theorem d_Na_passOn_71 : decode b_Na_passOn 71 = .ok (.bipush 81, 2) := by decide +kernel
theorem d_Na_passOn_73 : decode b_Na_passOn 73 = .ok (.invokestatic 43, 3) := by decide +kernel
theorem d_Na_passOn_76 : decode b_Na_passOn 76 = .ok (.return_, 1) := by decide +kernel
abbrev wl_Na_passOn (a_0 : Nat) (a_0_given : Nat) (a_0_passed : Nat) (a_0_shares : Nat) (a_1 : Nat) (a_1_columns : Nat) (a_1_columns_width : Nat) (a_1_columns_oldGap : Nat) (a_1_columns_newGap : Nat) (a_1_rows : Nat) (a_1_rows_width : Nat) (a_1_rows_oldGap : Nat) (a_1_rows_newGap : Nat) (a_1_areas : Nat) (a_2 : Nat) (a_2_xs : Nat) (a_2_xs_places : Nat) (a_2_ys : Nat) (a_2_ys_places : Nat) (a_2_cells : Nat) (a_3 : Nat) (a_3_xs : Nat) (a_3_xs_places : Nat) (a_3_ys : Nat) (a_3_ys_places : Nat) (a_3_cells : Nat) (cI : ClassId) (f_0_given : Nat → Int32) (f_0_passed : Nat → Int32) (f_0_shares : Nat → Int32) (v_1_known : Int32) (v_1_columns_count : Int32) (f_1_columns_width : Nat → Int32) (f_1_columns_oldGap : Nat → Int32) (f_1_columns_newGap : Nat → Int32) (v_1_rows_count : Int32) (f_1_rows_width : Nat → Int32) (f_1_rows_oldGap : Nat → Int32) (f_1_rows_newGap : Nat → Int32) (f_1_areas : Nat → Int32) (v_2_spaces : Int32) (v_2_xs_count : Int32) (f_2_xs_places : Nat → Int32) (v_2_ys_count : Int32) (f_2_ys_places : Nat → Int32) (f_2_cells : Nat → Int32) (v_3_spaces : Int32) (v_3_xs_count : Int32) (f_3_xs_places : Nat → Int32) (v_3_ys_count : Int32) (f_3_ys_places : Nat → Int32) (f_3_cells : Nat → Int32) : va_W := [(a_0, .inr (6, [.ref a_0_given, .ref a_0_passed, .ref a_0_shares])), (a_0_given, .inl (cI, 81, .inl f_0_given)), (a_0_passed, .inl (cI, 81, .inl f_0_passed)), (a_0_shares, .inl (cI, 81, .inl f_0_shares)), (a_1, .inr (5, [.ref a_1_columns, .ref a_1_rows, .ref a_1_areas, .int v_1_known])), (a_1_columns, .inr (10, [.ref a_1_columns_width, .ref a_1_columns_oldGap, .ref a_1_columns_newGap, .int v_1_columns_count])), (a_1_columns_width, .inl (cI, 80, .inl f_1_columns_width)), (a_1_columns_oldGap, .inl (cI, 80, .inl f_1_columns_oldGap)), (a_1_columns_newGap, .inl (cI, 80, .inl f_1_columns_newGap)), (a_1_rows, .inr (10, [.ref a_1_rows_width, .ref a_1_rows_oldGap, .ref a_1_rows_newGap, .int v_1_rows_count])), (a_1_rows_width, .inl (cI, 80, .inl f_1_rows_width)), (a_1_rows_oldGap, .inl (cI, 80, .inl f_1_rows_oldGap)), (a_1_rows_newGap, .inl (cI, 80, .inl f_1_rows_newGap)), (a_1_areas, .inl (cI, 6561, .inl f_1_areas)), (a_2, .inr (8, [.ref a_2_xs, .ref a_2_ys, .ref a_2_cells, .int v_2_spaces])), (a_2_xs, .inr (9, [.ref a_2_xs_places, .int v_2_xs_count])), (a_2_xs_places, .inl (cI, 40, .inl f_2_xs_places)), (a_2_ys, .inr (9, [.ref a_2_ys_places, .int v_2_ys_count])), (a_2_ys_places, .inl (cI, 40, .inl f_2_ys_places)), (a_2_cells, .inl (cI, 1681, .inl f_2_cells)), (a_3, .inr (8, [.ref a_3_xs, .ref a_3_ys, .ref a_3_cells, .int v_3_spaces])), (a_3_xs, .inr (9, [.ref a_3_xs_places, .int v_3_xs_count])), (a_3_xs_places, .inl (cI, 40, .inl f_3_xs_places)), (a_3_ys, .inr (9, [.ref a_3_ys_places, .int v_3_ys_count])), (a_3_ys_places, .inl (cI, 40, .inl f_3_ys_places)), (a_3_cells, .inl (cI, 1681, .inl f_3_cells))]
def m_Na_passOn_L19 (f_0_given : Nat → Int32) (v_2_spaces : Int32) (v_2_xs_count : Int32) (f_2_xs_places : Nat → Int32) (v_2_ys_count : Int32) (f_2_ys_places : Nat → Int32) (f_2_cells : Nat → Int32) (v_3_spaces : Int32) (v_3_xs_count : Int32) (f_3_xs_places : Nat → Int32) (v_3_ys_count : Int32) (f_3_ys_places : Nat → Int32) (f_3_cells : Nat → Int32) : Nat → Int32 → (Nat → Int32) → (Nat → Int32) → Int32 → Int32 → (Nat → Int32) → (Nat → Int32) → (Nat → Int32) → Int32 → (Nat → Int32) → (Nat → Int32) → (Nat → Int32) → (Nat → Int32) → Option ((Nat → Int32) × (Nat → Int32) × (Int32) × (Int32) × (Nat → Int32) × (Nat → Int32) × (Nat → Int32) × (Int32) × (Nat → Int32) × (Nat → Int32) × (Nat → Int32) × (Nat → Int32))
  | 0, _, _, _, _, _, _, _, _, _, _, _, _, _ => none
  | n + 1, l4, f_0_passed, f_0_shares, v_1_known, v_1_columns_count, f_1_columns_width, f_1_columns_oldGap, f_1_columns_newGap, v_1_rows_count, f_1_rows_width, f_1_rows_oldGap, f_1_rows_newGap, f_1_areas =>
    if v_2_spaces ≤ l4 then (
      some (f_0_passed, f_0_shares, v_1_known, v_1_columns_count, f_1_columns_width, f_1_columns_oldGap, f_1_columns_newGap, v_1_rows_count, f_1_rows_width, f_1_rows_oldGap, f_1_rows_newGap, f_1_areas))
    else (
      gI l4 81 <|
      bd12 (
        if (f_0_given l4.toNatClampNeg) = 0 then (
        some (f_0_passed, f_0_shares, v_1_known, v_1_columns_count, f_1_columns_width, f_1_columns_oldGap, f_1_columns_newGap, v_1_rows_count, f_1_rows_width, f_1_rows_oldGap, f_1_rows_newGap, f_1_areas))
      else (
        bd10 (m_Co_find v_1_known v_1_columns_count f_1_columns_width f_1_columns_oldGap f_1_columns_newGap v_1_rows_count f_1_rows_width f_1_rows_oldGap f_1_rows_newGap f_1_areas v_2_spaces v_2_xs_count f_2_xs_places v_2_ys_count f_2_ys_places f_2_cells v_3_xs_count f_3_xs_places v_3_ys_count f_3_ys_places f_3_cells) fun x23 x24 f25 f26 f27 x28 f29 f30 f31 f32 =>
        bd2 (m_Na_leave l4 v_3_spaces f_0_given f_0_passed f_0_shares f32) fun f34 f35 =>
        some (f34, f35, x23, x24, f25, f26, f27, x28, f29, f30, f31, f32)))
      fun (f10 : Nat → Int32) (f11 : Nat → Int32) (x12 : Int32) (x13 : Int32) (f14 : Nat → Int32) (f15 : Nat → Int32) (f16 : Nat → Int32) (x17 : Int32) (f18 : Nat → Int32) (f19 : Nat → Int32) (f20 : Nat → Int32) (f21 : Nat → Int32) =>
      lt_ (l4 + 1) fun x37 =>
        m_Na_passOn_L19 f_0_given v_2_spaces v_2_xs_count f_2_xs_places v_2_ys_count f_2_ys_places f_2_cells v_3_spaces v_3_xs_count f_3_xs_places v_3_ys_count f_3_ys_places f_3_cells n x37 f10 f11 x12 x13 f14 f15 f16 x17 f18 f19 f20 f21)
def m_Na_passOn (f_0_given : Nat → Int32) (f_0_passed : Nat → Int32) (f_0_shares : Nat → Int32) (v_1_known : Int32) (v_1_columns_count : Int32) (f_1_columns_width : Nat → Int32) (f_1_columns_oldGap : Nat → Int32) (f_1_columns_newGap : Nat → Int32) (v_1_rows_count : Int32) (f_1_rows_width : Nat → Int32) (f_1_rows_oldGap : Nat → Int32) (f_1_rows_newGap : Nat → Int32) (f_1_areas : Nat → Int32) (v_2_spaces : Int32) (v_2_xs_count : Int32) (f_2_xs_places : Nat → Int32) (v_2_ys_count : Int32) (f_2_ys_places : Nat → Int32) (f_2_cells : Nat → Int32) (v_3_spaces : Int32) (v_3_xs_count : Int32) (f_3_xs_places : Nat → Int32) (v_3_ys_count : Int32) (f_3_ys_places : Nat → Int32) (f_3_cells : Nat → Int32) : Option ((Nat → Int32) × (Nat → Int32) × (Nat → Int32) × (Int32) × (Int32) × (Nat → Int32) × (Nat → Int32) × (Nat → Int32) × (Int32) × (Nat → Int32) × (Nat → Int32) × (Nat → Int32) × (Nat → Int32)) :=
  bd1 (m_Ar_fill0 81 0 f_0_passed) fun f1 =>
  bd1 (m_Ar_fill0 81 0 f_0_shares) fun f3 =>
  bd12 (m_Na_passOn_L19 f_0_given v_2_spaces v_2_xs_count f_2_xs_places v_2_ys_count f_2_ys_places f_2_cells v_3_spaces v_3_xs_count f_3_xs_places v_3_ys_count f_3_ys_places f_3_cells fu 0 f1 f3 v_1_known v_1_columns_count f_1_columns_width f_1_columns_oldGap f_1_columns_newGap v_1_rows_count f_1_rows_width f_1_rows_oldGap f_1_rows_newGap f_1_areas) fun f18 f19 x20 x21 f22 f23 f24 x25 f26 f27 f28 f29 =>
  gC 0 0 81 81 81 <|
  lt_ (va_cpy f18 f_0_given (0 : Int32).toNatClampNeg (0 : Int32).toNatClampNeg (81 : Int32).toNatClampNeg) fun f66 =>
  some (f66, f18, f19, x20, x21, f22, f23, f24, x25, f26, f27, f28, f29)

set_option maxHeartbeats 4000000 in
set_option maxRecDepth 100000 in
theorem t_Na_passOn {p : Program} {l : Launch} {e : Env} {s : State} {m : MethodId} {args : Array Value} {below : List Frame} {meth : Method} {c : Code} {A : Nat → Prop} {Q : State → Prop} {dC : Nat → ClassId} {dI : Nat → Nat → Nat} {cI cZ cJ : ClassId} (a_0 a_0_given a_0_passed a_0_shares a_1 a_1_columns a_1_columns_width a_1_columns_oldGap a_1_columns_newGap a_1_rows a_1_rows_width a_1_rows_oldGap a_1_rows_newGap a_1_areas a_2 a_2_xs a_2_xs_places a_2_ys a_2_ys_places a_2_cells a_3 a_3_xs a_3_xs_places a_3_ys a_3_ys_places a_3_cells : Nat) (f_0_given : Nat → Int32) (f_0_passed : Nat → Int32) (f_0_shares : Nat → Int32) (v_1_known : Int32) (v_1_columns_count : Int32) (f_1_columns_width : Nat → Int32) (f_1_columns_oldGap : Nat → Int32) (f_1_columns_newGap : Nat → Int32) (v_1_rows_count : Int32) (f_1_rows_width : Nat → Int32) (f_1_rows_oldGap : Nat → Int32) (f_1_rows_newGap : Nat → Int32) (f_1_areas : Nat → Int32) (v_2_spaces : Int32) (v_2_xs_count : Int32) (f_2_xs_places : Nat → Int32) (v_2_ys_count : Int32) (f_2_ys_places : Nat → Int32) (f_2_cells : Nat → Int32) (v_3_spaces : Int32) (v_3_xs_count : Int32) (f_3_xs_places : Nat → Int32) (v_3_ys_count : Int32) (f_3_ys_places : Nat → Int32) (f_3_cells : Nat → Int32)  (of_0_given : Nat → Int32) (of_0_passed : Nat → Int32) (of_0_shares : Nat → Int32) (ov_1_known : Int32) (ov_1_columns_count : Int32) (of_1_columns_width : Nat → Int32) (of_1_columns_oldGap : Nat → Int32) (of_1_columns_newGap : Nat → Int32) (ov_1_rows_count : Int32) (of_1_rows_width : Nat → Int32) (of_1_rows_oldGap : Nat → Int32) (of_1_rows_newGap : Nat → Int32) (of_1_areas : Nat → Int32) (hx : p.tables.exec = Jvm.exec) (hb : c.code = b_Na_passOn) (hml : c.maxLocals = 5) (hown : s.vm.findClass "SpaceCycles$Names" = some m.cls) (hts : ∀ w ∈ w_Na_passOn, w.before args s = true) (hK : va_K (dC, dI) vwCl [(cI, .int), (cZ, .boolean), (cJ, .long)] s) (hN : NX s) (hA : ∀ q : Nat, s.heap.size ≤ q → A q)
    (hret : ∀ (pc : Nat) (H : Heap) (locs : List Loc) (ls : Array Slot), decode b_Na_passOn pc = .ok (.return_, 1) → va_P (dC, dI) vwCl (wl_Na_passOn a_0 a_0_given a_0_passed a_0_shares a_1 a_1_columns a_1_columns_width a_1_columns_oldGap a_1_columns_newGap a_1_rows a_1_rows_width a_1_rows_oldGap a_1_rows_newGap a_1_areas a_2 a_2_xs a_2_xs_places a_2_ys a_2_ys_places a_2_cells a_3 a_3_xs a_3_xs_places a_3_ys a_3_ys_places a_3_cells cI of_0_given of_0_passed of_0_shares ov_1_known ov_1_columns_count of_1_columns_width of_1_columns_oldGap of_1_columns_newGap ov_1_rows_count of_1_rows_width of_1_rows_oldGap of_1_rows_newGap of_1_areas v_2_spaces v_2_xs_count f_2_xs_places v_2_ys_count f_2_ys_places f_2_cells v_3_spaces v_3_xs_count f_3_xs_places v_3_ys_count f_3_ys_places f_3_cells) H → va_D A (wl_Na_passOn a_0 a_0_given a_0_passed a_0_shares a_1 a_1_columns a_1_columns_width a_1_columns_oldGap a_1_columns_newGap a_1_rows a_1_rows_width a_1_rows_oldGap a_1_rows_newGap a_1_areas a_2 a_2_xs a_2_xs_places a_2_ys a_2_ys_places a_2_cells a_3 a_3_xs a_3_xs_places a_3_ys a_3_ys_places a_3_cells cI of_0_given of_0_passed of_0_shares ov_1_known ov_1_columns_count of_1_columns_width of_1_columns_oldGap of_1_columns_newGap ov_1_rows_count of_1_rows_width of_1_rows_oldGap of_1_rows_newGap of_1_areas v_2_spaces v_2_xs_count f_2_xs_places v_2_ys_count f_2_ys_places f_2_cells v_3_spaces v_3_xs_count f_3_xs_places v_3_ys_count f_3_ys_places f_3_cells) → va_S A s.heap H locs → W p l e rm_Na_passOn s m args below meth c H locs 0 0 Q (F0 m pc ls []))
    (hm : m_Na_passOn f_0_given f_0_passed f_0_shares v_1_known v_1_columns_count f_1_columns_width f_1_columns_oldGap f_1_columns_newGap v_1_rows_count f_1_rows_width f_1_rows_oldGap f_1_rows_newGap f_1_areas v_2_spaces v_2_xs_count f_2_xs_places v_2_ys_count f_2_ys_places f_2_cells v_3_spaces v_3_xs_count f_3_xs_places v_3_ys_count f_3_ys_places f_3_cells = some (of_0_given, of_0_passed, of_0_shares, ov_1_known, ov_1_columns_count, of_1_columns_width, of_1_columns_oldGap, of_1_columns_newGap, ov_1_rows_count, of_1_rows_width, of_1_rows_oldGap, of_1_rows_newGap, of_1_areas)) : ∀ (H : Heap) (locs : List Loc) (ls : Array Slot), va_P (dC, dI) vwCl (wl_Na_passOn a_0 a_0_given a_0_passed a_0_shares a_1 a_1_columns a_1_columns_width a_1_columns_oldGap a_1_columns_newGap a_1_rows a_1_rows_width a_1_rows_oldGap a_1_rows_newGap a_1_areas a_2 a_2_xs a_2_xs_places a_2_ys a_2_ys_places a_2_cells a_3 a_3_xs a_3_xs_places a_3_ys a_3_ys_places a_3_cells cI f_0_given f_0_passed f_0_shares v_1_known v_1_columns_count f_1_columns_width f_1_columns_oldGap f_1_columns_newGap v_1_rows_count f_1_rows_width f_1_rows_oldGap f_1_rows_newGap f_1_areas v_2_spaces v_2_xs_count f_2_xs_places v_2_ys_count f_2_ys_places f_2_cells v_3_spaces v_3_xs_count f_3_xs_places v_3_ys_count f_3_ys_places f_3_cells) H → va_D A (wl_Na_passOn a_0 a_0_given a_0_passed a_0_shares a_1 a_1_columns a_1_columns_width a_1_columns_oldGap a_1_columns_newGap a_1_rows a_1_rows_width a_1_rows_oldGap a_1_rows_newGap a_1_areas a_2 a_2_xs a_2_xs_places a_2_ys a_2_ys_places a_2_cells a_3 a_3_xs a_3_xs_places a_3_ys a_3_ys_places a_3_cells cI f_0_given f_0_passed f_0_shares v_1_known v_1_columns_count f_1_columns_width f_1_columns_oldGap f_1_columns_newGap v_1_rows_count f_1_rows_width f_1_rows_oldGap f_1_rows_newGap f_1_areas v_2_spaces v_2_xs_count f_2_xs_places v_2_ys_count f_2_ys_places f_2_cells v_3_spaces v_3_xs_count f_3_xs_places v_3_ys_count f_3_ys_places f_3_cells) → va_S A s.heap H locs → lv_has ls 5 [(0, .ref a_0), (1, .ref a_1), (2, .ref a_2), (3, .ref a_3)] → W p l e rm_Na_passOn s m args below meth c H locs 0 0 Q (F0 m 0 ls []) := by
  intro H locs ls hP hD hS hl
  unfold m_Na_passOn at hm
  refine lv_aload_n hx hb d_Na_passOn_0 rfl (lv_at hl 0 rfl) ?_
  refine va_get (D := (dC, dI)) (ci := 6) (v := .ref a_0_passed) (C := "SpaceCycles$Names") (T := F_Na) (N := 3) hx hb hts (in_F i_Na) hown hK hP 0 rfl rfl 1 (by decide) (hts _ (in_c k_121)) (fun _ h9 => h9) rfl d_Na_passOn_1 ?_
  refine lv_iconst (v := 0) hx hb d_Na_passOn_4 (by decide) ?_
  obtain ⟨f1, hb2, hm⟩ := bd1_e hm
  have hPc := hP.sub (ws' := (wl_Ar_fill0 a_0_passed cI 81 f_0_passed)) [2] rfl
  have hDc := hD.sub (ws' := (wl_Ar_fill0 a_0_passed cI 81 f_0_passed)) [2] (by decide) rfl
  refine cl_v (wc' := (wl_Ar_fill0 a_0_passed cI 81 f1)) (va_runS (As := [.ref a_0_passed, .int 0]) (rest := []) ⟨hx, hb, hml, hown, hts⟩ (c_Ar_fill0 l dC dI (cI := cI) (cZ := cZ) (cJ := cJ) a_0_passed H.size 81 f_0_passed 0 f1 hb2) (va_cwS 2 hts (gl_S k_125 k_124 k_2 k_123) rfl rfl rfl (by decide +kernel) ⟨Nat.le_of_ble_eq_true rfl, Nat.le_of_ble_eq_true rfl⟩) ⟨PP_blind, fun U hU hW => PP_at hK hN hPc hDc hU hW⟩ rfl rfl hl.1 rfl (lv_room (Nat.le_of_ble_eq_true rfl)) d_Na_passOn_5 ⟨Nat.zero_le _, Nat.zero_le _⟩) hP hD hS hA [2] [0, 1, 3, 4, 5, 6, 7, 8, 9, 10, 11, 12, 13, 14, 15, 16, 17, 18, 19, 20, 21, 22, 23, 24, 25] rfl rfl (by decide) (by decide) (fun H locs hP hD hS => ?_)
  have hP : va_P (dC, dI) vwCl (wl_Na_passOn a_0 a_0_given a_0_passed a_0_shares a_1 a_1_columns a_1_columns_width a_1_columns_oldGap a_1_columns_newGap a_1_rows a_1_rows_width a_1_rows_oldGap a_1_rows_newGap a_1_areas a_2 a_2_xs a_2_xs_places a_2_ys a_2_ys_places a_2_cells a_3 a_3_xs a_3_xs_places a_3_ys a_3_ys_places a_3_cells cI f_0_given f1 f_0_shares v_1_known v_1_columns_count f_1_columns_width f_1_columns_oldGap f_1_columns_newGap v_1_rows_count f_1_rows_width f_1_rows_oldGap f_1_rows_newGap f_1_areas v_2_spaces v_2_xs_count f_2_xs_places v_2_ys_count f_2_ys_places f_2_cells v_3_spaces v_3_xs_count f_3_xs_places v_3_ys_count f_3_ys_places f_3_cells) H := hP.sub [0, 1, 25, 2, 3, 4, 5, 6, 7, 8, 9, 10, 11, 12, 13, 14, 15, 16, 17, 18, 19, 20, 21, 22, 23, 24] rfl
  have hD : va_D A (wl_Na_passOn a_0 a_0_given a_0_passed a_0_shares a_1 a_1_columns a_1_columns_width a_1_columns_oldGap a_1_columns_newGap a_1_rows a_1_rows_width a_1_rows_oldGap a_1_rows_newGap a_1_areas a_2 a_2_xs a_2_xs_places a_2_ys a_2_ys_places a_2_cells a_3 a_3_xs a_3_xs_places a_3_ys a_3_ys_places a_3_cells cI f_0_given f1 f_0_shares v_1_known v_1_columns_count f_1_columns_width f_1_columns_oldGap f_1_columns_newGap v_1_rows_count f_1_rows_width f_1_rows_oldGap f_1_rows_newGap f_1_areas v_2_spaces v_2_xs_count f_2_xs_places v_2_ys_count f_2_ys_places f_2_cells v_3_spaces v_3_xs_count f_3_xs_places v_3_ys_count f_3_ys_places f_3_cells) := hD.sub [0, 1, 25, 2, 3, 4, 5, 6, 7, 8, 9, 10, 11, 12, 13, 14, 15, 16, 17, 18, 19, 20, 21, 22, 23, 24] (by decide) rfl
  refine lv_aload_n hx hb d_Na_passOn_8 rfl (lv_at hl 0 rfl) ?_
  refine va_get (D := (dC, dI)) (ci := 6) (v := .ref a_0_shares) (C := "SpaceCycles$Names") (T := F_Na) (N := 3) hx hb hts (in_F i_Na) hown hK hP 0 rfl rfl 2 (by decide) (hts _ (in_c k_120)) (fun _ h9 => h9) rfl d_Na_passOn_9 ?_
  refine lv_iconst (v := 0) hx hb d_Na_passOn_12 (by decide) ?_
  obtain ⟨f3, hb4, hm⟩ := bd1_e hm
  have hPc := hP.sub (ws' := (wl_Ar_fill0 a_0_shares cI 81 f_0_shares)) [3] rfl
  have hDc := hD.sub (ws' := (wl_Ar_fill0 a_0_shares cI 81 f_0_shares)) [3] (by decide) rfl
  refine cl_v (wc' := (wl_Ar_fill0 a_0_shares cI 81 f3)) (va_runS (As := [.ref a_0_shares, .int 0]) (rest := []) ⟨hx, hb, hml, hown, hts⟩ (c_Ar_fill0 l dC dI (cI := cI) (cZ := cZ) (cJ := cJ) a_0_shares H.size 81 f_0_shares 0 f3 hb4) (va_cwS 2 hts (gl_S k_125 k_124 k_2 k_123) rfl rfl rfl (by decide +kernel) ⟨Nat.le_of_ble_eq_true rfl, Nat.le_of_ble_eq_true rfl⟩) ⟨PP_blind, fun U hU hW => PP_at hK hN hPc hDc hU hW⟩ rfl rfl hl.1 rfl (lv_room (Nat.le_of_ble_eq_true rfl)) d_Na_passOn_13 ⟨Nat.zero_le _, Nat.zero_le _⟩) hP hD hS hA [3] [0, 1, 2, 4, 5, 6, 7, 8, 9, 10, 11, 12, 13, 14, 15, 16, 17, 18, 19, 20, 21, 22, 23, 24, 25] rfl rfl (by decide) (by decide) (fun H locs hP hD hS => ?_)
  have hP : va_P (dC, dI) vwCl (wl_Na_passOn a_0 a_0_given a_0_passed a_0_shares a_1 a_1_columns a_1_columns_width a_1_columns_oldGap a_1_columns_newGap a_1_rows a_1_rows_width a_1_rows_oldGap a_1_rows_newGap a_1_areas a_2 a_2_xs a_2_xs_places a_2_ys a_2_ys_places a_2_cells a_3 a_3_xs a_3_xs_places a_3_ys a_3_ys_places a_3_cells cI f_0_given f1 f3 v_1_known v_1_columns_count f_1_columns_width f_1_columns_oldGap f_1_columns_newGap v_1_rows_count f_1_rows_width f_1_rows_oldGap f_1_rows_newGap f_1_areas v_2_spaces v_2_xs_count f_2_xs_places v_2_ys_count f_2_ys_places f_2_cells v_3_spaces v_3_xs_count f_3_xs_places v_3_ys_count f_3_ys_places f_3_cells) H := hP.sub [0, 1, 2, 25, 3, 4, 5, 6, 7, 8, 9, 10, 11, 12, 13, 14, 15, 16, 17, 18, 19, 20, 21, 22, 23, 24] rfl
  have hD : va_D A (wl_Na_passOn a_0 a_0_given a_0_passed a_0_shares a_1 a_1_columns a_1_columns_width a_1_columns_oldGap a_1_columns_newGap a_1_rows a_1_rows_width a_1_rows_oldGap a_1_rows_newGap a_1_areas a_2 a_2_xs a_2_xs_places a_2_ys a_2_ys_places a_2_cells a_3 a_3_xs a_3_xs_places a_3_ys a_3_ys_places a_3_cells cI f_0_given f1 f3 v_1_known v_1_columns_count f_1_columns_width f_1_columns_oldGap f_1_columns_newGap v_1_rows_count f_1_rows_width f_1_rows_oldGap f_1_rows_newGap f_1_areas v_2_spaces v_2_xs_count f_2_xs_places v_2_ys_count f_2_ys_places f_2_cells v_3_spaces v_3_xs_count f_3_xs_places v_3_ys_count f_3_ys_places f_3_cells) := hD.sub [0, 1, 2, 25, 3, 4, 5, 6, 7, 8, 9, 10, 11, 12, 13, 14, 15, 16, 17, 18, 19, 20, 21, 22, 23, 24] (by decide) rfl
  refine lv_iconst (v := 0) hx hb d_Na_passOn_16 (by decide) ?_
  refine lv_istore (lv' := [(4, .int 0), (0, .ref a_0), (1, .ref a_1), (2, .ref a_2), (3, .ref a_3)]) hx hb d_Na_passOn_17 hl (by decide) rfl (fun ls hl => ?_)
  have L19_30 : ∀ (n : Nat) (x5 : Int32) (f6 : Nat → Int32) (f7 : Nat → Int32) (x8 : Int32) (x9 : Int32) (f10 : Nat → Int32) (f11 : Nat → Int32) (f12 : Nat → Int32) (x13 : Int32) (f14 : Nat → Int32) (f15 : Nat → Int32) (f16 : Nat → Int32) (f17 : Nat → Int32) (f18 : Nat → Int32) (f19 : Nat → Int32) (x20 : Int32) (x21 : Int32) (f22 : Nat → Int32) (f23 : Nat → Int32) (f24 : Nat → Int32) (x25 : Int32) (f26 : Nat → Int32) (f27 : Nat → Int32) (f28 : Nat → Int32) (f29 : Nat → Int32), m_Na_passOn_L19 f_0_given v_2_spaces v_2_xs_count f_2_xs_places v_2_ys_count f_2_ys_places f_2_cells v_3_spaces v_3_xs_count f_3_xs_places v_3_ys_count f_3_ys_places f_3_cells n x5 f6 f7 x8 x9 f10 f11 f12 x13 f14 f15 f16 f17 = some (f18, f19, x20, x21, f22, f23, f24, x25, f26, f27, f28, f29) → (∀ (H : Heap) (locs : List Loc) (ls : Array Slot), va_P (dC, dI) vwCl (wl_Na_passOn a_0 a_0_given a_0_passed a_0_shares a_1 a_1_columns a_1_columns_width a_1_columns_oldGap a_1_columns_newGap a_1_rows a_1_rows_width a_1_rows_oldGap a_1_rows_newGap a_1_areas a_2 a_2_xs a_2_xs_places a_2_ys a_2_ys_places a_2_cells a_3 a_3_xs a_3_xs_places a_3_ys a_3_ys_places a_3_cells cI f_0_given f18 f19 x20 x21 f22 f23 f24 x25 f26 f27 f28 f29 v_2_spaces v_2_xs_count f_2_xs_places v_2_ys_count f_2_ys_places f_2_cells v_3_spaces v_3_xs_count f_3_xs_places v_3_ys_count f_3_ys_places f_3_cells) H → va_D A (wl_Na_passOn a_0 a_0_given a_0_passed a_0_shares a_1 a_1_columns a_1_columns_width a_1_columns_oldGap a_1_columns_newGap a_1_rows a_1_rows_width a_1_rows_oldGap a_1_rows_newGap a_1_areas a_2 a_2_xs a_2_xs_places a_2_ys a_2_ys_places a_2_cells a_3 a_3_xs a_3_xs_places a_3_ys a_3_ys_places a_3_cells cI f_0_given f18 f19 x20 x21 f22 f23 f24 x25 f26 f27 f28 f29 v_2_spaces v_2_xs_count f_2_xs_places v_2_ys_count f_2_ys_places f_2_cells v_3_spaces v_3_xs_count f_3_xs_places v_3_ys_count f_3_ys_places f_3_cells) → va_S A s.heap H locs → lv_has ls 5 [(0, .ref a_0)] → W p l e rm_Na_passOn s m args below meth c H locs 0 0 Q (F0 m 61 ls [])) → ∀ (H : Heap) (locs : List Loc) (ls : Array Slot), va_P (dC, dI) vwCl (wl_Na_passOn a_0 a_0_given a_0_passed a_0_shares a_1 a_1_columns a_1_columns_width a_1_columns_oldGap a_1_columns_newGap a_1_rows a_1_rows_width a_1_rows_oldGap a_1_rows_newGap a_1_areas a_2 a_2_xs a_2_xs_places a_2_ys a_2_ys_places a_2_cells a_3 a_3_xs a_3_xs_places a_3_ys a_3_ys_places a_3_cells cI f_0_given f6 f7 x8 x9 f10 f11 f12 x13 f14 f15 f16 f17 v_2_spaces v_2_xs_count f_2_xs_places v_2_ys_count f_2_ys_places f_2_cells v_3_spaces v_3_xs_count f_3_xs_places v_3_ys_count f_3_ys_places f_3_cells) H → va_D A (wl_Na_passOn a_0 a_0_given a_0_passed a_0_shares a_1 a_1_columns a_1_columns_width a_1_columns_oldGap a_1_columns_newGap a_1_rows a_1_rows_width a_1_rows_oldGap a_1_rows_newGap a_1_areas a_2 a_2_xs a_2_xs_places a_2_ys a_2_ys_places a_2_cells a_3 a_3_xs a_3_xs_places a_3_ys a_3_ys_places a_3_cells cI f_0_given f6 f7 x8 x9 f10 f11 f12 x13 f14 f15 f16 f17 v_2_spaces v_2_xs_count f_2_xs_places v_2_ys_count f_2_ys_places f_2_cells v_3_spaces v_3_xs_count f_3_xs_places v_3_ys_count f_3_ys_places f_3_cells) → va_S A s.heap H locs → lv_has ls 5 [(0, .ref a_0), (1, .ref a_1), (2, .ref a_2), (3, .ref a_3), (4, .int x5)] → W p l e rm_Na_passOn s m args below meth c H locs 0 0 Q (F0 m 19 ls []) := by
    intro n
    induction n with
    | zero => intro x5 f6 f7 x8 x9 f10 f11 f12 x13 f14 f15 f16 f17 f18 f19 x20 x21 f22 f23 f24 x25 f26 f27 f28 f29 hm; simp [m_Na_passOn_L19] at hm
    | succ n ih =>
      intro x5 f6 f7 x8 x9 f10 f11 f12 x13 f14 f15 f16 f17 f18 f19 x20 x21 f22 f23 f24 x25 f26 f27 f28 f29 hm KE H locs ls hP hD hS hl
      rw [m_Na_passOn_L19] at hm
      refine lv_iload hx hb d_Na_passOn_19 (lv_at hl 4 rfl) ?_
      refine lv_aload_n hx hb d_Na_passOn_21 rfl (lv_at hl 2 rfl) ?_
      refine va_get (D := (dC, dI)) (ci := 8) (v := .int v_2_spaces) (C := "SpaceCycles$Grid") (T := F_Gr) (N := 4) hx hb hts (in_F i_Gr) hown hK hP 14 rfl rfl 3 (by decide) (hts _ (in_c k_126)) (fun _ h9 => h9) rfl d_Na_passOn_22 ?_
      refine lv_icmp_ge (tgt := 61) hx hb d_Na_passOn_25 (by decide) (fun c31 => ?_) (fun c31 => ?_)
      · replace hm := if_t hm c31
        cases hm
        exact KE H locs ls hP hD hS (lv_sub hl [0] rfl)
      · replace hm := if_f hm c31
        refine lv_aload_n hx hb d_Na_passOn_28 rfl (lv_at hl 0 rfl) ?_
        refine va_get (D := (dC, dI)) (ci := 6) (v := .ref a_0_given) (C := "SpaceCycles$Names") (T := F_Na) (N := 3) hx hb hts (in_F i_Na) hown hK hP 0 rfl rfl 0 (by decide) (hts _ (in_c k_122)) (fun _ h9 => h9) rfl d_Na_passOn_29 ?_
        refine lv_iload hx hb d_Na_passOn_32 (lv_at hl 4 rfl) ?_
        obtain ⟨hi32, hm⟩ := gI_e hm
        refine va_iald hx hb hK hP 1 0 rfl rfl hi32 d_Na_passOn_34 ?_
        obtain ⟨f36, f37, x38, x39, f40, f41, f42, x43, f44, f45, f46, f47, hb34, hm⟩ := bd12_e hm
        have K33 : ∀ (H : Heap) (locs : List Loc) (ls : Array Slot), va_P (dC, dI) vwCl (wl_Na_passOn a_0 a_0_given a_0_passed a_0_shares a_1 a_1_columns a_1_columns_width a_1_columns_oldGap a_1_columns_newGap a_1_rows a_1_rows_width a_1_rows_oldGap a_1_rows_newGap a_1_areas a_2 a_2_xs a_2_xs_places a_2_ys a_2_ys_places a_2_cells a_3 a_3_xs a_3_xs_places a_3_ys a_3_ys_places a_3_cells cI f_0_given f36 f37 x38 x39 f40 f41 f42 x43 f44 f45 f46 f47 v_2_spaces v_2_xs_count f_2_xs_places v_2_ys_count f_2_ys_places f_2_cells v_3_spaces v_3_xs_count f_3_xs_places v_3_ys_count f_3_ys_places f_3_cells) H → va_D A (wl_Na_passOn a_0 a_0_given a_0_passed a_0_shares a_1 a_1_columns a_1_columns_width a_1_columns_oldGap a_1_columns_newGap a_1_rows a_1_rows_width a_1_rows_oldGap a_1_rows_newGap a_1_areas a_2 a_2_xs a_2_xs_places a_2_ys a_2_ys_places a_2_cells a_3 a_3_xs a_3_xs_places a_3_ys a_3_ys_places a_3_cells cI f_0_given f36 f37 x38 x39 f40 f41 f42 x43 f44 f45 f46 f47 v_2_spaces v_2_xs_count f_2_xs_places v_2_ys_count f_2_ys_places f_2_cells v_3_spaces v_3_xs_count f_3_xs_places v_3_ys_count f_3_ys_places f_3_cells) → va_S A s.heap H locs → lv_has ls 5 [(0, .ref a_0), (1, .ref a_1), (2, .ref a_2), (3, .ref a_3), (4, .int x5)] → W p l e rm_Na_passOn s m args below meth c H locs 0 0 Q (F0 m 55 ls []) := by
          intro H locs ls hP hD hS hl
          obtain ⟨x63, ex63⟩ : ∃ y : Int32, y = x5 + 1 := ⟨_, rfl⟩
          replace hm := lt_el hm ex63
          refine lv_iinc (v := x63) (lv' := [(4, .int x63), (0, .ref a_0), (1, .ref a_1), (2, .ref a_2), (3, .ref a_3)]) hx hb d_Na_passOn_55 hl (k := 4) rfl (by rw [ex63]; rfl) (by decide) rfl (fun ls hl => ?_)
          refine lv_goto (tgt := 19) hx hb d_Na_passOn_58 (by decide) ?_
          exact ih _ _ _ _ _ _ _ _ _ _ _ _ _ _ _ _ _ _ _ _ _ _ _ _ _ hm KE H locs ls hP hD hS (lv_sub hl [1, 2, 3, 4, 0] rfl)
        replace hm := hb34
        refine lv_if_eq (tgt := 55) hx hb d_Na_passOn_35 (by decide) (fun c48 => ?_) (fun c48 => ?_)
        · replace hm := if_t hm c48
          cases hm
          exact K33 H locs ls hP hD hS (lv_sub hl [0, 1, 2, 3, 4] rfl)
        · replace hm := if_f hm c48
          refine lv_aload_n hx hb d_Na_passOn_38 rfl (lv_at hl 1 rfl) ?_
          refine lv_aload_n hx hb d_Na_passOn_39 rfl (lv_at hl 2 rfl) ?_
          refine lv_aload_n hx hb d_Na_passOn_40 rfl (lv_at hl 3 rfl) ?_
          obtain ⟨x49, x50, f51, f52, f53, x54, f55, f56, f57, f58, hb59, hm⟩ := bd10_e hm
          have hPc := hP.sub (ws' := (wl_Co_find a_1 a_1_columns a_1_columns_width a_1_columns_oldGap a_1_columns_newGap a_1_rows a_1_rows_width a_1_rows_oldGap a_1_rows_newGap a_1_areas a_2 a_2_xs a_2_xs_places a_2_ys a_2_ys_places a_2_cells a_3 a_3_xs a_3_xs_places a_3_ys a_3_ys_places a_3_cells cI x8 x9 f10 f11 f12 x13 f14 f15 f16 f17 v_2_spaces v_2_xs_count f_2_xs_places v_2_ys_count f_2_ys_places f_2_cells v_3_spaces v_3_xs_count f_3_xs_places v_3_ys_count f_3_ys_places f_3_cells)) [4, 5, 6, 7, 8, 9, 10, 11, 12, 13, 14, 15, 16, 17, 18, 19, 20, 21, 22, 23, 24, 25] rfl
          have hDc := hD.sub (ws' := (wl_Co_find a_1 a_1_columns a_1_columns_width a_1_columns_oldGap a_1_columns_newGap a_1_rows a_1_rows_width a_1_rows_oldGap a_1_rows_newGap a_1_areas a_2 a_2_xs a_2_xs_places a_2_ys a_2_ys_places a_2_cells a_3 a_3_xs a_3_xs_places a_3_ys a_3_ys_places a_3_cells cI x8 x9 f10 f11 f12 x13 f14 f15 f16 f17 v_2_spaces v_2_xs_count f_2_xs_places v_2_ys_count f_2_ys_places f_2_cells v_3_spaces v_3_xs_count f_3_xs_places v_3_ys_count f_3_ys_places f_3_cells)) [4, 5, 6, 7, 8, 9, 10, 11, 12, 13, 14, 15, 16, 17, 18, 19, 20, 21, 22, 23, 24, 25] (by decide) rfl
          refine cl_v (wc' := (wl_Co_find a_1 a_1_columns a_1_columns_width a_1_columns_oldGap a_1_columns_newGap a_1_rows a_1_rows_width a_1_rows_oldGap a_1_rows_newGap a_1_areas a_2 a_2_xs a_2_xs_places a_2_ys a_2_ys_places a_2_cells a_3 a_3_xs a_3_xs_places a_3_ys a_3_ys_places a_3_cells cI x49 x50 f51 f52 f53 x54 f55 f56 f57 f58 v_2_spaces v_2_xs_count f_2_xs_places v_2_ys_count f_2_ys_places f_2_cells v_3_spaces v_3_xs_count f_3_xs_places v_3_ys_count f_3_ys_places f_3_cells)) (va_runV (As := [.ref a_2, .ref a_3]) (rest := []) ⟨hx, hb, hml, hown, hts⟩ (c_Co_find l dC dI (cI := cI) (cZ := cZ) (cJ := cJ) a_1 a_1_columns a_1_columns_width a_1_columns_oldGap a_1_columns_newGap a_1_rows a_1_rows_width a_1_rows_oldGap a_1_rows_newGap a_1_areas a_2 a_2_xs a_2_xs_places a_2_ys a_2_ys_places a_2_cells a_3 a_3_xs a_3_xs_places a_3_ys a_3_ys_places a_3_cells H.size x8 x9 f10 f11 f12 x13 f14 f15 f16 f17 v_2_spaces v_2_xs_count f_2_xs_places v_2_ys_count f_2_ys_places f_2_cells v_3_spaces v_3_xs_count f_3_xs_places v_3_ys_count f_3_ys_places f_3_cells x49 x50 f51 f52 f53 x54 f55 f56 f57 f58 hb59) (cwV 2 hts (gl_V k_130 k_129 k_128 k_118 k_127) rfl rfl rfl (by decide +kernel) ⟨Nat.le_of_ble_eq_true rfl, Nat.le_of_ble_eq_true rfl⟩) ⟨PP_blind, va_recv hK hPc (ci := 5) (q0 := 0) rfl rfl, fun U hU hW => PP_at hK hN hPc hDc hU hW⟩ rfl rfl hl.1 rfl (lv_room (Nat.le_of_ble_eq_true rfl)) d_Na_passOn_41 ⟨Nat.zero_le _, Nat.zero_le _⟩) hP hD hS hA [4, 5, 6, 7, 8, 9, 10, 11, 12, 13, 14, 15, 16, 17, 18, 19, 20, 21, 22, 23, 24, 25] [0, 1, 2, 3] rfl rfl (by decide) (by decide) (fun H locs hP hD hS => ?_)
          have hP : va_P (dC, dI) vwCl (wl_Na_passOn a_0 a_0_given a_0_passed a_0_shares a_1 a_1_columns a_1_columns_width a_1_columns_oldGap a_1_columns_newGap a_1_rows a_1_rows_width a_1_rows_oldGap a_1_rows_newGap a_1_areas a_2 a_2_xs a_2_xs_places a_2_ys a_2_ys_places a_2_cells a_3 a_3_xs a_3_xs_places a_3_ys a_3_ys_places a_3_cells cI f_0_given f6 f7 x49 x50 f51 f52 f53 x54 f55 f56 f57 f58 v_2_spaces v_2_xs_count f_2_xs_places v_2_ys_count f_2_ys_places f_2_cells v_3_spaces v_3_xs_count f_3_xs_places v_3_ys_count f_3_ys_places f_3_cells) H := hP.sub [0, 1, 2, 3, 4, 5, 6, 7, 8, 9, 10, 11, 12, 13, 14, 15, 16, 17, 18, 19, 20, 21, 22, 23, 24, 25] rfl
          have hD : va_D A (wl_Na_passOn a_0 a_0_given a_0_passed a_0_shares a_1 a_1_columns a_1_columns_width a_1_columns_oldGap a_1_columns_newGap a_1_rows a_1_rows_width a_1_rows_oldGap a_1_rows_newGap a_1_areas a_2 a_2_xs a_2_xs_places a_2_ys a_2_ys_places a_2_cells a_3 a_3_xs a_3_xs_places a_3_ys a_3_ys_places a_3_cells cI f_0_given f6 f7 x49 x50 f51 f52 f53 x54 f55 f56 f57 f58 v_2_spaces v_2_xs_count f_2_xs_places v_2_ys_count f_2_ys_places f_2_cells v_3_spaces v_3_xs_count f_3_xs_places v_3_ys_count f_3_ys_places f_3_cells) := hD.sub [0, 1, 2, 3, 4, 5, 6, 7, 8, 9, 10, 11, 12, 13, 14, 15, 16, 17, 18, 19, 20, 21, 22, 23, 24, 25] (by decide) rfl
          refine lv_aload_n hx hb d_Na_passOn_44 rfl (lv_at hl 0 rfl) ?_
          refine lv_aload_n hx hb d_Na_passOn_45 rfl (lv_at hl 1 rfl) ?_
          refine lv_iload hx hb d_Na_passOn_46 (lv_at hl 4 rfl) ?_
          refine lv_aload_n hx hb d_Na_passOn_48 rfl (lv_at hl 3 rfl) ?_
          refine va_get (D := (dC, dI)) (ci := 8) (v := .int v_3_spaces) (C := "SpaceCycles$Grid") (T := F_Gr) (N := 4) hx hb hts (in_F i_Gr) hown hK hP 20 rfl rfl 3 (by decide) (hts _ (in_c k_126)) (fun _ h9 => h9) rfl d_Na_passOn_49 ?_
          obtain ⟨f60, f61, hb62, hm⟩ := bd2_e hm
          have hPc := hP.sub (ws' := (wl_Na_leave a_0 a_0_given a_0_passed a_0_shares a_1 a_1_areas a_1_columns a_1_rows cI f_0_given f6 f7 x49 f58)) [0, 1, 2, 3, 4, 13] rfl
          have hDc := hD.sub (ws' := (wl_Na_leave a_0 a_0_given a_0_passed a_0_shares a_1 a_1_areas a_1_columns a_1_rows cI f_0_given f6 f7 x49 f58)) [0, 1, 2, 3, 4, 13] (by decide) rfl
          refine cl_v (wc' := (wl_Na_leave a_0 a_0_given a_0_passed a_0_shares a_1 a_1_areas a_1_columns a_1_rows cI f_0_given f60 f61 x49 f58)) (va_runV (As := [.ref a_1, .int x5, .int v_3_spaces]) (rest := []) ⟨hx, hb, hml, hown, hts⟩ (c_Na_leave l dC dI (cI := cI) (cZ := cZ) (cJ := cJ) a_0 a_0_given a_0_passed a_0_shares a_1 a_1_areas a_1_columns a_1_rows H.size f_0_given f6 f7 x49 f58 x5 v_3_spaces f60 f61 hb62) (cwV 3 hts (gl_V k_135 k_133 k_132 k_134 k_131) rfl rfl rfl (by decide +kernel) ⟨Nat.le_of_ble_eq_true rfl, Nat.le_of_ble_eq_true rfl⟩) ⟨PP_blind, va_recv hK hPc (ci := 6) (q0 := 0) rfl rfl, fun U hU hW => PP_at hK hN hPc hDc hU hW⟩ rfl rfl hl.1 rfl (lv_room (Nat.le_of_ble_eq_true rfl)) d_Na_passOn_52 ⟨Nat.zero_le _, Nat.zero_le _⟩) hP hD hS hA [0, 1, 2, 3, 4, 13] [5, 6, 7, 8, 9, 10, 11, 12, 14, 15, 16, 17, 18, 19, 20, 21, 22, 23, 24, 25] rfl rfl (by decide) (by decide) (fun H locs hP hD hS => ?_)
          have hP : va_P (dC, dI) vwCl (wl_Na_passOn a_0 a_0_given a_0_passed a_0_shares a_1 a_1_columns a_1_columns_width a_1_columns_oldGap a_1_columns_newGap a_1_rows a_1_rows_width a_1_rows_oldGap a_1_rows_newGap a_1_areas a_2 a_2_xs a_2_xs_places a_2_ys a_2_ys_places a_2_cells a_3 a_3_xs a_3_xs_places a_3_ys a_3_ys_places a_3_cells cI f_0_given f60 f61 x49 x50 f51 f52 f53 x54 f55 f56 f57 f58 v_2_spaces v_2_xs_count f_2_xs_places v_2_ys_count f_2_ys_places f_2_cells v_3_spaces v_3_xs_count f_3_xs_places v_3_ys_count f_3_ys_places f_3_cells) H := hP.sub [20, 21, 22, 23, 24, 0, 1, 2, 3, 4, 5, 6, 7, 25, 8, 9, 10, 11, 12, 13, 14, 15, 16, 17, 18, 19] rfl
          have hD : va_D A (wl_Na_passOn a_0 a_0_given a_0_passed a_0_shares a_1 a_1_columns a_1_columns_width a_1_columns_oldGap a_1_columns_newGap a_1_rows a_1_rows_width a_1_rows_oldGap a_1_rows_newGap a_1_areas a_2 a_2_xs a_2_xs_places a_2_ys a_2_ys_places a_2_cells a_3 a_3_xs a_3_xs_places a_3_ys a_3_ys_places a_3_cells cI f_0_given f60 f61 x49 x50 f51 f52 f53 x54 f55 f56 f57 f58 v_2_spaces v_2_xs_count f_2_xs_places v_2_ys_count f_2_ys_places f_2_cells v_3_spaces v_3_xs_count f_3_xs_places v_3_ys_count f_3_ys_places f_3_cells) := hD.sub [20, 21, 22, 23, 24, 0, 1, 2, 3, 4, 5, 6, 7, 25, 8, 9, 10, 11, 12, 13, 14, 15, 16, 17, 18, 19] (by decide) rfl
          cases hm
          exact K33 H locs ls hP hD hS (lv_sub hl [0, 1, 2, 3, 4] rfl)
  obtain ⟨f18, f19, x20, x21, f22, f23, f24, x25, f26, f27, f28, f29, hb64, hm⟩ := bd12_e hm
  refine L19_30 fu _ _ _ _ _ _ _ _ _ _ _ _ _ _ _ _ _ _ _ _ _ _ _ _ _ hb64 (fun H locs ls hP hD hS hl => ?_) H locs ls hP hD hS (lv_sub hl [1, 2, 3, 4, 0] rfl)
  refine lv_aload_n hx hb d_Na_passOn_61 rfl (lv_at hl 0 rfl) ?_
  refine va_get (D := (dC, dI)) (ci := 6) (v := .ref a_0_passed) (C := "SpaceCycles$Names") (T := F_Na) (N := 3) hx hb hts (in_F i_Na) hown hK hP 0 rfl rfl 1 (by decide) (hts _ (in_c k_121)) (fun _ h9 => h9) rfl d_Na_passOn_62 ?_
  refine lv_iconst (v := 0) hx hb d_Na_passOn_65 (by decide) ?_
  refine lv_aload_n hx hb d_Na_passOn_66 rfl (lv_at hl 0 rfl) ?_
  refine va_get (D := (dC, dI)) (ci := 6) (v := .ref a_0_given) (C := "SpaceCycles$Names") (T := F_Na) (N := 3) hx hb hts (in_F i_Na) hown hK hP 0 rfl rfl 0 (by decide) (hts _ (in_c k_122)) (fun _ h9 => h9) rfl d_Na_passOn_67 ?_
  refine lv_iconst (v := 0) hx hb d_Na_passOn_70 (by decide) ?_
  refine lv_bipush (v := 81) hx hb d_Na_passOn_71 (by decide) ?_
  obtain ⟨hc65, hm⟩ := gC_e hm
  obtain ⟨f66, ef66⟩ : ∃ y : Nat → Int32, y = va_cpy f18 f_0_given (0 : Int32).toNatClampNeg (0 : Int32).toNatClampNeg (81 : Int32).toNatClampNeg := ⟨_, rfl⟩
  replace hm := lt_el hm ef66
  refine va_copyi hx hb (by rw [hml]; exact hl.1.symm) hown (hts _ (in_c k_136)) (hts _ (in_c k_137)) (hts _ (in_c k_138)) (hts _ (in_c k_139)) hK hP hD hS 2 1 0 0 rfl rfl rfl rfl rfl hc65.1 hc65.2.1 hc65.2.2.1 hc65.2.2.2.1 hc65.2.2.2.2 (fun i _ => rfl) (Nat.le_of_ble_eq_true rfl) (by decide +kernel) d_Na_passOn_73 (fun H locs hP hD hS => ?_)
  rw [← ef66] at hP hD
  have hP : va_P (dC, dI) vwCl (wl_Na_passOn a_0 a_0_given a_0_passed a_0_shares a_1 a_1_columns a_1_columns_width a_1_columns_oldGap a_1_columns_newGap a_1_rows a_1_rows_width a_1_rows_oldGap a_1_rows_newGap a_1_areas a_2 a_2_xs a_2_xs_places a_2_ys a_2_ys_places a_2_cells a_3 a_3_xs a_3_xs_places a_3_ys a_3_ys_places a_3_cells cI f66 f18 f19 x20 x21 f22 f23 f24 x25 f26 f27 f28 f29 v_2_spaces v_2_xs_count f_2_xs_places v_2_ys_count f_2_ys_places f_2_cells v_3_spaces v_3_xs_count f_3_xs_places v_3_ys_count f_3_ys_places f_3_cells) H := hP
  have hD : va_D A (wl_Na_passOn a_0 a_0_given a_0_passed a_0_shares a_1 a_1_columns a_1_columns_width a_1_columns_oldGap a_1_columns_newGap a_1_rows a_1_rows_width a_1_rows_oldGap a_1_rows_newGap a_1_areas a_2 a_2_xs a_2_xs_places a_2_ys a_2_ys_places a_2_cells a_3 a_3_xs a_3_xs_places a_3_ys a_3_ys_places a_3_cells cI f66 f18 f19 x20 x21 f22 f23 f24 x25 f26 f27 f28 f29 v_2_spaces v_2_xs_count f_2_xs_places v_2_ys_count f_2_ys_places f_2_cells v_3_spaces v_3_xs_count f_3_xs_places v_3_ys_count f_3_ys_places f_3_cells) := hD
  cases hm
  exact hret _ H locs ls d_Na_passOn_76 hP hD hS
set_option maxHeartbeats 4000000 in
set_option maxRecDepth 100000 in
theorem c_Na_passOn (l : Launch) (dC : Nat → ClassId) (dI : Nat → Nat → Nat) {cI cZ cJ : ClassId} (a_0 a_0_given a_0_passed a_0_shares a_1 a_1_columns a_1_columns_width a_1_columns_oldGap a_1_columns_newGap a_1_rows a_1_rows_width a_1_rows_oldGap a_1_rows_newGap a_1_areas a_2 a_2_xs a_2_xs_places a_2_ys a_2_ys_places a_2_cells a_3 a_3_xs a_3_xs_places a_3_ys a_3_ys_places a_3_cells : Nat) (sz : Nat) (f_0_given : Nat → Int32) (f_0_passed : Nat → Int32) (f_0_shares : Nat → Int32) (v_1_known : Int32) (v_1_columns_count : Int32) (f_1_columns_width : Nat → Int32) (f_1_columns_oldGap : Nat → Int32) (f_1_columns_newGap : Nat → Int32) (v_1_rows_count : Int32) (f_1_rows_width : Nat → Int32) (f_1_rows_oldGap : Nat → Int32) (f_1_rows_newGap : Nat → Int32) (f_1_areas : Nat → Int32) (v_2_spaces : Int32) (v_2_xs_count : Int32) (f_2_xs_places : Nat → Int32) (v_2_ys_count : Int32) (f_2_ys_places : Nat → Int32) (f_2_cells : Nat → Int32) (v_3_spaces : Int32) (v_3_xs_count : Int32) (f_3_xs_places : Nat → Int32) (v_3_ys_count : Int32) (f_3_ys_places : Nat → Int32) (f_3_cells : Nat → Int32)  (of_0_given : Nat → Int32) (of_0_passed : Nat → Int32) (of_0_shares : Nat → Int32) (ov_1_known : Int32) (ov_1_columns_count : Int32) (of_1_columns_width : Nat → Int32) (of_1_columns_oldGap : Nat → Int32) (of_1_columns_newGap : Nat → Int32) (ov_1_rows_count : Int32) (of_1_rows_width : Nat → Int32) (of_1_rows_oldGap : Nat → Int32) (of_1_rows_newGap : Nat → Int32) (of_1_areas : Nat → Int32) (hm : m_Na_passOn f_0_given f_0_passed f_0_shares v_1_known v_1_columns_count f_1_columns_width f_1_columns_oldGap f_1_columns_newGap v_1_rows_count f_1_rows_width f_1_rows_oldGap f_1_rows_newGap f_1_areas v_2_spaces v_2_xs_count f_2_xs_places v_2_ys_count f_2_ys_places f_2_cells v_3_spaces v_3_xs_count f_3_xs_places v_3_ys_count f_3_ys_places f_3_cells = some (of_0_given, of_0_passed, of_0_shares, ov_1_known, ov_1_columns_count, of_1_columns_width, of_1_columns_oldGap, of_1_columns_newGap, ov_1_rows_count, of_1_rows_width, of_1_rows_oldGap, of_1_rows_newGap, of_1_areas)) : Met l y_Na_passOn w_Na_passOn rm_Na_passOn (PP dC dI [(cI, .int), (cZ, .boolean), (cJ, .long)] [.ref a_0, .ref a_1, .ref a_2, .ref a_3] sz (wl_Na_passOn a_0 a_0_given a_0_passed a_0_shares a_1 a_1_columns a_1_columns_width a_1_columns_oldGap a_1_columns_newGap a_1_rows a_1_rows_width a_1_rows_oldGap a_1_rows_newGap a_1_areas a_2 a_2_xs a_2_xs_places a_2_ys a_2_ys_places a_2_cells a_3 a_3_xs a_3_xs_places a_3_ys a_3_ys_places a_3_cells cI f_0_given f_0_passed f_0_shares v_1_known v_1_columns_count f_1_columns_width f_1_columns_oldGap f_1_columns_newGap v_1_rows_count f_1_rows_width f_1_rows_oldGap f_1_rows_newGap f_1_areas v_2_spaces v_2_xs_count f_2_xs_places v_2_ys_count f_2_ys_places f_2_cells v_3_spaces v_3_xs_count f_3_xs_places v_3_ys_count f_3_ys_places f_3_cells)) (QV dC dI [(cI, .int), (cZ, .boolean), (cJ, .long)] sz (wl_Na_passOn a_0 a_0_given a_0_passed a_0_shares a_1 a_1_columns a_1_columns_width a_1_columns_oldGap a_1_columns_newGap a_1_rows a_1_rows_width a_1_rows_oldGap a_1_rows_newGap a_1_areas a_2 a_2_xs a_2_xs_places a_2_ys a_2_ys_places a_2_cells a_3 a_3_xs a_3_xs_places a_3_ys a_3_ys_places a_3_cells cI f_0_given f_0_passed f_0_shares v_1_known v_1_columns_count f_1_columns_width f_1_columns_oldGap f_1_columns_newGap v_1_rows_count f_1_rows_width f_1_rows_oldGap f_1_rows_newGap f_1_areas v_2_spaces v_2_xs_count f_2_xs_places v_2_ys_count f_2_ys_places f_2_cells v_3_spaces v_3_xs_count f_3_xs_places v_3_ys_count f_3_ys_places f_3_cells) (wl_Na_passOn a_0 a_0_given a_0_passed a_0_shares a_1 a_1_columns a_1_columns_width a_1_columns_oldGap a_1_columns_newGap a_1_rows a_1_rows_width a_1_rows_oldGap a_1_rows_newGap a_1_areas a_2 a_2_xs a_2_xs_places a_2_ys a_2_ys_places a_2_cells a_3 a_3_xs a_3_xs_places a_3_ys a_3_ys_places a_3_cells cI of_0_given of_0_passed of_0_shares ov_1_known ov_1_columns_count of_1_columns_width of_1_columns_oldGap of_1_columns_newGap ov_1_rows_count of_1_rows_width of_1_rows_oldGap of_1_rows_newGap of_1_areas v_2_spaces v_2_xs_count f_2_xs_places v_2_ys_count f_2_ys_places f_2_cells v_3_spaces v_3_xs_count f_3_xs_places v_3_ys_count f_3_ys_places f_3_cells)) 0 0 (va_A (wl_Na_passOn a_0 a_0_given a_0_passed a_0_shares a_1 a_1_columns a_1_columns_width a_1_columns_oldGap a_1_columns_newGap a_1_rows a_1_rows_width a_1_rows_oldGap a_1_rows_newGap a_1_areas a_2 a_2_xs a_2_xs_places a_2_ys a_2_ys_places a_2_cells a_3 a_3_xs a_3_xs_places a_3_ys a_3_ys_places a_3_cells cI f_0_given f_0_passed f_0_shares v_1_known v_1_columns_count f_1_columns_width f_1_columns_oldGap f_1_columns_newGap v_1_rows_count f_1_rows_width f_1_rows_oldGap f_1_rows_newGap f_1_areas v_2_spaces v_2_xs_count f_2_xs_places v_2_ys_count f_2_ys_places f_2_cells v_3_spaces v_3_xs_count f_3_xs_places v_3_ys_count f_3_ys_places f_3_cells) sz) := by
  refine Met.ofW (cc := b_Na_passOn) (maxL := 5) (ret := none) (by decide) rfl ?_
  intro p e s m args below meth c s₁ B hml hv
  obtain ⟨rfl, hsz, hP, hK, hD0, hN⟩ := hv
  subst hsz
  have hl := lv_entry ([.ref a_0, .ref a_1, .ref a_2, .ref a_3]) (n := 5) (Nat.le_of_ble_eq_true rfl)
  rw [lg_entry_eq]
  generalize (lg_sl ([.ref a_0, .ref a_1, .ref a_2, .ref a_3]) ++ List.replicate (5 - (lg_sl ([.ref a_0, .ref a_1, .ref a_2, .ref a_3])).length) Slot.unset).toArray = ls at hl ⊢
  exact t_Na_passOn a_0 a_0_given a_0_passed a_0_shares a_1 a_1_columns a_1_columns_width a_1_columns_oldGap a_1_columns_newGap a_1_rows a_1_rows_width a_1_rows_oldGap a_1_rows_newGap a_1_areas a_2 a_2_xs a_2_xs_places a_2_ys a_2_ys_places a_2_cells a_3 a_3_xs a_3_xs_places a_3_ys a_3_ys_places a_3_cells f_0_given f_0_passed f_0_shares v_1_known v_1_columns_count f_1_columns_width f_1_columns_oldGap f_1_columns_newGap v_1_rows_count f_1_rows_width f_1_rows_oldGap f_1_rows_newGap f_1_areas v_2_spaces v_2_xs_count f_2_xs_places v_2_ys_count f_2_ys_places f_2_cells v_3_spaces v_3_xs_count f_3_xs_places v_3_ys_count f_3_ys_places f_3_cells of_0_given of_0_passed of_0_shares ov_1_known ov_1_columns_count of_1_columns_width of_1_columns_oldGap of_1_columns_newGap ov_1_rows_count of_1_rows_width of_1_rows_oldGap of_1_rows_newGap of_1_areas B.exec B.bytes hml (findClass_of_methodNamed B.named) (atoms_spec (ws := w_Na_passOn) B.pre) hK hN (fun q h => Or.inr h) (fun pc H locs ls hd hP9 hD9 hS => W.vret B.exec B.bytes B.returns (fun t ht hW => ⟨⟨(), rfl, trivial, by rw [ht]; exact hP9, va_K.moved hW.alike hK, hD9⟩, hS.F ht⟩) hS.2.2 hd) hm s.heap [] ls hP hD0.self va_S.rf hl
