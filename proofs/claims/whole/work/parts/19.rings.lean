theorem k_221 : ((.fieldLink "SpaceCycles$Rings" 22 "SpaceCycles$Rings" "spaces" "[I") : Cond) ∈ gl := gl_i 179 (by decide +kernel) (by decide +kernel)
theorem k_222 : ((.fieldLink "SpaceCycles$Rings" 25 "SpaceCycles$Rings" "count" "I") : Cond) ∈ gl := gl_i 180 (by decide +kernel) (by decide +kernel)
theorem k_223 : ((.code ⟨"SpaceCycles$Net", "onTheLeft", "(I)I"⟩ prog_8_method_7_code 2 (some .int)) : Cond) ∈ gl := gl_i 848 (by decide +kernel) (by decide +kernel)
theorem k_224 : ((.selects "SpaceCycles$Net" ⟨"SpaceCycles$Net", "onTheLeft", "(I)I"⟩ ⟨"SpaceCycles$Net", "onTheLeft", "(I)I"⟩) : Cond) ∈ gl := gl_i 847 (by decide +kernel) (by decide +kernel)
theorem k_225 : ((.instanceMethod ⟨"SpaceCycles$Net", "onTheLeft", "(I)I"⟩) : Cond) ∈ gl := gl_i 846 (by decide +kernel) (by decide +kernel)
theorem k_226 : ((.methodLink "SpaceCycles$Rings" 48 ⟨"SpaceCycles$Net", "onTheLeft", "(I)I"⟩) : Cond) ∈ gl := gl_i 845 (by decide +kernel) (by decide +kernel)
theorem k_227 : ((.fieldLink "SpaceCycles$Rings" 19 "SpaceCycles$Rings" "starts" "[I") : Cond) ∈ gl := gl_i 178 (by decide +kernel) (by decide +kernel)
theorem k_228 : ((.fieldLink "SpaceCycles$Rings" 29 "SpaceCycles$Rings" "filled" "I") : Cond) ∈ gl := gl_i 181 (by decide +kernel) (by decide +kernel)
theorem k_229 : ((.fieldLink "SpaceCycles$Rings" 32 "SpaceCycles$Net" "pieces" "I") : Cond) ∈ gl := gl_i 131 (by decide +kernel) (by decide +kernel)
theorem k_230 : ((.fieldLink "SpaceCycles$Rings" 15 "SpaceCycles$Rings" "gone" "[Z") : Cond) ∈ gl := gl_i 177 (by decide +kernel) (by decide +kernel)
theorem k_231 : ((.fieldLink "SpaceCycles$Rings" 9 "SpaceCycles$Rings" "order" "[I") : Cond) ∈ gl := gl_i 176 (by decide +kernel) (by decide +kernel)
theorem k_232 : ((.code ⟨"SpaceCycles$Net", "next", "(I)I"⟩ prog_8_method_11_code 6 (some .int)) : Cond) ∈ gl := gl_i 852 (by decide +kernel) (by decide +kernel)
theorem k_233 : ((.selects "SpaceCycles$Net" ⟨"SpaceCycles$Net", "next", "(I)I"⟩ ⟨"SpaceCycles$Net", "next", "(I)I"⟩) : Cond) ∈ gl := gl_i 851 (by decide +kernel) (by decide +kernel)
theorem k_234 : ((.instanceMethod ⟨"SpaceCycles$Net", "next", "(I)I"⟩) : Cond) ∈ gl := gl_i 850 (by decide +kernel) (by decide +kernel)
theorem k_235 : ((.methodLink "SpaceCycles$Rings" 52 ⟨"SpaceCycles$Net", "next", "(I)I"⟩) : Cond) ∈ gl := gl_i 849 (by decide +kernel) (by decide +kernel)
-- SpaceCycles$Rings.goRound(LSpaceCycles$Net;I)V
abbrev b_Ri_goRound : ByteArray := prog_9_method_3_code
abbrev y_Ri_goRound : MethodName := ⟨"SpaceCycles$Rings", "goRound", "(LSpaceCycles$Net;I)V"⟩
abbrev w_Ri_goRound : List Cond := Cond.code y_Ri_goRound b_Ri_goRound 5 none :: gl
abbrev rm_Ri_goRound : Room := { frames := 2, cells := 0, slots := 0, locals := 47 }
theorem d_Ri_goRound_0 : decode b_Ri_goRound 0 = .ok (.aload_n 0, 1) := by decide +kernel
theorem d_Ri_goRound_1 : decode b_Ri_goRound 1 = .ok (.getfield 22, 3) := by decide +kernel
theorem d_Ri_goRound_4 : decode b_Ri_goRound 4 = .ok (.aload_n 0, 1) := by decide +kernel
theorem d_Ri_goRound_5 : decode b_Ri_goRound 5 = .ok (.getfield 25, 3) := by decide +kernel
theorem d_Ri_goRound_8 : decode b_Ri_goRound 8 = .ok (.aload_n 1, 1) := by decide +kernel
theorem d_Ri_goRound_9 : decode b_Ri_goRound 9 = .ok (.iload_n 2, 1) := by decide +kernel
theorem d_Ri_goRound_10 : decode b_Ri_goRound 10 = .ok (.invokevirtual 48, 3) := by decide +kernel
theorem d_Ri_goRound_13 : decode b_Ri_goRound 13 = .ok (.iastore, 1) := by decide +kernel
theorem d_Ri_goRound_14 : decode b_Ri_goRound 14 = .ok (.aload_n 0, 1) := by decide +kernel
theorem d_Ri_goRound_15 : decode b_Ri_goRound 15 = .ok (.getfield 19, 3) := by decide +kernel
theorem d_Ri_goRound_18 : decode b_Ri_goRound 18 = .ok (.aload_n 0, 1) := by decide +kernel
theorem d_Ri_goRound_19 : decode b_Ri_goRound 19 = .ok (.getfield 25, 3) := by decide +kernel
theorem d_Ri_goRound_22 : decode b_Ri_goRound 22 = .ok (.aload_n 0, 1) := by decide +kernel
theorem d_Ri_goRound_23 : decode b_Ri_goRound 23 = .ok (.getfield 29, 3) := by decide +kernel
theorem d_Ri_goRound_26 : decode b_Ri_goRound 26 = .ok (.iastore, 1) := by decide +kernel
theorem d_Ri_goRound_27 : decode b_Ri_goRound 27 = .ok (.iload_n 2, 1) := by decide +kernel
theorem d_Ri_goRound_28 : decode b_Ri_goRound 28 = .ok (.istore_n 3, 1) := by decide +kernel
theorem d_Ri_goRound_29 : decode b_Ri_goRound 29 = .ok (.iconst 0, 1) := by decide +kernel
theorem d_Ri_goRound_30 : decode b_Ri_goRound 30 = .ok (.istore 4, 2) := by decide +kernel
theorem d_Ri_goRound_32 : decode b_Ri_goRound 32 = .ok (.iload 4, 2) := by decide +kernel
theorem d_Ri_goRound_34 : decode b_Ri_goRound 34 = .ok (.iconst 2, 1) := by decide +kernel
theorem d_Ri_goRound_35 : decode b_Ri_goRound 35 = .ok (.aload_n 1, 1) := by decide +kernel
theorem d_Ri_goRound_36 : decode b_Ri_goRound 36 = .ok (.getfield 32, 3) := by decide +kernel
theorem d_Ri_goRound_39 : decode b_Ri_goRound 39 = .ok (.imul, 1) := by decide +kernel
theorem d_Ri_goRound_40 : decode b_Ri_goRound 40 = .ok (.if_icmp .ge 61, 3) := by decide +kernel
theorem d_Ri_goRound_43 : decode b_Ri_goRound 43 = .ok (.aload_n 0, 1) := by decide +kernel
theorem d_Ri_goRound_44 : decode b_Ri_goRound 44 = .ok (.getfield 15, 3) := by decide +kernel
theorem d_Ri_goRound_47 : decode b_Ri_goRound 47 = .ok (.iload_n 3, 1) := by decide +kernel
theorem d_Ri_goRound_48 : decode b_Ri_goRound 48 = .ok (.baload, 1) := by decide +kernel
theorem d_Ri_goRound_49 : decode b_Ri_goRound 49 = .ok (.ifCond .ne 52, 3) := by decide +kernel
theorem d_Ri_goRound_52 : decode b_Ri_goRound 52 = .ok (.aload_n 0, 1) := by decide +kernel
theorem d_Ri_goRound_53 : decode b_Ri_goRound 53 = .ok (.getfield 29, 3) := by decide +kernel
theorem d_Ri_goRound_56 : decode b_Ri_goRound 56 = .ok (.sipush 440, 3) := by decide +kernel
theorem d_Ri_goRound_59 : decode b_Ri_goRound 59 = .ok (.if_icmp .ge 42, 3) := by decide +kernel
theorem d_Ri_goRound_62 : decode b_Ri_goRound 62 = .ok (.aload_n 0, 1) := by decide +kernel
theorem d_Ri_goRound_63 : decode b_Ri_goRound 63 = .ok (.getfield 15, 3) := by decide +kernel
theorem d_Ri_goRound_66 : decode b_Ri_goRound 66 = .ok (.iload_n 3, 1) := by decide +kernel
theorem d_Ri_goRound_67 : decode b_Ri_goRound 67 = .ok (.iconst 1, 1) := by decide +kernel
theorem d_Ri_goRound_68 : decode b_Ri_goRound 68 = .ok (.bastore, 1) := by decide +kernel
theorem d_Ri_goRound_69 : decode b_Ri_goRound 69 = .ok (.aload_n 0, 1) := by decide +kernel
theorem d_Ri_goRound_70 : decode b_Ri_goRound 70 = .ok (.getfield 9, 3) := by decide +kernel
theorem d_Ri_goRound_73 : decode b_Ri_goRound 73 = .ok (.aload_n 0, 1) := by decide +kernel
theorem d_Ri_goRound_74 : decode b_Ri_goRound 74 = .ok (.getfield 29, 3) := by decide +kernel
theorem d_Ri_goRound_77 : decode b_Ri_goRound 77 = .ok (.iload_n 3, 1) := by decide +kernel
theorem d_Ri_goRound_78 : decode b_Ri_goRound 78 = .ok (.iastore, 1) := by decide +kernel
theorem d_Ri_goRound_79 : decode b_Ri_goRound 79 = .ok (.aload_n 0, 1) := by decide +kernel
theorem d_Ri_goRound_80 : decode b_Ri_goRound 80 = .ok (.dup, 1) := by decide +kernel
theorem d_Ri_goRound_81 : decode b_Ri_goRound 81 = .ok (.getfield 29, 3) := by decide +kernel
theorem d_Ri_goRound_84 : decode b_Ri_goRound 84 = .ok (.iconst 1, 1) := by decide +kernel
theorem d_Ri_goRound_85 : decode b_Ri_goRound 85 = .ok (.iadd, 1) := by decide +kernel
theorem d_Ri_goRound_86 : decode b_Ri_goRound 86 = .ok (.putfield 29, 3) := by decide +kernel
theorem d_Ri_goRound_89 : decode b_Ri_goRound 89 = .ok (.aload_n 1, 1) := by decide +kernel
theorem d_Ri_goRound_90 : decode b_Ri_goRound 90 = .ok (.iload_n 3, 1) := by decide +kernel
theorem d_Ri_goRound_91 : decode b_Ri_goRound 91 = .ok (.invokevirtual 52, 3) := by decide +kernel
theorem d_Ri_goRound_94 : decode b_Ri_goRound 94 = .ok (.istore_n 3, 1) := by decide +kernel
theorem d_Ri_goRound_95 : decode b_Ri_goRound 95 = .ok (.iinc 4 1, 3) := by decide +kernel
theorem d_Ri_goRound_98 : decode b_Ri_goRound 98 = .ok (.goto (-66), 3) := by decide +kernel
theorem d_Ri_goRound_101 : decode b_Ri_goRound 101 = .ok (.aload_n 0, 1) := by decide +kernel
theorem d_Ri_goRound_102 : decode b_Ri_goRound 102 = .ok (.dup, 1) := by decide +kernel
theorem d_Ri_goRound_103 : decode b_Ri_goRound 103 = .ok (.getfield 25, 3) := by decide +kernel
theorem d_Ri_goRound_106 : decode b_Ri_goRound 106 = .ok (.iconst 1, 1) := by decide +kernel
theorem d_Ri_goRound_107 : decode b_Ri_goRound 107 = .ok (.iadd, 1) := by decide +kernel
theorem d_Ri_goRound_108 : decode b_Ri_goRound 108 = .ok (.putfield 25, 3) := by decide +kernel
theorem d_Ri_goRound_111 : decode b_Ri_goRound 111 = .ok (.aload_n 0, 1) := by decide +kernel
theorem d_Ri_goRound_112 : decode b_Ri_goRound 112 = .ok (.getfield 19, 3) := by decide +kernel
theorem d_Ri_goRound_115 : decode b_Ri_goRound 115 = .ok (.aload_n 0, 1) := by decide +kernel
theorem d_Ri_goRound_116 : decode b_Ri_goRound 116 = .ok (.getfield 25, 3) := by decide +kernel
theorem d_Ri_goRound_119 : decode b_Ri_goRound 119 = .ok (.aload_n 0, 1) := by decide +kernel
theorem d_Ri_goRound_120 : decode b_Ri_goRound 120 = .ok (.getfield 29, 3) := by decide +kernel
theorem d_Ri_goRound_123 : decode b_Ri_goRound 123 = .ok (.iastore, 1) := by decide +kernel
theorem d_Ri_goRound_124 : decode b_Ri_goRound 124 = .ok (.return_, 1) := by decide +kernel
abbrev wl_Ri_goRound (a_0 : Nat) (a_0_order : Nat) (a_0_gone : Nat) (a_0_starts : Nat) (a_0_spaces : Nat) (a_1 : Nat) (a_1_sidesOut : Nat) (a_1_begins : Nat) (a_1_directions : Nat) (a_1_leftSpaces : Nat) (b_1_pointX : Nat) (b_1_pointY : Nat) (b_1_looseSides : Nat) (b_1_pieceLine : Nat) (b_1_weights : Nat) (b_1_pointAt : Nat) (cI : ClassId) (cZ : ClassId) (v_0_count : Int32) (v_0_filled : Int32) (f_0_order : Nat → Int32) (f_0_gone : Nat → Int32) (f_0_starts : Nat → Int32) (f_0_spaces : Nat → Int32) (v_1_points : Int32) (v_1_pieces : Int32) (v_1_looseEnds : Int32) (f_1_sidesOut : Nat → Int32) (f_1_begins : Nat → Int32) (f_1_directions : Nat → Int32) (f_1_leftSpaces : Nat → Int32) : va_W := [(a_0, .inr (4, [.ref a_0_order, .ref a_0_gone, .ref a_0_starts, .ref a_0_spaces, .int v_0_count, .int v_0_filled])), (a_0_order, .inl (cI, 440, .inl f_0_order)), (a_0_gone, .inl (cZ, 440, .inl f_0_gone)), (a_0_starts, .inl (cI, 221, .inl f_0_starts)), (a_0_spaces, .inl (cI, 220, .inl f_0_spaces)), (a_1, .inr (3, [.ref b_1_pointX, .ref b_1_pointY, .ref b_1_looseSides, .int v_1_points, .int v_1_pieces, .int v_1_looseEnds, .ref a_1_sidesOut, .ref b_1_pieceLine, .ref a_1_begins, .ref a_1_directions, .ref a_1_leftSpaces, .ref b_1_weights, .ref b_1_pointAt])), (a_1_sidesOut, .inl (cI, 560, .inl f_1_sidesOut)), (a_1_begins, .inl (cI, 440, .inl f_1_begins)), (a_1_directions, .inl (cI, 440, .inl f_1_directions)), (a_1_leftSpaces, .inl (cI, 440, .inl f_1_leftSpaces))]
def m_Ri_goRound_L32 (v_1_pieces : Int32) (f_1_sidesOut : Nat → Int32) (f_1_begins : Nat → Int32) (f_1_directions : Nat → Int32) : Nat → Int32 → Int32 → Int32 → (Nat → Int32) → (Nat → Int32) → Option ((Int32) × (Nat → Int32) × (Nat → Int32))
  | 0, _, _, _, _, _ => none
  | n + 1, l3, l4, v_0_filled, f_0_order, f_0_gone =>
    if (2 * v_1_pieces) ≤ l4 then (
      some (v_0_filled, f_0_order, f_0_gone))
    else (
      gI l3 440 <|
      if (f_0_gone l3.toNatClampNeg) = 0 then (
        if 440 ≤ v_0_filled then (
          some (v_0_filled, f_0_order, f_0_gone))
        else (
          gI l3 440 <|
          lt_ (upd f_0_gone l3.toNatClampNeg (vp_nar .boolean 1)) fun f12 =>
          gI v_0_filled 440 <|
          lt_ (upd f_0_order v_0_filled.toNatClampNeg l3) fun f14 =>
          lt_ (v_0_filled + 1) fun x15 =>
          bd1 (m_Ne_next l3 f_1_sidesOut f_1_begins f_1_directions) fun r16 =>
          lt_ (l4 + 1) fun x18 =>
          m_Ri_goRound_L32 v_1_pieces f_1_sidesOut f_1_begins f_1_directions n r16 x18 x15 f14 f12))
      else (
        some (v_0_filled, f_0_order, f_0_gone)))
def m_Ri_goRound (p2 : Int32) (v_0_count : Int32) (v_0_filled : Int32) (f_0_order : Nat → Int32) (f_0_gone : Nat → Int32) (f_0_starts : Nat → Int32) (f_0_spaces : Nat → Int32) (v_1_pieces : Int32) (f_1_sidesOut : Nat → Int32) (f_1_begins : Nat → Int32) (f_1_directions : Nat → Int32) (f_1_leftSpaces : Nat → Int32) : Option ((Int32) × (Int32) × (Nat → Int32) × (Nat → Int32) × (Nat → Int32) × (Nat → Int32)) :=
  bd1 (m_Ne_onTheLeft p2 f_1_leftSpaces) fun r1 =>
  gI v_0_count 220 <|
  lt_ (upd f_0_spaces v_0_count.toNatClampNeg r1) fun f4 =>
  gI v_0_count 221 <|
  lt_ (upd f_0_starts v_0_count.toNatClampNeg v_0_filled) fun f6 =>
  bd3 (m_Ri_goRound_L32 v_1_pieces f_1_sidesOut f_1_begins f_1_directions fu p2 0 v_0_filled f_0_order f_0_gone) fun x12 f13 f14 =>
  lt_ (v_0_count + 1) fun x29 =>
  gI x29 221 <|
  lt_ (upd f6 x29.toNatClampNeg x12) fun f31 =>
  some (x29, x12, f13, f14, f31, f4)

set_option maxHeartbeats 4000000 in
set_option maxRecDepth 100000 in
theorem t_Ri_goRound {p : Program} {l : Launch} {e : Env} {s : State} {m : MethodId} {args : Array Value} {below : List Frame} {meth : Method} {c : Code} {A : Nat → Prop} {Q : State → Prop} {dC : Nat → ClassId} {dI : Nat → Nat → Nat} {cI cZ cJ : ClassId} (a_0 a_0_order a_0_gone a_0_starts a_0_spaces a_1 a_1_sidesOut a_1_begins a_1_directions a_1_leftSpaces b_1_pointX b_1_pointY b_1_looseSides b_1_pieceLine b_1_weights b_1_pointAt : Nat) (v_0_count : Int32) (v_0_filled : Int32) (f_0_order : Nat → Int32) (f_0_gone : Nat → Int32) (f_0_starts : Nat → Int32) (f_0_spaces : Nat → Int32) (v_1_points : Int32) (v_1_pieces : Int32) (v_1_looseEnds : Int32) (f_1_sidesOut : Nat → Int32) (f_1_begins : Nat → Int32) (f_1_directions : Nat → Int32) (f_1_leftSpaces : Nat → Int32) (p2 : Int32) (ov_0_count : Int32) (ov_0_filled : Int32) (of_0_order : Nat → Int32) (of_0_gone : Nat → Int32) (of_0_starts : Nat → Int32) (of_0_spaces : Nat → Int32) (hx : p.tables.exec = Jvm.exec) (hb : c.code = b_Ri_goRound) (hml : c.maxLocals = 5) (hown : s.vm.findClass "SpaceCycles$Rings" = some m.cls) (hts : ∀ w ∈ w_Ri_goRound, w.before args s = true) (hK : va_K (dC, dI) vwCl [(cI, .int), (cZ, .boolean), (cJ, .long)] s) (hN : NX s) (hA : ∀ q : Nat, s.heap.size ≤ q → A q)
    (hret : ∀ (pc : Nat) (H : Heap) (locs : List Loc) (ls : Array Slot), decode b_Ri_goRound pc = .ok (.return_, 1) → va_P (dC, dI) vwCl (wl_Ri_goRound a_0 a_0_order a_0_gone a_0_starts a_0_spaces a_1 a_1_sidesOut a_1_begins a_1_directions a_1_leftSpaces b_1_pointX b_1_pointY b_1_looseSides b_1_pieceLine b_1_weights b_1_pointAt cI cZ ov_0_count ov_0_filled of_0_order of_0_gone of_0_starts of_0_spaces v_1_points v_1_pieces v_1_looseEnds f_1_sidesOut f_1_begins f_1_directions f_1_leftSpaces) H → va_D A (wl_Ri_goRound a_0 a_0_order a_0_gone a_0_starts a_0_spaces a_1 a_1_sidesOut a_1_begins a_1_directions a_1_leftSpaces b_1_pointX b_1_pointY b_1_looseSides b_1_pieceLine b_1_weights b_1_pointAt cI cZ ov_0_count ov_0_filled of_0_order of_0_gone of_0_starts of_0_spaces v_1_points v_1_pieces v_1_looseEnds f_1_sidesOut f_1_begins f_1_directions f_1_leftSpaces) → va_S A s.heap H locs → W p l e rm_Ri_goRound s m args below meth c H locs 0 0 Q (F0 m pc ls []))
    (hm : m_Ri_goRound p2 v_0_count v_0_filled f_0_order f_0_gone f_0_starts f_0_spaces v_1_pieces f_1_sidesOut f_1_begins f_1_directions f_1_leftSpaces = some (ov_0_count, ov_0_filled, of_0_order, of_0_gone, of_0_starts, of_0_spaces)) : ∀ (H : Heap) (locs : List Loc) (ls : Array Slot), va_P (dC, dI) vwCl (wl_Ri_goRound a_0 a_0_order a_0_gone a_0_starts a_0_spaces a_1 a_1_sidesOut a_1_begins a_1_directions a_1_leftSpaces b_1_pointX b_1_pointY b_1_looseSides b_1_pieceLine b_1_weights b_1_pointAt cI cZ v_0_count v_0_filled f_0_order f_0_gone f_0_starts f_0_spaces v_1_points v_1_pieces v_1_looseEnds f_1_sidesOut f_1_begins f_1_directions f_1_leftSpaces) H → va_D A (wl_Ri_goRound a_0 a_0_order a_0_gone a_0_starts a_0_spaces a_1 a_1_sidesOut a_1_begins a_1_directions a_1_leftSpaces b_1_pointX b_1_pointY b_1_looseSides b_1_pieceLine b_1_weights b_1_pointAt cI cZ v_0_count v_0_filled f_0_order f_0_gone f_0_starts f_0_spaces v_1_points v_1_pieces v_1_looseEnds f_1_sidesOut f_1_begins f_1_directions f_1_leftSpaces) → va_S A s.heap H locs → lv_has ls 5 [(0, .ref a_0), (1, .ref a_1), (2, .int p2)] → W p l e rm_Ri_goRound s m args below meth c H locs 0 0 Q (F0 m 0 ls []) := by
  intro H locs ls hP hD hS hl
  unfold m_Ri_goRound at hm
  refine lv_aload_n hx hb d_Ri_goRound_0 rfl (lv_at hl 0 rfl) ?_
  refine va_get (D := (dC, dI)) (ci := 4) (v := .ref a_0_spaces) (C := "SpaceCycles$Rings") (T := F_Ri) (N := 6) hx hb hts (in_F i_Ri) hown hK hP 0 rfl rfl 3 (by decide) (hts _ (in_c k_221)) (fun _ h9 => h9) rfl d_Ri_goRound_1 ?_
  refine lv_aload_n hx hb d_Ri_goRound_4 rfl (lv_at hl 0 rfl) ?_
  refine va_get (D := (dC, dI)) (ci := 4) (v := .int v_0_count) (C := "SpaceCycles$Rings") (T := F_Ri) (N := 6) hx hb hts (in_F i_Ri) hown hK hP 0 rfl rfl 4 (by decide) (hts _ (in_c k_222)) (fun _ h9 => h9) rfl d_Ri_goRound_5 ?_
  refine lv_aload_n hx hb d_Ri_goRound_8 rfl (lv_at hl 1 rfl) ?_
  refine lv_iload_n hx hb d_Ri_goRound_9 rfl (lv_at hl 2 rfl) ?_
  obtain ⟨r1, hb2, hm⟩ := bd1_e hm
  have hPc := hP.sub (ws' := (wl_Ne_onTheLeft a_1 a_1_leftSpaces b_1_pointX b_1_pointY b_1_looseSides a_1_sidesOut b_1_pieceLine a_1_begins a_1_directions b_1_weights b_1_pointAt cI v_1_points v_1_pieces v_1_looseEnds f_1_leftSpaces)) [5, 9] rfl
  have hDc := hD.sub (ws' := (wl_Ne_onTheLeft a_1 a_1_leftSpaces b_1_pointX b_1_pointY b_1_looseSides a_1_sidesOut b_1_pieceLine a_1_begins a_1_directions b_1_weights b_1_pointAt cI v_1_points v_1_pieces v_1_looseEnds f_1_leftSpaces)) [5, 9] (by decide) rfl
  refine cl_i (wc' := (wl_Ne_onTheLeft a_1 a_1_leftSpaces b_1_pointX b_1_pointY b_1_looseSides a_1_sidesOut b_1_pieceLine a_1_begins a_1_directions b_1_weights b_1_pointAt cI v_1_points v_1_pieces v_1_looseEnds f_1_leftSpaces)) (va_runV (As := [.int p2]) (rest := [.int v_0_count, .ref a_0_spaces]) ⟨hx, hb, hml, hown, hts⟩ (c_Ne_onTheLeft l dC dI (cI := cI) (cZ := cZ) (cJ := cJ) a_1 a_1_leftSpaces b_1_pointX b_1_pointY b_1_looseSides a_1_sidesOut b_1_pieceLine a_1_begins a_1_directions b_1_weights b_1_pointAt H.size v_1_points v_1_pieces v_1_looseEnds f_1_leftSpaces p2 r1 hb2) (cwV 1 hts (gl_V k_226 k_225 k_224 k_145 k_223) rfl rfl rfl (by decide +kernel) ⟨Nat.le_of_ble_eq_true rfl, Nat.le_of_ble_eq_true rfl⟩) ⟨PP_blind, va_recv hK hPc (ci := 3) (q0 := 0) rfl rfl, fun U hU hW => PP_at hK hN hPc hDc hU hW⟩ rfl rfl hl.1 rfl (lv_room (Nat.le_of_ble_eq_true rfl)) d_Ri_goRound_10 ⟨Nat.zero_le _, Nat.zero_le _⟩) hP hD hS hA [5, 9] [0, 1, 2, 3, 4, 6, 7, 8] rfl rfl (by decide) (by decide) (fun H locs hP hD hS => ?_)
  have hP : va_P (dC, dI) vwCl (wl_Ri_goRound a_0 a_0_order a_0_gone a_0_starts a_0_spaces a_1 a_1_sidesOut a_1_begins a_1_directions a_1_leftSpaces b_1_pointX b_1_pointY b_1_looseSides b_1_pieceLine b_1_weights b_1_pointAt cI cZ v_0_count v_0_filled f_0_order f_0_gone f_0_starts f_0_spaces v_1_points v_1_pieces v_1_looseEnds f_1_sidesOut f_1_begins f_1_directions f_1_leftSpaces) H := hP.sub [0, 1, 2, 3, 4, 8, 5, 6, 7, 9] rfl
  have hD : va_D A (wl_Ri_goRound a_0 a_0_order a_0_gone a_0_starts a_0_spaces a_1 a_1_sidesOut a_1_begins a_1_directions a_1_leftSpaces b_1_pointX b_1_pointY b_1_looseSides b_1_pieceLine b_1_weights b_1_pointAt cI cZ v_0_count v_0_filled f_0_order f_0_gone f_0_starts f_0_spaces v_1_points v_1_pieces v_1_looseEnds f_1_sidesOut f_1_begins f_1_directions f_1_leftSpaces) := hD.sub [0, 1, 2, 3, 4, 8, 5, 6, 7, 9] (by decide) rfl
  obtain ⟨hi3, hm⟩ := gI_e hm
  obtain ⟨f4, ef4⟩ : ∃ y : Nat → Int32, y = upd f_0_spaces v_0_count.toNatClampNeg r1 := ⟨_, rfl⟩
  replace hm := lt_el hm ef4
  refine va_iast hx hb hK hP hD hS 4 0 rfl rfl hi3 d_Ri_goRound_13 (fun H locs hP hD hS => ?_)
  rw [← ef4] at hP hD
  have hP : va_P (dC, dI) vwCl (wl_Ri_goRound a_0 a_0_order a_0_gone a_0_starts a_0_spaces a_1 a_1_sidesOut a_1_begins a_1_directions a_1_leftSpaces b_1_pointX b_1_pointY b_1_looseSides b_1_pieceLine b_1_weights b_1_pointAt cI cZ v_0_count v_0_filled f_0_order f_0_gone f_0_starts f4 v_1_points v_1_pieces v_1_looseEnds f_1_sidesOut f_1_begins f_1_directions f_1_leftSpaces) H := hP
  have hD : va_D A (wl_Ri_goRound a_0 a_0_order a_0_gone a_0_starts a_0_spaces a_1 a_1_sidesOut a_1_begins a_1_directions a_1_leftSpaces b_1_pointX b_1_pointY b_1_looseSides b_1_pieceLine b_1_weights b_1_pointAt cI cZ v_0_count v_0_filled f_0_order f_0_gone f_0_starts f4 v_1_points v_1_pieces v_1_looseEnds f_1_sidesOut f_1_begins f_1_directions f_1_leftSpaces) := hD
  refine lv_aload_n hx hb d_Ri_goRound_14 rfl (lv_at hl 0 rfl) ?_
  refine va_get (D := (dC, dI)) (ci := 4) (v := .ref a_0_starts) (C := "SpaceCycles$Rings") (T := F_Ri) (N := 6) hx hb hts (in_F i_Ri) hown hK hP 0 rfl rfl 2 (by decide) (hts _ (in_c k_227)) (fun _ h9 => h9) rfl d_Ri_goRound_15 ?_
  refine lv_aload_n hx hb d_Ri_goRound_18 rfl (lv_at hl 0 rfl) ?_
  refine va_get (D := (dC, dI)) (ci := 4) (v := .int v_0_count) (C := "SpaceCycles$Rings") (T := F_Ri) (N := 6) hx hb hts (in_F i_Ri) hown hK hP 0 rfl rfl 4 (by decide) (hts _ (in_c k_222)) (fun _ h9 => h9) rfl d_Ri_goRound_19 ?_
  refine lv_aload_n hx hb d_Ri_goRound_22 rfl (lv_at hl 0 rfl) ?_
  refine va_get (D := (dC, dI)) (ci := 4) (v := .int v_0_filled) (C := "SpaceCycles$Rings") (T := F_Ri) (N := 6) hx hb hts (in_F i_Ri) hown hK hP 0 rfl rfl 5 (by decide) (hts _ (in_c k_228)) (fun _ h9 => h9) rfl d_Ri_goRound_23 ?_
  obtain ⟨hi5, hm⟩ := gI_e hm
  obtain ⟨f6, ef6⟩ : ∃ y : Nat → Int32, y = upd f_0_starts v_0_count.toNatClampNeg v_0_filled := ⟨_, rfl⟩
  replace hm := lt_el hm ef6
  refine va_iast hx hb hK hP hD hS 3 0 rfl rfl hi5 d_Ri_goRound_26 (fun H locs hP hD hS => ?_)
  rw [← ef6] at hP hD
  have hP : va_P (dC, dI) vwCl (wl_Ri_goRound a_0 a_0_order a_0_gone a_0_starts a_0_spaces a_1 a_1_sidesOut a_1_begins a_1_directions a_1_leftSpaces b_1_pointX b_1_pointY b_1_looseSides b_1_pieceLine b_1_weights b_1_pointAt cI cZ v_0_count v_0_filled f_0_order f_0_gone f6 f4 v_1_points v_1_pieces v_1_looseEnds f_1_sidesOut f_1_begins f_1_directions f_1_leftSpaces) H := hP
  have hD : va_D A (wl_Ri_goRound a_0 a_0_order a_0_gone a_0_starts a_0_spaces a_1 a_1_sidesOut a_1_begins a_1_directions a_1_leftSpaces b_1_pointX b_1_pointY b_1_looseSides b_1_pieceLine b_1_weights b_1_pointAt cI cZ v_0_count v_0_filled f_0_order f_0_gone f6 f4 v_1_points v_1_pieces v_1_looseEnds f_1_sidesOut f_1_begins f_1_directions f_1_leftSpaces) := hD
  refine lv_iload_n hx hb d_Ri_goRound_27 rfl (lv_at hl 2 rfl) ?_
  refine lv_istore_n (lv' := [(3, .int p2), (0, .ref a_0), (1, .ref a_1), (2, .int p2)]) hx hb d_Ri_goRound_28 rfl hl (by decide) rfl (fun ls hl => ?_)
  refine lv_iconst (v := 0) hx hb d_Ri_goRound_29 (by decide) ?_
  refine lv_istore (lv' := [(4, .int 0), (3, .int p2), (0, .ref a_0), (1, .ref a_1), (2, .int p2)]) hx hb d_Ri_goRound_30 hl (by decide) rfl (fun ls hl => ?_)
  have L32_15 : ∀ (n : Nat) (x7 : Int32) (x8 : Int32) (x9 : Int32) (f10 : Nat → Int32) (f11 : Nat → Int32) (x12 : Int32) (f13 : Nat → Int32) (f14 : Nat → Int32), m_Ri_goRound_L32 v_1_pieces f_1_sidesOut f_1_begins f_1_directions n x7 x8 x9 f10 f11 = some (x12, f13, f14) → (∀ (H : Heap) (locs : List Loc) (ls : Array Slot), va_P (dC, dI) vwCl (wl_Ri_goRound a_0 a_0_order a_0_gone a_0_starts a_0_spaces a_1 a_1_sidesOut a_1_begins a_1_directions a_1_leftSpaces b_1_pointX b_1_pointY b_1_looseSides b_1_pieceLine b_1_weights b_1_pointAt cI cZ v_0_count x12 f13 f14 f6 f4 v_1_points v_1_pieces v_1_looseEnds f_1_sidesOut f_1_begins f_1_directions f_1_leftSpaces) H → va_D A (wl_Ri_goRound a_0 a_0_order a_0_gone a_0_starts a_0_spaces a_1 a_1_sidesOut a_1_begins a_1_directions a_1_leftSpaces b_1_pointX b_1_pointY b_1_looseSides b_1_pieceLine b_1_weights b_1_pointAt cI cZ v_0_count x12 f13 f14 f6 f4 v_1_points v_1_pieces v_1_looseEnds f_1_sidesOut f_1_begins f_1_directions f_1_leftSpaces) → va_S A s.heap H locs → lv_has ls 5 [(0, .ref a_0)] → W p l e rm_Ri_goRound s m args below meth c H locs 0 0 Q (F0 m 101 ls [])) → ∀ (H : Heap) (locs : List Loc) (ls : Array Slot), va_P (dC, dI) vwCl (wl_Ri_goRound a_0 a_0_order a_0_gone a_0_starts a_0_spaces a_1 a_1_sidesOut a_1_begins a_1_directions a_1_leftSpaces b_1_pointX b_1_pointY b_1_looseSides b_1_pieceLine b_1_weights b_1_pointAt cI cZ v_0_count x9 f10 f11 f6 f4 v_1_points v_1_pieces v_1_looseEnds f_1_sidesOut f_1_begins f_1_directions f_1_leftSpaces) H → va_D A (wl_Ri_goRound a_0 a_0_order a_0_gone a_0_starts a_0_spaces a_1 a_1_sidesOut a_1_begins a_1_directions a_1_leftSpaces b_1_pointX b_1_pointY b_1_looseSides b_1_pieceLine b_1_weights b_1_pointAt cI cZ v_0_count x9 f10 f11 f6 f4 v_1_points v_1_pieces v_1_looseEnds f_1_sidesOut f_1_begins f_1_directions f_1_leftSpaces) → va_S A s.heap H locs → lv_has ls 5 [(0, .ref a_0), (1, .ref a_1), (3, .int x7), (4, .int x8)] → W p l e rm_Ri_goRound s m args below meth c H locs 0 0 Q (F0 m 32 ls []) := by
    intro n
    induction n with
    | zero => intro x7 x8 x9 f10 f11 x12 f13 f14 hm; simp [m_Ri_goRound_L32] at hm
    | succ n ih =>
      intro x7 x8 x9 f10 f11 x12 f13 f14 hm KE H locs ls hP hD hS hl
      rw [m_Ri_goRound_L32] at hm
      refine lv_iload hx hb d_Ri_goRound_32 (lv_at hl 3 rfl) ?_
      refine lv_iconst (v := 2) hx hb d_Ri_goRound_34 (by decide) ?_
      refine lv_aload_n hx hb d_Ri_goRound_35 rfl (lv_at hl 1 rfl) ?_
      refine va_get (D := (dC, dI)) (ci := 3) (v := .int v_1_pieces) (C := "SpaceCycles$Net") (T := F_Ne) (N := 13) hx hb hts (in_F i_Ne) hown hK hP 5 rfl rfl 4 (by decide) (hts _ (in_c k_229)) (fun _ h9 => h9) rfl d_Ri_goRound_36 ?_
      refine lv_imul hx hb d_Ri_goRound_39 ?_
      refine lv_icmp_ge (tgt := 101) hx hb d_Ri_goRound_40 (by decide) (fun c16 => ?_) (fun c16 => ?_)
      · replace hm := if_t hm c16
        cases hm
        exact KE H locs ls hP hD hS (lv_sub hl [0] rfl)
      · replace hm := if_f hm c16
        refine lv_aload_n hx hb d_Ri_goRound_43 rfl (lv_at hl 0 rfl) ?_
        refine va_get (D := (dC, dI)) (ci := 4) (v := .ref a_0_gone) (C := "SpaceCycles$Rings") (T := F_Ri) (N := 6) hx hb hts (in_F i_Ri) hown hK hP 0 rfl rfl 1 (by decide) (hts _ (in_c k_230)) (fun _ h9 => h9) rfl d_Ri_goRound_44 ?_
        refine lv_iload_n hx hb d_Ri_goRound_47 rfl (lv_at hl 2 rfl) ?_
        obtain ⟨hi17, hm⟩ := gI_e hm
        refine va_zald hx hb hK hP 2 1 rfl rfl hi17 d_Ri_goRound_48 ?_
        refine lv_if_ne (tgt := 101) hx hb d_Ri_goRound_49 (by decide) (fun c18 => ?_) (fun c18 => ?_)
        · replace hm := if_f hm c18
          cases hm
          exact KE H locs ls hP hD hS (lv_sub hl [0] rfl)
        · replace hm := if_t hm c18
          refine lv_aload_n hx hb d_Ri_goRound_52 rfl (lv_at hl 0 rfl) ?_
          refine va_get (D := (dC, dI)) (ci := 4) (v := .int x9) (C := "SpaceCycles$Rings") (T := F_Ri) (N := 6) hx hb hts (in_F i_Ri) hown hK hP 0 rfl rfl 5 (by decide) (hts _ (in_c k_228)) (fun _ h9 => h9) rfl d_Ri_goRound_53 ?_
          refine lv_sipush (v := 440) hx hb d_Ri_goRound_56 (by decide) ?_
          refine lv_icmp_ge (tgt := 101) hx hb d_Ri_goRound_59 (by decide) (fun c19 => ?_) (fun c19 => ?_)
          · replace hm := if_t hm c19
            cases hm
            exact KE H locs ls hP hD hS (lv_sub hl [0] rfl)
          · replace hm := if_f hm c19
            refine lv_aload_n hx hb d_Ri_goRound_62 rfl (lv_at hl 0 rfl) ?_
            refine va_get (D := (dC, dI)) (ci := 4) (v := .ref a_0_gone) (C := "SpaceCycles$Rings") (T := F_Ri) (N := 6) hx hb hts (in_F i_Ri) hown hK hP 0 rfl rfl 1 (by decide) (hts _ (in_c k_230)) (fun _ h9 => h9) rfl d_Ri_goRound_63 ?_
            refine lv_iload_n hx hb d_Ri_goRound_66 rfl (lv_at hl 2 rfl) ?_
            refine lv_iconst (v := 1) hx hb d_Ri_goRound_67 (by decide) ?_
            obtain ⟨hi20, hm⟩ := gI_e hm
            obtain ⟨f21, ef21⟩ : ∃ y : Nat → Int32, y = upd f11 x7.toNatClampNeg (vp_nar .boolean 1) := ⟨_, rfl⟩
            replace hm := lt_el hm ef21
            refine va_zast hx hb hK hP hD hS 2 1 rfl rfl hi20 d_Ri_goRound_68 (fun H locs hP hD hS => ?_)
            rw [← ef21] at hP hD
            have hP : va_P (dC, dI) vwCl (wl_Ri_goRound a_0 a_0_order a_0_gone a_0_starts a_0_spaces a_1 a_1_sidesOut a_1_begins a_1_directions a_1_leftSpaces b_1_pointX b_1_pointY b_1_looseSides b_1_pieceLine b_1_weights b_1_pointAt cI cZ v_0_count x9 f10 f21 f6 f4 v_1_points v_1_pieces v_1_looseEnds f_1_sidesOut f_1_begins f_1_directions f_1_leftSpaces) H := hP
            have hD : va_D A (wl_Ri_goRound a_0 a_0_order a_0_gone a_0_starts a_0_spaces a_1 a_1_sidesOut a_1_begins a_1_directions a_1_leftSpaces b_1_pointX b_1_pointY b_1_looseSides b_1_pieceLine b_1_weights b_1_pointAt cI cZ v_0_count x9 f10 f21 f6 f4 v_1_points v_1_pieces v_1_looseEnds f_1_sidesOut f_1_begins f_1_directions f_1_leftSpaces) := hD
            refine lv_aload_n hx hb d_Ri_goRound_69 rfl (lv_at hl 0 rfl) ?_
            refine va_get (D := (dC, dI)) (ci := 4) (v := .ref a_0_order) (C := "SpaceCycles$Rings") (T := F_Ri) (N := 6) hx hb hts (in_F i_Ri) hown hK hP 0 rfl rfl 0 (by decide) (hts _ (in_c k_231)) (fun _ h9 => h9) rfl d_Ri_goRound_70 ?_
            refine lv_aload_n hx hb d_Ri_goRound_73 rfl (lv_at hl 0 rfl) ?_
            refine va_get (D := (dC, dI)) (ci := 4) (v := .int x9) (C := "SpaceCycles$Rings") (T := F_Ri) (N := 6) hx hb hts (in_F i_Ri) hown hK hP 0 rfl rfl 5 (by decide) (hts _ (in_c k_228)) (fun _ h9 => h9) rfl d_Ri_goRound_74 ?_
            refine lv_iload_n hx hb d_Ri_goRound_77 rfl (lv_at hl 2 rfl) ?_
            obtain ⟨hi22, hm⟩ := gI_e hm
            obtain ⟨f23, ef23⟩ : ∃ y : Nat → Int32, y = upd f10 x9.toNatClampNeg x7 := ⟨_, rfl⟩
            replace hm := lt_el hm ef23
            refine va_iast hx hb hK hP hD hS 1 0 rfl rfl hi22 d_Ri_goRound_78 (fun H locs hP hD hS => ?_)
            rw [← ef23] at hP hD
            have hP : va_P (dC, dI) vwCl (wl_Ri_goRound a_0 a_0_order a_0_gone a_0_starts a_0_spaces a_1 a_1_sidesOut a_1_begins a_1_directions a_1_leftSpaces b_1_pointX b_1_pointY b_1_looseSides b_1_pieceLine b_1_weights b_1_pointAt cI cZ v_0_count x9 f23 f21 f6 f4 v_1_points v_1_pieces v_1_looseEnds f_1_sidesOut f_1_begins f_1_directions f_1_leftSpaces) H := hP
            have hD : va_D A (wl_Ri_goRound a_0 a_0_order a_0_gone a_0_starts a_0_spaces a_1 a_1_sidesOut a_1_begins a_1_directions a_1_leftSpaces b_1_pointX b_1_pointY b_1_looseSides b_1_pieceLine b_1_weights b_1_pointAt cI cZ v_0_count x9 f23 f21 f6 f4 v_1_points v_1_pieces v_1_looseEnds f_1_sidesOut f_1_begins f_1_directions f_1_leftSpaces) := hD
            refine lv_aload_n hx hb d_Ri_goRound_79 rfl (lv_at hl 0 rfl) ?_
            refine lv_dup hx hb d_Ri_goRound_80 rfl ?_
            refine va_get (D := (dC, dI)) (ci := 4) (v := .int x9) (C := "SpaceCycles$Rings") (T := F_Ri) (N := 6) hx hb hts (in_F i_Ri) hown hK hP 0 rfl rfl 5 (by decide) (hts _ (in_c k_228)) (fun _ h9 => h9) rfl d_Ri_goRound_81 ?_
            refine lv_iconst (v := 1) hx hb d_Ri_goRound_84 (by decide) ?_
            refine lv_iadd hx hb d_Ri_goRound_85 ?_
            refine lv_topi (fun x24 ex24 => ?_)
            replace hm := lt_el hm ex24
            refine va_put (D := (dC, dI)) (ci := 4) (v := .int x24) (ty := .int) (C := "SpaceCycles$Rings") (T := F_Ri) (N := 6) hx hb hts (in_F i_Ri) t_Ri t_Ri_ok n_Ri hown hK hP hD hS 0 rfl rfl 5 (by decide) (hts _ (in_c k_228)) (fun _ h9 => h9) rfl (by decide +kernel) rfl rfl (Nat.le_of_ble_eq_true rfl) d_Ri_goRound_86 (fun H locs hP hD hS => ?_)
            have hP : va_P (dC, dI) vwCl (wl_Ri_goRound a_0 a_0_order a_0_gone a_0_starts a_0_spaces a_1 a_1_sidesOut a_1_begins a_1_directions a_1_leftSpaces b_1_pointX b_1_pointY b_1_looseSides b_1_pieceLine b_1_weights b_1_pointAt cI cZ v_0_count x24 f23 f21 f6 f4 v_1_points v_1_pieces v_1_looseEnds f_1_sidesOut f_1_begins f_1_directions f_1_leftSpaces) H := hP
            have hD : va_D A (wl_Ri_goRound a_0 a_0_order a_0_gone a_0_starts a_0_spaces a_1 a_1_sidesOut a_1_begins a_1_directions a_1_leftSpaces b_1_pointX b_1_pointY b_1_looseSides b_1_pieceLine b_1_weights b_1_pointAt cI cZ v_0_count x24 f23 f21 f6 f4 v_1_points v_1_pieces v_1_looseEnds f_1_sidesOut f_1_begins f_1_directions f_1_leftSpaces) := hD
            refine lv_aload_n hx hb d_Ri_goRound_89 rfl (lv_at hl 1 rfl) ?_
            refine lv_iload_n hx hb d_Ri_goRound_90 rfl (lv_at hl 2 rfl) ?_
            obtain ⟨r25, hb26, hm⟩ := bd1_e hm
            have hPc := hP.sub (ws' := (wl_Ne_next a_1 a_1_sidesOut a_1_begins a_1_directions b_1_pointX b_1_pointY b_1_looseSides b_1_pieceLine a_1_leftSpaces b_1_weights b_1_pointAt cI v_1_points v_1_pieces v_1_looseEnds f_1_sidesOut f_1_begins f_1_directions)) [5, 6, 7, 8] rfl
            have hDc := hD.sub (ws' := (wl_Ne_next a_1 a_1_sidesOut a_1_begins a_1_directions b_1_pointX b_1_pointY b_1_looseSides b_1_pieceLine a_1_leftSpaces b_1_weights b_1_pointAt cI v_1_points v_1_pieces v_1_looseEnds f_1_sidesOut f_1_begins f_1_directions)) [5, 6, 7, 8] (by decide) rfl
            refine cl_i (wc' := (wl_Ne_next a_1 a_1_sidesOut a_1_begins a_1_directions b_1_pointX b_1_pointY b_1_looseSides b_1_pieceLine a_1_leftSpaces b_1_weights b_1_pointAt cI v_1_points v_1_pieces v_1_looseEnds f_1_sidesOut f_1_begins f_1_directions)) (va_runV (As := [.int x7]) (rest := []) ⟨hx, hb, hml, hown, hts⟩ (c_Ne_next l dC dI (cI := cI) (cZ := cZ) (cJ := cJ) a_1 a_1_sidesOut a_1_begins a_1_directions b_1_pointX b_1_pointY b_1_looseSides b_1_pieceLine a_1_leftSpaces b_1_weights b_1_pointAt H.size v_1_points v_1_pieces v_1_looseEnds f_1_sidesOut f_1_begins f_1_directions x7 r25 hb26) (cwV 1 hts (gl_V k_235 k_234 k_233 k_145 k_232) rfl rfl rfl (by decide +kernel) ⟨Nat.le_of_ble_eq_true rfl, Nat.le_of_ble_eq_true rfl⟩) ⟨PP_blind, va_recv hK hPc (ci := 3) (q0 := 0) rfl rfl, fun U hU hW => PP_at hK hN hPc hDc hU hW⟩ rfl rfl hl.1 rfl (lv_room (Nat.le_of_ble_eq_true rfl)) d_Ri_goRound_91 ⟨Nat.zero_le _, Nat.zero_le _⟩) hP hD hS hA [5, 6, 7, 8] [0, 1, 2, 3, 4, 9] rfl rfl (by decide) (by decide) (fun H locs hP hD hS => ?_)
            have hP : va_P (dC, dI) vwCl (wl_Ri_goRound a_0 a_0_order a_0_gone a_0_starts a_0_spaces a_1 a_1_sidesOut a_1_begins a_1_directions a_1_leftSpaces b_1_pointX b_1_pointY b_1_looseSides b_1_pieceLine b_1_weights b_1_pointAt cI cZ v_0_count x24 f23 f21 f6 f4 v_1_points v_1_pieces v_1_looseEnds f_1_sidesOut f_1_begins f_1_directions f_1_leftSpaces) H := hP.sub [0, 1, 2, 3, 4, 6, 7, 8, 9, 5] rfl
            have hD : va_D A (wl_Ri_goRound a_0 a_0_order a_0_gone a_0_starts a_0_spaces a_1 a_1_sidesOut a_1_begins a_1_directions a_1_leftSpaces b_1_pointX b_1_pointY b_1_looseSides b_1_pieceLine b_1_weights b_1_pointAt cI cZ v_0_count x24 f23 f21 f6 f4 v_1_points v_1_pieces v_1_looseEnds f_1_sidesOut f_1_begins f_1_directions f_1_leftSpaces) := hD.sub [0, 1, 2, 3, 4, 6, 7, 8, 9, 5] (by decide) rfl
            refine lv_istore_n (lv' := [(3, .int r25), (0, .ref a_0), (1, .ref a_1), (4, .int x8)]) hx hb d_Ri_goRound_94 rfl hl (by decide) rfl (fun ls hl => ?_)
            obtain ⟨x27, ex27⟩ : ∃ y : Int32, y = x8 + 1 := ⟨_, rfl⟩
            replace hm := lt_el hm ex27
            refine lv_iinc (v := x27) (lv' := [(4, .int x27), (3, .int r25), (0, .ref a_0), (1, .ref a_1)]) hx hb d_Ri_goRound_95 hl (k := 3) rfl (by rw [ex27]; rfl) (by decide) rfl (fun ls hl => ?_)
            refine lv_goto (tgt := 32) hx hb d_Ri_goRound_98 (by decide) ?_
            exact ih _ _ _ _ _ _ _ _ hm KE H locs ls hP hD hS (lv_sub hl [2, 3, 1, 0] rfl)
  obtain ⟨x12, f13, f14, hb28, hm⟩ := bd3_e hm
  refine L32_15 fu _ _ _ _ _ _ _ _ hb28 (fun H locs ls hP hD hS hl => ?_) H locs ls hP hD hS (lv_sub hl [2, 3, 1, 0] rfl)
  refine lv_aload_n hx hb d_Ri_goRound_101 rfl (lv_at hl 0 rfl) ?_
  refine lv_dup hx hb d_Ri_goRound_102 rfl ?_
  refine va_get (D := (dC, dI)) (ci := 4) (v := .int v_0_count) (C := "SpaceCycles$Rings") (T := F_Ri) (N := 6) hx hb hts (in_F i_Ri) hown hK hP 0 rfl rfl 4 (by decide) (hts _ (in_c k_222)) (fun _ h9 => h9) rfl d_Ri_goRound_103 ?_
  refine lv_iconst (v := 1) hx hb d_Ri_goRound_106 (by decide) ?_
  refine lv_iadd hx hb d_Ri_goRound_107 ?_
  refine lv_topi (fun x29 ex29 => ?_)
  replace hm := lt_el hm ex29
  refine va_put (D := (dC, dI)) (ci := 4) (v := .int x29) (ty := .int) (C := "SpaceCycles$Rings") (T := F_Ri) (N := 6) hx hb hts (in_F i_Ri) t_Ri t_Ri_ok n_Ri hown hK hP hD hS 0 rfl rfl 4 (by decide) (hts _ (in_c k_222)) (fun _ h9 => h9) rfl (by decide +kernel) rfl rfl (Nat.le_of_ble_eq_true rfl) d_Ri_goRound_108 (fun H locs hP hD hS => ?_)
  have hP : va_P (dC, dI) vwCl (wl_Ri_goRound a_0 a_0_order a_0_gone a_0_starts a_0_spaces a_1 a_1_sidesOut a_1_begins a_1_directions a_1_leftSpaces b_1_pointX b_1_pointY b_1_looseSides b_1_pieceLine b_1_weights b_1_pointAt cI cZ x29 x12 f13 f14 f6 f4 v_1_points v_1_pieces v_1_looseEnds f_1_sidesOut f_1_begins f_1_directions f_1_leftSpaces) H := hP
  have hD : va_D A (wl_Ri_goRound a_0 a_0_order a_0_gone a_0_starts a_0_spaces a_1 a_1_sidesOut a_1_begins a_1_directions a_1_leftSpaces b_1_pointX b_1_pointY b_1_looseSides b_1_pieceLine b_1_weights b_1_pointAt cI cZ x29 x12 f13 f14 f6 f4 v_1_points v_1_pieces v_1_looseEnds f_1_sidesOut f_1_begins f_1_directions f_1_leftSpaces) := hD
  refine lv_aload_n hx hb d_Ri_goRound_111 rfl (lv_at hl 0 rfl) ?_
  refine va_get (D := (dC, dI)) (ci := 4) (v := .ref a_0_starts) (C := "SpaceCycles$Rings") (T := F_Ri) (N := 6) hx hb hts (in_F i_Ri) hown hK hP 0 rfl rfl 2 (by decide) (hts _ (in_c k_227)) (fun _ h9 => h9) rfl d_Ri_goRound_112 ?_
  refine lv_aload_n hx hb d_Ri_goRound_115 rfl (lv_at hl 0 rfl) ?_
  refine va_get (D := (dC, dI)) (ci := 4) (v := .int x29) (C := "SpaceCycles$Rings") (T := F_Ri) (N := 6) hx hb hts (in_F i_Ri) hown hK hP 0 rfl rfl 4 (by decide) (hts _ (in_c k_222)) (fun _ h9 => h9) rfl d_Ri_goRound_116 ?_
  refine lv_aload_n hx hb d_Ri_goRound_119 rfl (lv_at hl 0 rfl) ?_
  refine va_get (D := (dC, dI)) (ci := 4) (v := .int x12) (C := "SpaceCycles$Rings") (T := F_Ri) (N := 6) hx hb hts (in_F i_Ri) hown hK hP 0 rfl rfl 5 (by decide) (hts _ (in_c k_228)) (fun _ h9 => h9) rfl d_Ri_goRound_120 ?_
  obtain ⟨hi30, hm⟩ := gI_e hm
  obtain ⟨f31, ef31⟩ : ∃ y : Nat → Int32, y = upd f6 x29.toNatClampNeg x12 := ⟨_, rfl⟩
  replace hm := lt_el hm ef31
  refine va_iast hx hb hK hP hD hS 3 0 rfl rfl hi30 d_Ri_goRound_123 (fun H locs hP hD hS => ?_)
  rw [← ef31] at hP hD
  have hP : va_P (dC, dI) vwCl (wl_Ri_goRound a_0 a_0_order a_0_gone a_0_starts a_0_spaces a_1 a_1_sidesOut a_1_begins a_1_directions a_1_leftSpaces b_1_pointX b_1_pointY b_1_looseSides b_1_pieceLine b_1_weights b_1_pointAt cI cZ x29 x12 f13 f14 f31 f4 v_1_points v_1_pieces v_1_looseEnds f_1_sidesOut f_1_begins f_1_directions f_1_leftSpaces) H := hP
  have hD : va_D A (wl_Ri_goRound a_0 a_0_order a_0_gone a_0_starts a_0_spaces a_1 a_1_sidesOut a_1_begins a_1_directions a_1_leftSpaces b_1_pointX b_1_pointY b_1_looseSides b_1_pieceLine b_1_weights b_1_pointAt cI cZ x29 x12 f13 f14 f31 f4 v_1_points v_1_pieces v_1_looseEnds f_1_sidesOut f_1_begins f_1_directions f_1_leftSpaces) := hD
  cases hm
  exact hret _ H locs ls d_Ri_goRound_124 hP hD hS
set_option maxHeartbeats 4000000 in
set_option maxRecDepth 100000 in
theorem c_Ri_goRound (l : Launch) (dC : Nat → ClassId) (dI : Nat → Nat → Nat) {cI cZ cJ : ClassId} (a_0 a_0_order a_0_gone a_0_starts a_0_spaces a_1 a_1_sidesOut a_1_begins a_1_directions a_1_leftSpaces b_1_pointX b_1_pointY b_1_looseSides b_1_pieceLine b_1_weights b_1_pointAt : Nat) (sz : Nat) (v_0_count : Int32) (v_0_filled : Int32) (f_0_order : Nat → Int32) (f_0_gone : Nat → Int32) (f_0_starts : Nat → Int32) (f_0_spaces : Nat → Int32) (v_1_points : Int32) (v_1_pieces : Int32) (v_1_looseEnds : Int32) (f_1_sidesOut : Nat → Int32) (f_1_begins : Nat → Int32) (f_1_directions : Nat → Int32) (f_1_leftSpaces : Nat → Int32) (p2 : Int32) (ov_0_count : Int32) (ov_0_filled : Int32) (of_0_order : Nat → Int32) (of_0_gone : Nat → Int32) (of_0_starts : Nat → Int32) (of_0_spaces : Nat → Int32) (hm : m_Ri_goRound p2 v_0_count v_0_filled f_0_order f_0_gone f_0_starts f_0_spaces v_1_pieces f_1_sidesOut f_1_begins f_1_directions f_1_leftSpaces = some (ov_0_count, ov_0_filled, of_0_order, of_0_gone, of_0_starts, of_0_spaces)) : Met l y_Ri_goRound w_Ri_goRound rm_Ri_goRound (PP dC dI [(cI, .int), (cZ, .boolean), (cJ, .long)] [.ref a_0, .ref a_1, .int p2] sz (wl_Ri_goRound a_0 a_0_order a_0_gone a_0_starts a_0_spaces a_1 a_1_sidesOut a_1_begins a_1_directions a_1_leftSpaces b_1_pointX b_1_pointY b_1_looseSides b_1_pieceLine b_1_weights b_1_pointAt cI cZ v_0_count v_0_filled f_0_order f_0_gone f_0_starts f_0_spaces v_1_points v_1_pieces v_1_looseEnds f_1_sidesOut f_1_begins f_1_directions f_1_leftSpaces)) (QV dC dI [(cI, .int), (cZ, .boolean), (cJ, .long)] sz (wl_Ri_goRound a_0 a_0_order a_0_gone a_0_starts a_0_spaces a_1 a_1_sidesOut a_1_begins a_1_directions a_1_leftSpaces b_1_pointX b_1_pointY b_1_looseSides b_1_pieceLine b_1_weights b_1_pointAt cI cZ v_0_count v_0_filled f_0_order f_0_gone f_0_starts f_0_spaces v_1_points v_1_pieces v_1_looseEnds f_1_sidesOut f_1_begins f_1_directions f_1_leftSpaces) (wl_Ri_goRound a_0 a_0_order a_0_gone a_0_starts a_0_spaces a_1 a_1_sidesOut a_1_begins a_1_directions a_1_leftSpaces b_1_pointX b_1_pointY b_1_looseSides b_1_pieceLine b_1_weights b_1_pointAt cI cZ ov_0_count ov_0_filled of_0_order of_0_gone of_0_starts of_0_spaces v_1_points v_1_pieces v_1_looseEnds f_1_sidesOut f_1_begins f_1_directions f_1_leftSpaces)) 0 0 (va_A (wl_Ri_goRound a_0 a_0_order a_0_gone a_0_starts a_0_spaces a_1 a_1_sidesOut a_1_begins a_1_directions a_1_leftSpaces b_1_pointX b_1_pointY b_1_looseSides b_1_pieceLine b_1_weights b_1_pointAt cI cZ v_0_count v_0_filled f_0_order f_0_gone f_0_starts f_0_spaces v_1_points v_1_pieces v_1_looseEnds f_1_sidesOut f_1_begins f_1_directions f_1_leftSpaces) sz) := by
  refine Met.ofW (cc := b_Ri_goRound) (maxL := 5) (ret := none) (by decide) rfl ?_
  intro p e s m args below meth c s₁ B hml hv
  obtain ⟨rfl, hsz, hP, hK, hD0, hN⟩ := hv
  subst hsz
  have hl := lv_entry ([.ref a_0, .ref a_1, .int p2]) (n := 5) (Nat.le_of_ble_eq_true rfl)
  rw [lg_entry_eq]
  generalize (lg_sl ([.ref a_0, .ref a_1, .int p2]) ++ List.replicate (5 - (lg_sl ([.ref a_0, .ref a_1, .int p2])).length) Slot.unset).toArray = ls at hl ⊢
  exact t_Ri_goRound a_0 a_0_order a_0_gone a_0_starts a_0_spaces a_1 a_1_sidesOut a_1_begins a_1_directions a_1_leftSpaces b_1_pointX b_1_pointY b_1_looseSides b_1_pieceLine b_1_weights b_1_pointAt v_0_count v_0_filled f_0_order f_0_gone f_0_starts f_0_spaces v_1_points v_1_pieces v_1_looseEnds f_1_sidesOut f_1_begins f_1_directions f_1_leftSpaces p2 ov_0_count ov_0_filled of_0_order of_0_gone of_0_starts of_0_spaces B.exec B.bytes hml (findClass_of_methodNamed B.named) (atoms_spec (ws := w_Ri_goRound) B.pre) hK hN (fun q h => Or.inr h) (fun pc H locs ls hd hP9 hD9 hS => W.vret B.exec B.bytes B.returns (fun t ht hW => ⟨⟨(), rfl, trivial, by rw [ht]; exact hP9, va_K.moved hW.alike hK, hD9⟩, hS.F ht⟩) hS.2.2 hd) hm s.heap [] ls hP hD0.self va_S.rf hl

theorem k_236 : ((.fieldLink "SpaceCycles$Rings" 37 "SpaceCycles$Net" "points" "I") : Cond) ∈ gl := gl_i 128 (by decide +kernel) (by decide +kernel)
theorem k_237 : ((.methodLink "SpaceCycles$Rings" 40 ⟨"SpaceCycles$Net", "sideFrom", "(II)I"⟩) : Cond) ∈ gl := gl_i 840 (by decide +kernel) (by decide +kernel)
theorem k_238 : ((.code ⟨"SpaceCycles$Rings", "goRound", "(LSpaceCycles$Net;I)V"⟩ prog_9_method_3_code 5 none) : Cond) ∈ gl := gl_i 844 (by decide +kernel) (by decide +kernel)
theorem k_239 : ((.selects "SpaceCycles$Rings" ⟨"SpaceCycles$Rings", "goRound", "(LSpaceCycles$Net;I)V"⟩ ⟨"SpaceCycles$Rings", "goRound", "(LSpaceCycles$Net;I)V"⟩) : Cond) ∈ gl := gl_s (by decide +kernel) (by decide +kernel)
theorem k_240 : ((.instanceMethod ⟨"SpaceCycles$Rings", "goRound", "(LSpaceCycles$Net;I)V"⟩) : Cond) ∈ gl := gl_i 843 (by decide +kernel) (by decide +kernel)
theorem k_241 : ((.initialized "SpaceCycles$Rings") : Cond) ∈ gl := gl_i 5 (by decide +kernel) (by decide +kernel)
theorem k_242 : ((.methodLink "SpaceCycles$Rings" 44 ⟨"SpaceCycles$Rings", "goRound", "(LSpaceCycles$Net;I)V"⟩) : Cond) ∈ gl := gl_i 841 (by decide +kernel) (by decide +kernel)
-- SpaceCycles$Rings.follow(LSpaceCycles$Net;)V
abbrev b_Ri_follow : ByteArray := prog_9_method_2_code
abbrev y_Ri_follow : MethodName := ⟨"SpaceCycles$Rings", "follow", "(LSpaceCycles$Net;)V"⟩
abbrev w_Ri_follow : List Cond := Cond.code y_Ri_follow b_Ri_follow 5 none :: gl
abbrev rm_Ri_follow : Room := { frames := 3, cells := 0, slots := 0, locals := 71 }
theorem d_Ri_follow_0 : decode b_Ri_follow 0 = .ok (.aload_n 0, 1) := by decide +kernel
theorem d_Ri_follow_1 : decode b_Ri_follow 1 = .ok (.iconst 0, 1) := by decide +kernel
theorem d_Ri_follow_2 : decode b_Ri_follow 2 = .ok (.putfield 25, 3) := by decide +kernel
theorem d_Ri_follow_5 : decode b_Ri_follow 5 = .ok (.aload_n 0, 1) := by decide +kernel
theorem d_Ri_follow_6 : decode b_Ri_follow 6 = .ok (.iconst 0, 1) := by decide +kernel
theorem d_Ri_follow_7 : decode b_Ri_follow 7 = .ok (.putfield 29, 3) := by decide +kernel
theorem d_Ri_follow_10 : decode b_Ri_follow 10 = .ok (.iconst 0, 1) := by decide +kernel
theorem d_Ri_follow_11 : decode b_Ri_follow 11 = .ok (.istore_n 2, 1) := by decide +kernel
theorem d_Ri_follow_12 : decode b_Ri_follow 12 = .ok (.iload_n 2, 1) := by decide +kernel
theorem d_Ri_follow_13 : decode b_Ri_follow 13 = .ok (.iconst 2, 1) := by decide +kernel
theorem d_Ri_follow_14 : decode b_Ri_follow 14 = .ok (.aload_n 1, 1) := by decide +kernel
theorem d_Ri_follow_15 : decode b_Ri_follow 15 = .ok (.getfield 32, 3) := by decide +kernel
theorem d_Ri_follow_18 : decode b_Ri_follow 18 = .ok (.imul, 1) := by decide +kernel
theorem d_Ri_follow_19 : decode b_Ri_follow 19 = .ok (.if_icmp .ge 16, 3) := by decide +kernel
theorem d_Ri_follow_22 : decode b_Ri_follow 22 = .ok (.aload_n 0, 1) := by decide +kernel
theorem d_Ri_follow_23 : decode b_Ri_follow 23 = .ok (.getfield 15, 3) := by decide +kernel
theorem d_Ri_follow_26 : decode b_Ri_follow 26 = .ok (.iload_n 2, 1) := by decide +kernel
theorem d_Ri_follow_27 : decode b_Ri_follow 27 = .ok (.iconst 0, 1) := by decide +kernel
theorem d_Ri_follow_28 : decode b_Ri_follow 28 = .ok (.bastore, 1) := by decide +kernel
theorem d_Ri_follow_29 : decode b_Ri_follow 29 = .ok (.iinc 2 1, 3) := by decide +kernel
theorem d_Ri_follow_32 : decode b_Ri_follow 32 = .ok (.goto (-20), 3) := by decide +kernel
theorem d_Ri_follow_35 : decode b_Ri_follow 35 = .ok (.iconst 0, 1) := by decide +kernel
theorem d_Ri_follow_36 : decode b_Ri_follow 36 = .ok (.istore_n 2, 1) := by decide +kernel
theorem d_Ri_follow_37 : decode b_Ri_follow 37 = .ok (.iload_n 2, 1) := by decide +kernel
theorem d_Ri_follow_38 : decode b_Ri_follow 38 = .ok (.aload_n 1, 1) := by decide +kernel
theorem d_Ri_follow_39 : decode b_Ri_follow 39 = .ok (.getfield 37, 3) := by decide +kernel
theorem d_Ri_follow_42 : decode b_Ri_follow 42 = .ok (.if_icmp .ge 63, 3) := by decide +kernel
theorem d_Ri_follow_45 : decode b_Ri_follow 45 = .ok (.iconst 0, 1) := by decide +kernel
theorem d_Ri_follow_46 : decode b_Ri_follow 46 = .ok (.istore_n 3, 1) := by decide +kernel
theorem d_Ri_follow_47 : decode b_Ri_follow 47 = .ok (.iload_n 3, 1) := by decide +kernel
theorem d_Ri_follow_48 : decode b_Ri_follow 48 = .ok (.iconst 4, 1) := by decide +kernel
theorem d_Ri_follow_49 : decode b_Ri_follow 49 = .ok (.if_icmp .ge 50, 3) := by decide +kernel
theorem d_Ri_follow_52 : decode b_Ri_follow 52 = .ok (.aload_n 1, 1) := by decide +kernel
theorem d_Ri_follow_53 : decode b_Ri_follow 53 = .ok (.iload_n 2, 1) := by decide +kernel
theorem d_Ri_follow_54 : decode b_Ri_follow 54 = .ok (.iload_n 3, 1) := by decide +kernel
theorem d_Ri_follow_55 : decode b_Ri_follow 55 = .ok (.invokevirtual 40, 3) := by decide +kernel
theorem d_Ri_follow_58 : decode b_Ri_follow 58 = .ok (.istore 4, 2) := by decide +kernel
theorem d_Ri_follow_60 : decode b_Ri_follow 60 = .ok (.iload 4, 2) := by decide +kernel
theorem d_Ri_follow_62 : decode b_Ri_follow 62 = .ok (.iconst (-1), 1) := by decide +kernel
theorem d_Ri_follow_63 : decode b_Ri_follow 63 = .ok (.if_icmp .eq 30, 3) := by decide +kernel
theorem d_Ri_follow_66 : decode b_Ri_follow 66 = .ok (.aload_n 0, 1) := by decide +kernel
theorem d_Ri_follow_67 : decode b_Ri_follow 67 = .ok (.getfield 15, 3) := by decide +kernel
theorem d_Ri_follow_70 : decode b_Ri_follow 70 = .ok (.iload 4, 2) := by decide +kernel
theorem d_Ri_follow_72 : decode b_Ri_follow 72 = .ok (.baload, 1) := by decide +kernel
theorem d_Ri_follow_73 : decode b_Ri_follow 73 = .ok (.ifCond .ne 20, 3) := by decide +kernel
theorem d_Ri_follow_76 : decode b_Ri_follow 76 = .ok (.aload_n 0, 1) := by decide +kernel
theorem d_Ri_follow_77 : decode b_Ri_follow 77 = .ok (.getfield 25, 3) := by decide +kernel
theorem d_Ri_follow_80 : decode b_Ri_follow 80 = .ok (.sipush 220, 3) := by decide +kernel
theorem d_Ri_follow_83 : decode b_Ri_follow 83 = .ok (.if_icmp .ge 10, 3) := by decide +kernel
theorem d_Ri_follow_86 : decode b_Ri_follow 86 = .ok (.aload_n 0, 1) := by decide +kernel
theorem d_Ri_follow_87 : decode b_Ri_follow 87 = .ok (.aload_n 1, 1) := by decide +kernel
theorem d_Ri_follow_88 : decode b_Ri_follow 88 = .ok (.iload 4, 2) := by decide +kernel
theorem d_Ri_follow_90 : decode b_Ri_follow 90 = .ok (.invokevirtual 44, 3) := by decide +kernel
theorem d_Ri_follow_93 : decode b_Ri_follow 93 = .ok (.iinc 3 1, 3) := by decide +kernel
theorem d_Ri_follow_96 : decode b_Ri_follow 96 = .ok (.goto (-49), 3) := by decide +kernel
theorem d_Ri_follow_99 : decode b_Ri_follow 99 = .ok (.iinc 2 1, 3) := by decide +kernel
theorem d_Ri_follow_102 : decode b_Ri_follow 102 = .ok (.goto (-65), 3) := by decide +kernel
theorem d_Ri_follow_105 : decode b_Ri_follow 105 = .ok (.return_, 1) := by decide +kernel
abbrev wl_Ri_follow (a_0 : Nat) (a_0_order : Nat) (a_0_gone : Nat) (a_0_starts : Nat) (a_0_spaces : Nat) (a_1 : Nat) (a_1_sidesOut : Nat) (a_1_begins : Nat) (a_1_directions : Nat) (a_1_leftSpaces : Nat) (b_1_pointX : Nat) (b_1_pointY : Nat) (b_1_looseSides : Nat) (b_1_pieceLine : Nat) (b_1_weights : Nat) (b_1_pointAt : Nat) (cI : ClassId) (cZ : ClassId) (v_0_count : Int32) (v_0_filled : Int32) (f_0_order : Nat → Int32) (f_0_gone : Nat → Int32) (f_0_starts : Nat → Int32) (f_0_spaces : Nat → Int32) (v_1_points : Int32) (v_1_pieces : Int32) (v_1_looseEnds : Int32) (f_1_sidesOut : Nat → Int32) (f_1_begins : Nat → Int32) (f_1_directions : Nat → Int32) (f_1_leftSpaces : Nat → Int32) : va_W := [(a_0, .inr (4, [.ref a_0_order, .ref a_0_gone, .ref a_0_starts, .ref a_0_spaces, .int v_0_count, .int v_0_filled])), (a_0_order, .inl (cI, 440, .inl f_0_order)), (a_0_gone, .inl (cZ, 440, .inl f_0_gone)), (a_0_starts, .inl (cI, 221, .inl f_0_starts)), (a_0_spaces, .inl (cI, 220, .inl f_0_spaces)), (a_1, .inr (3, [.ref b_1_pointX, .ref b_1_pointY, .ref b_1_looseSides, .int v_1_points, .int v_1_pieces, .int v_1_looseEnds, .ref a_1_sidesOut, .ref b_1_pieceLine, .ref a_1_begins, .ref a_1_directions, .ref a_1_leftSpaces, .ref b_1_weights, .ref b_1_pointAt])), (a_1_sidesOut, .inl (cI, 560, .inl f_1_sidesOut)), (a_1_begins, .inl (cI, 440, .inl f_1_begins)), (a_1_directions, .inl (cI, 440, .inl f_1_directions)), (a_1_leftSpaces, .inl (cI, 440, .inl f_1_leftSpaces))]
def m_Ri_follow_L12 (v_1_pieces : Int32) : Nat → Int32 → (Nat → Int32) → Option ((Nat → Int32))
  | 0, _, _ => none
  | n + 1, l2, f_0_gone =>
    if (2 * v_1_pieces) ≤ l2 then (
      some f_0_gone)
    else (
      gI l2 440 <|
      lt_ (upd f_0_gone l2.toNatClampNeg (vp_nar .boolean 0)) fun f3 =>
      lt_ (l2 + 1) fun x4 =>
      m_Ri_follow_L12 v_1_pieces n x4 f3)

def m_Ri_follow_L47 (l2 : Int32) (v_1_pieces : Int32) (f_1_sidesOut : Nat → Int32) (f_1_begins : Nat → Int32) (f_1_directions : Nat → Int32) (f_1_leftSpaces : Nat → Int32) : Nat → Int32 → Int32 → Int32 → (Nat → Int32) → (Nat → Int32) → (Nat → Int32) → (Nat → Int32) → Option ((Int32) × (Int32) × (Nat → Int32) × (Nat → Int32) × (Nat → Int32) × (Nat → Int32))
  | 0, _, _, _, _, _, _, _ => none
  | n + 1, l3, v_0_count, v_0_filled, f_0_order, f_0_gone, f_0_starts, f_0_spaces =>
    if 4 ≤ l3 then (
      some (v_0_count, v_0_filled, f_0_order, f_0_gone, f_0_starts, f_0_spaces))
    else (
      bd1 (m_Ne_sideFrom l2 l3 f_1_sidesOut) fun r12 =>
      bd6 (
        if r12 = (-1) then (
        some (v_0_count, v_0_filled, f_0_order, f_0_gone, f_0_starts, f_0_spaces))
      else (
        gI r12 440 <|
        if (f_0_gone r12.toNatClampNeg) = 0 then (
          if 220 ≤ v_0_count then (
            some (v_0_count, v_0_filled, f_0_order, f_0_gone, f_0_starts, f_0_spaces))
          else (
            bd6 (m_Ri_goRound r12 v_0_count v_0_filled f_0_order f_0_gone f_0_starts f_0_spaces v_1_pieces f_1_sidesOut f_1_begins f_1_directions f_1_leftSpaces) fun x27 x28 f29 f30 f31 f32 =>
            some (x27, x28, f29, f30, f31, f32)))
        else (
          some (v_0_count, v_0_filled, f_0_order, f_0_gone, f_0_starts, f_0_spaces))))
      fun (x17 : Int32) (x18 : Int32) (f19 : Nat → Int32) (f20 : Nat → Int32) (f21 : Nat → Int32) (f22 : Nat → Int32) =>
      lt_ (l3 + 1) fun x34 =>
        m_Ri_follow_L47 l2 v_1_pieces f_1_sidesOut f_1_begins f_1_directions f_1_leftSpaces n x34 x17 x18 f19 f20 f21 f22)

def m_Ri_follow_L37 (v_1_points : Int32) (v_1_pieces : Int32) (f_1_sidesOut : Nat → Int32) (f_1_begins : Nat → Int32) (f_1_directions : Nat → Int32) (f_1_leftSpaces : Nat → Int32) : Nat → Int32 → Int32 → Int32 → (Nat → Int32) → (Nat → Int32) → (Nat → Int32) → (Nat → Int32) → Option ((Int32) × (Int32) × (Nat → Int32) × (Nat → Int32) × (Nat → Int32) × (Nat → Int32))
  | 0, _, _, _, _, _, _, _ => none
  | n + 1, l2, v_0_count, v_0_filled, f_0_order, f_0_gone, f_0_starts, f_0_spaces =>
    if v_1_points ≤ l2 then (
      some (v_0_count, v_0_filled, f_0_order, f_0_gone, f_0_starts, f_0_spaces))
    else (
      bd6 (m_Ri_follow_L47 l2 v_1_pieces f_1_sidesOut f_1_begins f_1_directions f_1_leftSpaces fu 0 v_0_count v_0_filled f_0_order f_0_gone f_0_starts f_0_spaces) fun x18 x19 f20 f21 f22 f23 =>
      lt_ (l2 + 1) fun x50 =>
      m_Ri_follow_L37 v_1_points v_1_pieces f_1_sidesOut f_1_begins f_1_directions f_1_leftSpaces n x50 x18 x19 f20 f21 f22 f23)
def m_Ri_follow (v_0_count : Int32) (v_0_filled : Int32) (f_0_order : Nat → Int32) (f_0_gone : Nat → Int32) (f_0_starts : Nat → Int32) (f_0_spaces : Nat → Int32) (v_1_points : Int32) (v_1_pieces : Int32) (f_1_sidesOut : Nat → Int32) (f_1_begins : Nat → Int32) (f_1_directions : Nat → Int32) (f_1_leftSpaces : Nat → Int32) : Option ((Int32) × (Int32) × (Nat → Int32) × (Nat → Int32) × (Nat → Int32) × (Nat → Int32)) :=
  bd1 (m_Ri_follow_L12 v_1_pieces fu 0 f_0_gone) fun f3 =>
  bd6 (m_Ri_follow_L37 v_1_points v_1_pieces f_1_sidesOut f_1_begins f_1_directions f_1_leftSpaces fu 0 0 0 f_0_order f3 f_0_starts f_0_spaces) fun x17 x18 f19 f20 f21 f22 =>
  some (x17, x18, f19, f20, f21, f22)

set_option maxHeartbeats 4000000 in
set_option maxRecDepth 100000 in
theorem t_Ri_follow {p : Program} {l : Launch} {e : Env} {s : State} {m : MethodId} {args : Array Value} {below : List Frame} {meth : Method} {c : Code} {A : Nat → Prop} {Q : State → Prop} {dC : Nat → ClassId} {dI : Nat → Nat → Nat} {cI cZ cJ : ClassId} (a_0 a_0_order a_0_gone a_0_starts a_0_spaces a_1 a_1_sidesOut a_1_begins a_1_directions a_1_leftSpaces b_1_pointX b_1_pointY b_1_looseSides b_1_pieceLine b_1_weights b_1_pointAt : Nat) (v_0_count : Int32) (v_0_filled : Int32) (f_0_order : Nat → Int32) (f_0_gone : Nat → Int32) (f_0_starts : Nat → Int32) (f_0_spaces : Nat → Int32) (v_1_points : Int32) (v_1_pieces : Int32) (v_1_looseEnds : Int32) (f_1_sidesOut : Nat → Int32) (f_1_begins : Nat → Int32) (f_1_directions : Nat → Int32) (f_1_leftSpaces : Nat → Int32)  (ov_0_count : Int32) (ov_0_filled : Int32) (of_0_order : Nat → Int32) (of_0_gone : Nat → Int32) (of_0_starts : Nat → Int32) (of_0_spaces : Nat → Int32) (hx : p.tables.exec = Jvm.exec) (hb : c.code = b_Ri_follow) (hml : c.maxLocals = 5) (hown : s.vm.findClass "SpaceCycles$Rings" = some m.cls) (hts : ∀ w ∈ w_Ri_follow, w.before args s = true) (hK : va_K (dC, dI) vwCl [(cI, .int), (cZ, .boolean), (cJ, .long)] s) (hN : NX s) (hA : ∀ q : Nat, s.heap.size ≤ q → A q)
    (hret : ∀ (pc : Nat) (H : Heap) (locs : List Loc) (ls : Array Slot), decode b_Ri_follow pc = .ok (.return_, 1) → va_P (dC, dI) vwCl (wl_Ri_follow a_0 a_0_order a_0_gone a_0_starts a_0_spaces a_1 a_1_sidesOut a_1_begins a_1_directions a_1_leftSpaces b_1_pointX b_1_pointY b_1_looseSides b_1_pieceLine b_1_weights b_1_pointAt cI cZ ov_0_count ov_0_filled of_0_order of_0_gone of_0_starts of_0_spaces v_1_points v_1_pieces v_1_looseEnds f_1_sidesOut f_1_begins f_1_directions f_1_leftSpaces) H → va_D A (wl_Ri_follow a_0 a_0_order a_0_gone a_0_starts a_0_spaces a_1 a_1_sidesOut a_1_begins a_1_directions a_1_leftSpaces b_1_pointX b_1_pointY b_1_looseSides b_1_pieceLine b_1_weights b_1_pointAt cI cZ ov_0_count ov_0_filled of_0_order of_0_gone of_0_starts of_0_spaces v_1_points v_1_pieces v_1_looseEnds f_1_sidesOut f_1_begins f_1_directions f_1_leftSpaces) → va_S A s.heap H locs → W p l e rm_Ri_follow s m args below meth c H locs 0 0 Q (F0 m pc ls []))
    (hm : m_Ri_follow v_0_count v_0_filled f_0_order f_0_gone f_0_starts f_0_spaces v_1_points v_1_pieces f_1_sidesOut f_1_begins f_1_directions f_1_leftSpaces = some (ov_0_count, ov_0_filled, of_0_order, of_0_gone, of_0_starts, of_0_spaces)) : ∀ (H : Heap) (locs : List Loc) (ls : Array Slot), va_P (dC, dI) vwCl (wl_Ri_follow a_0 a_0_order a_0_gone a_0_starts a_0_spaces a_1 a_1_sidesOut a_1_begins a_1_directions a_1_leftSpaces b_1_pointX b_1_pointY b_1_looseSides b_1_pieceLine b_1_weights b_1_pointAt cI cZ v_0_count v_0_filled f_0_order f_0_gone f_0_starts f_0_spaces v_1_points v_1_pieces v_1_looseEnds f_1_sidesOut f_1_begins f_1_directions f_1_leftSpaces) H → va_D A (wl_Ri_follow a_0 a_0_order a_0_gone a_0_starts a_0_spaces a_1 a_1_sidesOut a_1_begins a_1_directions a_1_leftSpaces b_1_pointX b_1_pointY b_1_looseSides b_1_pieceLine b_1_weights b_1_pointAt cI cZ v_0_count v_0_filled f_0_order f_0_gone f_0_starts f_0_spaces v_1_points v_1_pieces v_1_looseEnds f_1_sidesOut f_1_begins f_1_directions f_1_leftSpaces) → va_S A s.heap H locs → lv_has ls 5 [(0, .ref a_0), (1, .ref a_1)] → W p l e rm_Ri_follow s m args below meth c H locs 0 0 Q (F0 m 0 ls []) := by
  intro H locs ls hP hD hS hl
  unfold m_Ri_follow at hm
  refine lv_aload_n hx hb d_Ri_follow_0 rfl (lv_at hl 0 rfl) ?_
  refine lv_iconst (v := 0) hx hb d_Ri_follow_1 (by decide) ?_
  refine va_put (D := (dC, dI)) (ci := 4) (v := .int 0) (ty := .int) (C := "SpaceCycles$Rings") (T := F_Ri) (N := 6) hx hb hts (in_F i_Ri) t_Ri t_Ri_ok n_Ri hown hK hP hD hS 0 rfl rfl 4 (by decide) (hts _ (in_c k_222)) (fun _ h9 => h9) rfl (by decide +kernel) rfl rfl (Nat.le_of_ble_eq_true rfl) d_Ri_follow_2 (fun H locs hP hD hS => ?_)
  have hP : va_P (dC, dI) vwCl (wl_Ri_follow a_0 a_0_order a_0_gone a_0_starts a_0_spaces a_1 a_1_sidesOut a_1_begins a_1_directions a_1_leftSpaces b_1_pointX b_1_pointY b_1_looseSides b_1_pieceLine b_1_weights b_1_pointAt cI cZ 0 v_0_filled f_0_order f_0_gone f_0_starts f_0_spaces v_1_points v_1_pieces v_1_looseEnds f_1_sidesOut f_1_begins f_1_directions f_1_leftSpaces) H := hP
  have hD : va_D A (wl_Ri_follow a_0 a_0_order a_0_gone a_0_starts a_0_spaces a_1 a_1_sidesOut a_1_begins a_1_directions a_1_leftSpaces b_1_pointX b_1_pointY b_1_looseSides b_1_pieceLine b_1_weights b_1_pointAt cI cZ 0 v_0_filled f_0_order f_0_gone f_0_starts f_0_spaces v_1_points v_1_pieces v_1_looseEnds f_1_sidesOut f_1_begins f_1_directions f_1_leftSpaces) := hD
  refine lv_aload_n hx hb d_Ri_follow_5 rfl (lv_at hl 0 rfl) ?_
  refine lv_iconst (v := 0) hx hb d_Ri_follow_6 (by decide) ?_
  refine va_put (D := (dC, dI)) (ci := 4) (v := .int 0) (ty := .int) (C := "SpaceCycles$Rings") (T := F_Ri) (N := 6) hx hb hts (in_F i_Ri) t_Ri t_Ri_ok n_Ri hown hK hP hD hS 0 rfl rfl 5 (by decide) (hts _ (in_c k_228)) (fun _ h9 => h9) rfl (by decide +kernel) rfl rfl (Nat.le_of_ble_eq_true rfl) d_Ri_follow_7 (fun H locs hP hD hS => ?_)
  have hP : va_P (dC, dI) vwCl (wl_Ri_follow a_0 a_0_order a_0_gone a_0_starts a_0_spaces a_1 a_1_sidesOut a_1_begins a_1_directions a_1_leftSpaces b_1_pointX b_1_pointY b_1_looseSides b_1_pieceLine b_1_weights b_1_pointAt cI cZ 0 0 f_0_order f_0_gone f_0_starts f_0_spaces v_1_points v_1_pieces v_1_looseEnds f_1_sidesOut f_1_begins f_1_directions f_1_leftSpaces) H := hP
  have hD : va_D A (wl_Ri_follow a_0 a_0_order a_0_gone a_0_starts a_0_spaces a_1 a_1_sidesOut a_1_begins a_1_directions a_1_leftSpaces b_1_pointX b_1_pointY b_1_looseSides b_1_pieceLine b_1_weights b_1_pointAt cI cZ 0 0 f_0_order f_0_gone f_0_starts f_0_spaces v_1_points v_1_pieces v_1_looseEnds f_1_sidesOut f_1_begins f_1_directions f_1_leftSpaces) := hD
  refine lv_iconst (v := 0) hx hb d_Ri_follow_10 (by decide) ?_
  refine lv_istore_n (lv' := [(2, .int 0), (0, .ref a_0), (1, .ref a_1)]) hx hb d_Ri_follow_11 rfl hl (by decide) rfl (fun ls hl => ?_)
  have L12_4 : ∀ (n : Nat) (x1 : Int32) (f2 : Nat → Int32) (f3 : Nat → Int32), m_Ri_follow_L12 v_1_pieces n x1 f2 = some f3 → (∀ (H : Heap) (locs : List Loc) (ls : Array Slot), va_P (dC, dI) vwCl (wl_Ri_follow a_0 a_0_order a_0_gone a_0_starts a_0_spaces a_1 a_1_sidesOut a_1_begins a_1_directions a_1_leftSpaces b_1_pointX b_1_pointY b_1_looseSides b_1_pieceLine b_1_weights b_1_pointAt cI cZ 0 0 f_0_order f3 f_0_starts f_0_spaces v_1_points v_1_pieces v_1_looseEnds f_1_sidesOut f_1_begins f_1_directions f_1_leftSpaces) H → va_D A (wl_Ri_follow a_0 a_0_order a_0_gone a_0_starts a_0_spaces a_1 a_1_sidesOut a_1_begins a_1_directions a_1_leftSpaces b_1_pointX b_1_pointY b_1_looseSides b_1_pieceLine b_1_weights b_1_pointAt cI cZ 0 0 f_0_order f3 f_0_starts f_0_spaces v_1_points v_1_pieces v_1_looseEnds f_1_sidesOut f_1_begins f_1_directions f_1_leftSpaces) → va_S A s.heap H locs → lv_has ls 5 [(0, .ref a_0), (1, .ref a_1)] → W p l e rm_Ri_follow s m args below meth c H locs 0 0 Q (F0 m 35 ls [])) → ∀ (H : Heap) (locs : List Loc) (ls : Array Slot), va_P (dC, dI) vwCl (wl_Ri_follow a_0 a_0_order a_0_gone a_0_starts a_0_spaces a_1 a_1_sidesOut a_1_begins a_1_directions a_1_leftSpaces b_1_pointX b_1_pointY b_1_looseSides b_1_pieceLine b_1_weights b_1_pointAt cI cZ 0 0 f_0_order f2 f_0_starts f_0_spaces v_1_points v_1_pieces v_1_looseEnds f_1_sidesOut f_1_begins f_1_directions f_1_leftSpaces) H → va_D A (wl_Ri_follow a_0 a_0_order a_0_gone a_0_starts a_0_spaces a_1 a_1_sidesOut a_1_begins a_1_directions a_1_leftSpaces b_1_pointX b_1_pointY b_1_looseSides b_1_pieceLine b_1_weights b_1_pointAt cI cZ 0 0 f_0_order f2 f_0_starts f_0_spaces v_1_points v_1_pieces v_1_looseEnds f_1_sidesOut f_1_begins f_1_directions f_1_leftSpaces) → va_S A s.heap H locs → lv_has ls 5 [(0, .ref a_0), (1, .ref a_1), (2, .int x1)] → W p l e rm_Ri_follow s m args below meth c H locs 0 0 Q (F0 m 12 ls []) := by
    intro n
    induction n with
    | zero => intro x1 f2 f3 hm; simp [m_Ri_follow_L12] at hm
    | succ n ih =>
      intro x1 f2 f3 hm KE H locs ls hP hD hS hl
      rw [m_Ri_follow_L12] at hm
      refine lv_iload_n hx hb d_Ri_follow_12 rfl (lv_at hl 2 rfl) ?_
      refine lv_iconst (v := 2) hx hb d_Ri_follow_13 (by decide) ?_
      refine lv_aload_n hx hb d_Ri_follow_14 rfl (lv_at hl 1 rfl) ?_
      refine va_get (D := (dC, dI)) (ci := 3) (v := .int v_1_pieces) (C := "SpaceCycles$Net") (T := F_Ne) (N := 13) hx hb hts (in_F i_Ne) hown hK hP 5 rfl rfl 4 (by decide) (hts _ (in_c k_229)) (fun _ h9 => h9) rfl d_Ri_follow_15 ?_
      refine lv_imul hx hb d_Ri_follow_18 ?_
      refine lv_icmp_ge (tgt := 35) hx hb d_Ri_follow_19 (by decide) (fun c5 => ?_) (fun c5 => ?_)
      · replace hm := if_t hm c5
        cases hm
        exact KE H locs ls hP hD hS (lv_sub hl [0, 1] rfl)
      · replace hm := if_f hm c5
        refine lv_aload_n hx hb d_Ri_follow_22 rfl (lv_at hl 0 rfl) ?_
        refine va_get (D := (dC, dI)) (ci := 4) (v := .ref a_0_gone) (C := "SpaceCycles$Rings") (T := F_Ri) (N := 6) hx hb hts (in_F i_Ri) hown hK hP 0 rfl rfl 1 (by decide) (hts _ (in_c k_230)) (fun _ h9 => h9) rfl d_Ri_follow_23 ?_
        refine lv_iload_n hx hb d_Ri_follow_26 rfl (lv_at hl 2 rfl) ?_
        refine lv_iconst (v := 0) hx hb d_Ri_follow_27 (by decide) ?_
        obtain ⟨hi6, hm⟩ := gI_e hm
        obtain ⟨f7, ef7⟩ : ∃ y : Nat → Int32, y = upd f2 x1.toNatClampNeg (vp_nar .boolean 0) := ⟨_, rfl⟩
        replace hm := lt_el hm ef7
        refine va_zast hx hb hK hP hD hS 2 1 rfl rfl hi6 d_Ri_follow_28 (fun H locs hP hD hS => ?_)
        rw [← ef7] at hP hD
        have hP : va_P (dC, dI) vwCl (wl_Ri_follow a_0 a_0_order a_0_gone a_0_starts a_0_spaces a_1 a_1_sidesOut a_1_begins a_1_directions a_1_leftSpaces b_1_pointX b_1_pointY b_1_looseSides b_1_pieceLine b_1_weights b_1_pointAt cI cZ 0 0 f_0_order f7 f_0_starts f_0_spaces v_1_points v_1_pieces v_1_looseEnds f_1_sidesOut f_1_begins f_1_directions f_1_leftSpaces) H := hP
        have hD : va_D A (wl_Ri_follow a_0 a_0_order a_0_gone a_0_starts a_0_spaces a_1 a_1_sidesOut a_1_begins a_1_directions a_1_leftSpaces b_1_pointX b_1_pointY b_1_looseSides b_1_pieceLine b_1_weights b_1_pointAt cI cZ 0 0 f_0_order f7 f_0_starts f_0_spaces v_1_points v_1_pieces v_1_looseEnds f_1_sidesOut f_1_begins f_1_directions f_1_leftSpaces) := hD
        obtain ⟨x8, ex8⟩ : ∃ y : Int32, y = x1 + 1 := ⟨_, rfl⟩
        replace hm := lt_el hm ex8
        refine lv_iinc (v := x8) (lv' := [(2, .int x8), (0, .ref a_0), (1, .ref a_1)]) hx hb d_Ri_follow_29 hl (k := 2) rfl (by rw [ex8]; rfl) (by decide) rfl (fun ls hl => ?_)
        refine lv_goto (tgt := 12) hx hb d_Ri_follow_32 (by decide) ?_
        exact ih _ _ _ hm KE H locs ls hP hD hS (lv_sub hl [1, 2, 0] rfl)
  obtain ⟨f3, hb9, hm⟩ := bd1_e hm
  refine L12_4 fu _ _ _ hb9 (fun H locs ls hP hD hS hl => ?_) H locs ls hP hD hS (lv_sub hl [1, 2, 0] rfl)
  refine lv_iconst (v := 0) hx hb d_Ri_follow_35 (by decide) ?_
  refine lv_istore_n (lv' := [(2, .int 0), (0, .ref a_0), (1, .ref a_1)]) hx hb d_Ri_follow_36 rfl hl (by decide) rfl (fun ls hl => ?_)
  have L37_23 : ∀ (n : Nat) (x10 : Int32) (x11 : Int32) (x12 : Int32) (f13 : Nat → Int32) (f14 : Nat → Int32) (f15 : Nat → Int32) (f16 : Nat → Int32) (x17 : Int32) (x18 : Int32) (f19 : Nat → Int32) (f20 : Nat → Int32) (f21 : Nat → Int32) (f22 : Nat → Int32), m_Ri_follow_L37 v_1_points v_1_pieces f_1_sidesOut f_1_begins f_1_directions f_1_leftSpaces n x10 x11 x12 f13 f14 f15 f16 = some (x17, x18, f19, f20, f21, f22) → (∀ (H : Heap) (locs : List Loc) (ls : Array Slot), va_P (dC, dI) vwCl (wl_Ri_follow a_0 a_0_order a_0_gone a_0_starts a_0_spaces a_1 a_1_sidesOut a_1_begins a_1_directions a_1_leftSpaces b_1_pointX b_1_pointY b_1_looseSides b_1_pieceLine b_1_weights b_1_pointAt cI cZ x17 x18 f19 f20 f21 f22 v_1_points v_1_pieces v_1_looseEnds f_1_sidesOut f_1_begins f_1_directions f_1_leftSpaces) H → va_D A (wl_Ri_follow a_0 a_0_order a_0_gone a_0_starts a_0_spaces a_1 a_1_sidesOut a_1_begins a_1_directions a_1_leftSpaces b_1_pointX b_1_pointY b_1_looseSides b_1_pieceLine b_1_weights b_1_pointAt cI cZ x17 x18 f19 f20 f21 f22 v_1_points v_1_pieces v_1_looseEnds f_1_sidesOut f_1_begins f_1_directions f_1_leftSpaces) → va_S A s.heap H locs → lv_has ls 5 [] → W p l e rm_Ri_follow s m args below meth c H locs 0 0 Q (F0 m 105 ls [])) → ∀ (H : Heap) (locs : List Loc) (ls : Array Slot), va_P (dC, dI) vwCl (wl_Ri_follow a_0 a_0_order a_0_gone a_0_starts a_0_spaces a_1 a_1_sidesOut a_1_begins a_1_directions a_1_leftSpaces b_1_pointX b_1_pointY b_1_looseSides b_1_pieceLine b_1_weights b_1_pointAt cI cZ x11 x12 f13 f14 f15 f16 v_1_points v_1_pieces v_1_looseEnds f_1_sidesOut f_1_begins f_1_directions f_1_leftSpaces) H → va_D A (wl_Ri_follow a_0 a_0_order a_0_gone a_0_starts a_0_spaces a_1 a_1_sidesOut a_1_begins a_1_directions a_1_leftSpaces b_1_pointX b_1_pointY b_1_looseSides b_1_pieceLine b_1_weights b_1_pointAt cI cZ x11 x12 f13 f14 f15 f16 v_1_points v_1_pieces v_1_looseEnds f_1_sidesOut f_1_begins f_1_directions f_1_leftSpaces) → va_S A s.heap H locs → lv_has ls 5 [(0, .ref a_0), (1, .ref a_1), (2, .int x10)] → W p l e rm_Ri_follow s m args below meth c H locs 0 0 Q (F0 m 37 ls []) := by
    intro n
    induction n with
    | zero => intro x10 x11 x12 f13 f14 f15 f16 x17 x18 f19 f20 f21 f22 hm; simp [m_Ri_follow_L37] at hm
    | succ n ih =>
      intro x10 x11 x12 f13 f14 f15 f16 x17 x18 f19 f20 f21 f22 hm KE H locs ls hP hD hS hl
      rw [m_Ri_follow_L37] at hm
      refine lv_iload_n hx hb d_Ri_follow_37 rfl (lv_at hl 2 rfl) ?_
      refine lv_aload_n hx hb d_Ri_follow_38 rfl (lv_at hl 1 rfl) ?_
      refine va_get (D := (dC, dI)) (ci := 3) (v := .int v_1_points) (C := "SpaceCycles$Net") (T := F_Ne) (N := 13) hx hb hts (in_F i_Ne) hown hK hP 5 rfl rfl 3 (by decide) (hts _ (in_c k_236)) (fun _ h9 => h9) rfl d_Ri_follow_39 ?_
      refine lv_icmp_ge (tgt := 105) hx hb d_Ri_follow_42 (by decide) (fun c24 => ?_) (fun c24 => ?_)
      · replace hm := if_t hm c24
        cases hm
        exact KE H locs ls hP hD hS (lv_sub hl [] rfl)
      · replace hm := if_f hm c24
        refine lv_iconst (v := 0) hx hb d_Ri_follow_45 (by decide) ?_
        refine lv_istore_n (lv' := [(3, .int 0), (0, .ref a_0), (1, .ref a_1), (2, .int x10)]) hx hb d_Ri_follow_46 rfl hl (by decide) rfl (fun ls hl => ?_)
        have L47_38 : ∀ (n : Nat) (x25 : Int32) (x26 : Int32) (x27 : Int32) (f28 : Nat → Int32) (f29 : Nat → Int32) (f30 : Nat → Int32) (f31 : Nat → Int32) (x32 : Int32) (x33 : Int32) (f34 : Nat → Int32) (f35 : Nat → Int32) (f36 : Nat → Int32) (f37 : Nat → Int32), m_Ri_follow_L47 x10 v_1_pieces f_1_sidesOut f_1_begins f_1_directions f_1_leftSpaces n x25 x26 x27 f28 f29 f30 f31 = some (x32, x33, f34, f35, f36, f37) → (∀ (H : Heap) (locs : List Loc) (ls : Array Slot), va_P (dC, dI) vwCl (wl_Ri_follow a_0 a_0_order a_0_gone a_0_starts a_0_spaces a_1 a_1_sidesOut a_1_begins a_1_directions a_1_leftSpaces b_1_pointX b_1_pointY b_1_looseSides b_1_pieceLine b_1_weights b_1_pointAt cI cZ x32 x33 f34 f35 f36 f37 v_1_points v_1_pieces v_1_looseEnds f_1_sidesOut f_1_begins f_1_directions f_1_leftSpaces) H → va_D A (wl_Ri_follow a_0 a_0_order a_0_gone a_0_starts a_0_spaces a_1 a_1_sidesOut a_1_begins a_1_directions a_1_leftSpaces b_1_pointX b_1_pointY b_1_looseSides b_1_pieceLine b_1_weights b_1_pointAt cI cZ x32 x33 f34 f35 f36 f37 v_1_points v_1_pieces v_1_looseEnds f_1_sidesOut f_1_begins f_1_directions f_1_leftSpaces) → va_S A s.heap H locs → lv_has ls 5 [(0, .ref a_0), (1, .ref a_1), (2, .int x10)] → W p l e rm_Ri_follow s m args below meth c H locs 0 0 Q (F0 m 99 ls [])) → ∀ (H : Heap) (locs : List Loc) (ls : Array Slot), va_P (dC, dI) vwCl (wl_Ri_follow a_0 a_0_order a_0_gone a_0_starts a_0_spaces a_1 a_1_sidesOut a_1_begins a_1_directions a_1_leftSpaces b_1_pointX b_1_pointY b_1_looseSides b_1_pieceLine b_1_weights b_1_pointAt cI cZ x26 x27 f28 f29 f30 f31 v_1_points v_1_pieces v_1_looseEnds f_1_sidesOut f_1_begins f_1_directions f_1_leftSpaces) H → va_D A (wl_Ri_follow a_0 a_0_order a_0_gone a_0_starts a_0_spaces a_1 a_1_sidesOut a_1_begins a_1_directions a_1_leftSpaces b_1_pointX b_1_pointY b_1_looseSides b_1_pieceLine b_1_weights b_1_pointAt cI cZ x26 x27 f28 f29 f30 f31 v_1_points v_1_pieces v_1_looseEnds f_1_sidesOut f_1_begins f_1_directions f_1_leftSpaces) → va_S A s.heap H locs → lv_has ls 5 [(0, .ref a_0), (1, .ref a_1), (2, .int x10), (3, .int x25)] → W p l e rm_Ri_follow s m args below meth c H locs 0 0 Q (F0 m 47 ls []) := by
          intro n
          induction n with
          | zero => intro x25 x26 x27 f28 f29 f30 f31 x32 x33 f34 f35 f36 f37 hm; simp [m_Ri_follow_L47] at hm
          | succ n ih =>
            intro x25 x26 x27 f28 f29 f30 f31 x32 x33 f34 f35 f36 f37 hm KE H locs ls hP hD hS hl
            rw [m_Ri_follow_L47] at hm
            refine lv_iload_n hx hb d_Ri_follow_47 rfl (lv_at hl 3 rfl) ?_
            refine lv_iconst (v := 4) hx hb d_Ri_follow_48 (by decide) ?_
            refine lv_icmp_ge (tgt := 99) hx hb d_Ri_follow_49 (by decide) (fun c39 => ?_) (fun c39 => ?_)
            · replace hm := if_t hm c39
              cases hm
              exact KE H locs ls hP hD hS (lv_sub hl [0, 1, 2] rfl)
            · replace hm := if_f hm c39
              refine lv_aload_n hx hb d_Ri_follow_52 rfl (lv_at hl 1 rfl) ?_
              refine lv_iload_n hx hb d_Ri_follow_53 rfl (lv_at hl 2 rfl) ?_
              refine lv_iload_n hx hb d_Ri_follow_54 rfl (lv_at hl 3 rfl) ?_
              obtain ⟨r40, hb41, hm⟩ := bd1_e hm
              have hPc := hP.sub (ws' := (wl_Ne_sideFrom a_1 a_1_sidesOut b_1_pointX b_1_pointY b_1_looseSides b_1_pieceLine a_1_begins a_1_directions a_1_leftSpaces b_1_weights b_1_pointAt cI v_1_points v_1_pieces v_1_looseEnds f_1_sidesOut)) [5, 6] rfl
              have hDc := hD.sub (ws' := (wl_Ne_sideFrom a_1 a_1_sidesOut b_1_pointX b_1_pointY b_1_looseSides b_1_pieceLine a_1_begins a_1_directions a_1_leftSpaces b_1_weights b_1_pointAt cI v_1_points v_1_pieces v_1_looseEnds f_1_sidesOut)) [5, 6] (by decide) rfl
              refine cl_i (wc' := (wl_Ne_sideFrom a_1 a_1_sidesOut b_1_pointX b_1_pointY b_1_looseSides b_1_pieceLine a_1_begins a_1_directions a_1_leftSpaces b_1_weights b_1_pointAt cI v_1_points v_1_pieces v_1_looseEnds f_1_sidesOut)) (va_runV (As := [.int x10, .int x25]) (rest := []) ⟨hx, hb, hml, hown, hts⟩ (c_Ne_sideFrom l dC dI (cI := cI) (cZ := cZ) (cJ := cJ) a_1 a_1_sidesOut b_1_pointX b_1_pointY b_1_looseSides b_1_pieceLine a_1_begins a_1_directions a_1_leftSpaces b_1_weights b_1_pointAt H.size v_1_points v_1_pieces v_1_looseEnds f_1_sidesOut x10 x25 r40 hb41) (cwV 2 hts (gl_V k_237 k_168 k_167 k_145 k_166) rfl rfl rfl (by decide +kernel) ⟨Nat.le_of_ble_eq_true rfl, Nat.le_of_ble_eq_true rfl⟩) ⟨PP_blind, va_recv hK hPc (ci := 3) (q0 := 0) rfl rfl, fun U hU hW => PP_at hK hN hPc hDc hU hW⟩ rfl rfl hl.1 rfl (lv_room (Nat.le_of_ble_eq_true rfl)) d_Ri_follow_55 ⟨Nat.zero_le _, Nat.zero_le _⟩) hP hD hS hA [5, 6] [0, 1, 2, 3, 4, 7, 8, 9] rfl rfl (by decide) (by decide) (fun H locs hP hD hS => ?_)
              have hP : va_P (dC, dI) vwCl (wl_Ri_follow a_0 a_0_order a_0_gone a_0_starts a_0_spaces a_1 a_1_sidesOut a_1_begins a_1_directions a_1_leftSpaces b_1_pointX b_1_pointY b_1_looseSides b_1_pieceLine b_1_weights b_1_pointAt cI cZ x26 x27 f28 f29 f30 f31 v_1_points v_1_pieces v_1_looseEnds f_1_sidesOut f_1_begins f_1_directions f_1_leftSpaces) H := hP.sub [0, 1, 2, 3, 4, 8, 9, 5, 6, 7] rfl
              have hD : va_D A (wl_Ri_follow a_0 a_0_order a_0_gone a_0_starts a_0_spaces a_1 a_1_sidesOut a_1_begins a_1_directions a_1_leftSpaces b_1_pointX b_1_pointY b_1_looseSides b_1_pieceLine b_1_weights b_1_pointAt cI cZ x26 x27 f28 f29 f30 f31 v_1_points v_1_pieces v_1_looseEnds f_1_sidesOut f_1_begins f_1_directions f_1_leftSpaces) := hD.sub [0, 1, 2, 3, 4, 8, 9, 5, 6, 7] (by decide) rfl
              refine lv_istore (lv' := [(4, .int r40), (0, .ref a_0), (1, .ref a_1), (2, .int x10), (3, .int x25)]) hx hb d_Ri_follow_58 hl (by decide) rfl (fun ls hl => ?_)
              refine lv_iload hx hb d_Ri_follow_60 (lv_at hl 0 rfl) ?_
              refine lv_iconst (v := (-1)) hx hb d_Ri_follow_62 (by decide) ?_
              obtain ⟨x45, x46, f47, f48, f49, f50, hb43, hm⟩ := bd6_e hm
              have K42 : ∀ (H : Heap) (locs : List Loc) (ls : Array Slot), va_P (dC, dI) vwCl (wl_Ri_follow a_0 a_0_order a_0_gone a_0_starts a_0_spaces a_1 a_1_sidesOut a_1_begins a_1_directions a_1_leftSpaces b_1_pointX b_1_pointY b_1_looseSides b_1_pieceLine b_1_weights b_1_pointAt cI cZ x45 x46 f47 f48 f49 f50 v_1_points v_1_pieces v_1_looseEnds f_1_sidesOut f_1_begins f_1_directions f_1_leftSpaces) H → va_D A (wl_Ri_follow a_0 a_0_order a_0_gone a_0_starts a_0_spaces a_1 a_1_sidesOut a_1_begins a_1_directions a_1_leftSpaces b_1_pointX b_1_pointY b_1_looseSides b_1_pieceLine b_1_weights b_1_pointAt cI cZ x45 x46 f47 f48 f49 f50 v_1_points v_1_pieces v_1_looseEnds f_1_sidesOut f_1_begins f_1_directions f_1_leftSpaces) → va_S A s.heap H locs → lv_has ls 5 [(0, .ref a_0), (1, .ref a_1), (2, .int x10), (3, .int x25)] → W p l e rm_Ri_follow s m args below meth c H locs 0 0 Q (F0 m 93 ls []) := by
                intro H locs ls hP hD hS hl
                obtain ⟨x62, ex62⟩ : ∃ y : Int32, y = x25 + 1 := ⟨_, rfl⟩
                replace hm := lt_el hm ex62
                refine lv_iinc (v := x62) (lv' := [(3, .int x62), (0, .ref a_0), (1, .ref a_1), (2, .int x10)]) hx hb d_Ri_follow_93 hl (k := 3) rfl (by rw [ex62]; rfl) (by decide) rfl (fun ls hl => ?_)
                refine lv_goto (tgt := 47) hx hb d_Ri_follow_96 (by decide) ?_
                exact ih _ _ _ _ _ _ _ _ _ _ _ _ _ hm KE H locs ls hP hD hS (lv_sub hl [1, 2, 3, 0] rfl)
              replace hm := hb43
              refine lv_icmp_eq (tgt := 93) hx hb d_Ri_follow_63 (by decide) (fun c51 => ?_) (fun c51 => ?_)
              · replace hm := if_t hm c51
                cases hm
                exact K42 H locs ls hP hD hS (lv_sub hl [1, 2, 3, 4] rfl)
              · replace hm := if_f hm c51
                refine lv_aload_n hx hb d_Ri_follow_66 rfl (lv_at hl 1 rfl) ?_
                refine va_get (D := (dC, dI)) (ci := 4) (v := .ref a_0_gone) (C := "SpaceCycles$Rings") (T := F_Ri) (N := 6) hx hb hts (in_F i_Ri) hown hK hP 0 rfl rfl 1 (by decide) (hts _ (in_c k_230)) (fun _ h9 => h9) rfl d_Ri_follow_67 ?_
                refine lv_iload hx hb d_Ri_follow_70 (lv_at hl 0 rfl) ?_
                obtain ⟨hi52, hm⟩ := gI_e hm
                refine va_zald hx hb hK hP 2 1 rfl rfl hi52 d_Ri_follow_72 ?_
                refine lv_if_ne (tgt := 93) hx hb d_Ri_follow_73 (by decide) (fun c53 => ?_) (fun c53 => ?_)
                · replace hm := if_f hm c53
                  cases hm
                  exact K42 H locs ls hP hD hS (lv_sub hl [1, 2, 3, 4] rfl)
                · replace hm := if_t hm c53
                  refine lv_aload_n hx hb d_Ri_follow_76 rfl (lv_at hl 1 rfl) ?_
                  refine va_get (D := (dC, dI)) (ci := 4) (v := .int x26) (C := "SpaceCycles$Rings") (T := F_Ri) (N := 6) hx hb hts (in_F i_Ri) hown hK hP 0 rfl rfl 4 (by decide) (hts _ (in_c k_222)) (fun _ h9 => h9) rfl d_Ri_follow_77 ?_
                  refine lv_sipush (v := 220) hx hb d_Ri_follow_80 (by decide) ?_
                  refine lv_icmp_ge (tgt := 93) hx hb d_Ri_follow_83 (by decide) (fun c54 => ?_) (fun c54 => ?_)
                  · replace hm := if_t hm c54
                    cases hm
                    exact K42 H locs ls hP hD hS (lv_sub hl [1, 2, 3, 4] rfl)
                  · replace hm := if_f hm c54
                    refine lv_aload_n hx hb d_Ri_follow_86 rfl (lv_at hl 1 rfl) ?_
                    refine lv_aload_n hx hb d_Ri_follow_87 rfl (lv_at hl 2 rfl) ?_
                    refine lv_iload hx hb d_Ri_follow_88 (lv_at hl 0 rfl) ?_
                    obtain ⟨x55, x56, f57, f58, f59, f60, hb61, hm⟩ := bd6_e hm
                    have hPc := hP.sub (ws' := (wl_Ri_goRound a_0 a_0_order a_0_gone a_0_starts a_0_spaces a_1 a_1_sidesOut a_1_begins a_1_directions a_1_leftSpaces b_1_pointX b_1_pointY b_1_looseSides b_1_pieceLine b_1_weights b_1_pointAt cI cZ x26 x27 f28 f29 f30 f31 v_1_points v_1_pieces v_1_looseEnds f_1_sidesOut f_1_begins f_1_directions f_1_leftSpaces)) [0, 1, 2, 3, 4, 5, 6, 7, 8, 9] rfl
                    have hDc := hD.sub (ws' := (wl_Ri_goRound a_0 a_0_order a_0_gone a_0_starts a_0_spaces a_1 a_1_sidesOut a_1_begins a_1_directions a_1_leftSpaces b_1_pointX b_1_pointY b_1_looseSides b_1_pieceLine b_1_weights b_1_pointAt cI cZ x26 x27 f28 f29 f30 f31 v_1_points v_1_pieces v_1_looseEnds f_1_sidesOut f_1_begins f_1_directions f_1_leftSpaces)) [0, 1, 2, 3, 4, 5, 6, 7, 8, 9] (by decide) rfl
                    refine cl_v (wc' := (wl_Ri_goRound a_0 a_0_order a_0_gone a_0_starts a_0_spaces a_1 a_1_sidesOut a_1_begins a_1_directions a_1_leftSpaces b_1_pointX b_1_pointY b_1_looseSides b_1_pieceLine b_1_weights b_1_pointAt cI cZ x55 x56 f57 f58 f59 f60 v_1_points v_1_pieces v_1_looseEnds f_1_sidesOut f_1_begins f_1_directions f_1_leftSpaces)) (va_runV (As := [.ref a_1, .int r40]) (rest := []) ⟨hx, hb, hml, hown, hts⟩ (c_Ri_goRound l dC dI (cI := cI) (cZ := cZ) (cJ := cJ) a_0 a_0_order a_0_gone a_0_starts a_0_spaces a_1 a_1_sidesOut a_1_begins a_1_directions a_1_leftSpaces b_1_pointX b_1_pointY b_1_looseSides b_1_pieceLine b_1_weights b_1_pointAt H.size x26 x27 f28 f29 f30 f31 v_1_points v_1_pieces v_1_looseEnds f_1_sidesOut f_1_begins f_1_directions f_1_leftSpaces r40 x55 x56 f57 f58 f59 f60 hb61) (cwV 2 hts (gl_V k_242 k_240 k_239 k_241 k_238) rfl rfl rfl (by decide +kernel) ⟨Nat.le_of_ble_eq_true rfl, Nat.le_of_ble_eq_true rfl⟩) ⟨PP_blind, va_recv hK hPc (ci := 4) (q0 := 0) rfl rfl, fun U hU hW => PP_at hK hN hPc hDc hU hW⟩ rfl rfl hl.1 rfl (lv_room (Nat.le_of_ble_eq_true rfl)) d_Ri_follow_90 ⟨Nat.zero_le _, Nat.zero_le _⟩) hP hD hS hA [0, 1, 2, 3, 4, 5, 6, 7, 8, 9] [] rfl rfl (by decide) (by decide) (fun H locs hP hD hS => ?_)
                    have hP : va_P (dC, dI) vwCl (wl_Ri_follow a_0 a_0_order a_0_gone a_0_starts a_0_spaces a_1 a_1_sidesOut a_1_begins a_1_directions a_1_leftSpaces b_1_pointX b_1_pointY b_1_looseSides b_1_pieceLine b_1_weights b_1_pointAt cI cZ x55 x56 f57 f58 f59 f60 v_1_points v_1_pieces v_1_looseEnds f_1_sidesOut f_1_begins f_1_directions f_1_leftSpaces) H := hP.sub [0, 1, 2, 3, 4, 5, 6, 7, 8, 9] rfl
                    have hD : va_D A (wl_Ri_follow a_0 a_0_order a_0_gone a_0_starts a_0_spaces a_1 a_1_sidesOut a_1_begins a_1_directions a_1_leftSpaces b_1_pointX b_1_pointY b_1_looseSides b_1_pieceLine b_1_weights b_1_pointAt cI cZ x55 x56 f57 f58 f59 f60 v_1_points v_1_pieces v_1_looseEnds f_1_sidesOut f_1_begins f_1_directions f_1_leftSpaces) := hD.sub [0, 1, 2, 3, 4, 5, 6, 7, 8, 9] (by decide) rfl
                    cases hm
                    exact K42 H locs ls hP hD hS (lv_sub hl [1, 2, 3, 4] rfl)
        obtain ⟨x32, x33, f34, f35, f36, f37, hb63, hm⟩ := bd6_e hm
        refine L47_38 fu _ _ _ _ _ _ _ _ _ _ _ _ _ hb63 (fun H locs ls hP hD hS hl => ?_) H locs ls hP hD hS (lv_sub hl [1, 2, 3, 0] rfl)
        obtain ⟨x64, ex64⟩ : ∃ y : Int32, y = x10 + 1 := ⟨_, rfl⟩
        replace hm := lt_el hm ex64
        refine lv_iinc (v := x64) (lv' := [(2, .int x64), (0, .ref a_0), (1, .ref a_1)]) hx hb d_Ri_follow_99 hl (k := 2) rfl (by rw [ex64]; rfl) (by decide) rfl (fun ls hl => ?_)
        refine lv_goto (tgt := 37) hx hb d_Ri_follow_102 (by decide) ?_
        exact ih _ _ _ _ _ _ _ _ _ _ _ _ _ hm KE H locs ls hP hD hS (lv_sub hl [1, 2, 0] rfl)
  obtain ⟨x17, x18, f19, f20, f21, f22, hb65, hm⟩ := bd6_e hm
  refine L37_23 fu _ _ _ _ _ _ _ _ _ _ _ _ _ hb65 (fun H locs ls hP hD hS hl => ?_) H locs ls hP hD hS (lv_sub hl [1, 2, 0] rfl)
  cases hm
  exact hret _ H locs ls d_Ri_follow_105 hP hD hS
set_option maxHeartbeats 4000000 in
set_option maxRecDepth 100000 in
theorem c_Ri_follow (l : Launch) (dC : Nat → ClassId) (dI : Nat → Nat → Nat) {cI cZ cJ : ClassId} (a_0 a_0_order a_0_gone a_0_starts a_0_spaces a_1 a_1_sidesOut a_1_begins a_1_directions a_1_leftSpaces b_1_pointX b_1_pointY b_1_looseSides b_1_pieceLine b_1_weights b_1_pointAt : Nat) (sz : Nat) (v_0_count : Int32) (v_0_filled : Int32) (f_0_order : Nat → Int32) (f_0_gone : Nat → Int32) (f_0_starts : Nat → Int32) (f_0_spaces : Nat → Int32) (v_1_points : Int32) (v_1_pieces : Int32) (v_1_looseEnds : Int32) (f_1_sidesOut : Nat → Int32) (f_1_begins : Nat → Int32) (f_1_directions : Nat → Int32) (f_1_leftSpaces : Nat → Int32)  (ov_0_count : Int32) (ov_0_filled : Int32) (of_0_order : Nat → Int32) (of_0_gone : Nat → Int32) (of_0_starts : Nat → Int32) (of_0_spaces : Nat → Int32) (hm : m_Ri_follow v_0_count v_0_filled f_0_order f_0_gone f_0_starts f_0_spaces v_1_points v_1_pieces f_1_sidesOut f_1_begins f_1_directions f_1_leftSpaces = some (ov_0_count, ov_0_filled, of_0_order, of_0_gone, of_0_starts, of_0_spaces)) : Met l y_Ri_follow w_Ri_follow rm_Ri_follow (PP dC dI [(cI, .int), (cZ, .boolean), (cJ, .long)] [.ref a_0, .ref a_1] sz (wl_Ri_follow a_0 a_0_order a_0_gone a_0_starts a_0_spaces a_1 a_1_sidesOut a_1_begins a_1_directions a_1_leftSpaces b_1_pointX b_1_pointY b_1_looseSides b_1_pieceLine b_1_weights b_1_pointAt cI cZ v_0_count v_0_filled f_0_order f_0_gone f_0_starts f_0_spaces v_1_points v_1_pieces v_1_looseEnds f_1_sidesOut f_1_begins f_1_directions f_1_leftSpaces)) (QV dC dI [(cI, .int), (cZ, .boolean), (cJ, .long)] sz (wl_Ri_follow a_0 a_0_order a_0_gone a_0_starts a_0_spaces a_1 a_1_sidesOut a_1_begins a_1_directions a_1_leftSpaces b_1_pointX b_1_pointY b_1_looseSides b_1_pieceLine b_1_weights b_1_pointAt cI cZ v_0_count v_0_filled f_0_order f_0_gone f_0_starts f_0_spaces v_1_points v_1_pieces v_1_looseEnds f_1_sidesOut f_1_begins f_1_directions f_1_leftSpaces) (wl_Ri_follow a_0 a_0_order a_0_gone a_0_starts a_0_spaces a_1 a_1_sidesOut a_1_begins a_1_directions a_1_leftSpaces b_1_pointX b_1_pointY b_1_looseSides b_1_pieceLine b_1_weights b_1_pointAt cI cZ ov_0_count ov_0_filled of_0_order of_0_gone of_0_starts of_0_spaces v_1_points v_1_pieces v_1_looseEnds f_1_sidesOut f_1_begins f_1_directions f_1_leftSpaces)) 0 0 (va_A (wl_Ri_follow a_0 a_0_order a_0_gone a_0_starts a_0_spaces a_1 a_1_sidesOut a_1_begins a_1_directions a_1_leftSpaces b_1_pointX b_1_pointY b_1_looseSides b_1_pieceLine b_1_weights b_1_pointAt cI cZ v_0_count v_0_filled f_0_order f_0_gone f_0_starts f_0_spaces v_1_points v_1_pieces v_1_looseEnds f_1_sidesOut f_1_begins f_1_directions f_1_leftSpaces) sz) := by
  refine Met.ofW (cc := b_Ri_follow) (maxL := 5) (ret := none) (by decide) rfl ?_
  intro p e s m args below meth c s₁ B hml hv
  obtain ⟨rfl, hsz, hP, hK, hD0, hN⟩ := hv
  subst hsz
  have hl := lv_entry ([.ref a_0, .ref a_1]) (n := 5) (Nat.le_of_ble_eq_true rfl)
  rw [lg_entry_eq]
  generalize (lg_sl ([.ref a_0, .ref a_1]) ++ List.replicate (5 - (lg_sl ([.ref a_0, .ref a_1])).length) Slot.unset).toArray = ls at hl ⊢
  exact t_Ri_follow a_0 a_0_order a_0_gone a_0_starts a_0_spaces a_1 a_1_sidesOut a_1_begins a_1_directions a_1_leftSpaces b_1_pointX b_1_pointY b_1_looseSides b_1_pieceLine b_1_weights b_1_pointAt v_0_count v_0_filled f_0_order f_0_gone f_0_starts f_0_spaces v_1_points v_1_pieces v_1_looseEnds f_1_sidesOut f_1_begins f_1_directions f_1_leftSpaces ov_0_count ov_0_filled of_0_order of_0_gone of_0_starts of_0_spaces B.exec B.bytes hml (findClass_of_methodNamed B.named) (atoms_spec (ws := w_Ri_follow) B.pre) hK hN (fun q h => Or.inr h) (fun pc H locs ls hd hP9 hD9 hS => W.vret B.exec B.bytes B.returns (fun t ht hW => ⟨⟨(), rfl, trivial, by rw [ht]; exact hP9, va_K.moved hW.alike hK, hD9⟩, hS.F ht⟩) hS.2.2 hd) hm s.heap [] ls hP hD0.self va_S.rf hl

-- SpaceCycles$Rings.ringsOf(I)I
abbrev b_Ri_ringsOf : ByteArray := prog_9_method_4_code
abbrev y_Ri_ringsOf : MethodName := ⟨"SpaceCycles$Rings", "ringsOf", "(I)I"⟩
abbrev w_Ri_ringsOf : List Cond := Cond.code y_Ri_ringsOf b_Ri_ringsOf 4 (some .int) :: gl
abbrev rm_Ri_ringsOf : Room := { frames := 0, cells := 0, slots := 0, locals := 0 }
theorem d_Ri_ringsOf_0 : decode b_Ri_ringsOf 0 = .ok (.iconst 0, 1) := by decide +kernel
theorem d_Ri_ringsOf_1 : decode b_Ri_ringsOf 1 = .ok (.istore_n 2, 1) := by decide +kernel
theorem d_Ri_ringsOf_2 : decode b_Ri_ringsOf 2 = .ok (.iconst 0, 1) := by decide +kernel
theorem d_Ri_ringsOf_3 : decode b_Ri_ringsOf 3 = .ok (.istore_n 3, 1) := by decide +kernel
theorem d_Ri_ringsOf_4 : decode b_Ri_ringsOf 4 = .ok (.iload_n 3, 1) := by decide +kernel
theorem d_Ri_ringsOf_5 : decode b_Ri_ringsOf 5 = .ok (.aload_n 0, 1) := by decide +kernel
theorem d_Ri_ringsOf_6 : decode b_Ri_ringsOf 6 = .ok (.getfield 25, 3) := by decide +kernel
theorem d_Ri_ringsOf_9 : decode b_Ri_ringsOf 9 = .ok (.if_icmp .ge 22, 3) := by decide +kernel
theorem d_Ri_ringsOf_12 : decode b_Ri_ringsOf 12 = .ok (.aload_n 0, 1) := by decide +kernel
theorem d_Ri_ringsOf_13 : decode b_Ri_ringsOf 13 = .ok (.getfield 22, 3) := by decide +kernel
theorem d_Ri_ringsOf_16 : decode b_Ri_ringsOf 16 = .ok (.iload_n 3, 1) := by decide +kernel
theorem d_Ri_ringsOf_17 : decode b_Ri_ringsOf 17 = .ok (.iaload, 1) := by decide +kernel
theorem d_Ri_ringsOf_18 : decode b_Ri_ringsOf 18 = .ok (.iload_n 1, 1) := by decide +kernel
theorem d_Ri_ringsOf_19 : decode b_Ri_ringsOf 19 = .ok (.if_icmp .ne 6, 3) := by decide +kernel
theorem d_Ri_ringsOf_22 : decode b_Ri_ringsOf 22 = .ok (.iinc 2 1, 3) := by decide +kernel
theorem d_Ri_ringsOf_25 : decode b_Ri_ringsOf 25 = .ok (.iinc 3 1, 3) := by decide +kernel
theorem d_Ri_ringsOf_28 : decode b_Ri_ringsOf 28 = .ok (.goto (-24), 3) := by decide +kernel
theorem d_Ri_ringsOf_31 : decode b_Ri_ringsOf 31 = .ok (.iload_n 2, 1) := by decide +kernel
theorem d_Ri_ringsOf_32 : decode b_Ri_ringsOf 32 = .ok (.ireturn, 1) := by decide +kernel
abbrev wl_Ri_ringsOf (a_0 : Nat) (a_0_spaces : Nat) (b_0_order : Nat) (b_0_gone : Nat) (b_0_starts : Nat) (cI : ClassId) (v_0_count : Int32) (v_0_filled : Int32) (f_0_spaces : Nat → Int32) : va_W := [(a_0, .inr (4, [.ref b_0_order, .ref b_0_gone, .ref b_0_starts, .ref a_0_spaces, .int v_0_count, .int v_0_filled])), (a_0_spaces, .inl (cI, 220, .inl f_0_spaces))]
def m_Ri_ringsOf_L4 (l1 : Int32) (v_0_count : Int32) (f_0_spaces : Nat → Int32) : Nat → Int32 → Int32 → Option (Int32)
  | 0, _, _ => none
  | n + 1, l2, l3 =>
    if v_0_count ≤ l3 then (
      some l2)
    else (
      gI l3 220 <|
      bd1 (
        if (f_0_spaces l3.toNatClampNeg) = l1 then (
        lt_ (l2 + 1) fun x8 =>
        some x8)
      else (
        some l2))
      fun (x6 : Int32) =>
      lt_ (l3 + 1) fun x9 =>
        m_Ri_ringsOf_L4 l1 v_0_count f_0_spaces n x6 x9)
def m_Ri_ringsOf (p1 : Int32) (v_0_count : Int32) (f_0_spaces : Nat → Int32) : Option (Int32) :=
  bd1 (m_Ri_ringsOf_L4 p1 v_0_count f_0_spaces fu 0 0) fun x3 =>
  some x3

set_option maxHeartbeats 4000000 in
set_option maxRecDepth 100000 in
theorem t_Ri_ringsOf {p : Program} {l : Launch} {e : Env} {s : State} {m : MethodId} {args : Array Value} {below : List Frame} {meth : Method} {c : Code} {A : Nat → Prop} {Q : State → Prop} {dC : Nat → ClassId} {dI : Nat → Nat → Nat} {cI cZ cJ : ClassId} (a_0 a_0_spaces b_0_order b_0_gone b_0_starts : Nat) (v_0_count : Int32) (v_0_filled : Int32) (f_0_spaces : Nat → Int32) (p1 : Int32) (R0 : Int32) (hx : p.tables.exec = Jvm.exec) (hb : c.code = b_Ri_ringsOf) (hml : c.maxLocals = 4) (hown : s.vm.findClass "SpaceCycles$Rings" = some m.cls) (hts : ∀ w ∈ w_Ri_ringsOf, w.before args s = true) (hK : va_K (dC, dI) vwCl [(cI, .int), (cZ, .boolean), (cJ, .long)] s) (hN : NX s) (hA : ∀ q : Nat, s.heap.size ≤ q → A q)
    (hret : ∀ (pc : Nat) (H : Heap) (locs : List Loc) (ls : Array Slot), decode b_Ri_ringsOf pc = .ok (.ireturn, 1) → va_P (dC, dI) vwCl (wl_Ri_ringsOf a_0 a_0_spaces b_0_order b_0_gone b_0_starts cI v_0_count v_0_filled f_0_spaces) H → va_D A (wl_Ri_ringsOf a_0 a_0_spaces b_0_order b_0_gone b_0_starts cI v_0_count v_0_filled f_0_spaces) → va_S A s.heap H locs → W p l e rm_Ri_ringsOf s m args below meth c H locs 0 0 Q (F0 m pc ls [.int R0]))
    (hm : m_Ri_ringsOf p1 v_0_count f_0_spaces = some R0) : ∀ (H : Heap) (locs : List Loc) (ls : Array Slot), va_P (dC, dI) vwCl (wl_Ri_ringsOf a_0 a_0_spaces b_0_order b_0_gone b_0_starts cI v_0_count v_0_filled f_0_spaces) H → va_D A (wl_Ri_ringsOf a_0 a_0_spaces b_0_order b_0_gone b_0_starts cI v_0_count v_0_filled f_0_spaces) → va_S A s.heap H locs → lv_has ls 4 [(0, .ref a_0), (1, .int p1)] → W p l e rm_Ri_ringsOf s m args below meth c H locs 0 0 Q (F0 m 0 ls []) := by
  intro H locs ls hP hD hS hl
  unfold m_Ri_ringsOf at hm
  refine lv_iconst (v := 0) hx hb d_Ri_ringsOf_0 (by decide) ?_
  refine lv_istore_n (lv' := [(2, .int 0), (0, .ref a_0), (1, .int p1)]) hx hb d_Ri_ringsOf_1 rfl hl (by decide) rfl (fun ls hl => ?_)
  refine lv_iconst (v := 0) hx hb d_Ri_ringsOf_2 (by decide) ?_
  refine lv_istore_n (lv' := [(3, .int 0), (2, .int 0), (0, .ref a_0), (1, .int p1)]) hx hb d_Ri_ringsOf_3 rfl hl (by decide) rfl (fun ls hl => ?_)
  have L4_4 : ∀ (n : Nat) (x1 : Int32) (x2 : Int32) (x3 : Int32), m_Ri_ringsOf_L4 p1 v_0_count f_0_spaces n x1 x2 = some x3 → (∀ (H : Heap) (locs : List Loc) (ls : Array Slot), va_P (dC, dI) vwCl (wl_Ri_ringsOf a_0 a_0_spaces b_0_order b_0_gone b_0_starts cI v_0_count v_0_filled f_0_spaces) H → va_D A (wl_Ri_ringsOf a_0 a_0_spaces b_0_order b_0_gone b_0_starts cI v_0_count v_0_filled f_0_spaces) → va_S A s.heap H locs → lv_has ls 4 [(2, .int x3)] → W p l e rm_Ri_ringsOf s m args below meth c H locs 0 0 Q (F0 m 31 ls [])) → ∀ (H : Heap) (locs : List Loc) (ls : Array Slot), va_P (dC, dI) vwCl (wl_Ri_ringsOf a_0 a_0_spaces b_0_order b_0_gone b_0_starts cI v_0_count v_0_filled f_0_spaces) H → va_D A (wl_Ri_ringsOf a_0 a_0_spaces b_0_order b_0_gone b_0_starts cI v_0_count v_0_filled f_0_spaces) → va_S A s.heap H locs → lv_has ls 4 [(0, .ref a_0), (1, .int p1), (2, .int x1), (3, .int x2)] → W p l e rm_Ri_ringsOf s m args below meth c H locs 0 0 Q (F0 m 4 ls []) := by
    intro n
    induction n with
    | zero => intro x1 x2 x3 hm; simp [m_Ri_ringsOf_L4] at hm
    | succ n ih =>
      intro x1 x2 x3 hm KE H locs ls hP hD hS hl
      rw [m_Ri_ringsOf_L4] at hm
      refine lv_iload_n hx hb d_Ri_ringsOf_4 rfl (lv_at hl 3 rfl) ?_
      refine lv_aload_n hx hb d_Ri_ringsOf_5 rfl (lv_at hl 0 rfl) ?_
      refine va_get (D := (dC, dI)) (ci := 4) (v := .int v_0_count) (C := "SpaceCycles$Rings") (T := F_Ri) (N := 6) hx hb hts (in_F i_Ri) hown hK hP 0 rfl rfl 4 (by decide) (hts _ (in_c k_222)) (fun _ h9 => h9) rfl d_Ri_ringsOf_6 ?_
      refine lv_icmp_ge (tgt := 31) hx hb d_Ri_ringsOf_9 (by decide) (fun c5 => ?_) (fun c5 => ?_)
      · replace hm := if_t hm c5
        cases hm
        exact KE H locs ls hP hD hS (lv_sub hl [2] rfl)
      · replace hm := if_f hm c5
        refine lv_aload_n hx hb d_Ri_ringsOf_12 rfl (lv_at hl 0 rfl) ?_
        refine va_get (D := (dC, dI)) (ci := 4) (v := .ref a_0_spaces) (C := "SpaceCycles$Rings") (T := F_Ri) (N := 6) hx hb hts (in_F i_Ri) hown hK hP 0 rfl rfl 3 (by decide) (hts _ (in_c k_221)) (fun _ h9 => h9) rfl d_Ri_ringsOf_13 ?_
        refine lv_iload_n hx hb d_Ri_ringsOf_16 rfl (lv_at hl 3 rfl) ?_
        obtain ⟨hi6, hm⟩ := gI_e hm
        refine va_iald hx hb hK hP 1 0 rfl rfl hi6 d_Ri_ringsOf_17 ?_
        refine lv_iload_n hx hb d_Ri_ringsOf_18 rfl (lv_at hl 1 rfl) ?_
        obtain ⟨x10, hb8, hm⟩ := bd1_e hm
        have K7 : ∀ (H : Heap) (locs : List Loc) (ls : Array Slot), va_P (dC, dI) vwCl (wl_Ri_ringsOf a_0 a_0_spaces b_0_order b_0_gone b_0_starts cI v_0_count v_0_filled f_0_spaces) H → va_D A (wl_Ri_ringsOf a_0 a_0_spaces b_0_order b_0_gone b_0_starts cI v_0_count v_0_filled f_0_spaces) → va_S A s.heap H locs → lv_has ls 4 [(0, .ref a_0), (1, .int p1), (2, .int x10), (3, .int x2)] → W p l e rm_Ri_ringsOf s m args below meth c H locs 0 0 Q (F0 m 25 ls []) := by
          intro H locs ls hP hD hS hl
          obtain ⟨x13, ex13⟩ : ∃ y : Int32, y = x2 + 1 := ⟨_, rfl⟩
          replace hm := lt_el hm ex13
          refine lv_iinc (v := x13) (lv' := [(3, .int x13), (0, .ref a_0), (1, .int p1), (2, .int x10)]) hx hb d_Ri_ringsOf_25 hl (k := 3) rfl (by rw [ex13]; rfl) (by decide) rfl (fun ls hl => ?_)
          refine lv_goto (tgt := 4) hx hb d_Ri_ringsOf_28 (by decide) ?_
          exact ih _ _ _ hm KE H locs ls hP hD hS (lv_sub hl [1, 2, 3, 0] rfl)
        replace hm := hb8
        refine lv_icmp_ne (tgt := 25) hx hb d_Ri_ringsOf_19 (by decide) (fun c11 => ?_) (fun c11 => ?_)
        · replace hm := if_f hm c11
          cases hm
          exact K7 H locs ls hP hD hS (lv_sub hl [0, 1, 2, 3] rfl)
        · replace hm := if_t hm c11
          obtain ⟨x12, ex12⟩ : ∃ y : Int32, y = x1 + 1 := ⟨_, rfl⟩
          replace hm := lt_el hm ex12
          refine lv_iinc (v := x12) (lv' := [(2, .int x12), (0, .ref a_0), (1, .int p1), (3, .int x2)]) hx hb d_Ri_ringsOf_22 hl (k := 2) rfl (by rw [ex12]; rfl) (by decide) rfl (fun ls hl => ?_)
          cases hm
          exact K7 H locs ls hP hD hS (lv_sub hl [1, 2, 0, 3] rfl)
  obtain ⟨x3, hb14, hm⟩ := bd1_e hm
  refine L4_4 fu _ _ _ hb14 (fun H locs ls hP hD hS hl => ?_) H locs ls hP hD hS (lv_sub hl [2, 3, 1, 0] rfl)
  refine lv_iload_n hx hb d_Ri_ringsOf_31 rfl (lv_at hl 0 rfl) ?_
  cases hm
  exact hret _ H locs ls d_Ri_ringsOf_32 hP hD hS
set_option maxHeartbeats 4000000 in
set_option maxRecDepth 100000 in
theorem c_Ri_ringsOf (l : Launch) (dC : Nat → ClassId) (dI : Nat → Nat → Nat) {cI cZ cJ : ClassId} (a_0 a_0_spaces b_0_order b_0_gone b_0_starts : Nat) (sz : Nat) (v_0_count : Int32) (v_0_filled : Int32) (f_0_spaces : Nat → Int32) (p1 : Int32) (R0 : Int32) (hm : m_Ri_ringsOf p1 v_0_count f_0_spaces = some R0) : Met l y_Ri_ringsOf w_Ri_ringsOf rm_Ri_ringsOf (PP dC dI [(cI, .int), (cZ, .boolean), (cJ, .long)] [.ref a_0, .int p1] sz (wl_Ri_ringsOf a_0 a_0_spaces b_0_order b_0_gone b_0_starts cI v_0_count v_0_filled f_0_spaces)) (QI dC dI [(cI, .int), (cZ, .boolean), (cJ, .long)] sz (wl_Ri_ringsOf a_0 a_0_spaces b_0_order b_0_gone b_0_starts cI v_0_count v_0_filled f_0_spaces) (wl_Ri_ringsOf a_0 a_0_spaces b_0_order b_0_gone b_0_starts cI v_0_count v_0_filled f_0_spaces) R0) 0 0 (va_A (wl_Ri_ringsOf a_0 a_0_spaces b_0_order b_0_gone b_0_starts cI v_0_count v_0_filled f_0_spaces) sz) := by
  refine Met.ofW (cc := b_Ri_ringsOf) (maxL := 4) (ret := (some .int)) (by decide) rfl ?_
  intro p e s m args below meth c s₁ B hml hv
  obtain ⟨rfl, hsz, hP, hK, hD0, hN⟩ := hv
  subst hsz
  have hl := lv_entry ([.ref a_0, .int p1]) (n := 4) (Nat.le_of_ble_eq_true rfl)
  rw [lg_entry_eq]
  generalize (lg_sl ([.ref a_0, .int p1]) ++ List.replicate (4 - (lg_sl ([.ref a_0, .int p1])).length) Slot.unset).toArray = ls at hl ⊢
  exact t_Ri_ringsOf a_0 a_0_spaces b_0_order b_0_gone b_0_starts v_0_count v_0_filled f_0_spaces p1 R0 B.exec B.bytes hml (findClass_of_methodNamed B.named) (atoms_spec (ws := w_Ri_ringsOf) B.pre) hK hN (fun q h => Or.inr h) (fun pc H locs ls hd hP9 hD9 hS => W.iret B.exec B.bytes B.returns (fun t ht hW => ⟨⟨_, (), rfl, rfl, by rw [ht]; exact hP9, va_K.moved hW.alike hK, hD9⟩, hS.F ht⟩) hS.2.2 hd) hm s.heap [] ls hP hD0.self va_S.rf hl

-- SpaceCycles$Rings.find(II)I
abbrev b_Ri_find : ByteArray := prog_9_method_5_code
abbrev y_Ri_find : MethodName := ⟨"SpaceCycles$Rings", "find", "(II)I"⟩
abbrev w_Ri_find : List Cond := Cond.code y_Ri_find b_Ri_find 5 (some .int) :: gl
abbrev rm_Ri_find : Room := { frames := 0, cells := 0, slots := 0, locals := 0 }
theorem d_Ri_find_0 : decode b_Ri_find 0 = .ok (.iload_n 2, 1) := by decide +kernel
theorem d_Ri_find_1 : decode b_Ri_find 1 = .ok (.istore_n 3, 1) := by decide +kernel
theorem d_Ri_find_2 : decode b_Ri_find 2 = .ok (.iconst 0, 1) := by decide +kernel
theorem d_Ri_find_3 : decode b_Ri_find 3 = .ok (.istore 4, 2) := by decide +kernel
theorem d_Ri_find_5 : decode b_Ri_find 5 = .ok (.iload 4, 2) := by decide +kernel
theorem d_Ri_find_7 : decode b_Ri_find 7 = .ok (.aload_n 0, 1) := by decide +kernel
theorem d_Ri_find_8 : decode b_Ri_find 8 = .ok (.getfield 25, 3) := by decide +kernel
theorem d_Ri_find_11 : decode b_Ri_find 11 = .ok (.if_icmp .ge 34, 3) := by decide +kernel
theorem d_Ri_find_14 : decode b_Ri_find 14 = .ok (.iload_n 3, 1) := by decide +kernel
theorem d_Ri_find_15 : decode b_Ri_find 15 = .ok (.ifCond .lt 30, 3) := by decide +kernel
theorem d_Ri_find_18 : decode b_Ri_find 18 = .ok (.aload_n 0, 1) := by decide +kernel
theorem d_Ri_find_19 : decode b_Ri_find 19 = .ok (.getfield 22, 3) := by decide +kernel
theorem d_Ri_find_22 : decode b_Ri_find 22 = .ok (.iload 4, 2) := by decide +kernel
theorem d_Ri_find_24 : decode b_Ri_find 24 = .ok (.iaload, 1) := by decide +kernel
theorem d_Ri_find_25 : decode b_Ri_find 25 = .ok (.iload_n 1, 1) := by decide +kernel
theorem d_Ri_find_26 : decode b_Ri_find 26 = .ok (.if_icmp .ne 13, 3) := by decide +kernel
theorem d_Ri_find_29 : decode b_Ri_find 29 = .ok (.iload_n 3, 1) := by decide +kernel
theorem d_Ri_find_30 : decode b_Ri_find 30 = .ok (.ifCond .ne 6, 3) := by decide +kernel
theorem d_Ri_find_33 : decode b_Ri_find 33 = .ok (.iload 4, 2) := by decide +kernel
theorem d_Ri_find_35 : decode b_Ri_find 35 = .ok (.ireturn, 1) := by decide +kernel
theorem d_Ri_find_36 : decode b_Ri_find 36 = .ok (.iinc 3 (-1), 3) := by decide +kernel
theorem d_Ri_find_39 : decode b_Ri_find 39 = .ok (.iinc 4 1, 3) := by decide +kernel
theorem d_Ri_find_42 : decode b_Ri_find 42 = .ok (.goto (-37), 3) := by decide +kernel
theorem d_Ri_find_45 : decode b_Ri_find 45 = .ok (.iconst (-1), 1) := by decide +kernel
theorem d_Ri_find_46 : decode b_Ri_find 46 = .ok (.ireturn, 1) := by decide +kernel
abbrev wl_Ri_find (a_0 : Nat) (a_0_spaces : Nat) (b_0_order : Nat) (b_0_gone : Nat) (b_0_starts : Nat) (cI : ClassId) (v_0_count : Int32) (v_0_filled : Int32) (f_0_spaces : Nat → Int32) : va_W := [(a_0, .inr (4, [.ref b_0_order, .ref b_0_gone, .ref b_0_starts, .ref a_0_spaces, .int v_0_count, .int v_0_filled])), (a_0_spaces, .inl (cI, 220, .inl f_0_spaces))]
def m_Ri_find_L5 (l1 : Int32) (v_0_count : Int32) (f_0_spaces : Nat → Int32) : Nat → Int32 → Int32 → Option (Sum (Int32) (Unit))
  | 0, _, _ => none
  | n + 1, l3, l4 =>
    if v_0_count ≤ l4 then (
      some (Sum.inr ()))
    else (
      if l3 < 0 then (
        some (Sum.inr ()))
      else (
        gI l4 220 <|
        bt1 (
          if (f_0_spaces l4.toNatClampNeg) = l1 then (
          if l3 = 0 then (
            some (Sum.inl l4))
          else (
            lt_ (l3 + (-1)) fun x10 =>
            some (Sum.inr x10)))
        else (
          some (Sum.inr l3)))
        fun (x7 : Int32) =>
        lt_ (l4 + 1) fun x11 =>
          m_Ri_find_L5 l1 v_0_count f_0_spaces n x7 x11))
def m_Ri_find (p1 : Int32) (p2 : Int32) (v_0_count : Int32) (f_0_spaces : Nat → Int32) : Option (Int32) :=
  bs0 (m_Ri_find_L5 p1 v_0_count f_0_spaces fu p2 0) <|
  some (-1)

set_option maxHeartbeats 4000000 in
set_option maxRecDepth 100000 in
theorem t_Ri_find {p : Program} {l : Launch} {e : Env} {s : State} {m : MethodId} {args : Array Value} {below : List Frame} {meth : Method} {c : Code} {A : Nat → Prop} {Q : State → Prop} {dC : Nat → ClassId} {dI : Nat → Nat → Nat} {cI cZ cJ : ClassId} (a_0 a_0_spaces b_0_order b_0_gone b_0_starts : Nat) (v_0_count : Int32) (v_0_filled : Int32) (f_0_spaces : Nat → Int32) (p1 : Int32) (p2 : Int32) (R0 : Int32) (hx : p.tables.exec = Jvm.exec) (hb : c.code = b_Ri_find) (hml : c.maxLocals = 5) (hown : s.vm.findClass "SpaceCycles$Rings" = some m.cls) (hts : ∀ w ∈ w_Ri_find, w.before args s = true) (hK : va_K (dC, dI) vwCl [(cI, .int), (cZ, .boolean), (cJ, .long)] s) (hN : NX s) (hA : ∀ q : Nat, s.heap.size ≤ q → A q)
    (hret : ∀ (pc : Nat) (H : Heap) (locs : List Loc) (ls : Array Slot), decode b_Ri_find pc = .ok (.ireturn, 1) → va_P (dC, dI) vwCl (wl_Ri_find a_0 a_0_spaces b_0_order b_0_gone b_0_starts cI v_0_count v_0_filled f_0_spaces) H → va_D A (wl_Ri_find a_0 a_0_spaces b_0_order b_0_gone b_0_starts cI v_0_count v_0_filled f_0_spaces) → va_S A s.heap H locs → W p l e rm_Ri_find s m args below meth c H locs 0 0 Q (F0 m pc ls [.int R0]))
    (hm : m_Ri_find p1 p2 v_0_count f_0_spaces = some R0) : ∀ (H : Heap) (locs : List Loc) (ls : Array Slot), va_P (dC, dI) vwCl (wl_Ri_find a_0 a_0_spaces b_0_order b_0_gone b_0_starts cI v_0_count v_0_filled f_0_spaces) H → va_D A (wl_Ri_find a_0 a_0_spaces b_0_order b_0_gone b_0_starts cI v_0_count v_0_filled f_0_spaces) → va_S A s.heap H locs → lv_has ls 5 [(0, .ref a_0), (1, .int p1), (2, .int p2)] → W p l e rm_Ri_find s m args below meth c H locs 0 0 Q (F0 m 0 ls []) := by
  intro H locs ls hP hD hS hl
  unfold m_Ri_find at hm
  refine lv_iload_n hx hb d_Ri_find_0 rfl (lv_at hl 2 rfl) ?_
  refine lv_istore_n (lv' := [(3, .int p2), (0, .ref a_0), (1, .int p1), (2, .int p2)]) hx hb d_Ri_find_1 rfl hl (by decide) rfl (fun ls hl => ?_)
  refine lv_iconst (v := 0) hx hb d_Ri_find_2 (by decide) ?_
  refine lv_istore (lv' := [(4, .int 0), (3, .int p2), (0, .ref a_0), (1, .int p1), (2, .int p2)]) hx hb d_Ri_find_3 hl (by decide) rfl (fun ls hl => ?_)
  have L5_3 : ∀ (n : Nat) (x1 : Int32) (x2 : Int32) (z : Sum (Int32) (Unit)), m_Ri_find_L5 p1 v_0_count f_0_spaces n x1 x2 = some z → (∀ r, z = Sum.inl r → R0 = r) → (z = Sum.inr () → ∀ (H : Heap) (locs : List Loc) (ls : Array Slot), va_P (dC, dI) vwCl (wl_Ri_find a_0 a_0_spaces b_0_order b_0_gone b_0_starts cI v_0_count v_0_filled f_0_spaces) H → va_D A (wl_Ri_find a_0 a_0_spaces b_0_order b_0_gone b_0_starts cI v_0_count v_0_filled f_0_spaces) → va_S A s.heap H locs → lv_has ls 5 [] → W p l e rm_Ri_find s m args below meth c H locs 0 0 Q (F0 m 45 ls [])) → ∀ (H : Heap) (locs : List Loc) (ls : Array Slot), va_P (dC, dI) vwCl (wl_Ri_find a_0 a_0_spaces b_0_order b_0_gone b_0_starts cI v_0_count v_0_filled f_0_spaces) H → va_D A (wl_Ri_find a_0 a_0_spaces b_0_order b_0_gone b_0_starts cI v_0_count v_0_filled f_0_spaces) → va_S A s.heap H locs → lv_has ls 5 [(0, .ref a_0), (1, .int p1), (3, .int x1), (4, .int x2)] → W p l e rm_Ri_find s m args below meth c H locs 0 0 Q (F0 m 5 ls []) := by
    intro n
    induction n with
    | zero => intro x1 x2 z hm; simp [m_Ri_find_L5] at hm
    | succ n ih =>
      intro x1 x2 z hm KR KE H locs ls hP hD hS hl
      rw [m_Ri_find_L5] at hm
      refine lv_iload hx hb d_Ri_find_5 (lv_at hl 3 rfl) ?_
      refine lv_aload_n hx hb d_Ri_find_7 rfl (lv_at hl 0 rfl) ?_
      refine va_get (D := (dC, dI)) (ci := 4) (v := .int v_0_count) (C := "SpaceCycles$Rings") (T := F_Ri) (N := 6) hx hb hts (in_F i_Ri) hown hK hP 0 rfl rfl 4 (by decide) (hts _ (in_c k_222)) (fun _ h9 => h9) rfl d_Ri_find_8 ?_
      refine lv_icmp_ge (tgt := 45) hx hb d_Ri_find_11 (by decide) (fun c4 => ?_) (fun c4 => ?_)
      · replace hm := if_t hm c4
        cases hm
        exact KE  rfl H locs ls hP hD hS (lv_sub hl [] rfl)
      · replace hm := if_f hm c4
        refine lv_iload_n hx hb d_Ri_find_14 rfl (lv_at hl 2 rfl) ?_
        refine lv_if_lt (tgt := 45) hx hb d_Ri_find_15 (by decide) (fun c5 => ?_) (fun c5 => ?_)
        · replace hm := if_t hm c5
          cases hm
          exact KE  rfl H locs ls hP hD hS (lv_sub hl [] rfl)
        · replace hm := if_f hm c5
          refine lv_aload_n hx hb d_Ri_find_18 rfl (lv_at hl 0 rfl) ?_
          refine va_get (D := (dC, dI)) (ci := 4) (v := .ref a_0_spaces) (C := "SpaceCycles$Rings") (T := F_Ri) (N := 6) hx hb hts (in_F i_Ri) hown hK hP 0 rfl rfl 3 (by decide) (hts _ (in_c k_221)) (fun _ h9 => h9) rfl d_Ri_find_19 ?_
          refine lv_iload hx hb d_Ri_find_22 (lv_at hl 3 rfl) ?_
          obtain ⟨hi6, hm⟩ := gI_e hm
          refine va_iald hx hb hK hP 1 0 rfl rfl hi6 d_Ri_find_24 ?_
          refine lv_iload_n hx hb d_Ri_find_25 rfl (lv_at hl 1 rfl) ?_
          obtain ⟨zhz9, hb8, hz9, hm⟩ := bt1_z hm
          have K7 : ∀ (x10 : Int32) , zhz9 = Sum.inr x10 → ∀ (H : Heap) (locs : List Loc) (ls : Array Slot), va_P (dC, dI) vwCl (wl_Ri_find a_0 a_0_spaces b_0_order b_0_gone b_0_starts cI v_0_count v_0_filled f_0_spaces) H → va_D A (wl_Ri_find a_0 a_0_spaces b_0_order b_0_gone b_0_starts cI v_0_count v_0_filled f_0_spaces) → va_S A s.heap H locs → lv_has ls 5 [(0, .ref a_0), (1, .int p1), (3, .int x10), (4, .int x2)] → W p l e rm_Ri_find s m args below meth c H locs 0 0 Q (F0 m 39 ls []) := by
            intro x10 hq H locs ls hP hD hS hl
            replace hm := hm _ hq
            obtain ⟨x14, ex14⟩ : ∃ y : Int32, y = x2 + 1 := ⟨_, rfl⟩
            replace hm := lt_el hm ex14
            refine lv_iinc (v := x14) (lv' := [(4, .int x14), (0, .ref a_0), (1, .int p1), (3, .int x10)]) hx hb d_Ri_find_39 hl (k := 3) rfl (by rw [ex14]; rfl) (by decide) rfl (fun ls hl => ?_)
            refine lv_goto (tgt := 5) hx hb d_Ri_find_42 (by decide) ?_
            exact ih _ _ _ hm KR KE H locs ls hP hD hS (lv_sub hl [1, 2, 3, 0] rfl)
          replace hm := hb8
          refine lv_icmp_ne (tgt := 39) hx hb d_Ri_find_26 (by decide) (fun c11 => ?_) (fun c11 => ?_)
          · replace hm := if_f hm c11
            cases hm
            exact K7 _ rfl H locs ls hP hD hS (lv_sub hl [0, 1, 2, 3] rfl)
          · replace hm := if_t hm c11
            refine lv_iload_n hx hb d_Ri_find_29 rfl (lv_at hl 2 rfl) ?_
            refine lv_if_ne (tgt := 36) hx hb d_Ri_find_30 (by decide) (fun c12 => ?_) (fun c12 => ?_)
            · replace hm := if_f hm c12
              obtain ⟨x13, ex13⟩ : ∃ y : Int32, y = x1 + (-1) := ⟨_, rfl⟩
              replace hm := lt_el hm ex13
              refine lv_iinc (v := x13) (lv' := [(3, .int x13), (0, .ref a_0), (1, .int p1), (4, .int x2)]) hx hb d_Ri_find_36 hl (k := 2) rfl (by rw [ex13]; rfl) (by decide) rfl (fun ls hl => ?_)
              cases hm
              exact K7 _ rfl H locs ls hP hD hS (lv_sub hl [1, 2, 0, 3] rfl)
            · replace hm := if_t hm c12
              refine lv_iload hx hb d_Ri_find_33 (lv_at hl 3 rfl) ?_
              cases hm
              cases (KR _ (hz9 _ rfl))
              exact hret _ H locs ls d_Ri_find_35 hP hD hS
  obtain ⟨zhz16, hb15, hz16, hm⟩ := bs0_z hm
  refine L5_3 fu _ _ _ hb15 (fun r hr => hz16 r hr) (fun  hq H locs ls hP hD hS hl => ?_) H locs ls hP hD hS (lv_sub hl [2, 3, 1, 0] rfl)
  replace hm := hm  hq
  refine lv_iconst (v := (-1)) hx hb d_Ri_find_45 (by decide) ?_
  cases hm
  exact hret _ H locs ls d_Ri_find_46 hP hD hS
set_option maxHeartbeats 4000000 in
set_option maxRecDepth 100000 in
theorem c_Ri_find (l : Launch) (dC : Nat → ClassId) (dI : Nat → Nat → Nat) {cI cZ cJ : ClassId} (a_0 a_0_spaces b_0_order b_0_gone b_0_starts : Nat) (sz : Nat) (v_0_count : Int32) (v_0_filled : Int32) (f_0_spaces : Nat → Int32) (p1 : Int32) (p2 : Int32) (R0 : Int32) (hm : m_Ri_find p1 p2 v_0_count f_0_spaces = some R0) : Met l y_Ri_find w_Ri_find rm_Ri_find (PP dC dI [(cI, .int), (cZ, .boolean), (cJ, .long)] [.ref a_0, .int p1, .int p2] sz (wl_Ri_find a_0 a_0_spaces b_0_order b_0_gone b_0_starts cI v_0_count v_0_filled f_0_spaces)) (QI dC dI [(cI, .int), (cZ, .boolean), (cJ, .long)] sz (wl_Ri_find a_0 a_0_spaces b_0_order b_0_gone b_0_starts cI v_0_count v_0_filled f_0_spaces) (wl_Ri_find a_0 a_0_spaces b_0_order b_0_gone b_0_starts cI v_0_count v_0_filled f_0_spaces) R0) 0 0 (va_A (wl_Ri_find a_0 a_0_spaces b_0_order b_0_gone b_0_starts cI v_0_count v_0_filled f_0_spaces) sz) := by
  refine Met.ofW (cc := b_Ri_find) (maxL := 5) (ret := (some .int)) (by decide) rfl ?_
  intro p e s m args below meth c s₁ B hml hv
  obtain ⟨rfl, hsz, hP, hK, hD0, hN⟩ := hv
  subst hsz
  have hl := lv_entry ([.ref a_0, .int p1, .int p2]) (n := 5) (Nat.le_of_ble_eq_true rfl)
  rw [lg_entry_eq]
  generalize (lg_sl ([.ref a_0, .int p1, .int p2]) ++ List.replicate (5 - (lg_sl ([.ref a_0, .int p1, .int p2])).length) Slot.unset).toArray = ls at hl ⊢
  exact t_Ri_find a_0 a_0_spaces b_0_order b_0_gone b_0_starts v_0_count v_0_filled f_0_spaces p1 p2 R0 B.exec B.bytes hml (findClass_of_methodNamed B.named) (atoms_spec (ws := w_Ri_find) B.pre) hK hN (fun q h => Or.inr h) (fun pc H locs ls hd hP9 hD9 hS => W.iret B.exec B.bytes B.returns (fun t ht hW => ⟨⟨_, (), rfl, rfl, by rw [ht]; exact hP9, va_K.moved hW.alike hK, hD9⟩, hS.F ht⟩) hS.2.2 hd) hm s.heap [] ls hP hD0.self va_S.rf hl

-- SpaceCycles$Rings.lengthOf(I)I
abbrev b_Ri_lengthOf : ByteArray := prog_9_method_6_code
abbrev y_Ri_lengthOf : MethodName := ⟨"SpaceCycles$Rings", "lengthOf", "(I)I"⟩
abbrev w_Ri_lengthOf : List Cond := Cond.code y_Ri_lengthOf b_Ri_lengthOf 2 (some .int) :: gl
abbrev rm_Ri_lengthOf : Room := { frames := 0, cells := 0, slots := 0, locals := 0 }
theorem d_Ri_lengthOf_0 : decode b_Ri_lengthOf 0 = .ok (.aload_n 0, 1) := by decide +kernel
theorem d_Ri_lengthOf_1 : decode b_Ri_lengthOf 1 = .ok (.getfield 19, 3) := by decide +kernel
theorem d_Ri_lengthOf_4 : decode b_Ri_lengthOf 4 = .ok (.iload_n 1, 1) := by decide +kernel
theorem d_Ri_lengthOf_5 : decode b_Ri_lengthOf 5 = .ok (.iconst 1, 1) := by decide +kernel
theorem d_Ri_lengthOf_6 : decode b_Ri_lengthOf 6 = .ok (.iadd, 1) := by decide +kernel
theorem d_Ri_lengthOf_7 : decode b_Ri_lengthOf 7 = .ok (.iaload, 1) := by decide +kernel
theorem d_Ri_lengthOf_8 : decode b_Ri_lengthOf 8 = .ok (.aload_n 0, 1) := by decide +kernel
theorem d_Ri_lengthOf_9 : decode b_Ri_lengthOf 9 = .ok (.getfield 19, 3) := by decide +kernel
theorem d_Ri_lengthOf_12 : decode b_Ri_lengthOf 12 = .ok (.iload_n 1, 1) := by decide +kernel
theorem d_Ri_lengthOf_13 : decode b_Ri_lengthOf 13 = .ok (.iaload, 1) := by decide +kernel
theorem d_Ri_lengthOf_14 : decode b_Ri_lengthOf 14 = .ok (.isub, 1) := by decide +kernel
theorem d_Ri_lengthOf_15 : decode b_Ri_lengthOf 15 = .ok (.ireturn, 1) := by decide +kernel
abbrev wl_Ri_lengthOf (a_0 : Nat) (a_0_starts : Nat) (b_0_order : Nat) (b_0_gone : Nat) (b_0_spaces : Nat) (cI : ClassId) (v_0_count : Int32) (v_0_filled : Int32) (f_0_starts : Nat → Int32) : va_W := [(a_0, .inr (4, [.ref b_0_order, .ref b_0_gone, .ref a_0_starts, .ref b_0_spaces, .int v_0_count, .int v_0_filled])), (a_0_starts, .inl (cI, 221, .inl f_0_starts))]
def m_Ri_lengthOf (p1 : Int32) (f_0_starts : Nat → Int32) : Option (Int32) :=
  gI (p1 + 1) 221 <|
  gI p1 221 <|
  some ((f_0_starts (p1 + 1).toNatClampNeg) - (f_0_starts p1.toNatClampNeg))

set_option maxHeartbeats 4000000 in
set_option maxRecDepth 100000 in
theorem t_Ri_lengthOf {p : Program} {l : Launch} {e : Env} {s : State} {m : MethodId} {args : Array Value} {below : List Frame} {meth : Method} {c : Code} {A : Nat → Prop} {Q : State → Prop} {dC : Nat → ClassId} {dI : Nat → Nat → Nat} {cI cZ cJ : ClassId} (a_0 a_0_starts b_0_order b_0_gone b_0_spaces : Nat) (v_0_count : Int32) (v_0_filled : Int32) (f_0_starts : Nat → Int32) (p1 : Int32) (R0 : Int32) (hx : p.tables.exec = Jvm.exec) (hb : c.code = b_Ri_lengthOf) (hml : c.maxLocals = 2) (hown : s.vm.findClass "SpaceCycles$Rings" = some m.cls) (hts : ∀ w ∈ w_Ri_lengthOf, w.before args s = true) (hK : va_K (dC, dI) vwCl [(cI, .int), (cZ, .boolean), (cJ, .long)] s) (hN : NX s) (hA : ∀ q : Nat, s.heap.size ≤ q → A q)
    (hret : ∀ (pc : Nat) (H : Heap) (locs : List Loc) (ls : Array Slot), decode b_Ri_lengthOf pc = .ok (.ireturn, 1) → va_P (dC, dI) vwCl (wl_Ri_lengthOf a_0 a_0_starts b_0_order b_0_gone b_0_spaces cI v_0_count v_0_filled f_0_starts) H → va_D A (wl_Ri_lengthOf a_0 a_0_starts b_0_order b_0_gone b_0_spaces cI v_0_count v_0_filled f_0_starts) → va_S A s.heap H locs → W p l e rm_Ri_lengthOf s m args below meth c H locs 0 0 Q (F0 m pc ls [.int R0]))
    (hm : m_Ri_lengthOf p1 f_0_starts = some R0) : ∀ (H : Heap) (locs : List Loc) (ls : Array Slot), va_P (dC, dI) vwCl (wl_Ri_lengthOf a_0 a_0_starts b_0_order b_0_gone b_0_spaces cI v_0_count v_0_filled f_0_starts) H → va_D A (wl_Ri_lengthOf a_0 a_0_starts b_0_order b_0_gone b_0_spaces cI v_0_count v_0_filled f_0_starts) → va_S A s.heap H locs → lv_has ls 2 [(0, .ref a_0), (1, .int p1)] → W p l e rm_Ri_lengthOf s m args below meth c H locs 0 0 Q (F0 m 0 ls []) := by
  intro H locs ls hP hD hS hl
  unfold m_Ri_lengthOf at hm
  refine lv_aload_n hx hb d_Ri_lengthOf_0 rfl (lv_at hl 0 rfl) ?_
  refine va_get (D := (dC, dI)) (ci := 4) (v := .ref a_0_starts) (C := "SpaceCycles$Rings") (T := F_Ri) (N := 6) hx hb hts (in_F i_Ri) hown hK hP 0 rfl rfl 2 (by decide) (hts _ (in_c k_227)) (fun _ h9 => h9) rfl d_Ri_lengthOf_1 ?_
  refine lv_iload_n hx hb d_Ri_lengthOf_4 rfl (lv_at hl 1 rfl) ?_
  refine lv_iconst (v := 1) hx hb d_Ri_lengthOf_5 (by decide) ?_
  refine lv_iadd hx hb d_Ri_lengthOf_6 ?_
  obtain ⟨hi1, hm⟩ := gI_e hm
  refine va_iald hx hb hK hP 1 0 rfl rfl hi1 d_Ri_lengthOf_7 ?_
  refine lv_aload_n hx hb d_Ri_lengthOf_8 rfl (lv_at hl 0 rfl) ?_
  refine va_get (D := (dC, dI)) (ci := 4) (v := .ref a_0_starts) (C := "SpaceCycles$Rings") (T := F_Ri) (N := 6) hx hb hts (in_F i_Ri) hown hK hP 0 rfl rfl 2 (by decide) (hts _ (in_c k_227)) (fun _ h9 => h9) rfl d_Ri_lengthOf_9 ?_
  refine lv_iload_n hx hb d_Ri_lengthOf_12 rfl (lv_at hl 1 rfl) ?_
  obtain ⟨hi2, hm⟩ := gI_e hm
  refine va_iald hx hb hK hP 1 0 rfl rfl hi2 d_Ri_lengthOf_13 ?_
  refine lv_isub hx hb d_Ri_lengthOf_14 ?_
  cases hm
  exact hret _ H locs ls d_Ri_lengthOf_15 hP hD hS
set_option maxHeartbeats 4000000 in
set_option maxRecDepth 100000 in
theorem c_Ri_lengthOf (l : Launch) (dC : Nat → ClassId) (dI : Nat → Nat → Nat) {cI cZ cJ : ClassId} (a_0 a_0_starts b_0_order b_0_gone b_0_spaces : Nat) (sz : Nat) (v_0_count : Int32) (v_0_filled : Int32) (f_0_starts : Nat → Int32) (p1 : Int32) (R0 : Int32) (hm : m_Ri_lengthOf p1 f_0_starts = some R0) : Met l y_Ri_lengthOf w_Ri_lengthOf rm_Ri_lengthOf (PP dC dI [(cI, .int), (cZ, .boolean), (cJ, .long)] [.ref a_0, .int p1] sz (wl_Ri_lengthOf a_0 a_0_starts b_0_order b_0_gone b_0_spaces cI v_0_count v_0_filled f_0_starts)) (QI dC dI [(cI, .int), (cZ, .boolean), (cJ, .long)] sz (wl_Ri_lengthOf a_0 a_0_starts b_0_order b_0_gone b_0_spaces cI v_0_count v_0_filled f_0_starts) (wl_Ri_lengthOf a_0 a_0_starts b_0_order b_0_gone b_0_spaces cI v_0_count v_0_filled f_0_starts) R0) 0 0 (va_A (wl_Ri_lengthOf a_0 a_0_starts b_0_order b_0_gone b_0_spaces cI v_0_count v_0_filled f_0_starts) sz) := by
  refine Met.ofW (cc := b_Ri_lengthOf) (maxL := 2) (ret := (some .int)) (by decide) rfl ?_
  intro p e s m args below meth c s₁ B hml hv
  obtain ⟨rfl, hsz, hP, hK, hD0, hN⟩ := hv
  subst hsz
  have hl := lv_entry ([.ref a_0, .int p1]) (n := 2) (Nat.le_of_ble_eq_true rfl)
  rw [lg_entry_eq]
  generalize (lg_sl ([.ref a_0, .int p1]) ++ List.replicate (2 - (lg_sl ([.ref a_0, .int p1])).length) Slot.unset).toArray = ls at hl ⊢
  exact t_Ri_lengthOf a_0 a_0_starts b_0_order b_0_gone b_0_spaces v_0_count v_0_filled f_0_starts p1 R0 B.exec B.bytes hml (findClass_of_methodNamed B.named) (atoms_spec (ws := w_Ri_lengthOf) B.pre) hK hN (fun q h => Or.inr h) (fun pc H locs ls hd hP9 hD9 hS => W.iret B.exec B.bytes B.returns (fun t ht hW => ⟨⟨_, (), rfl, rfl, by rw [ht]; exact hP9, va_K.moved hW.alike hK, hD9⟩, hS.F ht⟩) hS.2.2 hd) hm s.heap [] ls hP hD0.self va_S.rf hl

-- SpaceCycles$Rings.sideOf(II)I
abbrev b_Ri_sideOf : ByteArray := prog_9_method_7_code
abbrev y_Ri_sideOf : MethodName := ⟨"SpaceCycles$Rings", "sideOf", "(II)I"⟩
abbrev w_Ri_sideOf : List Cond := Cond.code y_Ri_sideOf b_Ri_sideOf 3 (some .int) :: gl
abbrev rm_Ri_sideOf : Room := { frames := 0, cells := 0, slots := 0, locals := 0 }
theorem d_Ri_sideOf_0 : decode b_Ri_sideOf 0 = .ok (.aload_n 0, 1) := by decide +kernel
theorem d_Ri_sideOf_1 : decode b_Ri_sideOf 1 = .ok (.getfield 9, 3) := by decide +kernel
theorem d_Ri_sideOf_4 : decode b_Ri_sideOf 4 = .ok (.aload_n 0, 1) := by decide +kernel
theorem d_Ri_sideOf_5 : decode b_Ri_sideOf 5 = .ok (.getfield 19, 3) := by decide +kernel
theorem d_Ri_sideOf_8 : decode b_Ri_sideOf 8 = .ok (.iload_n 1, 1) := by decide +kernel
theorem d_Ri_sideOf_9 : decode b_Ri_sideOf 9 = .ok (.iaload, 1) := by decide +kernel
theorem d_Ri_sideOf_10 : decode b_Ri_sideOf 10 = .ok (.iload_n 2, 1) := by decide +kernel
theorem d_Ri_sideOf_11 : decode b_Ri_sideOf 11 = .ok (.iadd, 1) := by decide +kernel
theorem d_Ri_sideOf_12 : decode b_Ri_sideOf 12 = .ok (.iaload, 1) := by decide +kernel
theorem d_Ri_sideOf_13 : decode b_Ri_sideOf 13 = .ok (.ireturn, 1) := by decide +kernel
abbrev wl_Ri_sideOf (a_0 : Nat) (a_0_order : Nat) (a_0_starts : Nat) (b_0_gone : Nat) (b_0_spaces : Nat) (cI : ClassId) (v_0_count : Int32) (v_0_filled : Int32) (f_0_order : Nat → Int32) (f_0_starts : Nat → Int32) : va_W := [(a_0, .inr (4, [.ref a_0_order, .ref b_0_gone, .ref a_0_starts, .ref b_0_spaces, .int v_0_count, .int v_0_filled])), (a_0_order, .inl (cI, 440, .inl f_0_order)), (a_0_starts, .inl (cI, 221, .inl f_0_starts))]
def m_Ri_sideOf (p1 : Int32) (p2 : Int32) (f_0_order : Nat → Int32) (f_0_starts : Nat → Int32) : Option (Int32) :=
  gI p1 221 <|
  gI ((f_0_starts p1.toNatClampNeg) + p2) 440 <|
  some (f_0_order ((f_0_starts p1.toNatClampNeg) + p2).toNatClampNeg)

set_option maxHeartbeats 4000000 in
set_option maxRecDepth 100000 in
theorem t_Ri_sideOf {p : Program} {l : Launch} {e : Env} {s : State} {m : MethodId} {args : Array Value} {below : List Frame} {meth : Method} {c : Code} {A : Nat → Prop} {Q : State → Prop} {dC : Nat → ClassId} {dI : Nat → Nat → Nat} {cI cZ cJ : ClassId} (a_0 a_0_order a_0_starts b_0_gone b_0_spaces : Nat) (v_0_count : Int32) (v_0_filled : Int32) (f_0_order : Nat → Int32) (f_0_starts : Nat → Int32) (p1 : Int32) (p2 : Int32) (R0 : Int32) (hx : p.tables.exec = Jvm.exec) (hb : c.code = b_Ri_sideOf) (hml : c.maxLocals = 3) (hown : s.vm.findClass "SpaceCycles$Rings" = some m.cls) (hts : ∀ w ∈ w_Ri_sideOf, w.before args s = true) (hK : va_K (dC, dI) vwCl [(cI, .int), (cZ, .boolean), (cJ, .long)] s) (hN : NX s) (hA : ∀ q : Nat, s.heap.size ≤ q → A q)
    (hret : ∀ (pc : Nat) (H : Heap) (locs : List Loc) (ls : Array Slot), decode b_Ri_sideOf pc = .ok (.ireturn, 1) → va_P (dC, dI) vwCl (wl_Ri_sideOf a_0 a_0_order a_0_starts b_0_gone b_0_spaces cI v_0_count v_0_filled f_0_order f_0_starts) H → va_D A (wl_Ri_sideOf a_0 a_0_order a_0_starts b_0_gone b_0_spaces cI v_0_count v_0_filled f_0_order f_0_starts) → va_S A s.heap H locs → W p l e rm_Ri_sideOf s m args below meth c H locs 0 0 Q (F0 m pc ls [.int R0]))
    (hm : m_Ri_sideOf p1 p2 f_0_order f_0_starts = some R0) : ∀ (H : Heap) (locs : List Loc) (ls : Array Slot), va_P (dC, dI) vwCl (wl_Ri_sideOf a_0 a_0_order a_0_starts b_0_gone b_0_spaces cI v_0_count v_0_filled f_0_order f_0_starts) H → va_D A (wl_Ri_sideOf a_0 a_0_order a_0_starts b_0_gone b_0_spaces cI v_0_count v_0_filled f_0_order f_0_starts) → va_S A s.heap H locs → lv_has ls 3 [(0, .ref a_0), (1, .int p1), (2, .int p2)] → W p l e rm_Ri_sideOf s m args below meth c H locs 0 0 Q (F0 m 0 ls []) := by
  intro H locs ls hP hD hS hl
  unfold m_Ri_sideOf at hm
  refine lv_aload_n hx hb d_Ri_sideOf_0 rfl (lv_at hl 0 rfl) ?_
  refine va_get (D := (dC, dI)) (ci := 4) (v := .ref a_0_order) (C := "SpaceCycles$Rings") (T := F_Ri) (N := 6) hx hb hts (in_F i_Ri) hown hK hP 0 rfl rfl 0 (by decide) (hts _ (in_c k_231)) (fun _ h9 => h9) rfl d_Ri_sideOf_1 ?_
  refine lv_aload_n hx hb d_Ri_sideOf_4 rfl (lv_at hl 0 rfl) ?_
  refine va_get (D := (dC, dI)) (ci := 4) (v := .ref a_0_starts) (C := "SpaceCycles$Rings") (T := F_Ri) (N := 6) hx hb hts (in_F i_Ri) hown hK hP 0 rfl rfl 2 (by decide) (hts _ (in_c k_227)) (fun _ h9 => h9) rfl d_Ri_sideOf_5 ?_
  refine lv_iload_n hx hb d_Ri_sideOf_8 rfl (lv_at hl 1 rfl) ?_
  obtain ⟨hi1, hm⟩ := gI_e hm
  refine va_iald hx hb hK hP 2 0 rfl rfl hi1 d_Ri_sideOf_9 ?_
  refine lv_iload_n hx hb d_Ri_sideOf_10 rfl (lv_at hl 2 rfl) ?_
  refine lv_iadd hx hb d_Ri_sideOf_11 ?_
  obtain ⟨hi2, hm⟩ := gI_e hm
  refine va_iald hx hb hK hP 1 0 rfl rfl hi2 d_Ri_sideOf_12 ?_
  cases hm
  exact hret _ H locs ls d_Ri_sideOf_13 hP hD hS
set_option maxHeartbeats 4000000 in
set_option maxRecDepth 100000 in
theorem c_Ri_sideOf (l : Launch) (dC : Nat → ClassId) (dI : Nat → Nat → Nat) {cI cZ cJ : ClassId} (a_0 a_0_order a_0_starts b_0_gone b_0_spaces : Nat) (sz : Nat) (v_0_count : Int32) (v_0_filled : Int32) (f_0_order : Nat → Int32) (f_0_starts : Nat → Int32) (p1 : Int32) (p2 : Int32) (R0 : Int32) (hm : m_Ri_sideOf p1 p2 f_0_order f_0_starts = some R0) : Met l y_Ri_sideOf w_Ri_sideOf rm_Ri_sideOf (PP dC dI [(cI, .int), (cZ, .boolean), (cJ, .long)] [.ref a_0, .int p1, .int p2] sz (wl_Ri_sideOf a_0 a_0_order a_0_starts b_0_gone b_0_spaces cI v_0_count v_0_filled f_0_order f_0_starts)) (QI dC dI [(cI, .int), (cZ, .boolean), (cJ, .long)] sz (wl_Ri_sideOf a_0 a_0_order a_0_starts b_0_gone b_0_spaces cI v_0_count v_0_filled f_0_order f_0_starts) (wl_Ri_sideOf a_0 a_0_order a_0_starts b_0_gone b_0_spaces cI v_0_count v_0_filled f_0_order f_0_starts) R0) 0 0 (va_A (wl_Ri_sideOf a_0 a_0_order a_0_starts b_0_gone b_0_spaces cI v_0_count v_0_filled f_0_order f_0_starts) sz) := by
  refine Met.ofW (cc := b_Ri_sideOf) (maxL := 3) (ret := (some .int)) (by decide) rfl ?_
  intro p e s m args below meth c s₁ B hml hv
  obtain ⟨rfl, hsz, hP, hK, hD0, hN⟩ := hv
  subst hsz
  have hl := lv_entry ([.ref a_0, .int p1, .int p2]) (n := 3) (Nat.le_of_ble_eq_true rfl)
  rw [lg_entry_eq]
  generalize (lg_sl ([.ref a_0, .int p1, .int p2]) ++ List.replicate (3 - (lg_sl ([.ref a_0, .int p1, .int p2])).length) Slot.unset).toArray = ls at hl ⊢
  exact t_Ri_sideOf a_0 a_0_order a_0_starts b_0_gone b_0_spaces v_0_count v_0_filled f_0_order f_0_starts p1 p2 R0 B.exec B.bytes hml (findClass_of_methodNamed B.named) (atoms_spec (ws := w_Ri_sideOf) B.pre) hK hN (fun q h => Or.inr h) (fun pc H locs ls hd hP9 hD9 hS => W.iret B.exec B.bytes B.returns (fun t ht hW => ⟨⟨_, (), rfl, rfl, by rw [ht]; exact hP9, va_K.moved hW.alike hK, hD9⟩, hS.F ht⟩) hS.2.2 hd) hm s.heap [] ls hP hD0.self va_S.rf hl
