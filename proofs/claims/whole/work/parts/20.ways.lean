theorem k_243 : ((.fieldLink "SpaceCycles$Ways" 18 "SpaceCycles$Ways" "opens" "I") : Cond) ∈ gl := gl_i 263 (by decide +kernel) (by decide +kernel)
theorem k_244 : ((.fieldLink "SpaceCycles$Ways" 36 "SpaceCycles$Net" "pieces" "I") : Cond) ∈ gl := gl_i 132 (by decide +kernel) (by decide +kernel)
theorem k_245 : ((.methodLink "SpaceCycles$Ways" 41 ⟨"SpaceCycles$Net", "lineOf", "(I)I"⟩) : Cond) ∈ gl := gl_i 1055 (by decide +kernel) (by decide +kernel)
theorem k_246 : ((.code ⟨"SpaceCycles$Net", "beginningOf", "(I)I"⟩ prog_8_method_4_code 2 (some .int)) : Cond) ∈ gl := gl_i 962 (by decide +kernel) (by decide +kernel)
theorem k_247 : ((.selects "SpaceCycles$Net" ⟨"SpaceCycles$Net", "beginningOf", "(I)I"⟩ ⟨"SpaceCycles$Net", "beginningOf", "(I)I"⟩) : Cond) ∈ gl := gl_i 961 (by decide +kernel) (by decide +kernel)
theorem k_248 : ((.instanceMethod ⟨"SpaceCycles$Net", "beginningOf", "(I)I"⟩) : Cond) ∈ gl := gl_i 960 (by decide +kernel) (by decide +kernel)
theorem k_249 : ((.methodLink "SpaceCycles$Ways" 45 ⟨"SpaceCycles$Net", "beginningOf", "(I)I"⟩) : Cond) ∈ gl := gl_i 1056 (by decide +kernel) (by decide +kernel)
theorem k_250 : ((.fieldLink "SpaceCycles$Ways" 48 "SpaceCycles$Net" "pointX" "[I") : Cond) ∈ gl := gl_i 120 (by decide +kernel) (by decide +kernel)
theorem k_251 : ((.fieldLink "SpaceCycles$Ways" 51 "SpaceCycles$Lines" "lowX" "[I") : Cond) ∈ gl := gl_i 46 (by decide +kernel) (by decide +kernel)
theorem k_252 : ((.fieldLink "SpaceCycles$Ways" 56 "SpaceCycles$Net" "pointY" "[I") : Cond) ∈ gl := gl_i 123 (by decide +kernel) (by decide +kernel)
theorem k_253 : ((.fieldLink "SpaceCycles$Ways" 59 "SpaceCycles$Lines" "lowY" "[I") : Cond) ∈ gl := gl_i 52 (by decide +kernel) (by decide +kernel)
theorem k_254 : ((.methodLink "SpaceCycles$Ways" 62 ⟨"SpaceCycles$Net", "lengthOf", "(I)I"⟩) : Cond) ∈ gl := gl_i 1057 (by decide +kernel) (by decide +kernel)
theorem k_255 : ((.code ⟨"SpaceCycles$Lines", "hasDoorWithin", "(III)Z"⟩ prog_6_method_8_code 6 (some .boolean)) : Cond) ∈ gl := gl_i 1061 (by decide +kernel) (by decide +kernel)
theorem k_256 : ((.selects "SpaceCycles$Lines" ⟨"SpaceCycles$Lines", "hasDoorWithin", "(III)Z"⟩ ⟨"SpaceCycles$Lines", "hasDoorWithin", "(III)Z"⟩) : Cond) ∈ gl := gl_i 1060 (by decide +kernel) (by decide +kernel)
theorem k_257 : ((.instanceMethod ⟨"SpaceCycles$Lines", "hasDoorWithin", "(III)Z"⟩) : Cond) ∈ gl := gl_i 1059 (by decide +kernel) (by decide +kernel)
theorem k_258 : ((.methodLink "SpaceCycles$Ways" 65 ⟨"SpaceCycles$Lines", "hasDoorWithin", "(III)Z"⟩) : Cond) ∈ gl := gl_i 1058 (by decide +kernel) (by decide +kernel)
theorem k_259 : ((.fieldLink "SpaceCycles$Ways" 15 "SpaceCycles$Ways" "open" "[I") : Cond) ∈ gl := gl_i 262 (by decide +kernel) (by decide +kernel)
-- SpaceCycles$Ways.findOpenPieces(LSpaceCycles$Lines;LSpaceCycles$Net;)V
abbrev b_Wa_findOpenPieces : ByteArray := prog_11_method_3_code
abbrev y_Wa_findOpenPieces : MethodName := ⟨"SpaceCycles$Ways", "findOpenPieces", "(LSpaceCycles$Lines;LSpaceCycles$Net;)V"⟩
abbrev w_Wa_findOpenPieces : List Cond := Cond.code y_Wa_findOpenPieces b_Wa_findOpenPieces 7 none :: gl
abbrev rm_Wa_findOpenPieces : Room := { frames := 2, cells := 0, slots := 0, locals := 89 }
theorem d_Wa_findOpenPieces_0 : decode b_Wa_findOpenPieces 0 = .ok (.aload_n 0, 1) := by decide +kernel
theorem d_Wa_findOpenPieces_1 : decode b_Wa_findOpenPieces 1 = .ok (.iconst 0, 1) := by decide +kernel
theorem d_Wa_findOpenPieces_2 : decode b_Wa_findOpenPieces 2 = .ok (.putfield 18, 3) := by decide +kernel
theorem d_Wa_findOpenPieces_5 : decode b_Wa_findOpenPieces 5 = .ok (.iconst 0, 1) := by decide +kernel
theorem d_Wa_findOpenPieces_6 : decode b_Wa_findOpenPieces 6 = .ok (.istore_n 3, 1) := by decide +kernel
theorem d_Wa_findOpenPieces_7 : decode b_Wa_findOpenPieces 7 = .ok (.iload_n 3, 1) := by decide +kernel
theorem d_Wa_findOpenPieces_8 : decode b_Wa_findOpenPieces 8 = .ok (.aload_n 2, 1) := by decide +kernel
theorem d_Wa_findOpenPieces_9 : decode b_Wa_findOpenPieces 9 = .ok (.getfield 36, 3) := by decide +kernel
theorem d_Wa_findOpenPieces_12 : decode b_Wa_findOpenPieces 12 = .ok (.if_icmp .ge 111, 3) := by decide +kernel
theorem d_Wa_findOpenPieces_15 : decode b_Wa_findOpenPieces 15 = .ok (.aload_n 2, 1) := by decide +kernel
theorem d_Wa_findOpenPieces_16 : decode b_Wa_findOpenPieces 16 = .ok (.iconst 2, 1) := by decide +kernel
theorem d_Wa_findOpenPieces_17 : decode b_Wa_findOpenPieces 17 = .ok (.iload_n 3, 1) := by decide +kernel
theorem d_Wa_findOpenPieces_18 : decode b_Wa_findOpenPieces 18 = .ok (.imul, 1) := by decide +kernel
theorem d_Wa_findOpenPieces_19 : decode b_Wa_findOpenPieces 19 = .ok (.invokevirtual 41, 3) := by decide +kernel
theorem d_Wa_findOpenPieces_22 : decode b_Wa_findOpenPieces 22 = .ok (.istore 4, 2) := by decide +kernel
theorem d_Wa_findOpenPieces_24 : decode b_Wa_findOpenPieces 24 = .ok (.aload_n 2, 1) := by decide +kernel
theorem d_Wa_findOpenPieces_25 : decode b_Wa_findOpenPieces 25 = .ok (.iconst 2, 1) := by decide +kernel
theorem d_Wa_findOpenPieces_26 : decode b_Wa_findOpenPieces 26 = .ok (.iload_n 3, 1) := by decide +kernel
theorem d_Wa_findOpenPieces_27 : decode b_Wa_findOpenPieces 27 = .ok (.imul, 1) := by decide +kernel
theorem d_Wa_findOpenPieces_28 : decode b_Wa_findOpenPieces 28 = .ok (.invokevirtual 45, 3) := by decide +kernel
theorem d_Wa_findOpenPieces_31 : decode b_Wa_findOpenPieces 31 = .ok (.istore 5, 2) := by decide +kernel
theorem d_Wa_findOpenPieces_33 : decode b_Wa_findOpenPieces 33 = .ok (.aload_n 2, 1) := by decide +kernel
theorem d_Wa_findOpenPieces_34 : decode b_Wa_findOpenPieces 34 = .ok (.getfield 48, 3) := by decide +kernel
theorem d_Wa_findOpenPieces_37 : decode b_Wa_findOpenPieces 37 = .ok (.iload 5, 2) := by decide +kernel
theorem d_Wa_findOpenPieces_39 : decode b_Wa_findOpenPieces 39 = .ok (.iaload, 1) := by decide +kernel
theorem d_Wa_findOpenPieces_40 : decode b_Wa_findOpenPieces 40 = .ok (.aload_n 1, 1) := by decide +kernel
theorem d_Wa_findOpenPieces_41 : decode b_Wa_findOpenPieces 41 = .ok (.getfield 51, 3) := by decide +kernel
theorem d_Wa_findOpenPieces_44 : decode b_Wa_findOpenPieces 44 = .ok (.iload 4, 2) := by decide +kernel
theorem d_Wa_findOpenPieces_46 : decode b_Wa_findOpenPieces 46 = .ok (.iaload, 1) := by decide +kernel
theorem d_Wa_findOpenPieces_47 : decode b_Wa_findOpenPieces 47 = .ok (.isub, 1) := by decide +kernel
theorem d_Wa_findOpenPieces_48 : decode b_Wa_findOpenPieces 48 = .ok (.aload_n 2, 1) := by decide +kernel
theorem d_Wa_findOpenPieces_49 : decode b_Wa_findOpenPieces 49 = .ok (.getfield 56, 3) := by decide +kernel
theorem d_Wa_findOpenPieces_52 : decode b_Wa_findOpenPieces 52 = .ok (.iload 5, 2) := by decide +kernel
theorem d_Wa_findOpenPieces_54 : decode b_Wa_findOpenPieces 54 = .ok (.iaload, 1) := by decide +kernel
theorem d_Wa_findOpenPieces_55 : decode b_Wa_findOpenPieces 55 = .ok (.iadd, 1) := by decide +kernel
theorem d_Wa_findOpenPieces_56 : decode b_Wa_findOpenPieces 56 = .ok (.aload_n 1, 1) := by decide +kernel
theorem d_Wa_findOpenPieces_57 : decode b_Wa_findOpenPieces 57 = .ok (.getfield 59, 3) := by decide +kernel
theorem d_Wa_findOpenPieces_60 : decode b_Wa_findOpenPieces 60 = .ok (.iload 4, 2) := by decide +kernel
theorem d_Wa_findOpenPieces_62 : decode b_Wa_findOpenPieces 62 = .ok (.iaload, 1) := by decide +kernel
theorem d_Wa_findOpenPieces_63 : decode b_Wa_findOpenPieces 63 = .ok (.isub, 1) := by decide +kernel
theorem d_Wa_findOpenPieces_64 : decode b_Wa_findOpenPieces 64 = .ok (.istore 6, 2) := by decide +kernel
theorem d_Wa_findOpenPieces_66 : decode b_Wa_findOpenPieces 66 = .ok (.aload_n 0, 1) := by decide +kernel
theorem d_Wa_findOpenPieces_67 : decode b_Wa_findOpenPieces 67 = .ok (.getfield 18, 3) := by decide +kernel
theorem d_Wa_findOpenPieces_70 : decode b_Wa_findOpenPieces 70 = .ok (.sipush 220, 3) := by decide +kernel
theorem d_Wa_findOpenPieces_73 : decode b_Wa_findOpenPieces 73 = .ok (.if_icmp .ge 44, 3) := by decide +kernel
theorem d_Wa_findOpenPieces_76 : decode b_Wa_findOpenPieces 76 = .ok (.aload_n 1, 1) := by decide +kernel
theorem d_Wa_findOpenPieces_77 : decode b_Wa_findOpenPieces 77 = .ok (.iload 4, 2) := by decide +kernel
theorem d_Wa_findOpenPieces_79 : decode b_Wa_findOpenPieces 79 = .ok (.iload 6, 2) := by decide +kernel
theorem d_Wa_findOpenPieces_81 : decode b_Wa_findOpenPieces 81 = .ok (.iload 6, 2) := by decide +kernel
theorem d_Wa_findOpenPieces_83 : decode b_Wa_findOpenPieces 83 = .ok (.aload_n 2, 1) := by decide +kernel
theorem d_Wa_findOpenPieces_84 : decode b_Wa_findOpenPieces 84 = .ok (.iconst 2, 1) := by decide +kernel
theorem d_Wa_findOpenPieces_85 : decode b_Wa_findOpenPieces 85 = .ok (.iload_n 3, 1) := by decide +kernel
theorem d_Wa_findOpenPieces_86 : decode b_Wa_findOpenPieces 86 = .ok (.imul, 1) := by decide +kernel
theorem d_Wa_findOpenPieces_87 : decode b_Wa_findOpenPieces 87 = .ok (.invokevirtual 62, 3) := by decide +kernel
theorem d_Wa_findOpenPieces_90 : decode b_Wa_findOpenPieces 90 = .ok (.iadd, 1) := by decide +kernel
theorem d_Wa_findOpenPieces_91 : decode b_Wa_findOpenPieces 91 = .ok (.invokevirtual 65, 3) := by decide +kernel
theorem d_Wa_findOpenPieces_94 : decode b_Wa_findOpenPieces 94 = .ok (.ifCond .eq 23, 3) := by decide +kernel
theorem d_Wa_findOpenPieces_97 : decode b_Wa_findOpenPieces 97 = .ok (.aload_n 0, 1) := by decide +kernel
theorem d_Wa_findOpenPieces_98 : decode b_Wa_findOpenPieces 98 = .ok (.getfield 15, 3) := by decide +kernel
theorem d_Wa_findOpenPieces_101 : decode b_Wa_findOpenPieces 101 = .ok (.aload_n 0, 1) := by decide +kernel
theorem d_Wa_findOpenPieces_102 : decode b_Wa_findOpenPieces 102 = .ok (.getfield 18, 3) := by decide +kernel
theorem d_Wa_findOpenPieces_105 : decode b_Wa_findOpenPieces 105 = .ok (.iload_n 3, 1) := by decide +kernel
theorem d_Wa_findOpenPieces_106 : decode b_Wa_findOpenPieces 106 = .ok (.iastore, 1) := by decide +kernel
theorem d_Wa_findOpenPieces_107 : decode b_Wa_findOpenPieces 107 = .ok (.aload_n 0, 1) := by decide +kernel
theorem d_Wa_findOpenPieces_108 : decode b_Wa_findOpenPieces 108 = .ok (.dup, 1) := by decide +kernel
theorem d_Wa_findOpenPieces_109 : decode b_Wa_findOpenPieces 109 = .ok (.getfield 18, 3) := by decide +kernel
theorem d_Wa_findOpenPieces_112 : decode b_Wa_findOpenPieces 112 = .ok (.iconst 1, 1) := by decide +kernel
theorem d_Wa_findOpenPieces_113 : decode b_Wa_findOpenPieces 113 = .ok (.iadd, 1) := by decide +kernel
theorem d_Wa_findOpenPieces_114 : decode b_Wa_findOpenPieces 114 = .ok (.putfield 18, 3) := by decide +kernel
theorem d_Wa_findOpenPieces_117 : decode b_Wa_findOpenPieces 117 = .ok (.iinc 3 1, 3) := by decide +kernel
theorem d_Wa_findOpenPieces_120 : decode b_Wa_findOpenPieces 120 = .ok (.goto (-113), 3) := by decide +kernel
theorem d_Wa_findOpenPieces_123 : decode b_Wa_findOpenPieces 123 = .ok (.return_, 1) := by decide +kernel
abbrev wl_Wa_findOpenPieces (a_0 : Nat) (a_0_open : Nat) (a_1 : Nat) (a_1_lowX : Nat) (a_1_lowY : Nat) (a_1_doors : Nat) (a_1_doorFrom : Nat) (a_1_doorTo : Nat) (a_2 : Nat) (a_2_pointX : Nat) (a_2_pointY : Nat) (a_2_pieceLine : Nat) (a_2_begins : Nat) (b_0_far : Nat) (b_1_highX : Nat) (b_1_highY : Nat) (b_1_thickness : Nat) (b_2_looseSides : Nat) (b_2_sidesOut : Nat) (b_2_directions : Nat) (b_2_leftSpaces : Nat) (b_2_weights : Nat) (b_2_pointAt : Nat) (cI : ClassId) (v_0_opens : Int32) (f_0_open : Nat → Int32) (v_1_count : Int32) (f_1_lowX : Nat → Int32) (f_1_lowY : Nat → Int32) (f_1_doors : Nat → Int32) (f_1_doorFrom : Nat → Int32) (f_1_doorTo : Nat → Int32) (v_2_points : Int32) (v_2_pieces : Int32) (v_2_looseEnds : Int32) (f_2_pointX : Nat → Int32) (f_2_pointY : Nat → Int32) (f_2_pieceLine : Nat → Int32) (f_2_begins : Nat → Int32) : va_W := [(a_0, .inr (7, [.ref b_0_far, .ref a_0_open, .int v_0_opens])), (a_0_open, .inl (cI, 220, .inl f_0_open)), (a_1, .inr (1, [.ref a_1_lowX, .ref a_1_lowY, .ref b_1_highX, .ref b_1_highY, .ref b_1_thickness, .ref a_1_doors, .ref a_1_doorFrom, .ref a_1_doorTo, .int v_1_count])), (a_1_lowX, .inl (cI, 20, .inl f_1_lowX)), (a_1_lowY, .inl (cI, 20, .inl f_1_lowY)), (a_1_doors, .inl (cI, 20, .inl f_1_doors)), (a_1_doorFrom, .inl (cI, 120, .inl f_1_doorFrom)), (a_1_doorTo, .inl (cI, 120, .inl f_1_doorTo)), (a_2, .inr (3, [.ref a_2_pointX, .ref a_2_pointY, .ref b_2_looseSides, .int v_2_points, .int v_2_pieces, .int v_2_looseEnds, .ref b_2_sidesOut, .ref a_2_pieceLine, .ref a_2_begins, .ref b_2_directions, .ref b_2_leftSpaces, .ref b_2_weights, .ref b_2_pointAt])), (a_2_pointX, .inl (cI, 140, .inl f_2_pointX)), (a_2_pointY, .inl (cI, 140, .inl f_2_pointY)), (a_2_pieceLine, .inl (cI, 220, .inl f_2_pieceLine)), (a_2_begins, .inl (cI, 440, .inl f_2_begins))]
def m_Wa_findOpenPieces_L7 (f_1_lowX : Nat → Int32) (f_1_lowY : Nat → Int32) (f_1_doors : Nat → Int32) (f_1_doorFrom : Nat → Int32) (f_1_doorTo : Nat → Int32) (v_2_pieces : Int32) (f_2_pointX : Nat → Int32) (f_2_pointY : Nat → Int32) (f_2_pieceLine : Nat → Int32) (f_2_begins : Nat → Int32) : Nat → Int32 → Int32 → (Nat → Int32) → Option ((Int32) × (Nat → Int32))
  | 0, _, _, _ => none
  | n + 1, l3, v_0_opens, f_0_open =>
    if v_2_pieces ≤ l3 then (
      some (v_0_opens, f_0_open))
    else (
      bd1 (m_Ne_lineOf (2 * l3) f_2_pieceLine) fun r2 =>
      bd1 (m_Ne_beginningOf (2 * l3) f_2_begins) fun r4 =>
      gI r4 140 <|
      gI r2 20 <|
      gI r4 140 <|
      gI r2 20 <|
      lt_ ((((f_2_pointX r4.toNatClampNeg) - (f_1_lowX r2.toNatClampNeg)) + (f_2_pointY r4.toNatClampNeg)) - (f_1_lowY r2.toNatClampNeg)) fun x10 =>
      bd2 (
        if 220 ≤ v_0_opens then (
        some (v_0_opens, f_0_open))
      else (
        bd1 (m_Ne_lengthOf (2 * l3) f_2_pointX f_2_pointY f_2_begins) fun r17 =>
        bd1 (m_Li_hasDoorWithin r2 x10 (x10 + r17) f_1_doors f_1_doorFrom f_1_doorTo) fun r19 =>
        if r19 = 0 then (
          some (v_0_opens, f_0_open))
        else (
          gI v_0_opens 220 <|
          lt_ (upd f_0_open v_0_opens.toNatClampNeg l3) fun f23 =>
          lt_ (v_0_opens + 1) fun x24 =>
          some (x24, f23))))
      fun (x14 : Int32) (f15 : Nat → Int32) =>
      lt_ (l3 + 1) fun x25 =>
        m_Wa_findOpenPieces_L7 f_1_lowX f_1_lowY f_1_doors f_1_doorFrom f_1_doorTo v_2_pieces f_2_pointX f_2_pointY f_2_pieceLine f_2_begins n x25 x14 f15)
def m_Wa_findOpenPieces (v_0_opens : Int32) (f_0_open : Nat → Int32) (f_1_lowX : Nat → Int32) (f_1_lowY : Nat → Int32) (f_1_doors : Nat → Int32) (f_1_doorFrom : Nat → Int32) (f_1_doorTo : Nat → Int32) (v_2_pieces : Int32) (f_2_pointX : Nat → Int32) (f_2_pointY : Nat → Int32) (f_2_pieceLine : Nat → Int32) (f_2_begins : Nat → Int32) : Option ((Int32) × (Nat → Int32)) :=
  bd2 (m_Wa_findOpenPieces_L7 f_1_lowX f_1_lowY f_1_doors f_1_doorFrom f_1_doorTo v_2_pieces f_2_pointX f_2_pointY f_2_pieceLine f_2_begins fu 0 0 f_0_open) fun x4 f5 =>
  some (x4, f5)

set_option maxHeartbeats 4000000 in
set_option maxRecDepth 100000 in
theorem t_Wa_findOpenPieces {p : Program} {l : Launch} {e : Env} {s : State} {m : MethodId} {args : Array Value} {below : List Frame} {meth : Method} {c : Code} {A : Nat → Prop} {Q : State → Prop} {dC : Nat → ClassId} {dI : Nat → Nat → Nat} {cI cZ cJ : ClassId} (a_0 a_0_open a_1 a_1_lowX a_1_lowY a_1_doors a_1_doorFrom a_1_doorTo a_2 a_2_pointX a_2_pointY a_2_pieceLine a_2_begins b_0_far b_1_highX b_1_highY b_1_thickness b_2_looseSides b_2_sidesOut b_2_directions b_2_leftSpaces b_2_weights b_2_pointAt : Nat) (v_0_opens : Int32) (f_0_open : Nat → Int32) (v_1_count : Int32) (f_1_lowX : Nat → Int32) (f_1_lowY : Nat → Int32) (f_1_doors : Nat → Int32) (f_1_doorFrom : Nat → Int32) (f_1_doorTo : Nat → Int32) (v_2_points : Int32) (v_2_pieces : Int32) (v_2_looseEnds : Int32) (f_2_pointX : Nat → Int32) (f_2_pointY : Nat → Int32) (f_2_pieceLine : Nat → Int32) (f_2_begins : Nat → Int32)  (ov_0_opens : Int32) (of_0_open : Nat → Int32) (hx : p.tables.exec = Jvm.exec) (hb : c.code = b_Wa_findOpenPieces) (hml : c.maxLocals = 7) (hown : s.vm.findClass "SpaceCycles$Ways" = some m.cls) (hts : ∀ w ∈ w_Wa_findOpenPieces, w.before args s = true) (hK : va_K (dC, dI) vwCl [(cI, .int), (cZ, .boolean), (cJ, .long)] s) (hN : NX s) (hA : ∀ q : Nat, s.heap.size ≤ q → A q)
    (hret : ∀ (pc : Nat) (H : Heap) (locs : List Loc) (ls : Array Slot), decode b_Wa_findOpenPieces pc = .ok (.return_, 1) → va_P (dC, dI) vwCl (wl_Wa_findOpenPieces a_0 a_0_open a_1 a_1_lowX a_1_lowY a_1_doors a_1_doorFrom a_1_doorTo a_2 a_2_pointX a_2_pointY a_2_pieceLine a_2_begins b_0_far b_1_highX b_1_highY b_1_thickness b_2_looseSides b_2_sidesOut b_2_directions b_2_leftSpaces b_2_weights b_2_pointAt cI ov_0_opens of_0_open v_1_count f_1_lowX f_1_lowY f_1_doors f_1_doorFrom f_1_doorTo v_2_points v_2_pieces v_2_looseEnds f_2_pointX f_2_pointY f_2_pieceLine f_2_begins) H → va_D A (wl_Wa_findOpenPieces a_0 a_0_open a_1 a_1_lowX a_1_lowY a_1_doors a_1_doorFrom a_1_doorTo a_2 a_2_pointX a_2_pointY a_2_pieceLine a_2_begins b_0_far b_1_highX b_1_highY b_1_thickness b_2_looseSides b_2_sidesOut b_2_directions b_2_leftSpaces b_2_weights b_2_pointAt cI ov_0_opens of_0_open v_1_count f_1_lowX f_1_lowY f_1_doors f_1_doorFrom f_1_doorTo v_2_points v_2_pieces v_2_looseEnds f_2_pointX f_2_pointY f_2_pieceLine f_2_begins) → va_S A s.heap H locs → W p l e rm_Wa_findOpenPieces s m args below meth c H locs 0 0 Q (F0 m pc ls []))
    (hm : m_Wa_findOpenPieces v_0_opens f_0_open f_1_lowX f_1_lowY f_1_doors f_1_doorFrom f_1_doorTo v_2_pieces f_2_pointX f_2_pointY f_2_pieceLine f_2_begins = some (ov_0_opens, of_0_open)) : ∀ (H : Heap) (locs : List Loc) (ls : Array Slot), va_P (dC, dI) vwCl (wl_Wa_findOpenPieces a_0 a_0_open a_1 a_1_lowX a_1_lowY a_1_doors a_1_doorFrom a_1_doorTo a_2 a_2_pointX a_2_pointY a_2_pieceLine a_2_begins b_0_far b_1_highX b_1_highY b_1_thickness b_2_looseSides b_2_sidesOut b_2_directions b_2_leftSpaces b_2_weights b_2_pointAt cI v_0_opens f_0_open v_1_count f_1_lowX f_1_lowY f_1_doors f_1_doorFrom f_1_doorTo v_2_points v_2_pieces v_2_looseEnds f_2_pointX f_2_pointY f_2_pieceLine f_2_begins) H → va_D A (wl_Wa_findOpenPieces a_0 a_0_open a_1 a_1_lowX a_1_lowY a_1_doors a_1_doorFrom a_1_doorTo a_2 a_2_pointX a_2_pointY a_2_pieceLine a_2_begins b_0_far b_1_highX b_1_highY b_1_thickness b_2_looseSides b_2_sidesOut b_2_directions b_2_leftSpaces b_2_weights b_2_pointAt cI v_0_opens f_0_open v_1_count f_1_lowX f_1_lowY f_1_doors f_1_doorFrom f_1_doorTo v_2_points v_2_pieces v_2_looseEnds f_2_pointX f_2_pointY f_2_pieceLine f_2_begins) → va_S A s.heap H locs → lv_has ls 7 [(0, .ref a_0), (1, .ref a_1), (2, .ref a_2)] → W p l e rm_Wa_findOpenPieces s m args below meth c H locs 0 0 Q (F0 m 0 ls []) := by
  intro H locs ls hP hD hS hl
  unfold m_Wa_findOpenPieces at hm
  refine lv_aload_n hx hb d_Wa_findOpenPieces_0 rfl (lv_at hl 0 rfl) ?_
  refine lv_iconst (v := 0) hx hb d_Wa_findOpenPieces_1 (by decide) ?_
  refine va_put (D := (dC, dI)) (ci := 7) (v := .int 0) (ty := .int) (C := "SpaceCycles$Ways") (T := F_Wa) (N := 3) hx hb hts (in_F i_Wa) t_Wa t_Wa_ok n_Wa hown hK hP hD hS 0 rfl rfl 2 (by decide) (hts _ (in_c k_243)) (fun _ h9 => h9) rfl (by decide +kernel) rfl rfl (Nat.le_of_ble_eq_true rfl) d_Wa_findOpenPieces_2 (fun H locs hP hD hS => ?_)
  have hP : va_P (dC, dI) vwCl (wl_Wa_findOpenPieces a_0 a_0_open a_1 a_1_lowX a_1_lowY a_1_doors a_1_doorFrom a_1_doorTo a_2 a_2_pointX a_2_pointY a_2_pieceLine a_2_begins b_0_far b_1_highX b_1_highY b_1_thickness b_2_looseSides b_2_sidesOut b_2_directions b_2_leftSpaces b_2_weights b_2_pointAt cI 0 f_0_open v_1_count f_1_lowX f_1_lowY f_1_doors f_1_doorFrom f_1_doorTo v_2_points v_2_pieces v_2_looseEnds f_2_pointX f_2_pointY f_2_pieceLine f_2_begins) H := hP
  have hD : va_D A (wl_Wa_findOpenPieces a_0 a_0_open a_1 a_1_lowX a_1_lowY a_1_doors a_1_doorFrom a_1_doorTo a_2 a_2_pointX a_2_pointY a_2_pieceLine a_2_begins b_0_far b_1_highX b_1_highY b_1_thickness b_2_looseSides b_2_sidesOut b_2_directions b_2_leftSpaces b_2_weights b_2_pointAt cI 0 f_0_open v_1_count f_1_lowX f_1_lowY f_1_doors f_1_doorFrom f_1_doorTo v_2_points v_2_pieces v_2_looseEnds f_2_pointX f_2_pointY f_2_pieceLine f_2_begins) := hD
  refine lv_iconst (v := 0) hx hb d_Wa_findOpenPieces_5 (by decide) ?_
  refine lv_istore_n (lv' := [(3, .int 0), (0, .ref a_0), (1, .ref a_1), (2, .ref a_2)]) hx hb d_Wa_findOpenPieces_6 rfl hl (by decide) rfl (fun ls hl => ?_)
  have L7_6 : ∀ (n : Nat) (x1 : Int32) (x2 : Int32) (f3 : Nat → Int32) (x4 : Int32) (f5 : Nat → Int32), m_Wa_findOpenPieces_L7 f_1_lowX f_1_lowY f_1_doors f_1_doorFrom f_1_doorTo v_2_pieces f_2_pointX f_2_pointY f_2_pieceLine f_2_begins n x1 x2 f3 = some (x4, f5) → (∀ (H : Heap) (locs : List Loc) (ls : Array Slot), va_P (dC, dI) vwCl (wl_Wa_findOpenPieces a_0 a_0_open a_1 a_1_lowX a_1_lowY a_1_doors a_1_doorFrom a_1_doorTo a_2 a_2_pointX a_2_pointY a_2_pieceLine a_2_begins b_0_far b_1_highX b_1_highY b_1_thickness b_2_looseSides b_2_sidesOut b_2_directions b_2_leftSpaces b_2_weights b_2_pointAt cI x4 f5 v_1_count f_1_lowX f_1_lowY f_1_doors f_1_doorFrom f_1_doorTo v_2_points v_2_pieces v_2_looseEnds f_2_pointX f_2_pointY f_2_pieceLine f_2_begins) H → va_D A (wl_Wa_findOpenPieces a_0 a_0_open a_1 a_1_lowX a_1_lowY a_1_doors a_1_doorFrom a_1_doorTo a_2 a_2_pointX a_2_pointY a_2_pieceLine a_2_begins b_0_far b_1_highX b_1_highY b_1_thickness b_2_looseSides b_2_sidesOut b_2_directions b_2_leftSpaces b_2_weights b_2_pointAt cI x4 f5 v_1_count f_1_lowX f_1_lowY f_1_doors f_1_doorFrom f_1_doorTo v_2_points v_2_pieces v_2_looseEnds f_2_pointX f_2_pointY f_2_pieceLine f_2_begins) → va_S A s.heap H locs → lv_has ls 7 [] → W p l e rm_Wa_findOpenPieces s m args below meth c H locs 0 0 Q (F0 m 123 ls [])) → ∀ (H : Heap) (locs : List Loc) (ls : Array Slot), va_P (dC, dI) vwCl (wl_Wa_findOpenPieces a_0 a_0_open a_1 a_1_lowX a_1_lowY a_1_doors a_1_doorFrom a_1_doorTo a_2 a_2_pointX a_2_pointY a_2_pieceLine a_2_begins b_0_far b_1_highX b_1_highY b_1_thickness b_2_looseSides b_2_sidesOut b_2_directions b_2_leftSpaces b_2_weights b_2_pointAt cI x2 f3 v_1_count f_1_lowX f_1_lowY f_1_doors f_1_doorFrom f_1_doorTo v_2_points v_2_pieces v_2_looseEnds f_2_pointX f_2_pointY f_2_pieceLine f_2_begins) H → va_D A (wl_Wa_findOpenPieces a_0 a_0_open a_1 a_1_lowX a_1_lowY a_1_doors a_1_doorFrom a_1_doorTo a_2 a_2_pointX a_2_pointY a_2_pieceLine a_2_begins b_0_far b_1_highX b_1_highY b_1_thickness b_2_looseSides b_2_sidesOut b_2_directions b_2_leftSpaces b_2_weights b_2_pointAt cI x2 f3 v_1_count f_1_lowX f_1_lowY f_1_doors f_1_doorFrom f_1_doorTo v_2_points v_2_pieces v_2_looseEnds f_2_pointX f_2_pointY f_2_pieceLine f_2_begins) → va_S A s.heap H locs → lv_has ls 7 [(0, .ref a_0), (1, .ref a_1), (2, .ref a_2), (3, .int x1)] → W p l e rm_Wa_findOpenPieces s m args below meth c H locs 0 0 Q (F0 m 7 ls []) := by
    intro n
    induction n with
    | zero => intro x1 x2 f3 x4 f5 hm; simp [m_Wa_findOpenPieces_L7] at hm
    | succ n ih =>
      intro x1 x2 f3 x4 f5 hm KE H locs ls hP hD hS hl
      rw [m_Wa_findOpenPieces_L7] at hm
      refine lv_iload_n hx hb d_Wa_findOpenPieces_7 rfl (lv_at hl 3 rfl) ?_
      refine lv_aload_n hx hb d_Wa_findOpenPieces_8 rfl (lv_at hl 2 rfl) ?_
      refine va_get (D := (dC, dI)) (ci := 3) (v := .int v_2_pieces) (C := "SpaceCycles$Net") (T := F_Ne) (N := 13) hx hb hts (in_F i_Ne) hown hK hP 8 rfl rfl 4 (by decide) (hts _ (in_c k_244)) (fun _ h9 => h9) rfl d_Wa_findOpenPieces_9 ?_
      refine lv_icmp_ge (tgt := 123) hx hb d_Wa_findOpenPieces_12 (by decide) (fun c7 => ?_) (fun c7 => ?_)
      · replace hm := if_t hm c7
        cases hm
        exact KE H locs ls hP hD hS (lv_sub hl [] rfl)
      · replace hm := if_f hm c7
        refine lv_aload_n hx hb d_Wa_findOpenPieces_15 rfl (lv_at hl 2 rfl) ?_
        refine lv_iconst (v := 2) hx hb d_Wa_findOpenPieces_16 (by decide) ?_
        refine lv_iload_n hx hb d_Wa_findOpenPieces_17 rfl (lv_at hl 3 rfl) ?_
        refine lv_imul hx hb d_Wa_findOpenPieces_18 ?_
        obtain ⟨r8, hb9, hm⟩ := bd1_e hm
        have hPc := hP.sub (ws' := (wl_Ne_lineOf a_2 a_2_pieceLine a_2_pointX a_2_pointY b_2_looseSides b_2_sidesOut a_2_begins b_2_directions b_2_leftSpaces b_2_weights b_2_pointAt cI v_2_points v_2_pieces v_2_looseEnds f_2_pieceLine)) [8, 11] rfl
        have hDc := hD.sub (ws' := (wl_Ne_lineOf a_2 a_2_pieceLine a_2_pointX a_2_pointY b_2_looseSides b_2_sidesOut a_2_begins b_2_directions b_2_leftSpaces b_2_weights b_2_pointAt cI v_2_points v_2_pieces v_2_looseEnds f_2_pieceLine)) [8, 11] (by decide) rfl
        refine cl_i (wc' := (wl_Ne_lineOf a_2 a_2_pieceLine a_2_pointX a_2_pointY b_2_looseSides b_2_sidesOut a_2_begins b_2_directions b_2_leftSpaces b_2_weights b_2_pointAt cI v_2_points v_2_pieces v_2_looseEnds f_2_pieceLine)) (va_runV (As := [.int (2 * x1)]) (rest := []) ⟨hx, hb, hml, hown, hts⟩ (c_Ne_lineOf l dC dI (cI := cI) (cZ := cZ) (cJ := cJ) a_2 a_2_pieceLine a_2_pointX a_2_pointY b_2_looseSides b_2_sidesOut a_2_begins b_2_directions b_2_leftSpaces b_2_weights b_2_pointAt H.size v_2_points v_2_pieces v_2_looseEnds f_2_pieceLine (2 * x1) r8 hb9) (cwV 1 hts (gl_V k_245 k_215 k_214 k_145 k_213) rfl rfl rfl (by decide +kernel) ⟨Nat.le_of_ble_eq_true rfl, Nat.le_of_ble_eq_true rfl⟩) ⟨PP_blind, va_recv hK hPc (ci := 3) (q0 := 0) rfl rfl, fun U hU hW => PP_at hK hN hPc hDc hU hW⟩ rfl rfl hl.1 rfl (lv_room (Nat.le_of_ble_eq_true rfl)) d_Wa_findOpenPieces_19 ⟨Nat.zero_le _, Nat.zero_le _⟩) hP hD hS hA [8, 11] [0, 1, 2, 3, 4, 5, 6, 7, 9, 10, 12] rfl rfl (by decide) (by decide) (fun H locs hP hD hS => ?_)
        have hP : va_P (dC, dI) vwCl (wl_Wa_findOpenPieces a_0 a_0_open a_1 a_1_lowX a_1_lowY a_1_doors a_1_doorFrom a_1_doorTo a_2 a_2_pointX a_2_pointY a_2_pieceLine a_2_begins b_0_far b_1_highX b_1_highY b_1_thickness b_2_looseSides b_2_sidesOut b_2_directions b_2_leftSpaces b_2_weights b_2_pointAt cI x2 f3 v_1_count f_1_lowX f_1_lowY f_1_doors f_1_doorFrom f_1_doorTo v_2_points v_2_pieces v_2_looseEnds f_2_pointX f_2_pointY f_2_pieceLine f_2_begins) H := hP.sub [0, 1, 2, 3, 4, 5, 6, 7, 11, 8, 9, 12, 10] rfl
        have hD : va_D A (wl_Wa_findOpenPieces a_0 a_0_open a_1 a_1_lowX a_1_lowY a_1_doors a_1_doorFrom a_1_doorTo a_2 a_2_pointX a_2_pointY a_2_pieceLine a_2_begins b_0_far b_1_highX b_1_highY b_1_thickness b_2_looseSides b_2_sidesOut b_2_directions b_2_leftSpaces b_2_weights b_2_pointAt cI x2 f3 v_1_count f_1_lowX f_1_lowY f_1_doors f_1_doorFrom f_1_doorTo v_2_points v_2_pieces v_2_looseEnds f_2_pointX f_2_pointY f_2_pieceLine f_2_begins) := hD.sub [0, 1, 2, 3, 4, 5, 6, 7, 11, 8, 9, 12, 10] (by decide) rfl
        refine lv_istore (lv' := [(4, .int r8), (0, .ref a_0), (1, .ref a_1), (2, .ref a_2), (3, .int x1)]) hx hb d_Wa_findOpenPieces_22 hl (by decide) rfl (fun ls hl => ?_)
        refine lv_aload_n hx hb d_Wa_findOpenPieces_24 rfl (lv_at hl 3 rfl) ?_
        refine lv_iconst (v := 2) hx hb d_Wa_findOpenPieces_25 (by decide) ?_
        refine lv_iload_n hx hb d_Wa_findOpenPieces_26 rfl (lv_at hl 4 rfl) ?_
        refine lv_imul hx hb d_Wa_findOpenPieces_27 ?_
        obtain ⟨r10, hb11, hm⟩ := bd1_e hm
        have hPc := hP.sub (ws' := (wl_Ne_beginningOf a_2 a_2_begins a_2_pointX a_2_pointY b_2_looseSides b_2_sidesOut a_2_pieceLine b_2_directions b_2_leftSpaces b_2_weights b_2_pointAt cI v_2_points v_2_pieces v_2_looseEnds f_2_begins)) [8, 12] rfl
        have hDc := hD.sub (ws' := (wl_Ne_beginningOf a_2 a_2_begins a_2_pointX a_2_pointY b_2_looseSides b_2_sidesOut a_2_pieceLine b_2_directions b_2_leftSpaces b_2_weights b_2_pointAt cI v_2_points v_2_pieces v_2_looseEnds f_2_begins)) [8, 12] (by decide) rfl
        refine cl_i (wc' := (wl_Ne_beginningOf a_2 a_2_begins a_2_pointX a_2_pointY b_2_looseSides b_2_sidesOut a_2_pieceLine b_2_directions b_2_leftSpaces b_2_weights b_2_pointAt cI v_2_points v_2_pieces v_2_looseEnds f_2_begins)) (va_runV (As := [.int (2 * x1)]) (rest := []) ⟨hx, hb, hml, hown, hts⟩ (c_Ne_beginningOf l dC dI (cI := cI) (cZ := cZ) (cJ := cJ) a_2 a_2_begins a_2_pointX a_2_pointY b_2_looseSides b_2_sidesOut a_2_pieceLine b_2_directions b_2_leftSpaces b_2_weights b_2_pointAt H.size v_2_points v_2_pieces v_2_looseEnds f_2_begins (2 * x1) r10 hb11) (cwV 1 hts (gl_V k_249 k_248 k_247 k_145 k_246) rfl rfl rfl (by decide +kernel) ⟨Nat.le_of_ble_eq_true rfl, Nat.le_of_ble_eq_true rfl⟩) ⟨PP_blind, va_recv hK hPc (ci := 3) (q0 := 0) rfl rfl, fun U hU hW => PP_at hK hN hPc hDc hU hW⟩ rfl rfl hl.1 rfl (lv_room (Nat.le_of_ble_eq_true rfl)) d_Wa_findOpenPieces_28 ⟨Nat.zero_le _, Nat.zero_le _⟩) hP hD hS hA [8, 12] [0, 1, 2, 3, 4, 5, 6, 7, 9, 10, 11] rfl rfl (by decide) (by decide) (fun H locs hP hD hS => ?_)
        have hP : va_P (dC, dI) vwCl (wl_Wa_findOpenPieces a_0 a_0_open a_1 a_1_lowX a_1_lowY a_1_doors a_1_doorFrom a_1_doorTo a_2 a_2_pointX a_2_pointY a_2_pieceLine a_2_begins b_0_far b_1_highX b_1_highY b_1_thickness b_2_looseSides b_2_sidesOut b_2_directions b_2_leftSpaces b_2_weights b_2_pointAt cI x2 f3 v_1_count f_1_lowX f_1_lowY f_1_doors f_1_doorFrom f_1_doorTo v_2_points v_2_pieces v_2_looseEnds f_2_pointX f_2_pointY f_2_pieceLine f_2_begins) H := hP.sub [0, 1, 2, 3, 4, 5, 6, 7, 11, 8, 9, 10, 12] rfl
        have hD : va_D A (wl_Wa_findOpenPieces a_0 a_0_open a_1 a_1_lowX a_1_lowY a_1_doors a_1_doorFrom a_1_doorTo a_2 a_2_pointX a_2_pointY a_2_pieceLine a_2_begins b_0_far b_1_highX b_1_highY b_1_thickness b_2_looseSides b_2_sidesOut b_2_directions b_2_leftSpaces b_2_weights b_2_pointAt cI x2 f3 v_1_count f_1_lowX f_1_lowY f_1_doors f_1_doorFrom f_1_doorTo v_2_points v_2_pieces v_2_looseEnds f_2_pointX f_2_pointY f_2_pieceLine f_2_begins) := hD.sub [0, 1, 2, 3, 4, 5, 6, 7, 11, 8, 9, 10, 12] (by decide) rfl
        refine lv_istore (lv' := [(5, .int r10), (4, .int r8), (0, .ref a_0), (1, .ref a_1), (2, .ref a_2), (3, .int x1)]) hx hb d_Wa_findOpenPieces_31 hl (by decide) rfl (fun ls hl => ?_)
        refine lv_aload_n hx hb d_Wa_findOpenPieces_33 rfl (lv_at hl 4 rfl) ?_
        refine va_get (D := (dC, dI)) (ci := 3) (v := .ref a_2_pointX) (C := "SpaceCycles$Net") (T := F_Ne) (N := 13) hx hb hts (in_F i_Ne) hown hK hP 8 rfl rfl 0 (by decide) (hts _ (in_c k_250)) (fun _ h9 => h9) rfl d_Wa_findOpenPieces_34 ?_
        refine lv_iload hx hb d_Wa_findOpenPieces_37 (lv_at hl 0 rfl) ?_
        obtain ⟨hi12, hm⟩ := gI_e hm
        refine va_iald hx hb hK hP 9 0 rfl rfl hi12 d_Wa_findOpenPieces_39 ?_
        refine lv_aload_n hx hb d_Wa_findOpenPieces_40 rfl (lv_at hl 3 rfl) ?_
        refine va_get (D := (dC, dI)) (ci := 1) (v := .ref a_1_lowX) (C := "SpaceCycles$Lines") (T := F_Li) (N := 9) hx hb hts (in_F i_Li) hown hK hP 2 rfl rfl 0 (by decide) (hts _ (in_c k_251)) (fun _ h9 => h9) rfl d_Wa_findOpenPieces_41 ?_
        refine lv_iload hx hb d_Wa_findOpenPieces_44 (lv_at hl 1 rfl) ?_
        obtain ⟨hi13, hm⟩ := gI_e hm
        refine va_iald hx hb hK hP 3 0 rfl rfl hi13 d_Wa_findOpenPieces_46 ?_
        refine lv_isub hx hb d_Wa_findOpenPieces_47 ?_
        refine lv_aload_n hx hb d_Wa_findOpenPieces_48 rfl (lv_at hl 4 rfl) ?_
        refine va_get (D := (dC, dI)) (ci := 3) (v := .ref a_2_pointY) (C := "SpaceCycles$Net") (T := F_Ne) (N := 13) hx hb hts (in_F i_Ne) hown hK hP 8 rfl rfl 1 (by decide) (hts _ (in_c k_252)) (fun _ h9 => h9) rfl d_Wa_findOpenPieces_49 ?_
        refine lv_iload hx hb d_Wa_findOpenPieces_52 (lv_at hl 0 rfl) ?_
        obtain ⟨hi14, hm⟩ := gI_e hm
        refine va_iald hx hb hK hP 10 0 rfl rfl hi14 d_Wa_findOpenPieces_54 ?_
        refine lv_iadd hx hb d_Wa_findOpenPieces_55 ?_
        refine lv_aload_n hx hb d_Wa_findOpenPieces_56 rfl (lv_at hl 3 rfl) ?_
        refine va_get (D := (dC, dI)) (ci := 1) (v := .ref a_1_lowY) (C := "SpaceCycles$Lines") (T := F_Li) (N := 9) hx hb hts (in_F i_Li) hown hK hP 2 rfl rfl 1 (by decide) (hts _ (in_c k_253)) (fun _ h9 => h9) rfl d_Wa_findOpenPieces_57 ?_
        refine lv_iload hx hb d_Wa_findOpenPieces_60 (lv_at hl 1 rfl) ?_
        obtain ⟨hi15, hm⟩ := gI_e hm
        refine va_iald hx hb hK hP 4 0 rfl rfl hi15 d_Wa_findOpenPieces_62 ?_
        refine lv_isub hx hb d_Wa_findOpenPieces_63 ?_
        refine lv_topi (fun x16 ex16 => ?_)
        replace hm := lt_el hm ex16
        refine lv_istore (lv' := [(6, .int x16), (5, .int r10), (4, .int r8), (0, .ref a_0), (1, .ref a_1), (2, .ref a_2), (3, .int x1)]) hx hb d_Wa_findOpenPieces_64 hl (by decide) rfl (fun ls hl => ?_)
        refine lv_aload_n hx hb d_Wa_findOpenPieces_66 rfl (lv_at hl 3 rfl) ?_
        refine va_get (D := (dC, dI)) (ci := 7) (v := .int x2) (C := "SpaceCycles$Ways") (T := F_Wa) (N := 3) hx hb hts (in_F i_Wa) hown hK hP 0 rfl rfl 2 (by decide) (hts _ (in_c k_243)) (fun _ h9 => h9) rfl d_Wa_findOpenPieces_67 ?_
        refine lv_sipush (v := 220) hx hb d_Wa_findOpenPieces_70 (by decide) ?_
        obtain ⟨x20, f21, hb18, hm⟩ := bd2_e hm
        have K17 : ∀ (H : Heap) (locs : List Loc) (ls : Array Slot), va_P (dC, dI) vwCl (wl_Wa_findOpenPieces a_0 a_0_open a_1 a_1_lowX a_1_lowY a_1_doors a_1_doorFrom a_1_doorTo a_2 a_2_pointX a_2_pointY a_2_pieceLine a_2_begins b_0_far b_1_highX b_1_highY b_1_thickness b_2_looseSides b_2_sidesOut b_2_directions b_2_leftSpaces b_2_weights b_2_pointAt cI x20 f21 v_1_count f_1_lowX f_1_lowY f_1_doors f_1_doorFrom f_1_doorTo v_2_points v_2_pieces v_2_looseEnds f_2_pointX f_2_pointY f_2_pieceLine f_2_begins) H → va_D A (wl_Wa_findOpenPieces a_0 a_0_open a_1 a_1_lowX a_1_lowY a_1_doors a_1_doorFrom a_1_doorTo a_2 a_2_pointX a_2_pointY a_2_pieceLine a_2_begins b_0_far b_1_highX b_1_highY b_1_thickness b_2_looseSides b_2_sidesOut b_2_directions b_2_leftSpaces b_2_weights b_2_pointAt cI x20 f21 v_1_count f_1_lowX f_1_lowY f_1_doors f_1_doorFrom f_1_doorTo v_2_points v_2_pieces v_2_looseEnds f_2_pointX f_2_pointY f_2_pieceLine f_2_begins) → va_S A s.heap H locs → lv_has ls 7 [(0, .ref a_0), (1, .ref a_1), (2, .ref a_2), (3, .int x1)] → W p l e rm_Wa_findOpenPieces s m args below meth c H locs 0 0 Q (F0 m 117 ls []) := by
          intro H locs ls hP hD hS hl
          obtain ⟨x31, ex31⟩ : ∃ y : Int32, y = x1 + 1 := ⟨_, rfl⟩
          replace hm := lt_el hm ex31
          refine lv_iinc (v := x31) (lv' := [(3, .int x31), (0, .ref a_0), (1, .ref a_1), (2, .ref a_2)]) hx hb d_Wa_findOpenPieces_117 hl (k := 3) rfl (by rw [ex31]; rfl) (by decide) rfl (fun ls hl => ?_)
          refine lv_goto (tgt := 7) hx hb d_Wa_findOpenPieces_120 (by decide) ?_
          exact ih _ _ _ _ _ hm KE H locs ls hP hD hS (lv_sub hl [1, 2, 3, 0] rfl)
        replace hm := hb18
        refine lv_icmp_ge (tgt := 117) hx hb d_Wa_findOpenPieces_73 (by decide) (fun c22 => ?_) (fun c22 => ?_)
        · replace hm := if_t hm c22
          cases hm
          exact K17 H locs ls hP hD hS (lv_sub hl [3, 4, 5, 6] rfl)
        · replace hm := if_f hm c22
          refine lv_aload_n hx hb d_Wa_findOpenPieces_76 rfl (lv_at hl 4 rfl) ?_
          refine lv_iload hx hb d_Wa_findOpenPieces_77 (lv_at hl 2 rfl) ?_
          refine lv_iload hx hb d_Wa_findOpenPieces_79 (lv_at hl 0 rfl) ?_
          refine lv_iload hx hb d_Wa_findOpenPieces_81 (lv_at hl 0 rfl) ?_
          refine lv_aload_n hx hb d_Wa_findOpenPieces_83 rfl (lv_at hl 5 rfl) ?_
          refine lv_iconst (v := 2) hx hb d_Wa_findOpenPieces_84 (by decide) ?_
          refine lv_iload_n hx hb d_Wa_findOpenPieces_85 rfl (lv_at hl 6 rfl) ?_
          refine lv_imul hx hb d_Wa_findOpenPieces_86 ?_
          obtain ⟨r23, hb24, hm⟩ := bd1_e hm
          have hPc := hP.sub (ws' := (wl_Ne_lengthOf a_2 a_2_pointX a_2_pointY a_2_begins b_2_looseSides b_2_sidesOut a_2_pieceLine b_2_directions b_2_leftSpaces b_2_weights b_2_pointAt cI v_2_points v_2_pieces v_2_looseEnds f_2_pointX f_2_pointY f_2_begins)) [8, 9, 10, 12] rfl
          have hDc := hD.sub (ws' := (wl_Ne_lengthOf a_2 a_2_pointX a_2_pointY a_2_begins b_2_looseSides b_2_sidesOut a_2_pieceLine b_2_directions b_2_leftSpaces b_2_weights b_2_pointAt cI v_2_points v_2_pieces v_2_looseEnds f_2_pointX f_2_pointY f_2_begins)) [8, 9, 10, 12] (by decide) rfl
          refine cl_i (wc' := (wl_Ne_lengthOf a_2 a_2_pointX a_2_pointY a_2_begins b_2_looseSides b_2_sidesOut a_2_pieceLine b_2_directions b_2_leftSpaces b_2_weights b_2_pointAt cI v_2_points v_2_pieces v_2_looseEnds f_2_pointX f_2_pointY f_2_begins)) (va_runV (As := [.int (2 * x1)]) (rest := [.int x16, .int x16, .int r8, .ref a_1]) ⟨hx, hb, hml, hown, hts⟩ (c_Ne_lengthOf l dC dI (cI := cI) (cZ := cZ) (cJ := cJ) a_2 a_2_pointX a_2_pointY a_2_begins b_2_looseSides b_2_sidesOut a_2_pieceLine b_2_directions b_2_leftSpaces b_2_weights b_2_pointAt H.size v_2_points v_2_pieces v_2_looseEnds f_2_pointX f_2_pointY f_2_begins (2 * x1) r23 hb24) (cwV 1 hts (gl_V k_254 k_210 k_209 k_145 k_208) rfl rfl rfl (by decide +kernel) ⟨Nat.le_of_ble_eq_true rfl, Nat.le_of_ble_eq_true rfl⟩) ⟨PP_blind, va_recv hK hPc (ci := 3) (q0 := 0) rfl rfl, fun U hU hW => PP_at hK hN hPc hDc hU hW⟩ rfl rfl hl.1 rfl (lv_room (Nat.le_of_ble_eq_true rfl)) d_Wa_findOpenPieces_87 ⟨Nat.zero_le _, Nat.zero_le _⟩) hP hD hS hA [8, 9, 10, 12] [0, 1, 2, 3, 4, 5, 6, 7, 11] rfl rfl (by decide) (by decide) (fun H locs hP hD hS => ?_)
          have hP : va_P (dC, dI) vwCl (wl_Wa_findOpenPieces a_0 a_0_open a_1 a_1_lowX a_1_lowY a_1_doors a_1_doorFrom a_1_doorTo a_2 a_2_pointX a_2_pointY a_2_pieceLine a_2_begins b_0_far b_1_highX b_1_highY b_1_thickness b_2_looseSides b_2_sidesOut b_2_directions b_2_leftSpaces b_2_weights b_2_pointAt cI x2 f3 v_1_count f_1_lowX f_1_lowY f_1_doors f_1_doorFrom f_1_doorTo v_2_points v_2_pieces v_2_looseEnds f_2_pointX f_2_pointY f_2_pieceLine f_2_begins) H := hP.sub [0, 1, 2, 3, 4, 5, 6, 7, 9, 10, 11, 8, 12] rfl
          have hD : va_D A (wl_Wa_findOpenPieces a_0 a_0_open a_1 a_1_lowX a_1_lowY a_1_doors a_1_doorFrom a_1_doorTo a_2 a_2_pointX a_2_pointY a_2_pieceLine a_2_begins b_0_far b_1_highX b_1_highY b_1_thickness b_2_looseSides b_2_sidesOut b_2_directions b_2_leftSpaces b_2_weights b_2_pointAt cI x2 f3 v_1_count f_1_lowX f_1_lowY f_1_doors f_1_doorFrom f_1_doorTo v_2_points v_2_pieces v_2_looseEnds f_2_pointX f_2_pointY f_2_pieceLine f_2_begins) := hD.sub [0, 1, 2, 3, 4, 5, 6, 7, 9, 10, 11, 8, 12] (by decide) rfl
          refine lv_iadd hx hb d_Wa_findOpenPieces_90 ?_
          obtain ⟨r25, hb26, hm⟩ := bd1_e hm
          have hPc := hP.sub (ws' := (wl_Li_hasDoorWithin a_1 a_1_doors a_1_doorFrom a_1_doorTo a_1_lowX a_1_lowY b_1_highX b_1_highY b_1_thickness cI v_1_count f_1_doors f_1_doorFrom f_1_doorTo)) [2, 5, 6, 7] rfl
          have hDc := hD.sub (ws' := (wl_Li_hasDoorWithin a_1 a_1_doors a_1_doorFrom a_1_doorTo a_1_lowX a_1_lowY b_1_highX b_1_highY b_1_thickness cI v_1_count f_1_doors f_1_doorFrom f_1_doorTo)) [2, 5, 6, 7] (by decide) rfl
          refine cl_i (wc' := (wl_Li_hasDoorWithin a_1 a_1_doors a_1_doorFrom a_1_doorTo a_1_lowX a_1_lowY b_1_highX b_1_highY b_1_thickness cI v_1_count f_1_doors f_1_doorFrom f_1_doorTo)) (va_runV (As := [.int r8, .int x16, .int (x16 + r23)]) (rest := []) ⟨hx, hb, hml, hown, hts⟩ (c_Li_hasDoorWithin l dC dI (cI := cI) (cZ := cZ) (cJ := cJ) a_1 a_1_doors a_1_doorFrom a_1_doorTo a_1_lowX a_1_lowY b_1_highX b_1_highY b_1_thickness H.size v_1_count f_1_doors f_1_doorFrom f_1_doorTo r8 x16 (x16 + r23) r25 hb26) (cwV 3 hts (gl_V k_258 k_257 k_256 k_30 k_255) rfl rfl rfl (by decide +kernel) ⟨Nat.le_of_ble_eq_true rfl, Nat.le_of_ble_eq_true rfl⟩) ⟨PP_blind, va_recv hK hPc (ci := 1) (q0 := 0) rfl rfl, fun U hU hW => PP_at hK hN hPc hDc hU hW⟩ rfl rfl hl.1 rfl (lv_room (Nat.le_of_ble_eq_true rfl)) d_Wa_findOpenPieces_91 ⟨Nat.zero_le _, Nat.zero_le _⟩) hP hD hS hA [2, 5, 6, 7] [0, 1, 3, 4, 8, 9, 10, 11, 12] rfl rfl (by decide) (by decide) (fun H locs hP hD hS => ?_)
          have hP : va_P (dC, dI) vwCl (wl_Wa_findOpenPieces a_0 a_0_open a_1 a_1_lowX a_1_lowY a_1_doors a_1_doorFrom a_1_doorTo a_2 a_2_pointX a_2_pointY a_2_pieceLine a_2_begins b_0_far b_1_highX b_1_highY b_1_thickness b_2_looseSides b_2_sidesOut b_2_directions b_2_leftSpaces b_2_weights b_2_pointAt cI x2 f3 v_1_count f_1_lowX f_1_lowY f_1_doors f_1_doorFrom f_1_doorTo v_2_points v_2_pieces v_2_looseEnds f_2_pointX f_2_pointY f_2_pieceLine f_2_begins) H := hP.sub [0, 1, 9, 2, 3, 10, 11, 12, 4, 5, 6, 7, 8] rfl
          have hD : va_D A (wl_Wa_findOpenPieces a_0 a_0_open a_1 a_1_lowX a_1_lowY a_1_doors a_1_doorFrom a_1_doorTo a_2 a_2_pointX a_2_pointY a_2_pieceLine a_2_begins b_0_far b_1_highX b_1_highY b_1_thickness b_2_looseSides b_2_sidesOut b_2_directions b_2_leftSpaces b_2_weights b_2_pointAt cI x2 f3 v_1_count f_1_lowX f_1_lowY f_1_doors f_1_doorFrom f_1_doorTo v_2_points v_2_pieces v_2_looseEnds f_2_pointX f_2_pointY f_2_pieceLine f_2_begins) := hD.sub [0, 1, 9, 2, 3, 10, 11, 12, 4, 5, 6, 7, 8] (by decide) rfl
          refine lv_if_eq (tgt := 117) hx hb d_Wa_findOpenPieces_94 (by decide) (fun c27 => ?_) (fun c27 => ?_)
          · replace hm := if_t hm c27
            cases hm
            exact K17 H locs ls hP hD hS (lv_sub hl [3, 4, 5, 6] rfl)
          · replace hm := if_f hm c27
            refine lv_aload_n hx hb d_Wa_findOpenPieces_97 rfl (lv_at hl 3 rfl) ?_
            refine va_get (D := (dC, dI)) (ci := 7) (v := .ref a_0_open) (C := "SpaceCycles$Ways") (T := F_Wa) (N := 3) hx hb hts (in_F i_Wa) hown hK hP 0 rfl rfl 1 (by decide) (hts _ (in_c k_259)) (fun _ h9 => h9) rfl d_Wa_findOpenPieces_98 ?_
            refine lv_aload_n hx hb d_Wa_findOpenPieces_101 rfl (lv_at hl 3 rfl) ?_
            refine va_get (D := (dC, dI)) (ci := 7) (v := .int x2) (C := "SpaceCycles$Ways") (T := F_Wa) (N := 3) hx hb hts (in_F i_Wa) hown hK hP 0 rfl rfl 2 (by decide) (hts _ (in_c k_243)) (fun _ h9 => h9) rfl d_Wa_findOpenPieces_102 ?_
            refine lv_iload_n hx hb d_Wa_findOpenPieces_105 rfl (lv_at hl 6 rfl) ?_
            obtain ⟨hi28, hm⟩ := gI_e hm
            obtain ⟨f29, ef29⟩ : ∃ y : Nat → Int32, y = upd f3 x2.toNatClampNeg x1 := ⟨_, rfl⟩
            replace hm := lt_el hm ef29
            refine va_iast hx hb hK hP hD hS 1 0 rfl rfl hi28 d_Wa_findOpenPieces_106 (fun H locs hP hD hS => ?_)
            rw [← ef29] at hP hD
            have hP : va_P (dC, dI) vwCl (wl_Wa_findOpenPieces a_0 a_0_open a_1 a_1_lowX a_1_lowY a_1_doors a_1_doorFrom a_1_doorTo a_2 a_2_pointX a_2_pointY a_2_pieceLine a_2_begins b_0_far b_1_highX b_1_highY b_1_thickness b_2_looseSides b_2_sidesOut b_2_directions b_2_leftSpaces b_2_weights b_2_pointAt cI x2 f29 v_1_count f_1_lowX f_1_lowY f_1_doors f_1_doorFrom f_1_doorTo v_2_points v_2_pieces v_2_looseEnds f_2_pointX f_2_pointY f_2_pieceLine f_2_begins) H := hP
            have hD : va_D A (wl_Wa_findOpenPieces a_0 a_0_open a_1 a_1_lowX a_1_lowY a_1_doors a_1_doorFrom a_1_doorTo a_2 a_2_pointX a_2_pointY a_2_pieceLine a_2_begins b_0_far b_1_highX b_1_highY b_1_thickness b_2_looseSides b_2_sidesOut b_2_directions b_2_leftSpaces b_2_weights b_2_pointAt cI x2 f29 v_1_count f_1_lowX f_1_lowY f_1_doors f_1_doorFrom f_1_doorTo v_2_points v_2_pieces v_2_looseEnds f_2_pointX f_2_pointY f_2_pieceLine f_2_begins) := hD
            refine lv_aload_n hx hb d_Wa_findOpenPieces_107 rfl (lv_at hl 3 rfl) ?_
            refine lv_dup hx hb d_Wa_findOpenPieces_108 rfl ?_
            refine va_get (D := (dC, dI)) (ci := 7) (v := .int x2) (C := "SpaceCycles$Ways") (T := F_Wa) (N := 3) hx hb hts (in_F i_Wa) hown hK hP 0 rfl rfl 2 (by decide) (hts _ (in_c k_243)) (fun _ h9 => h9) rfl d_Wa_findOpenPieces_109 ?_
            refine lv_iconst (v := 1) hx hb d_Wa_findOpenPieces_112 (by decide) ?_
            refine lv_iadd hx hb d_Wa_findOpenPieces_113 ?_
            refine lv_topi (fun x30 ex30 => ?_)
            replace hm := lt_el hm ex30
            refine va_put (D := (dC, dI)) (ci := 7) (v := .int x30) (ty := .int) (C := "SpaceCycles$Ways") (T := F_Wa) (N := 3) hx hb hts (in_F i_Wa) t_Wa t_Wa_ok n_Wa hown hK hP hD hS 0 rfl rfl 2 (by decide) (hts _ (in_c k_243)) (fun _ h9 => h9) rfl (by decide +kernel) rfl rfl (Nat.le_of_ble_eq_true rfl) d_Wa_findOpenPieces_114 (fun H locs hP hD hS => ?_)
            have hP : va_P (dC, dI) vwCl (wl_Wa_findOpenPieces a_0 a_0_open a_1 a_1_lowX a_1_lowY a_1_doors a_1_doorFrom a_1_doorTo a_2 a_2_pointX a_2_pointY a_2_pieceLine a_2_begins b_0_far b_1_highX b_1_highY b_1_thickness b_2_looseSides b_2_sidesOut b_2_directions b_2_leftSpaces b_2_weights b_2_pointAt cI x30 f29 v_1_count f_1_lowX f_1_lowY f_1_doors f_1_doorFrom f_1_doorTo v_2_points v_2_pieces v_2_looseEnds f_2_pointX f_2_pointY f_2_pieceLine f_2_begins) H := hP
            have hD : va_D A (wl_Wa_findOpenPieces a_0 a_0_open a_1 a_1_lowX a_1_lowY a_1_doors a_1_doorFrom a_1_doorTo a_2 a_2_pointX a_2_pointY a_2_pieceLine a_2_begins b_0_far b_1_highX b_1_highY b_1_thickness b_2_looseSides b_2_sidesOut b_2_directions b_2_leftSpaces b_2_weights b_2_pointAt cI x30 f29 v_1_count f_1_lowX f_1_lowY f_1_doors f_1_doorFrom f_1_doorTo v_2_points v_2_pieces v_2_looseEnds f_2_pointX f_2_pointY f_2_pieceLine f_2_begins) := hD
            cases hm
            exact K17 H locs ls hP hD hS (lv_sub hl [3, 4, 5, 6] rfl)
  obtain ⟨x4, f5, hb32, hm⟩ := bd2_e hm
  refine L7_6 fu _ _ _ _ _ hb32 (fun H locs ls hP hD hS hl => ?_) H locs ls hP hD hS (lv_sub hl [1, 2, 3, 0] rfl)
  cases hm
  exact hret _ H locs ls d_Wa_findOpenPieces_123 hP hD hS
set_option maxHeartbeats 4000000 in
set_option maxRecDepth 100000 in
theorem c_Wa_findOpenPieces (l : Launch) (dC : Nat → ClassId) (dI : Nat → Nat → Nat) {cI cZ cJ : ClassId} (a_0 a_0_open a_1 a_1_lowX a_1_lowY a_1_doors a_1_doorFrom a_1_doorTo a_2 a_2_pointX a_2_pointY a_2_pieceLine a_2_begins b_0_far b_1_highX b_1_highY b_1_thickness b_2_looseSides b_2_sidesOut b_2_directions b_2_leftSpaces b_2_weights b_2_pointAt : Nat) (sz : Nat) (v_0_opens : Int32) (f_0_open : Nat → Int32) (v_1_count : Int32) (f_1_lowX : Nat → Int32) (f_1_lowY : Nat → Int32) (f_1_doors : Nat → Int32) (f_1_doorFrom : Nat → Int32) (f_1_doorTo : Nat → Int32) (v_2_points : Int32) (v_2_pieces : Int32) (v_2_looseEnds : Int32) (f_2_pointX : Nat → Int32) (f_2_pointY : Nat → Int32) (f_2_pieceLine : Nat → Int32) (f_2_begins : Nat → Int32)  (ov_0_opens : Int32) (of_0_open : Nat → Int32) (hm : m_Wa_findOpenPieces v_0_opens f_0_open f_1_lowX f_1_lowY f_1_doors f_1_doorFrom f_1_doorTo v_2_pieces f_2_pointX f_2_pointY f_2_pieceLine f_2_begins = some (ov_0_opens, of_0_open)) : Met l y_Wa_findOpenPieces w_Wa_findOpenPieces rm_Wa_findOpenPieces (PP dC dI [(cI, .int), (cZ, .boolean), (cJ, .long)] [.ref a_0, .ref a_1, .ref a_2] sz (wl_Wa_findOpenPieces a_0 a_0_open a_1 a_1_lowX a_1_lowY a_1_doors a_1_doorFrom a_1_doorTo a_2 a_2_pointX a_2_pointY a_2_pieceLine a_2_begins b_0_far b_1_highX b_1_highY b_1_thickness b_2_looseSides b_2_sidesOut b_2_directions b_2_leftSpaces b_2_weights b_2_pointAt cI v_0_opens f_0_open v_1_count f_1_lowX f_1_lowY f_1_doors f_1_doorFrom f_1_doorTo v_2_points v_2_pieces v_2_looseEnds f_2_pointX f_2_pointY f_2_pieceLine f_2_begins)) (QV dC dI [(cI, .int), (cZ, .boolean), (cJ, .long)] sz (wl_Wa_findOpenPieces a_0 a_0_open a_1 a_1_lowX a_1_lowY a_1_doors a_1_doorFrom a_1_doorTo a_2 a_2_pointX a_2_pointY a_2_pieceLine a_2_begins b_0_far b_1_highX b_1_highY b_1_thickness b_2_looseSides b_2_sidesOut b_2_directions b_2_leftSpaces b_2_weights b_2_pointAt cI v_0_opens f_0_open v_1_count f_1_lowX f_1_lowY f_1_doors f_1_doorFrom f_1_doorTo v_2_points v_2_pieces v_2_looseEnds f_2_pointX f_2_pointY f_2_pieceLine f_2_begins) (wl_Wa_findOpenPieces a_0 a_0_open a_1 a_1_lowX a_1_lowY a_1_doors a_1_doorFrom a_1_doorTo a_2 a_2_pointX a_2_pointY a_2_pieceLine a_2_begins b_0_far b_1_highX b_1_highY b_1_thickness b_2_looseSides b_2_sidesOut b_2_directions b_2_leftSpaces b_2_weights b_2_pointAt cI ov_0_opens of_0_open v_1_count f_1_lowX f_1_lowY f_1_doors f_1_doorFrom f_1_doorTo v_2_points v_2_pieces v_2_looseEnds f_2_pointX f_2_pointY f_2_pieceLine f_2_begins)) 0 0 (va_A (wl_Wa_findOpenPieces a_0 a_0_open a_1 a_1_lowX a_1_lowY a_1_doors a_1_doorFrom a_1_doorTo a_2 a_2_pointX a_2_pointY a_2_pieceLine a_2_begins b_0_far b_1_highX b_1_highY b_1_thickness b_2_looseSides b_2_sidesOut b_2_directions b_2_leftSpaces b_2_weights b_2_pointAt cI v_0_opens f_0_open v_1_count f_1_lowX f_1_lowY f_1_doors f_1_doorFrom f_1_doorTo v_2_points v_2_pieces v_2_looseEnds f_2_pointX f_2_pointY f_2_pieceLine f_2_begins) sz) := by
  refine Met.ofW (cc := b_Wa_findOpenPieces) (maxL := 7) (ret := none) (by decide) rfl ?_
  intro p e s m args below meth c s₁ B hml hv
  obtain ⟨rfl, hsz, hP, hK, hD0, hN⟩ := hv
  subst hsz
  have hl := lv_entry ([.ref a_0, .ref a_1, .ref a_2]) (n := 7) (Nat.le_of_ble_eq_true rfl)
  rw [lg_entry_eq]
  generalize (lg_sl ([.ref a_0, .ref a_1, .ref a_2]) ++ List.replicate (7 - (lg_sl ([.ref a_0, .ref a_1, .ref a_2])).length) Slot.unset).toArray = ls at hl ⊢
  exact t_Wa_findOpenPieces a_0 a_0_open a_1 a_1_lowX a_1_lowY a_1_doors a_1_doorFrom a_1_doorTo a_2 a_2_pointX a_2_pointY a_2_pieceLine a_2_begins b_0_far b_1_highX b_1_highY b_1_thickness b_2_looseSides b_2_sidesOut b_2_directions b_2_leftSpaces b_2_weights b_2_pointAt v_0_opens f_0_open v_1_count f_1_lowX f_1_lowY f_1_doors f_1_doorFrom f_1_doorTo v_2_points v_2_pieces v_2_looseEnds f_2_pointX f_2_pointY f_2_pieceLine f_2_begins ov_0_opens of_0_open B.exec B.bytes hml (findClass_of_methodNamed B.named) (atoms_spec (ws := w_Wa_findOpenPieces) B.pre) hK hN (fun q h => Or.inr h) (fun pc H locs ls hd hP9 hD9 hS => W.vret B.exec B.bytes B.returns (fun t ht hW => ⟨⟨(), rfl, trivial, by rw [ht]; exact hP9, va_K.moved hW.alike hK, hD9⟩, hS.F ht⟩) hS.2.2 hd) hm s.heap [] ls hP hD0.self va_S.rf hl

theorem k_260 : ((.methodLink "SpaceCycles$Ways" 69 ⟨"SpaceCycles$Net", "onTheLeft", "(I)I"⟩) : Cond) ∈ gl := gl_i 1067 (by decide +kernel) (by decide +kernel)
theorem k_261 : ((.methodLink "SpaceCycles$Ways" 72 ⟨"SpaceCycles$Net", "onTheRight", "(I)I"⟩) : Cond) ∈ gl := gl_i 1068 (by decide +kernel) (by decide +kernel)
theorem k_262 : ((.fieldLink "SpaceCycles$Ways" 9 "SpaceCycles$Ways" "far" "[I") : Cond) ∈ gl := gl_i 261 (by decide +kernel) (by decide +kernel)
-- SpaceCycles$Ways.findNearer(LSpaceCycles$Net;)Z
abbrev b_Wa_findNearer : ByteArray := prog_11_method_4_code
abbrev y_Wa_findNearer : MethodName := ⟨"SpaceCycles$Ways", "findNearer", "(LSpaceCycles$Net;)Z"⟩
abbrev w_Wa_findNearer : List Cond := Cond.code y_Wa_findNearer b_Wa_findNearer 6 (some .boolean) :: gl
abbrev rm_Wa_findNearer : Room := { frames := 1, cells := 0, slots := 0, locals := 21 }
theorem d_Wa_findNearer_0 : decode b_Wa_findNearer 0 = .ok (.iconst 0, 1) := by decide +kernel
theorem d_Wa_findNearer_1 : decode b_Wa_findNearer 1 = .ok (.istore_n 2, 1) := by decide +kernel
theorem d_Wa_findNearer_2 : decode b_Wa_findNearer 2 = .ok (.iconst 0, 1) := by decide +kernel
theorem d_Wa_findNearer_3 : decode b_Wa_findNearer 3 = .ok (.istore_n 3, 1) := by decide +kernel
theorem d_Wa_findNearer_4 : decode b_Wa_findNearer 4 = .ok (.iload_n 3, 1) := by decide +kernel
theorem d_Wa_findNearer_5 : decode b_Wa_findNearer 5 = .ok (.aload_n 0, 1) := by decide +kernel
theorem d_Wa_findNearer_6 : decode b_Wa_findNearer 6 = .ok (.getfield 18, 3) := by decide +kernel
theorem d_Wa_findNearer_9 : decode b_Wa_findNearer 9 = .ok (.if_icmp .ge 118, 3) := by decide +kernel
theorem d_Wa_findNearer_12 : decode b_Wa_findNearer 12 = .ok (.aload_n 1, 1) := by decide +kernel
theorem d_Wa_findNearer_13 : decode b_Wa_findNearer 13 = .ok (.iconst 2, 1) := by decide +kernel
theorem d_Wa_findNearer_14 : decode b_Wa_findNearer 14 = .ok (.aload_n 0, 1) := by decide +kernel
theorem d_Wa_findNearer_15 : decode b_Wa_findNearer 15 = .ok (.getfield 15, 3) := by decide +kernel
theorem d_Wa_findNearer_18 : decode b_Wa_findNearer 18 = .ok (.iload_n 3, 1) := by decide +kernel
theorem d_Wa_findNearer_19 : decode b_Wa_findNearer 19 = .ok (.iaload, 1) := by decide +kernel
theorem d_Wa_findNearer_20 : decode b_Wa_findNearer 20 = .ok (.imul, 1) := by decide +kernel
theorem d_Wa_findNearer_21 : decode b_Wa_findNearer 21 = .ok (.invokevirtual 69, 3) := by decide +kernel
theorem d_Wa_findNearer_24 : decode b_Wa_findNearer 24 = .ok (.iconst 1, 1) := by decide +kernel
theorem d_Wa_findNearer_25 : decode b_Wa_findNearer 25 = .ok (.iadd, 1) := by decide +kernel
theorem d_Wa_findNearer_26 : decode b_Wa_findNearer 26 = .ok (.istore 4, 2) := by decide +kernel
theorem d_Wa_findNearer_28 : decode b_Wa_findNearer 28 = .ok (.aload_n 1, 1) := by decide +kernel
theorem d_Wa_findNearer_29 : decode b_Wa_findNearer 29 = .ok (.iconst 2, 1) := by decide +kernel
theorem d_Wa_findNearer_30 : decode b_Wa_findNearer 30 = .ok (.aload_n 0, 1) := by decide +kernel
theorem d_Wa_findNearer_31 : decode b_Wa_findNearer 31 = .ok (.getfield 15, 3) := by decide +kernel
theorem d_Wa_findNearer_34 : decode b_Wa_findNearer 34 = .ok (.iload_n 3, 1) := by decide +kernel
theorem d_Wa_findNearer_35 : decode b_Wa_findNearer 35 = .ok (.iaload, 1) := by decide +kernel
theorem d_Wa_findNearer_36 : decode b_Wa_findNearer 36 = .ok (.imul, 1) := by decide +kernel
theorem d_Wa_findNearer_37 : decode b_Wa_findNearer 37 = .ok (.invokevirtual 72, 3) := by decide +kernel
theorem d_Wa_findNearer_40 : decode b_Wa_findNearer 40 = .ok (.iconst 1, 1) := by decide +kernel
theorem d_Wa_findNearer_41 : decode b_Wa_findNearer 41 = .ok (.iadd, 1) := by decide +kernel
theorem d_Wa_findNearer_42 : decode b_Wa_findNearer 42 = .ok (.istore 5, 2) := by decide +kernel
theorem d_Wa_findNearer_44 : decode b_Wa_findNearer 44 = .ok (.aload_n 0, 1) := by decide +kernel
theorem d_Wa_findNearer_45 : decode b_Wa_findNearer 45 = .ok (.getfield 9, 3) := by decide +kernel
theorem d_Wa_findNearer_48 : decode b_Wa_findNearer 48 = .ok (.iload 4, 2) := by decide +kernel
theorem d_Wa_findNearer_50 : decode b_Wa_findNearer 50 = .ok (.iaload, 1) := by decide +kernel
theorem d_Wa_findNearer_51 : decode b_Wa_findNearer 51 = .ok (.iconst 1, 1) := by decide +kernel
theorem d_Wa_findNearer_52 : decode b_Wa_findNearer 52 = .ok (.iadd, 1) := by decide +kernel
theorem d_Wa_findNearer_53 : decode b_Wa_findNearer 53 = .ok (.aload_n 0, 1) := by decide +kernel
theorem d_Wa_findNearer_54 : decode b_Wa_findNearer 54 = .ok (.getfield 9, 3) := by decide +kernel
theorem d_Wa_findNearer_57 : decode b_Wa_findNearer 57 = .ok (.iload 5, 2) := by decide +kernel
theorem d_Wa_findNearer_59 : decode b_Wa_findNearer 59 = .ok (.iaload, 1) := by decide +kernel
theorem d_Wa_findNearer_60 : decode b_Wa_findNearer 60 = .ok (.if_icmp .ge 24, 3) := by decide +kernel
theorem d_Wa_findNearer_63 : decode b_Wa_findNearer 63 = .ok (.aload_n 0, 1) := by decide +kernel
theorem d_Wa_findNearer_64 : decode b_Wa_findNearer 64 = .ok (.getfield 9, 3) := by decide +kernel
theorem d_Wa_findNearer_67 : decode b_Wa_findNearer 67 = .ok (.iload 5, 2) := by decide +kernel
theorem d_Wa_findNearer_69 : decode b_Wa_findNearer 69 = .ok (.aload_n 0, 1) := by decide +kernel
theorem d_Wa_findNearer_70 : decode b_Wa_findNearer 70 = .ok (.getfield 9, 3) := by decide +kernel
theorem d_Wa_findNearer_73 : decode b_Wa_findNearer 73 = .ok (.iload 4, 2) := by decide +kernel
theorem d_Wa_findNearer_75 : decode b_Wa_findNearer 75 = .ok (.iaload, 1) := by decide +kernel
theorem d_Wa_findNearer_76 : decode b_Wa_findNearer 76 = .ok (.iconst 1, 1) := by decide +kernel
theorem d_Wa_findNearer_77 : decode b_Wa_findNearer 77 = .ok (.iadd, 1) := by decide +kernel
theorem d_Wa_findNearer_78 : decode b_Wa_findNearer 78 = .ok (.iastore, 1) := by decide +kernel
theorem d_Wa_findNearer_79 : decode b_Wa_findNearer 79 = .ok (.iconst 1, 1) := by decide +kernel
theorem d_Wa_findNearer_80 : decode b_Wa_findNearer 80 = .ok (.istore_n 2, 1) := by decide +kernel
theorem d_Wa_findNearer_81 : decode b_Wa_findNearer 81 = .ok (.goto 40, 3) := by decide +kernel
theorem d_Wa_findNearer_84 : decode b_Wa_findNearer 84 = .ok (.aload_n 0, 1) := by decide +kernel
theorem d_Wa_findNearer_85 : decode b_Wa_findNearer 85 = .ok (.getfield 9, 3) := by decide +kernel
theorem d_Wa_findNearer_88 : decode b_Wa_findNearer 88 = .ok (.iload 5, 2) := by decide +kernel
theorem d_Wa_findNearer_90 : decode b_Wa_findNearer 90 = .ok (.iaload, 1) := by decide +kernel
theorem d_Wa_findNearer_91 : decode b_Wa_findNearer 91 = .ok (.iconst 1, 1) := by decide +kernel
theorem d_Wa_findNearer_92 : decode b_Wa_findNearer 92 = .ok (.iadd, 1) := by decide +kernel
theorem d_Wa_findNearer_93 : decode b_Wa_findNearer 93 = .ok (.aload_n 0, 1) := by decide +kernel
theorem d_Wa_findNearer_94 : decode b_Wa_findNearer 94 = .ok (.getfield 9, 3) := by decide +kernel
theorem d_Wa_findNearer_97 : decode b_Wa_findNearer 97 = .ok (.iload 4, 2) := by decide +kernel
theorem d_Wa_findNearer_99 : decode b_Wa_findNearer 99 = .ok (.iaload, 1) := by decide +kernel
theorem d_Wa_findNearer_100 : decode b_Wa_findNearer 100 = .ok (.if_icmp .ge 21, 3) := by decide +kernel
theorem d_Wa_findNearer_103 : decode b_Wa_findNearer 103 = .ok (.aload_n 0, 1) := by decide +kernel
theorem d_Wa_findNearer_104 : decode b_Wa_findNearer 104 = .ok (.getfield 9, 3) := by decide +kernel
theorem d_Wa_findNearer_107 : decode b_Wa_findNearer 107 = .ok (.iload 4, 2) := by decide +kernel
theorem d_Wa_findNearer_109 : decode b_Wa_findNearer 109 = .ok (.aload_n 0, 1) := by decide +kernel
theorem d_Wa_findNearer_110 : decode b_Wa_findNearer 110 = .ok (.getfield 9, 3) := by decide +kernel
theorem d_Wa_findNearer_113 : decode b_Wa_findNearer 113 = .ok (.iload 5, 2) := by decide +kernel
theorem d_Wa_findNearer_115 : decode b_Wa_findNearer 115 = .ok (.iaload, 1) := by decide +kernel
theorem d_Wa_findNearer_116 : decode b_Wa_findNearer 116 = .ok (.iconst 1, 1) := by decide +kernel
theorem d_Wa_findNearer_117 : decode b_Wa_findNearer 117 = .ok (.iadd, 1) := by decide +kernel
theorem d_Wa_findNearer_118 : decode b_Wa_findNearer 118 = .ok (.iastore, 1) := by decide +kernel
theorem d_Wa_findNearer_119 : decode b_Wa_findNearer 119 = .ok (.iconst 1, 1) := by decide +kernel
theorem d_Wa_findNearer_120 : decode b_Wa_findNearer 120 = .ok (.istore_n 2, 1) := by decide +kernel
theorem d_Wa_findNearer_121 : decode b_Wa_findNearer 121 = .ok (.iinc 3 1, 3) := by decide +kernel
theorem d_Wa_findNearer_124 : decode b_Wa_findNearer 124 = .ok (.goto (-120), 3) := by decide +kernel
theorem d_Wa_findNearer_127 : decode b_Wa_findNearer 127 = .ok (.iload_n 2, 1) := by decide +kernel
theorem d_Wa_findNearer_128 : decode b_Wa_findNearer 128 = .ok (.ireturn, 1) := by decide +kernel
abbrev wl_Wa_findNearer (a_0 : Nat) (a_0_far : Nat) (a_0_open : Nat) (a_1 : Nat) (a_1_leftSpaces : Nat) (b_1_pointX : Nat) (b_1_pointY : Nat) (b_1_looseSides : Nat) (b_1_sidesOut : Nat) (b_1_pieceLine : Nat) (b_1_begins : Nat) (b_1_directions : Nat) (b_1_weights : Nat) (b_1_pointAt : Nat) (cI : ClassId) (v_0_opens : Int32) (f_0_far : Nat → Int32) (f_0_open : Nat → Int32) (v_1_points : Int32) (v_1_pieces : Int32) (v_1_looseEnds : Int32) (f_1_leftSpaces : Nat → Int32) : va_W := [(a_0, .inr (7, [.ref a_0_far, .ref a_0_open, .int v_0_opens])), (a_0_far, .inl (cI, 82, .inl f_0_far)), (a_0_open, .inl (cI, 220, .inl f_0_open)), (a_1, .inr (3, [.ref b_1_pointX, .ref b_1_pointY, .ref b_1_looseSides, .int v_1_points, .int v_1_pieces, .int v_1_looseEnds, .ref b_1_sidesOut, .ref b_1_pieceLine, .ref b_1_begins, .ref b_1_directions, .ref a_1_leftSpaces, .ref b_1_weights, .ref b_1_pointAt])), (a_1_leftSpaces, .inl (cI, 440, .inl f_1_leftSpaces))]
def m_Wa_findNearer_L4 (v_0_opens : Int32) (f_0_open : Nat → Int32) (f_1_leftSpaces : Nat → Int32) : Nat → Int32 → Int32 → (Nat → Int32) → Option (Int32 × (Nat → Int32))
  | 0, _, _, _ => none
  | n + 1, l2, l3, f_0_far =>
    if v_0_opens ≤ l3 then (
      some (l2, f_0_far))
    else (
      gI l3 220 <|
      bd1 (m_Ne_onTheLeft (2 * (f_0_open l3.toNatClampNeg)) f_1_leftSpaces) fun r3 =>
      lt_ (r3 + 1) fun x5 =>
      gI l3 220 <|
      bd1 (m_Ne_onTheRight (2 * (f_0_open l3.toNatClampNeg)) f_1_leftSpaces) fun r7 =>
      lt_ (r7 + 1) fun x9 =>
      gI x5 82 <|
      gI x9 82 <|
      bd2 (
        if (f_0_far x9.toNatClampNeg) ≤ ((f_0_far x5.toNatClampNeg) + 1) then (
        gI x9 82 <|
        gI x5 82 <|
        if (f_0_far x5.toNatClampNeg) ≤ ((f_0_far x9.toNatClampNeg) + 1) then (
          some (l2, f_0_far))
        else (
          gI x9 82 <|
          gI x5 82 <|
          lt_ (upd f_0_far x5.toNatClampNeg ((f_0_far x9.toNatClampNeg) + 1)) fun f23 =>
          some (1, f23)))
      else (
        gI x5 82 <|
        gI x9 82 <|
        lt_ (upd f_0_far x9.toNatClampNeg ((f_0_far x5.toNatClampNeg) + 1)) fun f26 =>
        some (1, f26)))
      fun (x15 : Int32) (f16 : Nat → Int32) =>
      lt_ (l3 + 1) fun x27 =>
        m_Wa_findNearer_L4 v_0_opens f_0_open f_1_leftSpaces n x15 x27 f16)
def m_Wa_findNearer (v_0_opens : Int32) (f_0_far : Nat → Int32) (f_0_open : Nat → Int32) (f_1_leftSpaces : Nat → Int32) : Option (Int32 × (Nat → Int32)) :=
  bd2 (m_Wa_findNearer_L4 v_0_opens f_0_open f_1_leftSpaces fu 0 0 f_0_far) fun x4 f5 =>
  gB x4 <|
  some (x4, f5)

set_option maxHeartbeats 4000000 in
set_option maxRecDepth 100000 in
theorem t_Wa_findNearer {p : Program} {l : Launch} {e : Env} {s : State} {m : MethodId} {args : Array Value} {below : List Frame} {meth : Method} {c : Code} {A : Nat → Prop} {Q : State → Prop} {dC : Nat → ClassId} {dI : Nat → Nat → Nat} {cI cZ cJ : ClassId} (a_0 a_0_far a_0_open a_1 a_1_leftSpaces b_1_pointX b_1_pointY b_1_looseSides b_1_sidesOut b_1_pieceLine b_1_begins b_1_directions b_1_weights b_1_pointAt : Nat) (v_0_opens : Int32) (f_0_far : Nat → Int32) (f_0_open : Nat → Int32) (v_1_points : Int32) (v_1_pieces : Int32) (v_1_looseEnds : Int32) (f_1_leftSpaces : Nat → Int32)  (R0 : Int32) (of_0_far : Nat → Int32) (hx : p.tables.exec = Jvm.exec) (hb : c.code = b_Wa_findNearer) (hml : c.maxLocals = 6) (hown : s.vm.findClass "SpaceCycles$Ways" = some m.cls) (hts : ∀ w ∈ w_Wa_findNearer, w.before args s = true) (hK : va_K (dC, dI) vwCl [(cI, .int), (cZ, .boolean), (cJ, .long)] s) (hN : NX s) (hA : ∀ q : Nat, s.heap.size ≤ q → A q)
    (hret : ∀ (pc : Nat) (H : Heap) (locs : List Loc) (ls : Array Slot), decode b_Wa_findNearer pc = .ok (.ireturn, 1) → (R0 = 0 ∨ R0 = 1) → va_P (dC, dI) vwCl (wl_Wa_findNearer a_0 a_0_far a_0_open a_1 a_1_leftSpaces b_1_pointX b_1_pointY b_1_looseSides b_1_sidesOut b_1_pieceLine b_1_begins b_1_directions b_1_weights b_1_pointAt cI v_0_opens of_0_far f_0_open v_1_points v_1_pieces v_1_looseEnds f_1_leftSpaces) H → va_D A (wl_Wa_findNearer a_0 a_0_far a_0_open a_1 a_1_leftSpaces b_1_pointX b_1_pointY b_1_looseSides b_1_sidesOut b_1_pieceLine b_1_begins b_1_directions b_1_weights b_1_pointAt cI v_0_opens of_0_far f_0_open v_1_points v_1_pieces v_1_looseEnds f_1_leftSpaces) → va_S A s.heap H locs → W p l e rm_Wa_findNearer s m args below meth c H locs 0 0 Q (F0 m pc ls [.int R0]))
    (hm : m_Wa_findNearer v_0_opens f_0_far f_0_open f_1_leftSpaces = some (R0, of_0_far)) : ∀ (H : Heap) (locs : List Loc) (ls : Array Slot), va_P (dC, dI) vwCl (wl_Wa_findNearer a_0 a_0_far a_0_open a_1 a_1_leftSpaces b_1_pointX b_1_pointY b_1_looseSides b_1_sidesOut b_1_pieceLine b_1_begins b_1_directions b_1_weights b_1_pointAt cI v_0_opens f_0_far f_0_open v_1_points v_1_pieces v_1_looseEnds f_1_leftSpaces) H → va_D A (wl_Wa_findNearer a_0 a_0_far a_0_open a_1 a_1_leftSpaces b_1_pointX b_1_pointY b_1_looseSides b_1_sidesOut b_1_pieceLine b_1_begins b_1_directions b_1_weights b_1_pointAt cI v_0_opens f_0_far f_0_open v_1_points v_1_pieces v_1_looseEnds f_1_leftSpaces) → va_S A s.heap H locs → lv_has ls 6 [(0, .ref a_0), (1, .ref a_1)] → W p l e rm_Wa_findNearer s m args below meth c H locs 0 0 Q (F0 m 0 ls []) := by
  intro H locs ls hP hD hS hl
  unfold m_Wa_findNearer at hm
  refine lv_iconst (v := 0) hx hb d_Wa_findNearer_0 (by decide) ?_
  refine lv_istore_n (lv' := [(2, .int 0), (0, .ref a_0), (1, .ref a_1)]) hx hb d_Wa_findNearer_1 rfl hl (by decide) rfl (fun ls hl => ?_)
  refine lv_iconst (v := 0) hx hb d_Wa_findNearer_2 (by decide) ?_
  refine lv_istore_n (lv' := [(3, .int 0), (2, .int 0), (0, .ref a_0), (1, .ref a_1)]) hx hb d_Wa_findNearer_3 rfl hl (by decide) rfl (fun ls hl => ?_)
  have L4_6 : ∀ (n : Nat) (x1 : Int32) (x2 : Int32) (f3 : Nat → Int32) (x4 : Int32) (f5 : Nat → Int32), m_Wa_findNearer_L4 v_0_opens f_0_open f_1_leftSpaces n x1 x2 f3 = some (x4, f5) → (∀ (H : Heap) (locs : List Loc) (ls : Array Slot), va_P (dC, dI) vwCl (wl_Wa_findNearer a_0 a_0_far a_0_open a_1 a_1_leftSpaces b_1_pointX b_1_pointY b_1_looseSides b_1_sidesOut b_1_pieceLine b_1_begins b_1_directions b_1_weights b_1_pointAt cI v_0_opens f5 f_0_open v_1_points v_1_pieces v_1_looseEnds f_1_leftSpaces) H → va_D A (wl_Wa_findNearer a_0 a_0_far a_0_open a_1 a_1_leftSpaces b_1_pointX b_1_pointY b_1_looseSides b_1_sidesOut b_1_pieceLine b_1_begins b_1_directions b_1_weights b_1_pointAt cI v_0_opens f5 f_0_open v_1_points v_1_pieces v_1_looseEnds f_1_leftSpaces) → va_S A s.heap H locs → lv_has ls 6 [(2, .int x4)] → W p l e rm_Wa_findNearer s m args below meth c H locs 0 0 Q (F0 m 127 ls [])) → ∀ (H : Heap) (locs : List Loc) (ls : Array Slot), va_P (dC, dI) vwCl (wl_Wa_findNearer a_0 a_0_far a_0_open a_1 a_1_leftSpaces b_1_pointX b_1_pointY b_1_looseSides b_1_sidesOut b_1_pieceLine b_1_begins b_1_directions b_1_weights b_1_pointAt cI v_0_opens f3 f_0_open v_1_points v_1_pieces v_1_looseEnds f_1_leftSpaces) H → va_D A (wl_Wa_findNearer a_0 a_0_far a_0_open a_1 a_1_leftSpaces b_1_pointX b_1_pointY b_1_looseSides b_1_sidesOut b_1_pieceLine b_1_begins b_1_directions b_1_weights b_1_pointAt cI v_0_opens f3 f_0_open v_1_points v_1_pieces v_1_looseEnds f_1_leftSpaces) → va_S A s.heap H locs → lv_has ls 6 [(0, .ref a_0), (1, .ref a_1), (2, .int x1), (3, .int x2)] → W p l e rm_Wa_findNearer s m args below meth c H locs 0 0 Q (F0 m 4 ls []) := by
    intro n
    induction n with
    | zero => intro x1 x2 f3 x4 f5 hm; simp [m_Wa_findNearer_L4] at hm
    | succ n ih =>
      intro x1 x2 f3 x4 f5 hm KE H locs ls hP hD hS hl
      rw [m_Wa_findNearer_L4] at hm
      refine lv_iload_n hx hb d_Wa_findNearer_4 rfl (lv_at hl 3 rfl) ?_
      refine lv_aload_n hx hb d_Wa_findNearer_5 rfl (lv_at hl 0 rfl) ?_
      refine va_get (D := (dC, dI)) (ci := 7) (v := .int v_0_opens) (C := "SpaceCycles$Ways") (T := F_Wa) (N := 3) hx hb hts (in_F i_Wa) hown hK hP 0 rfl rfl 2 (by decide) (hts _ (in_c k_243)) (fun _ h9 => h9) rfl d_Wa_findNearer_6 ?_
      refine lv_icmp_ge (tgt := 127) hx hb d_Wa_findNearer_9 (by decide) (fun c7 => ?_) (fun c7 => ?_)
      · replace hm := if_t hm c7
        cases hm
        exact KE H locs ls hP hD hS (lv_sub hl [2] rfl)
      · replace hm := if_f hm c7
        refine lv_aload_n hx hb d_Wa_findNearer_12 rfl (lv_at hl 1 rfl) ?_
        refine lv_iconst (v := 2) hx hb d_Wa_findNearer_13 (by decide) ?_
        refine lv_aload_n hx hb d_Wa_findNearer_14 rfl (lv_at hl 0 rfl) ?_
        refine va_get (D := (dC, dI)) (ci := 7) (v := .ref a_0_open) (C := "SpaceCycles$Ways") (T := F_Wa) (N := 3) hx hb hts (in_F i_Wa) hown hK hP 0 rfl rfl 1 (by decide) (hts _ (in_c k_259)) (fun _ h9 => h9) rfl d_Wa_findNearer_15 ?_
        refine lv_iload_n hx hb d_Wa_findNearer_18 rfl (lv_at hl 3 rfl) ?_
        obtain ⟨hi8, hm⟩ := gI_e hm
        refine va_iald hx hb hK hP 2 0 rfl rfl hi8 d_Wa_findNearer_19 ?_
        refine lv_imul hx hb d_Wa_findNearer_20 ?_
        obtain ⟨r9, hb10, hm⟩ := bd1_e hm
        have hPc := hP.sub (ws' := (wl_Ne_onTheLeft a_1 a_1_leftSpaces b_1_pointX b_1_pointY b_1_looseSides b_1_sidesOut b_1_pieceLine b_1_begins b_1_directions b_1_weights b_1_pointAt cI v_1_points v_1_pieces v_1_looseEnds f_1_leftSpaces)) [3, 4] rfl
        have hDc := hD.sub (ws' := (wl_Ne_onTheLeft a_1 a_1_leftSpaces b_1_pointX b_1_pointY b_1_looseSides b_1_sidesOut b_1_pieceLine b_1_begins b_1_directions b_1_weights b_1_pointAt cI v_1_points v_1_pieces v_1_looseEnds f_1_leftSpaces)) [3, 4] (by decide) rfl
        refine cl_i (wc' := (wl_Ne_onTheLeft a_1 a_1_leftSpaces b_1_pointX b_1_pointY b_1_looseSides b_1_sidesOut b_1_pieceLine b_1_begins b_1_directions b_1_weights b_1_pointAt cI v_1_points v_1_pieces v_1_looseEnds f_1_leftSpaces)) (va_runV (As := [.int (2 * (f_0_open x2.toNatClampNeg))]) (rest := []) ⟨hx, hb, hml, hown, hts⟩ (c_Ne_onTheLeft l dC dI (cI := cI) (cZ := cZ) (cJ := cJ) a_1 a_1_leftSpaces b_1_pointX b_1_pointY b_1_looseSides b_1_sidesOut b_1_pieceLine b_1_begins b_1_directions b_1_weights b_1_pointAt H.size v_1_points v_1_pieces v_1_looseEnds f_1_leftSpaces (2 * (f_0_open x2.toNatClampNeg)) r9 hb10) (cwV 1 hts (gl_V k_260 k_225 k_224 k_145 k_223) rfl rfl rfl (by decide +kernel) ⟨Nat.le_of_ble_eq_true rfl, Nat.le_of_ble_eq_true rfl⟩) ⟨PP_blind, va_recv hK hPc (ci := 3) (q0 := 0) rfl rfl, fun U hU hW => PP_at hK hN hPc hDc hU hW⟩ rfl rfl hl.1 rfl (lv_room (Nat.le_of_ble_eq_true rfl)) d_Wa_findNearer_21 ⟨Nat.zero_le _, Nat.zero_le _⟩) hP hD hS hA [3, 4] [0, 1, 2] rfl rfl (by decide) (by decide) (fun H locs hP hD hS => ?_)
        have hP : va_P (dC, dI) vwCl (wl_Wa_findNearer a_0 a_0_far a_0_open a_1 a_1_leftSpaces b_1_pointX b_1_pointY b_1_looseSides b_1_sidesOut b_1_pieceLine b_1_begins b_1_directions b_1_weights b_1_pointAt cI v_0_opens f3 f_0_open v_1_points v_1_pieces v_1_looseEnds f_1_leftSpaces) H := hP.sub [0, 1, 2, 3, 4] rfl
        have hD : va_D A (wl_Wa_findNearer a_0 a_0_far a_0_open a_1 a_1_leftSpaces b_1_pointX b_1_pointY b_1_looseSides b_1_sidesOut b_1_pieceLine b_1_begins b_1_directions b_1_weights b_1_pointAt cI v_0_opens f3 f_0_open v_1_points v_1_pieces v_1_looseEnds f_1_leftSpaces) := hD.sub [0, 1, 2, 3, 4] (by decide) rfl
        refine lv_iconst (v := 1) hx hb d_Wa_findNearer_24 (by decide) ?_
        refine lv_iadd hx hb d_Wa_findNearer_25 ?_
        refine lv_topi (fun x11 ex11 => ?_)
        replace hm := lt_el hm ex11
        refine lv_istore (lv' := [(4, .int x11), (0, .ref a_0), (1, .ref a_1), (2, .int x1), (3, .int x2)]) hx hb d_Wa_findNearer_26 hl (by decide) rfl (fun ls hl => ?_)
        refine lv_aload_n hx hb d_Wa_findNearer_28 rfl (lv_at hl 2 rfl) ?_
        refine lv_iconst (v := 2) hx hb d_Wa_findNearer_29 (by decide) ?_
        refine lv_aload_n hx hb d_Wa_findNearer_30 rfl (lv_at hl 1 rfl) ?_
        refine va_get (D := (dC, dI)) (ci := 7) (v := .ref a_0_open) (C := "SpaceCycles$Ways") (T := F_Wa) (N := 3) hx hb hts (in_F i_Wa) hown hK hP 0 rfl rfl 1 (by decide) (hts _ (in_c k_259)) (fun _ h9 => h9) rfl d_Wa_findNearer_31 ?_
        refine lv_iload_n hx hb d_Wa_findNearer_34 rfl (lv_at hl 4 rfl) ?_
        obtain ⟨hi12, hm⟩ := gI_e hm
        refine va_iald hx hb hK hP 2 0 rfl rfl hi12 d_Wa_findNearer_35 ?_
        refine lv_imul hx hb d_Wa_findNearer_36 ?_
        obtain ⟨r13, hb14, hm⟩ := bd1_e hm
        have hPc := hP.sub (ws' := (wl_Ne_onTheRight a_1 a_1_leftSpaces b_1_pointX b_1_pointY b_1_looseSides b_1_sidesOut b_1_pieceLine b_1_begins b_1_directions b_1_weights b_1_pointAt cI v_1_points v_1_pieces v_1_looseEnds f_1_leftSpaces)) [3, 4] rfl
        have hDc := hD.sub (ws' := (wl_Ne_onTheRight a_1 a_1_leftSpaces b_1_pointX b_1_pointY b_1_looseSides b_1_sidesOut b_1_pieceLine b_1_begins b_1_directions b_1_weights b_1_pointAt cI v_1_points v_1_pieces v_1_looseEnds f_1_leftSpaces)) [3, 4] (by decide) rfl
        refine cl_i (wc' := (wl_Ne_onTheRight a_1 a_1_leftSpaces b_1_pointX b_1_pointY b_1_looseSides b_1_sidesOut b_1_pieceLine b_1_begins b_1_directions b_1_weights b_1_pointAt cI v_1_points v_1_pieces v_1_looseEnds f_1_leftSpaces)) (va_runV (As := [.int (2 * (f_0_open x2.toNatClampNeg))]) (rest := []) ⟨hx, hb, hml, hown, hts⟩ (c_Ne_onTheRight l dC dI (cI := cI) (cZ := cZ) (cJ := cJ) a_1 a_1_leftSpaces b_1_pointX b_1_pointY b_1_looseSides b_1_sidesOut b_1_pieceLine b_1_begins b_1_directions b_1_weights b_1_pointAt H.size v_1_points v_1_pieces v_1_looseEnds f_1_leftSpaces (2 * (f_0_open x2.toNatClampNeg)) r13 hb14) (cwV 1 hts (gl_V k_261 k_219 k_218 k_145 k_217) rfl rfl rfl (by decide +kernel) ⟨Nat.le_of_ble_eq_true rfl, Nat.le_of_ble_eq_true rfl⟩) ⟨PP_blind, va_recv hK hPc (ci := 3) (q0 := 0) rfl rfl, fun U hU hW => PP_at hK hN hPc hDc hU hW⟩ rfl rfl hl.1 rfl (lv_room (Nat.le_of_ble_eq_true rfl)) d_Wa_findNearer_37 ⟨Nat.zero_le _, Nat.zero_le _⟩) hP hD hS hA [3, 4] [0, 1, 2] rfl rfl (by decide) (by decide) (fun H locs hP hD hS => ?_)
        have hP : va_P (dC, dI) vwCl (wl_Wa_findNearer a_0 a_0_far a_0_open a_1 a_1_leftSpaces b_1_pointX b_1_pointY b_1_looseSides b_1_sidesOut b_1_pieceLine b_1_begins b_1_directions b_1_weights b_1_pointAt cI v_0_opens f3 f_0_open v_1_points v_1_pieces v_1_looseEnds f_1_leftSpaces) H := hP.sub [0, 1, 2, 3, 4] rfl
        have hD : va_D A (wl_Wa_findNearer a_0 a_0_far a_0_open a_1 a_1_leftSpaces b_1_pointX b_1_pointY b_1_looseSides b_1_sidesOut b_1_pieceLine b_1_begins b_1_directions b_1_weights b_1_pointAt cI v_0_opens f3 f_0_open v_1_points v_1_pieces v_1_looseEnds f_1_leftSpaces) := hD.sub [0, 1, 2, 3, 4] (by decide) rfl
        refine lv_iconst (v := 1) hx hb d_Wa_findNearer_40 (by decide) ?_
        refine lv_iadd hx hb d_Wa_findNearer_41 ?_
        refine lv_topi (fun x15 ex15 => ?_)
        replace hm := lt_el hm ex15
        refine lv_istore (lv' := [(5, .int x15), (4, .int x11), (0, .ref a_0), (1, .ref a_1), (2, .int x1), (3, .int x2)]) hx hb d_Wa_findNearer_42 hl (by decide) rfl (fun ls hl => ?_)
        refine lv_aload_n hx hb d_Wa_findNearer_44 rfl (lv_at hl 2 rfl) ?_
        refine va_get (D := (dC, dI)) (ci := 7) (v := .ref a_0_far) (C := "SpaceCycles$Ways") (T := F_Wa) (N := 3) hx hb hts (in_F i_Wa) hown hK hP 0 rfl rfl 0 (by decide) (hts _ (in_c k_262)) (fun _ h9 => h9) rfl d_Wa_findNearer_45 ?_
        refine lv_iload hx hb d_Wa_findNearer_48 (lv_at hl 1 rfl) ?_
        obtain ⟨hi16, hm⟩ := gI_e hm
        refine va_iald hx hb hK hP 1 0 rfl rfl hi16 d_Wa_findNearer_50 ?_
        refine lv_iconst (v := 1) hx hb d_Wa_findNearer_51 (by decide) ?_
        refine lv_iadd hx hb d_Wa_findNearer_52 ?_
        refine lv_aload_n hx hb d_Wa_findNearer_53 rfl (lv_at hl 2 rfl) ?_
        refine va_get (D := (dC, dI)) (ci := 7) (v := .ref a_0_far) (C := "SpaceCycles$Ways") (T := F_Wa) (N := 3) hx hb hts (in_F i_Wa) hown hK hP 0 rfl rfl 0 (by decide) (hts _ (in_c k_262)) (fun _ h9 => h9) rfl d_Wa_findNearer_54 ?_
        refine lv_iload hx hb d_Wa_findNearer_57 (lv_at hl 0 rfl) ?_
        obtain ⟨hi17, hm⟩ := gI_e hm
        refine va_iald hx hb hK hP 1 0 rfl rfl hi17 d_Wa_findNearer_59 ?_
        obtain ⟨x21, f22, hb19, hm⟩ := bd2_e hm
        have K18 : ∀ (H : Heap) (locs : List Loc) (ls : Array Slot), va_P (dC, dI) vwCl (wl_Wa_findNearer a_0 a_0_far a_0_open a_1 a_1_leftSpaces b_1_pointX b_1_pointY b_1_looseSides b_1_sidesOut b_1_pieceLine b_1_begins b_1_directions b_1_weights b_1_pointAt cI v_0_opens f22 f_0_open v_1_points v_1_pieces v_1_looseEnds f_1_leftSpaces) H → va_D A (wl_Wa_findNearer a_0 a_0_far a_0_open a_1 a_1_leftSpaces b_1_pointX b_1_pointY b_1_looseSides b_1_sidesOut b_1_pieceLine b_1_begins b_1_directions b_1_weights b_1_pointAt cI v_0_opens f22 f_0_open v_1_points v_1_pieces v_1_looseEnds f_1_leftSpaces) → va_S A s.heap H locs → lv_has ls 6 [(0, .ref a_0), (1, .ref a_1), (2, .int x21), (3, .int x2)] → W p l e rm_Wa_findNearer s m args below meth c H locs 0 0 Q (F0 m 121 ls []) := by
          intro H locs ls hP hD hS hl
          obtain ⟨x33, ex33⟩ : ∃ y : Int32, y = x2 + 1 := ⟨_, rfl⟩
          replace hm := lt_el hm ex33
          refine lv_iinc (v := x33) (lv' := [(3, .int x33), (0, .ref a_0), (1, .ref a_1), (2, .int x21)]) hx hb d_Wa_findNearer_121 hl (k := 3) rfl (by rw [ex33]; rfl) (by decide) rfl (fun ls hl => ?_)
          refine lv_goto (tgt := 4) hx hb d_Wa_findNearer_124 (by decide) ?_
          exact ih _ _ _ _ _ hm KE H locs ls hP hD hS (lv_sub hl [1, 2, 3, 0] rfl)
        replace hm := hb19
        refine lv_icmp_ge (tgt := 84) hx hb d_Wa_findNearer_60 (by decide) (fun c23 => ?_) (fun c23 => ?_)
        · replace hm := if_t hm c23
          refine lv_aload_n hx hb d_Wa_findNearer_84 rfl (lv_at hl 2 rfl) ?_
          refine va_get (D := (dC, dI)) (ci := 7) (v := .ref a_0_far) (C := "SpaceCycles$Ways") (T := F_Wa) (N := 3) hx hb hts (in_F i_Wa) hown hK hP 0 rfl rfl 0 (by decide) (hts _ (in_c k_262)) (fun _ h9 => h9) rfl d_Wa_findNearer_85 ?_
          refine lv_iload hx hb d_Wa_findNearer_88 (lv_at hl 0 rfl) ?_
          obtain ⟨hi24, hm⟩ := gI_e hm
          refine va_iald hx hb hK hP 1 0 rfl rfl hi24 d_Wa_findNearer_90 ?_
          refine lv_iconst (v := 1) hx hb d_Wa_findNearer_91 (by decide) ?_
          refine lv_iadd hx hb d_Wa_findNearer_92 ?_
          refine lv_aload_n hx hb d_Wa_findNearer_93 rfl (lv_at hl 2 rfl) ?_
          refine va_get (D := (dC, dI)) (ci := 7) (v := .ref a_0_far) (C := "SpaceCycles$Ways") (T := F_Wa) (N := 3) hx hb hts (in_F i_Wa) hown hK hP 0 rfl rfl 0 (by decide) (hts _ (in_c k_262)) (fun _ h9 => h9) rfl d_Wa_findNearer_94 ?_
          refine lv_iload hx hb d_Wa_findNearer_97 (lv_at hl 1 rfl) ?_
          obtain ⟨hi25, hm⟩ := gI_e hm
          refine va_iald hx hb hK hP 1 0 rfl rfl hi25 d_Wa_findNearer_99 ?_
          refine lv_icmp_ge (tgt := 121) hx hb d_Wa_findNearer_100 (by decide) (fun c26 => ?_) (fun c26 => ?_)
          · replace hm := if_t hm c26
            cases hm
            exact K18 H locs ls hP hD hS (lv_sub hl [2, 3, 4, 5] rfl)
          · replace hm := if_f hm c26
            refine lv_aload_n hx hb d_Wa_findNearer_103 rfl (lv_at hl 2 rfl) ?_
            refine va_get (D := (dC, dI)) (ci := 7) (v := .ref a_0_far) (C := "SpaceCycles$Ways") (T := F_Wa) (N := 3) hx hb hts (in_F i_Wa) hown hK hP 0 rfl rfl 0 (by decide) (hts _ (in_c k_262)) (fun _ h9 => h9) rfl d_Wa_findNearer_104 ?_
            refine lv_iload hx hb d_Wa_findNearer_107 (lv_at hl 1 rfl) ?_
            refine lv_aload_n hx hb d_Wa_findNearer_109 rfl (lv_at hl 2 rfl) ?_
            refine va_get (D := (dC, dI)) (ci := 7) (v := .ref a_0_far) (C := "SpaceCycles$Ways") (T := F_Wa) (N := 3) hx hb hts (in_F i_Wa) hown hK hP 0 rfl rfl 0 (by decide) (hts _ (in_c k_262)) (fun _ h9 => h9) rfl d_Wa_findNearer_110 ?_
            refine lv_iload hx hb d_Wa_findNearer_113 (lv_at hl 0 rfl) ?_
            obtain ⟨hi27, hm⟩ := gI_e hm
            refine va_iald hx hb hK hP 1 0 rfl rfl hi27 d_Wa_findNearer_115 ?_
            refine lv_iconst (v := 1) hx hb d_Wa_findNearer_116 (by decide) ?_
            refine lv_iadd hx hb d_Wa_findNearer_117 ?_
            obtain ⟨hi28, hm⟩ := gI_e hm
            obtain ⟨f29, ef29⟩ : ∃ y : Nat → Int32, y = upd f3 x11.toNatClampNeg ((f3 x15.toNatClampNeg) + 1) := ⟨_, rfl⟩
            replace hm := lt_el hm ef29
            refine va_iast hx hb hK hP hD hS 1 0 rfl rfl hi28 d_Wa_findNearer_118 (fun H locs hP hD hS => ?_)
            rw [← ef29] at hP hD
            have hP : va_P (dC, dI) vwCl (wl_Wa_findNearer a_0 a_0_far a_0_open a_1 a_1_leftSpaces b_1_pointX b_1_pointY b_1_looseSides b_1_sidesOut b_1_pieceLine b_1_begins b_1_directions b_1_weights b_1_pointAt cI v_0_opens f29 f_0_open v_1_points v_1_pieces v_1_looseEnds f_1_leftSpaces) H := hP
            have hD : va_D A (wl_Wa_findNearer a_0 a_0_far a_0_open a_1 a_1_leftSpaces b_1_pointX b_1_pointY b_1_looseSides b_1_sidesOut b_1_pieceLine b_1_begins b_1_directions b_1_weights b_1_pointAt cI v_0_opens f29 f_0_open v_1_points v_1_pieces v_1_looseEnds f_1_leftSpaces) := hD
            refine lv_iconst (v := 1) hx hb d_Wa_findNearer_119 (by decide) ?_
            refine lv_istore_n (lv' := [(2, .int 1), (5, .int x15), (4, .int x11), (0, .ref a_0), (1, .ref a_1), (3, .int x2)]) hx hb d_Wa_findNearer_120 rfl hl (by decide) rfl (fun ls hl => ?_)
            cases hm
            exact K18 H locs ls hP hD hS (lv_sub hl [3, 4, 0, 5] rfl)
        · replace hm := if_f hm c23
          refine lv_aload_n hx hb d_Wa_findNearer_63 rfl (lv_at hl 2 rfl) ?_
          refine va_get (D := (dC, dI)) (ci := 7) (v := .ref a_0_far) (C := "SpaceCycles$Ways") (T := F_Wa) (N := 3) hx hb hts (in_F i_Wa) hown hK hP 0 rfl rfl 0 (by decide) (hts _ (in_c k_262)) (fun _ h9 => h9) rfl d_Wa_findNearer_64 ?_
          refine lv_iload hx hb d_Wa_findNearer_67 (lv_at hl 0 rfl) ?_
          refine lv_aload_n hx hb d_Wa_findNearer_69 rfl (lv_at hl 2 rfl) ?_
          refine va_get (D := (dC, dI)) (ci := 7) (v := .ref a_0_far) (C := "SpaceCycles$Ways") (T := F_Wa) (N := 3) hx hb hts (in_F i_Wa) hown hK hP 0 rfl rfl 0 (by decide) (hts _ (in_c k_262)) (fun _ h9 => h9) rfl d_Wa_findNearer_70 ?_
          refine lv_iload hx hb d_Wa_findNearer_73 (lv_at hl 1 rfl) ?_
          obtain ⟨hi30, hm⟩ := gI_e hm
          refine va_iald hx hb hK hP 1 0 rfl rfl hi30 d_Wa_findNearer_75 ?_
          refine lv_iconst (v := 1) hx hb d_Wa_findNearer_76 (by decide) ?_
          refine lv_iadd hx hb d_Wa_findNearer_77 ?_
          obtain ⟨hi31, hm⟩ := gI_e hm
          obtain ⟨f32, ef32⟩ : ∃ y : Nat → Int32, y = upd f3 x15.toNatClampNeg ((f3 x11.toNatClampNeg) + 1) := ⟨_, rfl⟩
          replace hm := lt_el hm ef32
          refine va_iast hx hb hK hP hD hS 1 0 rfl rfl hi31 d_Wa_findNearer_78 (fun H locs hP hD hS => ?_)
          rw [← ef32] at hP hD
          have hP : va_P (dC, dI) vwCl (wl_Wa_findNearer a_0 a_0_far a_0_open a_1 a_1_leftSpaces b_1_pointX b_1_pointY b_1_looseSides b_1_sidesOut b_1_pieceLine b_1_begins b_1_directions b_1_weights b_1_pointAt cI v_0_opens f32 f_0_open v_1_points v_1_pieces v_1_looseEnds f_1_leftSpaces) H := hP
          have hD : va_D A (wl_Wa_findNearer a_0 a_0_far a_0_open a_1 a_1_leftSpaces b_1_pointX b_1_pointY b_1_looseSides b_1_sidesOut b_1_pieceLine b_1_begins b_1_directions b_1_weights b_1_pointAt cI v_0_opens f32 f_0_open v_1_points v_1_pieces v_1_looseEnds f_1_leftSpaces) := hD
          refine lv_iconst (v := 1) hx hb d_Wa_findNearer_79 (by decide) ?_
          refine lv_istore_n (lv' := [(2, .int 1), (5, .int x15), (4, .int x11), (0, .ref a_0), (1, .ref a_1), (3, .int x2)]) hx hb d_Wa_findNearer_80 rfl hl (by decide) rfl (fun ls hl => ?_)
          refine lv_goto (tgt := 121) hx hb d_Wa_findNearer_81 (by decide) ?_
          cases hm
          exact K18 H locs ls hP hD hS (lv_sub hl [3, 4, 0, 5] rfl)
  obtain ⟨x4, f5, hb34, hm⟩ := bd2_e hm
  refine L4_6 fu _ _ _ _ _ hb34 (fun H locs ls hP hD hS hl => ?_) H locs ls hP hD hS (lv_sub hl [2, 3, 1, 0] rfl)
  refine lv_iload_n hx hb d_Wa_findNearer_127 rfl (lv_at hl 0 rfl) ?_
  obtain ⟨hB, hm⟩ := gB_e hm
  cases hm
  exact hret _ H locs ls d_Wa_findNearer_128 hB hP hD hS
set_option maxHeartbeats 4000000 in
set_option maxRecDepth 100000 in
theorem c_Wa_findNearer (l : Launch) (dC : Nat → ClassId) (dI : Nat → Nat → Nat) {cI cZ cJ : ClassId} (a_0 a_0_far a_0_open a_1 a_1_leftSpaces b_1_pointX b_1_pointY b_1_looseSides b_1_sidesOut b_1_pieceLine b_1_begins b_1_directions b_1_weights b_1_pointAt : Nat) (sz : Nat) (v_0_opens : Int32) (f_0_far : Nat → Int32) (f_0_open : Nat → Int32) (v_1_points : Int32) (v_1_pieces : Int32) (v_1_looseEnds : Int32) (f_1_leftSpaces : Nat → Int32)  (R0 : Int32) (of_0_far : Nat → Int32) (hm : m_Wa_findNearer v_0_opens f_0_far f_0_open f_1_leftSpaces = some (R0, of_0_far)) : Met l y_Wa_findNearer w_Wa_findNearer rm_Wa_findNearer (PP dC dI [(cI, .int), (cZ, .boolean), (cJ, .long)] [.ref a_0, .ref a_1] sz (wl_Wa_findNearer a_0 a_0_far a_0_open a_1 a_1_leftSpaces b_1_pointX b_1_pointY b_1_looseSides b_1_sidesOut b_1_pieceLine b_1_begins b_1_directions b_1_weights b_1_pointAt cI v_0_opens f_0_far f_0_open v_1_points v_1_pieces v_1_looseEnds f_1_leftSpaces)) (QI dC dI [(cI, .int), (cZ, .boolean), (cJ, .long)] sz (wl_Wa_findNearer a_0 a_0_far a_0_open a_1 a_1_leftSpaces b_1_pointX b_1_pointY b_1_looseSides b_1_sidesOut b_1_pieceLine b_1_begins b_1_directions b_1_weights b_1_pointAt cI v_0_opens f_0_far f_0_open v_1_points v_1_pieces v_1_looseEnds f_1_leftSpaces) (wl_Wa_findNearer a_0 a_0_far a_0_open a_1 a_1_leftSpaces b_1_pointX b_1_pointY b_1_looseSides b_1_sidesOut b_1_pieceLine b_1_begins b_1_directions b_1_weights b_1_pointAt cI v_0_opens of_0_far f_0_open v_1_points v_1_pieces v_1_looseEnds f_1_leftSpaces) R0) 0 0 (va_A (wl_Wa_findNearer a_0 a_0_far a_0_open a_1 a_1_leftSpaces b_1_pointX b_1_pointY b_1_looseSides b_1_sidesOut b_1_pieceLine b_1_begins b_1_directions b_1_weights b_1_pointAt cI v_0_opens f_0_far f_0_open v_1_points v_1_pieces v_1_looseEnds f_1_leftSpaces) sz) := by
  refine Met.ofW (cc := b_Wa_findNearer) (maxL := 6) (ret := (some .boolean)) (by decide) rfl ?_
  intro p e s m args below meth c s₁ B hml hv
  obtain ⟨rfl, hsz, hP, hK, hD0, hN⟩ := hv
  subst hsz
  have hl := lv_entry ([.ref a_0, .ref a_1]) (n := 6) (Nat.le_of_ble_eq_true rfl)
  rw [lg_entry_eq]
  generalize (lg_sl ([.ref a_0, .ref a_1]) ++ List.replicate (6 - (lg_sl ([.ref a_0, .ref a_1])).length) Slot.unset).toArray = ls at hl ⊢
  exact t_Wa_findNearer a_0 a_0_far a_0_open a_1 a_1_leftSpaces b_1_pointX b_1_pointY b_1_looseSides b_1_sidesOut b_1_pieceLine b_1_begins b_1_directions b_1_weights b_1_pointAt v_0_opens f_0_far f_0_open v_1_points v_1_pieces v_1_looseEnds f_1_leftSpaces R0 of_0_far B.exec B.bytes hml (findClass_of_methodNamed B.named) (atoms_spec (ws := w_Wa_findNearer) B.pre) hK hN (fun q h => Or.inr h) (fun pc H locs ls hd hz hP9 hD9 hS => W.zret B.exec B.bytes B.returns (nar_b hz) (fun t ht hW => ⟨⟨_, (), rfl, rfl, by rw [ht]; exact hP9, va_K.moved hW.alike hK, hD9⟩, hS.F ht⟩) hS.2.2 hd) hm s.heap [] ls hP hD0.self va_S.rf hl

theorem k_263 : ((.code ⟨"SpaceCycles$Ways", "findOpenPieces", "(LSpaceCycles$Lines;LSpaceCycles$Net;)V"⟩ prog_11_method_3_code 7 none) : Cond) ∈ gl := gl_i 1054 (by decide +kernel) (by decide +kernel)
theorem k_264 : ((.selects "SpaceCycles$Ways" ⟨"SpaceCycles$Ways", "findOpenPieces", "(LSpaceCycles$Lines;LSpaceCycles$Net;)V"⟩ ⟨"SpaceCycles$Ways", "findOpenPieces", "(LSpaceCycles$Lines;LSpaceCycles$Net;)V"⟩) : Cond) ∈ gl := gl_s (by decide +kernel) (by decide +kernel)
theorem k_265 : ((.instanceMethod ⟨"SpaceCycles$Ways", "findOpenPieces", "(LSpaceCycles$Lines;LSpaceCycles$Net;)V"⟩) : Cond) ∈ gl := gl_i 1053 (by decide +kernel) (by decide +kernel)
theorem k_266 : ((.initialized "SpaceCycles$Ways") : Cond) ∈ gl := gl_i 9 (by decide +kernel) (by decide +kernel)
theorem k_267 : ((.methodLink "SpaceCycles$Ways" 22 ⟨"SpaceCycles$Ways", "findOpenPieces", "(LSpaceCycles$Lines;LSpaceCycles$Net;)V"⟩) : Cond) ∈ gl := gl_i 1051 (by decide +kernel) (by decide +kernel)
theorem k_268 : ((.methodLink "SpaceCycles$Ways" 26 ⟨"java/util/Arrays", "fill", "([II)V"⟩) : Cond) ∈ gl := gl_i 1062 (by decide +kernel) (by decide +kernel)
theorem k_269 : ((.code ⟨"SpaceCycles$Ways", "findNearer", "(LSpaceCycles$Net;)Z"⟩ prog_11_method_4_code 6 (some .boolean)) : Cond) ∈ gl := gl_i 1066 (by decide +kernel) (by decide +kernel)
theorem k_270 : ((.selects "SpaceCycles$Ways" ⟨"SpaceCycles$Ways", "findNearer", "(LSpaceCycles$Net;)Z"⟩ ⟨"SpaceCycles$Ways", "findNearer", "(LSpaceCycles$Net;)Z"⟩) : Cond) ∈ gl := gl_s (by decide +kernel) (by decide +kernel)
theorem k_271 : ((.instanceMethod ⟨"SpaceCycles$Ways", "findNearer", "(LSpaceCycles$Net;)Z"⟩) : Cond) ∈ gl := gl_i 1065 (by decide +kernel) (by decide +kernel)
theorem k_272 : ((.methodLink "SpaceCycles$Ways" 32 ⟨"SpaceCycles$Ways", "findNearer", "(LSpaceCycles$Net;)Z"⟩) : Cond) ∈ gl := gl_i 1063 (by decide +kernel) (by decide +kernel)
-- SpaceCycles$Ways.doorsOnTheWay(LSpaceCycles$Lines;LSpaceCycles$Net;II)I
abbrev b_Wa_doorsOnTheWay : ByteArray := prog_11_method_2_code
abbrev y_Wa_doorsOnTheWay : MethodName := ⟨"SpaceCycles$Ways", "doorsOnTheWay", "(LSpaceCycles$Lines;LSpaceCycles$Net;II)I"⟩
abbrev w_Wa_doorsOnTheWay : List Cond := Cond.code y_Wa_doorsOnTheWay b_Wa_doorsOnTheWay 7 (some .int) :: gl
abbrev rm_Wa_doorsOnTheWay : Room := { frames := 3, cells := 0, slots := 0, locals := 115 }
theorem d_Wa_doorsOnTheWay_0 : decode b_Wa_doorsOnTheWay 0 = .ok (.aload_n 0, 1) := by decide +kernel
theorem d_Wa_doorsOnTheWay_1 : decode b_Wa_doorsOnTheWay 1 = .ok (.aload_n 1, 1) := by decide +kernel
theorem d_Wa_doorsOnTheWay_2 : decode b_Wa_doorsOnTheWay 2 = .ok (.aload_n 2, 1) := by decide +kernel
theorem d_Wa_doorsOnTheWay_3 : decode b_Wa_doorsOnTheWay 3 = .ok (.invokevirtual 22, 3) := by decide +kernel
theorem d_Wa_doorsOnTheWay_6 : decode b_Wa_doorsOnTheWay 6 = .ok (.aload_n 0, 1) := by decide +kernel
theorem d_Wa_doorsOnTheWay_7 : decode b_Wa_doorsOnTheWay 7 = .ok (.getfield 9, 3) := by decide +kernel
theorem d_Wa_doorsOnTheWay_10 : decode b_Wa_doorsOnTheWay 10 = .ok (.sipush 1000, 3) := by decide +kernel
theorem d_Wa_doorsOnTheWay_13 : decode b_Wa_doorsOnTheWay 13 = .ok (.invokestatic 26, 3) := by decide +kernel
theorem d_Wa_doorsOnTheWay_16 : decode b_Wa_doorsOnTheWay 16 = .ok (.aload_n 0, 1) := by decide +kernel
theorem d_Wa_doorsOnTheWay_17 : decode b_Wa_doorsOnTheWay 17 = .ok (.getfield 9, 3) := by decide +kernel
theorem d_Wa_doorsOnTheWay_20 : decode b_Wa_doorsOnTheWay 20 = .ok (.iload_n 3, 1) := by decide +kernel
theorem d_Wa_doorsOnTheWay_21 : decode b_Wa_doorsOnTheWay 21 = .ok (.iconst 1, 1) := by decide +kernel
theorem d_Wa_doorsOnTheWay_22 : decode b_Wa_doorsOnTheWay 22 = .ok (.iadd, 1) := by decide +kernel
theorem d_Wa_doorsOnTheWay_23 : decode b_Wa_doorsOnTheWay 23 = .ok (.iconst 0, 1) := by decide +kernel
theorem d_Wa_doorsOnTheWay_24 : decode b_Wa_doorsOnTheWay 24 = .ok (.iastore, 1) := by decide +kernel
theorem d_Wa_doorsOnTheWay_25 : decode b_Wa_doorsOnTheWay 25 = .ok (.iconst 1, 1) := by decide +kernel
theorem d_Wa_doorsOnTheWay_26 : decode b_Wa_doorsOnTheWay 26 = .ok (.istore 5, 2) := by decide +kernel
theorem d_Wa_doorsOnTheWay_28 : decode b_Wa_doorsOnTheWay 28 = .ok (.iconst 0, 1) := by decide +kernel
theorem d_Wa_doorsOnTheWay_29 : decode b_Wa_doorsOnTheWay 29 = .ok (.istore 6, 2) := by decide +kernel
theorem d_Wa_doorsOnTheWay_31 : decode b_Wa_doorsOnTheWay 31 = .ok (.iload 6, 2) := by decide +kernel
theorem d_Wa_doorsOnTheWay_33 : decode b_Wa_doorsOnTheWay 33 = .ok (.bipush 81, 2) := by decide +kernel
theorem d_Wa_doorsOnTheWay_35 : decode b_Wa_doorsOnTheWay 35 = .ok (.if_icmp .gt 21, 3) := by decide +kernel
theorem d_Wa_doorsOnTheWay_38 : decode b_Wa_doorsOnTheWay 38 = .ok (.iload 5, 2) := by decide +kernel
theorem d_Wa_doorsOnTheWay_40 : decode b_Wa_doorsOnTheWay 40 = .ok (.ifCond .eq 16, 3) := by decide +kernel
theorem d_Wa_doorsOnTheWay_43 : decode b_Wa_doorsOnTheWay 43 = .ok (.aload_n 0, 1) := by decide +kernel
theorem d_Wa_doorsOnTheWay_44 : decode b_Wa_doorsOnTheWay 44 = .ok (.aload_n 2, 1) := by decide +kernel
theorem d_Wa_doorsOnTheWay_45 : decode b_Wa_doorsOnTheWay 45 = .ok (.invokevirtual 32, 3) := by decide +kernel
theorem d_Wa_doorsOnTheWay_48 : decode b_Wa_doorsOnTheWay 48 = .ok (.istore 5, 2) := by decide +kernel
theorem d_Wa_doorsOnTheWay_50 : decode b_Wa_doorsOnTheWay 50 = .ok (.iinc 6 1, 3) := by decide +kernel
theorem d_Wa_doorsOnTheWay_53 : decode b_Wa_doorsOnTheWay 53 = .ok (.goto (-22), 3) := by decide +kernel
theorem d_Wa_doorsOnTheWay_56 : decode b_Wa_doorsOnTheWay 56 = .ok (.aload_n 0, 1) := by decide +kernel
theorem d_Wa_doorsOnTheWay_57 : decode b_Wa_doorsOnTheWay 57 = .ok (.getfield 9, 3) := by decide +kernel
theorem d_Wa_doorsOnTheWay_60 : decode b_Wa_doorsOnTheWay 60 = .ok (.iload 4, 2) := by decide +kernel
theorem d_Wa_doorsOnTheWay_62 : decode b_Wa_doorsOnTheWay 62 = .ok (.iconst 1, 1) := by decide +kernel
theorem d_Wa_doorsOnTheWay_63 : decode b_Wa_doorsOnTheWay 63 = .ok (.iadd, 1) := by decide +kernel
theorem d_Wa_doorsOnTheWay_64 : decode b_Wa_doorsOnTheWay 64 = .ok (.iaload, 1) := by decide +kernel
theorem d_Wa_doorsOnTheWay_65 : decode b_Wa_doorsOnTheWay 65 = .ok (.sipush 1000, 3) := by decide +kernel
theorem d_Wa_doorsOnTheWay_68 : decode b_Wa_doorsOnTheWay 68 = .ok (.if_icmp .ge 15, 3) := by decide +kernel
theorem d_Wa_doorsOnTheWay_71 : decode b_Wa_doorsOnTheWay 71 = .ok (.aload_n 0, 1) := by decide +kernel
theorem d_Wa_doorsOnTheWay_72 : decode b_Wa_doorsOnTheWay 72 = .ok (.getfield 9, 3) := by decide +kernel
theorem d_Wa_doorsOnTheWay_75 : decode b_Wa_doorsOnTheWay 75 = .ok (.iload 4, 2) := by decide +kernel
theorem d_Wa_doorsOnTheWay_77 : decode b_Wa_doorsOnTheWay 77 = .ok (.iconst 1, 1) := by decide +kernel
theorem d_Wa_doorsOnTheWay_78 : decode b_Wa_doorsOnTheWay 78 = .ok (.iadd, 1) := by decide +kernel
theorem d_Wa_doorsOnTheWay_79 : decode b_Wa_doorsOnTheWay 79 = .ok (.iaload, 1) := by decide +kernel
theorem d_Wa_doorsOnTheWay_80 : decode b_Wa_doorsOnTheWay 80 = .ok (.goto 5, 3) := by decide +kernel
theorem d_Wa_doorsOnTheWay_83 : decode b_Wa_doorsOnTheWay 83 = .ok (.bipush (-2), 2) := by decide +kernel
theorem d_Wa_doorsOnTheWay_85 : decode b_Wa_doorsOnTheWay 85 = .ok (.ireturn, 1) := by decide +kernel
abbrev wl_Wa_doorsOnTheWay (a_0 : Nat) (a_0_far : Nat) (a_0_open : Nat) (a_1 : Nat) (a_1_lowX : Nat) (a_1_lowY : Nat) (a_1_doors : Nat) (a_1_doorFrom : Nat) (a_1_doorTo : Nat) (a_2 : Nat) (a_2_pointX : Nat) (a_2_pointY : Nat) (a_2_pieceLine : Nat) (a_2_begins : Nat) (a_2_leftSpaces : Nat) (b_1_highX : Nat) (b_1_highY : Nat) (b_1_thickness : Nat) (b_2_looseSides : Nat) (b_2_sidesOut : Nat) (b_2_directions : Nat) (b_2_weights : Nat) (b_2_pointAt : Nat) (cI : ClassId) (v_0_opens : Int32) (f_0_far : Nat → Int32) (f_0_open : Nat → Int32) (v_1_count : Int32) (f_1_lowX : Nat → Int32) (f_1_lowY : Nat → Int32) (f_1_doors : Nat → Int32) (f_1_doorFrom : Nat → Int32) (f_1_doorTo : Nat → Int32) (v_2_points : Int32) (v_2_pieces : Int32) (v_2_looseEnds : Int32) (f_2_pointX : Nat → Int32) (f_2_pointY : Nat → Int32) (f_2_pieceLine : Nat → Int32) (f_2_begins : Nat → Int32) (f_2_leftSpaces : Nat → Int32) : va_W := [(a_0, .inr (7, [.ref a_0_far, .ref a_0_open, .int v_0_opens])), (a_0_far, .inl (cI, 82, .inl f_0_far)), (a_0_open, .inl (cI, 220, .inl f_0_open)), (a_1, .inr (1, [.ref a_1_lowX, .ref a_1_lowY, .ref b_1_highX, .ref b_1_highY, .ref b_1_thickness, .ref a_1_doors, .ref a_1_doorFrom, .ref a_1_doorTo, .int v_1_count])), (a_1_lowX, .inl (cI, 20, .inl f_1_lowX)), (a_1_lowY, .inl (cI, 20, .inl f_1_lowY)), (a_1_doors, .inl (cI, 20, .inl f_1_doors)), (a_1_doorFrom, .inl (cI, 120, .inl f_1_doorFrom)), (a_1_doorTo, .inl (cI, 120, .inl f_1_doorTo)), (a_2, .inr (3, [.ref a_2_pointX, .ref a_2_pointY, .ref b_2_looseSides, .int v_2_points, .int v_2_pieces, .int v_2_looseEnds, .ref b_2_sidesOut, .ref a_2_pieceLine, .ref a_2_begins, .ref b_2_directions, .ref a_2_leftSpaces, .ref b_2_weights, .ref b_2_pointAt])), (a_2_pointX, .inl (cI, 140, .inl f_2_pointX)), (a_2_pointY, .inl (cI, 140, .inl f_2_pointY)), (a_2_pieceLine, .inl (cI, 220, .inl f_2_pieceLine)), (a_2_begins, .inl (cI, 440, .inl f_2_begins)), (a_2_leftSpaces, .inl (cI, 440, .inl f_2_leftSpaces))]
def m_Wa_doorsOnTheWay_L31 (v_0_opens : Int32) (f_0_open : Nat → Int32) (f_2_leftSpaces : Nat → Int32) : Nat → Int32 → Int32 → (Nat → Int32) → Option ((Nat → Int32))
  | 0, _, _, _ => none
  | n + 1, l5, l6, f_0_far =>
    if 81 < l6 then (
      some f_0_far)
    else (
      if l5 = 0 then (
        some f_0_far)
      else (
        bd2 (m_Wa_findNearer v_0_opens f_0_far f_0_open f_2_leftSpaces) fun r10 f11 =>
        lt_ (l6 + 1) fun x13 =>
        m_Wa_doorsOnTheWay_L31 v_0_opens f_0_open f_2_leftSpaces n r10 x13 f11))
def m_Wa_doorsOnTheWay (p3 : Int32) (p4 : Int32) (v_0_opens : Int32) (f_0_far : Nat → Int32) (f_0_open : Nat → Int32) (f_1_lowX : Nat → Int32) (f_1_lowY : Nat → Int32) (f_1_doors : Nat → Int32) (f_1_doorFrom : Nat → Int32) (f_1_doorTo : Nat → Int32) (v_2_pieces : Int32) (f_2_pointX : Nat → Int32) (f_2_pointY : Nat → Int32) (f_2_pieceLine : Nat → Int32) (f_2_begins : Nat → Int32) (f_2_leftSpaces : Nat → Int32) : Option (Int32 × (Int32) × (Nat → Int32) × (Nat → Int32)) :=
  bd2 (m_Wa_findOpenPieces v_0_opens f_0_open f_1_lowX f_1_lowY f_1_doors f_1_doorFrom f_1_doorTo v_2_pieces f_2_pointX f_2_pointY f_2_pieceLine f_2_begins) fun x1 f2 =>
  bd1 (m_Ar_fill0 82 1000 f_0_far) fun f4 =>
  gI (p3 + 1) 82 <|
  lt_ (upd f4 (p3 + 1).toNatClampNeg 0) fun f7 =>
  bd1 (m_Wa_doorsOnTheWay_L31 x1 f2 f_2_leftSpaces fu 1 0 f7) fun f11 =>
  gI (p4 + 1) 82 <|
  bd1 (
    if 1000 ≤ (f11 (p4 + 1).toNatClampNeg) then (
    some (-2))
  else (
    gI (p4 + 1) 82 <|
    some (f11 (p4 + 1).toNatClampNeg)))
  fun (x24 : Int32) =>
  some (x24, x1, f11, f2)

set_option maxHeartbeats 4000000 in
set_option maxRecDepth 100000 in
theorem t_Wa_doorsOnTheWay {p : Program} {l : Launch} {e : Env} {s : State} {m : MethodId} {args : Array Value} {below : List Frame} {meth : Method} {c : Code} {A : Nat → Prop} {Q : State → Prop} {dC : Nat → ClassId} {dI : Nat → Nat → Nat} {cI cZ cJ : ClassId} (a_0 a_0_far a_0_open a_1 a_1_lowX a_1_lowY a_1_doors a_1_doorFrom a_1_doorTo a_2 a_2_pointX a_2_pointY a_2_pieceLine a_2_begins a_2_leftSpaces b_1_highX b_1_highY b_1_thickness b_2_looseSides b_2_sidesOut b_2_directions b_2_weights b_2_pointAt : Nat) (v_0_opens : Int32) (f_0_far : Nat → Int32) (f_0_open : Nat → Int32) (v_1_count : Int32) (f_1_lowX : Nat → Int32) (f_1_lowY : Nat → Int32) (f_1_doors : Nat → Int32) (f_1_doorFrom : Nat → Int32) (f_1_doorTo : Nat → Int32) (v_2_points : Int32) (v_2_pieces : Int32) (v_2_looseEnds : Int32) (f_2_pointX : Nat → Int32) (f_2_pointY : Nat → Int32) (f_2_pieceLine : Nat → Int32) (f_2_begins : Nat → Int32) (f_2_leftSpaces : Nat → Int32) (p3 : Int32) (p4 : Int32) (R0 : Int32) (ov_0_opens : Int32) (of_0_far : Nat → Int32) (of_0_open : Nat → Int32) (hx : p.tables.exec = Jvm.exec) (hb : c.code = b_Wa_doorsOnTheWay) (hml : c.maxLocals = 7) (hown : s.vm.findClass "SpaceCycles$Ways" = some m.cls) (hts : ∀ w ∈ w_Wa_doorsOnTheWay, w.before args s = true) (hK : va_K (dC, dI) vwCl [(cI, .int), (cZ, .boolean), (cJ, .long)] s) (hN : NX s) (hA : ∀ q : Nat, s.heap.size ≤ q → A q)
    (hret : ∀ (pc : Nat) (H : Heap) (locs : List Loc) (ls : Array Slot), decode b_Wa_doorsOnTheWay pc = .ok (.ireturn, 1) → va_P (dC, dI) vwCl (wl_Wa_doorsOnTheWay a_0 a_0_far a_0_open a_1 a_1_lowX a_1_lowY a_1_doors a_1_doorFrom a_1_doorTo a_2 a_2_pointX a_2_pointY a_2_pieceLine a_2_begins a_2_leftSpaces b_1_highX b_1_highY b_1_thickness b_2_looseSides b_2_sidesOut b_2_directions b_2_weights b_2_pointAt cI ov_0_opens of_0_far of_0_open v_1_count f_1_lowX f_1_lowY f_1_doors f_1_doorFrom f_1_doorTo v_2_points v_2_pieces v_2_looseEnds f_2_pointX f_2_pointY f_2_pieceLine f_2_begins f_2_leftSpaces) H → va_D A (wl_Wa_doorsOnTheWay a_0 a_0_far a_0_open a_1 a_1_lowX a_1_lowY a_1_doors a_1_doorFrom a_1_doorTo a_2 a_2_pointX a_2_pointY a_2_pieceLine a_2_begins a_2_leftSpaces b_1_highX b_1_highY b_1_thickness b_2_looseSides b_2_sidesOut b_2_directions b_2_weights b_2_pointAt cI ov_0_opens of_0_far of_0_open v_1_count f_1_lowX f_1_lowY f_1_doors f_1_doorFrom f_1_doorTo v_2_points v_2_pieces v_2_looseEnds f_2_pointX f_2_pointY f_2_pieceLine f_2_begins f_2_leftSpaces) → va_S A s.heap H locs → W p l e rm_Wa_doorsOnTheWay s m args below meth c H locs 0 0 Q (F0 m pc ls [.int R0]))
    (hm : m_Wa_doorsOnTheWay p3 p4 v_0_opens f_0_far f_0_open f_1_lowX f_1_lowY f_1_doors f_1_doorFrom f_1_doorTo v_2_pieces f_2_pointX f_2_pointY f_2_pieceLine f_2_begins f_2_leftSpaces = some (R0, ov_0_opens, of_0_far, of_0_open)) : ∀ (H : Heap) (locs : List Loc) (ls : Array Slot), va_P (dC, dI) vwCl (wl_Wa_doorsOnTheWay a_0 a_0_far a_0_open a_1 a_1_lowX a_1_lowY a_1_doors a_1_doorFrom a_1_doorTo a_2 a_2_pointX a_2_pointY a_2_pieceLine a_2_begins a_2_leftSpaces b_1_highX b_1_highY b_1_thickness b_2_looseSides b_2_sidesOut b_2_directions b_2_weights b_2_pointAt cI v_0_opens f_0_far f_0_open v_1_count f_1_lowX f_1_lowY f_1_doors f_1_doorFrom f_1_doorTo v_2_points v_2_pieces v_2_looseEnds f_2_pointX f_2_pointY f_2_pieceLine f_2_begins f_2_leftSpaces) H → va_D A (wl_Wa_doorsOnTheWay a_0 a_0_far a_0_open a_1 a_1_lowX a_1_lowY a_1_doors a_1_doorFrom a_1_doorTo a_2 a_2_pointX a_2_pointY a_2_pieceLine a_2_begins a_2_leftSpaces b_1_highX b_1_highY b_1_thickness b_2_looseSides b_2_sidesOut b_2_directions b_2_weights b_2_pointAt cI v_0_opens f_0_far f_0_open v_1_count f_1_lowX f_1_lowY f_1_doors f_1_doorFrom f_1_doorTo v_2_points v_2_pieces v_2_looseEnds f_2_pointX f_2_pointY f_2_pieceLine f_2_begins f_2_leftSpaces) → va_S A s.heap H locs → lv_has ls 7 [(0, .ref a_0), (1, .ref a_1), (2, .ref a_2), (3, .int p3), (4, .int p4)] → W p l e rm_Wa_doorsOnTheWay s m args below meth c H locs 0 0 Q (F0 m 0 ls []) := by
  intro H locs ls hP hD hS hl
  unfold m_Wa_doorsOnTheWay at hm
  refine lv_aload_n hx hb d_Wa_doorsOnTheWay_0 rfl (lv_at hl 0 rfl) ?_
  refine lv_aload_n hx hb d_Wa_doorsOnTheWay_1 rfl (lv_at hl 1 rfl) ?_
  refine lv_aload_n hx hb d_Wa_doorsOnTheWay_2 rfl (lv_at hl 2 rfl) ?_
  obtain ⟨x1, f2, hb3, hm⟩ := bd2_e hm
  have hPc := hP.sub (ws' := (wl_Wa_findOpenPieces a_0 a_0_open a_1 a_1_lowX a_1_lowY a_1_doors a_1_doorFrom a_1_doorTo a_2 a_2_pointX a_2_pointY a_2_pieceLine a_2_begins a_0_far b_1_highX b_1_highY b_1_thickness b_2_looseSides b_2_sidesOut b_2_directions a_2_leftSpaces b_2_weights b_2_pointAt cI v_0_opens f_0_open v_1_count f_1_lowX f_1_lowY f_1_doors f_1_doorFrom f_1_doorTo v_2_points v_2_pieces v_2_looseEnds f_2_pointX f_2_pointY f_2_pieceLine f_2_begins)) [0, 2, 3, 4, 5, 6, 7, 8, 9, 10, 11, 12, 13] rfl
  have hDc := hD.sub (ws' := (wl_Wa_findOpenPieces a_0 a_0_open a_1 a_1_lowX a_1_lowY a_1_doors a_1_doorFrom a_1_doorTo a_2 a_2_pointX a_2_pointY a_2_pieceLine a_2_begins a_0_far b_1_highX b_1_highY b_1_thickness b_2_looseSides b_2_sidesOut b_2_directions a_2_leftSpaces b_2_weights b_2_pointAt cI v_0_opens f_0_open v_1_count f_1_lowX f_1_lowY f_1_doors f_1_doorFrom f_1_doorTo v_2_points v_2_pieces v_2_looseEnds f_2_pointX f_2_pointY f_2_pieceLine f_2_begins)) [0, 2, 3, 4, 5, 6, 7, 8, 9, 10, 11, 12, 13] (by decide) rfl
  refine cl_v (wc' := (wl_Wa_findOpenPieces a_0 a_0_open a_1 a_1_lowX a_1_lowY a_1_doors a_1_doorFrom a_1_doorTo a_2 a_2_pointX a_2_pointY a_2_pieceLine a_2_begins a_0_far b_1_highX b_1_highY b_1_thickness b_2_looseSides b_2_sidesOut b_2_directions a_2_leftSpaces b_2_weights b_2_pointAt cI x1 f2 v_1_count f_1_lowX f_1_lowY f_1_doors f_1_doorFrom f_1_doorTo v_2_points v_2_pieces v_2_looseEnds f_2_pointX f_2_pointY f_2_pieceLine f_2_begins)) (va_runV (As := [.ref a_1, .ref a_2]) (rest := []) ⟨hx, hb, hml, hown, hts⟩ (c_Wa_findOpenPieces l dC dI (cI := cI) (cZ := cZ) (cJ := cJ) a_0 a_0_open a_1 a_1_lowX a_1_lowY a_1_doors a_1_doorFrom a_1_doorTo a_2 a_2_pointX a_2_pointY a_2_pieceLine a_2_begins a_0_far b_1_highX b_1_highY b_1_thickness b_2_looseSides b_2_sidesOut b_2_directions a_2_leftSpaces b_2_weights b_2_pointAt H.size v_0_opens f_0_open v_1_count f_1_lowX f_1_lowY f_1_doors f_1_doorFrom f_1_doorTo v_2_points v_2_pieces v_2_looseEnds f_2_pointX f_2_pointY f_2_pieceLine f_2_begins x1 f2 hb3) (cwV 2 hts (gl_V k_267 k_265 k_264 k_266 k_263) rfl rfl rfl (by decide +kernel) ⟨Nat.le_of_ble_eq_true rfl, Nat.le_of_ble_eq_true rfl⟩) ⟨PP_blind, va_recv hK hPc (ci := 7) (q0 := 0) rfl rfl, fun U hU hW => PP_at hK hN hPc hDc hU hW⟩ rfl rfl hl.1 rfl (lv_room (Nat.le_of_ble_eq_true rfl)) d_Wa_doorsOnTheWay_3 ⟨Nat.zero_le _, Nat.zero_le _⟩) hP hD hS hA [0, 2, 3, 4, 5, 6, 7, 8, 9, 10, 11, 12, 13] [1, 14] rfl rfl (by decide) (by decide) (fun H locs hP hD hS => ?_)
  have hP : va_P (dC, dI) vwCl (wl_Wa_doorsOnTheWay a_0 a_0_far a_0_open a_1 a_1_lowX a_1_lowY a_1_doors a_1_doorFrom a_1_doorTo a_2 a_2_pointX a_2_pointY a_2_pieceLine a_2_begins a_2_leftSpaces b_1_highX b_1_highY b_1_thickness b_2_looseSides b_2_sidesOut b_2_directions b_2_weights b_2_pointAt cI x1 f_0_far f2 v_1_count f_1_lowX f_1_lowY f_1_doors f_1_doorFrom f_1_doorTo v_2_points v_2_pieces v_2_looseEnds f_2_pointX f_2_pointY f_2_pieceLine f_2_begins f_2_leftSpaces) H := hP.sub [2, 0, 3, 4, 5, 6, 7, 8, 9, 10, 11, 12, 13, 14, 1] rfl
  have hD : va_D A (wl_Wa_doorsOnTheWay a_0 a_0_far a_0_open a_1 a_1_lowX a_1_lowY a_1_doors a_1_doorFrom a_1_doorTo a_2 a_2_pointX a_2_pointY a_2_pieceLine a_2_begins a_2_leftSpaces b_1_highX b_1_highY b_1_thickness b_2_looseSides b_2_sidesOut b_2_directions b_2_weights b_2_pointAt cI x1 f_0_far f2 v_1_count f_1_lowX f_1_lowY f_1_doors f_1_doorFrom f_1_doorTo v_2_points v_2_pieces v_2_looseEnds f_2_pointX f_2_pointY f_2_pieceLine f_2_begins f_2_leftSpaces) := hD.sub [2, 0, 3, 4, 5, 6, 7, 8, 9, 10, 11, 12, 13, 14, 1] (by decide) rfl
  refine lv_aload_n hx hb d_Wa_doorsOnTheWay_6 rfl (lv_at hl 0 rfl) ?_
  refine va_get (D := (dC, dI)) (ci := 7) (v := .ref a_0_far) (C := "SpaceCycles$Ways") (T := F_Wa) (N := 3) hx hb hts (in_F i_Wa) hown hK hP 0 rfl rfl 0 (by decide) (hts _ (in_c k_262)) (fun _ h9 => h9) rfl d_Wa_doorsOnTheWay_7 ?_
  refine lv_sipush (v := 1000) hx hb d_Wa_doorsOnTheWay_10 (by decide) ?_
  obtain ⟨f4, hb5, hm⟩ := bd1_e hm
  have hPc := hP.sub (ws' := (wl_Ar_fill0 a_0_far cI 82 f_0_far)) [1] rfl
  have hDc := hD.sub (ws' := (wl_Ar_fill0 a_0_far cI 82 f_0_far)) [1] (by decide) rfl
  refine cl_v (wc' := (wl_Ar_fill0 a_0_far cI 82 f4)) (va_runS (As := [.ref a_0_far, .int 1000]) (rest := []) ⟨hx, hb, hml, hown, hts⟩ (c_Ar_fill0 l dC dI (cI := cI) (cZ := cZ) (cJ := cJ) a_0_far H.size 82 f_0_far 1000 f4 hb5) (va_cwS 2 hts (gl_S k_268 k_124 k_2 k_123) rfl rfl rfl (by decide +kernel) ⟨Nat.le_of_ble_eq_true rfl, Nat.le_of_ble_eq_true rfl⟩) ⟨PP_blind, fun U hU hW => PP_at hK hN hPc hDc hU hW⟩ rfl rfl hl.1 rfl (lv_room (Nat.le_of_ble_eq_true rfl)) d_Wa_doorsOnTheWay_13 ⟨Nat.zero_le _, Nat.zero_le _⟩) hP hD hS hA [1] [0, 2, 3, 4, 5, 6, 7, 8, 9, 10, 11, 12, 13, 14] rfl rfl (by decide) (by decide) (fun H locs hP hD hS => ?_)
  have hP : va_P (dC, dI) vwCl (wl_Wa_doorsOnTheWay a_0 a_0_far a_0_open a_1 a_1_lowX a_1_lowY a_1_doors a_1_doorFrom a_1_doorTo a_2 a_2_pointX a_2_pointY a_2_pieceLine a_2_begins a_2_leftSpaces b_1_highX b_1_highY b_1_thickness b_2_looseSides b_2_sidesOut b_2_directions b_2_weights b_2_pointAt cI x1 f4 f2 v_1_count f_1_lowX f_1_lowY f_1_doors f_1_doorFrom f_1_doorTo v_2_points v_2_pieces v_2_looseEnds f_2_pointX f_2_pointY f_2_pieceLine f_2_begins f_2_leftSpaces) H := hP.sub [0, 14, 1, 2, 3, 4, 5, 6, 7, 8, 9, 10, 11, 12, 13] rfl
  have hD : va_D A (wl_Wa_doorsOnTheWay a_0 a_0_far a_0_open a_1 a_1_lowX a_1_lowY a_1_doors a_1_doorFrom a_1_doorTo a_2 a_2_pointX a_2_pointY a_2_pieceLine a_2_begins a_2_leftSpaces b_1_highX b_1_highY b_1_thickness b_2_looseSides b_2_sidesOut b_2_directions b_2_weights b_2_pointAt cI x1 f4 f2 v_1_count f_1_lowX f_1_lowY f_1_doors f_1_doorFrom f_1_doorTo v_2_points v_2_pieces v_2_looseEnds f_2_pointX f_2_pointY f_2_pieceLine f_2_begins f_2_leftSpaces) := hD.sub [0, 14, 1, 2, 3, 4, 5, 6, 7, 8, 9, 10, 11, 12, 13] (by decide) rfl
  refine lv_aload_n hx hb d_Wa_doorsOnTheWay_16 rfl (lv_at hl 0 rfl) ?_
  refine va_get (D := (dC, dI)) (ci := 7) (v := .ref a_0_far) (C := "SpaceCycles$Ways") (T := F_Wa) (N := 3) hx hb hts (in_F i_Wa) hown hK hP 0 rfl rfl 0 (by decide) (hts _ (in_c k_262)) (fun _ h9 => h9) rfl d_Wa_doorsOnTheWay_17 ?_
  refine lv_iload_n hx hb d_Wa_doorsOnTheWay_20 rfl (lv_at hl 3 rfl) ?_
  refine lv_iconst (v := 1) hx hb d_Wa_doorsOnTheWay_21 (by decide) ?_
  refine lv_iadd hx hb d_Wa_doorsOnTheWay_22 ?_
  refine lv_iconst (v := 0) hx hb d_Wa_doorsOnTheWay_23 (by decide) ?_
  obtain ⟨hi6, hm⟩ := gI_e hm
  obtain ⟨f7, ef7⟩ : ∃ y : Nat → Int32, y = upd f4 (p3 + 1).toNatClampNeg 0 := ⟨_, rfl⟩
  replace hm := lt_el hm ef7
  refine va_iast hx hb hK hP hD hS 1 0 rfl rfl hi6 d_Wa_doorsOnTheWay_24 (fun H locs hP hD hS => ?_)
  rw [← ef7] at hP hD
  have hP : va_P (dC, dI) vwCl (wl_Wa_doorsOnTheWay a_0 a_0_far a_0_open a_1 a_1_lowX a_1_lowY a_1_doors a_1_doorFrom a_1_doorTo a_2 a_2_pointX a_2_pointY a_2_pieceLine a_2_begins a_2_leftSpaces b_1_highX b_1_highY b_1_thickness b_2_looseSides b_2_sidesOut b_2_directions b_2_weights b_2_pointAt cI x1 f7 f2 v_1_count f_1_lowX f_1_lowY f_1_doors f_1_doorFrom f_1_doorTo v_2_points v_2_pieces v_2_looseEnds f_2_pointX f_2_pointY f_2_pieceLine f_2_begins f_2_leftSpaces) H := hP
  have hD : va_D A (wl_Wa_doorsOnTheWay a_0 a_0_far a_0_open a_1 a_1_lowX a_1_lowY a_1_doors a_1_doorFrom a_1_doorTo a_2 a_2_pointX a_2_pointY a_2_pieceLine a_2_begins a_2_leftSpaces b_1_highX b_1_highY b_1_thickness b_2_looseSides b_2_sidesOut b_2_directions b_2_weights b_2_pointAt cI x1 f7 f2 v_1_count f_1_lowX f_1_lowY f_1_doors f_1_doorFrom f_1_doorTo v_2_points v_2_pieces v_2_looseEnds f_2_pointX f_2_pointY f_2_pieceLine f_2_begins f_2_leftSpaces) := hD
  refine lv_iconst (v := 1) hx hb d_Wa_doorsOnTheWay_25 (by decide) ?_
  refine lv_istore (lv' := [(5, .int 1), (0, .ref a_0), (1, .ref a_1), (2, .ref a_2), (3, .int p3), (4, .int p4)]) hx hb d_Wa_doorsOnTheWay_26 hl (by decide) rfl (fun ls hl => ?_)
  refine lv_iconst (v := 0) hx hb d_Wa_doorsOnTheWay_28 (by decide) ?_
  refine lv_istore (lv' := [(6, .int 0), (5, .int 1), (0, .ref a_0), (1, .ref a_1), (2, .ref a_2), (3, .int p3), (4, .int p4)]) hx hb d_Wa_doorsOnTheWay_29 hl (by decide) rfl (fun ls hl => ?_)
  have L31_12 : ∀ (n : Nat) (x8 : Int32) (x9 : Int32) (f10 : Nat → Int32) (f11 : Nat → Int32), m_Wa_doorsOnTheWay_L31 x1 f2 f_2_leftSpaces n x8 x9 f10 = some f11 → (∀ (H : Heap) (locs : List Loc) (ls : Array Slot), va_P (dC, dI) vwCl (wl_Wa_doorsOnTheWay a_0 a_0_far a_0_open a_1 a_1_lowX a_1_lowY a_1_doors a_1_doorFrom a_1_doorTo a_2 a_2_pointX a_2_pointY a_2_pieceLine a_2_begins a_2_leftSpaces b_1_highX b_1_highY b_1_thickness b_2_looseSides b_2_sidesOut b_2_directions b_2_weights b_2_pointAt cI x1 f11 f2 v_1_count f_1_lowX f_1_lowY f_1_doors f_1_doorFrom f_1_doorTo v_2_points v_2_pieces v_2_looseEnds f_2_pointX f_2_pointY f_2_pieceLine f_2_begins f_2_leftSpaces) H → va_D A (wl_Wa_doorsOnTheWay a_0 a_0_far a_0_open a_1 a_1_lowX a_1_lowY a_1_doors a_1_doorFrom a_1_doorTo a_2 a_2_pointX a_2_pointY a_2_pieceLine a_2_begins a_2_leftSpaces b_1_highX b_1_highY b_1_thickness b_2_looseSides b_2_sidesOut b_2_directions b_2_weights b_2_pointAt cI x1 f11 f2 v_1_count f_1_lowX f_1_lowY f_1_doors f_1_doorFrom f_1_doorTo v_2_points v_2_pieces v_2_looseEnds f_2_pointX f_2_pointY f_2_pieceLine f_2_begins f_2_leftSpaces) → va_S A s.heap H locs → lv_has ls 7 [(0, .ref a_0), (4, .int p4)] → W p l e rm_Wa_doorsOnTheWay s m args below meth c H locs 0 0 Q (F0 m 56 ls [])) → ∀ (H : Heap) (locs : List Loc) (ls : Array Slot), va_P (dC, dI) vwCl (wl_Wa_doorsOnTheWay a_0 a_0_far a_0_open a_1 a_1_lowX a_1_lowY a_1_doors a_1_doorFrom a_1_doorTo a_2 a_2_pointX a_2_pointY a_2_pieceLine a_2_begins a_2_leftSpaces b_1_highX b_1_highY b_1_thickness b_2_looseSides b_2_sidesOut b_2_directions b_2_weights b_2_pointAt cI x1 f10 f2 v_1_count f_1_lowX f_1_lowY f_1_doors f_1_doorFrom f_1_doorTo v_2_points v_2_pieces v_2_looseEnds f_2_pointX f_2_pointY f_2_pieceLine f_2_begins f_2_leftSpaces) H → va_D A (wl_Wa_doorsOnTheWay a_0 a_0_far a_0_open a_1 a_1_lowX a_1_lowY a_1_doors a_1_doorFrom a_1_doorTo a_2 a_2_pointX a_2_pointY a_2_pieceLine a_2_begins a_2_leftSpaces b_1_highX b_1_highY b_1_thickness b_2_looseSides b_2_sidesOut b_2_directions b_2_weights b_2_pointAt cI x1 f10 f2 v_1_count f_1_lowX f_1_lowY f_1_doors f_1_doorFrom f_1_doorTo v_2_points v_2_pieces v_2_looseEnds f_2_pointX f_2_pointY f_2_pieceLine f_2_begins f_2_leftSpaces) → va_S A s.heap H locs → lv_has ls 7 [(0, .ref a_0), (2, .ref a_2), (4, .int p4), (5, .int x8), (6, .int x9)] → W p l e rm_Wa_doorsOnTheWay s m args below meth c H locs 0 0 Q (F0 m 31 ls []) := by
    intro n
    induction n with
    | zero => intro x8 x9 f10 f11 hm; simp [m_Wa_doorsOnTheWay_L31] at hm
    | succ n ih =>
      intro x8 x9 f10 f11 hm KE H locs ls hP hD hS hl
      rw [m_Wa_doorsOnTheWay_L31] at hm
      refine lv_iload hx hb d_Wa_doorsOnTheWay_31 (lv_at hl 4 rfl) ?_
      refine lv_bipush (v := 81) hx hb d_Wa_doorsOnTheWay_33 (by decide) ?_
      refine lv_icmp_gt (tgt := 56) hx hb d_Wa_doorsOnTheWay_35 (by decide) (fun c13 => ?_) (fun c13 => ?_)
      · replace hm := if_t hm c13
        cases hm
        exact KE H locs ls hP hD hS (lv_sub hl [0, 2] rfl)
      · replace hm := if_f hm c13
        refine lv_iload hx hb d_Wa_doorsOnTheWay_38 (lv_at hl 3 rfl) ?_
        refine lv_if_eq (tgt := 56) hx hb d_Wa_doorsOnTheWay_40 (by decide) (fun c14 => ?_) (fun c14 => ?_)
        · replace hm := if_t hm c14
          cases hm
          exact KE H locs ls hP hD hS (lv_sub hl [0, 2] rfl)
        · replace hm := if_f hm c14
          refine lv_aload_n hx hb d_Wa_doorsOnTheWay_43 rfl (lv_at hl 0 rfl) ?_
          refine lv_aload_n hx hb d_Wa_doorsOnTheWay_44 rfl (lv_at hl 1 rfl) ?_
          obtain ⟨r15, f16, hb17, hm⟩ := bd2_e hm
          have hPc := hP.sub (ws' := (wl_Wa_findNearer a_0 a_0_far a_0_open a_2 a_2_leftSpaces a_2_pointX a_2_pointY b_2_looseSides b_2_sidesOut a_2_pieceLine a_2_begins b_2_directions b_2_weights b_2_pointAt cI x1 f10 f2 v_2_points v_2_pieces v_2_looseEnds f_2_leftSpaces)) [0, 1, 2, 9, 14] rfl
          have hDc := hD.sub (ws' := (wl_Wa_findNearer a_0 a_0_far a_0_open a_2 a_2_leftSpaces a_2_pointX a_2_pointY b_2_looseSides b_2_sidesOut a_2_pieceLine a_2_begins b_2_directions b_2_weights b_2_pointAt cI x1 f10 f2 v_2_points v_2_pieces v_2_looseEnds f_2_leftSpaces)) [0, 1, 2, 9, 14] (by decide) rfl
          refine cl_i (wc' := (wl_Wa_findNearer a_0 a_0_far a_0_open a_2 a_2_leftSpaces a_2_pointX a_2_pointY b_2_looseSides b_2_sidesOut a_2_pieceLine a_2_begins b_2_directions b_2_weights b_2_pointAt cI x1 f16 f2 v_2_points v_2_pieces v_2_looseEnds f_2_leftSpaces)) (va_runV (As := [.ref a_2]) (rest := []) ⟨hx, hb, hml, hown, hts⟩ (c_Wa_findNearer l dC dI (cI := cI) (cZ := cZ) (cJ := cJ) a_0 a_0_far a_0_open a_2 a_2_leftSpaces a_2_pointX a_2_pointY b_2_looseSides b_2_sidesOut a_2_pieceLine a_2_begins b_2_directions b_2_weights b_2_pointAt H.size x1 f10 f2 v_2_points v_2_pieces v_2_looseEnds f_2_leftSpaces r15 f16 hb17) (cwV 1 hts (gl_V k_272 k_271 k_270 k_266 k_269) rfl rfl rfl (by decide +kernel) ⟨Nat.le_of_ble_eq_true rfl, Nat.le_of_ble_eq_true rfl⟩) ⟨PP_blind, va_recv hK hPc (ci := 7) (q0 := 0) rfl rfl, fun U hU hW => PP_at hK hN hPc hDc hU hW⟩ rfl rfl hl.1 rfl (lv_room (Nat.le_of_ble_eq_true rfl)) d_Wa_doorsOnTheWay_45 ⟨Nat.zero_le _, Nat.zero_le _⟩) hP hD hS hA [0, 1, 2, 9, 14] [3, 4, 5, 6, 7, 8, 10, 11, 12, 13] rfl rfl (by decide) (by decide) (fun H locs hP hD hS => ?_)
          have hP : va_P (dC, dI) vwCl (wl_Wa_doorsOnTheWay a_0 a_0_far a_0_open a_1 a_1_lowX a_1_lowY a_1_doors a_1_doorFrom a_1_doorTo a_2 a_2_pointX a_2_pointY a_2_pieceLine a_2_begins a_2_leftSpaces b_1_highX b_1_highY b_1_thickness b_2_looseSides b_2_sidesOut b_2_directions b_2_weights b_2_pointAt cI x1 f16 f2 v_1_count f_1_lowX f_1_lowY f_1_doors f_1_doorFrom f_1_doorTo v_2_points v_2_pieces v_2_looseEnds f_2_pointX f_2_pointY f_2_pieceLine f_2_begins f_2_leftSpaces) H := hP.sub [10, 11, 12, 0, 1, 2, 3, 4, 5, 13, 6, 7, 8, 9, 14] rfl
          have hD : va_D A (wl_Wa_doorsOnTheWay a_0 a_0_far a_0_open a_1 a_1_lowX a_1_lowY a_1_doors a_1_doorFrom a_1_doorTo a_2 a_2_pointX a_2_pointY a_2_pieceLine a_2_begins a_2_leftSpaces b_1_highX b_1_highY b_1_thickness b_2_looseSides b_2_sidesOut b_2_directions b_2_weights b_2_pointAt cI x1 f16 f2 v_1_count f_1_lowX f_1_lowY f_1_doors f_1_doorFrom f_1_doorTo v_2_points v_2_pieces v_2_looseEnds f_2_pointX f_2_pointY f_2_pieceLine f_2_begins f_2_leftSpaces) := hD.sub [10, 11, 12, 0, 1, 2, 3, 4, 5, 13, 6, 7, 8, 9, 14] (by decide) rfl
          refine lv_istore (lv' := [(5, .int r15), (0, .ref a_0), (2, .ref a_2), (4, .int p4), (6, .int x9)]) hx hb d_Wa_doorsOnTheWay_48 hl (by decide) rfl (fun ls hl => ?_)
          obtain ⟨x18, ex18⟩ : ∃ y : Int32, y = x9 + 1 := ⟨_, rfl⟩
          replace hm := lt_el hm ex18
          refine lv_iinc (v := x18) (lv' := [(6, .int x18), (5, .int r15), (0, .ref a_0), (2, .ref a_2), (4, .int p4)]) hx hb d_Wa_doorsOnTheWay_50 hl (k := 4) rfl (by rw [ex18]; rfl) (by decide) rfl (fun ls hl => ?_)
          refine lv_goto (tgt := 31) hx hb d_Wa_doorsOnTheWay_53 (by decide) ?_
          exact ih _ _ _ _ hm KE H locs ls hP hD hS (lv_sub hl [2, 3, 4, 1, 0] rfl)
  obtain ⟨f11, hb19, hm⟩ := bd1_e hm
  refine L31_12 fu _ _ _ _ hb19 (fun H locs ls hP hD hS hl => ?_) H locs ls hP hD hS (lv_sub hl [2, 4, 6, 1, 0] rfl)
  refine lv_aload_n hx hb d_Wa_doorsOnTheWay_56 rfl (lv_at hl 0 rfl) ?_
  refine va_get (D := (dC, dI)) (ci := 7) (v := .ref a_0_far) (C := "SpaceCycles$Ways") (T := F_Wa) (N := 3) hx hb hts (in_F i_Wa) hown hK hP 0 rfl rfl 0 (by decide) (hts _ (in_c k_262)) (fun _ h9 => h9) rfl d_Wa_doorsOnTheWay_57 ?_
  refine lv_iload hx hb d_Wa_doorsOnTheWay_60 (lv_at hl 1 rfl) ?_
  refine lv_iconst (v := 1) hx hb d_Wa_doorsOnTheWay_62 (by decide) ?_
  refine lv_iadd hx hb d_Wa_doorsOnTheWay_63 ?_
  obtain ⟨hi20, hm⟩ := gI_e hm
  refine va_iald hx hb hK hP 1 0 rfl rfl hi20 d_Wa_doorsOnTheWay_64 ?_
  refine lv_sipush (v := 1000) hx hb d_Wa_doorsOnTheWay_65 (by decide) ?_
  obtain ⟨x24, hb22, hm⟩ := bd1_e hm
  have K21 : ∀ (H : Heap) (locs : List Loc) (ls : Array Slot), va_P (dC, dI) vwCl (wl_Wa_doorsOnTheWay a_0 a_0_far a_0_open a_1 a_1_lowX a_1_lowY a_1_doors a_1_doorFrom a_1_doorTo a_2 a_2_pointX a_2_pointY a_2_pieceLine a_2_begins a_2_leftSpaces b_1_highX b_1_highY b_1_thickness b_2_looseSides b_2_sidesOut b_2_directions b_2_weights b_2_pointAt cI x1 f11 f2 v_1_count f_1_lowX f_1_lowY f_1_doors f_1_doorFrom f_1_doorTo v_2_points v_2_pieces v_2_looseEnds f_2_pointX f_2_pointY f_2_pieceLine f_2_begins f_2_leftSpaces) H → va_D A (wl_Wa_doorsOnTheWay a_0 a_0_far a_0_open a_1 a_1_lowX a_1_lowY a_1_doors a_1_doorFrom a_1_doorTo a_2 a_2_pointX a_2_pointY a_2_pieceLine a_2_begins a_2_leftSpaces b_1_highX b_1_highY b_1_thickness b_2_looseSides b_2_sidesOut b_2_directions b_2_weights b_2_pointAt cI x1 f11 f2 v_1_count f_1_lowX f_1_lowY f_1_doors f_1_doorFrom f_1_doorTo v_2_points v_2_pieces v_2_looseEnds f_2_pointX f_2_pointY f_2_pieceLine f_2_begins f_2_leftSpaces) → va_S A s.heap H locs → lv_has ls 7 [] → W p l e rm_Wa_doorsOnTheWay s m args below meth c H locs 0 0 Q (F0 m 85 ls [.int x24]) := by
    intro H locs ls hP hD hS hl
    cases hm
    exact hret _ H locs ls d_Wa_doorsOnTheWay_85 hP hD hS
  replace hm := hb22
  refine lv_icmp_ge (tgt := 83) hx hb d_Wa_doorsOnTheWay_68 (by decide) (fun c25 => ?_) (fun c25 => ?_)
  · replace hm := if_t hm c25
    refine lv_bipush (v := (-2)) hx hb d_Wa_doorsOnTheWay_83 (by decide) ?_
    cases hm
    exact K21 H locs ls hP hD hS (lv_sub hl [] rfl)
  · replace hm := if_f hm c25
    refine lv_aload_n hx hb d_Wa_doorsOnTheWay_71 rfl (lv_at hl 0 rfl) ?_
    refine va_get (D := (dC, dI)) (ci := 7) (v := .ref a_0_far) (C := "SpaceCycles$Ways") (T := F_Wa) (N := 3) hx hb hts (in_F i_Wa) hown hK hP 0 rfl rfl 0 (by decide) (hts _ (in_c k_262)) (fun _ h9 => h9) rfl d_Wa_doorsOnTheWay_72 ?_
    refine lv_iload hx hb d_Wa_doorsOnTheWay_75 (lv_at hl 1 rfl) ?_
    refine lv_iconst (v := 1) hx hb d_Wa_doorsOnTheWay_77 (by decide) ?_
    refine lv_iadd hx hb d_Wa_doorsOnTheWay_78 ?_
    obtain ⟨hi26, hm⟩ := gI_e hm
    refine va_iald hx hb hK hP 1 0 rfl rfl hi26 d_Wa_doorsOnTheWay_79 ?_
    refine lv_goto (tgt := 85) hx hb d_Wa_doorsOnTheWay_80 (by decide) ?_
    cases hm
    exact K21 H locs ls hP hD hS (lv_sub hl [] rfl)
set_option maxHeartbeats 4000000 in
set_option maxRecDepth 100000 in
theorem c_Wa_doorsOnTheWay (l : Launch) (dC : Nat → ClassId) (dI : Nat → Nat → Nat) {cI cZ cJ : ClassId} (a_0 a_0_far a_0_open a_1 a_1_lowX a_1_lowY a_1_doors a_1_doorFrom a_1_doorTo a_2 a_2_pointX a_2_pointY a_2_pieceLine a_2_begins a_2_leftSpaces b_1_highX b_1_highY b_1_thickness b_2_looseSides b_2_sidesOut b_2_directions b_2_weights b_2_pointAt : Nat) (sz : Nat) (v_0_opens : Int32) (f_0_far : Nat → Int32) (f_0_open : Nat → Int32) (v_1_count : Int32) (f_1_lowX : Nat → Int32) (f_1_lowY : Nat → Int32) (f_1_doors : Nat → Int32) (f_1_doorFrom : Nat → Int32) (f_1_doorTo : Nat → Int32) (v_2_points : Int32) (v_2_pieces : Int32) (v_2_looseEnds : Int32) (f_2_pointX : Nat → Int32) (f_2_pointY : Nat → Int32) (f_2_pieceLine : Nat → Int32) (f_2_begins : Nat → Int32) (f_2_leftSpaces : Nat → Int32) (p3 : Int32) (p4 : Int32) (R0 : Int32) (ov_0_opens : Int32) (of_0_far : Nat → Int32) (of_0_open : Nat → Int32) (hm : m_Wa_doorsOnTheWay p3 p4 v_0_opens f_0_far f_0_open f_1_lowX f_1_lowY f_1_doors f_1_doorFrom f_1_doorTo v_2_pieces f_2_pointX f_2_pointY f_2_pieceLine f_2_begins f_2_leftSpaces = some (R0, ov_0_opens, of_0_far, of_0_open)) : Met l y_Wa_doorsOnTheWay w_Wa_doorsOnTheWay rm_Wa_doorsOnTheWay (PP dC dI [(cI, .int), (cZ, .boolean), (cJ, .long)] [.ref a_0, .ref a_1, .ref a_2, .int p3, .int p4] sz (wl_Wa_doorsOnTheWay a_0 a_0_far a_0_open a_1 a_1_lowX a_1_lowY a_1_doors a_1_doorFrom a_1_doorTo a_2 a_2_pointX a_2_pointY a_2_pieceLine a_2_begins a_2_leftSpaces b_1_highX b_1_highY b_1_thickness b_2_looseSides b_2_sidesOut b_2_directions b_2_weights b_2_pointAt cI v_0_opens f_0_far f_0_open v_1_count f_1_lowX f_1_lowY f_1_doors f_1_doorFrom f_1_doorTo v_2_points v_2_pieces v_2_looseEnds f_2_pointX f_2_pointY f_2_pieceLine f_2_begins f_2_leftSpaces)) (QI dC dI [(cI, .int), (cZ, .boolean), (cJ, .long)] sz (wl_Wa_doorsOnTheWay a_0 a_0_far a_0_open a_1 a_1_lowX a_1_lowY a_1_doors a_1_doorFrom a_1_doorTo a_2 a_2_pointX a_2_pointY a_2_pieceLine a_2_begins a_2_leftSpaces b_1_highX b_1_highY b_1_thickness b_2_looseSides b_2_sidesOut b_2_directions b_2_weights b_2_pointAt cI v_0_opens f_0_far f_0_open v_1_count f_1_lowX f_1_lowY f_1_doors f_1_doorFrom f_1_doorTo v_2_points v_2_pieces v_2_looseEnds f_2_pointX f_2_pointY f_2_pieceLine f_2_begins f_2_leftSpaces) (wl_Wa_doorsOnTheWay a_0 a_0_far a_0_open a_1 a_1_lowX a_1_lowY a_1_doors a_1_doorFrom a_1_doorTo a_2 a_2_pointX a_2_pointY a_2_pieceLine a_2_begins a_2_leftSpaces b_1_highX b_1_highY b_1_thickness b_2_looseSides b_2_sidesOut b_2_directions b_2_weights b_2_pointAt cI ov_0_opens of_0_far of_0_open v_1_count f_1_lowX f_1_lowY f_1_doors f_1_doorFrom f_1_doorTo v_2_points v_2_pieces v_2_looseEnds f_2_pointX f_2_pointY f_2_pieceLine f_2_begins f_2_leftSpaces) R0) 0 0 (va_A (wl_Wa_doorsOnTheWay a_0 a_0_far a_0_open a_1 a_1_lowX a_1_lowY a_1_doors a_1_doorFrom a_1_doorTo a_2 a_2_pointX a_2_pointY a_2_pieceLine a_2_begins a_2_leftSpaces b_1_highX b_1_highY b_1_thickness b_2_looseSides b_2_sidesOut b_2_directions b_2_weights b_2_pointAt cI v_0_opens f_0_far f_0_open v_1_count f_1_lowX f_1_lowY f_1_doors f_1_doorFrom f_1_doorTo v_2_points v_2_pieces v_2_looseEnds f_2_pointX f_2_pointY f_2_pieceLine f_2_begins f_2_leftSpaces) sz) := by
  refine Met.ofW (cc := b_Wa_doorsOnTheWay) (maxL := 7) (ret := (some .int)) (by decide) rfl ?_
  intro p e s m args below meth c s₁ B hml hv
  obtain ⟨rfl, hsz, hP, hK, hD0, hN⟩ := hv
  subst hsz
  have hl := lv_entry ([.ref a_0, .ref a_1, .ref a_2, .int p3, .int p4]) (n := 7) (Nat.le_of_ble_eq_true rfl)
  rw [lg_entry_eq]
  generalize (lg_sl ([.ref a_0, .ref a_1, .ref a_2, .int p3, .int p4]) ++ List.replicate (7 - (lg_sl ([.ref a_0, .ref a_1, .ref a_2, .int p3, .int p4])).length) Slot.unset).toArray = ls at hl ⊢
  exact t_Wa_doorsOnTheWay a_0 a_0_far a_0_open a_1 a_1_lowX a_1_lowY a_1_doors a_1_doorFrom a_1_doorTo a_2 a_2_pointX a_2_pointY a_2_pieceLine a_2_begins a_2_leftSpaces b_1_highX b_1_highY b_1_thickness b_2_looseSides b_2_sidesOut b_2_directions b_2_weights b_2_pointAt v_0_opens f_0_far f_0_open v_1_count f_1_lowX f_1_lowY f_1_doors f_1_doorFrom f_1_doorTo v_2_points v_2_pieces v_2_looseEnds f_2_pointX f_2_pointY f_2_pieceLine f_2_begins f_2_leftSpaces p3 p4 R0 ov_0_opens of_0_far of_0_open B.exec B.bytes hml (findClass_of_methodNamed B.named) (atoms_spec (ws := w_Wa_doorsOnTheWay) B.pre) hK hN (fun q h => Or.inr h) (fun pc H locs ls hd hP9 hD9 hS => W.iret B.exec B.bytes B.returns (fun t ht hW => ⟨⟨_, (), rfl, rfl, by rw [ht]; exact hP9, va_K.moved hW.alike hK, hD9⟩, hS.F ht⟩) hS.2.2 hd) hm s.heap [] ls hP hD0.self va_S.rf hl
