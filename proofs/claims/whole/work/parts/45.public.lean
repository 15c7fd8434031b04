theorem k_479 : ((.code ⟨"SpaceCycles", "needCoordinate", "(J)V"⟩ prog_1_method_20_code 2 none) : Cond) ∈ gl := gl_i 370 (by decide +kernel) (by decide +kernel)
theorem k_480 : ((.static ⟨"SpaceCycles", "needCoordinate", "(J)V"⟩) : Cond) ∈ gl := gl_i 369 (by decide +kernel) (by decide +kernel)
theorem k_481 : ((.methodLink "SpaceCycles" 80 ⟨"SpaceCycles", "needCoordinate", "(J)V"⟩) : Cond) ∈ gl := gl_i 368 (by decide +kernel) (by decide +kernel)
theorem k_482 : ((.code ⟨"SpaceCycles", "needBetween", "(III)V"⟩ prog_1_method_19_code 3 none) : Cond) ∈ gl := gl_i 441 (by decide +kernel) (by decide +kernel)
theorem k_483 : ((.static ⟨"SpaceCycles", "needBetween", "(III)V"⟩) : Cond) ∈ gl := gl_i 440 (by decide +kernel) (by decide +kernel)
theorem k_484 : ((.methodLink "SpaceCycles" 84 ⟨"SpaceCycles", "needBetween", "(III)V"⟩) : Cond) ∈ gl := gl_i 439 (by decide +kernel) (by decide +kernel)
theorem k_485 : ((.methodLink "SpaceCycles" 105 ⟨"java/lang/Math", "min", "(II)I"⟩) : Cond) ∈ gl := gl_i 461 (by decide +kernel) (by decide +kernel)
theorem k_486 : ((.methodLink "SpaceCycles" 111 ⟨"java/lang/Math", "max", "(II)I"⟩) : Cond) ∈ gl := gl_i 464 (by decide +kernel) (by decide +kernel)
theorem k_487 : ((.code ⟨"SpaceCycles$Lines", "someLieAlong", "(IIIII)Z"⟩ prog_6_method_5_code 9 (some .boolean)) : Cond) ∈ gl := gl_i 470 (by decide +kernel) (by decide +kernel)
theorem k_488 : ((.selects "SpaceCycles$Lines" ⟨"SpaceCycles$Lines", "someLieAlong", "(IIIII)Z"⟩ ⟨"SpaceCycles$Lines", "someLieAlong", "(IIIII)Z"⟩) : Cond) ∈ gl := gl_i 469 (by decide +kernel) (by decide +kernel)
theorem k_489 : ((.instanceMethod ⟨"SpaceCycles$Lines", "someLieAlong", "(IIIII)Z"⟩) : Cond) ∈ gl := gl_i 468 (by decide +kernel) (by decide +kernel)
theorem k_490 : ((.methodLink "SpaceCycles" 114 ⟨"SpaceCycles$Lines", "someLieAlong", "(IIIII)Z"⟩) : Cond) ∈ gl := gl_i 467 (by decide +kernel) (by decide +kernel)
theorem k_491 : ((.code ⟨"SpaceCycles$Lines", "put", "(IIIII)V"⟩ prog_6_method_2_code 6 none) : Cond) ∈ gl := gl_i 476 (by decide +kernel) (by decide +kernel)
theorem k_492 : ((.selects "SpaceCycles$Lines" ⟨"SpaceCycles$Lines", "put", "(IIIII)V"⟩ ⟨"SpaceCycles$Lines", "put", "(IIIII)V"⟩) : Cond) ∈ gl := gl_i 475 (by decide +kernel) (by decide +kernel)
theorem k_493 : ((.instanceMethod ⟨"SpaceCycles$Lines", "put", "(IIIII)V"⟩) : Cond) ∈ gl := gl_i 474 (by decide +kernel) (by decide +kernel)
theorem k_494 : ((.methodLink "SpaceCycles" 118 ⟨"SpaceCycles$Lines", "put", "(IIIII)V"⟩) : Cond) ∈ gl := gl_i 473 (by decide +kernel) (by decide +kernel)
theorem k_495 : ((.fieldLink "SpaceCycles" 122 "SpaceCycles$Lines" "thickness" "[I") : Cond) ∈ gl := gl_i 66 (by decide +kernel) (by decide +kernel)
-- SpaceCycles.line(IIIII)I: may throw
abbrev b_Sp_line : ByteArray := prog_1_method_2_code
abbrev y_Sp_line : MethodName := ⟨"SpaceCycles", "line", "(IIIII)I"⟩
abbrev w_Sp_line : List Cond := Cond.code y_Sp_line b_Sp_line 11 (some .int) :: gl
abbrev rm_Sp_line : Room := { frames := 9, cells := 1, slots := 6, locals := 222 }
theorem d_Sp_line_0 : decode b_Sp_line 0 = .ok (.iload_n 1, 1) := by decide +kernel
theorem d_Sp_line_1 : decode b_Sp_line 1 = .ok (.i2l, 1) := by decide +kernel
theorem d_Sp_line_2 : decode b_Sp_line 2 = .ok (.invokestatic 80, 3) := by decide +kernel
theorem d_Sp_line_5 : decode b_Sp_line 5 = .ok (.iload_n 2, 1) := by decide +kernel
theorem d_Sp_line_6 : decode b_Sp_line 6 = .ok (.i2l, 1) := by decide +kernel
theorem d_Sp_line_7 : decode b_Sp_line 7 = .ok (.invokestatic 80, 3) := by decide +kernel
theorem d_Sp_line_10 : decode b_Sp_line 10 = .ok (.iload_n 3, 1) := by decide +kernel
theorem d_Sp_line_11 : decode b_Sp_line 11 = .ok (.i2l, 1) := by decide +kernel
theorem d_Sp_line_12 : decode b_Sp_line 12 = .ok (.invokestatic 80, 3) := by decide +kernel
theorem d_Sp_line_15 : decode b_Sp_line 15 = .ok (.iload 4, 2) := by decide +kernel
theorem d_Sp_line_17 : decode b_Sp_line 17 = .ok (.i2l, 1) := by decide +kernel
theorem d_Sp_line_18 : decode b_Sp_line 18 = .ok (.invokestatic 80, 3) := by decide +kernel
theorem d_Sp_line_21 : decode b_Sp_line 21 = .ok (.iload 5, 2) := by decide +kernel
theorem d_Sp_line_23 : decode b_Sp_line 23 = .ok (.iconst 0, 1) := by decide +kernel
theorem d_Sp_line_24 : decode b_Sp_line 24 = .ok (.bipush 60, 2) := by decide +kernel
theorem d_Sp_line_26 : decode b_Sp_line 26 = .ok (.invokestatic 84, 3) := by decide +kernel
theorem d_Sp_line_29 : decode b_Sp_line 29 = .ok (.iload 5, 2) := by decide +kernel
theorem d_Sp_line_31 : decode b_Sp_line 31 = .ok (.iconst 2, 1) := by decide +kernel
theorem d_Sp_line_32 : decode b_Sp_line 32 = .ok (.irem, 1) := by decide +kernel
theorem d_Sp_line_33 : decode b_Sp_line 33 = .ok (.ifCond .eq 13, 3) := by decide +kernel
theorem d_Sp_line_36 : decode b_Sp_line 36 = .ok (.new 88, 3) := by decide +kernel
theorem d_Sp_line_39 : decode b_Sp_line 39 = .ok (.dup, 1) := by decide +kernel
theorem d_Sp_line_40 : decode b_Sp_line 40 = .ok (.ldc 90, 2) := by decide +kernel
theorem d_Sp_line_42 : decode b_Sp_line 42 = .ok (.invokespecial 92, 3) := by decide +kernel
theorem d_Sp_line_45 : decode b_Sp_line 45 = .ok (.athrow, 1) := by decide +kernel
theorem d_Sp_line_46 : decode b_Sp_line 46 = .ok (.iload_n 1, 1) := by decide +kernel
theorem d_Sp_line_47 : decode b_Sp_line 47 = .ok (.iload_n 3, 1) := by decide +kernel
theorem d_Sp_line_48 : decode b_Sp_line 48 = .ok (.if_icmp .ne 7, 3) := by decide +kernel
theorem d_Sp_line_51 : decode b_Sp_line 51 = .ok (.iconst 1, 1) := by decide +kernel
theorem d_Sp_line_52 : decode b_Sp_line 52 = .ok (.goto 4, 3) := by decide +kernel
theorem d_Sp_line_55 : decode b_Sp_line 55 = .ok (.iconst 0, 1) := by decide +kernel
theorem d_Sp_line_56 : decode b_Sp_line 56 = .ok (.iload_n 2, 1) := by decide +kernel
theorem d_Sp_line_57 : decode b_Sp_line 57 = .ok (.iload 4, 2) := by decide +kernel
theorem d_Sp_line_59 : decode b_Sp_line 59 = .ok (.if_icmp .ne 7, 3) := by decide +kernel
theorem d_Sp_line_62 : decode b_Sp_line 62 = .ok (.iconst 1, 1) := by decide +kernel
theorem d_Sp_line_63 : decode b_Sp_line 63 = .ok (.goto 4, 3) := by decide +kernel
theorem d_Sp_line_66 : decode b_Sp_line 66 = .ok (.iconst 0, 1) := by decide +kernel
theorem d_Sp_line_67 : decode b_Sp_line 67 = .ok (.if_icmp .ne 13, 3) := by decide +kernel
theorem d_Sp_line_70 : decode b_Sp_line 70 = .ok (.new 88, 3) := by decide +kernel
theorem d_Sp_line_73 : decode b_Sp_line 73 = .ok (.dup, 1) := by decide +kernel
theorem d_Sp_line_74 : decode b_Sp_line 74 = .ok (.ldc 95, 2) := by decide +kernel
theorem d_Sp_line_76 : decode b_Sp_line 76 = .ok (.invokespecial 92, 3) := by decide +kernel
theorem d_Sp_line_79 : decode b_Sp_line 79 = .ok (.athrow, 1) := by decide +kernel
theorem d_Sp_line_80 : decode b_Sp_line 80 = .ok (.aload_n 0, 1) := by decide +kernel
theorem d_Sp_line_81 : decode b_Sp_line 81 = .ok (.getfield 12, 3) := by decide +kernel
theorem d_Sp_line_84 : decode b_Sp_line 84 = .ok (.getfield 97, 3) := by decide +kernel
theorem d_Sp_line_87 : decode b_Sp_line 87 = .ok (.bipush 20, 2) := by decide +kernel
theorem d_Sp_line_89 : decode b_Sp_line 89 = .ok (.if_icmp .lt 13, 3) := by decide +kernel
theorem d_Sp_line_92 : decode b_Sp_line 92 = .ok (.new 100, 3) := by decide +kernel
theorem d_Sp_line_95 : decode b_Sp_line 95 = .ok (.dup, 1) := by decide +kernel
theorem d_Sp_line_96 : decode b_Sp_line 96 = .ok (.ldc 102, 2) := by decide +kernel
theorem d_Sp_line_98 : decode b_Sp_line 98 = .ok (.invokespecial 104, 3) := by decide +kernel
theorem d_Sp_line_101 : decode b_Sp_line 101 = .ok (.athrow, 1) := by decide +kernel
theorem d_Sp_line_102 : decode b_Sp_line 102 = .ok (.iload_n 1, 1) := by decide +kernel
theorem d_Sp_line_103 : decode b_Sp_line 103 = .ok (.iload_n 3, 1) := by decide +kernel
theorem d_Sp_line_104 : decode b_Sp_line 104 = .ok (.invokestatic 105, 3) := by decide +kernel
theorem d_Sp_line_107 : decode b_Sp_line 107 = .ok (.istore 6, 2) := by decide +kernel
theorem d_Sp_line_109 : decode b_Sp_line 109 = .ok (.iload_n 2, 1) := by decide +kernel
theorem d_Sp_line_110 : decode b_Sp_line 110 = .ok (.iload 4, 2) := by decide +kernel
theorem d_Sp_line_112 : decode b_Sp_line 112 = .ok (.invokestatic 105, 3) := by decide +kernel
theorem d_Sp_line_115 : decode b_Sp_line 115 = .ok (.istore 7, 2) := by decide +kernel
theorem d_Sp_line_117 : decode b_Sp_line 117 = .ok (.iload_n 1, 1) := by decide +kernel
theorem d_Sp_line_118 : decode b_Sp_line 118 = .ok (.iload_n 3, 1) := by decide +kernel
theorem d_Sp_line_119 : decode b_Sp_line 119 = .ok (.invokestatic 111, 3) := by decide +kernel
theorem d_Sp_line_122 : decode b_Sp_line 122 = .ok (.istore 8, 2) := by decide +kernel
theorem d_Sp_line_124 : decode b_Sp_line 124 = .ok (.iload_n 2, 1) := by decide +kernel
theorem d_Sp_line_125 : decode b_Sp_line 125 = .ok (.iload 4, 2) := by decide +kernel
theorem d_Sp_line_127 : decode b_Sp_line 127 = .ok (.invokestatic 111, 3) := by decide +kernel
theorem d_Sp_line_130 : decode b_Sp_line 130 = .ok (.istore 9, 2) := by decide +kernel
theorem d_Sp_line_132 : decode b_Sp_line 132 = .ok (.aload_n 0, 1) := by decide +kernel
theorem d_Sp_line_133 : decode b_Sp_line 133 = .ok (.getfield 12, 3) := by decide +kernel
theorem d_Sp_line_136 : decode b_Sp_line 136 = .ok (.iconst (-1), 1) := by decide +kernel
theorem d_Sp_line_137 : decode b_Sp_line 137 = .ok (.iload 6, 2) := by decide +kernel
theorem d_Sp_line_139 : decode b_Sp_line 139 = .ok (.iload 7, 2) := by decide +kernel
theorem d_Sp_line_141 : decode b_Sp_line 141 = .ok (.iload 8, 2) := by decide +kernel
theorem d_Sp_line_143 : decode b_Sp_line 143 = .ok (.iload 9, 2) := by decide +kernel
theorem d_Sp_line_145 : decode b_Sp_line 145 = .ok (.invokevirtual 114, 3) := by decide +kernel
theorem d_Sp_line_148 : decode b_Sp_line 148 = .ok (.ifCond .eq 5, 3) := by decide +kernel
theorem d_Sp_line_151 : decode b_Sp_line 151 = .ok (.iconst (-1), 1) := by decide +kernel
theorem d_Sp_line_152 : decode b_Sp_line 152 = .ok (.ireturn, 1) := by decide +kernel
theorem d_Sp_line_153 : decode b_Sp_line 153 = .ok (.aload_n 0, 1) := by decide +kernel
theorem d_Sp_line_154 : decode b_Sp_line 154 = .ok (.getfield 12, 3) := by decide +kernel
theorem d_Sp_line_157 : decode b_Sp_line 157 = .ok (.getfield 97, 3) := by decide +kernel
theorem d_Sp_line_160 : decode b_Sp_line 160 = .ok (.istore 10, 2) := by decide +kernel
theorem d_Sp_line_162 : decode b_Sp_line 162 = .ok (.aload_n 0, 1) := by decide +kernel
theorem d_Sp_line_163 : decode b_Sp_line 163 = .ok (.getfield 12, 3) := by decide +kernel
theorem d_Sp_line_166 : decode b_Sp_line 166 = .ok (.dup, 1) := by decide +kernel
theorem d_Sp_line_167 : decode b_Sp_line 167 = .ok (.getfield 97, 3) := by decide +kernel
theorem d_Sp_line_170 : decode b_Sp_line 170 = .ok (.iconst 1, 1) := by decide +kernel
theorem d_Sp_line_171 : decode b_Sp_line 171 = .ok (.iadd, 1) := by decide +kernel
theorem d_Sp_line_172 : decode b_Sp_line 172 = .ok (.putfield 97, 3) := by decide +kernel
theorem d_Sp_line_175 : decode b_Sp_line 175 = .ok (.aload_n 0, 1) := by decide +kernel
theorem d_Sp_line_176 : decode b_Sp_line 176 = .ok (.getfield 12, 3) := by decide +kernel
theorem d_Sp_line_179 : decode b_Sp_line 179 = .ok (.iload 10, 2) := by decide +kernel
theorem d_Sp_line_181 : decode b_Sp_line 181 = .ok (.iload 6, 2) := by decide +kernel
theorem d_Sp_line_183 : decode b_Sp_line 183 = .ok (.iload 7, 2) := by decide +kernel
theorem d_Sp_line_185 : decode b_Sp_line 185 = .ok (.iload 8, 2) := by decide +kernel
theorem d_Sp_line_187 : decode b_Sp_line 187 = .ok (.iload 9, 2) := by decide +kernel
theorem d_Sp_line_189 : decode b_Sp_line 189 = .ok (.invokevirtual 118, 3) := by decide +kernel
theorem d_Sp_line_192 : decode b_Sp_line 192 = .ok (.aload_n 0, 1) := by decide +kernel
theorem d_Sp_line_193 : decode b_Sp_line 193 = .ok (.getfield 12, 3) := by decide +kernel
theorem d_Sp_line_196 : decode b_Sp_line 196 = .ok (.getfield 122, 3) := by decide +kernel
theorem d_Sp_line_199 : decode b_Sp_line 199 = .ok (.iload 10, 2) := by decide +kernel
theorem d_Sp_line_201 : decode b_Sp_line 201 = .ok (.iload 5, 2) := by decide +kernel
theorem d_Sp_line_203 : decode b_Sp_line 203 = .ok (.iastore, 1) := by decide +kernel
theorem d_Sp_line_204 : decode b_Sp_line 204 = .ok (.aload_n 0, 1) := by decide +kernel
theorem d_Sp_line_205 : decode b_Sp_line 205 = .ok (.iconst 1, 1) := by decide +kernel
theorem d_Sp_line_206 : decode b_Sp_line 206 = .ok (.putfield 76, 3) := by decide +kernel
theorem d_Sp_line_209 : decode b_Sp_line 209 = .ok (.iload 10, 2) := by decide +kernel
theorem d_Sp_line_211 : decode b_Sp_line 211 = .ok (.ireturn, 1) := by decide +kernel
abbrev wl_Sp_line (a_0 : Nat) (a_0_lines : Nat) (a_0_lines_lowX : Nat) (a_0_lines_lowY : Nat) (a_0_lines_highX : Nat) (a_0_lines_highY : Nat) (a_0_lines_thickness : Nat) (b_0_flood : Nat) (b_0_net : Nat) (b_0_loops : Nat) (b_0_common : Nat) (b_0_names : Nat) (b_0_ways : Nat) (b_0_marked : Nat) (b_0_lines_doors : Nat) (b_0_lines_doorFrom : Nat) (b_0_lines_doorTo : Nat) (cI : ClassId) (r_0_now : Nat) (r_0_before : Nat) (v_0_runs : Int32) (v_0_stale : Int32) (v_0_lines_count : Int32) (f_0_lines_lowX : Nat → Int32) (f_0_lines_lowY : Nat → Int32) (f_0_lines_highX : Nat → Int32) (f_0_lines_highY : Nat → Int32) (f_0_lines_thickness : Nat → Int32) : va_W := [(a_0, .inr (0, [.ref a_0_lines, .ref b_0_flood, .ref b_0_net, .ref b_0_loops, .ref b_0_common, .ref b_0_names, .ref b_0_ways, .ref b_0_marked, .ref r_0_now, .ref r_0_before, .int v_0_runs, .int v_0_stale])), (a_0_lines, .inr (1, [.ref a_0_lines_lowX, .ref a_0_lines_lowY, .ref a_0_lines_highX, .ref a_0_lines_highY, .ref a_0_lines_thickness, .ref b_0_lines_doors, .ref b_0_lines_doorFrom, .ref b_0_lines_doorTo, .int v_0_lines_count])), (a_0_lines_lowX, .inl (cI, 20, .inl f_0_lines_lowX)), (a_0_lines_lowY, .inl (cI, 20, .inl f_0_lines_lowY)), (a_0_lines_highX, .inl (cI, 20, .inl f_0_lines_highX)), (a_0_lines_highY, .inl (cI, 20, .inl f_0_lines_highY)), (a_0_lines_thickness, .inl (cI, 20, .inl f_0_lines_thickness))]
def m_Sp_line (p1 : Int32) (p2 : Int32) (p3 : Int32) (p4 : Int32) (p5 : Int32) (v_0_stale : Int32) (v_0_lines_count : Int32) (f_0_lines_lowX : Nat → Int32) (f_0_lines_lowY : Nat → Int32) (f_0_lines_highX : Nat → Int32) (f_0_lines_highY : Nat → Int32) (f_0_lines_thickness : Nat → Int32) : Option (Sum Nat (Int32 × (Int32) × (Int32) × (Nat → Int32) × (Nat → Int32) × (Nat → Int32) × (Nat → Int32) × (Nat → Int32))) :=
  bx0 (m_Sp_needCoordinate (Int32.toInt64 p1)) <|
  bx0 (m_Sp_needCoordinate (Int32.toInt64 p2)) <|
  bx0 (m_Sp_needCoordinate (Int32.toInt64 p3)) <|
  bx0 (m_Sp_needCoordinate (Int32.toInt64 p4)) <|
  bx0 (m_Sp_needBetween p5 0 60) <|
  if (p5 - p5 / 2 * 2) = 0 then (
    bd1 (
      if p1 = p3 then (
      some 1)
    else (
      some 0))
    fun (x20 : Int32) =>
    bd1 (
        if p2 = p4 then (
        some 1)
      else (
        some 0))
      fun (x25 : Int32) =>
      if x20 = x25 then (
          some (Sum.inl 1))
        else (
          if v_0_lines_count < 20 then (
            lt_ (jmin p1 p3) fun x29 =>
            lt_ (jmin p2 p4) fun x30 =>
            lt_ (jmax p1 p3) fun x31 =>
            lt_ (jmax p2 p4) fun x32 =>
            bd1 (m_Li_someLieAlong (-1) x29 x30 x31 x32 v_0_lines_count f_0_lines_lowX f_0_lines_lowY f_0_lines_highX f_0_lines_highY) fun r33 =>
            if r33 = 0 then (
              lt_ (v_0_lines_count + 1) fun x36 =>
              bd4 (m_Li_put v_0_lines_count x29 x30 x31 x32 f_0_lines_lowX f_0_lines_lowY f_0_lines_highX f_0_lines_highY) fun f37 f38 f39 f40 =>
              gI v_0_lines_count 20 <|
              lt_ (upd f_0_lines_thickness v_0_lines_count.toNatClampNeg p5) fun f43 =>
              some (Sum.inr (v_0_lines_count, 1, x36, f37, f38, f39, f40, f43)))
            else (
              some (Sum.inr ((-1), v_0_stale, v_0_lines_count, f_0_lines_lowX, f_0_lines_lowY, f_0_lines_highX, f_0_lines_highY, f_0_lines_thickness))))
          else (
            some (Sum.inl 2))))
  else (
    some (Sum.inl 1))

set_option maxHeartbeats 4000000 in
set_option maxRecDepth 100000 in
theorem t_Sp_line {p : Program} {l : Launch} {e : Env} {s : State} {m : MethodId} {args : Array Value} {below : List Frame} {meth : Method} {c : Code} {A : Nat → Prop} {dC : Nat → ClassId} {dI : Nat → Nat → Nat} {cI cZ cJ : ClassId} {Qc : Array Value → State → Outcome → State → Prop} {free : Addr → Prop} (a_0 a_0_lines a_0_lines_lowX a_0_lines_lowY a_0_lines_highX a_0_lines_highY a_0_lines_thickness b_0_flood b_0_net b_0_loops b_0_common b_0_names b_0_ways b_0_marked b_0_lines_doors b_0_lines_doorFrom b_0_lines_doorTo : Nat) (r_0_now : Nat) (r_0_before : Nat) (v_0_runs : Int32) (v_0_stale : Int32) (v_0_lines_count : Int32) (f_0_lines_lowX : Nat → Int32) (f_0_lines_lowY : Nat → Int32) (f_0_lines_highX : Nat → Int32) (f_0_lines_highY : Nat → Int32) (f_0_lines_thickness : Nat → Int32) (p1 : Int32) (p2 : Int32) (p3 : Int32) (p4 : Int32) (p5 : Int32) (Z : Sum Nat (Int32 × (Int32) × (Int32) × (Nat → Int32) × (Nat → Int32) × (Nat → Int32) × (Nat → Int32) × (Nat → Int32))) (htr : l.stackTraces = false) (hX : TX A s s.heap) (hout : c.exceptionTable.toList = []) (hlocks : meth.locks = false) (hx : p.tables.exec = Jvm.exec) (hb : c.code = b_Sp_line) (hml : c.maxLocals = 11) (hown : s.vm.findClass "SpaceCycles" = some m.cls) (hts : ∀ w ∈ w_Sp_line, w.before args s = true) (hK : va_K (dC, dI) vwCl [(cI, .int), (cZ, .boolean), (cJ, .long)] s) (hN : NX s) (hA : ∀ q : Nat, s.heap.size ≤ q → A q)
    (hret : ∀ r : Int32, ∀ u : (Int32) × (Int32) × (Nat → Int32) × (Nat → Int32) × (Nat → Int32) × (Nat → Int32) × (Nat → Int32), Z = Sum.inr (r, u) → ∀ (pc : Nat) (H : Heap) (locs : List Loc) (ls : Array Slot), decode b_Sp_line pc = .ok (.ireturn, 1) → va_P (dC, dI) vwCl (wl_Sp_line a_0 a_0_lines a_0_lines_lowX a_0_lines_lowY a_0_lines_highX a_0_lines_highY a_0_lines_thickness b_0_flood b_0_net b_0_loops b_0_common b_0_names b_0_ways b_0_marked b_0_lines_doors b_0_lines_doorFrom b_0_lines_doorTo cI r_0_now r_0_before v_0_runs u.1 u.2.1 u.2.2.1 u.2.2.2.1 u.2.2.2.2.1 u.2.2.2.2.2.1 u.2.2.2.2.2.2) H → va_D A (wl_Sp_line a_0 a_0_lines a_0_lines_lowX a_0_lines_lowY a_0_lines_highX a_0_lines_highY a_0_lines_thickness b_0_flood b_0_net b_0_loops b_0_common b_0_names b_0_ways b_0_marked b_0_lines_doors b_0_lines_doorFrom b_0_lines_doorTo cI r_0_now r_0_before v_0_runs u.1 u.2.1 u.2.2.1 u.2.2.2.1 u.2.2.2.2.1 u.2.2.2.2.2.1 u.2.2.2.2.2.2) → va_S A s.heap H locs → W p l e rm_Sp_line s m args below meth c H locs 0 0 (XMQ below Qc (fun E => Z = Sum.inl (xk E)) args s free) (F0 m pc ls [.int r]))
    (hm : m_Sp_line p1 p2 p3 p4 p5 v_0_stale v_0_lines_count f_0_lines_lowX f_0_lines_lowY f_0_lines_highX f_0_lines_highY f_0_lines_thickness = some Z) (hP : va_P (dC, dI) vwCl (wl_Sp_line a_0 a_0_lines a_0_lines_lowX a_0_lines_lowY a_0_lines_highX a_0_lines_highY a_0_lines_thickness b_0_flood b_0_net b_0_loops b_0_common b_0_names b_0_ways b_0_marked b_0_lines_doors b_0_lines_doorFrom b_0_lines_doorTo cI r_0_now r_0_before v_0_runs v_0_stale v_0_lines_count f_0_lines_lowX f_0_lines_lowY f_0_lines_highX f_0_lines_highY f_0_lines_thickness) s.heap) (hD : va_D A (wl_Sp_line a_0 a_0_lines a_0_lines_lowX a_0_lines_lowY a_0_lines_highX a_0_lines_highY a_0_lines_thickness b_0_flood b_0_net b_0_loops b_0_common b_0_names b_0_ways b_0_marked b_0_lines_doors b_0_lines_doorFrom b_0_lines_doorTo cI r_0_now r_0_before v_0_runs v_0_stale v_0_lines_count f_0_lines_lowX f_0_lines_lowY f_0_lines_highX f_0_lines_highY f_0_lines_thickness)) (hS : va_S A s.heap s.heap []) : ∀ ls : Array Slot, lv_has ls 11 [(0, .ref a_0), (1, .int p1), (2, .int p2), (3, .int p3), (4, .int p4), (5, .int p5)] → W p l e rm_Sp_line s m args below meth c s.heap [] 0 0 (XMQ below Qc (fun E => Z = Sum.inl (xk E)) args s free) (F0 m 0 ls []) := by
  intro ls hl
  unfold m_Sp_line at hm
  refine lv_iload_n hx hb d_Sp_line_0 rfl (lv_at hl 1 rfl) ?_
  refine lv_i2l hx hb d_Sp_line_1 rfl ?_
  obtain ⟨z1, hb2, hz3, hm⟩ := bx0_z hm
  have hPc := hP.sub (ws' := (wl_Sp_needCoordinate)) [] rfl
  have hDc := hD.sub (ws' := (wl_Sp_needCoordinate)) [] (by decide) rfl
  have hFc := va_free (wc := (wl_Sp_needCoordinate)) hD hS hA [] rfl
  refine x_onV (x_runS (As := [.long (Int32.toInt64 p1)]) (rest := []) ⟨hx, hb, hml, hown, hts⟩ (c_Sp_needCoordinate l htr dC dI (cI := cI) (cZ := cZ) (cJ := cJ) s.heap.size (Int32.toInt64 p1) z1 hb2) (va_cwS 1 hts (gl_S k_481 k_480 k_207 k_479) rfl rfl rfl (by decide +kernel) ⟨Nat.le_of_ble_eq_true rfl, Nat.le_of_ble_eq_true rfl⟩) ⟨PPX_blind, fun U hU hW => PPX_at hK hN hX hPc hDc hFc hU hW⟩ rfl rfl hl.1 rfl (lv_room (Nat.le_of_ble_eq_true rfl)) d_Sp_line_2 ⟨Nat.le_of_ble_eq_true rfl, Nat.le_of_ble_eq_true rfl⟩) hout hlocks (fun E hE => hz3 _ hE) (fun hr => ?_)
  replace hm := hm hr
  refine lv_iload_n hx hb d_Sp_line_5 rfl (lv_at hl 2 rfl) ?_
  refine lv_i2l hx hb d_Sp_line_6 rfl ?_
  obtain ⟨z4, hb5, hz6, hm⟩ := bx0_z hm
  have hPc := hP.sub (ws' := (wl_Sp_needCoordinate)) [] rfl
  have hDc := hD.sub (ws' := (wl_Sp_needCoordinate)) [] (by decide) rfl
  have hFc := va_free (wc := (wl_Sp_needCoordinate)) hD hS hA [] rfl
  refine x_onV (x_runS (As := [.long (Int32.toInt64 p2)]) (rest := []) ⟨hx, hb, hml, hown, hts⟩ (c_Sp_needCoordinate l htr dC dI (cI := cI) (cZ := cZ) (cJ := cJ) s.heap.size (Int32.toInt64 p2) z4 hb5) (va_cwS 1 hts (gl_S k_481 k_480 k_207 k_479) rfl rfl rfl (by decide +kernel) ⟨Nat.le_of_ble_eq_true rfl, Nat.le_of_ble_eq_true rfl⟩) ⟨PPX_blind, fun U hU hW => PPX_at hK hN hX hPc hDc hFc hU hW⟩ rfl rfl hl.1 rfl (lv_room (Nat.le_of_ble_eq_true rfl)) d_Sp_line_7 ⟨Nat.le_of_ble_eq_true rfl, Nat.le_of_ble_eq_true rfl⟩) hout hlocks (fun E hE => hz6 _ hE) (fun hr => ?_)
  replace hm := hm hr
  refine lv_iload_n hx hb d_Sp_line_10 rfl (lv_at hl 3 rfl) ?_
  refine lv_i2l hx hb d_Sp_line_11 rfl ?_
  obtain ⟨z7, hb8, hz9, hm⟩ := bx0_z hm
  have hPc := hP.sub (ws' := (wl_Sp_needCoordinate)) [] rfl
  have hDc := hD.sub (ws' := (wl_Sp_needCoordinate)) [] (by decide) rfl
  have hFc := va_free (wc := (wl_Sp_needCoordinate)) hD hS hA [] rfl
  refine x_onV (x_runS (As := [.long (Int32.toInt64 p3)]) (rest := []) ⟨hx, hb, hml, hown, hts⟩ (c_Sp_needCoordinate l htr dC dI (cI := cI) (cZ := cZ) (cJ := cJ) s.heap.size (Int32.toInt64 p3) z7 hb8) (va_cwS 1 hts (gl_S k_481 k_480 k_207 k_479) rfl rfl rfl (by decide +kernel) ⟨Nat.le_of_ble_eq_true rfl, Nat.le_of_ble_eq_true rfl⟩) ⟨PPX_blind, fun U hU hW => PPX_at hK hN hX hPc hDc hFc hU hW⟩ rfl rfl hl.1 rfl (lv_room (Nat.le_of_ble_eq_true rfl)) d_Sp_line_12 ⟨Nat.le_of_ble_eq_true rfl, Nat.le_of_ble_eq_true rfl⟩) hout hlocks (fun E hE => hz9 _ hE) (fun hr => ?_)
  replace hm := hm hr
  refine lv_iload hx hb d_Sp_line_15 (lv_at hl 4 rfl) ?_
  refine lv_i2l hx hb d_Sp_line_17 rfl ?_
  obtain ⟨z10, hb11, hz12, hm⟩ := bx0_z hm
  have hPc := hP.sub (ws' := (wl_Sp_needCoordinate)) [] rfl
  have hDc := hD.sub (ws' := (wl_Sp_needCoordinate)) [] (by decide) rfl
  have hFc := va_free (wc := (wl_Sp_needCoordinate)) hD hS hA [] rfl
  refine x_onV (x_runS (As := [.long (Int32.toInt64 p4)]) (rest := []) ⟨hx, hb, hml, hown, hts⟩ (c_Sp_needCoordinate l htr dC dI (cI := cI) (cZ := cZ) (cJ := cJ) s.heap.size (Int32.toInt64 p4) z10 hb11) (va_cwS 1 hts (gl_S k_481 k_480 k_207 k_479) rfl rfl rfl (by decide +kernel) ⟨Nat.le_of_ble_eq_true rfl, Nat.le_of_ble_eq_true rfl⟩) ⟨PPX_blind, fun U hU hW => PPX_at hK hN hX hPc hDc hFc hU hW⟩ rfl rfl hl.1 rfl (lv_room (Nat.le_of_ble_eq_true rfl)) d_Sp_line_18 ⟨Nat.le_of_ble_eq_true rfl, Nat.le_of_ble_eq_true rfl⟩) hout hlocks (fun E hE => hz12 _ hE) (fun hr => ?_)
  replace hm := hm hr
  refine lv_iload hx hb d_Sp_line_21 (lv_at hl 5 rfl) ?_
  refine lv_iconst (v := 0) hx hb d_Sp_line_23 (by decide) ?_
  refine lv_bipush (v := 60) hx hb d_Sp_line_24 (by decide) ?_
  obtain ⟨z13, hb14, hz15, hm⟩ := bx0_z hm
  have hPc := hP.sub (ws' := (wl_Sp_needBetween)) [] rfl
  have hDc := hD.sub (ws' := (wl_Sp_needBetween)) [] (by decide) rfl
  have hFc := va_free (wc := (wl_Sp_needBetween)) hD hS hA [] rfl
  refine x_onV (x_runS (As := [.int p5, .int 0, .int 60]) (rest := []) ⟨hx, hb, hml, hown, hts⟩ (c_Sp_needBetween l htr dC dI (cI := cI) (cZ := cZ) (cJ := cJ) s.heap.size p5 0 60 z13 hb14) (va_cwS 3 hts (gl_S k_484 k_483 k_207 k_482) rfl rfl rfl (by decide +kernel) ⟨Nat.le_of_ble_eq_true rfl, Nat.le_of_ble_eq_true rfl⟩) ⟨PPX_blind, fun U hU hW => PPX_at hK hN hX hPc hDc hFc hU hW⟩ rfl rfl hl.1 rfl (lv_room (Nat.le_of_ble_eq_true rfl)) d_Sp_line_26 ⟨Nat.le_of_ble_eq_true rfl, Nat.le_of_ble_eq_true rfl⟩) hout hlocks (fun E hE => hz15 _ hE) (fun hr => ?_)
  replace hm := hm hr
  refine lv_iload hx hb d_Sp_line_29 (lv_at hl 5 rfl) ?_
  refine lv_iconst (v := 2) hx hb d_Sp_line_31 (by decide) ?_
  refine lv_irem hx hb d_Sp_line_32 (by decide) ?_
  refine lv_if_eq (tgt := 46) hx hb d_Sp_line_33 (by decide) (fun c16 => ?_) (fun c16 => ?_)
  · replace hm := if_t hm c16
    refine lv_iload_n hx hb d_Sp_line_46 rfl (lv_at hl 1 rfl) ?_
    refine lv_iload_n hx hb d_Sp_line_47 rfl (lv_at hl 3 rfl) ?_
    obtain ⟨x20, hb18, hm⟩ := bd1_e hm
    have K17 : ∀ (ls : Array Slot), lv_has ls 11 [(0, .ref a_0), (1, .int p1), (2, .int p2), (3, .int p3), (4, .int p4), (5, .int p5)] → W p l e rm_Sp_line s m args below meth c s.heap [] 0 0 (XMQ below Qc (fun E => Z = Sum.inl (xk E)) args s free) (F0 m 56 ls [.int x20]) := by
      intro ls hl
      refine lv_iload_n hx hb d_Sp_line_56 rfl (lv_at hl 2 rfl) ?_
      refine lv_iload hx hb d_Sp_line_57 (lv_at hl 4 rfl) ?_
      obtain ⟨x25, hb23, hm⟩ := bd1_e hm
      have K22 : ∀ (ls : Array Slot), lv_has ls 11 [(0, .ref a_0), (1, .int p1), (2, .int p2), (3, .int p3), (4, .int p4), (5, .int p5)] → W p l e rm_Sp_line s m args below meth c s.heap [] 0 0 (XMQ below Qc (fun E => Z = Sum.inl (xk E)) args s free) (F0 m 67 ls [.int x25, .int x20]) := by
        intro ls hl
        refine lv_icmp_ne (tgt := 80) hx hb d_Sp_line_67 (by decide) (fun c27 => ?_) (fun c27 => ?_)
        · replace hm := if_f hm c27
          refine lv_aload_n hx hb d_Sp_line_80 rfl (lv_at hl 0 rfl) ?_
          refine va_get (D := (dC, dI)) (ci := 0) (v := .ref a_0_lines) (C := "SpaceCycles") (T := F_Sp) (N := 12) hx hb hts (in_F i_Sp) hown hK hP 0 rfl rfl 0 (by decide) (hts _ (in_c k_466)) (fun _ h9 => h9) rfl d_Sp_line_81 ?_
          refine va_get (D := (dC, dI)) (ci := 1) (v := .int v_0_lines_count) (C := "SpaceCycles$Lines") (T := F_Li) (N := 9) hx hb hts (in_F i_Li) hown hK hP 1 rfl rfl 8 (by decide) (hts _ (in_c k_467)) (fun _ h9 => h9) rfl d_Sp_line_84 ?_
          refine lv_bipush (v := 20) hx hb d_Sp_line_87 (by decide) ?_
          refine lv_icmp_lt (tgt := 102) hx hb d_Sp_line_89 (by decide) (fun c28 => ?_) (fun c28 => ?_)
          · replace hm := if_t hm c28
            refine lv_iload_n hx hb d_Sp_line_102 rfl (lv_at hl 1 rfl) ?_
            refine lv_iload_n hx hb d_Sp_line_103 rfl (lv_at hl 3 rfl) ?_
            refine va_mmin hx hb (by rw [hml]; exact hl.1.symm) hown (hts _ (in_c k_485)) (hts _ (in_c k_21)) (hts _ (in_c k_13)) (hts _ (in_c k_22)) (Nat.le_of_ble_eq_true rfl) (Nat.le_of_ble_eq_true rfl) (Nat.zero_le _) (Nat.zero_le _) d_Sp_line_104 ?_
            refine lv_topi (fun x29 ex29 => ?_)
            replace hm := lt_el hm ex29
            refine lv_istore (lv' := [(6, .int x29), (0, .ref a_0), (1, .int p1), (2, .int p2), (3, .int p3), (4, .int p4), (5, .int p5)]) hx hb d_Sp_line_107 hl (by decide) rfl (fun ls hl => ?_)
            refine lv_iload_n hx hb d_Sp_line_109 rfl (lv_at hl 3 rfl) ?_
            refine lv_iload hx hb d_Sp_line_110 (lv_at hl 5 rfl) ?_
            refine va_mmin hx hb (by rw [hml]; exact hl.1.symm) hown (hts _ (in_c k_485)) (hts _ (in_c k_21)) (hts _ (in_c k_13)) (hts _ (in_c k_22)) (Nat.le_of_ble_eq_true rfl) (Nat.le_of_ble_eq_true rfl) (Nat.zero_le _) (Nat.zero_le _) d_Sp_line_112 ?_
            refine lv_topi (fun x30 ex30 => ?_)
            replace hm := lt_el hm ex30
            refine lv_istore (lv' := [(7, .int x30), (6, .int x29), (0, .ref a_0), (1, .int p1), (2, .int p2), (3, .int p3), (4, .int p4), (5, .int p5)]) hx hb d_Sp_line_115 hl (by decide) rfl (fun ls hl => ?_)
            refine lv_iload_n hx hb d_Sp_line_117 rfl (lv_at hl 3 rfl) ?_
            refine lv_iload_n hx hb d_Sp_line_118 rfl (lv_at hl 5 rfl) ?_
            refine va_mmax hx hb (by rw [hml]; exact hl.1.symm) hown (hts _ (in_c k_486)) (hts _ (in_c k_12)) (hts _ (in_c k_13)) (hts _ (in_c k_14)) (Nat.le_of_ble_eq_true rfl) (Nat.le_of_ble_eq_true rfl) (Nat.zero_le _) (Nat.zero_le _) d_Sp_line_119 ?_
            refine lv_topi (fun x31 ex31 => ?_)
            replace hm := lt_el hm ex31
            refine lv_istore (lv' := [(8, .int x31), (7, .int x30), (6, .int x29), (0, .ref a_0), (1, .int p1), (2, .int p2), (3, .int p3), (4, .int p4), (5, .int p5)]) hx hb d_Sp_line_122 hl (by decide) rfl (fun ls hl => ?_)
            refine lv_iload_n hx hb d_Sp_line_124 rfl (lv_at hl 5 rfl) ?_
            refine lv_iload hx hb d_Sp_line_125 (lv_at hl 7 rfl) ?_
            refine va_mmax hx hb (by rw [hml]; exact hl.1.symm) hown (hts _ (in_c k_486)) (hts _ (in_c k_12)) (hts _ (in_c k_13)) (hts _ (in_c k_14)) (Nat.le_of_ble_eq_true rfl) (Nat.le_of_ble_eq_true rfl) (Nat.zero_le _) (Nat.zero_le _) d_Sp_line_127 ?_
            refine lv_topi (fun x32 ex32 => ?_)
            replace hm := lt_el hm ex32
            refine lv_istore (lv' := [(9, .int x32), (8, .int x31), (7, .int x30), (6, .int x29), (0, .ref a_0), (1, .int p1), (2, .int p2), (3, .int p3), (4, .int p4), (5, .int p5)]) hx hb d_Sp_line_130 hl (by decide) rfl (fun ls hl => ?_)
            refine lv_aload_n hx hb d_Sp_line_132 rfl (lv_at hl 4 rfl) ?_
            refine va_get (D := (dC, dI)) (ci := 0) (v := .ref a_0_lines) (C := "SpaceCycles") (T := F_Sp) (N := 12) hx hb hts (in_F i_Sp) hown hK hP 0 rfl rfl 0 (by decide) (hts _ (in_c k_466)) (fun _ h9 => h9) rfl d_Sp_line_133 ?_
            refine lv_iconst (v := (-1)) hx hb d_Sp_line_136 (by decide) ?_
            refine lv_iload hx hb d_Sp_line_137 (lv_at hl 3 rfl) ?_
            refine lv_iload hx hb d_Sp_line_139 (lv_at hl 2 rfl) ?_
            refine lv_iload hx hb d_Sp_line_141 (lv_at hl 1 rfl) ?_
            refine lv_iload hx hb d_Sp_line_143 (lv_at hl 0 rfl) ?_
            obtain ⟨r33, hb34, hm⟩ := bd1_e hm
            have hPc := hP.sub (ws' := (wl_Li_someLieAlong a_0_lines a_0_lines_lowX a_0_lines_lowY a_0_lines_highX a_0_lines_highY a_0_lines_thickness b_0_lines_doors b_0_lines_doorFrom b_0_lines_doorTo cI v_0_lines_count f_0_lines_lowX f_0_lines_lowY f_0_lines_highX f_0_lines_highY)) [1, 2, 3, 4, 5] rfl
            have hDc := hD.sub (ws' := (wl_Li_someLieAlong a_0_lines a_0_lines_lowX a_0_lines_lowY a_0_lines_highX a_0_lines_highY a_0_lines_thickness b_0_lines_doors b_0_lines_doorFrom b_0_lines_doorTo cI v_0_lines_count f_0_lines_lowX f_0_lines_lowY f_0_lines_highX f_0_lines_highY)) [1, 2, 3, 4, 5] (by decide) rfl
            refine cl_i (wc' := (wl_Li_someLieAlong a_0_lines a_0_lines_lowX a_0_lines_lowY a_0_lines_highX a_0_lines_highY a_0_lines_thickness b_0_lines_doors b_0_lines_doorFrom b_0_lines_doorTo cI v_0_lines_count f_0_lines_lowX f_0_lines_lowY f_0_lines_highX f_0_lines_highY)) (va_runV (As := [.int (-1), .int x29, .int x30, .int x31, .int x32]) (rest := []) ⟨hx, hb, hml, hown, hts⟩ (c_Li_someLieAlong l dC dI (cI := cI) (cZ := cZ) (cJ := cJ) a_0_lines a_0_lines_lowX a_0_lines_lowY a_0_lines_highX a_0_lines_highY a_0_lines_thickness b_0_lines_doors b_0_lines_doorFrom b_0_lines_doorTo s.heap.size v_0_lines_count f_0_lines_lowX f_0_lines_lowY f_0_lines_highX f_0_lines_highY (-1) x29 x30 x31 x32 r33 hb34) (cwV 5 hts (gl_V k_490 k_489 k_488 k_30 k_487) rfl rfl rfl (by decide +kernel) ⟨Nat.le_of_ble_eq_true rfl, Nat.le_of_ble_eq_true rfl⟩) ⟨PP_blind, va_recv hK hPc (ci := 1) (q0 := 0) rfl rfl, fun U hU hW => PP_at hK hN hPc hDc hU hW⟩ rfl rfl hl.1 rfl (lv_room (Nat.le_of_ble_eq_true rfl)) d_Sp_line_145 ⟨Nat.zero_le _, Nat.zero_le _⟩) hP hD hS hA [1, 2, 3, 4, 5] [0, 6] rfl rfl (by decide) (by decide) (fun H locs hP hD hS => ?_)
            have hP : va_P (dC, dI) vwCl (wl_Sp_line a_0 a_0_lines a_0_lines_lowX a_0_lines_lowY a_0_lines_highX a_0_lines_highY a_0_lines_thickness b_0_flood b_0_net b_0_loops b_0_common b_0_names b_0_ways b_0_marked b_0_lines_doors b_0_lines_doorFrom b_0_lines_doorTo cI r_0_now r_0_before v_0_runs v_0_stale v_0_lines_count f_0_lines_lowX f_0_lines_lowY f_0_lines_highX f_0_lines_highY f_0_lines_thickness) H := hP.sub [0, 2, 3, 4, 5, 6, 1] rfl
            have hD : va_D A (wl_Sp_line a_0 a_0_lines a_0_lines_lowX a_0_lines_lowY a_0_lines_highX a_0_lines_highY a_0_lines_thickness b_0_flood b_0_net b_0_loops b_0_common b_0_names b_0_ways b_0_marked b_0_lines_doors b_0_lines_doorFrom b_0_lines_doorTo cI r_0_now r_0_before v_0_runs v_0_stale v_0_lines_count f_0_lines_lowX f_0_lines_lowY f_0_lines_highX f_0_lines_highY f_0_lines_thickness) := hD.sub [0, 2, 3, 4, 5, 6, 1] (by decide) rfl
            refine lv_if_eq (tgt := 153) hx hb d_Sp_line_148 (by decide) (fun c35 => ?_) (fun c35 => ?_)
            · replace hm := if_t hm c35
              refine lv_aload_n hx hb d_Sp_line_153 rfl (lv_at hl 4 rfl) ?_
              refine va_get (D := (dC, dI)) (ci := 0) (v := .ref a_0_lines) (C := "SpaceCycles") (T := F_Sp) (N := 12) hx hb hts (in_F i_Sp) hown hK hP 0 rfl rfl 0 (by decide) (hts _ (in_c k_466)) (fun _ h9 => h9) rfl d_Sp_line_154 ?_
              refine va_get (D := (dC, dI)) (ci := 1) (v := .int v_0_lines_count) (C := "SpaceCycles$Lines") (T := F_Li) (N := 9) hx hb hts (in_F i_Li) hown hK hP 1 rfl rfl 8 (by decide) (hts _ (in_c k_467)) (fun _ h9 => h9) rfl d_Sp_line_157 ?_
              refine lv_istore (lv' := [(10, .int v_0_lines_count), (9, .int x32), (8, .int x31), (7, .int x30), (6, .int x29), (0, .ref a_0), (1, .int p1), (2, .int p2), (3, .int p3), (4, .int p4), (5, .int p5)]) hx hb d_Sp_line_160 hl (by decide) rfl (fun ls hl => ?_)
              refine lv_aload_n hx hb d_Sp_line_162 rfl (lv_at hl 5 rfl) ?_
              refine va_get (D := (dC, dI)) (ci := 0) (v := .ref a_0_lines) (C := "SpaceCycles") (T := F_Sp) (N := 12) hx hb hts (in_F i_Sp) hown hK hP 0 rfl rfl 0 (by decide) (hts _ (in_c k_466)) (fun _ h9 => h9) rfl d_Sp_line_163 ?_
              refine lv_dup hx hb d_Sp_line_166 rfl ?_
              refine va_get (D := (dC, dI)) (ci := 1) (v := .int v_0_lines_count) (C := "SpaceCycles$Lines") (T := F_Li) (N := 9) hx hb hts (in_F i_Li) hown hK hP 1 rfl rfl 8 (by decide) (hts _ (in_c k_467)) (fun _ h9 => h9) rfl d_Sp_line_167 ?_
              refine lv_iconst (v := 1) hx hb d_Sp_line_170 (by decide) ?_
              refine lv_iadd hx hb d_Sp_line_171 ?_
              refine lv_topi (fun x36 ex36 => ?_)
              replace hm := lt_el hm ex36
              refine va_put (D := (dC, dI)) (ci := 1) (v := .int x36) (ty := .int) (C := "SpaceCycles$Lines") (T := F_Li) (N := 9) hx hb hts (in_F i_Li) t_Li t_Li_ok n_Li hown hK hP hD hS 1 rfl rfl 8 (by decide) (hts _ (in_c k_467)) (fun _ h9 => h9) rfl (by decide +kernel) rfl rfl (Nat.le_of_ble_eq_true rfl) d_Sp_line_172 (fun H locs hP hD hS => ?_)
              have hP : va_P (dC, dI) vwCl (wl_Sp_line a_0 a_0_lines a_0_lines_lowX a_0_lines_lowY a_0_lines_highX a_0_lines_highY a_0_lines_thickness b_0_flood b_0_net b_0_loops b_0_common b_0_names b_0_ways b_0_marked b_0_lines_doors b_0_lines_doorFrom b_0_lines_doorTo cI r_0_now r_0_before v_0_runs v_0_stale x36 f_0_lines_lowX f_0_lines_lowY f_0_lines_highX f_0_lines_highY f_0_lines_thickness) H := hP
              have hD : va_D A (wl_Sp_line a_0 a_0_lines a_0_lines_lowX a_0_lines_lowY a_0_lines_highX a_0_lines_highY a_0_lines_thickness b_0_flood b_0_net b_0_loops b_0_common b_0_names b_0_ways b_0_marked b_0_lines_doors b_0_lines_doorFrom b_0_lines_doorTo cI r_0_now r_0_before v_0_runs v_0_stale x36 f_0_lines_lowX f_0_lines_lowY f_0_lines_highX f_0_lines_highY f_0_lines_thickness) := hD
              refine lv_aload_n hx hb d_Sp_line_175 rfl (lv_at hl 5 rfl) ?_
              refine va_get (D := (dC, dI)) (ci := 0) (v := .ref a_0_lines) (C := "SpaceCycles") (T := F_Sp) (N := 12) hx hb hts (in_F i_Sp) hown hK hP 0 rfl rfl 0 (by decide) (hts _ (in_c k_466)) (fun _ h9 => h9) rfl d_Sp_line_176 ?_
              refine lv_iload hx hb d_Sp_line_179 (lv_at hl 0 rfl) ?_
              refine lv_iload hx hb d_Sp_line_181 (lv_at hl 4 rfl) ?_
              refine lv_iload hx hb d_Sp_line_183 (lv_at hl 3 rfl) ?_
              refine lv_iload hx hb d_Sp_line_185 (lv_at hl 2 rfl) ?_
              refine lv_iload hx hb d_Sp_line_187 (lv_at hl 1 rfl) ?_
              obtain ⟨f37, f38, f39, f40, hb41, hm⟩ := bd4_e hm
              have hPc := hP.sub (ws' := (wl_Li_put a_0_lines a_0_lines_lowX a_0_lines_lowY a_0_lines_highX a_0_lines_highY a_0_lines_thickness b_0_lines_doors b_0_lines_doorFrom b_0_lines_doorTo cI x36 f_0_lines_lowX f_0_lines_lowY f_0_lines_highX f_0_lines_highY)) [1, 2, 3, 4, 5] rfl
              have hDc := hD.sub (ws' := (wl_Li_put a_0_lines a_0_lines_lowX a_0_lines_lowY a_0_lines_highX a_0_lines_highY a_0_lines_thickness b_0_lines_doors b_0_lines_doorFrom b_0_lines_doorTo cI x36 f_0_lines_lowX f_0_lines_lowY f_0_lines_highX f_0_lines_highY)) [1, 2, 3, 4, 5] (by decide) rfl
              refine cl_v (wc' := (wl_Li_put a_0_lines a_0_lines_lowX a_0_lines_lowY a_0_lines_highX a_0_lines_highY a_0_lines_thickness b_0_lines_doors b_0_lines_doorFrom b_0_lines_doorTo cI x36 f37 f38 f39 f40)) (va_runV (As := [.int v_0_lines_count, .int x29, .int x30, .int x31, .int x32]) (rest := []) ⟨hx, hb, hml, hown, hts⟩ (c_Li_put l dC dI (cI := cI) (cZ := cZ) (cJ := cJ) a_0_lines a_0_lines_lowX a_0_lines_lowY a_0_lines_highX a_0_lines_highY a_0_lines_thickness b_0_lines_doors b_0_lines_doorFrom b_0_lines_doorTo H.size x36 f_0_lines_lowX f_0_lines_lowY f_0_lines_highX f_0_lines_highY v_0_lines_count x29 x30 x31 x32 f37 f38 f39 f40 hb41) (cwV 5 hts (gl_V k_494 k_493 k_492 k_30 k_491) rfl rfl rfl (by decide +kernel) ⟨Nat.le_of_ble_eq_true rfl, Nat.le_of_ble_eq_true rfl⟩) ⟨PP_blind, va_recv hK hPc (ci := 1) (q0 := 0) rfl rfl, fun U hU hW => PP_at hK hN hPc hDc hU hW⟩ rfl rfl hl.1 rfl (lv_room (Nat.le_of_ble_eq_true rfl)) d_Sp_line_189 ⟨Nat.zero_le _, Nat.zero_le _⟩) hP hD hS hA [1, 2, 3, 4, 5] [0, 6] rfl rfl (by decide) (by decide) (fun H locs hP hD hS => ?_)
              have hP : va_P (dC, dI) vwCl (wl_Sp_line a_0 a_0_lines a_0_lines_lowX a_0_lines_lowY a_0_lines_highX a_0_lines_highY a_0_lines_thickness b_0_flood b_0_net b_0_loops b_0_common b_0_names b_0_ways b_0_marked b_0_lines_doors b_0_lines_doorFrom b_0_lines_doorTo cI r_0_now r_0_before v_0_runs v_0_stale x36 f37 f38 f39 f40 f_0_lines_thickness) H := hP.sub [0, 2, 3, 4, 5, 6, 1] rfl
              have hD : va_D A (wl_Sp_line a_0 a_0_lines a_0_lines_lowX a_0_lines_lowY a_0_lines_highX a_0_lines_highY a_0_lines_thickness b_0_flood b_0_net b_0_loops b_0_common b_0_names b_0_ways b_0_marked b_0_lines_doors b_0_lines_doorFrom b_0_lines_doorTo cI r_0_now r_0_before v_0_runs v_0_stale x36 f37 f38 f39 f40 f_0_lines_thickness) := hD.sub [0, 2, 3, 4, 5, 6, 1] (by decide) rfl
              refine lv_aload_n hx hb d_Sp_line_192 rfl (lv_at hl 5 rfl) ?_
              refine va_get (D := (dC, dI)) (ci := 0) (v := .ref a_0_lines) (C := "SpaceCycles") (T := F_Sp) (N := 12) hx hb hts (in_F i_Sp) hown hK hP 0 rfl rfl 0 (by decide) (hts _ (in_c k_466)) (fun _ h9 => h9) rfl d_Sp_line_193 ?_
              refine va_get (D := (dC, dI)) (ci := 1) (v := .ref a_0_lines_thickness) (C := "SpaceCycles$Lines") (T := F_Li) (N := 9) hx hb hts (in_F i_Li) hown hK hP 1 rfl rfl 4 (by decide) (hts _ (in_c k_495)) (fun _ h9 => h9) rfl d_Sp_line_196 ?_
              refine lv_iload hx hb d_Sp_line_199 (lv_at hl 0 rfl) ?_
              refine lv_iload hx hb d_Sp_line_201 (lv_at hl 10 rfl) ?_
              obtain ⟨hi42, hm⟩ := gI_e hm
              obtain ⟨f43, ef43⟩ : ∃ y : Nat → Int32, y = upd f_0_lines_thickness v_0_lines_count.toNatClampNeg p5 := ⟨_, rfl⟩
              replace hm := lt_el hm ef43
              refine va_iast hx hb hK hP hD hS 6 0 rfl rfl hi42 d_Sp_line_203 (fun H locs hP hD hS => ?_)
              rw [← ef43] at hP hD
              have hP : va_P (dC, dI) vwCl (wl_Sp_line a_0 a_0_lines a_0_lines_lowX a_0_lines_lowY a_0_lines_highX a_0_lines_highY a_0_lines_thickness b_0_flood b_0_net b_0_loops b_0_common b_0_names b_0_ways b_0_marked b_0_lines_doors b_0_lines_doorFrom b_0_lines_doorTo cI r_0_now r_0_before v_0_runs v_0_stale x36 f37 f38 f39 f40 f43) H := hP
              have hD : va_D A (wl_Sp_line a_0 a_0_lines a_0_lines_lowX a_0_lines_lowY a_0_lines_highX a_0_lines_highY a_0_lines_thickness b_0_flood b_0_net b_0_loops b_0_common b_0_names b_0_ways b_0_marked b_0_lines_doors b_0_lines_doorFrom b_0_lines_doorTo cI r_0_now r_0_before v_0_runs v_0_stale x36 f37 f38 f39 f40 f43) := hD
              refine lv_aload_n hx hb d_Sp_line_204 rfl (lv_at hl 5 rfl) ?_
              refine lv_iconst (v := 1) hx hb d_Sp_line_205 (by decide) ?_
              refine va_put (D := (dC, dI)) (ci := 0) (v := .int 1) (ty := .boolean) (C := "SpaceCycles") (T := F_Sp) (N := 12) hx hb hts (in_F i_Sp) t_Sp t_Sp_ok n_Sp hown hK hP hD hS 0 rfl rfl 11 (by decide) (hts _ (in_c k_468)) (fun _ h9 => h9) rfl (by decide +kernel) rfl rfl (Nat.le_of_ble_eq_true rfl) d_Sp_line_206 (fun H locs hP hD hS => ?_)
              have hP : va_P (dC, dI) vwCl (wl_Sp_line a_0 a_0_lines a_0_lines_lowX a_0_lines_lowY a_0_lines_highX a_0_lines_highY a_0_lines_thickness b_0_flood b_0_net b_0_loops b_0_common b_0_names b_0_ways b_0_marked b_0_lines_doors b_0_lines_doorFrom b_0_lines_doorTo cI r_0_now r_0_before v_0_runs 1 x36 f37 f38 f39 f40 f43) H := hP
              have hD : va_D A (wl_Sp_line a_0 a_0_lines a_0_lines_lowX a_0_lines_lowY a_0_lines_highX a_0_lines_highY a_0_lines_thickness b_0_flood b_0_net b_0_loops b_0_common b_0_names b_0_ways b_0_marked b_0_lines_doors b_0_lines_doorFrom b_0_lines_doorTo cI r_0_now r_0_before v_0_runs 1 x36 f37 f38 f39 f40 f43) := hD
              refine lv_iload hx hb d_Sp_line_209 (lv_at hl 0 rfl) ?_
              cases hm
              exact hret _ _ rfl _ H locs ls d_Sp_line_211 hP hD hS
            · replace hm := if_f hm c35
              refine lv_iconst (v := (-1)) hx hb d_Sp_line_151 (by decide) ?_
              cases hm
              exact hret _ _ rfl _ H locs ls d_Sp_line_152 hP hD hS
          · replace hm := if_f hm c28
            cases hm
            obtain ⟨sa, hsa⟩ := hX.text 4 rfl; exact x_throw hx hb htr hown fit_IS fit_up (hts _ (in_c k_469)) (hts _ (in_c k_470)) hsa (hX.atoms hts atoms_IS) (by rw [hml]; exact hl.1) d_Sp_line_92 d_Sp_line_95 (Or.inl ⟨d_Sp_line_96, rfl⟩) d_Sp_line_98 d_Sp_line_101 hout rfl (Nat.le_of_ble_eq_true rfl) (Nat.le_of_ble_eq_true rfl) (Nat.le_of_ble_eq_true rfl) (Nat.le_of_ble_eq_true rfl) hlocks
        · replace hm := if_t hm c27
          cases hm
          obtain ⟨sa, hsa⟩ := hX.text 3 rfl; exact x_throw hx hb htr hown fit_IA fit_up (hts _ (in_c k_464)) (hts _ (in_c k_465)) hsa (hX.atoms hts atoms_IA) (by rw [hml]; exact hl.1) d_Sp_line_70 d_Sp_line_73 (Or.inl ⟨d_Sp_line_74, rfl⟩) d_Sp_line_76 d_Sp_line_79 hout rfl (Nat.le_of_ble_eq_true rfl) (Nat.le_of_ble_eq_true rfl) (Nat.le_of_ble_eq_true rfl) (Nat.le_of_ble_eq_true rfl) hlocks
      replace hm := hb23
      refine lv_icmp_ne (tgt := 66) hx hb d_Sp_line_59 (by decide) (fun c26 => ?_) (fun c26 => ?_)
      · replace hm := if_f hm c26
        refine lv_iconst (v := 0) hx hb d_Sp_line_66 (by decide) ?_
        cases hm
        exact K22 ls (lv_sub hl [0, 1, 2, 3, 4, 5] rfl)
      · replace hm := if_t hm c26
        refine lv_iconst (v := 1) hx hb d_Sp_line_62 (by decide) ?_
        refine lv_goto (tgt := 67) hx hb d_Sp_line_63 (by decide) ?_
        cases hm
        exact K22 ls (lv_sub hl [0, 1, 2, 3, 4, 5] rfl)
    replace hm := hb18
    refine lv_icmp_ne (tgt := 55) hx hb d_Sp_line_48 (by decide) (fun c21 => ?_) (fun c21 => ?_)
    · replace hm := if_f hm c21
      refine lv_iconst (v := 0) hx hb d_Sp_line_55 (by decide) ?_
      cases hm
      exact K17 ls (lv_sub hl [0, 1, 2, 3, 4, 5] rfl)
    · replace hm := if_t hm c21
      refine lv_iconst (v := 1) hx hb d_Sp_line_51 (by decide) ?_
      refine lv_goto (tgt := 56) hx hb d_Sp_line_52 (by decide) ?_
      cases hm
      exact K17 ls (lv_sub hl [0, 1, 2, 3, 4, 5] rfl)
  · replace hm := if_f hm c16
    cases hm
    obtain ⟨sa, hsa⟩ := hX.text 2 rfl; exact x_throw hx hb htr hown fit_IA fit_up (hts _ (in_c k_464)) (hts _ (in_c k_465)) hsa (hX.atoms hts atoms_IA) (by rw [hml]; exact hl.1) d_Sp_line_36 d_Sp_line_39 (Or.inl ⟨d_Sp_line_40, rfl⟩) d_Sp_line_42 d_Sp_line_45 hout rfl (Nat.le_of_ble_eq_true rfl) (Nat.le_of_ble_eq_true rfl) (Nat.le_of_ble_eq_true rfl) (Nat.le_of_ble_eq_true rfl) hlocks
set_option maxHeartbeats 4000000 in
set_option maxRecDepth 100000 in
theorem c_Sp_line (l : Launch) (htr : l.stackTraces = false) (dC : Nat → ClassId) (dI : Nat → Nat → Nat) {cI cZ cJ : ClassId} (a_0 a_0_lines a_0_lines_lowX a_0_lines_lowY a_0_lines_highX a_0_lines_highY a_0_lines_thickness b_0_flood b_0_net b_0_loops b_0_common b_0_names b_0_ways b_0_marked b_0_lines_doors b_0_lines_doorFrom b_0_lines_doorTo : Nat) (sz : Nat) (r_0_now : Nat) (r_0_before : Nat) (v_0_runs : Int32) (v_0_stale : Int32) (v_0_lines_count : Int32) (f_0_lines_lowX : Nat → Int32) (f_0_lines_lowY : Nat → Int32) (f_0_lines_highX : Nat → Int32) (f_0_lines_highY : Nat → Int32) (f_0_lines_thickness : Nat → Int32) (p1 : Int32) (p2 : Int32) (p3 : Int32) (p4 : Int32) (p5 : Int32) (Z : Sum Nat (Int32 × (Int32) × (Int32) × (Nat → Int32) × (Nat → Int32) × (Nat → Int32) × (Nat → Int32) × (Nat → Int32))) (hm : m_Sp_line p1 p2 p3 p4 p5 v_0_stale v_0_lines_count f_0_lines_lowX f_0_lines_lowY f_0_lines_highX f_0_lines_highY f_0_lines_thickness = some Z) : XMet l y_Sp_line w_Sp_line rm_Sp_line (PPX dC dI [(cI, .int), (cZ, .boolean), (cJ, .long)] [.ref a_0, .int p1, .int p2, .int p3, .int p4, .int p5] sz (wl_Sp_line a_0 a_0_lines a_0_lines_lowX a_0_lines_lowY a_0_lines_highX a_0_lines_highY a_0_lines_thickness b_0_flood b_0_net b_0_loops b_0_common b_0_names b_0_ways b_0_marked b_0_lines_doors b_0_lines_doorFrom b_0_lines_doorTo cI r_0_now r_0_before v_0_runs v_0_stale v_0_lines_count f_0_lines_lowX f_0_lines_lowY f_0_lines_highX f_0_lines_highY f_0_lines_thickness)) (va_Qi (fun (r : Int32) (u : (Int32) × (Int32) × (Nat → Int32) × (Nat → Int32) × (Nat → Int32) × (Nat → Int32) × (Nat → Int32)) => Z = Sum.inr (r, u)) (fun u t => BB dC dI [(cI, .int), (cZ, .boolean), (cJ, .long)] (va_A (wl_Sp_line a_0 a_0_lines a_0_lines_lowX a_0_lines_lowY a_0_lines_highX a_0_lines_highY a_0_lines_thickness b_0_flood b_0_net b_0_loops b_0_common b_0_names b_0_ways b_0_marked b_0_lines_doors b_0_lines_doorFrom b_0_lines_doorTo cI r_0_now r_0_before v_0_runs v_0_stale v_0_lines_count f_0_lines_lowX f_0_lines_lowY f_0_lines_highX f_0_lines_highY f_0_lines_thickness) sz) (wl_Sp_line a_0 a_0_lines a_0_lines_lowX a_0_lines_lowY a_0_lines_highX a_0_lines_highY a_0_lines_thickness b_0_flood b_0_net b_0_loops b_0_common b_0_names b_0_ways b_0_marked b_0_lines_doors b_0_lines_doorFrom b_0_lines_doorTo cI r_0_now r_0_before v_0_runs u.1 u.2.1 u.2.2.1 u.2.2.2.1 u.2.2.2.2.1 u.2.2.2.2.2.1 u.2.2.2.2.2.2) () t) (va_A (wl_Sp_line a_0 a_0_lines a_0_lines_lowX a_0_lines_lowY a_0_lines_highX a_0_lines_highY a_0_lines_thickness b_0_flood b_0_net b_0_loops b_0_common b_0_names b_0_ways b_0_marked b_0_lines_doors b_0_lines_doorFrom b_0_lines_doorTo cI r_0_now r_0_before v_0_runs v_0_stale v_0_lines_count f_0_lines_lowX f_0_lines_lowY f_0_lines_highX f_0_lines_highY f_0_lines_thickness) sz)) (fun E => Z = Sum.inl (xk E)) (va_A (wl_Sp_line a_0 a_0_lines a_0_lines_lowX a_0_lines_lowY a_0_lines_highX a_0_lines_highY a_0_lines_thickness b_0_flood b_0_net b_0_loops b_0_common b_0_names b_0_ways b_0_marked b_0_lines_doors b_0_lines_doorFrom b_0_lines_doorTo cI r_0_now r_0_before v_0_runs v_0_stale v_0_lines_count f_0_lines_lowX f_0_lines_lowY f_0_lines_highX f_0_lines_highY f_0_lines_thickness) sz) := by
  refine XMet.ofW (cc := b_Sp_line) (maxL := 11) (ret := (some .int)) (by decide) rfl ?_
  intro p e s m args below meth c s₁ B hml hout hv
  obtain ⟨rfl, hsz, hP, hK, hD0, hN, hX⟩ := hv
  subst hsz
  have hl := lv_entry ([.ref a_0, .int p1, .int p2, .int p3, .int p4, .int p5]) (n := 11) (Nat.le_of_ble_eq_true rfl)
  rw [lg_entry_eq]
  generalize (lg_sl ([.ref a_0, .int p1, .int p2, .int p3, .int p4, .int p5]) ++ List.replicate (11 - (lg_sl ([.ref a_0, .int p1, .int p2, .int p3, .int p4, .int p5])).length) Slot.unset).toArray = ls at hl ⊢
  exact t_Sp_line (A := va_A (wl_Sp_line a_0 a_0_lines a_0_lines_lowX a_0_lines_lowY a_0_lines_highX a_0_lines_highY a_0_lines_thickness b_0_flood b_0_net b_0_loops b_0_common b_0_names b_0_ways b_0_marked b_0_lines_doors b_0_lines_doorFrom b_0_lines_doorTo cI r_0_now r_0_before v_0_runs v_0_stale v_0_lines_count f_0_lines_lowX f_0_lines_lowY f_0_lines_highX f_0_lines_highY f_0_lines_thickness) s.heap.size) a_0 a_0_lines a_0_lines_lowX a_0_lines_lowY a_0_lines_highX a_0_lines_highY a_0_lines_thickness b_0_flood b_0_net b_0_loops b_0_common b_0_names b_0_ways b_0_marked b_0_lines_doors b_0_lines_doorFrom b_0_lines_doorTo r_0_now r_0_before v_0_runs v_0_stale v_0_lines_count f_0_lines_lowX f_0_lines_lowY f_0_lines_highX f_0_lines_highY f_0_lines_thickness p1 p2 p3 p4 p5 Z htr hX hout B.notSynchronized B.exec B.bytes hml (findClass_of_methodNamed B.named) (atoms_spec (ws := w_Sp_line) B.pre) hK hN (fun q h => Or.inr h) (fun r u hz pc H locs ls hd hP9 hD9 hS => x_ret (W.iret B.exec B.bytes B.returns (fun t ht hW => ⟨⟨r, u, rfl, hz, by rw [ht]; exact hP9, va_K.moved hW.alike hK, hD9⟩, hS.F ht⟩) hS.2.2 hd)) hm hP hD0.self va_S.rf ls hl

theorem k_496 : ((.code ⟨"SpaceCycles", "needLine", "(I)V"⟩ prog_1_method_21_code 2 none) : Cond) ∈ gl := gl_i 487 (by decide +kernel) (by decide +kernel)
theorem k_497 : ((.selects "SpaceCycles" ⟨"SpaceCycles", "needLine", "(I)V"⟩ ⟨"SpaceCycles", "needLine", "(I)V"⟩) : Cond) ∈ gl := gl_s (by decide +kernel) (by decide +kernel)
theorem k_498 : ((.instanceMethod ⟨"SpaceCycles", "needLine", "(I)V"⟩) : Cond) ∈ gl := gl_i 486 (by decide +kernel) (by decide +kernel)
theorem k_499 : ((.methodLink "SpaceCycles" 126 ⟨"SpaceCycles", "needLine", "(I)V"⟩) : Cond) ∈ gl := gl_i 484 (by decide +kernel) (by decide +kernel)
theorem k_500 : ((.fieldLink "SpaceCycles" 130 "SpaceCycles$Lines" "lowX" "[I") : Cond) ∈ gl := gl_i 45 (by decide +kernel) (by decide +kernel)
theorem k_501 : ((.fieldLink "SpaceCycles" 133 "SpaceCycles$Lines" "lowY" "[I") : Cond) ∈ gl := gl_i 51 (by decide +kernel) (by decide +kernel)
theorem k_502 : ((.fieldLink "SpaceCycles" 136 "SpaceCycles$Lines" "highX" "[I") : Cond) ∈ gl := gl_i 57 (by decide +kernel) (by decide +kernel)
theorem k_503 : ((.fieldLink "SpaceCycles" 139 "SpaceCycles$Lines" "highY" "[I") : Cond) ∈ gl := gl_i 62 (by decide +kernel) (by decide +kernel)
-- SpaceCycles.move(III)Z: may throw
abbrev b_Sp_move : ByteArray := prog_1_method_3_code
abbrev y_Sp_move : MethodName := ⟨"SpaceCycles", "move", "(III)Z"⟩
abbrev w_Sp_move : List Cond := Cond.code y_Sp_move b_Sp_move 8 (some .boolean) :: gl
abbrev rm_Sp_move : Room := { frames := 9, cells := 1, slots := 6, locals := 221 }
theorem d_Sp_move_0 : decode b_Sp_move 0 = .ok (.aload_n 0, 1) := by decide +kernel
theorem d_Sp_move_1 : decode b_Sp_move 1 = .ok (.iload_n 1, 1) := by decide +kernel
theorem d_Sp_move_2 : decode b_Sp_move 2 = .ok (.invokevirtual 126, 3) := by decide +kernel
theorem d_Sp_move_5 : decode b_Sp_move 5 = .ok (.aload_n 0, 1) := by decide +kernel
theorem d_Sp_move_6 : decode b_Sp_move 6 = .ok (.getfield 12, 3) := by decide +kernel
theorem d_Sp_move_9 : decode b_Sp_move 9 = .ok (.getfield 130, 3) := by decide +kernel
theorem d_Sp_move_12 : decode b_Sp_move 12 = .ok (.iload_n 1, 1) := by decide +kernel
theorem d_Sp_move_13 : decode b_Sp_move 13 = .ok (.iaload, 1) := by decide +kernel
theorem d_Sp_move_14 : decode b_Sp_move 14 = .ok (.i2l, 1) := by decide +kernel
theorem d_Sp_move_15 : decode b_Sp_move 15 = .ok (.iload_n 2, 1) := by decide +kernel
theorem d_Sp_move_16 : decode b_Sp_move 16 = .ok (.i2l, 1) := by decide +kernel
theorem d_Sp_move_17 : decode b_Sp_move 17 = .ok (.ladd, 1) := by decide +kernel
theorem d_Sp_move_18 : decode b_Sp_move 18 = .ok (.invokestatic 80, 3) := by decide +kernel
theorem d_Sp_move_21 : decode b_Sp_move 21 = .ok (.aload_n 0, 1) := by decide +kernel
theorem d_Sp_move_22 : decode b_Sp_move 22 = .ok (.getfield 12, 3) := by decide +kernel
theorem d_Sp_move_25 : decode b_Sp_move 25 = .ok (.getfield 133, 3) := by decide +kernel
theorem d_Sp_move_28 : decode b_Sp_move 28 = .ok (.iload_n 1, 1) := by decide +kernel
theorem d_Sp_move_29 : decode b_Sp_move 29 = .ok (.iaload, 1) := by decide +kernel
theorem d_Sp_move_30 : decode b_Sp_move 30 = .ok (.i2l, 1) := by decide +kernel
theorem d_Sp_move_31 : decode b_Sp_move 31 = .ok (.iload_n 3, 1) := by decide +kernel
theorem d_Sp_move_32 : decode b_Sp_move 32 = .ok (.i2l, 1) := by decide +kernel
theorem d_Sp_move_33 : decode b_Sp_move 33 = .ok (.ladd, 1) := by decide +kernel
theorem d_Sp_move_34 : decode b_Sp_move 34 = .ok (.invokestatic 80, 3) := by decide +kernel
theorem d_Sp_move_37 : decode b_Sp_move 37 = .ok (.aload_n 0, 1) := by decide +kernel
theorem d_Sp_move_38 : decode b_Sp_move 38 = .ok (.getfield 12, 3) := by decide +kernel
theorem d_Sp_move_41 : decode b_Sp_move 41 = .ok (.getfield 136, 3) := by decide +kernel
theorem d_Sp_move_44 : decode b_Sp_move 44 = .ok (.iload_n 1, 1) := by decide +kernel
theorem d_Sp_move_45 : decode b_Sp_move 45 = .ok (.iaload, 1) := by decide +kernel
theorem d_Sp_move_46 : decode b_Sp_move 46 = .ok (.i2l, 1) := by decide +kernel
theorem d_Sp_move_47 : decode b_Sp_move 47 = .ok (.iload_n 2, 1) := by decide +kernel
theorem d_Sp_move_48 : decode b_Sp_move 48 = .ok (.i2l, 1) := by decide +kernel
theorem d_Sp_move_49 : decode b_Sp_move 49 = .ok (.ladd, 1) := by decide +kernel
theorem d_Sp_move_50 : decode b_Sp_move 50 = .ok (.invokestatic 80, 3) := by decide +kernel
theorem d_Sp_move_53 : decode b_Sp_move 53 = .ok (.aload_n 0, 1) := by decide +kernel
theorem d_Sp_move_54 : decode b_Sp_move 54 = .ok (.getfield 12, 3) := by decide +kernel
theorem d_Sp_move_57 : decode b_Sp_move 57 = .ok (.getfield 139, 3) := by decide +kernel
theorem d_Sp_move_60 : decode b_Sp_move 60 = .ok (.iload_n 1, 1) := by decide +kernel
theorem d_Sp_move_61 : decode b_Sp_move 61 = .ok (.iaload, 1) := by decide +kernel
theorem d_Sp_move_62 : decode b_Sp_move 62 = .ok (.i2l, 1) := by decide +kernel
theorem d_Sp_move_63 : decode b_Sp_move 63 = .ok (.iload_n 3, 1) := by decide +kernel
theorem d_Sp_move_64 : decode b_Sp_move 64 = .ok (.i2l, 1) := by decide +kernel
theorem d_Sp_move_65 : decode b_Sp_move 65 = .ok (.ladd, 1) := by decide +kernel
theorem d_Sp_move_66 : decode b_Sp_move 66 = .ok (.invokestatic 80, 3) := by decide +kernel
theorem d_Sp_move_69 : decode b_Sp_move 69 = .ok (.aload_n 0, 1) := by decide +kernel
theorem d_Sp_move_70 : decode b_Sp_move 70 = .ok (.getfield 12, 3) := by decide +kernel
theorem d_Sp_move_73 : decode b_Sp_move 73 = .ok (.getfield 130, 3) := by decide +kernel
theorem d_Sp_move_76 : decode b_Sp_move 76 = .ok (.iload_n 1, 1) := by decide +kernel
theorem d_Sp_move_77 : decode b_Sp_move 77 = .ok (.iaload, 1) := by decide +kernel
theorem d_Sp_move_78 : decode b_Sp_move 78 = .ok (.iload_n 2, 1) := by decide +kernel
theorem d_Sp_move_79 : decode b_Sp_move 79 = .ok (.iadd, 1) := by decide +kernel
theorem d_Sp_move_80 : decode b_Sp_move 80 = .ok (.istore 4, 2) := by decide +kernel
theorem d_Sp_move_82 : decode b_Sp_move 82 = .ok (.aload_n 0, 1) := by decide +kernel
theorem d_Sp_move_83 : decode b_Sp_move 83 = .ok (.getfield 12, 3) := by decide +kernel
theorem d_Sp_move_86 : decode b_Sp_move 86 = .ok (.getfield 133, 3) := by decide +kernel
theorem d_Sp_move_89 : decode b_Sp_move 89 = .ok (.iload_n 1, 1) := by decide +kernel
theorem d_Sp_move_90 : decode b_Sp_move 90 = .ok (.iaload, 1) := by decide +kernel
theorem d_Sp_move_91 : decode b_Sp_move 91 = .ok (.iload_n 3, 1) := by decide +kernel
theorem d_Sp_move_92 : decode b_Sp_move 92 = .ok (.iadd, 1) := by decide +kernel
theorem d_Sp_move_93 : decode b_Sp_move 93 = .ok (.istore 5, 2) := by decide +kernel
theorem d_Sp_move_95 : decode b_Sp_move 95 = .ok (.aload_n 0, 1) := by decide +kernel
theorem d_Sp_move_96 : decode b_Sp_move 96 = .ok (.getfield 12, 3) := by decide +kernel
theorem d_Sp_move_99 : decode b_Sp_move 99 = .ok (.getfield 136, 3) := by decide +kernel
theorem d_Sp_move_102 : decode b_Sp_move 102 = .ok (.iload_n 1, 1) := by decide +kernel
theorem d_Sp_move_103 : decode b_Sp_move 103 = .ok (.iaload, 1) := by decide +kernel
theorem d_Sp_move_104 : decode b_Sp_move 104 = .ok (.iload_n 2, 1) := by decide +kernel
theorem d_Sp_move_105 : decode b_Sp_move 105 = .ok (.iadd, 1) := by decide +kernel
theorem d_Sp_move_106 : decode b_Sp_move 106 = .ok (.istore 6, 2) := by decide +kernel
theorem d_Sp_move_108 : decode b_Sp_move 108 = .ok (.aload_n 0, 1) := by decide +kernel
theorem d_Sp_move_109 : decode b_Sp_move 109 = .ok (.getfield 12, 3) := by decide +kernel
theorem d_Sp_move_112 : decode b_Sp_move 112 = .ok (.getfield 139, 3) := by decide +kernel
theorem d_Sp_move_115 : decode b_Sp_move 115 = .ok (.iload_n 1, 1) := by decide +kernel
theorem d_Sp_move_116 : decode b_Sp_move 116 = .ok (.iaload, 1) := by decide +kernel
theorem d_Sp_move_117 : decode b_Sp_move 117 = .ok (.iload_n 3, 1) := by decide +kernel
theorem d_Sp_move_118 : decode b_Sp_move 118 = .ok (.iadd, 1) := by decide +kernel
theorem d_Sp_move_119 : decode b_Sp_move 119 = .ok (.istore 7, 2) := by decide +kernel
theorem d_Sp_move_121 : decode b_Sp_move 121 = .ok (.aload_n 0, 1) := by decide +kernel
theorem d_Sp_move_122 : decode b_Sp_move 122 = .ok (.getfield 12, 3) := by decide +kernel
theorem d_Sp_move_125 : decode b_Sp_move 125 = .ok (.iload_n 1, 1) := by decide +kernel
theorem d_Sp_move_126 : decode b_Sp_move 126 = .ok (.iload 4, 2) := by decide +kernel
theorem d_Sp_move_128 : decode b_Sp_move 128 = .ok (.iload 5, 2) := by decide +kernel
theorem d_Sp_move_130 : decode b_Sp_move 130 = .ok (.iload 6, 2) := by decide +kernel
theorem d_Sp_move_132 : decode b_Sp_move 132 = .ok (.iload 7, 2) := by decide +kernel
theorem d_Sp_move_134 : decode b_Sp_move 134 = .ok (.invokevirtual 114, 3) := by decide +kernel
theorem d_Sp_move_137 : decode b_Sp_move 137 = .ok (.ifCond .eq 5, 3) := by decide +kernel
theorem d_Sp_move_140 : decode b_Sp_move 140 = .ok (.iconst 0, 1) := by decide +kernel
theorem d_Sp_move_141 : decode b_Sp_move 141 = .ok (.ireturn, 1) := by decide +kernel
theorem d_Sp_move_142 : decode b_Sp_move 142 = .ok (.aload_n 0, 1) := by decide +kernel
theorem d_Sp_move_143 : decode b_Sp_move 143 = .ok (.getfield 12, 3) := by decide +kernel
theorem d_Sp_move_146 : decode b_Sp_move 146 = .ok (.iload_n 1, 1) := by decide +kernel
theorem d_Sp_move_147 : decode b_Sp_move 147 = .ok (.iload 4, 2) := by decide +kernel
theorem d_Sp_move_149 : decode b_Sp_move 149 = .ok (.iload 5, 2) := by decide +kernel
theorem d_Sp_move_151 : decode b_Sp_move 151 = .ok (.iload 6, 2) := by decide +kernel
theorem d_Sp_move_153 : decode b_Sp_move 153 = .ok (.iload 7, 2) := by decide +kernel
theorem d_Sp_move_155 : decode b_Sp_move 155 = .ok (.invokevirtual 118, 3) := by decide +kernel
theorem d_Sp_move_158 : decode b_Sp_move 158 = .ok (.aload_n 0, 1) := by decide +kernel
theorem d_Sp_move_159 : decode b_Sp_move 159 = .ok (.iconst 1, 1) := by decide +kernel
theorem d_Sp_move_160 : decode b_Sp_move 160 = .ok (.putfield 76, 3) := by decide +kernel
theorem d_Sp_move_163 : decode b_Sp_move 163 = .ok (.iconst 1, 1) := by decide +kernel
theorem d_Sp_move_164 : decode b_Sp_move 164 = .ok (.ireturn, 1) := by decide +kernel
abbrev wl_Sp_move (a_0 : Nat) (a_0_lines : Nat) (a_0_lines_lowX : Nat) (a_0_lines_lowY : Nat) (a_0_lines_highX : Nat) (a_0_lines_highY : Nat) (b_0_flood : Nat) (b_0_net : Nat) (b_0_loops : Nat) (b_0_common : Nat) (b_0_names : Nat) (b_0_ways : Nat) (b_0_marked : Nat) (b_0_lines_thickness : Nat) (b_0_lines_doors : Nat) (b_0_lines_doorFrom : Nat) (b_0_lines_doorTo : Nat) (cI : ClassId) (r_0_now : Nat) (r_0_before : Nat) (v_0_runs : Int32) (v_0_stale : Int32) (v_0_lines_count : Int32) (f_0_lines_lowX : Nat → Int32) (f_0_lines_lowY : Nat → Int32) (f_0_lines_highX : Nat → Int32) (f_0_lines_highY : Nat → Int32) : va_W := [(a_0, .inr (0, [.ref a_0_lines, .ref b_0_flood, .ref b_0_net, .ref b_0_loops, .ref b_0_common, .ref b_0_names, .ref b_0_ways, .ref b_0_marked, .ref r_0_now, .ref r_0_before, .int v_0_runs, .int v_0_stale])), (a_0_lines, .inr (1, [.ref a_0_lines_lowX, .ref a_0_lines_lowY, .ref a_0_lines_highX, .ref a_0_lines_highY, .ref b_0_lines_thickness, .ref b_0_lines_doors, .ref b_0_lines_doorFrom, .ref b_0_lines_doorTo, .int v_0_lines_count])), (a_0_lines_lowX, .inl (cI, 20, .inl f_0_lines_lowX)), (a_0_lines_lowY, .inl (cI, 20, .inl f_0_lines_lowY)), (a_0_lines_highX, .inl (cI, 20, .inl f_0_lines_highX)), (a_0_lines_highY, .inl (cI, 20, .inl f_0_lines_highY))]
def m_Sp_move (p1 : Int32) (p2 : Int32) (p3 : Int32) (v_0_stale : Int32) (v_0_lines_count : Int32) (f_0_lines_lowX : Nat → Int32) (f_0_lines_lowY : Nat → Int32) (f_0_lines_highX : Nat → Int32) (f_0_lines_highY : Nat → Int32) : Option (Sum Nat (Int32 × (Int32) × (Nat → Int32) × (Nat → Int32) × (Nat → Int32) × (Nat → Int32))) :=
  bx0 (m_Sp_needLine p1 v_0_lines_count) <|
  gI p1 20 <|
  bx0 (m_Sp_needCoordinate ((Int32.toInt64 (f_0_lines_lowX p1.toNatClampNeg)) + (Int32.toInt64 p2))) <|
  gI p1 20 <|
  bx0 (m_Sp_needCoordinate ((Int32.toInt64 (f_0_lines_lowY p1.toNatClampNeg)) + (Int32.toInt64 p3))) <|
  gI p1 20 <|
  bx0 (m_Sp_needCoordinate ((Int32.toInt64 (f_0_lines_highX p1.toNatClampNeg)) + (Int32.toInt64 p2))) <|
  gI p1 20 <|
  bx0 (m_Sp_needCoordinate ((Int32.toInt64 (f_0_lines_highY p1.toNatClampNeg)) + (Int32.toInt64 p3))) <|
  gI p1 20 <|
  lt_ ((f_0_lines_lowX p1.toNatClampNeg) + p2) fun x21 =>
  gI p1 20 <|
  lt_ ((f_0_lines_lowY p1.toNatClampNeg) + p3) fun x23 =>
  gI p1 20 <|
  lt_ ((f_0_lines_highX p1.toNatClampNeg) + p2) fun x25 =>
  gI p1 20 <|
  lt_ ((f_0_lines_highY p1.toNatClampNeg) + p3) fun x27 =>
  bd1 (m_Li_someLieAlong p1 x21 x23 x25 x27 v_0_lines_count f_0_lines_lowX f_0_lines_lowY f_0_lines_highX f_0_lines_highY) fun r28 =>
  if r28 = 0 then (
    bd4 (m_Li_put p1 x21 x23 x25 x27 f_0_lines_lowX f_0_lines_lowY f_0_lines_highX f_0_lines_highY) fun f31 f32 f33 f34 =>
    gB 1 <|
    some (Sum.inr (1, 1, f31, f32, f33, f34)))
  else (
    gB 0 <|
    some (Sum.inr (0, v_0_stale, f_0_lines_lowX, f_0_lines_lowY, f_0_lines_highX, f_0_lines_highY)))

set_option maxHeartbeats 4000000 in
set_option maxRecDepth 100000 in
theorem t_Sp_move {p : Program} {l : Launch} {e : Env} {s : State} {m : MethodId} {args : Array Value} {below : List Frame} {meth : Method} {c : Code} {A : Nat → Prop} {dC : Nat → ClassId} {dI : Nat → Nat → Nat} {cI cZ cJ : ClassId} {Qc : Array Value → State → Outcome → State → Prop} {free : Addr → Prop} (a_0 a_0_lines a_0_lines_lowX a_0_lines_lowY a_0_lines_highX a_0_lines_highY b_0_flood b_0_net b_0_loops b_0_common b_0_names b_0_ways b_0_marked b_0_lines_thickness b_0_lines_doors b_0_lines_doorFrom b_0_lines_doorTo : Nat) (r_0_now : Nat) (r_0_before : Nat) (v_0_runs : Int32) (v_0_stale : Int32) (v_0_lines_count : Int32) (f_0_lines_lowX : Nat → Int32) (f_0_lines_lowY : Nat → Int32) (f_0_lines_highX : Nat → Int32) (f_0_lines_highY : Nat → Int32) (p1 : Int32) (p2 : Int32) (p3 : Int32) (Z : Sum Nat (Int32 × (Int32) × (Nat → Int32) × (Nat → Int32) × (Nat → Int32) × (Nat → Int32))) (htr : l.stackTraces = false) (hX : TX A s s.heap) (hout : c.exceptionTable.toList = []) (hlocks : meth.locks = false) (hx : p.tables.exec = Jvm.exec) (hb : c.code = b_Sp_move) (hml : c.maxLocals = 8) (hown : s.vm.findClass "SpaceCycles" = some m.cls) (hts : ∀ w ∈ w_Sp_move, w.before args s = true) (hK : va_K (dC, dI) vwCl [(cI, .int), (cZ, .boolean), (cJ, .long)] s) (hN : NX s) (hA : ∀ q : Nat, s.heap.size ≤ q → A q)
    (hret : ∀ r : Int32, ∀ u : (Int32) × (Nat → Int32) × (Nat → Int32) × (Nat → Int32) × (Nat → Int32), Z = Sum.inr (r, u) → ∀ (pc : Nat) (H : Heap) (locs : List Loc) (ls : Array Slot), decode b_Sp_move pc = .ok (.ireturn, 1) → (r = 0 ∨ r = 1) → va_P (dC, dI) vwCl (wl_Sp_move a_0 a_0_lines a_0_lines_lowX a_0_lines_lowY a_0_lines_highX a_0_lines_highY b_0_flood b_0_net b_0_loops b_0_common b_0_names b_0_ways b_0_marked b_0_lines_thickness b_0_lines_doors b_0_lines_doorFrom b_0_lines_doorTo cI r_0_now r_0_before v_0_runs u.1 v_0_lines_count u.2.1 u.2.2.1 u.2.2.2.1 u.2.2.2.2) H → va_D A (wl_Sp_move a_0 a_0_lines a_0_lines_lowX a_0_lines_lowY a_0_lines_highX a_0_lines_highY b_0_flood b_0_net b_0_loops b_0_common b_0_names b_0_ways b_0_marked b_0_lines_thickness b_0_lines_doors b_0_lines_doorFrom b_0_lines_doorTo cI r_0_now r_0_before v_0_runs u.1 v_0_lines_count u.2.1 u.2.2.1 u.2.2.2.1 u.2.2.2.2) → va_S A s.heap H locs → W p l e rm_Sp_move s m args below meth c H locs 0 0 (XMQ below Qc (fun E => Z = Sum.inl (xk E)) args s free) (F0 m pc ls [.int r]))
    (hm : m_Sp_move p1 p2 p3 v_0_stale v_0_lines_count f_0_lines_lowX f_0_lines_lowY f_0_lines_highX f_0_lines_highY = some Z) (hP : va_P (dC, dI) vwCl (wl_Sp_move a_0 a_0_lines a_0_lines_lowX a_0_lines_lowY a_0_lines_highX a_0_lines_highY b_0_flood b_0_net b_0_loops b_0_common b_0_names b_0_ways b_0_marked b_0_lines_thickness b_0_lines_doors b_0_lines_doorFrom b_0_lines_doorTo cI r_0_now r_0_before v_0_runs v_0_stale v_0_lines_count f_0_lines_lowX f_0_lines_lowY f_0_lines_highX f_0_lines_highY) s.heap) (hD : va_D A (wl_Sp_move a_0 a_0_lines a_0_lines_lowX a_0_lines_lowY a_0_lines_highX a_0_lines_highY b_0_flood b_0_net b_0_loops b_0_common b_0_names b_0_ways b_0_marked b_0_lines_thickness b_0_lines_doors b_0_lines_doorFrom b_0_lines_doorTo cI r_0_now r_0_before v_0_runs v_0_stale v_0_lines_count f_0_lines_lowX f_0_lines_lowY f_0_lines_highX f_0_lines_highY)) (hS : va_S A s.heap s.heap []) : ∀ ls : Array Slot, lv_has ls 8 [(0, .ref a_0), (1, .int p1), (2, .int p2), (3, .int p3)] → W p l e rm_Sp_move s m args below meth c s.heap [] 0 0 (XMQ below Qc (fun E => Z = Sum.inl (xk E)) args s free) (F0 m 0 ls []) := by
  intro ls hl
  unfold m_Sp_move at hm
  refine lv_aload_n hx hb d_Sp_move_0 rfl (lv_at hl 0 rfl) ?_
  refine lv_iload_n hx hb d_Sp_move_1 rfl (lv_at hl 1 rfl) ?_
  obtain ⟨z1, hb2, hz3, hm⟩ := bx0_z hm
  have hPc := hP.sub (ws' := (wl_Sp_needLine a_0 a_0_lines b_0_flood b_0_net b_0_loops b_0_common b_0_names b_0_ways b_0_marked a_0_lines_lowX a_0_lines_lowY a_0_lines_highX a_0_lines_highY b_0_lines_thickness b_0_lines_doors b_0_lines_doorFrom b_0_lines_doorTo r_0_now r_0_before v_0_runs v_0_stale v_0_lines_count)) [0, 1] rfl
  have hDc := hD.sub (ws' := (wl_Sp_needLine a_0 a_0_lines b_0_flood b_0_net b_0_loops b_0_common b_0_names b_0_ways b_0_marked a_0_lines_lowX a_0_lines_lowY a_0_lines_highX a_0_lines_highY b_0_lines_thickness b_0_lines_doors b_0_lines_doorFrom b_0_lines_doorTo r_0_now r_0_before v_0_runs v_0_stale v_0_lines_count)) [0, 1] (by decide) rfl
  have hFc := va_free (wc := (wl_Sp_needLine a_0 a_0_lines b_0_flood b_0_net b_0_loops b_0_common b_0_names b_0_ways b_0_marked a_0_lines_lowX a_0_lines_lowY a_0_lines_highX a_0_lines_highY b_0_lines_thickness b_0_lines_doors b_0_lines_doorFrom b_0_lines_doorTo r_0_now r_0_before v_0_runs v_0_stale v_0_lines_count)) hD hS hA [0, 1] rfl
  refine x_onV (x_runV (As := [.int p1]) (rest := []) ⟨hx, hb, hml, hown, hts⟩ (c_Sp_needLine l htr dC dI (cI := cI) (cZ := cZ) (cJ := cJ) a_0 a_0_lines b_0_flood b_0_net b_0_loops b_0_common b_0_names b_0_ways b_0_marked a_0_lines_lowX a_0_lines_lowY a_0_lines_highX a_0_lines_highY b_0_lines_thickness b_0_lines_doors b_0_lines_doorFrom b_0_lines_doorTo s.heap.size r_0_now r_0_before v_0_runs v_0_stale v_0_lines_count p1 z1 hb2) (cwV 1 hts (gl_V k_499 k_498 k_497 k_207 k_496) rfl rfl rfl (by decide +kernel) ⟨Nat.le_of_ble_eq_true rfl, Nat.le_of_ble_eq_true rfl⟩) ⟨PPX_blind, va_recv hK hPc (ci := 0) (q0 := 0) rfl rfl, fun U hU hW => PPX_at hK hN hX hPc hDc hFc hU hW⟩ rfl rfl hl.1 rfl (lv_room (Nat.le_of_ble_eq_true rfl)) d_Sp_move_2 ⟨Nat.le_of_ble_eq_true rfl, Nat.le_of_ble_eq_true rfl⟩) hout hlocks (fun E hE => hz3 _ hE) (fun hr => ?_)
  replace hm := hm hr
  refine lv_aload_n hx hb d_Sp_move_5 rfl (lv_at hl 0 rfl) ?_
  refine va_get (D := (dC, dI)) (ci := 0) (v := .ref a_0_lines) (C := "SpaceCycles") (T := F_Sp) (N := 12) hx hb hts (in_F i_Sp) hown hK hP 0 rfl rfl 0 (by decide) (hts _ (in_c k_466)) (fun _ h9 => h9) rfl d_Sp_move_6 ?_
  refine va_get (D := (dC, dI)) (ci := 1) (v := .ref a_0_lines_lowX) (C := "SpaceCycles$Lines") (T := F_Li) (N := 9) hx hb hts (in_F i_Li) hown hK hP 1 rfl rfl 0 (by decide) (hts _ (in_c k_500)) (fun _ h9 => h9) rfl d_Sp_move_9 ?_
  refine lv_iload_n hx hb d_Sp_move_12 rfl (lv_at hl 1 rfl) ?_
  obtain ⟨hi4, hm⟩ := gI_e hm
  refine va_iald hx hb hK hP 2 0 rfl rfl hi4 d_Sp_move_13 ?_
  refine lv_i2l hx hb d_Sp_move_14 rfl ?_
  refine lv_iload_n hx hb d_Sp_move_15 rfl (lv_at hl 2 rfl) ?_
  refine lv_i2l hx hb d_Sp_move_16 rfl ?_
  refine lv_ladd hx hb d_Sp_move_17 ?_
  obtain ⟨z5, hb6, hz7, hm⟩ := bx0_z hm
  have hPc := hP.sub (ws' := (wl_Sp_needCoordinate)) [] rfl
  have hDc := hD.sub (ws' := (wl_Sp_needCoordinate)) [] (by decide) rfl
  have hFc := va_free (wc := (wl_Sp_needCoordinate)) hD hS hA [] rfl
  refine x_onV (x_runS (As := [.long ((Int32.toInt64 (f_0_lines_lowX p1.toNatClampNeg)) + (Int32.toInt64 p2))]) (rest := []) ⟨hx, hb, hml, hown, hts⟩ (c_Sp_needCoordinate l htr dC dI (cI := cI) (cZ := cZ) (cJ := cJ) s.heap.size ((Int32.toInt64 (f_0_lines_lowX p1.toNatClampNeg)) + (Int32.toInt64 p2)) z5 hb6) (va_cwS 1 hts (gl_S k_481 k_480 k_207 k_479) rfl rfl rfl (by decide +kernel) ⟨Nat.le_of_ble_eq_true rfl, Nat.le_of_ble_eq_true rfl⟩) ⟨PPX_blind, fun U hU hW => PPX_at hK hN hX hPc hDc hFc hU hW⟩ rfl rfl hl.1 rfl (lv_room (Nat.le_of_ble_eq_true rfl)) d_Sp_move_18 ⟨Nat.le_of_ble_eq_true rfl, Nat.le_of_ble_eq_true rfl⟩) hout hlocks (fun E hE => hz7 _ hE) (fun hr => ?_)
  replace hm := hm hr
  refine lv_aload_n hx hb d_Sp_move_21 rfl (lv_at hl 0 rfl) ?_
  refine va_get (D := (dC, dI)) (ci := 0) (v := .ref a_0_lines) (C := "SpaceCycles") (T := F_Sp) (N := 12) hx hb hts (in_F i_Sp) hown hK hP 0 rfl rfl 0 (by decide) (hts _ (in_c k_466)) (fun _ h9 => h9) rfl d_Sp_move_22 ?_
  refine va_get (D := (dC, dI)) (ci := 1) (v := .ref a_0_lines_lowY) (C := "SpaceCycles$Lines") (T := F_Li) (N := 9) hx hb hts (in_F i_Li) hown hK hP 1 rfl rfl 1 (by decide) (hts _ (in_c k_501)) (fun _ h9 => h9) rfl d_Sp_move_25 ?_
  refine lv_iload_n hx hb d_Sp_move_28 rfl (lv_at hl 1 rfl) ?_
  obtain ⟨hi8, hm⟩ := gI_e hm
  refine va_iald hx hb hK hP 3 0 rfl rfl hi8 d_Sp_move_29 ?_
  refine lv_i2l hx hb d_Sp_move_30 rfl ?_
  refine lv_iload_n hx hb d_Sp_move_31 rfl (lv_at hl 3 rfl) ?_
  refine lv_i2l hx hb d_Sp_move_32 rfl ?_
  refine lv_ladd hx hb d_Sp_move_33 ?_
  obtain ⟨z9, hb10, hz11, hm⟩ := bx0_z hm
  have hPc := hP.sub (ws' := (wl_Sp_needCoordinate)) [] rfl
  have hDc := hD.sub (ws' := (wl_Sp_needCoordinate)) [] (by decide) rfl
  have hFc := va_free (wc := (wl_Sp_needCoordinate)) hD hS hA [] rfl
  refine x_onV (x_runS (As := [.long ((Int32.toInt64 (f_0_lines_lowY p1.toNatClampNeg)) + (Int32.toInt64 p3))]) (rest := []) ⟨hx, hb, hml, hown, hts⟩ (c_Sp_needCoordinate l htr dC dI (cI := cI) (cZ := cZ) (cJ := cJ) s.heap.size ((Int32.toInt64 (f_0_lines_lowY p1.toNatClampNeg)) + (Int32.toInt64 p3)) z9 hb10) (va_cwS 1 hts (gl_S k_481 k_480 k_207 k_479) rfl rfl rfl (by decide +kernel) ⟨Nat.le_of_ble_eq_true rfl, Nat.le_of_ble_eq_true rfl⟩) ⟨PPX_blind, fun U hU hW => PPX_at hK hN hX hPc hDc hFc hU hW⟩ rfl rfl hl.1 rfl (lv_room (Nat.le_of_ble_eq_true rfl)) d_Sp_move_34 ⟨Nat.le_of_ble_eq_true rfl, Nat.le_of_ble_eq_true rfl⟩) hout hlocks (fun E hE => hz11 _ hE) (fun hr => ?_)
  replace hm := hm hr
  refine lv_aload_n hx hb d_Sp_move_37 rfl (lv_at hl 0 rfl) ?_
  refine va_get (D := (dC, dI)) (ci := 0) (v := .ref a_0_lines) (C := "SpaceCycles") (T := F_Sp) (N := 12) hx hb hts (in_F i_Sp) hown hK hP 0 rfl rfl 0 (by decide) (hts _ (in_c k_466)) (fun _ h9 => h9) rfl d_Sp_move_38 ?_
  refine va_get (D := (dC, dI)) (ci := 1) (v := .ref a_0_lines_highX) (C := "SpaceCycles$Lines") (T := F_Li) (N := 9) hx hb hts (in_F i_Li) hown hK hP 1 rfl rfl 2 (by decide) (hts _ (in_c k_502)) (fun _ h9 => h9) rfl d_Sp_move_41 ?_
  refine lv_iload_n hx hb d_Sp_move_44 rfl (lv_at hl 1 rfl) ?_
  obtain ⟨hi12, hm⟩ := gI_e hm
  refine va_iald hx hb hK hP 4 0 rfl rfl hi12 d_Sp_move_45 ?_
  refine lv_i2l hx hb d_Sp_move_46 rfl ?_
  refine lv_iload_n hx hb d_Sp_move_47 rfl (lv_at hl 2 rfl) ?_
  refine lv_i2l hx hb d_Sp_move_48 rfl ?_
  refine lv_ladd hx hb d_Sp_move_49 ?_
  obtain ⟨z13, hb14, hz15, hm⟩ := bx0_z hm
  have hPc := hP.sub (ws' := (wl_Sp_needCoordinate)) [] rfl
  have hDc := hD.sub (ws' := (wl_Sp_needCoordinate)) [] (by decide) rfl
  have hFc := va_free (wc := (wl_Sp_needCoordinate)) hD hS hA [] rfl
  refine x_onV (x_runS (As := [.long ((Int32.toInt64 (f_0_lines_highX p1.toNatClampNeg)) + (Int32.toInt64 p2))]) (rest := []) ⟨hx, hb, hml, hown, hts⟩ (c_Sp_needCoordinate l htr dC dI (cI := cI) (cZ := cZ) (cJ := cJ) s.heap.size ((Int32.toInt64 (f_0_lines_highX p1.toNatClampNeg)) + (Int32.toInt64 p2)) z13 hb14) (va_cwS 1 hts (gl_S k_481 k_480 k_207 k_479) rfl rfl rfl (by decide +kernel) ⟨Nat.le_of_ble_eq_true rfl, Nat.le_of_ble_eq_true rfl⟩) ⟨PPX_blind, fun U hU hW => PPX_at hK hN hX hPc hDc hFc hU hW⟩ rfl rfl hl.1 rfl (lv_room (Nat.le_of_ble_eq_true rfl)) d_Sp_move_50 ⟨Nat.le_of_ble_eq_true rfl, Nat.le_of_ble_eq_true rfl⟩) hout hlocks (fun E hE => hz15 _ hE) (fun hr => ?_)
  replace hm := hm hr
  refine lv_aload_n hx hb d_Sp_move_53 rfl (lv_at hl 0 rfl) ?_
  refine va_get (D := (dC, dI)) (ci := 0) (v := .ref a_0_lines) (C := "SpaceCycles") (T := F_Sp) (N := 12) hx hb hts (in_F i_Sp) hown hK hP 0 rfl rfl 0 (by decide) (hts _ (in_c k_466)) (fun _ h9 => h9) rfl d_Sp_move_54 ?_
  refine va_get (D := (dC, dI)) (ci := 1) (v := .ref a_0_lines_highY) (C := "SpaceCycles$Lines") (T := F_Li) (N := 9) hx hb hts (in_F i_Li) hown hK hP 1 rfl rfl 3 (by decide) (hts _ (in_c k_503)) (fun _ h9 => h9) rfl d_Sp_move_57 ?_
  refine lv_iload_n hx hb d_Sp_move_60 rfl (lv_at hl 1 rfl) ?_
  obtain ⟨hi16, hm⟩ := gI_e hm
  refine va_iald hx hb hK hP 5 0 rfl rfl hi16 d_Sp_move_61 ?_
  refine lv_i2l hx hb d_Sp_move_62 rfl ?_
  refine lv_iload_n hx hb d_Sp_move_63 rfl (lv_at hl 3 rfl) ?_
  refine lv_i2l hx hb d_Sp_move_64 rfl ?_
  refine lv_ladd hx hb d_Sp_move_65 ?_
  obtain ⟨z17, hb18, hz19, hm⟩ := bx0_z hm
  have hPc := hP.sub (ws' := (wl_Sp_needCoordinate)) [] rfl
  have hDc := hD.sub (ws' := (wl_Sp_needCoordinate)) [] (by decide) rfl
  have hFc := va_free (wc := (wl_Sp_needCoordinate)) hD hS hA [] rfl
  refine x_onV (x_runS (As := [.long ((Int32.toInt64 (f_0_lines_highY p1.toNatClampNeg)) + (Int32.toInt64 p3))]) (rest := []) ⟨hx, hb, hml, hown, hts⟩ (c_Sp_needCoordinate l htr dC dI (cI := cI) (cZ := cZ) (cJ := cJ) s.heap.size ((Int32.toInt64 (f_0_lines_highY p1.toNatClampNeg)) + (Int32.toInt64 p3)) z17 hb18) (va_cwS 1 hts (gl_S k_481 k_480 k_207 k_479) rfl rfl rfl (by decide +kernel) ⟨Nat.le_of_ble_eq_true rfl, Nat.le_of_ble_eq_true rfl⟩) ⟨PPX_blind, fun U hU hW => PPX_at hK hN hX hPc hDc hFc hU hW⟩ rfl rfl hl.1 rfl (lv_room (Nat.le_of_ble_eq_true rfl)) d_Sp_move_66 ⟨Nat.le_of_ble_eq_true rfl, Nat.le_of_ble_eq_true rfl⟩) hout hlocks (fun E hE => hz19 _ hE) (fun hr => ?_)
  replace hm := hm hr
  refine lv_aload_n hx hb d_Sp_move_69 rfl (lv_at hl 0 rfl) ?_
  refine va_get (D := (dC, dI)) (ci := 0) (v := .ref a_0_lines) (C := "SpaceCycles") (T := F_Sp) (N := 12) hx hb hts (in_F i_Sp) hown hK hP 0 rfl rfl 0 (by decide) (hts _ (in_c k_466)) (fun _ h9 => h9) rfl d_Sp_move_70 ?_
  refine va_get (D := (dC, dI)) (ci := 1) (v := .ref a_0_lines_lowX) (C := "SpaceCycles$Lines") (T := F_Li) (N := 9) hx hb hts (in_F i_Li) hown hK hP 1 rfl rfl 0 (by decide) (hts _ (in_c k_500)) (fun _ h9 => h9) rfl d_Sp_move_73 ?_
  refine lv_iload_n hx hb d_Sp_move_76 rfl (lv_at hl 1 rfl) ?_
  obtain ⟨hi20, hm⟩ := gI_e hm
  refine va_iald hx hb hK hP 2 0 rfl rfl hi20 d_Sp_move_77 ?_
  refine lv_iload_n hx hb d_Sp_move_78 rfl (lv_at hl 2 rfl) ?_
  refine lv_iadd hx hb d_Sp_move_79 ?_
  refine lv_topi (fun x21 ex21 => ?_)
  replace hm := lt_el hm ex21
  refine lv_istore (lv' := [(4, .int x21), (0, .ref a_0), (1, .int p1), (2, .int p2), (3, .int p3)]) hx hb d_Sp_move_80 hl (by decide) rfl (fun ls hl => ?_)
  refine lv_aload_n hx hb d_Sp_move_82 rfl (lv_at hl 1 rfl) ?_
  refine va_get (D := (dC, dI)) (ci := 0) (v := .ref a_0_lines) (C := "SpaceCycles") (T := F_Sp) (N := 12) hx hb hts (in_F i_Sp) hown hK hP 0 rfl rfl 0 (by decide) (hts _ (in_c k_466)) (fun _ h9 => h9) rfl d_Sp_move_83 ?_
  refine va_get (D := (dC, dI)) (ci := 1) (v := .ref a_0_lines_lowY) (C := "SpaceCycles$Lines") (T := F_Li) (N := 9) hx hb hts (in_F i_Li) hown hK hP 1 rfl rfl 1 (by decide) (hts _ (in_c k_501)) (fun _ h9 => h9) rfl d_Sp_move_86 ?_
  refine lv_iload_n hx hb d_Sp_move_89 rfl (lv_at hl 2 rfl) ?_
  obtain ⟨hi22, hm⟩ := gI_e hm
  refine va_iald hx hb hK hP 3 0 rfl rfl hi22 d_Sp_move_90 ?_
  refine lv_iload_n hx hb d_Sp_move_91 rfl (lv_at hl 4 rfl) ?_
  refine lv_iadd hx hb d_Sp_move_92 ?_
  refine lv_topi (fun x23 ex23 => ?_)
  replace hm := lt_el hm ex23
  refine lv_istore (lv' := [(5, .int x23), (4, .int x21), (0, .ref a_0), (1, .int p1), (2, .int p2), (3, .int p3)]) hx hb d_Sp_move_93 hl (by decide) rfl (fun ls hl => ?_)
  refine lv_aload_n hx hb d_Sp_move_95 rfl (lv_at hl 2 rfl) ?_
  refine va_get (D := (dC, dI)) (ci := 0) (v := .ref a_0_lines) (C := "SpaceCycles") (T := F_Sp) (N := 12) hx hb hts (in_F i_Sp) hown hK hP 0 rfl rfl 0 (by decide) (hts _ (in_c k_466)) (fun _ h9 => h9) rfl d_Sp_move_96 ?_
  refine va_get (D := (dC, dI)) (ci := 1) (v := .ref a_0_lines_highX) (C := "SpaceCycles$Lines") (T := F_Li) (N := 9) hx hb hts (in_F i_Li) hown hK hP 1 rfl rfl 2 (by decide) (hts _ (in_c k_502)) (fun _ h9 => h9) rfl d_Sp_move_99 ?_
  refine lv_iload_n hx hb d_Sp_move_102 rfl (lv_at hl 3 rfl) ?_
  obtain ⟨hi24, hm⟩ := gI_e hm
  refine va_iald hx hb hK hP 4 0 rfl rfl hi24 d_Sp_move_103 ?_
  refine lv_iload_n hx hb d_Sp_move_104 rfl (lv_at hl 4 rfl) ?_
  refine lv_iadd hx hb d_Sp_move_105 ?_
  refine lv_topi (fun x25 ex25 => ?_)
  replace hm := lt_el hm ex25
  refine lv_istore (lv' := [(6, .int x25), (5, .int x23), (4, .int x21), (0, .ref a_0), (1, .int p1), (2, .int p2), (3, .int p3)]) hx hb d_Sp_move_106 hl (by decide) rfl (fun ls hl => ?_)
  refine lv_aload_n hx hb d_Sp_move_108 rfl (lv_at hl 3 rfl) ?_
  refine va_get (D := (dC, dI)) (ci := 0) (v := .ref a_0_lines) (C := "SpaceCycles") (T := F_Sp) (N := 12) hx hb hts (in_F i_Sp) hown hK hP 0 rfl rfl 0 (by decide) (hts _ (in_c k_466)) (fun _ h9 => h9) rfl d_Sp_move_109 ?_
  refine va_get (D := (dC, dI)) (ci := 1) (v := .ref a_0_lines_highY) (C := "SpaceCycles$Lines") (T := F_Li) (N := 9) hx hb hts (in_F i_Li) hown hK hP 1 rfl rfl 3 (by decide) (hts _ (in_c k_503)) (fun _ h9 => h9) rfl d_Sp_move_112 ?_
  refine lv_iload_n hx hb d_Sp_move_115 rfl (lv_at hl 4 rfl) ?_
  obtain ⟨hi26, hm⟩ := gI_e hm
  refine va_iald hx hb hK hP 5 0 rfl rfl hi26 d_Sp_move_116 ?_
  refine lv_iload_n hx hb d_Sp_move_117 rfl (lv_at hl 6 rfl) ?_
  refine lv_iadd hx hb d_Sp_move_118 ?_
  refine lv_topi (fun x27 ex27 => ?_)
  replace hm := lt_el hm ex27
  refine lv_istore (lv' := [(7, .int x27), (6, .int x25), (5, .int x23), (4, .int x21), (0, .ref a_0), (1, .int p1), (2, .int p2), (3, .int p3)]) hx hb d_Sp_move_119 hl (by decide) rfl (fun ls hl => ?_)
  refine lv_aload_n hx hb d_Sp_move_121 rfl (lv_at hl 4 rfl) ?_
  refine va_get (D := (dC, dI)) (ci := 0) (v := .ref a_0_lines) (C := "SpaceCycles") (T := F_Sp) (N := 12) hx hb hts (in_F i_Sp) hown hK hP 0 rfl rfl 0 (by decide) (hts _ (in_c k_466)) (fun _ h9 => h9) rfl d_Sp_move_122 ?_
  refine lv_iload_n hx hb d_Sp_move_125 rfl (lv_at hl 5 rfl) ?_
  refine lv_iload hx hb d_Sp_move_126 (lv_at hl 3 rfl) ?_
  refine lv_iload hx hb d_Sp_move_128 (lv_at hl 2 rfl) ?_
  refine lv_iload hx hb d_Sp_move_130 (lv_at hl 1 rfl) ?_
  refine lv_iload hx hb d_Sp_move_132 (lv_at hl 0 rfl) ?_
  obtain ⟨r28, hb29, hm⟩ := bd1_e hm
  have hPc := hP.sub (ws' := (wl_Li_someLieAlong a_0_lines a_0_lines_lowX a_0_lines_lowY a_0_lines_highX a_0_lines_highY b_0_lines_thickness b_0_lines_doors b_0_lines_doorFrom b_0_lines_doorTo cI v_0_lines_count f_0_lines_lowX f_0_lines_lowY f_0_lines_highX f_0_lines_highY)) [1, 2, 3, 4, 5] rfl
  have hDc := hD.sub (ws' := (wl_Li_someLieAlong a_0_lines a_0_lines_lowX a_0_lines_lowY a_0_lines_highX a_0_lines_highY b_0_lines_thickness b_0_lines_doors b_0_lines_doorFrom b_0_lines_doorTo cI v_0_lines_count f_0_lines_lowX f_0_lines_lowY f_0_lines_highX f_0_lines_highY)) [1, 2, 3, 4, 5] (by decide) rfl
  refine cl_i (wc' := (wl_Li_someLieAlong a_0_lines a_0_lines_lowX a_0_lines_lowY a_0_lines_highX a_0_lines_highY b_0_lines_thickness b_0_lines_doors b_0_lines_doorFrom b_0_lines_doorTo cI v_0_lines_count f_0_lines_lowX f_0_lines_lowY f_0_lines_highX f_0_lines_highY)) (va_runV (As := [.int p1, .int x21, .int x23, .int x25, .int x27]) (rest := []) ⟨hx, hb, hml, hown, hts⟩ (c_Li_someLieAlong l dC dI (cI := cI) (cZ := cZ) (cJ := cJ) a_0_lines a_0_lines_lowX a_0_lines_lowY a_0_lines_highX a_0_lines_highY b_0_lines_thickness b_0_lines_doors b_0_lines_doorFrom b_0_lines_doorTo s.heap.size v_0_lines_count f_0_lines_lowX f_0_lines_lowY f_0_lines_highX f_0_lines_highY p1 x21 x23 x25 x27 r28 hb29) (cwV 5 hts (gl_V k_490 k_489 k_488 k_30 k_487) rfl rfl rfl (by decide +kernel) ⟨Nat.le_of_ble_eq_true rfl, Nat.le_of_ble_eq_true rfl⟩) ⟨PP_blind, va_recv hK hPc (ci := 1) (q0 := 0) rfl rfl, fun U hU hW => PP_at hK hN hPc hDc hU hW⟩ rfl rfl hl.1 rfl (lv_room (Nat.le_of_ble_eq_true rfl)) d_Sp_move_134 ⟨Nat.zero_le _, Nat.zero_le _⟩) hP hD hS hA [1, 2, 3, 4, 5] [0] rfl rfl (by decide) (by decide) (fun H locs hP hD hS => ?_)
  have hP : va_P (dC, dI) vwCl (wl_Sp_move a_0 a_0_lines a_0_lines_lowX a_0_lines_lowY a_0_lines_highX a_0_lines_highY b_0_flood b_0_net b_0_loops b_0_common b_0_names b_0_ways b_0_marked b_0_lines_thickness b_0_lines_doors b_0_lines_doorFrom b_0_lines_doorTo cI r_0_now r_0_before v_0_runs v_0_stale v_0_lines_count f_0_lines_lowX f_0_lines_lowY f_0_lines_highX f_0_lines_highY) H := hP.sub [0, 1, 2, 3, 4, 5] rfl
  have hD : va_D A (wl_Sp_move a_0 a_0_lines a_0_lines_lowX a_0_lines_lowY a_0_lines_highX a_0_lines_highY b_0_flood b_0_net b_0_loops b_0_common b_0_names b_0_ways b_0_marked b_0_lines_thickness b_0_lines_doors b_0_lines_doorFrom b_0_lines_doorTo cI r_0_now r_0_before v_0_runs v_0_stale v_0_lines_count f_0_lines_lowX f_0_lines_lowY f_0_lines_highX f_0_lines_highY) := hD.sub [0, 1, 2, 3, 4, 5] (by decide) rfl
  refine lv_if_eq (tgt := 142) hx hb d_Sp_move_137 (by decide) (fun c30 => ?_) (fun c30 => ?_)
  · replace hm := if_t hm c30
    refine lv_aload_n hx hb d_Sp_move_142 rfl (lv_at hl 4 rfl) ?_
    refine va_get (D := (dC, dI)) (ci := 0) (v := .ref a_0_lines) (C := "SpaceCycles") (T := F_Sp) (N := 12) hx hb hts (in_F i_Sp) hown hK hP 0 rfl rfl 0 (by decide) (hts _ (in_c k_466)) (fun _ h9 => h9) rfl d_Sp_move_143 ?_
    refine lv_iload_n hx hb d_Sp_move_146 rfl (lv_at hl 5 rfl) ?_
    refine lv_iload hx hb d_Sp_move_147 (lv_at hl 3 rfl) ?_
    refine lv_iload hx hb d_Sp_move_149 (lv_at hl 2 rfl) ?_
    refine lv_iload hx hb d_Sp_move_151 (lv_at hl 1 rfl) ?_
    refine lv_iload hx hb d_Sp_move_153 (lv_at hl 0 rfl) ?_
    obtain ⟨f31, f32, f33, f34, hb35, hm⟩ := bd4_e hm
    have hPc := hP.sub (ws' := (wl_Li_put a_0_lines a_0_lines_lowX a_0_lines_lowY a_0_lines_highX a_0_lines_highY b_0_lines_thickness b_0_lines_doors b_0_lines_doorFrom b_0_lines_doorTo cI v_0_lines_count f_0_lines_lowX f_0_lines_lowY f_0_lines_highX f_0_lines_highY)) [1, 2, 3, 4, 5] rfl
    have hDc := hD.sub (ws' := (wl_Li_put a_0_lines a_0_lines_lowX a_0_lines_lowY a_0_lines_highX a_0_lines_highY b_0_lines_thickness b_0_lines_doors b_0_lines_doorFrom b_0_lines_doorTo cI v_0_lines_count f_0_lines_lowX f_0_lines_lowY f_0_lines_highX f_0_lines_highY)) [1, 2, 3, 4, 5] (by decide) rfl
    refine cl_v (wc' := (wl_Li_put a_0_lines a_0_lines_lowX a_0_lines_lowY a_0_lines_highX a_0_lines_highY b_0_lines_thickness b_0_lines_doors b_0_lines_doorFrom b_0_lines_doorTo cI v_0_lines_count f31 f32 f33 f34)) (va_runV (As := [.int p1, .int x21, .int x23, .int x25, .int x27]) (rest := []) ⟨hx, hb, hml, hown, hts⟩ (c_Li_put l dC dI (cI := cI) (cZ := cZ) (cJ := cJ) a_0_lines a_0_lines_lowX a_0_lines_lowY a_0_lines_highX a_0_lines_highY b_0_lines_thickness b_0_lines_doors b_0_lines_doorFrom b_0_lines_doorTo H.size v_0_lines_count f_0_lines_lowX f_0_lines_lowY f_0_lines_highX f_0_lines_highY p1 x21 x23 x25 x27 f31 f32 f33 f34 hb35) (cwV 5 hts (gl_V k_494 k_493 k_492 k_30 k_491) rfl rfl rfl (by decide +kernel) ⟨Nat.le_of_ble_eq_true rfl, Nat.le_of_ble_eq_true rfl⟩) ⟨PP_blind, va_recv hK hPc (ci := 1) (q0 := 0) rfl rfl, fun U hU hW => PP_at hK hN hPc hDc hU hW⟩ rfl rfl hl.1 rfl (lv_room (Nat.le_of_ble_eq_true rfl)) d_Sp_move_155 ⟨Nat.zero_le _, Nat.zero_le _⟩) hP hD hS hA [1, 2, 3, 4, 5] [0] rfl rfl (by decide) (by decide) (fun H locs hP hD hS => ?_)
    have hP : va_P (dC, dI) vwCl (wl_Sp_move a_0 a_0_lines a_0_lines_lowX a_0_lines_lowY a_0_lines_highX a_0_lines_highY b_0_flood b_0_net b_0_loops b_0_common b_0_names b_0_ways b_0_marked b_0_lines_thickness b_0_lines_doors b_0_lines_doorFrom b_0_lines_doorTo cI r_0_now r_0_before v_0_runs v_0_stale v_0_lines_count f31 f32 f33 f34) H := hP.sub [0, 1, 2, 3, 4, 5] rfl
    have hD : va_D A (wl_Sp_move a_0 a_0_lines a_0_lines_lowX a_0_lines_lowY a_0_lines_highX a_0_lines_highY b_0_flood b_0_net b_0_loops b_0_common b_0_names b_0_ways b_0_marked b_0_lines_thickness b_0_lines_doors b_0_lines_doorFrom b_0_lines_doorTo cI r_0_now r_0_before v_0_runs v_0_stale v_0_lines_count f31 f32 f33 f34) := hD.sub [0, 1, 2, 3, 4, 5] (by decide) rfl
    refine lv_aload_n hx hb d_Sp_move_158 rfl (lv_at hl 4 rfl) ?_
    refine lv_iconst (v := 1) hx hb d_Sp_move_159 (by decide) ?_
    refine va_put (D := (dC, dI)) (ci := 0) (v := .int 1) (ty := .boolean) (C := "SpaceCycles") (T := F_Sp) (N := 12) hx hb hts (in_F i_Sp) t_Sp t_Sp_ok n_Sp hown hK hP hD hS 0 rfl rfl 11 (by decide) (hts _ (in_c k_468)) (fun _ h9 => h9) rfl (by decide +kernel) rfl rfl (Nat.le_of_ble_eq_true rfl) d_Sp_move_160 (fun H locs hP hD hS => ?_)
    have hP : va_P (dC, dI) vwCl (wl_Sp_move a_0 a_0_lines a_0_lines_lowX a_0_lines_lowY a_0_lines_highX a_0_lines_highY b_0_flood b_0_net b_0_loops b_0_common b_0_names b_0_ways b_0_marked b_0_lines_thickness b_0_lines_doors b_0_lines_doorFrom b_0_lines_doorTo cI r_0_now r_0_before v_0_runs 1 v_0_lines_count f31 f32 f33 f34) H := hP
    have hD : va_D A (wl_Sp_move a_0 a_0_lines a_0_lines_lowX a_0_lines_lowY a_0_lines_highX a_0_lines_highY b_0_flood b_0_net b_0_loops b_0_common b_0_names b_0_ways b_0_marked b_0_lines_thickness b_0_lines_doors b_0_lines_doorFrom b_0_lines_doorTo cI r_0_now r_0_before v_0_runs 1 v_0_lines_count f31 f32 f33 f34) := hD
    refine lv_iconst (v := 1) hx hb d_Sp_move_163 (by decide) ?_
    obtain ⟨hB, hm⟩ := gB_e hm
    cases hm
    exact hret _ _ rfl _ H locs ls d_Sp_move_164 hB hP hD hS
  · replace hm := if_f hm c30
    refine lv_iconst (v := 0) hx hb d_Sp_move_140 (by decide) ?_
    obtain ⟨hB, hm⟩ := gB_e hm
    cases hm
    exact hret _ _ rfl _ H locs ls d_Sp_move_141 hB hP hD hS
set_option maxHeartbeats 4000000 in
set_option maxRecDepth 100000 in
theorem c_Sp_move (l : Launch) (htr : l.stackTraces = false) (dC : Nat → ClassId) (dI : Nat → Nat → Nat) {cI cZ cJ : ClassId} (a_0 a_0_lines a_0_lines_lowX a_0_lines_lowY a_0_lines_highX a_0_lines_highY b_0_flood b_0_net b_0_loops b_0_common b_0_names b_0_ways b_0_marked b_0_lines_thickness b_0_lines_doors b_0_lines_doorFrom b_0_lines_doorTo : Nat) (sz : Nat) (r_0_now : Nat) (r_0_before : Nat) (v_0_runs : Int32) (v_0_stale : Int32) (v_0_lines_count : Int32) (f_0_lines_lowX : Nat → Int32) (f_0_lines_lowY : Nat → Int32) (f_0_lines_highX : Nat → Int32) (f_0_lines_highY : Nat → Int32) (p1 : Int32) (p2 : Int32) (p3 : Int32) (Z : Sum Nat (Int32 × (Int32) × (Nat → Int32) × (Nat → Int32) × (Nat → Int32) × (Nat → Int32))) (hm : m_Sp_move p1 p2 p3 v_0_stale v_0_lines_count f_0_lines_lowX f_0_lines_lowY f_0_lines_highX f_0_lines_highY = some Z) : XMet l y_Sp_move w_Sp_move rm_Sp_move (PPX dC dI [(cI, .int), (cZ, .boolean), (cJ, .long)] [.ref a_0, .int p1, .int p2, .int p3] sz (wl_Sp_move a_0 a_0_lines a_0_lines_lowX a_0_lines_lowY a_0_lines_highX a_0_lines_highY b_0_flood b_0_net b_0_loops b_0_common b_0_names b_0_ways b_0_marked b_0_lines_thickness b_0_lines_doors b_0_lines_doorFrom b_0_lines_doorTo cI r_0_now r_0_before v_0_runs v_0_stale v_0_lines_count f_0_lines_lowX f_0_lines_lowY f_0_lines_highX f_0_lines_highY)) (va_Qi (fun (r : Int32) (u : (Int32) × (Nat → Int32) × (Nat → Int32) × (Nat → Int32) × (Nat → Int32)) => Z = Sum.inr (r, u)) (fun u t => BB dC dI [(cI, .int), (cZ, .boolean), (cJ, .long)] (va_A (wl_Sp_move a_0 a_0_lines a_0_lines_lowX a_0_lines_lowY a_0_lines_highX a_0_lines_highY b_0_flood b_0_net b_0_loops b_0_common b_0_names b_0_ways b_0_marked b_0_lines_thickness b_0_lines_doors b_0_lines_doorFrom b_0_lines_doorTo cI r_0_now r_0_before v_0_runs v_0_stale v_0_lines_count f_0_lines_lowX f_0_lines_lowY f_0_lines_highX f_0_lines_highY) sz) (wl_Sp_move a_0 a_0_lines a_0_lines_lowX a_0_lines_lowY a_0_lines_highX a_0_lines_highY b_0_flood b_0_net b_0_loops b_0_common b_0_names b_0_ways b_0_marked b_0_lines_thickness b_0_lines_doors b_0_lines_doorFrom b_0_lines_doorTo cI r_0_now r_0_before v_0_runs u.1 v_0_lines_count u.2.1 u.2.2.1 u.2.2.2.1 u.2.2.2.2) () t) (va_A (wl_Sp_move a_0 a_0_lines a_0_lines_lowX a_0_lines_lowY a_0_lines_highX a_0_lines_highY b_0_flood b_0_net b_0_loops b_0_common b_0_names b_0_ways b_0_marked b_0_lines_thickness b_0_lines_doors b_0_lines_doorFrom b_0_lines_doorTo cI r_0_now r_0_before v_0_runs v_0_stale v_0_lines_count f_0_lines_lowX f_0_lines_lowY f_0_lines_highX f_0_lines_highY) sz)) (fun E => Z = Sum.inl (xk E)) (va_A (wl_Sp_move a_0 a_0_lines a_0_lines_lowX a_0_lines_lowY a_0_lines_highX a_0_lines_highY b_0_flood b_0_net b_0_loops b_0_common b_0_names b_0_ways b_0_marked b_0_lines_thickness b_0_lines_doors b_0_lines_doorFrom b_0_lines_doorTo cI r_0_now r_0_before v_0_runs v_0_stale v_0_lines_count f_0_lines_lowX f_0_lines_lowY f_0_lines_highX f_0_lines_highY) sz) := by
  refine XMet.ofW (cc := b_Sp_move) (maxL := 8) (ret := (some .boolean)) (by decide) rfl ?_
  intro p e s m args below meth c s₁ B hml hout hv
  obtain ⟨rfl, hsz, hP, hK, hD0, hN, hX⟩ := hv
  subst hsz
  have hl := lv_entry ([.ref a_0, .int p1, .int p2, .int p3]) (n := 8) (Nat.le_of_ble_eq_true rfl)
  rw [lg_entry_eq]
  generalize (lg_sl ([.ref a_0, .int p1, .int p2, .int p3]) ++ List.replicate (8 - (lg_sl ([.ref a_0, .int p1, .int p2, .int p3])).length) Slot.unset).toArray = ls at hl ⊢
  exact t_Sp_move (A := va_A (wl_Sp_move a_0 a_0_lines a_0_lines_lowX a_0_lines_lowY a_0_lines_highX a_0_lines_highY b_0_flood b_0_net b_0_loops b_0_common b_0_names b_0_ways b_0_marked b_0_lines_thickness b_0_lines_doors b_0_lines_doorFrom b_0_lines_doorTo cI r_0_now r_0_before v_0_runs v_0_stale v_0_lines_count f_0_lines_lowX f_0_lines_lowY f_0_lines_highX f_0_lines_highY) s.heap.size) a_0 a_0_lines a_0_lines_lowX a_0_lines_lowY a_0_lines_highX a_0_lines_highY b_0_flood b_0_net b_0_loops b_0_common b_0_names b_0_ways b_0_marked b_0_lines_thickness b_0_lines_doors b_0_lines_doorFrom b_0_lines_doorTo r_0_now r_0_before v_0_runs v_0_stale v_0_lines_count f_0_lines_lowX f_0_lines_lowY f_0_lines_highX f_0_lines_highY p1 p2 p3 Z htr hX hout B.notSynchronized B.exec B.bytes hml (findClass_of_methodNamed B.named) (atoms_spec (ws := w_Sp_move) B.pre) hK hN (fun q h => Or.inr h) (fun r u hz pc H locs ls hd hzb hP9 hD9 hS => x_ret (W.zret B.exec B.bytes B.returns (nar_b hzb) (fun t ht hW => ⟨⟨r, u, rfl, hz, by rw [ht]; exact hP9, va_K.moved hW.alike hK, hD9⟩, hS.F ht⟩) hS.2.2 hd)) hm hP hD0.self va_S.rf ls hl

theorem k_504 : ((.code ⟨"SpaceCycles$Lines", "length", "(I)I"⟩ prog_6_method_4_code 2 (some .int)) : Cond) ∈ gl := gl_i 499 (by decide +kernel) (by decide +kernel)
theorem k_505 : ((.selects "SpaceCycles$Lines" ⟨"SpaceCycles$Lines", "length", "(I)I"⟩ ⟨"SpaceCycles$Lines", "length", "(I)I"⟩) : Cond) ∈ gl := gl_i 498 (by decide +kernel) (by decide +kernel)
theorem k_506 : ((.instanceMethod ⟨"SpaceCycles$Lines", "length", "(I)I"⟩) : Cond) ∈ gl := gl_i 497 (by decide +kernel) (by decide +kernel)
theorem k_507 : ((.methodLink "SpaceCycles" 142 ⟨"SpaceCycles$Lines", "length", "(I)I"⟩) : Cond) ∈ gl := gl_i 496 (by decide +kernel) (by decide +kernel)
theorem k_508 : ((.fieldLink "SpaceCycles" 148 "SpaceCycles$Lines" "doors" "[I") : Cond) ∈ gl := gl_i 69 (by decide +kernel) (by decide +kernel)
theorem k_509 : ((.code ⟨"SpaceCycles$Lines", "addDoor", "(III)I"⟩ prog_6_method_7_code 5 (some .int)) : Cond) ∈ gl := gl_i 505 (by decide +kernel) (by decide +kernel)
theorem k_510 : ((.selects "SpaceCycles$Lines" ⟨"SpaceCycles$Lines", "addDoor", "(III)I"⟩ ⟨"SpaceCycles$Lines", "addDoor", "(III)I"⟩) : Cond) ∈ gl := gl_i 504 (by decide +kernel) (by decide +kernel)
theorem k_511 : ((.instanceMethod ⟨"SpaceCycles$Lines", "addDoor", "(III)I"⟩) : Cond) ∈ gl := gl_i 503 (by decide +kernel) (by decide +kernel)
theorem k_512 : ((.methodLink "SpaceCycles" 153 ⟨"SpaceCycles$Lines", "addDoor", "(III)I"⟩) : Cond) ∈ gl := gl_i 502 (by decide +kernel) (by decide +kernel)
-- SpaceCycles.door(III)I: may throw
abbrev b_Sp_door : ByteArray := prog_1_method_4_code
abbrev y_Sp_door : MethodName := ⟨"SpaceCycles", "door", "(III)I"⟩
abbrev w_Sp_door : List Cond := Cond.code y_Sp_door b_Sp_door 4 (some .int) :: gl
abbrev rm_Sp_door : Room := { frames := 9, cells := 1, slots := 6, locals := 222 }
theorem d_Sp_door_0 : decode b_Sp_door 0 = .ok (.aload_n 0, 1) := by decide +kernel
theorem d_Sp_door_1 : decode b_Sp_door 1 = .ok (.iload_n 1, 1) := by decide +kernel
theorem d_Sp_door_2 : decode b_Sp_door 2 = .ok (.invokevirtual 126, 3) := by decide +kernel
theorem d_Sp_door_5 : decode b_Sp_door 5 = .ok (.iload_n 2, 1) := by decide +kernel
theorem d_Sp_door_6 : decode b_Sp_door 6 = .ok (.iconst 0, 1) := by decide +kernel
theorem d_Sp_door_7 : decode b_Sp_door 7 = .ok (.aload_n 0, 1) := by decide +kernel
theorem d_Sp_door_8 : decode b_Sp_door 8 = .ok (.getfield 12, 3) := by decide +kernel
theorem d_Sp_door_11 : decode b_Sp_door 11 = .ok (.iload_n 1, 1) := by decide +kernel
theorem d_Sp_door_12 : decode b_Sp_door 12 = .ok (.invokevirtual 142, 3) := by decide +kernel
theorem d_Sp_door_15 : decode b_Sp_door 15 = .ok (.invokestatic 84, 3) := by decide +kernel
theorem d_Sp_door_18 : decode b_Sp_door 18 = .ok (.iload_n 3, 1) := by decide +kernel
theorem d_Sp_door_19 : decode b_Sp_door 19 = .ok (.iconst 0, 1) := by decide +kernel
theorem d_Sp_door_20 : decode b_Sp_door 20 = .ok (.aload_n 0, 1) := by decide +kernel
theorem d_Sp_door_21 : decode b_Sp_door 21 = .ok (.getfield 12, 3) := by decide +kernel
theorem d_Sp_door_24 : decode b_Sp_door 24 = .ok (.iload_n 1, 1) := by decide +kernel
theorem d_Sp_door_25 : decode b_Sp_door 25 = .ok (.invokevirtual 142, 3) := by decide +kernel
theorem d_Sp_door_28 : decode b_Sp_door 28 = .ok (.invokestatic 84, 3) := by decide +kernel
theorem d_Sp_door_31 : decode b_Sp_door 31 = .ok (.iload_n 2, 1) := by decide +kernel
theorem d_Sp_door_32 : decode b_Sp_door 32 = .ok (.iload_n 3, 1) := by decide +kernel
theorem d_Sp_door_33 : decode b_Sp_door 33 = .ok (.if_icmp .lt 13, 3) := by decide +kernel
theorem d_Sp_door_36 : decode b_Sp_door 36 = .ok (.new 88, 3) := by decide +kernel
theorem d_Sp_door_39 : decode b_Sp_door 39 = .ok (.dup, 1) := by decide +kernel
theorem d_Sp_door_40 : decode b_Sp_door 40 = .ok (.ldc 146, 2) := by decide +kernel
theorem d_Sp_door_42 : decode b_Sp_door 42 = .ok (.invokespecial 92, 3) := by decide +kernel
theorem d_Sp_door_45 : decode b_Sp_door 45 = .ok (.athrow, 1) := by decide +kernel
theorem d_Sp_door_46 : decode b_Sp_door 46 = .ok (.aload_n 0, 1) := by decide +kernel
theorem d_Sp_door_47 : decode b_Sp_door 47 = .ok (.getfield 12, 3) := by decide +kernel
theorem d_Sp_door_50 : decode b_Sp_door 50 = .ok (.getfield 148, 3) := by decide +kernel
theorem d_Sp_door_53 : decode b_Sp_door 53 = .ok (.iload_n 1, 1) := by decide +kernel
theorem d_Sp_door_54 : decode b_Sp_door 54 = .ok (.iaload, 1) := by decide +kernel
theorem d_Sp_door_55 : decode b_Sp_door 55 = .ok (.bipush 6, 2) := by decide +kernel
theorem d_Sp_door_57 : decode b_Sp_door 57 = .ok (.if_icmp .lt 13, 3) := by decide +kernel
theorem d_Sp_door_60 : decode b_Sp_door 60 = .ok (.new 100, 3) := by decide +kernel
theorem d_Sp_door_63 : decode b_Sp_door 63 = .ok (.dup, 1) := by decide +kernel
theorem d_Sp_door_64 : decode b_Sp_door 64 = .ok (.ldc 151, 2) := by decide +kernel
theorem d_Sp_door_66 : decode b_Sp_door 66 = .ok (.invokespecial 104, 3) := by decide +kernel
theorem d_Sp_door_69 : decode b_Sp_door 69 = .ok (.athrow, 1) := by decide +kernel
theorem d_Sp_door_70 : decode b_Sp_door 70 = .ok (.aload_n 0, 1) := by decide +kernel
theorem d_Sp_door_71 : decode b_Sp_door 71 = .ok (.getfield 12, 3) := by decide +kernel
theorem d_Sp_door_74 : decode b_Sp_door 74 = .ok (.iload_n 1, 1) := by decide +kernel
theorem d_Sp_door_75 : decode b_Sp_door 75 = .ok (.iload_n 2, 1) := by decide +kernel
theorem d_Sp_door_76 : decode b_Sp_door 76 = .ok (.iload_n 3, 1) := by decide +kernel
theorem d_Sp_door_77 : decode b_Sp_door 77 = .ok (.invokevirtual 153, 3) := by decide +kernel
theorem d_Sp_door_80 : decode b_Sp_door 80 = .ok (.ireturn, 1) := by decide +kernel
abbrev wl_Sp_door (a_0 : Nat) (a_0_lines : Nat) (a_0_lines_lowX : Nat) (a_0_lines_lowY : Nat) (a_0_lines_highX : Nat) (a_0_lines_highY : Nat) (a_0_lines_doors : Nat) (a_0_lines_doorFrom : Nat) (a_0_lines_doorTo : Nat) (b_0_flood : Nat) (b_0_net : Nat) (b_0_loops : Nat) (b_0_common : Nat) (b_0_names : Nat) (b_0_ways : Nat) (b_0_marked : Nat) (b_0_lines_thickness : Nat) (cI : ClassId) (r_0_now : Nat) (r_0_before : Nat) (v_0_runs : Int32) (v_0_stale : Int32) (v_0_lines_count : Int32) (f_0_lines_lowX : Nat → Int32) (f_0_lines_lowY : Nat → Int32) (f_0_lines_highX : Nat → Int32) (f_0_lines_highY : Nat → Int32) (f_0_lines_doors : Nat → Int32) (f_0_lines_doorFrom : Nat → Int32) (f_0_lines_doorTo : Nat → Int32) : va_W := [(a_0, .inr (0, [.ref a_0_lines, .ref b_0_flood, .ref b_0_net, .ref b_0_loops, .ref b_0_common, .ref b_0_names, .ref b_0_ways, .ref b_0_marked, .ref r_0_now, .ref r_0_before, .int v_0_runs, .int v_0_stale])), (a_0_lines, .inr (1, [.ref a_0_lines_lowX, .ref a_0_lines_lowY, .ref a_0_lines_highX, .ref a_0_lines_highY, .ref b_0_lines_thickness, .ref a_0_lines_doors, .ref a_0_lines_doorFrom, .ref a_0_lines_doorTo, .int v_0_lines_count])), (a_0_lines_lowX, .inl (cI, 20, .inl f_0_lines_lowX)), (a_0_lines_lowY, .inl (cI, 20, .inl f_0_lines_lowY)), (a_0_lines_highX, .inl (cI, 20, .inl f_0_lines_highX)), (a_0_lines_highY, .inl (cI, 20, .inl f_0_lines_highY)), (a_0_lines_doors, .inl (cI, 20, .inl f_0_lines_doors)), (a_0_lines_doorFrom, .inl (cI, 120, .inl f_0_lines_doorFrom)), (a_0_lines_doorTo, .inl (cI, 120, .inl f_0_lines_doorTo))]
def m_Sp_door (p1 : Int32) (p2 : Int32) (p3 : Int32) (v_0_lines_count : Int32) (f_0_lines_lowX : Nat → Int32) (f_0_lines_lowY : Nat → Int32) (f_0_lines_highX : Nat → Int32) (f_0_lines_highY : Nat → Int32) (f_0_lines_doors : Nat → Int32) (f_0_lines_doorFrom : Nat → Int32) (f_0_lines_doorTo : Nat → Int32) : Option (Sum Nat (Int32 × (Nat → Int32) × (Nat → Int32) × (Nat → Int32))) :=
  bx0 (m_Sp_needLine p1 v_0_lines_count) <|
  bd1 (m_Li_length p1 f_0_lines_lowX f_0_lines_lowY f_0_lines_highX f_0_lines_highY) fun r4 =>
  bx0 (m_Sp_needBetween p2 0 r4) <|
  bd1 (m_Li_length p1 f_0_lines_lowX f_0_lines_lowY f_0_lines_highX f_0_lines_highY) fun r9 =>
  bx0 (m_Sp_needBetween p3 0 r9) <|
  if p2 < p3 then (
    gI p1 20 <|
    if (f_0_lines_doors p1.toNatClampNeg) < 6 then (
      bd4 (m_Li_addDoor p1 p2 p3 f_0_lines_doors f_0_lines_doorFrom f_0_lines_doorTo) fun r17 f18 f19 f20 =>
      some (Sum.inr (r17, f18, f19, f20)))
    else (
      some (Sum.inl 2)))
  else (
    some (Sum.inl 1))

set_option maxHeartbeats 4000000 in
set_option maxRecDepth 100000 in
theorem t_Sp_door {p : Program} {l : Launch} {e : Env} {s : State} {m : MethodId} {args : Array Value} {below : List Frame} {meth : Method} {c : Code} {A : Nat → Prop} {dC : Nat → ClassId} {dI : Nat → Nat → Nat} {cI cZ cJ : ClassId} {Qc : Array Value → State → Outcome → State → Prop} {free : Addr → Prop} (a_0 a_0_lines a_0_lines_lowX a_0_lines_lowY a_0_lines_highX a_0_lines_highY a_0_lines_doors a_0_lines_doorFrom a_0_lines_doorTo b_0_flood b_0_net b_0_loops b_0_common b_0_names b_0_ways b_0_marked b_0_lines_thickness : Nat) (r_0_now : Nat) (r_0_before : Nat) (v_0_runs : Int32) (v_0_stale : Int32) (v_0_lines_count : Int32) (f_0_lines_lowX : Nat → Int32) (f_0_lines_lowY : Nat → Int32) (f_0_lines_highX : Nat → Int32) (f_0_lines_highY : Nat → Int32) (f_0_lines_doors : Nat → Int32) (f_0_lines_doorFrom : Nat → Int32) (f_0_lines_doorTo : Nat → Int32) (p1 : Int32) (p2 : Int32) (p3 : Int32) (Z : Sum Nat (Int32 × (Nat → Int32) × (Nat → Int32) × (Nat → Int32))) (htr : l.stackTraces = false) (hX : TX A s s.heap) (hout : c.exceptionTable.toList = []) (hlocks : meth.locks = false) (hx : p.tables.exec = Jvm.exec) (hb : c.code = b_Sp_door) (hml : c.maxLocals = 4) (hown : s.vm.findClass "SpaceCycles" = some m.cls) (hts : ∀ w ∈ w_Sp_door, w.before args s = true) (hK : va_K (dC, dI) vwCl [(cI, .int), (cZ, .boolean), (cJ, .long)] s) (hN : NX s) (hA : ∀ q : Nat, s.heap.size ≤ q → A q)
    (hret : ∀ r : Int32, ∀ u : (Nat → Int32) × (Nat → Int32) × (Nat → Int32), Z = Sum.inr (r, u) → ∀ (pc : Nat) (H : Heap) (locs : List Loc) (ls : Array Slot), decode b_Sp_door pc = .ok (.ireturn, 1) → va_P (dC, dI) vwCl (wl_Sp_door a_0 a_0_lines a_0_lines_lowX a_0_lines_lowY a_0_lines_highX a_0_lines_highY a_0_lines_doors a_0_lines_doorFrom a_0_lines_doorTo b_0_flood b_0_net b_0_loops b_0_common b_0_names b_0_ways b_0_marked b_0_lines_thickness cI r_0_now r_0_before v_0_runs v_0_stale v_0_lines_count f_0_lines_lowX f_0_lines_lowY f_0_lines_highX f_0_lines_highY u.1 u.2.1 u.2.2) H → va_D A (wl_Sp_door a_0 a_0_lines a_0_lines_lowX a_0_lines_lowY a_0_lines_highX a_0_lines_highY a_0_lines_doors a_0_lines_doorFrom a_0_lines_doorTo b_0_flood b_0_net b_0_loops b_0_common b_0_names b_0_ways b_0_marked b_0_lines_thickness cI r_0_now r_0_before v_0_runs v_0_stale v_0_lines_count f_0_lines_lowX f_0_lines_lowY f_0_lines_highX f_0_lines_highY u.1 u.2.1 u.2.2) → va_S A s.heap H locs → W p l e rm_Sp_door s m args below meth c H locs 0 0 (XMQ below Qc (fun E => Z = Sum.inl (xk E)) args s free) (F0 m pc ls [.int r]))
    (hm : m_Sp_door p1 p2 p3 v_0_lines_count f_0_lines_lowX f_0_lines_lowY f_0_lines_highX f_0_lines_highY f_0_lines_doors f_0_lines_doorFrom f_0_lines_doorTo = some Z) (hP : va_P (dC, dI) vwCl (wl_Sp_door a_0 a_0_lines a_0_lines_lowX a_0_lines_lowY a_0_lines_highX a_0_lines_highY a_0_lines_doors a_0_lines_doorFrom a_0_lines_doorTo b_0_flood b_0_net b_0_loops b_0_common b_0_names b_0_ways b_0_marked b_0_lines_thickness cI r_0_now r_0_before v_0_runs v_0_stale v_0_lines_count f_0_lines_lowX f_0_lines_lowY f_0_lines_highX f_0_lines_highY f_0_lines_doors f_0_lines_doorFrom f_0_lines_doorTo) s.heap) (hD : va_D A (wl_Sp_door a_0 a_0_lines a_0_lines_lowX a_0_lines_lowY a_0_lines_highX a_0_lines_highY a_0_lines_doors a_0_lines_doorFrom a_0_lines_doorTo b_0_flood b_0_net b_0_loops b_0_common b_0_names b_0_ways b_0_marked b_0_lines_thickness cI r_0_now r_0_before v_0_runs v_0_stale v_0_lines_count f_0_lines_lowX f_0_lines_lowY f_0_lines_highX f_0_lines_highY f_0_lines_doors f_0_lines_doorFrom f_0_lines_doorTo)) (hS : va_S A s.heap s.heap []) : ∀ ls : Array Slot, lv_has ls 4 [(0, .ref a_0), (1, .int p1), (2, .int p2), (3, .int p3)] → W p l e rm_Sp_door s m args below meth c s.heap [] 0 0 (XMQ below Qc (fun E => Z = Sum.inl (xk E)) args s free) (F0 m 0 ls []) := by
  intro ls hl
  unfold m_Sp_door at hm
  refine lv_aload_n hx hb d_Sp_door_0 rfl (lv_at hl 0 rfl) ?_
  refine lv_iload_n hx hb d_Sp_door_1 rfl (lv_at hl 1 rfl) ?_
  obtain ⟨z1, hb2, hz3, hm⟩ := bx0_z hm
  have hPc := hP.sub (ws' := (wl_Sp_needLine a_0 a_0_lines b_0_flood b_0_net b_0_loops b_0_common b_0_names b_0_ways b_0_marked a_0_lines_lowX a_0_lines_lowY a_0_lines_highX a_0_lines_highY b_0_lines_thickness a_0_lines_doors a_0_lines_doorFrom a_0_lines_doorTo r_0_now r_0_before v_0_runs v_0_stale v_0_lines_count)) [0, 1] rfl
  have hDc := hD.sub (ws' := (wl_Sp_needLine a_0 a_0_lines b_0_flood b_0_net b_0_loops b_0_common b_0_names b_0_ways b_0_marked a_0_lines_lowX a_0_lines_lowY a_0_lines_highX a_0_lines_highY b_0_lines_thickness a_0_lines_doors a_0_lines_doorFrom a_0_lines_doorTo r_0_now r_0_before v_0_runs v_0_stale v_0_lines_count)) [0, 1] (by decide) rfl
  have hFc := va_free (wc := (wl_Sp_needLine a_0 a_0_lines b_0_flood b_0_net b_0_loops b_0_common b_0_names b_0_ways b_0_marked a_0_lines_lowX a_0_lines_lowY a_0_lines_highX a_0_lines_highY b_0_lines_thickness a_0_lines_doors a_0_lines_doorFrom a_0_lines_doorTo r_0_now r_0_before v_0_runs v_0_stale v_0_lines_count)) hD hS hA [0, 1] rfl
  refine x_onV (x_runV (As := [.int p1]) (rest := []) ⟨hx, hb, hml, hown, hts⟩ (c_Sp_needLine l htr dC dI (cI := cI) (cZ := cZ) (cJ := cJ) a_0 a_0_lines b_0_flood b_0_net b_0_loops b_0_common b_0_names b_0_ways b_0_marked a_0_lines_lowX a_0_lines_lowY a_0_lines_highX a_0_lines_highY b_0_lines_thickness a_0_lines_doors a_0_lines_doorFrom a_0_lines_doorTo s.heap.size r_0_now r_0_before v_0_runs v_0_stale v_0_lines_count p1 z1 hb2) (cwV 1 hts (gl_V k_499 k_498 k_497 k_207 k_496) rfl rfl rfl (by decide +kernel) ⟨Nat.le_of_ble_eq_true rfl, Nat.le_of_ble_eq_true rfl⟩) ⟨PPX_blind, va_recv hK hPc (ci := 0) (q0 := 0) rfl rfl, fun U hU hW => PPX_at hK hN hX hPc hDc hFc hU hW⟩ rfl rfl hl.1 rfl (lv_room (Nat.le_of_ble_eq_true rfl)) d_Sp_door_2 ⟨Nat.le_of_ble_eq_true rfl, Nat.le_of_ble_eq_true rfl⟩) hout hlocks (fun E hE => hz3 _ hE) (fun hr => ?_)
  replace hm := hm hr
  refine lv_iload_n hx hb d_Sp_door_5 rfl (lv_at hl 2 rfl) ?_
  refine lv_iconst (v := 0) hx hb d_Sp_door_6 (by decide) ?_
  refine lv_aload_n hx hb d_Sp_door_7 rfl (lv_at hl 0 rfl) ?_
  refine va_get (D := (dC, dI)) (ci := 0) (v := .ref a_0_lines) (C := "SpaceCycles") (T := F_Sp) (N := 12) hx hb hts (in_F i_Sp) hown hK hP 0 rfl rfl 0 (by decide) (hts _ (in_c k_466)) (fun _ h9 => h9) rfl d_Sp_door_8 ?_
  refine lv_iload_n hx hb d_Sp_door_11 rfl (lv_at hl 1 rfl) ?_
  obtain ⟨r4, hb5, hm⟩ := bd1_e hm
  have hPc := hP.sub (ws' := (wl_Li_length a_0_lines a_0_lines_lowX a_0_lines_lowY a_0_lines_highX a_0_lines_highY b_0_lines_thickness a_0_lines_doors a_0_lines_doorFrom a_0_lines_doorTo cI v_0_lines_count f_0_lines_lowX f_0_lines_lowY f_0_lines_highX f_0_lines_highY)) [1, 2, 3, 4, 5] rfl
  have hDc := hD.sub (ws' := (wl_Li_length a_0_lines a_0_lines_lowX a_0_lines_lowY a_0_lines_highX a_0_lines_highY b_0_lines_thickness a_0_lines_doors a_0_lines_doorFrom a_0_lines_doorTo cI v_0_lines_count f_0_lines_lowX f_0_lines_lowY f_0_lines_highX f_0_lines_highY)) [1, 2, 3, 4, 5] (by decide) rfl
  refine cl_pi (va_runV (As := [.int p1]) (rest := [.int 0, .int p2]) ⟨hx, hb, hml, hown, hts⟩ (cp_Li_length l dC dI (cI := cI) (cZ := cZ) (cJ := cJ) a_0_lines a_0_lines_lowX a_0_lines_lowY a_0_lines_highX a_0_lines_highY b_0_lines_thickness a_0_lines_doors a_0_lines_doorFrom a_0_lines_doorTo s.heap.size v_0_lines_count f_0_lines_lowX f_0_lines_lowY f_0_lines_highX f_0_lines_highY p1 r4 hb5) (cwV 1 hts (gl_V k_507 k_506 k_505 k_30 k_504) rfl rfl rfl (by decide +kernel) ⟨Nat.le_of_ble_eq_true rfl, Nat.le_of_ble_eq_true rfl⟩) ⟨PP_blind, va_recv hK hPc (ci := 1) (q0 := 0) rfl rfl, fun U hU hW => PP_at hK hN hPc hDc hU hW⟩ rfl rfl hl.1 rfl (lv_room (Nat.le_of_ble_eq_true rfl)) d_Sp_door_12 ⟨Nat.zero_le _, Nat.zero_le _⟩) ?_
  obtain ⟨z6, hb7, hz8, hm⟩ := bx0_z hm
  have hPc := hP.sub (ws' := (wl_Sp_needBetween)) [] rfl
  have hDc := hD.sub (ws' := (wl_Sp_needBetween)) [] (by decide) rfl
  have hFc := va_free (wc := (wl_Sp_needBetween)) hD hS hA [] rfl
  refine x_onV (x_runS (As := [.int p2, .int 0, .int r4]) (rest := []) ⟨hx, hb, hml, hown, hts⟩ (c_Sp_needBetween l htr dC dI (cI := cI) (cZ := cZ) (cJ := cJ) s.heap.size p2 0 r4 z6 hb7) (va_cwS 3 hts (gl_S k_484 k_483 k_207 k_482) rfl rfl rfl (by decide +kernel) ⟨Nat.le_of_ble_eq_true rfl, Nat.le_of_ble_eq_true rfl⟩) ⟨PPX_blind, fun U hU hW => PPX_at hK hN hX hPc hDc hFc hU hW⟩ rfl rfl hl.1 rfl (lv_room (Nat.le_of_ble_eq_true rfl)) d_Sp_door_15 ⟨Nat.le_of_ble_eq_true rfl, Nat.le_of_ble_eq_true rfl⟩) hout hlocks (fun E hE => hz8 _ hE) (fun hr => ?_)
  replace hm := hm hr
  refine lv_iload_n hx hb d_Sp_door_18 rfl (lv_at hl 3 rfl) ?_
  refine lv_iconst (v := 0) hx hb d_Sp_door_19 (by decide) ?_
  refine lv_aload_n hx hb d_Sp_door_20 rfl (lv_at hl 0 rfl) ?_
  refine va_get (D := (dC, dI)) (ci := 0) (v := .ref a_0_lines) (C := "SpaceCycles") (T := F_Sp) (N := 12) hx hb hts (in_F i_Sp) hown hK hP 0 rfl rfl 0 (by decide) (hts _ (in_c k_466)) (fun _ h9 => h9) rfl d_Sp_door_21 ?_
  refine lv_iload_n hx hb d_Sp_door_24 rfl (lv_at hl 1 rfl) ?_
  obtain ⟨r9, hb10, hm⟩ := bd1_e hm
  have hPc := hP.sub (ws' := (wl_Li_length a_0_lines a_0_lines_lowX a_0_lines_lowY a_0_lines_highX a_0_lines_highY b_0_lines_thickness a_0_lines_doors a_0_lines_doorFrom a_0_lines_doorTo cI v_0_lines_count f_0_lines_lowX f_0_lines_lowY f_0_lines_highX f_0_lines_highY)) [1, 2, 3, 4, 5] rfl
  have hDc := hD.sub (ws' := (wl_Li_length a_0_lines a_0_lines_lowX a_0_lines_lowY a_0_lines_highX a_0_lines_highY b_0_lines_thickness a_0_lines_doors a_0_lines_doorFrom a_0_lines_doorTo cI v_0_lines_count f_0_lines_lowX f_0_lines_lowY f_0_lines_highX f_0_lines_highY)) [1, 2, 3, 4, 5] (by decide) rfl
  refine cl_pi (va_runV (As := [.int p1]) (rest := [.int 0, .int p3]) ⟨hx, hb, hml, hown, hts⟩ (cp_Li_length l dC dI (cI := cI) (cZ := cZ) (cJ := cJ) a_0_lines a_0_lines_lowX a_0_lines_lowY a_0_lines_highX a_0_lines_highY b_0_lines_thickness a_0_lines_doors a_0_lines_doorFrom a_0_lines_doorTo s.heap.size v_0_lines_count f_0_lines_lowX f_0_lines_lowY f_0_lines_highX f_0_lines_highY p1 r9 hb10) (cwV 1 hts (gl_V k_507 k_506 k_505 k_30 k_504) rfl rfl rfl (by decide +kernel) ⟨Nat.le_of_ble_eq_true rfl, Nat.le_of_ble_eq_true rfl⟩) ⟨PP_blind, va_recv hK hPc (ci := 1) (q0 := 0) rfl rfl, fun U hU hW => PP_at hK hN hPc hDc hU hW⟩ rfl rfl hl.1 rfl (lv_room (Nat.le_of_ble_eq_true rfl)) d_Sp_door_25 ⟨Nat.zero_le _, Nat.zero_le _⟩) ?_
  obtain ⟨z11, hb12, hz13, hm⟩ := bx0_z hm
  have hPc := hP.sub (ws' := (wl_Sp_needBetween)) [] rfl
  have hDc := hD.sub (ws' := (wl_Sp_needBetween)) [] (by decide) rfl
  have hFc := va_free (wc := (wl_Sp_needBetween)) hD hS hA [] rfl
  refine x_onV (x_runS (As := [.int p3, .int 0, .int r9]) (rest := []) ⟨hx, hb, hml, hown, hts⟩ (c_Sp_needBetween l htr dC dI (cI := cI) (cZ := cZ) (cJ := cJ) s.heap.size p3 0 r9 z11 hb12) (va_cwS 3 hts (gl_S k_484 k_483 k_207 k_482) rfl rfl rfl (by decide +kernel) ⟨Nat.le_of_ble_eq_true rfl, Nat.le_of_ble_eq_true rfl⟩) ⟨PPX_blind, fun U hU hW => PPX_at hK hN hX hPc hDc hFc hU hW⟩ rfl rfl hl.1 rfl (lv_room (Nat.le_of_ble_eq_true rfl)) d_Sp_door_28 ⟨Nat.le_of_ble_eq_true rfl, Nat.le_of_ble_eq_true rfl⟩) hout hlocks (fun E hE => hz13 _ hE) (fun hr => ?_)
  replace hm := hm hr
  refine lv_iload_n hx hb d_Sp_door_31 rfl (lv_at hl 2 rfl) ?_
  refine lv_iload_n hx hb d_Sp_door_32 rfl (lv_at hl 3 rfl) ?_
  refine lv_icmp_lt (tgt := 46) hx hb d_Sp_door_33 (by decide) (fun c14 => ?_) (fun c14 => ?_)
  · replace hm := if_t hm c14
    refine lv_aload_n hx hb d_Sp_door_46 rfl (lv_at hl 0 rfl) ?_
    refine va_get (D := (dC, dI)) (ci := 0) (v := .ref a_0_lines) (C := "SpaceCycles") (T := F_Sp) (N := 12) hx hb hts (in_F i_Sp) hown hK hP 0 rfl rfl 0 (by decide) (hts _ (in_c k_466)) (fun _ h9 => h9) rfl d_Sp_door_47 ?_
    refine va_get (D := (dC, dI)) (ci := 1) (v := .ref a_0_lines_doors) (C := "SpaceCycles$Lines") (T := F_Li) (N := 9) hx hb hts (in_F i_Li) hown hK hP 1 rfl rfl 5 (by decide) (hts _ (in_c k_508)) (fun _ h9 => h9) rfl d_Sp_door_50 ?_
    refine lv_iload_n hx hb d_Sp_door_53 rfl (lv_at hl 1 rfl) ?_
    obtain ⟨hi15, hm⟩ := gI_e hm
    refine va_iald hx hb hK hP 6 0 rfl rfl hi15 d_Sp_door_54 ?_
    refine lv_bipush (v := 6) hx hb d_Sp_door_55 (by decide) ?_
    refine lv_icmp_lt (tgt := 70) hx hb d_Sp_door_57 (by decide) (fun c16 => ?_) (fun c16 => ?_)
    · replace hm := if_t hm c16
      refine lv_aload_n hx hb d_Sp_door_70 rfl (lv_at hl 0 rfl) ?_
      refine va_get (D := (dC, dI)) (ci := 0) (v := .ref a_0_lines) (C := "SpaceCycles") (T := F_Sp) (N := 12) hx hb hts (in_F i_Sp) hown hK hP 0 rfl rfl 0 (by decide) (hts _ (in_c k_466)) (fun _ h9 => h9) rfl d_Sp_door_71 ?_
      refine lv_iload_n hx hb d_Sp_door_74 rfl (lv_at hl 1 rfl) ?_
      refine lv_iload_n hx hb d_Sp_door_75 rfl (lv_at hl 2 rfl) ?_
      refine lv_iload_n hx hb d_Sp_door_76 rfl (lv_at hl 3 rfl) ?_
      obtain ⟨r17, f18, f19, f20, hb21, hm⟩ := bd4_e hm
      have hPc := hP.sub (ws' := (wl_Li_addDoor a_0_lines a_0_lines_doors a_0_lines_doorFrom a_0_lines_doorTo a_0_lines_lowX a_0_lines_lowY a_0_lines_highX a_0_lines_highY b_0_lines_thickness cI v_0_lines_count f_0_lines_doors f_0_lines_doorFrom f_0_lines_doorTo)) [1, 6, 7, 8] rfl
      have hDc := hD.sub (ws' := (wl_Li_addDoor a_0_lines a_0_lines_doors a_0_lines_doorFrom a_0_lines_doorTo a_0_lines_lowX a_0_lines_lowY a_0_lines_highX a_0_lines_highY b_0_lines_thickness cI v_0_lines_count f_0_lines_doors f_0_lines_doorFrom f_0_lines_doorTo)) [1, 6, 7, 8] (by decide) rfl
      refine cl_i (wc' := (wl_Li_addDoor a_0_lines a_0_lines_doors a_0_lines_doorFrom a_0_lines_doorTo a_0_lines_lowX a_0_lines_lowY a_0_lines_highX a_0_lines_highY b_0_lines_thickness cI v_0_lines_count f18 f19 f20)) (va_runV (As := [.int p1, .int p2, .int p3]) (rest := []) ⟨hx, hb, hml, hown, hts⟩ (c_Li_addDoor l dC dI (cI := cI) (cZ := cZ) (cJ := cJ) a_0_lines a_0_lines_doors a_0_lines_doorFrom a_0_lines_doorTo a_0_lines_lowX a_0_lines_lowY a_0_lines_highX a_0_lines_highY b_0_lines_thickness s.heap.size v_0_lines_count f_0_lines_doors f_0_lines_doorFrom f_0_lines_doorTo p1 p2 p3 r17 f18 f19 f20 hb21) (cwV 3 hts (gl_V k_512 k_511 k_510 k_30 k_509) rfl rfl rfl (by decide +kernel) ⟨Nat.le_of_ble_eq_true rfl, Nat.le_of_ble_eq_true rfl⟩) ⟨PP_blind, va_recv hK hPc (ci := 1) (q0 := 0) rfl rfl, fun U hU hW => PP_at hK hN hPc hDc hU hW⟩ rfl rfl hl.1 rfl (lv_room (Nat.le_of_ble_eq_true rfl)) d_Sp_door_77 ⟨Nat.zero_le _, Nat.zero_le _⟩) hP hD hS hA [1, 6, 7, 8] [0, 2, 3, 4, 5] rfl rfl (by decide) (by decide) (fun H locs hP hD hS => ?_)
      have hP : va_P (dC, dI) vwCl (wl_Sp_door a_0 a_0_lines a_0_lines_lowX a_0_lines_lowY a_0_lines_highX a_0_lines_highY a_0_lines_doors a_0_lines_doorFrom a_0_lines_doorTo b_0_flood b_0_net b_0_loops b_0_common b_0_names b_0_ways b_0_marked b_0_lines_thickness cI r_0_now r_0_before v_0_runs v_0_stale v_0_lines_count f_0_lines_lowX f_0_lines_lowY f_0_lines_highX f_0_lines_highY f18 f19 f20) H := hP.sub [0, 5, 1, 2, 3, 4, 6, 7, 8] rfl
      have hD : va_D A (wl_Sp_door a_0 a_0_lines a_0_lines_lowX a_0_lines_lowY a_0_lines_highX a_0_lines_highY a_0_lines_doors a_0_lines_doorFrom a_0_lines_doorTo b_0_flood b_0_net b_0_loops b_0_common b_0_names b_0_ways b_0_marked b_0_lines_thickness cI r_0_now r_0_before v_0_runs v_0_stale v_0_lines_count f_0_lines_lowX f_0_lines_lowY f_0_lines_highX f_0_lines_highY f18 f19 f20) := hD.sub [0, 5, 1, 2, 3, 4, 6, 7, 8] (by decide) rfl
      cases hm
      exact hret _ _ rfl _ H locs ls d_Sp_door_80 hP hD hS
    · replace hm := if_f hm c16
      cases hm
      obtain ⟨sa, hsa⟩ := hX.text 7 rfl; exact x_throw hx hb htr hown fit_IS fit_up (hts _ (in_c k_469)) (hts _ (in_c k_470)) hsa (hX.atoms hts atoms_IS) (by rw [hml]; exact hl.1) d_Sp_door_60 d_Sp_door_63 (Or.inl ⟨d_Sp_door_64, rfl⟩) d_Sp_door_66 d_Sp_door_69 hout rfl (Nat.le_of_ble_eq_true rfl) (Nat.le_of_ble_eq_true rfl) (Nat.le_of_ble_eq_true rfl) (Nat.le_of_ble_eq_true rfl) hlocks
  · replace hm := if_f hm c14
    cases hm
    obtain ⟨sa, hsa⟩ := hX.text 6 rfl; exact x_throw hx hb htr hown fit_IA fit_up (hts _ (in_c k_464)) (hts _ (in_c k_465)) hsa (hX.atoms hts atoms_IA) (by rw [hml]; exact hl.1) d_Sp_door_36 d_Sp_door_39 (Or.inl ⟨d_Sp_door_40, rfl⟩) d_Sp_door_42 d_Sp_door_45 hout rfl (Nat.le_of_ble_eq_true rfl) (Nat.le_of_ble_eq_true rfl) (Nat.le_of_ble_eq_true rfl) (Nat.le_of_ble_eq_true rfl) hlocks
set_option maxHeartbeats 4000000 in
set_option maxRecDepth 100000 in
theorem c_Sp_door (l : Launch) (htr : l.stackTraces = false) (dC : Nat → ClassId) (dI : Nat → Nat → Nat) {cI cZ cJ : ClassId} (a_0 a_0_lines a_0_lines_lowX a_0_lines_lowY a_0_lines_highX a_0_lines_highY a_0_lines_doors a_0_lines_doorFrom a_0_lines_doorTo b_0_flood b_0_net b_0_loops b_0_common b_0_names b_0_ways b_0_marked b_0_lines_thickness : Nat) (sz : Nat) (r_0_now : Nat) (r_0_before : Nat) (v_0_runs : Int32) (v_0_stale : Int32) (v_0_lines_count : Int32) (f_0_lines_lowX : Nat → Int32) (f_0_lines_lowY : Nat → Int32) (f_0_lines_highX : Nat → Int32) (f_0_lines_highY : Nat → Int32) (f_0_lines_doors : Nat → Int32) (f_0_lines_doorFrom : Nat → Int32) (f_0_lines_doorTo : Nat → Int32) (p1 : Int32) (p2 : Int32) (p3 : Int32) (Z : Sum Nat (Int32 × (Nat → Int32) × (Nat → Int32) × (Nat → Int32))) (hm : m_Sp_door p1 p2 p3 v_0_lines_count f_0_lines_lowX f_0_lines_lowY f_0_lines_highX f_0_lines_highY f_0_lines_doors f_0_lines_doorFrom f_0_lines_doorTo = some Z) : XMet l y_Sp_door w_Sp_door rm_Sp_door (PPX dC dI [(cI, .int), (cZ, .boolean), (cJ, .long)] [.ref a_0, .int p1, .int p2, .int p3] sz (wl_Sp_door a_0 a_0_lines a_0_lines_lowX a_0_lines_lowY a_0_lines_highX a_0_lines_highY a_0_lines_doors a_0_lines_doorFrom a_0_lines_doorTo b_0_flood b_0_net b_0_loops b_0_common b_0_names b_0_ways b_0_marked b_0_lines_thickness cI r_0_now r_0_before v_0_runs v_0_stale v_0_lines_count f_0_lines_lowX f_0_lines_lowY f_0_lines_highX f_0_lines_highY f_0_lines_doors f_0_lines_doorFrom f_0_lines_doorTo)) (va_Qi (fun (r : Int32) (u : (Nat → Int32) × (Nat → Int32) × (Nat → Int32)) => Z = Sum.inr (r, u)) (fun u t => BB dC dI [(cI, .int), (cZ, .boolean), (cJ, .long)] (va_A (wl_Sp_door a_0 a_0_lines a_0_lines_lowX a_0_lines_lowY a_0_lines_highX a_0_lines_highY a_0_lines_doors a_0_lines_doorFrom a_0_lines_doorTo b_0_flood b_0_net b_0_loops b_0_common b_0_names b_0_ways b_0_marked b_0_lines_thickness cI r_0_now r_0_before v_0_runs v_0_stale v_0_lines_count f_0_lines_lowX f_0_lines_lowY f_0_lines_highX f_0_lines_highY f_0_lines_doors f_0_lines_doorFrom f_0_lines_doorTo) sz) (wl_Sp_door a_0 a_0_lines a_0_lines_lowX a_0_lines_lowY a_0_lines_highX a_0_lines_highY a_0_lines_doors a_0_lines_doorFrom a_0_lines_doorTo b_0_flood b_0_net b_0_loops b_0_common b_0_names b_0_ways b_0_marked b_0_lines_thickness cI r_0_now r_0_before v_0_runs v_0_stale v_0_lines_count f_0_lines_lowX f_0_lines_lowY f_0_lines_highX f_0_lines_highY u.1 u.2.1 u.2.2) () t) (va_A (wl_Sp_door a_0 a_0_lines a_0_lines_lowX a_0_lines_lowY a_0_lines_highX a_0_lines_highY a_0_lines_doors a_0_lines_doorFrom a_0_lines_doorTo b_0_flood b_0_net b_0_loops b_0_common b_0_names b_0_ways b_0_marked b_0_lines_thickness cI r_0_now r_0_before v_0_runs v_0_stale v_0_lines_count f_0_lines_lowX f_0_lines_lowY f_0_lines_highX f_0_lines_highY f_0_lines_doors f_0_lines_doorFrom f_0_lines_doorTo) sz)) (fun E => Z = Sum.inl (xk E)) (va_A (wl_Sp_door a_0 a_0_lines a_0_lines_lowX a_0_lines_lowY a_0_lines_highX a_0_lines_highY a_0_lines_doors a_0_lines_doorFrom a_0_lines_doorTo b_0_flood b_0_net b_0_loops b_0_common b_0_names b_0_ways b_0_marked b_0_lines_thickness cI r_0_now r_0_before v_0_runs v_0_stale v_0_lines_count f_0_lines_lowX f_0_lines_lowY f_0_lines_highX f_0_lines_highY f_0_lines_doors f_0_lines_doorFrom f_0_lines_doorTo) sz) := by
  refine XMet.ofW (cc := b_Sp_door) (maxL := 4) (ret := (some .int)) (by decide) rfl ?_
  intro p e s m args below meth c s₁ B hml hout hv
  obtain ⟨rfl, hsz, hP, hK, hD0, hN, hX⟩ := hv
  subst hsz
  have hl := lv_entry ([.ref a_0, .int p1, .int p2, .int p3]) (n := 4) (Nat.le_of_ble_eq_true rfl)
  rw [lg_entry_eq]
  generalize (lg_sl ([.ref a_0, .int p1, .int p2, .int p3]) ++ List.replicate (4 - (lg_sl ([.ref a_0, .int p1, .int p2, .int p3])).length) Slot.unset).toArray = ls at hl ⊢
  exact t_Sp_door (A := va_A (wl_Sp_door a_0 a_0_lines a_0_lines_lowX a_0_lines_lowY a_0_lines_highX a_0_lines_highY a_0_lines_doors a_0_lines_doorFrom a_0_lines_doorTo b_0_flood b_0_net b_0_loops b_0_common b_0_names b_0_ways b_0_marked b_0_lines_thickness cI r_0_now r_0_before v_0_runs v_0_stale v_0_lines_count f_0_lines_lowX f_0_lines_lowY f_0_lines_highX f_0_lines_highY f_0_lines_doors f_0_lines_doorFrom f_0_lines_doorTo) s.heap.size) a_0 a_0_lines a_0_lines_lowX a_0_lines_lowY a_0_lines_highX a_0_lines_highY a_0_lines_doors a_0_lines_doorFrom a_0_lines_doorTo b_0_flood b_0_net b_0_loops b_0_common b_0_names b_0_ways b_0_marked b_0_lines_thickness r_0_now r_0_before v_0_runs v_0_stale v_0_lines_count f_0_lines_lowX f_0_lines_lowY f_0_lines_highX f_0_lines_highY f_0_lines_doors f_0_lines_doorFrom f_0_lines_doorTo p1 p2 p3 Z htr hX hout B.notSynchronized B.exec B.bytes hml (findClass_of_methodNamed B.named) (atoms_spec (ws := w_Sp_door) B.pre) hK hN (fun q h => Or.inr h) (fun r u hz pc H locs ls hd hP9 hD9 hS => x_ret (W.iret B.exec B.bytes B.returns (fun t ht hW => ⟨⟨r, u, rfl, hz, by rw [ht]; exact hP9, va_K.moved hW.alike hK, hD9⟩, hS.F ht⟩) hS.2.2 hd)) hm hP hD0.self va_S.rf ls hl

theorem k_513 : ((.code ⟨"SpaceCycles", "needFreshRun", "()V"⟩ prog_1_method_25_code 1 none) : Cond) ∈ gl := gl_i 902 (by decide +kernel) (by decide +kernel)
theorem k_514 : ((.selects "SpaceCycles" ⟨"SpaceCycles", "needFreshRun", "()V"⟩ ⟨"SpaceCycles", "needFreshRun", "()V"⟩) : Cond) ∈ gl := gl_s (by decide +kernel) (by decide +kernel)
theorem k_515 : ((.instanceMethod ⟨"SpaceCycles", "needFreshRun", "()V"⟩) : Cond) ∈ gl := gl_i 901 (by decide +kernel) (by decide +kernel)
theorem k_516 : ((.methodLink "SpaceCycles" 184 ⟨"SpaceCycles", "needFreshRun", "()V"⟩) : Cond) ∈ gl := gl_i 899 (by decide +kernel) (by decide +kernel)
theorem k_517 : ((.fieldLink "SpaceCycles" 26 "SpaceCycles" "net" "LSpaceCycles$Net;") : Cond) ∈ gl := gl_i 324 (by decide +kernel) (by decide +kernel)
theorem k_518 : ((.fieldLink "SpaceCycles" 187 "SpaceCycles$Net" "points" "I") : Cond) ∈ gl := gl_i 129 (by decide +kernel) (by decide +kernel)
theorem k_519 : ((.fieldLink "SpaceCycles" 190 "SpaceCycles$Net" "pieces" "I") : Cond) ∈ gl := gl_i 133 (by decide +kernel) (by decide +kernel)
theorem k_520 : ((.fieldLink "SpaceCycles" 193 "SpaceCycles$Net" "looseEnds" "I") : Cond) ∈ gl := gl_i 135 (by decide +kernel) (by decide +kernel)
theorem k_521 : ((.code ⟨"SpaceCycles$Net", "sidesOf", "(I)I"⟩ prog_8_method_12_code 4 (some .int)) : Cond) ∈ gl := gl_i 907 (by decide +kernel) (by decide +kernel)
theorem k_522 : ((.selects "SpaceCycles$Net" ⟨"SpaceCycles$Net", "sidesOf", "(I)I"⟩ ⟨"SpaceCycles$Net", "sidesOf", "(I)I"⟩) : Cond) ∈ gl := gl_i 906 (by decide +kernel) (by decide +kernel)
theorem k_523 : ((.instanceMethod ⟨"SpaceCycles$Net", "sidesOf", "(I)I"⟩) : Cond) ∈ gl := gl_i 905 (by decide +kernel) (by decide +kernel)
theorem k_524 : ((.methodLink "SpaceCycles" 196 ⟨"SpaceCycles$Net", "sidesOf", "(I)I"⟩) : Cond) ∈ gl := gl_i 904 (by decide +kernel) (by decide +kernel)
-- SpaceCycles.count(I)I: may throw
abbrev b_Sp_count : ByteArray := prog_1_method_6_code
abbrev y_Sp_count : MethodName := ⟨"SpaceCycles", "count", "(I)I"⟩
abbrev w_Sp_count : List Cond := Cond.code y_Sp_count b_Sp_count 2 (some .int) :: gl
abbrev rm_Sp_count : Room := { frames := 9, cells := 1, slots := 6, locals := 222 }
theorem d_Sp_count_0 : decode b_Sp_count 0 = .ok (.iload_n 1, 1) := by decide +kernel
theorem d_Sp_count_1 : decode b_Sp_count 1 = .ok (.iconst 0, 1) := by decide +kernel
theorem d_Sp_count_2 : decode b_Sp_count 2 = .ok (.iconst 4, 1) := by decide +kernel
theorem d_Sp_count_3 : decode b_Sp_count 3 = .ok (.invokestatic 84, 3) := by decide +kernel
theorem d_Sp_count_6 : decode b_Sp_count 6 = .ok (.aload_n 0, 1) := by decide +kernel
theorem d_Sp_count_7 : decode b_Sp_count 7 = .ok (.invokevirtual 184, 3) := by decide +kernel
theorem d_Sp_count_10 : decode b_Sp_count 10 = .ok (.iload_n 1, 1) := by decide +kernel
theorem d_Sp_count_11 : decode b_Sp_count 11 = .ok (.tableswitch 61 0 3 #[29, 37, 45, 53], 29) := by decide +kernel
theorem d_Sp_count_40 : decode b_Sp_count 40 = .ok (.aload_n 0, 1) := by decide +kernel
theorem d_Sp_count_41 : decode b_Sp_count 41 = .ok (.getfield 65, 3) := by decide +kernel
theorem d_Sp_count_44 : decode b_Sp_count 44 = .ok (.getfield 181, 3) := by decide +kernel
theorem d_Sp_count_47 : decode b_Sp_count 47 = .ok (.ireturn, 1) := by decide +kernel
theorem d_Sp_count_48 : decode b_Sp_count 48 = .ok (.aload_n 0, 1) := by decide +kernel
theorem d_Sp_count_49 : decode b_Sp_count 49 = .ok (.getfield 26, 3) := by decide +kernel
theorem d_Sp_count_52 : decode b_Sp_count 52 = .ok (.getfield 187, 3) := by decide +kernel
theorem d_Sp_count_55 : decode b_Sp_count 55 = .ok (.ireturn, 1) := by decide +kernel
theorem d_Sp_count_56 : decode b_Sp_count 56 = .ok (.aload_n 0, 1) := by decide +kernel
theorem d_Sp_count_57 : decode b_Sp_count 57 = .ok (.getfield 26, 3) := by decide +kernel
theorem d_Sp_count_60 : decode b_Sp_count 60 = .ok (.getfield 190, 3) := by decide +kernel
theorem d_Sp_count_63 : decode b_Sp_count 63 = .ok (.ireturn, 1) := by decide +kernel
theorem d_Sp_count_64 : decode b_Sp_count 64 = .ok (.aload_n 0, 1) := by decide +kernel
theorem d_Sp_count_65 : decode b_Sp_count 65 = .ok (.getfield 26, 3) := by decide +kernel
theorem d_Sp_count_68 : decode b_Sp_count 68 = .ok (.getfield 193, 3) := by decide +kernel
theorem d_Sp_count_71 : decode b_Sp_count 71 = .ok (.ireturn, 1) := by decide +kernel
theorem d_Sp_count_72 : decode b_Sp_count 72 = .ok (.aload_n 0, 1) := by decide +kernel
theorem d_Sp_count_73 : decode b_Sp_count 73 = .ok (.getfield 26, 3) := by decide +kernel
theorem d_Sp_count_76 : decode b_Sp_count 76 = .ok (.iconst (-1), 1) := by decide +kernel
theorem d_Sp_count_77 : decode b_Sp_count 77 = .ok (.invokevirtual 196, 3) := by decide +kernel
theorem d_Sp_count_80 : decode b_Sp_count 80 = .ok (.ireturn, 1) := by decide +kernel
abbrev wl_Sp_count (a_0 : Nat) (a_0_net : Nat) (a_0_net_leftSpaces : Nat) (a_0_now : Nat) (b_0_lines : Nat) (b_0_flood : Nat) (b_0_loops : Nat) (b_0_common : Nat) (b_0_names : Nat) (b_0_ways : Nat) (b_0_marked : Nat) (b_0_net_pointX : Nat) (b_0_net_pointY : Nat) (b_0_net_looseSides : Nat) (b_0_net_sidesOut : Nat) (b_0_net_pieceLine : Nat) (b_0_net_begins : Nat) (b_0_net_directions : Nat) (b_0_net_weights : Nat) (b_0_net_pointAt : Nat) (b_0_now_xs : Nat) (b_0_now_ys : Nat) (b_0_now_cells : Nat) (cI : ClassId) (r_0_now : Nat) (r_0_before : Nat) (v_0_runs : Int32) (v_0_stale : Int32) (v_0_net_points : Int32) (v_0_net_pieces : Int32) (v_0_net_looseEnds : Int32) (f_0_net_leftSpaces : Nat → Int32) (v_0_now_spaces : Int32) : va_W := [(a_0, .inr (0, [.ref b_0_lines, .ref b_0_flood, .ref a_0_net, .ref b_0_loops, .ref b_0_common, .ref b_0_names, .ref b_0_ways, .ref b_0_marked, .ref r_0_now, .ref r_0_before, .int v_0_runs, .int v_0_stale])), (a_0_net, .inr (3, [.ref b_0_net_pointX, .ref b_0_net_pointY, .ref b_0_net_looseSides, .int v_0_net_points, .int v_0_net_pieces, .int v_0_net_looseEnds, .ref b_0_net_sidesOut, .ref b_0_net_pieceLine, .ref b_0_net_begins, .ref b_0_net_directions, .ref a_0_net_leftSpaces, .ref b_0_net_weights, .ref b_0_net_pointAt])), (a_0_net_leftSpaces, .inl (cI, 440, .inl f_0_net_leftSpaces)), (a_0_now, .inr (8, [.ref b_0_now_xs, .ref b_0_now_ys, .ref b_0_now_cells, .int v_0_now_spaces]))]
def m_Sp_count (p1 : Int32) (v_0_stale : Int32) (v_0_net_points : Int32) (v_0_net_pieces : Int32) (v_0_net_looseEnds : Int32) (f_0_net_leftSpaces : Nat → Int32) (v_0_now_spaces : Int32) : Option (Sum Nat (Int32)) :=
  bx0 (m_Sp_needBetween p1 0 4) <|
  bx0 (m_Sp_needFreshRun v_0_stale) <|
  if p1 = 0 then (
    some (Sum.inr v_0_now_spaces))
  else (
    if p1 = 1 then (
      some (Sum.inr v_0_net_points))
    else (
      if p1 = 2 then (
        some (Sum.inr v_0_net_pieces))
      else (
        if p1 = 3 then (
          some (Sum.inr v_0_net_looseEnds))
        else (
          bd1 (m_Ne_sidesOf (-1) v_0_net_pieces f_0_net_leftSpaces) fun r11 =>
          some (Sum.inr r11)))))

set_option maxHeartbeats 4000000 in
set_option maxRecDepth 100000 in
theorem t_Sp_count {p : Program} {l : Launch} {e : Env} {s : State} {m : MethodId} {args : Array Value} {below : List Frame} {meth : Method} {c : Code} {A : Nat → Prop} {dC : Nat → ClassId} {dI : Nat → Nat → Nat} {cI cZ cJ : ClassId} {Qc : Array Value → State → Outcome → State → Prop} {free : Addr → Prop} (a_0 a_0_net a_0_net_leftSpaces a_0_now b_0_lines b_0_flood b_0_loops b_0_common b_0_names b_0_ways b_0_marked b_0_net_pointX b_0_net_pointY b_0_net_looseSides b_0_net_sidesOut b_0_net_pieceLine b_0_net_begins b_0_net_directions b_0_net_weights b_0_net_pointAt b_0_now_xs b_0_now_ys b_0_now_cells : Nat) (r_0_before : Nat) (v_0_runs : Int32) (v_0_stale : Int32) (v_0_net_points : Int32) (v_0_net_pieces : Int32) (v_0_net_looseEnds : Int32) (f_0_net_leftSpaces : Nat → Int32) (v_0_now_spaces : Int32) (p1 : Int32) (Z : Sum Nat (Int32)) (htr : l.stackTraces = false) (hX : TX A s s.heap) (hout : c.exceptionTable.toList = []) (hlocks : meth.locks = false) (hx : p.tables.exec = Jvm.exec) (hb : c.code = b_Sp_count) (hml : c.maxLocals = 2) (hown : s.vm.findClass "SpaceCycles" = some m.cls) (hts : ∀ w ∈ w_Sp_count, w.before args s = true) (hK : va_K (dC, dI) vwCl [(cI, .int), (cZ, .boolean), (cJ, .long)] s) (hN : NX s) (hA : ∀ q : Nat, s.heap.size ≤ q → A q)
    (hret : ∀ r : Int32, Z = Sum.inr r → ∀ (pc : Nat) (H : Heap) (locs : List Loc) (ls : Array Slot), decode b_Sp_count pc = .ok (.ireturn, 1) → va_P (dC, dI) vwCl (wl_Sp_count a_0 a_0_net a_0_net_leftSpaces a_0_now b_0_lines b_0_flood b_0_loops b_0_common b_0_names b_0_ways b_0_marked b_0_net_pointX b_0_net_pointY b_0_net_looseSides b_0_net_sidesOut b_0_net_pieceLine b_0_net_begins b_0_net_directions b_0_net_weights b_0_net_pointAt b_0_now_xs b_0_now_ys b_0_now_cells cI a_0_now r_0_before v_0_runs v_0_stale v_0_net_points v_0_net_pieces v_0_net_looseEnds f_0_net_leftSpaces v_0_now_spaces) H → va_D A (wl_Sp_count a_0 a_0_net a_0_net_leftSpaces a_0_now b_0_lines b_0_flood b_0_loops b_0_common b_0_names b_0_ways b_0_marked b_0_net_pointX b_0_net_pointY b_0_net_looseSides b_0_net_sidesOut b_0_net_pieceLine b_0_net_begins b_0_net_directions b_0_net_weights b_0_net_pointAt b_0_now_xs b_0_now_ys b_0_now_cells cI a_0_now r_0_before v_0_runs v_0_stale v_0_net_points v_0_net_pieces v_0_net_looseEnds f_0_net_leftSpaces v_0_now_spaces) → va_S A s.heap H locs → W p l e rm_Sp_count s m args below meth c H locs 0 0 (XMQ below Qc (fun E => Z = Sum.inl (xk E)) args s free) (F0 m pc ls [.int r]))
    (hm : m_Sp_count p1 v_0_stale v_0_net_points v_0_net_pieces v_0_net_looseEnds f_0_net_leftSpaces v_0_now_spaces = some Z) (hP : va_P (dC, dI) vwCl (wl_Sp_count a_0 a_0_net a_0_net_leftSpaces a_0_now b_0_lines b_0_flood b_0_loops b_0_common b_0_names b_0_ways b_0_marked b_0_net_pointX b_0_net_pointY b_0_net_looseSides b_0_net_sidesOut b_0_net_pieceLine b_0_net_begins b_0_net_directions b_0_net_weights b_0_net_pointAt b_0_now_xs b_0_now_ys b_0_now_cells cI a_0_now r_0_before v_0_runs v_0_stale v_0_net_points v_0_net_pieces v_0_net_looseEnds f_0_net_leftSpaces v_0_now_spaces) s.heap) (hD : va_D A (wl_Sp_count a_0 a_0_net a_0_net_leftSpaces a_0_now b_0_lines b_0_flood b_0_loops b_0_common b_0_names b_0_ways b_0_marked b_0_net_pointX b_0_net_pointY b_0_net_looseSides b_0_net_sidesOut b_0_net_pieceLine b_0_net_begins b_0_net_directions b_0_net_weights b_0_net_pointAt b_0_now_xs b_0_now_ys b_0_now_cells cI a_0_now r_0_before v_0_runs v_0_stale v_0_net_points v_0_net_pieces v_0_net_looseEnds f_0_net_leftSpaces v_0_now_spaces)) (hS : va_S A s.heap s.heap []) : ∀ ls : Array Slot, lv_has ls 2 [(0, .ref a_0), (1, .int p1)] → W p l e rm_Sp_count s m args below meth c s.heap [] 0 0 (XMQ below Qc (fun E => Z = Sum.inl (xk E)) args s free) (F0 m 0 ls []) := by
  intro ls hl
  unfold m_Sp_count at hm
  refine lv_iload_n hx hb d_Sp_count_0 rfl (lv_at hl 1 rfl) ?_
  refine lv_iconst (v := 0) hx hb d_Sp_count_1 (by decide) ?_
  refine lv_iconst (v := 4) hx hb d_Sp_count_2 (by decide) ?_
  obtain ⟨z1, hb2, hz3, hm⟩ := bx0_z hm
  have hPc := hP.sub (ws' := (wl_Sp_needBetween)) [] rfl
  have hDc := hD.sub (ws' := (wl_Sp_needBetween)) [] (by decide) rfl
  have hFc := va_free (wc := (wl_Sp_needBetween)) hD hS hA [] rfl
  refine x_onV (x_runS (As := [.int p1, .int 0, .int 4]) (rest := []) ⟨hx, hb, hml, hown, hts⟩ (c_Sp_needBetween l htr dC dI (cI := cI) (cZ := cZ) (cJ := cJ) s.heap.size p1 0 4 z1 hb2) (va_cwS 3 hts (gl_S k_484 k_483 k_207 k_482) rfl rfl rfl (by decide +kernel) ⟨Nat.le_of_ble_eq_true rfl, Nat.le_of_ble_eq_true rfl⟩) ⟨PPX_blind, fun U hU hW => PPX_at hK hN hX hPc hDc hFc hU hW⟩ rfl rfl hl.1 rfl (lv_room (Nat.le_of_ble_eq_true rfl)) d_Sp_count_3 ⟨Nat.le_of_ble_eq_true rfl, Nat.le_of_ble_eq_true rfl⟩) hout hlocks (fun E hE => hz3 _ hE) (fun hr => ?_)
  replace hm := hm hr
  refine lv_aload_n hx hb d_Sp_count_6 rfl (lv_at hl 0 rfl) ?_
  obtain ⟨z4, hb5, hz6, hm⟩ := bx0_z hm
  have hPc := hP.sub (ws' := (wl_Sp_needFreshRun a_0 b_0_lines b_0_flood a_0_net b_0_loops b_0_common b_0_names b_0_ways b_0_marked a_0_now r_0_before v_0_runs v_0_stale)) [0] rfl
  have hDc := hD.sub (ws' := (wl_Sp_needFreshRun a_0 b_0_lines b_0_flood a_0_net b_0_loops b_0_common b_0_names b_0_ways b_0_marked a_0_now r_0_before v_0_runs v_0_stale)) [0] (by decide) rfl
  have hFc := va_free (wc := (wl_Sp_needFreshRun a_0 b_0_lines b_0_flood a_0_net b_0_loops b_0_common b_0_names b_0_ways b_0_marked a_0_now r_0_before v_0_runs v_0_stale)) hD hS hA [0] rfl
  refine x_onV (x_runV (As := []) (rest := []) ⟨hx, hb, hml, hown, hts⟩ (c_Sp_needFreshRun l htr dC dI (cI := cI) (cZ := cZ) (cJ := cJ) a_0 b_0_lines b_0_flood a_0_net b_0_loops b_0_common b_0_names b_0_ways b_0_marked s.heap.size a_0_now r_0_before v_0_runs v_0_stale z4 hb5) (cwV 0 hts (gl_V k_516 k_515 k_514 k_207 k_513) rfl rfl rfl (by decide +kernel) ⟨Nat.le_of_ble_eq_true rfl, Nat.le_of_ble_eq_true rfl⟩) ⟨PPX_blind, va_recv hK hPc (ci := 0) (q0 := 0) rfl rfl, fun U hU hW => PPX_at hK hN hX hPc hDc hFc hU hW⟩ rfl rfl hl.1 rfl (lv_room (Nat.le_of_ble_eq_true rfl)) d_Sp_count_7 ⟨Nat.le_of_ble_eq_true rfl, Nat.le_of_ble_eq_true rfl⟩) hout hlocks (fun E hE => hz6 _ hE) (fun hr => ?_)
  replace hm := hm hr
  refine lv_iload_n hx hb d_Sp_count_10 rfl (lv_at hl 1 rfl) ?_
  by_cases c7 : p1 = 0
  · replace hm := if_t hm c7
    refine lv_tableIn (off := 29) (tgt := 40) hx hb d_Sp_count_11 (by rw [c7]; decide) (by rw [c7]; decide) (by rw [c7]; rfl) (by decide) ?_
    refine lv_aload_n hx hb d_Sp_count_40 rfl (lv_at hl 0 rfl) ?_
    refine va_get (D := (dC, dI)) (ci := 0) (v := .ref a_0_now) (C := "SpaceCycles") (T := F_Sp) (N := 12) hx hb hts (in_F i_Sp) hown hK hP 0 rfl rfl 8 (by decide) (hts _ (in_c k_471)) (fun _ h9 => h9) rfl d_Sp_count_41 ?_
    refine va_get (D := (dC, dI)) (ci := 8) (v := .int v_0_now_spaces) (C := "SpaceCycles$Grid") (T := F_Gr) (N := 4) hx hb hts (in_F i_Gr) hown hK hP 3 rfl rfl 3 (by decide) (hts _ (in_c k_472)) (fun _ h9 => h9) rfl d_Sp_count_44 ?_
    cases hm
    exact hret _ rfl _ s.heap [] ls d_Sp_count_47 hP hD hS
  · replace hm := if_f hm c7
    by_cases c8 : p1 = 1
    · replace hm := if_t hm c8
      refine lv_tableIn (off := 37) (tgt := 48) hx hb d_Sp_count_11 (by rw [c8]; decide) (by rw [c8]; decide) (by rw [c8]; rfl) (by decide) ?_
      refine lv_aload_n hx hb d_Sp_count_48 rfl (lv_at hl 0 rfl) ?_
      refine va_get (D := (dC, dI)) (ci := 0) (v := .ref a_0_net) (C := "SpaceCycles") (T := F_Sp) (N := 12) hx hb hts (in_F i_Sp) hown hK hP 0 rfl rfl 2 (by decide) (hts _ (in_c k_517)) (fun _ h9 => h9) rfl d_Sp_count_49 ?_
      refine va_get (D := (dC, dI)) (ci := 3) (v := .int v_0_net_points) (C := "SpaceCycles$Net") (T := F_Ne) (N := 13) hx hb hts (in_F i_Ne) hown hK hP 1 rfl rfl 3 (by decide) (hts _ (in_c k_518)) (fun _ h9 => h9) rfl d_Sp_count_52 ?_
      cases hm
      exact hret _ rfl _ s.heap [] ls d_Sp_count_55 hP hD hS
    · replace hm := if_f hm c8
      by_cases c9 : p1 = 2
      · replace hm := if_t hm c9
        refine lv_tableIn (off := 45) (tgt := 56) hx hb d_Sp_count_11 (by rw [c9]; decide) (by rw [c9]; decide) (by rw [c9]; rfl) (by decide) ?_
        refine lv_aload_n hx hb d_Sp_count_56 rfl (lv_at hl 0 rfl) ?_
        refine va_get (D := (dC, dI)) (ci := 0) (v := .ref a_0_net) (C := "SpaceCycles") (T := F_Sp) (N := 12) hx hb hts (in_F i_Sp) hown hK hP 0 rfl rfl 2 (by decide) (hts _ (in_c k_517)) (fun _ h9 => h9) rfl d_Sp_count_57 ?_
        refine va_get (D := (dC, dI)) (ci := 3) (v := .int v_0_net_pieces) (C := "SpaceCycles$Net") (T := F_Ne) (N := 13) hx hb hts (in_F i_Ne) hown hK hP 1 rfl rfl 4 (by decide) (hts _ (in_c k_519)) (fun _ h9 => h9) rfl d_Sp_count_60 ?_
        cases hm
        exact hret _ rfl _ s.heap [] ls d_Sp_count_63 hP hD hS
      · replace hm := if_f hm c9
        by_cases c10 : p1 = 3
        · replace hm := if_t hm c10
          refine lv_tableIn (off := 53) (tgt := 64) hx hb d_Sp_count_11 (by rw [c10]; decide) (by rw [c10]; decide) (by rw [c10]; rfl) (by decide) ?_
          refine lv_aload_n hx hb d_Sp_count_64 rfl (lv_at hl 0 rfl) ?_
          refine va_get (D := (dC, dI)) (ci := 0) (v := .ref a_0_net) (C := "SpaceCycles") (T := F_Sp) (N := 12) hx hb hts (in_F i_Sp) hown hK hP 0 rfl rfl 2 (by decide) (hts _ (in_c k_517)) (fun _ h9 => h9) rfl d_Sp_count_65 ?_
          refine va_get (D := (dC, dI)) (ci := 3) (v := .int v_0_net_looseEnds) (C := "SpaceCycles$Net") (T := F_Ne) (N := 13) hx hb hts (in_F i_Ne) hown hK hP 1 rfl rfl 5 (by decide) (hts _ (in_c k_520)) (fun _ h9 => h9) rfl d_Sp_count_68 ?_
          cases hm
          exact hret _ rfl _ s.heap [] ls d_Sp_count_71 hP hD hS
        · replace hm := if_f hm c10
          refine lv_tableOut (tgt := 72) hx hb d_Sp_count_11 (by have e0 := tn (z := 0) c7 (by decide); have e1 := tn (z := 1) c8 (by decide); have e2 := tn (z := 2) c9 (by decide); have e3 := tn (z := 3) c10 (by decide); omega) (by decide) ?_
          refine lv_aload_n hx hb d_Sp_count_72 rfl (lv_at hl 0 rfl) ?_
          refine va_get (D := (dC, dI)) (ci := 0) (v := .ref a_0_net) (C := "SpaceCycles") (T := F_Sp) (N := 12) hx hb hts (in_F i_Sp) hown hK hP 0 rfl rfl 2 (by decide) (hts _ (in_c k_517)) (fun _ h9 => h9) rfl d_Sp_count_73 ?_
          refine lv_iconst (v := (-1)) hx hb d_Sp_count_76 (by decide) ?_
          obtain ⟨r11, hb12, hm⟩ := bd1_e hm
          have hPc := hP.sub (ws' := (wl_Ne_sidesOf a_0_net a_0_net_leftSpaces b_0_net_pointX b_0_net_pointY b_0_net_looseSides b_0_net_sidesOut b_0_net_pieceLine b_0_net_begins b_0_net_directions b_0_net_weights b_0_net_pointAt cI v_0_net_points v_0_net_pieces v_0_net_looseEnds f_0_net_leftSpaces)) [1, 2] rfl
          have hDc := hD.sub (ws' := (wl_Ne_sidesOf a_0_net a_0_net_leftSpaces b_0_net_pointX b_0_net_pointY b_0_net_looseSides b_0_net_sidesOut b_0_net_pieceLine b_0_net_begins b_0_net_directions b_0_net_weights b_0_net_pointAt cI v_0_net_points v_0_net_pieces v_0_net_looseEnds f_0_net_leftSpaces)) [1, 2] (by decide) rfl
          refine cl_i (wc' := (wl_Ne_sidesOf a_0_net a_0_net_leftSpaces b_0_net_pointX b_0_net_pointY b_0_net_looseSides b_0_net_sidesOut b_0_net_pieceLine b_0_net_begins b_0_net_directions b_0_net_weights b_0_net_pointAt cI v_0_net_points v_0_net_pieces v_0_net_looseEnds f_0_net_leftSpaces)) (va_runV (As := [.int (-1)]) (rest := []) ⟨hx, hb, hml, hown, hts⟩ (c_Ne_sidesOf l dC dI (cI := cI) (cZ := cZ) (cJ := cJ) a_0_net a_0_net_leftSpaces b_0_net_pointX b_0_net_pointY b_0_net_looseSides b_0_net_sidesOut b_0_net_pieceLine b_0_net_begins b_0_net_directions b_0_net_weights b_0_net_pointAt s.heap.size v_0_net_points v_0_net_pieces v_0_net_looseEnds f_0_net_leftSpaces (-1) r11 hb12) (cwV 1 hts (gl_V k_524 k_523 k_522 k_145 k_521) rfl rfl rfl (by decide +kernel) ⟨Nat.le_of_ble_eq_true rfl, Nat.le_of_ble_eq_true rfl⟩) ⟨PP_blind, va_recv hK hPc (ci := 3) (q0 := 0) rfl rfl, fun U hU hW => PP_at hK hN hPc hDc hU hW⟩ rfl rfl hl.1 rfl (lv_room (Nat.le_of_ble_eq_true rfl)) d_Sp_count_77 ⟨Nat.zero_le _, Nat.zero_le _⟩) hP hD hS hA [1, 2] [0, 3] rfl rfl (by decide) (by decide) (fun H locs hP hD hS => ?_)
          have hP : va_P (dC, dI) vwCl (wl_Sp_count a_0 a_0_net a_0_net_leftSpaces a_0_now b_0_lines b_0_flood b_0_loops b_0_common b_0_names b_0_ways b_0_marked b_0_net_pointX b_0_net_pointY b_0_net_looseSides b_0_net_sidesOut b_0_net_pieceLine b_0_net_begins b_0_net_directions b_0_net_weights b_0_net_pointAt b_0_now_xs b_0_now_ys b_0_now_cells cI a_0_now r_0_before v_0_runs v_0_stale v_0_net_points v_0_net_pieces v_0_net_looseEnds f_0_net_leftSpaces v_0_now_spaces) H := hP.sub [0, 2, 3, 1] rfl
          have hD : va_D A (wl_Sp_count a_0 a_0_net a_0_net_leftSpaces a_0_now b_0_lines b_0_flood b_0_loops b_0_common b_0_names b_0_ways b_0_marked b_0_net_pointX b_0_net_pointY b_0_net_looseSides b_0_net_sidesOut b_0_net_pieceLine b_0_net_begins b_0_net_directions b_0_net_weights b_0_net_pointAt b_0_now_xs b_0_now_ys b_0_now_cells cI a_0_now r_0_before v_0_runs v_0_stale v_0_net_points v_0_net_pieces v_0_net_looseEnds f_0_net_leftSpaces v_0_now_spaces) := hD.sub [0, 2, 3, 1] (by decide) rfl
          cases hm
          exact hret _ rfl _ H locs ls d_Sp_count_80 hP hD hS
set_option maxHeartbeats 4000000 in
set_option maxRecDepth 100000 in
theorem c_Sp_count (l : Launch) (htr : l.stackTraces = false) (dC : Nat → ClassId) (dI : Nat → Nat → Nat) {cI cZ cJ : ClassId} (a_0 a_0_net a_0_net_leftSpaces a_0_now b_0_lines b_0_flood b_0_loops b_0_common b_0_names b_0_ways b_0_marked b_0_net_pointX b_0_net_pointY b_0_net_looseSides b_0_net_sidesOut b_0_net_pieceLine b_0_net_begins b_0_net_directions b_0_net_weights b_0_net_pointAt b_0_now_xs b_0_now_ys b_0_now_cells : Nat) (sz : Nat) (r_0_before : Nat) (v_0_runs : Int32) (v_0_stale : Int32) (v_0_net_points : Int32) (v_0_net_pieces : Int32) (v_0_net_looseEnds : Int32) (f_0_net_leftSpaces : Nat → Int32) (v_0_now_spaces : Int32) (p1 : Int32) (Z : Sum Nat (Int32)) (hm : m_Sp_count p1 v_0_stale v_0_net_points v_0_net_pieces v_0_net_looseEnds f_0_net_leftSpaces v_0_now_spaces = some Z) : XMet l y_Sp_count w_Sp_count rm_Sp_count (PPX dC dI [(cI, .int), (cZ, .boolean), (cJ, .long)] [.ref a_0, .int p1] sz (wl_Sp_count a_0 a_0_net a_0_net_leftSpaces a_0_now b_0_lines b_0_flood b_0_loops b_0_common b_0_names b_0_ways b_0_marked b_0_net_pointX b_0_net_pointY b_0_net_looseSides b_0_net_sidesOut b_0_net_pieceLine b_0_net_begins b_0_net_directions b_0_net_weights b_0_net_pointAt b_0_now_xs b_0_now_ys b_0_now_cells cI a_0_now r_0_before v_0_runs v_0_stale v_0_net_points v_0_net_pieces v_0_net_looseEnds f_0_net_leftSpaces v_0_now_spaces)) (va_Qi (fun (r : Int32) (u : Unit) => Z = Sum.inr r) (fun u t => BB dC dI [(cI, .int), (cZ, .boolean), (cJ, .long)] (va_A (wl_Sp_count a_0 a_0_net a_0_net_leftSpaces a_0_now b_0_lines b_0_flood b_0_loops b_0_common b_0_names b_0_ways b_0_marked b_0_net_pointX b_0_net_pointY b_0_net_looseSides b_0_net_sidesOut b_0_net_pieceLine b_0_net_begins b_0_net_directions b_0_net_weights b_0_net_pointAt b_0_now_xs b_0_now_ys b_0_now_cells cI a_0_now r_0_before v_0_runs v_0_stale v_0_net_points v_0_net_pieces v_0_net_looseEnds f_0_net_leftSpaces v_0_now_spaces) sz) (wl_Sp_count a_0 a_0_net a_0_net_leftSpaces a_0_now b_0_lines b_0_flood b_0_loops b_0_common b_0_names b_0_ways b_0_marked b_0_net_pointX b_0_net_pointY b_0_net_looseSides b_0_net_sidesOut b_0_net_pieceLine b_0_net_begins b_0_net_directions b_0_net_weights b_0_net_pointAt b_0_now_xs b_0_now_ys b_0_now_cells cI a_0_now r_0_before v_0_runs v_0_stale v_0_net_points v_0_net_pieces v_0_net_looseEnds f_0_net_leftSpaces v_0_now_spaces) () t) (va_A (wl_Sp_count a_0 a_0_net a_0_net_leftSpaces a_0_now b_0_lines b_0_flood b_0_loops b_0_common b_0_names b_0_ways b_0_marked b_0_net_pointX b_0_net_pointY b_0_net_looseSides b_0_net_sidesOut b_0_net_pieceLine b_0_net_begins b_0_net_directions b_0_net_weights b_0_net_pointAt b_0_now_xs b_0_now_ys b_0_now_cells cI a_0_now r_0_before v_0_runs v_0_stale v_0_net_points v_0_net_pieces v_0_net_looseEnds f_0_net_leftSpaces v_0_now_spaces) sz)) (fun E => Z = Sum.inl (xk E)) (va_A (wl_Sp_count a_0 a_0_net a_0_net_leftSpaces a_0_now b_0_lines b_0_flood b_0_loops b_0_common b_0_names b_0_ways b_0_marked b_0_net_pointX b_0_net_pointY b_0_net_looseSides b_0_net_sidesOut b_0_net_pieceLine b_0_net_begins b_0_net_directions b_0_net_weights b_0_net_pointAt b_0_now_xs b_0_now_ys b_0_now_cells cI a_0_now r_0_before v_0_runs v_0_stale v_0_net_points v_0_net_pieces v_0_net_looseEnds f_0_net_leftSpaces v_0_now_spaces) sz) := by
  refine XMet.ofW (cc := b_Sp_count) (maxL := 2) (ret := (some .int)) (by decide) rfl ?_
  intro p e s m args below meth c s₁ B hml hout hv
  obtain ⟨rfl, hsz, hP, hK, hD0, hN, hX⟩ := hv
  subst hsz
  have hl := lv_entry ([.ref a_0, .int p1]) (n := 2) (Nat.le_of_ble_eq_true rfl)
  rw [lg_entry_eq]
  generalize (lg_sl ([.ref a_0, .int p1]) ++ List.replicate (2 - (lg_sl ([.ref a_0, .int p1])).length) Slot.unset).toArray = ls at hl ⊢
  exact t_Sp_count (A := va_A (wl_Sp_count a_0 a_0_net a_0_net_leftSpaces a_0_now b_0_lines b_0_flood b_0_loops b_0_common b_0_names b_0_ways b_0_marked b_0_net_pointX b_0_net_pointY b_0_net_looseSides b_0_net_sidesOut b_0_net_pieceLine b_0_net_begins b_0_net_directions b_0_net_weights b_0_net_pointAt b_0_now_xs b_0_now_ys b_0_now_cells cI a_0_now r_0_before v_0_runs v_0_stale v_0_net_points v_0_net_pieces v_0_net_looseEnds f_0_net_leftSpaces v_0_now_spaces) s.heap.size) a_0 a_0_net a_0_net_leftSpaces a_0_now b_0_lines b_0_flood b_0_loops b_0_common b_0_names b_0_ways b_0_marked b_0_net_pointX b_0_net_pointY b_0_net_looseSides b_0_net_sidesOut b_0_net_pieceLine b_0_net_begins b_0_net_directions b_0_net_weights b_0_net_pointAt b_0_now_xs b_0_now_ys b_0_now_cells r_0_before v_0_runs v_0_stale v_0_net_points v_0_net_pieces v_0_net_looseEnds f_0_net_leftSpaces v_0_now_spaces p1 Z htr hX hout B.notSynchronized B.exec B.bytes hml (findClass_of_methodNamed B.named) (atoms_spec (ws := w_Sp_count) B.pre) hK hN (fun q h => Or.inr h) (fun r hz pc H locs ls hd hP9 hD9 hS => x_ret (W.iret B.exec B.bytes B.returns (fun t ht hW => ⟨⟨r, (), rfl, hz, by rw [ht]; exact hP9, va_K.moved hW.alike hK, hD9⟩, hS.F ht⟩) hS.2.2 hd)) hm hP hD0.self va_S.rf ls hl

theorem k_525 : ((.code ⟨"SpaceCycles", "needSpace", "(I)V"⟩ prog_1_method_22_code 2 none) : Cond) ∈ gl := gl_i 918 (by decide +kernel) (by decide +kernel)
theorem k_526 : ((.selects "SpaceCycles" ⟨"SpaceCycles", "needSpace", "(I)V"⟩ ⟨"SpaceCycles", "needSpace", "(I)V"⟩) : Cond) ∈ gl := gl_s (by decide +kernel) (by decide +kernel)
theorem k_527 : ((.instanceMethod ⟨"SpaceCycles", "needSpace", "(I)V"⟩) : Cond) ∈ gl := gl_i 917 (by decide +kernel) (by decide +kernel)
theorem k_528 : ((.methodLink "SpaceCycles" 199 ⟨"SpaceCycles", "needSpace", "(I)V"⟩) : Cond) ∈ gl := gl_i 915 (by decide +kernel) (by decide +kernel)
theorem k_529 : ((.code ⟨"SpaceCycles$Rings", "ringsOf", "(I)I"⟩ prog_9_method_4_code 4 (some .int)) : Cond) ∈ gl := gl_i 923 (by decide +kernel) (by decide +kernel)
theorem k_530 : ((.selects "SpaceCycles$Rings" ⟨"SpaceCycles$Rings", "ringsOf", "(I)I"⟩ ⟨"SpaceCycles$Rings", "ringsOf", "(I)I"⟩) : Cond) ∈ gl := gl_i 922 (by decide +kernel) (by decide +kernel)
theorem k_531 : ((.instanceMethod ⟨"SpaceCycles$Rings", "ringsOf", "(I)I"⟩) : Cond) ∈ gl := gl_i 921 (by decide +kernel) (by decide +kernel)
theorem k_532 : ((.methodLink "SpaceCycles" 202 ⟨"SpaceCycles$Rings", "ringsOf", "(I)I"⟩) : Cond) ∈ gl := gl_i 920 (by decide +kernel) (by decide +kernel)
-- SpaceCycles.rings(I)I: may throw
abbrev b_Sp_rings : ByteArray := prog_1_method_7_code
abbrev y_Sp_rings : MethodName := ⟨"SpaceCycles", "rings", "(I)I"⟩
abbrev w_Sp_rings : List Cond := Cond.code y_Sp_rings b_Sp_rings 2 (some .int) :: gl
abbrev rm_Sp_rings : Room := { frames := 9, cells := 1, slots := 6, locals := 221 }
theorem d_Sp_rings_0 : decode b_Sp_rings 0 = .ok (.aload_n 0, 1) := by decide +kernel
theorem d_Sp_rings_1 : decode b_Sp_rings 1 = .ok (.iload_n 1, 1) := by decide +kernel
theorem d_Sp_rings_2 : decode b_Sp_rings 2 = .ok (.invokevirtual 199, 3) := by decide +kernel
theorem d_Sp_rings_5 : decode b_Sp_rings 5 = .ok (.aload_n 0, 1) := by decide +kernel
theorem d_Sp_rings_6 : decode b_Sp_rings 6 = .ok (.invokevirtual 184, 3) := by decide +kernel
theorem d_Sp_rings_9 : decode b_Sp_rings 9 = .ok (.aload_n 0, 1) := by decide +kernel
theorem d_Sp_rings_10 : decode b_Sp_rings 10 = .ok (.getfield 33, 3) := by decide +kernel
theorem d_Sp_rings_13 : decode b_Sp_rings 13 = .ok (.iload_n 1, 1) := by decide +kernel
theorem d_Sp_rings_14 : decode b_Sp_rings 14 = .ok (.invokevirtual 202, 3) := by decide +kernel
theorem d_Sp_rings_17 : decode b_Sp_rings 17 = .ok (.ireturn, 1) := by decide +kernel
abbrev wl_Sp_rings (a_0 : Nat) (a_0_loops : Nat) (a_0_loops_spaces : Nat) (a_0_now : Nat) (b_0_lines : Nat) (b_0_flood : Nat) (b_0_net : Nat) (b_0_common : Nat) (b_0_names : Nat) (b_0_ways : Nat) (b_0_marked : Nat) (b_0_loops_order : Nat) (b_0_loops_gone : Nat) (b_0_loops_starts : Nat) (b_0_now_xs : Nat) (b_0_now_ys : Nat) (b_0_now_cells : Nat) (cI : ClassId) (r_0_now : Nat) (r_0_before : Nat) (v_0_runs : Int32) (v_0_stale : Int32) (v_0_loops_count : Int32) (v_0_loops_filled : Int32) (f_0_loops_spaces : Nat → Int32) (v_0_now_spaces : Int32) : va_W := [(a_0, .inr (0, [.ref b_0_lines, .ref b_0_flood, .ref b_0_net, .ref a_0_loops, .ref b_0_common, .ref b_0_names, .ref b_0_ways, .ref b_0_marked, .ref r_0_now, .ref r_0_before, .int v_0_runs, .int v_0_stale])), (a_0_loops, .inr (4, [.ref b_0_loops_order, .ref b_0_loops_gone, .ref b_0_loops_starts, .ref a_0_loops_spaces, .int v_0_loops_count, .int v_0_loops_filled])), (a_0_loops_spaces, .inl (cI, 220, .inl f_0_loops_spaces)), (a_0_now, .inr (8, [.ref b_0_now_xs, .ref b_0_now_ys, .ref b_0_now_cells, .int v_0_now_spaces]))]
def m_Sp_rings (p1 : Int32) (v_0_stale : Int32) (v_0_loops_count : Int32) (f_0_loops_spaces : Nat → Int32) (v_0_now_spaces : Int32) : Option (Sum Nat (Int32)) :=
  bx0 (m_Sp_needSpace p1 v_0_now_spaces) <|
  bx0 (m_Sp_needFreshRun v_0_stale) <|
  bd1 (m_Ri_ringsOf p1 v_0_loops_count f_0_loops_spaces) fun r7 =>
  some (Sum.inr r7)

set_option maxHeartbeats 4000000 in
set_option maxRecDepth 100000 in
theorem t_Sp_rings {p : Program} {l : Launch} {e : Env} {s : State} {m : MethodId} {args : Array Value} {below : List Frame} {meth : Method} {c : Code} {A : Nat → Prop} {dC : Nat → ClassId} {dI : Nat → Nat → Nat} {cI cZ cJ : ClassId} {Qc : Array Value → State → Outcome → State → Prop} {free : Addr → Prop} (a_0 a_0_loops a_0_loops_spaces a_0_now b_0_lines b_0_flood b_0_net b_0_common b_0_names b_0_ways b_0_marked b_0_loops_order b_0_loops_gone b_0_loops_starts b_0_now_xs b_0_now_ys b_0_now_cells : Nat) (r_0_before : Nat) (v_0_runs : Int32) (v_0_stale : Int32) (v_0_loops_count : Int32) (v_0_loops_filled : Int32) (f_0_loops_spaces : Nat → Int32) (v_0_now_spaces : Int32) (p1 : Int32) (Z : Sum Nat (Int32)) (htr : l.stackTraces = false) (hX : TX A s s.heap) (hout : c.exceptionTable.toList = []) (hlocks : meth.locks = false) (hx : p.tables.exec = Jvm.exec) (hb : c.code = b_Sp_rings) (hml : c.maxLocals = 2) (hown : s.vm.findClass "SpaceCycles" = some m.cls) (hts : ∀ w ∈ w_Sp_rings, w.before args s = true) (hK : va_K (dC, dI) vwCl [(cI, .int), (cZ, .boolean), (cJ, .long)] s) (hN : NX s) (hA : ∀ q : Nat, s.heap.size ≤ q → A q)
    (hret : ∀ r : Int32, Z = Sum.inr r → ∀ (pc : Nat) (H : Heap) (locs : List Loc) (ls : Array Slot), decode b_Sp_rings pc = .ok (.ireturn, 1) → va_P (dC, dI) vwCl (wl_Sp_rings a_0 a_0_loops a_0_loops_spaces a_0_now b_0_lines b_0_flood b_0_net b_0_common b_0_names b_0_ways b_0_marked b_0_loops_order b_0_loops_gone b_0_loops_starts b_0_now_xs b_0_now_ys b_0_now_cells cI a_0_now r_0_before v_0_runs v_0_stale v_0_loops_count v_0_loops_filled f_0_loops_spaces v_0_now_spaces) H → va_D A (wl_Sp_rings a_0 a_0_loops a_0_loops_spaces a_0_now b_0_lines b_0_flood b_0_net b_0_common b_0_names b_0_ways b_0_marked b_0_loops_order b_0_loops_gone b_0_loops_starts b_0_now_xs b_0_now_ys b_0_now_cells cI a_0_now r_0_before v_0_runs v_0_stale v_0_loops_count v_0_loops_filled f_0_loops_spaces v_0_now_spaces) → va_S A s.heap H locs → W p l e rm_Sp_rings s m args below meth c H locs 0 0 (XMQ below Qc (fun E => Z = Sum.inl (xk E)) args s free) (F0 m pc ls [.int r]))
    (hm : m_Sp_rings p1 v_0_stale v_0_loops_count f_0_loops_spaces v_0_now_spaces = some Z) (hP : va_P (dC, dI) vwCl (wl_Sp_rings a_0 a_0_loops a_0_loops_spaces a_0_now b_0_lines b_0_flood b_0_net b_0_common b_0_names b_0_ways b_0_marked b_0_loops_order b_0_loops_gone b_0_loops_starts b_0_now_xs b_0_now_ys b_0_now_cells cI a_0_now r_0_before v_0_runs v_0_stale v_0_loops_count v_0_loops_filled f_0_loops_spaces v_0_now_spaces) s.heap) (hD : va_D A (wl_Sp_rings a_0 a_0_loops a_0_loops_spaces a_0_now b_0_lines b_0_flood b_0_net b_0_common b_0_names b_0_ways b_0_marked b_0_loops_order b_0_loops_gone b_0_loops_starts b_0_now_xs b_0_now_ys b_0_now_cells cI a_0_now r_0_before v_0_runs v_0_stale v_0_loops_count v_0_loops_filled f_0_loops_spaces v_0_now_spaces)) (hS : va_S A s.heap s.heap []) : ∀ ls : Array Slot, lv_has ls 2 [(0, .ref a_0), (1, .int p1)] → W p l e rm_Sp_rings s m args below meth c s.heap [] 0 0 (XMQ below Qc (fun E => Z = Sum.inl (xk E)) args s free) (F0 m 0 ls []) := by
  intro ls hl
  unfold m_Sp_rings at hm
  refine lv_aload_n hx hb d_Sp_rings_0 rfl (lv_at hl 0 rfl) ?_
  refine lv_iload_n hx hb d_Sp_rings_1 rfl (lv_at hl 1 rfl) ?_
  obtain ⟨z1, hb2, hz3, hm⟩ := bx0_z hm
  have hPc := hP.sub (ws' := (wl_Sp_needSpace a_0 a_0_now b_0_lines b_0_flood b_0_net a_0_loops b_0_common b_0_names b_0_ways b_0_marked b_0_now_xs b_0_now_ys b_0_now_cells a_0_now r_0_before v_0_runs v_0_stale v_0_now_spaces)) [0, 3] rfl
  have hDc := hD.sub (ws' := (wl_Sp_needSpace a_0 a_0_now b_0_lines b_0_flood b_0_net a_0_loops b_0_common b_0_names b_0_ways b_0_marked b_0_now_xs b_0_now_ys b_0_now_cells a_0_now r_0_before v_0_runs v_0_stale v_0_now_spaces)) [0, 3] (by decide) rfl
  have hFc := va_free (wc := (wl_Sp_needSpace a_0 a_0_now b_0_lines b_0_flood b_0_net a_0_loops b_0_common b_0_names b_0_ways b_0_marked b_0_now_xs b_0_now_ys b_0_now_cells a_0_now r_0_before v_0_runs v_0_stale v_0_now_spaces)) hD hS hA [0, 3] rfl
  refine x_onV (x_runV (As := [.int p1]) (rest := []) ⟨hx, hb, hml, hown, hts⟩ (c_Sp_needSpace l htr dC dI (cI := cI) (cZ := cZ) (cJ := cJ) a_0 a_0_now b_0_lines b_0_flood b_0_net a_0_loops b_0_common b_0_names b_0_ways b_0_marked b_0_now_xs b_0_now_ys b_0_now_cells s.heap.size r_0_before v_0_runs v_0_stale v_0_now_spaces p1 z1 hb2) (cwV 1 hts (gl_V k_528 k_527 k_526 k_207 k_525) rfl rfl rfl (by decide +kernel) ⟨Nat.le_of_ble_eq_true rfl, Nat.le_of_ble_eq_true rfl⟩) ⟨PPX_blind, va_recv hK hPc (ci := 0) (q0 := 0) rfl rfl, fun U hU hW => PPX_at hK hN hX hPc hDc hFc hU hW⟩ rfl rfl hl.1 rfl (lv_room (Nat.le_of_ble_eq_true rfl)) d_Sp_rings_2 ⟨Nat.le_of_ble_eq_true rfl, Nat.le_of_ble_eq_true rfl⟩) hout hlocks (fun E hE => hz3 _ hE) (fun hr => ?_)
  replace hm := hm hr
  refine lv_aload_n hx hb d_Sp_rings_5 rfl (lv_at hl 0 rfl) ?_
  obtain ⟨z4, hb5, hz6, hm⟩ := bx0_z hm
  have hPc := hP.sub (ws' := (wl_Sp_needFreshRun a_0 b_0_lines b_0_flood b_0_net a_0_loops b_0_common b_0_names b_0_ways b_0_marked a_0_now r_0_before v_0_runs v_0_stale)) [0] rfl
  have hDc := hD.sub (ws' := (wl_Sp_needFreshRun a_0 b_0_lines b_0_flood b_0_net a_0_loops b_0_common b_0_names b_0_ways b_0_marked a_0_now r_0_before v_0_runs v_0_stale)) [0] (by decide) rfl
  have hFc := va_free (wc := (wl_Sp_needFreshRun a_0 b_0_lines b_0_flood b_0_net a_0_loops b_0_common b_0_names b_0_ways b_0_marked a_0_now r_0_before v_0_runs v_0_stale)) hD hS hA [0] rfl
  refine x_onV (x_runV (As := []) (rest := []) ⟨hx, hb, hml, hown, hts⟩ (c_Sp_needFreshRun l htr dC dI (cI := cI) (cZ := cZ) (cJ := cJ) a_0 b_0_lines b_0_flood b_0_net a_0_loops b_0_common b_0_names b_0_ways b_0_marked s.heap.size a_0_now r_0_before v_0_runs v_0_stale z4 hb5) (cwV 0 hts (gl_V k_516 k_515 k_514 k_207 k_513) rfl rfl rfl (by decide +kernel) ⟨Nat.le_of_ble_eq_true rfl, Nat.le_of_ble_eq_true rfl⟩) ⟨PPX_blind, va_recv hK hPc (ci := 0) (q0 := 0) rfl rfl, fun U hU hW => PPX_at hK hN hX hPc hDc hFc hU hW⟩ rfl rfl hl.1 rfl (lv_room (Nat.le_of_ble_eq_true rfl)) d_Sp_rings_6 ⟨Nat.le_of_ble_eq_true rfl, Nat.le_of_ble_eq_true rfl⟩) hout hlocks (fun E hE => hz6 _ hE) (fun hr => ?_)
  replace hm := hm hr
  refine lv_aload_n hx hb d_Sp_rings_9 rfl (lv_at hl 0 rfl) ?_
  refine va_get (D := (dC, dI)) (ci := 0) (v := .ref a_0_loops) (C := "SpaceCycles") (T := F_Sp) (N := 12) hx hb hts (in_F i_Sp) hown hK hP 0 rfl rfl 3 (by decide) (hts _ (in_c k_473)) (fun _ h9 => h9) rfl d_Sp_rings_10 ?_
  refine lv_iload_n hx hb d_Sp_rings_13 rfl (lv_at hl 1 rfl) ?_
  obtain ⟨r7, hb8, hm⟩ := bd1_e hm
  have hPc := hP.sub (ws' := (wl_Ri_ringsOf a_0_loops a_0_loops_spaces b_0_loops_order b_0_loops_gone b_0_loops_starts cI v_0_loops_count v_0_loops_filled f_0_loops_spaces)) [1, 2] rfl
  have hDc := hD.sub (ws' := (wl_Ri_ringsOf a_0_loops a_0_loops_spaces b_0_loops_order b_0_loops_gone b_0_loops_starts cI v_0_loops_count v_0_loops_filled f_0_loops_spaces)) [1, 2] (by decide) rfl
  refine cl_i (wc' := (wl_Ri_ringsOf a_0_loops a_0_loops_spaces b_0_loops_order b_0_loops_gone b_0_loops_starts cI v_0_loops_count v_0_loops_filled f_0_loops_spaces)) (va_runV (As := [.int p1]) (rest := []) ⟨hx, hb, hml, hown, hts⟩ (c_Ri_ringsOf l dC dI (cI := cI) (cZ := cZ) (cJ := cJ) a_0_loops a_0_loops_spaces b_0_loops_order b_0_loops_gone b_0_loops_starts s.heap.size v_0_loops_count v_0_loops_filled f_0_loops_spaces p1 r7 hb8) (cwV 1 hts (gl_V k_532 k_531 k_530 k_241 k_529) rfl rfl rfl (by decide +kernel) ⟨Nat.le_of_ble_eq_true rfl, Nat.le_of_ble_eq_true rfl⟩) ⟨PP_blind, va_recv hK hPc (ci := 4) (q0 := 0) rfl rfl, fun U hU hW => PP_at hK hN hPc hDc hU hW⟩ rfl rfl hl.1 rfl (lv_room (Nat.le_of_ble_eq_true rfl)) d_Sp_rings_14 ⟨Nat.zero_le _, Nat.zero_le _⟩) hP hD hS hA [1, 2] [0, 3] rfl rfl (by decide) (by decide) (fun H locs hP hD hS => ?_)
  have hP : va_P (dC, dI) vwCl (wl_Sp_rings a_0 a_0_loops a_0_loops_spaces a_0_now b_0_lines b_0_flood b_0_net b_0_common b_0_names b_0_ways b_0_marked b_0_loops_order b_0_loops_gone b_0_loops_starts b_0_now_xs b_0_now_ys b_0_now_cells cI a_0_now r_0_before v_0_runs v_0_stale v_0_loops_count v_0_loops_filled f_0_loops_spaces v_0_now_spaces) H := hP.sub [0, 2, 3, 1] rfl
  have hD : va_D A (wl_Sp_rings a_0 a_0_loops a_0_loops_spaces a_0_now b_0_lines b_0_flood b_0_net b_0_common b_0_names b_0_ways b_0_marked b_0_loops_order b_0_loops_gone b_0_loops_starts b_0_now_xs b_0_now_ys b_0_now_cells cI a_0_now r_0_before v_0_runs v_0_stale v_0_loops_count v_0_loops_filled f_0_loops_spaces v_0_now_spaces) := hD.sub [0, 2, 3, 1] (by decide) rfl
  cases hm
  exact hret _ rfl _ H locs ls d_Sp_rings_17 hP hD hS
set_option maxHeartbeats 4000000 in
set_option maxRecDepth 100000 in
theorem c_Sp_rings (l : Launch) (htr : l.stackTraces = false) (dC : Nat → ClassId) (dI : Nat → Nat → Nat) {cI cZ cJ : ClassId} (a_0 a_0_loops a_0_loops_spaces a_0_now b_0_lines b_0_flood b_0_net b_0_common b_0_names b_0_ways b_0_marked b_0_loops_order b_0_loops_gone b_0_loops_starts b_0_now_xs b_0_now_ys b_0_now_cells : Nat) (sz : Nat) (r_0_before : Nat) (v_0_runs : Int32) (v_0_stale : Int32) (v_0_loops_count : Int32) (v_0_loops_filled : Int32) (f_0_loops_spaces : Nat → Int32) (v_0_now_spaces : Int32) (p1 : Int32) (Z : Sum Nat (Int32)) (hm : m_Sp_rings p1 v_0_stale v_0_loops_count f_0_loops_spaces v_0_now_spaces = some Z) : XMet l y_Sp_rings w_Sp_rings rm_Sp_rings (PPX dC dI [(cI, .int), (cZ, .boolean), (cJ, .long)] [.ref a_0, .int p1] sz (wl_Sp_rings a_0 a_0_loops a_0_loops_spaces a_0_now b_0_lines b_0_flood b_0_net b_0_common b_0_names b_0_ways b_0_marked b_0_loops_order b_0_loops_gone b_0_loops_starts b_0_now_xs b_0_now_ys b_0_now_cells cI a_0_now r_0_before v_0_runs v_0_stale v_0_loops_count v_0_loops_filled f_0_loops_spaces v_0_now_spaces)) (va_Qi (fun (r : Int32) (u : Unit) => Z = Sum.inr r) (fun u t => BB dC dI [(cI, .int), (cZ, .boolean), (cJ, .long)] (va_A (wl_Sp_rings a_0 a_0_loops a_0_loops_spaces a_0_now b_0_lines b_0_flood b_0_net b_0_common b_0_names b_0_ways b_0_marked b_0_loops_order b_0_loops_gone b_0_loops_starts b_0_now_xs b_0_now_ys b_0_now_cells cI a_0_now r_0_before v_0_runs v_0_stale v_0_loops_count v_0_loops_filled f_0_loops_spaces v_0_now_spaces) sz) (wl_Sp_rings a_0 a_0_loops a_0_loops_spaces a_0_now b_0_lines b_0_flood b_0_net b_0_common b_0_names b_0_ways b_0_marked b_0_loops_order b_0_loops_gone b_0_loops_starts b_0_now_xs b_0_now_ys b_0_now_cells cI a_0_now r_0_before v_0_runs v_0_stale v_0_loops_count v_0_loops_filled f_0_loops_spaces v_0_now_spaces) () t) (va_A (wl_Sp_rings a_0 a_0_loops a_0_loops_spaces a_0_now b_0_lines b_0_flood b_0_net b_0_common b_0_names b_0_ways b_0_marked b_0_loops_order b_0_loops_gone b_0_loops_starts b_0_now_xs b_0_now_ys b_0_now_cells cI a_0_now r_0_before v_0_runs v_0_stale v_0_loops_count v_0_loops_filled f_0_loops_spaces v_0_now_spaces) sz)) (fun E => Z = Sum.inl (xk E)) (va_A (wl_Sp_rings a_0 a_0_loops a_0_loops_spaces a_0_now b_0_lines b_0_flood b_0_net b_0_common b_0_names b_0_ways b_0_marked b_0_loops_order b_0_loops_gone b_0_loops_starts b_0_now_xs b_0_now_ys b_0_now_cells cI a_0_now r_0_before v_0_runs v_0_stale v_0_loops_count v_0_loops_filled f_0_loops_spaces v_0_now_spaces) sz) := by
  refine XMet.ofW (cc := b_Sp_rings) (maxL := 2) (ret := (some .int)) (by decide) rfl ?_
  intro p e s m args below meth c s₁ B hml hout hv
  obtain ⟨rfl, hsz, hP, hK, hD0, hN, hX⟩ := hv
  subst hsz
  have hl := lv_entry ([.ref a_0, .int p1]) (n := 2) (Nat.le_of_ble_eq_true rfl)
  rw [lg_entry_eq]
  generalize (lg_sl ([.ref a_0, .int p1]) ++ List.replicate (2 - (lg_sl ([.ref a_0, .int p1])).length) Slot.unset).toArray = ls at hl ⊢
  exact t_Sp_rings (A := va_A (wl_Sp_rings a_0 a_0_loops a_0_loops_spaces a_0_now b_0_lines b_0_flood b_0_net b_0_common b_0_names b_0_ways b_0_marked b_0_loops_order b_0_loops_gone b_0_loops_starts b_0_now_xs b_0_now_ys b_0_now_cells cI a_0_now r_0_before v_0_runs v_0_stale v_0_loops_count v_0_loops_filled f_0_loops_spaces v_0_now_spaces) s.heap.size) a_0 a_0_loops a_0_loops_spaces a_0_now b_0_lines b_0_flood b_0_net b_0_common b_0_names b_0_ways b_0_marked b_0_loops_order b_0_loops_gone b_0_loops_starts b_0_now_xs b_0_now_ys b_0_now_cells r_0_before v_0_runs v_0_stale v_0_loops_count v_0_loops_filled f_0_loops_spaces v_0_now_spaces p1 Z htr hX hout B.notSynchronized B.exec B.bytes hml (findClass_of_methodNamed B.named) (atoms_spec (ws := w_Sp_rings) B.pre) hK hN (fun q h => Or.inr h) (fun r hz pc H locs ls hd hP9 hD9 hS => x_ret (W.iret B.exec B.bytes B.returns (fun t ht hW => ⟨⟨r, (), rfl, hz, by rw [ht]; exact hP9, va_K.moved hW.alike hK, hD9⟩, hS.F ht⟩) hS.2.2 hd)) hm hP hD0.self va_S.rf ls hl

theorem k_533 : ((.code ⟨"SpaceCycles", "needRing", "(II)I"⟩ prog_1_method_24_code 4 (some .int)) : Cond) ∈ gl := gl_i 934 (by decide +kernel) (by decide +kernel)
theorem k_534 : ((.selects "SpaceCycles" ⟨"SpaceCycles", "needRing", "(II)I"⟩ ⟨"SpaceCycles", "needRing", "(II)I"⟩) : Cond) ∈ gl := gl_s (by decide +kernel) (by decide +kernel)
theorem k_535 : ((.instanceMethod ⟨"SpaceCycles", "needRing", "(II)I"⟩) : Cond) ∈ gl := gl_i 933 (by decide +kernel) (by decide +kernel)
theorem k_536 : ((.methodLink "SpaceCycles" 205 ⟨"SpaceCycles", "needRing", "(II)I"⟩) : Cond) ∈ gl := gl_i 931 (by decide +kernel) (by decide +kernel)
theorem k_537 : ((.code ⟨"SpaceCycles$Rings", "lengthOf", "(I)I"⟩ prog_9_method_6_code 2 (some .int)) : Cond) ∈ gl := gl_i 943 (by decide +kernel) (by decide +kernel)
theorem k_538 : ((.selects "SpaceCycles$Rings" ⟨"SpaceCycles$Rings", "lengthOf", "(I)I"⟩ ⟨"SpaceCycles$Rings", "lengthOf", "(I)I"⟩) : Cond) ∈ gl := gl_i 942 (by decide +kernel) (by decide +kernel)
theorem k_539 : ((.instanceMethod ⟨"SpaceCycles$Rings", "lengthOf", "(I)I"⟩) : Cond) ∈ gl := gl_i 941 (by decide +kernel) (by decide +kernel)
theorem k_540 : ((.methodLink "SpaceCycles" 208 ⟨"SpaceCycles$Rings", "lengthOf", "(I)I"⟩) : Cond) ∈ gl := gl_i 940 (by decide +kernel) (by decide +kernel)
-- SpaceCycles.sides(II)I: may throw
abbrev b_Sp_sides : ByteArray := prog_1_method_8_code
abbrev y_Sp_sides : MethodName := ⟨"SpaceCycles", "sides", "(II)I"⟩
abbrev w_Sp_sides : List Cond := Cond.code y_Sp_sides b_Sp_sides 4 (some .int) :: gl
abbrev rm_Sp_sides : Room := { frames := 9, cells := 1, slots := 6, locals := 223 }
theorem d_Sp_sides_0 : decode b_Sp_sides 0 = .ok (.aload_n 0, 1) := by decide +kernel
theorem d_Sp_sides_1 : decode b_Sp_sides 1 = .ok (.iload_n 1, 1) := by decide +kernel
theorem d_Sp_sides_2 : decode b_Sp_sides 2 = .ok (.invokevirtual 199, 3) := by decide +kernel
theorem d_Sp_sides_5 : decode b_Sp_sides 5 = .ok (.aload_n 0, 1) := by decide +kernel
theorem d_Sp_sides_6 : decode b_Sp_sides 6 = .ok (.iload_n 1, 1) := by decide +kernel
theorem d_Sp_sides_7 : decode b_Sp_sides 7 = .ok (.iload_n 2, 1) := by decide +kernel
theorem d_Sp_sides_8 : decode b_Sp_sides 8 = .ok (.invokevirtual 205, 3) := by decide +kernel
theorem d_Sp_sides_11 : decode b_Sp_sides 11 = .ok (.istore_n 3, 1) := by decide +kernel
theorem d_Sp_sides_12 : decode b_Sp_sides 12 = .ok (.aload_n 0, 1) := by decide +kernel
theorem d_Sp_sides_13 : decode b_Sp_sides 13 = .ok (.invokevirtual 184, 3) := by decide +kernel
theorem d_Sp_sides_16 : decode b_Sp_sides 16 = .ok (.aload_n 0, 1) := by decide +kernel
theorem d_Sp_sides_17 : decode b_Sp_sides 17 = .ok (.getfield 33, 3) := by decide +kernel
theorem d_Sp_sides_20 : decode b_Sp_sides 20 = .ok (.iload_n 3, 1) := by decide +kernel
theorem d_Sp_sides_21 : decode b_Sp_sides 21 = .ok (.invokevirtual 208, 3) := by decide +kernel
theorem d_Sp_sides_24 : decode b_Sp_sides 24 = .ok (.ireturn, 1) := by decide +kernel
abbrev wl_Sp_sides (a_0 : Nat) (a_0_loops : Nat) (a_0_loops_starts : Nat) (a_0_loops_spaces : Nat) (a_0_now : Nat) (b_0_lines : Nat) (b_0_flood : Nat) (b_0_net : Nat) (b_0_common : Nat) (b_0_names : Nat) (b_0_ways : Nat) (b_0_marked : Nat) (b_0_loops_order : Nat) (b_0_loops_gone : Nat) (b_0_now_xs : Nat) (b_0_now_ys : Nat) (b_0_now_cells : Nat) (cI : ClassId) (r_0_now : Nat) (r_0_before : Nat) (v_0_runs : Int32) (v_0_stale : Int32) (v_0_loops_count : Int32) (v_0_loops_filled : Int32) (f_0_loops_starts : Nat → Int32) (f_0_loops_spaces : Nat → Int32) (v_0_now_spaces : Int32) : va_W := [(a_0, .inr (0, [.ref b_0_lines, .ref b_0_flood, .ref b_0_net, .ref a_0_loops, .ref b_0_common, .ref b_0_names, .ref b_0_ways, .ref b_0_marked, .ref r_0_now, .ref r_0_before, .int v_0_runs, .int v_0_stale])), (a_0_loops, .inr (4, [.ref b_0_loops_order, .ref b_0_loops_gone, .ref a_0_loops_starts, .ref a_0_loops_spaces, .int v_0_loops_count, .int v_0_loops_filled])), (a_0_loops_starts, .inl (cI, 221, .inl f_0_loops_starts)), (a_0_loops_spaces, .inl (cI, 220, .inl f_0_loops_spaces)), (a_0_now, .inr (8, [.ref b_0_now_xs, .ref b_0_now_ys, .ref b_0_now_cells, .int v_0_now_spaces]))]
def m_Sp_sides (p1 : Int32) (p2 : Int32) (v_0_stale : Int32) (v_0_loops_count : Int32) (f_0_loops_starts : Nat → Int32) (f_0_loops_spaces : Nat → Int32) (v_0_now_spaces : Int32) : Option (Sum Nat (Int32)) :=
  bx0 (m_Sp_needSpace p1 v_0_now_spaces) <|
  bx1 (m_Sp_needRing p1 p2 v_0_loops_count f_0_loops_spaces) fun r4 =>
  bx0 (m_Sp_needFreshRun v_0_stale) <|
  bd1 (m_Ri_lengthOf r4 f_0_loops_starts) fun r11 =>
  some (Sum.inr r11)

set_option maxHeartbeats 4000000 in
set_option maxRecDepth 100000 in
theorem t_Sp_sides {p : Program} {l : Launch} {e : Env} {s : State} {m : MethodId} {args : Array Value} {below : List Frame} {meth : Method} {c : Code} {A : Nat → Prop} {dC : Nat → ClassId} {dI : Nat → Nat → Nat} {cI cZ cJ : ClassId} {Qc : Array Value → State → Outcome → State → Prop} {free : Addr → Prop} (a_0 a_0_loops a_0_loops_starts a_0_loops_spaces a_0_now b_0_lines b_0_flood b_0_net b_0_common b_0_names b_0_ways b_0_marked b_0_loops_order b_0_loops_gone b_0_now_xs b_0_now_ys b_0_now_cells : Nat) (r_0_before : Nat) (v_0_runs : Int32) (v_0_stale : Int32) (v_0_loops_count : Int32) (v_0_loops_filled : Int32) (f_0_loops_starts : Nat → Int32) (f_0_loops_spaces : Nat → Int32) (v_0_now_spaces : Int32) (p1 : Int32) (p2 : Int32) (Z : Sum Nat (Int32)) (htr : l.stackTraces = false) (hX : TX A s s.heap) (hout : c.exceptionTable.toList = []) (hlocks : meth.locks = false) (hx : p.tables.exec = Jvm.exec) (hb : c.code = b_Sp_sides) (hml : c.maxLocals = 4) (hown : s.vm.findClass "SpaceCycles" = some m.cls) (hts : ∀ w ∈ w_Sp_sides, w.before args s = true) (hK : va_K (dC, dI) vwCl [(cI, .int), (cZ, .boolean), (cJ, .long)] s) (hN : NX s) (hA : ∀ q : Nat, s.heap.size ≤ q → A q)
    (hret : ∀ r : Int32, Z = Sum.inr r → ∀ (pc : Nat) (ls : Array Slot), decode b_Sp_sides pc = .ok (.ireturn, 1) → W p l e rm_Sp_sides s m args below meth c s.heap [] 0 0 (XMQ below Qc (fun E => Z = Sum.inl (xk E)) args s free) (F0 m pc ls [.int r]))
    (hm : m_Sp_sides p1 p2 v_0_stale v_0_loops_count f_0_loops_starts f_0_loops_spaces v_0_now_spaces = some Z) (hP : va_P (dC, dI) vwCl (wl_Sp_sides a_0 a_0_loops a_0_loops_starts a_0_loops_spaces a_0_now b_0_lines b_0_flood b_0_net b_0_common b_0_names b_0_ways b_0_marked b_0_loops_order b_0_loops_gone b_0_now_xs b_0_now_ys b_0_now_cells cI a_0_now r_0_before v_0_runs v_0_stale v_0_loops_count v_0_loops_filled f_0_loops_starts f_0_loops_spaces v_0_now_spaces) s.heap) (hD : va_D A (wl_Sp_sides a_0 a_0_loops a_0_loops_starts a_0_loops_spaces a_0_now b_0_lines b_0_flood b_0_net b_0_common b_0_names b_0_ways b_0_marked b_0_loops_order b_0_loops_gone b_0_now_xs b_0_now_ys b_0_now_cells cI a_0_now r_0_before v_0_runs v_0_stale v_0_loops_count v_0_loops_filled f_0_loops_starts f_0_loops_spaces v_0_now_spaces)) (hS : va_S A s.heap s.heap []) : ∀ ls : Array Slot, lv_has ls 4 [(0, .ref a_0), (1, .int p1), (2, .int p2)] → W p l e rm_Sp_sides s m args below meth c s.heap [] 0 0 (XMQ below Qc (fun E => Z = Sum.inl (xk E)) args s free) (F0 m 0 ls []) := by
  intro ls hl
  unfold m_Sp_sides at hm
  refine lv_aload_n hx hb d_Sp_sides_0 rfl (lv_at hl 0 rfl) ?_
  refine lv_iload_n hx hb d_Sp_sides_1 rfl (lv_at hl 1 rfl) ?_
  obtain ⟨z1, hb2, hz3, hm⟩ := bx0_z hm
  have hPc := hP.sub (ws' := (wl_Sp_needSpace a_0 a_0_now b_0_lines b_0_flood b_0_net a_0_loops b_0_common b_0_names b_0_ways b_0_marked b_0_now_xs b_0_now_ys b_0_now_cells a_0_now r_0_before v_0_runs v_0_stale v_0_now_spaces)) [0, 4] rfl
  have hDc := hD.sub (ws' := (wl_Sp_needSpace a_0 a_0_now b_0_lines b_0_flood b_0_net a_0_loops b_0_common b_0_names b_0_ways b_0_marked b_0_now_xs b_0_now_ys b_0_now_cells a_0_now r_0_before v_0_runs v_0_stale v_0_now_spaces)) [0, 4] (by decide) rfl
  have hFc := va_free (wc := (wl_Sp_needSpace a_0 a_0_now b_0_lines b_0_flood b_0_net a_0_loops b_0_common b_0_names b_0_ways b_0_marked b_0_now_xs b_0_now_ys b_0_now_cells a_0_now r_0_before v_0_runs v_0_stale v_0_now_spaces)) hD hS hA [0, 4] rfl
  refine x_onV (x_runV (As := [.int p1]) (rest := []) ⟨hx, hb, hml, hown, hts⟩ (c_Sp_needSpace l htr dC dI (cI := cI) (cZ := cZ) (cJ := cJ) a_0 a_0_now b_0_lines b_0_flood b_0_net a_0_loops b_0_common b_0_names b_0_ways b_0_marked b_0_now_xs b_0_now_ys b_0_now_cells s.heap.size r_0_before v_0_runs v_0_stale v_0_now_spaces p1 z1 hb2) (cwV 1 hts (gl_V k_528 k_527 k_526 k_207 k_525) rfl rfl rfl (by decide +kernel) ⟨Nat.le_of_ble_eq_true rfl, Nat.le_of_ble_eq_true rfl⟩) ⟨PPX_blind, va_recv hK hPc (ci := 0) (q0 := 0) rfl rfl, fun U hU hW => PPX_at hK hN hX hPc hDc hFc hU hW⟩ rfl rfl hl.1 rfl (lv_room (Nat.le_of_ble_eq_true rfl)) d_Sp_sides_2 ⟨Nat.le_of_ble_eq_true rfl, Nat.le_of_ble_eq_true rfl⟩) hout hlocks (fun E hE => hz3 _ hE) (fun hr => ?_)
  replace hm := hm hr
  refine lv_aload_n hx hb d_Sp_sides_5 rfl (lv_at hl 0 rfl) ?_
  refine lv_iload_n hx hb d_Sp_sides_6 rfl (lv_at hl 1 rfl) ?_
  refine lv_iload_n hx hb d_Sp_sides_7 rfl (lv_at hl 2 rfl) ?_
  obtain ⟨z5, hb6, hz7, hm⟩ := bx1_z hm
  have hPc := hP.sub (ws' := (wl_Sp_needRing a_0 a_0_loops a_0_loops_spaces b_0_lines b_0_flood b_0_net b_0_common b_0_names b_0_ways b_0_marked b_0_loops_order b_0_loops_gone a_0_loops_starts cI a_0_now r_0_before v_0_runs v_0_stale v_0_loops_count v_0_loops_filled f_0_loops_spaces)) [0, 1, 3] rfl
  have hDc := hD.sub (ws' := (wl_Sp_needRing a_0 a_0_loops a_0_loops_spaces b_0_lines b_0_flood b_0_net b_0_common b_0_names b_0_ways b_0_marked b_0_loops_order b_0_loops_gone a_0_loops_starts cI a_0_now r_0_before v_0_runs v_0_stale v_0_loops_count v_0_loops_filled f_0_loops_spaces)) [0, 1, 3] (by decide) rfl
  have hFc := va_free (wc := (wl_Sp_needRing a_0 a_0_loops a_0_loops_spaces b_0_lines b_0_flood b_0_net b_0_common b_0_names b_0_ways b_0_marked b_0_loops_order b_0_loops_gone a_0_loops_starts cI a_0_now r_0_before v_0_runs v_0_stale v_0_loops_count v_0_loops_filled f_0_loops_spaces)) hD hS hA [0, 1, 3] rfl
  refine x_onI (x_runV (As := [.int p1, .int p2]) (rest := []) ⟨hx, hb, hml, hown, hts⟩ (c_Sp_needRing l htr dC dI (cI := cI) (cZ := cZ) (cJ := cJ) a_0 a_0_loops a_0_loops_spaces b_0_lines b_0_flood b_0_net b_0_common b_0_names b_0_ways b_0_marked b_0_loops_order b_0_loops_gone a_0_loops_starts s.heap.size a_0_now r_0_before v_0_runs v_0_stale v_0_loops_count v_0_loops_filled f_0_loops_spaces p1 p2 z5 hb6) (cwV 2 hts (gl_V k_536 k_535 k_534 k_207 k_533) rfl rfl rfl (by decide +kernel) ⟨Nat.le_of_ble_eq_true rfl, Nat.le_of_ble_eq_true rfl⟩) ⟨PPX_blind, va_recv hK hPc (ci := 0) (q0 := 0) rfl rfl, fun U hU hW => PPX_at hK hN hX hPc hDc hFc hU hW⟩ rfl rfl hl.1 rfl (lv_room (Nat.le_of_ble_eq_true rfl)) d_Sp_sides_8 ⟨Nat.le_of_ble_eq_true rfl, Nat.le_of_ble_eq_true rfl⟩) hout hlocks (fun E hE => hz7 _ hE) (fun r4 hr => ?_)
  replace hm := hm _ hr
  refine lv_istore_n (lv' := [(3, .int r4), (0, .ref a_0), (1, .int p1), (2, .int p2)]) hx hb d_Sp_sides_11 rfl hl (by decide) rfl (fun ls hl => ?_)
  refine lv_aload_n hx hb d_Sp_sides_12 rfl (lv_at hl 1 rfl) ?_
  obtain ⟨z8, hb9, hz10, hm⟩ := bx0_z hm
  have hPc := hP.sub (ws' := (wl_Sp_needFreshRun a_0 b_0_lines b_0_flood b_0_net a_0_loops b_0_common b_0_names b_0_ways b_0_marked a_0_now r_0_before v_0_runs v_0_stale)) [0] rfl
  have hDc := hD.sub (ws' := (wl_Sp_needFreshRun a_0 b_0_lines b_0_flood b_0_net a_0_loops b_0_common b_0_names b_0_ways b_0_marked a_0_now r_0_before v_0_runs v_0_stale)) [0] (by decide) rfl
  have hFc := va_free (wc := (wl_Sp_needFreshRun a_0 b_0_lines b_0_flood b_0_net a_0_loops b_0_common b_0_names b_0_ways b_0_marked a_0_now r_0_before v_0_runs v_0_stale)) hD hS hA [0] rfl
  refine x_onV (x_runV (As := []) (rest := []) ⟨hx, hb, hml, hown, hts⟩ (c_Sp_needFreshRun l htr dC dI (cI := cI) (cZ := cZ) (cJ := cJ) a_0 b_0_lines b_0_flood b_0_net a_0_loops b_0_common b_0_names b_0_ways b_0_marked s.heap.size a_0_now r_0_before v_0_runs v_0_stale z8 hb9) (cwV 0 hts (gl_V k_516 k_515 k_514 k_207 k_513) rfl rfl rfl (by decide +kernel) ⟨Nat.le_of_ble_eq_true rfl, Nat.le_of_ble_eq_true rfl⟩) ⟨PPX_blind, va_recv hK hPc (ci := 0) (q0 := 0) rfl rfl, fun U hU hW => PPX_at hK hN hX hPc hDc hFc hU hW⟩ rfl rfl hl.1 rfl (lv_room (Nat.le_of_ble_eq_true rfl)) d_Sp_sides_13 ⟨Nat.le_of_ble_eq_true rfl, Nat.le_of_ble_eq_true rfl⟩) hout hlocks (fun E hE => hz10 _ hE) (fun hr => ?_)
  replace hm := hm hr
  refine lv_aload_n hx hb d_Sp_sides_16 rfl (lv_at hl 1 rfl) ?_
  refine va_get (D := (dC, dI)) (ci := 0) (v := .ref a_0_loops) (C := "SpaceCycles") (T := F_Sp) (N := 12) hx hb hts (in_F i_Sp) hown hK hP 0 rfl rfl 3 (by decide) (hts _ (in_c k_473)) (fun _ h9 => h9) rfl d_Sp_sides_17 ?_
  refine lv_iload_n hx hb d_Sp_sides_20 rfl (lv_at hl 0 rfl) ?_
  obtain ⟨r11, hb12, hm⟩ := bd1_e hm
  have hPc := hP.sub (ws' := (wl_Ri_lengthOf a_0_loops a_0_loops_starts b_0_loops_order b_0_loops_gone a_0_loops_spaces cI v_0_loops_count v_0_loops_filled f_0_loops_starts)) [1, 2] rfl
  have hDc := hD.sub (ws' := (wl_Ri_lengthOf a_0_loops a_0_loops_starts b_0_loops_order b_0_loops_gone a_0_loops_spaces cI v_0_loops_count v_0_loops_filled f_0_loops_starts)) [1, 2] (by decide) rfl
  refine cl_pi (va_runV (As := [.int r4]) (rest := []) ⟨hx, hb, hml, hown, hts⟩ (cp_Ri_lengthOf l dC dI (cI := cI) (cZ := cZ) (cJ := cJ) a_0_loops a_0_loops_starts b_0_loops_order b_0_loops_gone a_0_loops_spaces s.heap.size v_0_loops_count v_0_loops_filled f_0_loops_starts r4 r11 hb12) (cwV 1 hts (gl_V k_540 k_539 k_538 k_241 k_537) rfl rfl rfl (by decide +kernel) ⟨Nat.le_of_ble_eq_true rfl, Nat.le_of_ble_eq_true rfl⟩) ⟨PP_blind, va_recv hK hPc (ci := 4) (q0 := 0) rfl rfl, fun U hU hW => PP_at hK hN hPc hDc hU hW⟩ rfl rfl hl.1 rfl (lv_room (Nat.le_of_ble_eq_true rfl)) d_Sp_sides_21 ⟨Nat.zero_le _, Nat.zero_le _⟩) ?_
  cases hm
  exact hret _ rfl _ ls d_Sp_sides_24
set_option maxHeartbeats 4000000 in
set_option maxRecDepth 100000 in
theorem c_Sp_sides (l : Launch) (htr : l.stackTraces = false) (dC : Nat → ClassId) (dI : Nat → Nat → Nat) {cI cZ cJ : ClassId} (a_0 a_0_loops a_0_loops_starts a_0_loops_spaces a_0_now b_0_lines b_0_flood b_0_net b_0_common b_0_names b_0_ways b_0_marked b_0_loops_order b_0_loops_gone b_0_now_xs b_0_now_ys b_0_now_cells : Nat) (sz : Nat) (r_0_before : Nat) (v_0_runs : Int32) (v_0_stale : Int32) (v_0_loops_count : Int32) (v_0_loops_filled : Int32) (f_0_loops_starts : Nat → Int32) (f_0_loops_spaces : Nat → Int32) (v_0_now_spaces : Int32) (p1 : Int32) (p2 : Int32) (Z : Sum Nat (Int32)) (hm : m_Sp_sides p1 p2 v_0_stale v_0_loops_count f_0_loops_starts f_0_loops_spaces v_0_now_spaces = some Z) : XMet l y_Sp_sides w_Sp_sides rm_Sp_sides (PPX dC dI [(cI, .int), (cZ, .boolean), (cJ, .long)] [.ref a_0, .int p1, .int p2] sz (wl_Sp_sides a_0 a_0_loops a_0_loops_starts a_0_loops_spaces a_0_now b_0_lines b_0_flood b_0_net b_0_common b_0_names b_0_ways b_0_marked b_0_loops_order b_0_loops_gone b_0_now_xs b_0_now_ys b_0_now_cells cI a_0_now r_0_before v_0_runs v_0_stale v_0_loops_count v_0_loops_filled f_0_loops_starts f_0_loops_spaces v_0_now_spaces)) (va_Qi (fun (r : Int32) (_ : Unit) => Z = Sum.inr r) (fun _ _ => True) (fun _ => False)) (fun E => Z = Sum.inl (xk E)) (fun _ => False) := by
  refine XMet.ofW (cc := b_Sp_sides) (maxL := 4) (ret := (some .int)) (by decide) rfl ?_
  intro p e s m args below meth c s₁ B hml hout hv
  obtain ⟨rfl, hsz, hP, hK, hD0, hN, hX⟩ := hv
  subst hsz
  have hl := lv_entry ([.ref a_0, .int p1, .int p2]) (n := 4) (Nat.le_of_ble_eq_true rfl)
  rw [lg_entry_eq]
  generalize (lg_sl ([.ref a_0, .int p1, .int p2]) ++ List.replicate (4 - (lg_sl ([.ref a_0, .int p1, .int p2])).length) Slot.unset).toArray = ls at hl ⊢
  exact t_Sp_sides (A := va_A (wl_Sp_sides a_0 a_0_loops a_0_loops_starts a_0_loops_spaces a_0_now b_0_lines b_0_flood b_0_net b_0_common b_0_names b_0_ways b_0_marked b_0_loops_order b_0_loops_gone b_0_now_xs b_0_now_ys b_0_now_cells cI a_0_now r_0_before v_0_runs v_0_stale v_0_loops_count v_0_loops_filled f_0_loops_starts f_0_loops_spaces v_0_now_spaces) s.heap.size) a_0 a_0_loops a_0_loops_starts a_0_loops_spaces a_0_now b_0_lines b_0_flood b_0_net b_0_common b_0_names b_0_ways b_0_marked b_0_loops_order b_0_loops_gone b_0_now_xs b_0_now_ys b_0_now_cells r_0_before v_0_runs v_0_stale v_0_loops_count v_0_loops_filled f_0_loops_starts f_0_loops_spaces v_0_now_spaces p1 p2 Z htr hX hout B.notSynchronized B.exec B.bytes hml (findClass_of_methodNamed B.named) (atoms_spec (ws := w_Sp_sides) B.pre) hK hN (fun q h => Or.inr h) (fun r hz pc ls hd => x_ret (W.iret B.exec B.bytes B.returns (fun t ht hW => ⟨⟨r, (), rfl, hz, trivial⟩, by rw [ht]; exact Nat.le_refl _, fun q _ _ => by rw [ht]⟩) (fun q h => by cases h) hd)) hm hP hD0.self va_S.rf ls hl

theorem k_541 : ((.code ⟨"SpaceCycles$Rings", "sideOf", "(II)I"⟩ prog_9_method_7_code 3 (some .int)) : Cond) ∈ gl := gl_i 954 (by decide +kernel) (by decide +kernel)
theorem k_542 : ((.selects "SpaceCycles$Rings" ⟨"SpaceCycles$Rings", "sideOf", "(II)I"⟩ ⟨"SpaceCycles$Rings", "sideOf", "(II)I"⟩) : Cond) ∈ gl := gl_i 953 (by decide +kernel) (by decide +kernel)
theorem k_543 : ((.instanceMethod ⟨"SpaceCycles$Rings", "sideOf", "(II)I"⟩) : Cond) ∈ gl := gl_i 952 (by decide +kernel) (by decide +kernel)
theorem k_544 : ((.methodLink "SpaceCycles" 211 ⟨"SpaceCycles$Rings", "sideOf", "(II)I"⟩) : Cond) ∈ gl := gl_i 951 (by decide +kernel) (by decide +kernel)
theorem k_545 : ((.methodLink "SpaceCycles" 214 ⟨"SpaceCycles$Net", "lineOf", "(I)I"⟩) : Cond) ∈ gl := gl_i 955 (by decide +kernel) (by decide +kernel)
theorem k_546 : ((.fieldLink "SpaceCycles" 217 "SpaceCycles$Net" "pointX" "[I") : Cond) ∈ gl := gl_i 121 (by decide +kernel) (by decide +kernel)
theorem k_547 : ((.methodLink "SpaceCycles" 220 ⟨"SpaceCycles$Net", "beginningOf", "(I)I"⟩) : Cond) ∈ gl := gl_i 959 (by decide +kernel) (by decide +kernel)
theorem k_548 : ((.fieldLink "SpaceCycles" 223 "SpaceCycles$Net" "pointY" "[I") : Cond) ∈ gl := gl_i 124 (by decide +kernel) (by decide +kernel)
theorem k_549 : ((.methodLink "SpaceCycles" 226 ⟨"SpaceCycles$Net", "endOf", "(I)I"⟩) : Cond) ∈ gl := gl_i 963 (by decide +kernel) (by decide +kernel)
theorem k_550 : ((.methodLink "SpaceCycles" 229 ⟨"SpaceCycles$Net", "onTheRight", "(I)I"⟩) : Cond) ∈ gl := gl_i 964 (by decide +kernel) (by decide +kernel)
-- SpaceCycles.side(IIII)I: may throw
abbrev b_Sp_side : ByteArray := prog_1_method_9_code
abbrev y_Sp_side : MethodName := ⟨"SpaceCycles", "side", "(IIII)I"⟩
abbrev w_Sp_side : List Cond := Cond.code y_Sp_side b_Sp_side 7 (some .int) :: gl
abbrev rm_Sp_side : Room := { frames := 9, cells := 1, slots := 6, locals := 223 }
theorem d_Sp_side_0 : decode b_Sp_side 0 = .ok (.aload_n 0, 1) := by decide +kernel
theorem d_Sp_side_1 : decode b_Sp_side 1 = .ok (.iload_n 1, 1) := by decide +kernel
theorem d_Sp_side_2 : decode b_Sp_side 2 = .ok (.invokevirtual 199, 3) := by decide +kernel
theorem d_Sp_side_5 : decode b_Sp_side 5 = .ok (.aload_n 0, 1) := by decide +kernel
theorem d_Sp_side_6 : decode b_Sp_side 6 = .ok (.iload_n 1, 1) := by decide +kernel
theorem d_Sp_side_7 : decode b_Sp_side 7 = .ok (.iload_n 2, 1) := by decide +kernel
theorem d_Sp_side_8 : decode b_Sp_side 8 = .ok (.invokevirtual 205, 3) := by decide +kernel
theorem d_Sp_side_11 : decode b_Sp_side 11 = .ok (.istore 5, 2) := by decide +kernel
theorem d_Sp_side_13 : decode b_Sp_side 13 = .ok (.iload_n 3, 1) := by decide +kernel
theorem d_Sp_side_14 : decode b_Sp_side 14 = .ok (.iconst 0, 1) := by decide +kernel
theorem d_Sp_side_15 : decode b_Sp_side 15 = .ok (.aload_n 0, 1) := by decide +kernel
theorem d_Sp_side_16 : decode b_Sp_side 16 = .ok (.getfield 33, 3) := by decide +kernel
theorem d_Sp_side_19 : decode b_Sp_side 19 = .ok (.iload 5, 2) := by decide +kernel
theorem d_Sp_side_21 : decode b_Sp_side 21 = .ok (.invokevirtual 208, 3) := by decide +kernel
theorem d_Sp_side_24 : decode b_Sp_side 24 = .ok (.iconst 1, 1) := by decide +kernel
theorem d_Sp_side_25 : decode b_Sp_side 25 = .ok (.isub, 1) := by decide +kernel
theorem d_Sp_side_26 : decode b_Sp_side 26 = .ok (.invokestatic 84, 3) := by decide +kernel
theorem d_Sp_side_29 : decode b_Sp_side 29 = .ok (.iload 4, 2) := by decide +kernel
theorem d_Sp_side_31 : decode b_Sp_side 31 = .ok (.iconst 0, 1) := by decide +kernel
theorem d_Sp_side_32 : decode b_Sp_side 32 = .ok (.iconst 5, 1) := by decide +kernel
theorem d_Sp_side_33 : decode b_Sp_side 33 = .ok (.invokestatic 84, 3) := by decide +kernel
theorem d_Sp_side_36 : decode b_Sp_side 36 = .ok (.aload_n 0, 1) := by decide +kernel
theorem d_Sp_side_37 : decode b_Sp_side 37 = .ok (.invokevirtual 184, 3) := by decide +kernel
theorem d_Sp_side_40 : decode b_Sp_side 40 = .ok (.aload_n 0, 1) := by decide +kernel
theorem d_Sp_side_41 : decode b_Sp_side 41 = .ok (.getfield 33, 3) := by decide +kernel
theorem d_Sp_side_44 : decode b_Sp_side 44 = .ok (.iload 5, 2) := by decide +kernel
theorem d_Sp_side_46 : decode b_Sp_side 46 = .ok (.iload_n 3, 1) := by decide +kernel
theorem d_Sp_side_47 : decode b_Sp_side 47 = .ok (.invokevirtual 211, 3) := by decide +kernel
theorem d_Sp_side_50 : decode b_Sp_side 50 = .ok (.istore 6, 2) := by decide +kernel
theorem d_Sp_side_52 : decode b_Sp_side 52 = .ok (.iload 4, 2) := by decide +kernel
theorem d_Sp_side_54 : decode b_Sp_side 54 = .ok (.tableswitch 116 0 4 #[34, 44, 62, 80, 98], 34) := by decide +kernel
theorem d_Sp_side_88 : decode b_Sp_side 88 = .ok (.aload_n 0, 1) := by decide +kernel
theorem d_Sp_side_89 : decode b_Sp_side 89 = .ok (.getfield 26, 3) := by decide +kernel
theorem d_Sp_side_92 : decode b_Sp_side 92 = .ok (.iload 6, 2) := by decide +kernel
theorem d_Sp_side_94 : decode b_Sp_side 94 = .ok (.invokevirtual 214, 3) := by decide +kernel
theorem d_Sp_side_97 : decode b_Sp_side 97 = .ok (.ireturn, 1) := by decide +kernel
theorem d_Sp_side_98 : decode b_Sp_side 98 = .ok (.aload_n 0, 1) := by decide +kernel
theorem d_Sp_side_99 : decode b_Sp_side 99 = .ok (.getfield 26, 3) := by decide +kernel
theorem d_Sp_side_102 : decode b_Sp_side 102 = .ok (.getfield 217, 3) := by decide +kernel
theorem d_Sp_side_105 : decode b_Sp_side 105 = .ok (.aload_n 0, 1) := by decide +kernel
theorem d_Sp_side_106 : decode b_Sp_side 106 = .ok (.getfield 26, 3) := by decide +kernel
theorem d_Sp_side_109 : decode b_Sp_side 109 = .ok (.iload 6, 2) := by decide +kernel
theorem d_Sp_side_111 : decode b_Sp_side 111 = .ok (.invokevirtual 220, 3) := by decide +kernel
theorem d_Sp_side_114 : decode b_Sp_side 114 = .ok (.iaload, 1) := by decide +kernel
theorem d_Sp_side_115 : decode b_Sp_side 115 = .ok (.ireturn, 1) := by decide +kernel
theorem d_Sp_side_116 : decode b_Sp_side 116 = .ok (.aload_n 0, 1) := by decide +kernel
theorem d_Sp_side_117 : decode b_Sp_side 117 = .ok (.getfield 26, 3) := by decide +kernel
theorem d_Sp_side_120 : decode b_Sp_side 120 = .ok (.getfield 223, 3) := by decide +kernel
theorem d_Sp_side_123 : decode b_Sp_side 123 = .ok (.aload_n 0, 1) := by decide +kernel
theorem d_Sp_side_124 : decode b_Sp_side 124 = .ok (.getfield 26, 3) := by decide +kernel
theorem d_Sp_side_127 : decode b_Sp_side 127 = .ok (.iload 6, 2) := by decide +kernel
theorem d_Sp_side_129 : decode b_Sp_side 129 = .ok (.invokevirtual 220, 3) := by decide +kernel
theorem d_Sp_side_132 : decode b_Sp_side 132 = .ok (.iaload, 1) := by decide +kernel
theorem d_Sp_side_133 : decode b_Sp_side 133 = .ok (.ireturn, 1) := by decide +kernel
theorem d_Sp_side_134 : decode b_Sp_side 134 = .ok (.aload_n 0, 1) := by decide +kernel
theorem d_Sp_side_135 : decode b_Sp_side 135 = .ok (.getfield 26, 3) := by decide +kernel
theorem d_Sp_side_138 : decode b_Sp_side 138 = .ok (.getfield 217, 3) := by decide +kernel
theorem d_Sp_side_141 : decode b_Sp_side 141 = .ok (.aload_n 0, 1) := by decide +kernel
theorem d_Sp_side_142 : decode b_Sp_side 142 = .ok (.getfield 26, 3) := by decide +kernel
theorem d_Sp_side_145 : decode b_Sp_side 145 = .ok (.iload 6, 2) := by decide +kernel
theorem d_Sp_side_147 : decode b_Sp_side 147 = .ok (.invokevirtual 226, 3) := by decide +kernel
theorem d_Sp_side_150 : decode b_Sp_side 150 = .ok (.iaload, 1) := by decide +kernel
theorem d_Sp_side_151 : decode b_Sp_side 151 = .ok (.ireturn, 1) := by decide +kernel
theorem d_Sp_side_152 : decode b_Sp_side 152 = .ok (.aload_n 0, 1) := by decide +kernel
theorem d_Sp_side_153 : decode b_Sp_side 153 = .ok (.getfield 26, 3) := by decide +kernel
theorem d_Sp_side_156 : decode b_Sp_side 156 = .ok (.getfield 223, 3) := by decide +kernel
theorem d_Sp_side_159 : decode b_Sp_side 159 = .ok (.aload_n 0, 1) := by decide +kernel
theorem d_Sp_side_160 : decode b_Sp_side 160 = .ok (.getfield 26, 3) := by decide +kernel
theorem d_Sp_side_163 : decode b_Sp_side 163 = .ok (.iload 6, 2) := by decide +kernel
theorem d_Sp_side_165 : decode b_Sp_side 165 = .ok (.invokevirtual 226, 3) := by decide +kernel
theorem d_Sp_side_168 : decode b_Sp_side 168 = .ok (.iaload, 1) := by decide +kernel
theorem d_Sp_side_169 : decode b_Sp_side 169 = .ok (.ireturn, 1) := by decide +kernel
theorem d_Sp_side_170 : decode b_Sp_side 170 = .ok (.aload_n 0, 1) := by decide +kernel
theorem d_Sp_side_171 : decode b_Sp_side 171 = .ok (.getfield 26, 3) := by decide +kernel
theorem d_Sp_side_174 : decode b_Sp_side 174 = .ok (.iload 6, 2) := by decide +kernel
theorem d_Sp_side_176 : decode b_Sp_side 176 = .ok (.invokevirtual 229, 3) := by decide +kernel
theorem d_Sp_side_179 : decode b_Sp_side 179 = .ok (.ireturn, 1) := by decide +kernel
abbrev wl_Sp_side (a_0 : Nat) (a_0_net : Nat) (a_0_net_pointX : Nat) (a_0_net_pointY : Nat) (a_0_net_pieceLine : Nat) (a_0_net_begins : Nat) (a_0_net_leftSpaces : Nat) (a_0_loops : Nat) (a_0_loops_order : Nat) (a_0_loops_starts : Nat) (a_0_loops_spaces : Nat) (a_0_now : Nat) (b_0_lines : Nat) (b_0_flood : Nat) (b_0_common : Nat) (b_0_names : Nat) (b_0_ways : Nat) (b_0_marked : Nat) (b_0_net_looseSides : Nat) (b_0_net_sidesOut : Nat) (b_0_net_directions : Nat) (b_0_net_weights : Nat) (b_0_net_pointAt : Nat) (b_0_loops_gone : Nat) (b_0_now_xs : Nat) (b_0_now_ys : Nat) (b_0_now_cells : Nat) (cI : ClassId) (r_0_now : Nat) (r_0_before : Nat) (v_0_runs : Int32) (v_0_stale : Int32) (v_0_net_points : Int32) (v_0_net_pieces : Int32) (v_0_net_looseEnds : Int32) (f_0_net_pointX : Nat → Int32) (f_0_net_pointY : Nat → Int32) (f_0_net_pieceLine : Nat → Int32) (f_0_net_begins : Nat → Int32) (f_0_net_leftSpaces : Nat → Int32) (v_0_loops_count : Int32) (v_0_loops_filled : Int32) (f_0_loops_order : Nat → Int32) (f_0_loops_starts : Nat → Int32) (f_0_loops_spaces : Nat → Int32) (v_0_now_spaces : Int32) : va_W := [(a_0, .inr (0, [.ref b_0_lines, .ref b_0_flood, .ref a_0_net, .ref a_0_loops, .ref b_0_common, .ref b_0_names, .ref b_0_ways, .ref b_0_marked, .ref r_0_now, .ref r_0_before, .int v_0_runs, .int v_0_stale])), (a_0_net, .inr (3, [.ref a_0_net_pointX, .ref a_0_net_pointY, .ref b_0_net_looseSides, .int v_0_net_points, .int v_0_net_pieces, .int v_0_net_looseEnds, .ref b_0_net_sidesOut, .ref a_0_net_pieceLine, .ref a_0_net_begins, .ref b_0_net_directions, .ref a_0_net_leftSpaces, .ref b_0_net_weights, .ref b_0_net_pointAt])), (a_0_net_pointX, .inl (cI, 140, .inl f_0_net_pointX)), (a_0_net_pointY, .inl (cI, 140, .inl f_0_net_pointY)), (a_0_net_pieceLine, .inl (cI, 220, .inl f_0_net_pieceLine)), (a_0_net_begins, .inl (cI, 440, .inl f_0_net_begins)), (a_0_net_leftSpaces, .inl (cI, 440, .inl f_0_net_leftSpaces)), (a_0_loops, .inr (4, [.ref a_0_loops_order, .ref b_0_loops_gone, .ref a_0_loops_starts, .ref a_0_loops_spaces, .int v_0_loops_count, .int v_0_loops_filled])), (a_0_loops_order, .inl (cI, 440, .inl f_0_loops_order)), (a_0_loops_starts, .inl (cI, 221, .inl f_0_loops_starts)), (a_0_loops_spaces, .inl (cI, 220, .inl f_0_loops_spaces)), (a_0_now, .inr (8, [.ref b_0_now_xs, .ref b_0_now_ys, .ref b_0_now_cells, .int v_0_now_spaces]))]
def m_Sp_side (p1 : Int32) (p2 : Int32) (p3 : Int32) (p4 : Int32) (v_0_stale : Int32) (f_0_net_pointX : Nat → Int32) (f_0_net_pointY : Nat → Int32) (f_0_net_pieceLine : Nat → Int32) (f_0_net_begins : Nat → Int32) (f_0_net_leftSpaces : Nat → Int32) (v_0_loops_count : Int32) (f_0_loops_order : Nat → Int32) (f_0_loops_starts : Nat → Int32) (f_0_loops_spaces : Nat → Int32) (v_0_now_spaces : Int32) : Option (Sum Nat (Int32)) :=
  bx0 (m_Sp_needSpace p1 v_0_now_spaces) <|
  bx1 (m_Sp_needRing p1 p2 v_0_loops_count f_0_loops_spaces) fun r4 =>
  bd1 (m_Ri_lengthOf r4 f_0_loops_starts) fun r8 =>
  bx0 (m_Sp_needBetween p3 0 (r8 - 1)) <|
  bx0 (m_Sp_needBetween p4 0 5) <|
  bx0 (m_Sp_needFreshRun v_0_stale) <|
  bd1 (m_Ri_sideOf r4 p3 f_0_loops_order f_0_loops_starts) fun r19 =>
  if p4 = 0 then (
    bd1 (m_Ne_lineOf r19 f_0_net_pieceLine) fun r22 =>
    some (Sum.inr r22))
  else (
    if p4 = 1 then (
      bd1 (m_Ne_beginningOf r19 f_0_net_begins) fun r25 =>
      gI r25 140 <|
      some (Sum.inr (f_0_net_pointX r25.toNatClampNeg)))
    else (
      if p4 = 2 then (
        bd1 (m_Ne_beginningOf r19 f_0_net_begins) fun r29 =>
        gI r29 140 <|
        some (Sum.inr (f_0_net_pointY r29.toNatClampNeg)))
      else (
        if p4 = 3 then (
          bd1 (m_Ne_endOf r19 f_0_net_begins) fun r33 =>
          gI r33 140 <|
          some (Sum.inr (f_0_net_pointX r33.toNatClampNeg)))
        else (
          if p4 = 4 then (
            bd1 (m_Ne_endOf r19 f_0_net_begins) fun r37 =>
            gI r37 140 <|
            some (Sum.inr (f_0_net_pointY r37.toNatClampNeg)))
          else (
            bd1 (m_Ne_onTheRight r19 f_0_net_leftSpaces) fun r40 =>
            some (Sum.inr r40))))))

set_option maxHeartbeats 4000000 in
set_option maxRecDepth 100000 in
theorem t_Sp_side {p : Program} {l : Launch} {e : Env} {s : State} {m : MethodId} {args : Array Value} {below : List Frame} {meth : Method} {c : Code} {A : Nat → Prop} {dC : Nat → ClassId} {dI : Nat → Nat → Nat} {cI cZ cJ : ClassId} {Qc : Array Value → State → Outcome → State → Prop} {free : Addr → Prop} (a_0 a_0_net a_0_net_pointX a_0_net_pointY a_0_net_pieceLine a_0_net_begins a_0_net_leftSpaces a_0_loops a_0_loops_order a_0_loops_starts a_0_loops_spaces a_0_now b_0_lines b_0_flood b_0_common b_0_names b_0_ways b_0_marked b_0_net_looseSides b_0_net_sidesOut b_0_net_directions b_0_net_weights b_0_net_pointAt b_0_loops_gone b_0_now_xs b_0_now_ys b_0_now_cells : Nat) (r_0_before : Nat) (v_0_runs : Int32) (v_0_stale : Int32) (v_0_net_points : Int32) (v_0_net_pieces : Int32) (v_0_net_looseEnds : Int32) (f_0_net_pointX : Nat → Int32) (f_0_net_pointY : Nat → Int32) (f_0_net_pieceLine : Nat → Int32) (f_0_net_begins : Nat → Int32) (f_0_net_leftSpaces : Nat → Int32) (v_0_loops_count : Int32) (v_0_loops_filled : Int32) (f_0_loops_order : Nat → Int32) (f_0_loops_starts : Nat → Int32) (f_0_loops_spaces : Nat → Int32) (v_0_now_spaces : Int32) (p1 : Int32) (p2 : Int32) (p3 : Int32) (p4 : Int32) (Z : Sum Nat (Int32)) (htr : l.stackTraces = false) (hX : TX A s s.heap) (hout : c.exceptionTable.toList = []) (hlocks : meth.locks = false) (hx : p.tables.exec = Jvm.exec) (hb : c.code = b_Sp_side) (hml : c.maxLocals = 7) (hown : s.vm.findClass "SpaceCycles" = some m.cls) (hts : ∀ w ∈ w_Sp_side, w.before args s = true) (hK : va_K (dC, dI) vwCl [(cI, .int), (cZ, .boolean), (cJ, .long)] s) (hN : NX s) (hA : ∀ q : Nat, s.heap.size ≤ q → A q)
    (hret : ∀ r : Int32, Z = Sum.inr r → ∀ (pc : Nat) (H : Heap) (locs : List Loc) (ls : Array Slot), decode b_Sp_side pc = .ok (.ireturn, 1) → va_P (dC, dI) vwCl (wl_Sp_side a_0 a_0_net a_0_net_pointX a_0_net_pointY a_0_net_pieceLine a_0_net_begins a_0_net_leftSpaces a_0_loops a_0_loops_order a_0_loops_starts a_0_loops_spaces a_0_now b_0_lines b_0_flood b_0_common b_0_names b_0_ways b_0_marked b_0_net_looseSides b_0_net_sidesOut b_0_net_directions b_0_net_weights b_0_net_pointAt b_0_loops_gone b_0_now_xs b_0_now_ys b_0_now_cells cI a_0_now r_0_before v_0_runs v_0_stale v_0_net_points v_0_net_pieces v_0_net_looseEnds f_0_net_pointX f_0_net_pointY f_0_net_pieceLine f_0_net_begins f_0_net_leftSpaces v_0_loops_count v_0_loops_filled f_0_loops_order f_0_loops_starts f_0_loops_spaces v_0_now_spaces) H → va_D A (wl_Sp_side a_0 a_0_net a_0_net_pointX a_0_net_pointY a_0_net_pieceLine a_0_net_begins a_0_net_leftSpaces a_0_loops a_0_loops_order a_0_loops_starts a_0_loops_spaces a_0_now b_0_lines b_0_flood b_0_common b_0_names b_0_ways b_0_marked b_0_net_looseSides b_0_net_sidesOut b_0_net_directions b_0_net_weights b_0_net_pointAt b_0_loops_gone b_0_now_xs b_0_now_ys b_0_now_cells cI a_0_now r_0_before v_0_runs v_0_stale v_0_net_points v_0_net_pieces v_0_net_looseEnds f_0_net_pointX f_0_net_pointY f_0_net_pieceLine f_0_net_begins f_0_net_leftSpaces v_0_loops_count v_0_loops_filled f_0_loops_order f_0_loops_starts f_0_loops_spaces v_0_now_spaces) → va_S A s.heap H locs → W p l e rm_Sp_side s m args below meth c H locs 0 0 (XMQ below Qc (fun E => Z = Sum.inl (xk E)) args s free) (F0 m pc ls [.int r]))
    (hm : m_Sp_side p1 p2 p3 p4 v_0_stale f_0_net_pointX f_0_net_pointY f_0_net_pieceLine f_0_net_begins f_0_net_leftSpaces v_0_loops_count f_0_loops_order f_0_loops_starts f_0_loops_spaces v_0_now_spaces = some Z) (hP : va_P (dC, dI) vwCl (wl_Sp_side a_0 a_0_net a_0_net_pointX a_0_net_pointY a_0_net_pieceLine a_0_net_begins a_0_net_leftSpaces a_0_loops a_0_loops_order a_0_loops_starts a_0_loops_spaces a_0_now b_0_lines b_0_flood b_0_common b_0_names b_0_ways b_0_marked b_0_net_looseSides b_0_net_sidesOut b_0_net_directions b_0_net_weights b_0_net_pointAt b_0_loops_gone b_0_now_xs b_0_now_ys b_0_now_cells cI a_0_now r_0_before v_0_runs v_0_stale v_0_net_points v_0_net_pieces v_0_net_looseEnds f_0_net_pointX f_0_net_pointY f_0_net_pieceLine f_0_net_begins f_0_net_leftSpaces v_0_loops_count v_0_loops_filled f_0_loops_order f_0_loops_starts f_0_loops_spaces v_0_now_spaces) s.heap) (hD : va_D A (wl_Sp_side a_0 a_0_net a_0_net_pointX a_0_net_pointY a_0_net_pieceLine a_0_net_begins a_0_net_leftSpaces a_0_loops a_0_loops_order a_0_loops_starts a_0_loops_spaces a_0_now b_0_lines b_0_flood b_0_common b_0_names b_0_ways b_0_marked b_0_net_looseSides b_0_net_sidesOut b_0_net_directions b_0_net_weights b_0_net_pointAt b_0_loops_gone b_0_now_xs b_0_now_ys b_0_now_cells cI a_0_now r_0_before v_0_runs v_0_stale v_0_net_points v_0_net_pieces v_0_net_looseEnds f_0_net_pointX f_0_net_pointY f_0_net_pieceLine f_0_net_begins f_0_net_leftSpaces v_0_loops_count v_0_loops_filled f_0_loops_order f_0_loops_starts f_0_loops_spaces v_0_now_spaces)) (hS : va_S A s.heap s.heap []) : ∀ ls : Array Slot, lv_has ls 7 [(0, .ref a_0), (1, .int p1), (2, .int p2), (3, .int p3), (4, .int p4)] → W p l e rm_Sp_side s m args below meth c s.heap [] 0 0 (XMQ below Qc (fun E => Z = Sum.inl (xk E)) args s free) (F0 m 0 ls []) := by
  intro ls hl
  unfold m_Sp_side at hm
  refine lv_aload_n hx hb d_Sp_side_0 rfl (lv_at hl 0 rfl) ?_
  refine lv_iload_n hx hb d_Sp_side_1 rfl (lv_at hl 1 rfl) ?_
  obtain ⟨z1, hb2, hz3, hm⟩ := bx0_z hm
  have hPc := hP.sub (ws' := (wl_Sp_needSpace a_0 a_0_now b_0_lines b_0_flood a_0_net a_0_loops b_0_common b_0_names b_0_ways b_0_marked b_0_now_xs b_0_now_ys b_0_now_cells a_0_now r_0_before v_0_runs v_0_stale v_0_now_spaces)) [0, 11] rfl
  have hDc := hD.sub (ws' := (wl_Sp_needSpace a_0 a_0_now b_0_lines b_0_flood a_0_net a_0_loops b_0_common b_0_names b_0_ways b_0_marked b_0_now_xs b_0_now_ys b_0_now_cells a_0_now r_0_before v_0_runs v_0_stale v_0_now_spaces)) [0, 11] (by decide) rfl
  have hFc := va_free (wc := (wl_Sp_needSpace a_0 a_0_now b_0_lines b_0_flood a_0_net a_0_loops b_0_common b_0_names b_0_ways b_0_marked b_0_now_xs b_0_now_ys b_0_now_cells a_0_now r_0_before v_0_runs v_0_stale v_0_now_spaces)) hD hS hA [0, 11] rfl
  refine x_onV (x_runV (As := [.int p1]) (rest := []) ⟨hx, hb, hml, hown, hts⟩ (c_Sp_needSpace l htr dC dI (cI := cI) (cZ := cZ) (cJ := cJ) a_0 a_0_now b_0_lines b_0_flood a_0_net a_0_loops b_0_common b_0_names b_0_ways b_0_marked b_0_now_xs b_0_now_ys b_0_now_cells s.heap.size r_0_before v_0_runs v_0_stale v_0_now_spaces p1 z1 hb2) (cwV 1 hts (gl_V k_528 k_527 k_526 k_207 k_525) rfl rfl rfl (by decide +kernel) ⟨Nat.le_of_ble_eq_true rfl, Nat.le_of_ble_eq_true rfl⟩) ⟨PPX_blind, va_recv hK hPc (ci := 0) (q0 := 0) rfl rfl, fun U hU hW => PPX_at hK hN hX hPc hDc hFc hU hW⟩ rfl rfl hl.1 rfl (lv_room (Nat.le_of_ble_eq_true rfl)) d_Sp_side_2 ⟨Nat.le_of_ble_eq_true rfl, Nat.le_of_ble_eq_true rfl⟩) hout hlocks (fun E hE => hz3 _ hE) (fun hr => ?_)
  replace hm := hm hr
  refine lv_aload_n hx hb d_Sp_side_5 rfl (lv_at hl 0 rfl) ?_
  refine lv_iload_n hx hb d_Sp_side_6 rfl (lv_at hl 1 rfl) ?_
  refine lv_iload_n hx hb d_Sp_side_7 rfl (lv_at hl 2 rfl) ?_
  obtain ⟨z5, hb6, hz7, hm⟩ := bx1_z hm
  have hPc := hP.sub (ws' := (wl_Sp_needRing a_0 a_0_loops a_0_loops_spaces b_0_lines b_0_flood a_0_net b_0_common b_0_names b_0_ways b_0_marked a_0_loops_order b_0_loops_gone a_0_loops_starts cI a_0_now r_0_before v_0_runs v_0_stale v_0_loops_count v_0_loops_filled f_0_loops_spaces)) [0, 7, 10] rfl
  have hDc := hD.sub (ws' := (wl_Sp_needRing a_0 a_0_loops a_0_loops_spaces b_0_lines b_0_flood a_0_net b_0_common b_0_names b_0_ways b_0_marked a_0_loops_order b_0_loops_gone a_0_loops_starts cI a_0_now r_0_before v_0_runs v_0_stale v_0_loops_count v_0_loops_filled f_0_loops_spaces)) [0, 7, 10] (by decide) rfl
  have hFc := va_free (wc := (wl_Sp_needRing a_0 a_0_loops a_0_loops_spaces b_0_lines b_0_flood a_0_net b_0_common b_0_names b_0_ways b_0_marked a_0_loops_order b_0_loops_gone a_0_loops_starts cI a_0_now r_0_before v_0_runs v_0_stale v_0_loops_count v_0_loops_filled f_0_loops_spaces)) hD hS hA [0, 7, 10] rfl
  refine x_onI (x_runV (As := [.int p1, .int p2]) (rest := []) ⟨hx, hb, hml, hown, hts⟩ (c_Sp_needRing l htr dC dI (cI := cI) (cZ := cZ) (cJ := cJ) a_0 a_0_loops a_0_loops_spaces b_0_lines b_0_flood a_0_net b_0_common b_0_names b_0_ways b_0_marked a_0_loops_order b_0_loops_gone a_0_loops_starts s.heap.size a_0_now r_0_before v_0_runs v_0_stale v_0_loops_count v_0_loops_filled f_0_loops_spaces p1 p2 z5 hb6) (cwV 2 hts (gl_V k_536 k_535 k_534 k_207 k_533) rfl rfl rfl (by decide +kernel) ⟨Nat.le_of_ble_eq_true rfl, Nat.le_of_ble_eq_true rfl⟩) ⟨PPX_blind, va_recv hK hPc (ci := 0) (q0 := 0) rfl rfl, fun U hU hW => PPX_at hK hN hX hPc hDc hFc hU hW⟩ rfl rfl hl.1 rfl (lv_room (Nat.le_of_ble_eq_true rfl)) d_Sp_side_8 ⟨Nat.le_of_ble_eq_true rfl, Nat.le_of_ble_eq_true rfl⟩) hout hlocks (fun E hE => hz7 _ hE) (fun r4 hr => ?_)
  replace hm := hm _ hr
  refine lv_istore (lv' := [(5, .int r4), (0, .ref a_0), (1, .int p1), (2, .int p2), (3, .int p3), (4, .int p4)]) hx hb d_Sp_side_11 hl (by decide) rfl (fun ls hl => ?_)
  refine lv_iload_n hx hb d_Sp_side_13 rfl (lv_at hl 4 rfl) ?_
  refine lv_iconst (v := 0) hx hb d_Sp_side_14 (by decide) ?_
  refine lv_aload_n hx hb d_Sp_side_15 rfl (lv_at hl 1 rfl) ?_
  refine va_get (D := (dC, dI)) (ci := 0) (v := .ref a_0_loops) (C := "SpaceCycles") (T := F_Sp) (N := 12) hx hb hts (in_F i_Sp) hown hK hP 0 rfl rfl 3 (by decide) (hts _ (in_c k_473)) (fun _ h9 => h9) rfl d_Sp_side_16 ?_
  refine lv_iload hx hb d_Sp_side_19 (lv_at hl 0 rfl) ?_
  obtain ⟨r8, hb9, hm⟩ := bd1_e hm
  have hPc := hP.sub (ws' := (wl_Ri_lengthOf a_0_loops a_0_loops_starts a_0_loops_order b_0_loops_gone a_0_loops_spaces cI v_0_loops_count v_0_loops_filled f_0_loops_starts)) [7, 9] rfl
  have hDc := hD.sub (ws' := (wl_Ri_lengthOf a_0_loops a_0_loops_starts a_0_loops_order b_0_loops_gone a_0_loops_spaces cI v_0_loops_count v_0_loops_filled f_0_loops_starts)) [7, 9] (by decide) rfl
  refine cl_pi (va_runV (As := [.int r4]) (rest := [.int 0, .int p3]) ⟨hx, hb, hml, hown, hts⟩ (cp_Ri_lengthOf l dC dI (cI := cI) (cZ := cZ) (cJ := cJ) a_0_loops a_0_loops_starts a_0_loops_order b_0_loops_gone a_0_loops_spaces s.heap.size v_0_loops_count v_0_loops_filled f_0_loops_starts r4 r8 hb9) (cwV 1 hts (gl_V k_540 k_539 k_538 k_241 k_537) rfl rfl rfl (by decide +kernel) ⟨Nat.le_of_ble_eq_true rfl, Nat.le_of_ble_eq_true rfl⟩) ⟨PP_blind, va_recv hK hPc (ci := 4) (q0 := 0) rfl rfl, fun U hU hW => PP_at hK hN hPc hDc hU hW⟩ rfl rfl hl.1 rfl (lv_room (Nat.le_of_ble_eq_true rfl)) d_Sp_side_21 ⟨Nat.zero_le _, Nat.zero_le _⟩) ?_
  refine lv_iconst (v := 1) hx hb d_Sp_side_24 (by decide) ?_
  refine lv_isub hx hb d_Sp_side_25 ?_
  obtain ⟨z10, hb11, hz12, hm⟩ := bx0_z hm
  have hPc := hP.sub (ws' := (wl_Sp_needBetween)) [] rfl
  have hDc := hD.sub (ws' := (wl_Sp_needBetween)) [] (by decide) rfl
  have hFc := va_free (wc := (wl_Sp_needBetween)) hD hS hA [] rfl
  refine x_onV (x_runS (As := [.int p3, .int 0, .int (r8 - 1)]) (rest := []) ⟨hx, hb, hml, hown, hts⟩ (c_Sp_needBetween l htr dC dI (cI := cI) (cZ := cZ) (cJ := cJ) s.heap.size p3 0 (r8 - 1) z10 hb11) (va_cwS 3 hts (gl_S k_484 k_483 k_207 k_482) rfl rfl rfl (by decide +kernel) ⟨Nat.le_of_ble_eq_true rfl, Nat.le_of_ble_eq_true rfl⟩) ⟨PPX_blind, fun U hU hW => PPX_at hK hN hX hPc hDc hFc hU hW⟩ rfl rfl hl.1 rfl (lv_room (Nat.le_of_ble_eq_true rfl)) d_Sp_side_26 ⟨Nat.le_of_ble_eq_true rfl, Nat.le_of_ble_eq_true rfl⟩) hout hlocks (fun E hE => hz12 _ hE) (fun hr => ?_)
  replace hm := hm hr
  refine lv_iload hx hb d_Sp_side_29 (lv_at hl 5 rfl) ?_
  refine lv_iconst (v := 0) hx hb d_Sp_side_31 (by decide) ?_
  refine lv_iconst (v := 5) hx hb d_Sp_side_32 (by decide) ?_
  obtain ⟨z13, hb14, hz15, hm⟩ := bx0_z hm
  have hPc := hP.sub (ws' := (wl_Sp_needBetween)) [] rfl
  have hDc := hD.sub (ws' := (wl_Sp_needBetween)) [] (by decide) rfl
  have hFc := va_free (wc := (wl_Sp_needBetween)) hD hS hA [] rfl
  refine x_onV (x_runS (As := [.int p4, .int 0, .int 5]) (rest := []) ⟨hx, hb, hml, hown, hts⟩ (c_Sp_needBetween l htr dC dI (cI := cI) (cZ := cZ) (cJ := cJ) s.heap.size p4 0 5 z13 hb14) (va_cwS 3 hts (gl_S k_484 k_483 k_207 k_482) rfl rfl rfl (by decide +kernel) ⟨Nat.le_of_ble_eq_true rfl, Nat.le_of_ble_eq_true rfl⟩) ⟨PPX_blind, fun U hU hW => PPX_at hK hN hX hPc hDc hFc hU hW⟩ rfl rfl hl.1 rfl (lv_room (Nat.le_of_ble_eq_true rfl)) d_Sp_side_33 ⟨Nat.le_of_ble_eq_true rfl, Nat.le_of_ble_eq_true rfl⟩) hout hlocks (fun E hE => hz15 _ hE) (fun hr => ?_)
  replace hm := hm hr
  refine lv_aload_n hx hb d_Sp_side_36 rfl (lv_at hl 1 rfl) ?_
  obtain ⟨z16, hb17, hz18, hm⟩ := bx0_z hm
  have hPc := hP.sub (ws' := (wl_Sp_needFreshRun a_0 b_0_lines b_0_flood a_0_net a_0_loops b_0_common b_0_names b_0_ways b_0_marked a_0_now r_0_before v_0_runs v_0_stale)) [0] rfl
  have hDc := hD.sub (ws' := (wl_Sp_needFreshRun a_0 b_0_lines b_0_flood a_0_net a_0_loops b_0_common b_0_names b_0_ways b_0_marked a_0_now r_0_before v_0_runs v_0_stale)) [0] (by decide) rfl
  have hFc := va_free (wc := (wl_Sp_needFreshRun a_0 b_0_lines b_0_flood a_0_net a_0_loops b_0_common b_0_names b_0_ways b_0_marked a_0_now r_0_before v_0_runs v_0_stale)) hD hS hA [0] rfl
  refine x_onV (x_runV (As := []) (rest := []) ⟨hx, hb, hml, hown, hts⟩ (c_Sp_needFreshRun l htr dC dI (cI := cI) (cZ := cZ) (cJ := cJ) a_0 b_0_lines b_0_flood a_0_net a_0_loops b_0_common b_0_names b_0_ways b_0_marked s.heap.size a_0_now r_0_before v_0_runs v_0_stale z16 hb17) (cwV 0 hts (gl_V k_516 k_515 k_514 k_207 k_513) rfl rfl rfl (by decide +kernel) ⟨Nat.le_of_ble_eq_true rfl, Nat.le_of_ble_eq_true rfl⟩) ⟨PPX_blind, va_recv hK hPc (ci := 0) (q0 := 0) rfl rfl, fun U hU hW => PPX_at hK hN hX hPc hDc hFc hU hW⟩ rfl rfl hl.1 rfl (lv_room (Nat.le_of_ble_eq_true rfl)) d_Sp_side_37 ⟨Nat.le_of_ble_eq_true rfl, Nat.le_of_ble_eq_true rfl⟩) hout hlocks (fun E hE => hz18 _ hE) (fun hr => ?_)
  replace hm := hm hr
  refine lv_aload_n hx hb d_Sp_side_40 rfl (lv_at hl 1 rfl) ?_
  refine va_get (D := (dC, dI)) (ci := 0) (v := .ref a_0_loops) (C := "SpaceCycles") (T := F_Sp) (N := 12) hx hb hts (in_F i_Sp) hown hK hP 0 rfl rfl 3 (by decide) (hts _ (in_c k_473)) (fun _ h9 => h9) rfl d_Sp_side_41 ?_
  refine lv_iload hx hb d_Sp_side_44 (lv_at hl 0 rfl) ?_
  refine lv_iload_n hx hb d_Sp_side_46 rfl (lv_at hl 4 rfl) ?_
  obtain ⟨r19, hb20, hm⟩ := bd1_e hm
  have hPc := hP.sub (ws' := (wl_Ri_sideOf a_0_loops a_0_loops_order a_0_loops_starts b_0_loops_gone a_0_loops_spaces cI v_0_loops_count v_0_loops_filled f_0_loops_order f_0_loops_starts)) [7, 8, 9] rfl
  have hDc := hD.sub (ws' := (wl_Ri_sideOf a_0_loops a_0_loops_order a_0_loops_starts b_0_loops_gone a_0_loops_spaces cI v_0_loops_count v_0_loops_filled f_0_loops_order f_0_loops_starts)) [7, 8, 9] (by decide) rfl
  refine cl_i (wc' := (wl_Ri_sideOf a_0_loops a_0_loops_order a_0_loops_starts b_0_loops_gone a_0_loops_spaces cI v_0_loops_count v_0_loops_filled f_0_loops_order f_0_loops_starts)) (va_runV (As := [.int r4, .int p3]) (rest := []) ⟨hx, hb, hml, hown, hts⟩ (c_Ri_sideOf l dC dI (cI := cI) (cZ := cZ) (cJ := cJ) a_0_loops a_0_loops_order a_0_loops_starts b_0_loops_gone a_0_loops_spaces s.heap.size v_0_loops_count v_0_loops_filled f_0_loops_order f_0_loops_starts r4 p3 r19 hb20) (cwV 2 hts (gl_V k_544 k_543 k_542 k_241 k_541) rfl rfl rfl (by decide +kernel) ⟨Nat.le_of_ble_eq_true rfl, Nat.le_of_ble_eq_true rfl⟩) ⟨PP_blind, va_recv hK hPc (ci := 4) (q0 := 0) rfl rfl, fun U hU hW => PP_at hK hN hPc hDc hU hW⟩ rfl rfl hl.1 rfl (lv_room (Nat.le_of_ble_eq_true rfl)) d_Sp_side_47 ⟨Nat.zero_le _, Nat.zero_le _⟩) hP hD hS hA [7, 8, 9] [0, 1, 2, 3, 4, 5, 6, 10, 11] rfl rfl (by decide) (by decide) (fun H locs hP hD hS => ?_)
  have hP : va_P (dC, dI) vwCl (wl_Sp_side a_0 a_0_net a_0_net_pointX a_0_net_pointY a_0_net_pieceLine a_0_net_begins a_0_net_leftSpaces a_0_loops a_0_loops_order a_0_loops_starts a_0_loops_spaces a_0_now b_0_lines b_0_flood b_0_common b_0_names b_0_ways b_0_marked b_0_net_looseSides b_0_net_sidesOut b_0_net_directions b_0_net_weights b_0_net_pointAt b_0_loops_gone b_0_now_xs b_0_now_ys b_0_now_cells cI a_0_now r_0_before v_0_runs v_0_stale v_0_net_points v_0_net_pieces v_0_net_looseEnds f_0_net_pointX f_0_net_pointY f_0_net_pieceLine f_0_net_begins f_0_net_leftSpaces v_0_loops_count v_0_loops_filled f_0_loops_order f_0_loops_starts f_0_loops_spaces v_0_now_spaces) H := hP.sub [0, 1, 2, 3, 4, 5, 6, 9, 10, 11, 7, 8] rfl
  have hD : va_D A (wl_Sp_side a_0 a_0_net a_0_net_pointX a_0_net_pointY a_0_net_pieceLine a_0_net_begins a_0_net_leftSpaces a_0_loops a_0_loops_order a_0_loops_starts a_0_loops_spaces a_0_now b_0_lines b_0_flood b_0_common b_0_names b_0_ways b_0_marked b_0_net_looseSides b_0_net_sidesOut b_0_net_directions b_0_net_weights b_0_net_pointAt b_0_loops_gone b_0_now_xs b_0_now_ys b_0_now_cells cI a_0_now r_0_before v_0_runs v_0_stale v_0_net_points v_0_net_pieces v_0_net_looseEnds f_0_net_pointX f_0_net_pointY f_0_net_pieceLine f_0_net_begins f_0_net_leftSpaces v_0_loops_count v_0_loops_filled f_0_loops_order f_0_loops_starts f_0_loops_spaces v_0_now_spaces) := hD.sub [0, 1, 2, 3, 4, 5, 6, 9, 10, 11, 7, 8] (by decide) rfl
  refine lv_istore (lv' := [(6, .int r19), (5, .int r4), (0, .ref a_0), (1, .int p1), (2, .int p2), (3, .int p3), (4, .int p4)]) hx hb d_Sp_side_50 hl (by decide) rfl (fun ls hl => ?_)
  refine lv_iload hx hb d_Sp_side_52 (lv_at hl 6 rfl) ?_
  by_cases c21 : p4 = 0
  · replace hm := if_t hm c21
    refine lv_tableIn (off := 34) (tgt := 88) hx hb d_Sp_side_54 (by rw [c21]; decide) (by rw [c21]; decide) (by rw [c21]; rfl) (by decide) ?_
    refine lv_aload_n hx hb d_Sp_side_88 rfl (lv_at hl 2 rfl) ?_
    refine va_get (D := (dC, dI)) (ci := 0) (v := .ref a_0_net) (C := "SpaceCycles") (T := F_Sp) (N := 12) hx hb hts (in_F i_Sp) hown hK hP 0 rfl rfl 2 (by decide) (hts _ (in_c k_517)) (fun _ h9 => h9) rfl d_Sp_side_89 ?_
    refine lv_iload hx hb d_Sp_side_92 (lv_at hl 0 rfl) ?_
    obtain ⟨r22, hb23, hm⟩ := bd1_e hm
    have hPc := hP.sub (ws' := (wl_Ne_lineOf a_0_net a_0_net_pieceLine a_0_net_pointX a_0_net_pointY b_0_net_looseSides b_0_net_sidesOut a_0_net_begins b_0_net_directions a_0_net_leftSpaces b_0_net_weights b_0_net_pointAt cI v_0_net_points v_0_net_pieces v_0_net_looseEnds f_0_net_pieceLine)) [1, 4] rfl
    have hDc := hD.sub (ws' := (wl_Ne_lineOf a_0_net a_0_net_pieceLine a_0_net_pointX a_0_net_pointY b_0_net_looseSides b_0_net_sidesOut a_0_net_begins b_0_net_directions a_0_net_leftSpaces b_0_net_weights b_0_net_pointAt cI v_0_net_points v_0_net_pieces v_0_net_looseEnds f_0_net_pieceLine)) [1, 4] (by decide) rfl
    refine cl_i (wc' := (wl_Ne_lineOf a_0_net a_0_net_pieceLine a_0_net_pointX a_0_net_pointY b_0_net_looseSides b_0_net_sidesOut a_0_net_begins b_0_net_directions a_0_net_leftSpaces b_0_net_weights b_0_net_pointAt cI v_0_net_points v_0_net_pieces v_0_net_looseEnds f_0_net_pieceLine)) (va_runV (As := [.int r19]) (rest := []) ⟨hx, hb, hml, hown, hts⟩ (c_Ne_lineOf l dC dI (cI := cI) (cZ := cZ) (cJ := cJ) a_0_net a_0_net_pieceLine a_0_net_pointX a_0_net_pointY b_0_net_looseSides b_0_net_sidesOut a_0_net_begins b_0_net_directions a_0_net_leftSpaces b_0_net_weights b_0_net_pointAt H.size v_0_net_points v_0_net_pieces v_0_net_looseEnds f_0_net_pieceLine r19 r22 hb23) (cwV 1 hts (gl_V k_545 k_215 k_214 k_145 k_213) rfl rfl rfl (by decide +kernel) ⟨Nat.le_of_ble_eq_true rfl, Nat.le_of_ble_eq_true rfl⟩) ⟨PP_blind, va_recv hK hPc (ci := 3) (q0 := 0) rfl rfl, fun U hU hW => PP_at hK hN hPc hDc hU hW⟩ rfl rfl hl.1 rfl (lv_room (Nat.le_of_ble_eq_true rfl)) d_Sp_side_94 ⟨Nat.zero_le _, Nat.zero_le _⟩) hP hD hS hA [1, 4] [0, 2, 3, 5, 6, 7, 8, 9, 10, 11] rfl rfl (by decide) (by decide) (fun H locs hP hD hS => ?_)
    have hP : va_P (dC, dI) vwCl (wl_Sp_side a_0 a_0_net a_0_net_pointX a_0_net_pointY a_0_net_pieceLine a_0_net_begins a_0_net_leftSpaces a_0_loops a_0_loops_order a_0_loops_starts a_0_loops_spaces a_0_now b_0_lines b_0_flood b_0_common b_0_names b_0_ways b_0_marked b_0_net_looseSides b_0_net_sidesOut b_0_net_directions b_0_net_weights b_0_net_pointAt b_0_loops_gone b_0_now_xs b_0_now_ys b_0_now_cells cI a_0_now r_0_before v_0_runs v_0_stale v_0_net_points v_0_net_pieces v_0_net_looseEnds f_0_net_pointX f_0_net_pointY f_0_net_pieceLine f_0_net_begins f_0_net_leftSpaces v_0_loops_count v_0_loops_filled f_0_loops_order f_0_loops_starts f_0_loops_spaces v_0_now_spaces) H := hP.sub [0, 10, 1, 2, 11, 3, 4, 5, 6, 7, 8, 9] rfl
    have hD : va_D A (wl_Sp_side a_0 a_0_net a_0_net_pointX a_0_net_pointY a_0_net_pieceLine a_0_net_begins a_0_net_leftSpaces a_0_loops a_0_loops_order a_0_loops_starts a_0_loops_spaces a_0_now b_0_lines b_0_flood b_0_common b_0_names b_0_ways b_0_marked b_0_net_looseSides b_0_net_sidesOut b_0_net_directions b_0_net_weights b_0_net_pointAt b_0_loops_gone b_0_now_xs b_0_now_ys b_0_now_cells cI a_0_now r_0_before v_0_runs v_0_stale v_0_net_points v_0_net_pieces v_0_net_looseEnds f_0_net_pointX f_0_net_pointY f_0_net_pieceLine f_0_net_begins f_0_net_leftSpaces v_0_loops_count v_0_loops_filled f_0_loops_order f_0_loops_starts f_0_loops_spaces v_0_now_spaces) := hD.sub [0, 10, 1, 2, 11, 3, 4, 5, 6, 7, 8, 9] (by decide) rfl
    cases hm
    exact hret _ rfl _ H locs ls d_Sp_side_97 hP hD hS
  · replace hm := if_f hm c21
    by_cases c24 : p4 = 1
    · replace hm := if_t hm c24
      refine lv_tableIn (off := 44) (tgt := 98) hx hb d_Sp_side_54 (by rw [c24]; decide) (by rw [c24]; decide) (by rw [c24]; rfl) (by decide) ?_
      refine lv_aload_n hx hb d_Sp_side_98 rfl (lv_at hl 2 rfl) ?_
      refine va_get (D := (dC, dI)) (ci := 0) (v := .ref a_0_net) (C := "SpaceCycles") (T := F_Sp) (N := 12) hx hb hts (in_F i_Sp) hown hK hP 0 rfl rfl 2 (by decide) (hts _ (in_c k_517)) (fun _ h9 => h9) rfl d_Sp_side_99 ?_
      refine va_get (D := (dC, dI)) (ci := 3) (v := .ref a_0_net_pointX) (C := "SpaceCycles$Net") (T := F_Ne) (N := 13) hx hb hts (in_F i_Ne) hown hK hP 1 rfl rfl 0 (by decide) (hts _ (in_c k_546)) (fun _ h9 => h9) rfl d_Sp_side_102 ?_
      refine lv_aload_n hx hb d_Sp_side_105 rfl (lv_at hl 2 rfl) ?_
      refine va_get (D := (dC, dI)) (ci := 0) (v := .ref a_0_net) (C := "SpaceCycles") (T := F_Sp) (N := 12) hx hb hts (in_F i_Sp) hown hK hP 0 rfl rfl 2 (by decide) (hts _ (in_c k_517)) (fun _ h9 => h9) rfl d_Sp_side_106 ?_
      refine lv_iload hx hb d_Sp_side_109 (lv_at hl 0 rfl) ?_
      obtain ⟨r25, hb26, hm⟩ := bd1_e hm
      have hPc := hP.sub (ws' := (wl_Ne_beginningOf a_0_net a_0_net_begins a_0_net_pointX a_0_net_pointY b_0_net_looseSides b_0_net_sidesOut a_0_net_pieceLine b_0_net_directions a_0_net_leftSpaces b_0_net_weights b_0_net_pointAt cI v_0_net_points v_0_net_pieces v_0_net_looseEnds f_0_net_begins)) [1, 5] rfl
      have hDc := hD.sub (ws' := (wl_Ne_beginningOf a_0_net a_0_net_begins a_0_net_pointX a_0_net_pointY b_0_net_looseSides b_0_net_sidesOut a_0_net_pieceLine b_0_net_directions a_0_net_leftSpaces b_0_net_weights b_0_net_pointAt cI v_0_net_points v_0_net_pieces v_0_net_looseEnds f_0_net_begins)) [1, 5] (by decide) rfl
      refine cl_i (wc' := (wl_Ne_beginningOf a_0_net a_0_net_begins a_0_net_pointX a_0_net_pointY b_0_net_looseSides b_0_net_sidesOut a_0_net_pieceLine b_0_net_directions a_0_net_leftSpaces b_0_net_weights b_0_net_pointAt cI v_0_net_points v_0_net_pieces v_0_net_looseEnds f_0_net_begins)) (va_runV (As := [.int r19]) (rest := [.ref a_0_net_pointX]) ⟨hx, hb, hml, hown, hts⟩ (c_Ne_beginningOf l dC dI (cI := cI) (cZ := cZ) (cJ := cJ) a_0_net a_0_net_begins a_0_net_pointX a_0_net_pointY b_0_net_looseSides b_0_net_sidesOut a_0_net_pieceLine b_0_net_directions a_0_net_leftSpaces b_0_net_weights b_0_net_pointAt H.size v_0_net_points v_0_net_pieces v_0_net_looseEnds f_0_net_begins r19 r25 hb26) (cwV 1 hts (gl_V k_547 k_248 k_247 k_145 k_246) rfl rfl rfl (by decide +kernel) ⟨Nat.le_of_ble_eq_true rfl, Nat.le_of_ble_eq_true rfl⟩) ⟨PP_blind, va_recv hK hPc (ci := 3) (q0 := 0) rfl rfl, fun U hU hW => PP_at hK hN hPc hDc hU hW⟩ rfl rfl hl.1 rfl (lv_room (Nat.le_of_ble_eq_true rfl)) d_Sp_side_111 ⟨Nat.zero_le _, Nat.zero_le _⟩) hP hD hS hA [1, 5] [0, 2, 3, 4, 6, 7, 8, 9, 10, 11] rfl rfl (by decide) (by decide) (fun H locs hP hD hS => ?_)
      have hP : va_P (dC, dI) vwCl (wl_Sp_side a_0 a_0_net a_0_net_pointX a_0_net_pointY a_0_net_pieceLine a_0_net_begins a_0_net_leftSpaces a_0_loops a_0_loops_order a_0_loops_starts a_0_loops_spaces a_0_now b_0_lines b_0_flood b_0_common b_0_names b_0_ways b_0_marked b_0_net_looseSides b_0_net_sidesOut b_0_net_directions b_0_net_weights b_0_net_pointAt b_0_loops_gone b_0_now_xs b_0_now_ys b_0_now_cells cI a_0_now r_0_before v_0_runs v_0_stale v_0_net_points v_0_net_pieces v_0_net_looseEnds f_0_net_pointX f_0_net_pointY f_0_net_pieceLine f_0_net_begins f_0_net_leftSpaces v_0_loops_count v_0_loops_filled f_0_loops_order f_0_loops_starts f_0_loops_spaces v_0_now_spaces) H := hP.sub [0, 10, 1, 2, 3, 11, 4, 5, 6, 7, 8, 9] rfl
      have hD : va_D A (wl_Sp_side a_0 a_0_net a_0_net_pointX a_0_net_pointY a_0_net_pieceLine a_0_net_begins a_0_net_leftSpaces a_0_loops a_0_loops_order a_0_loops_starts a_0_loops_spaces a_0_now b_0_lines b_0_flood b_0_common b_0_names b_0_ways b_0_marked b_0_net_looseSides b_0_net_sidesOut b_0_net_directions b_0_net_weights b_0_net_pointAt b_0_loops_gone b_0_now_xs b_0_now_ys b_0_now_cells cI a_0_now r_0_before v_0_runs v_0_stale v_0_net_points v_0_net_pieces v_0_net_looseEnds f_0_net_pointX f_0_net_pointY f_0_net_pieceLine f_0_net_begins f_0_net_leftSpaces v_0_loops_count v_0_loops_filled f_0_loops_order f_0_loops_starts f_0_loops_spaces v_0_now_spaces) := hD.sub [0, 10, 1, 2, 3, 11, 4, 5, 6, 7, 8, 9] (by decide) rfl
      obtain ⟨hi27, hm⟩ := gI_e hm
      refine va_iald hx hb hK hP 2 0 rfl rfl hi27 d_Sp_side_114 ?_
      cases hm
      exact hret _ rfl _ H locs ls d_Sp_side_115 hP hD hS
    · replace hm := if_f hm c24
      by_cases c28 : p4 = 2
      · replace hm := if_t hm c28
        refine lv_tableIn (off := 62) (tgt := 116) hx hb d_Sp_side_54 (by rw [c28]; decide) (by rw [c28]; decide) (by rw [c28]; rfl) (by decide) ?_
        refine lv_aload_n hx hb d_Sp_side_116 rfl (lv_at hl 2 rfl) ?_
        refine va_get (D := (dC, dI)) (ci := 0) (v := .ref a_0_net) (C := "SpaceCycles") (T := F_Sp) (N := 12) hx hb hts (in_F i_Sp) hown hK hP 0 rfl rfl 2 (by decide) (hts _ (in_c k_517)) (fun _ h9 => h9) rfl d_Sp_side_117 ?_
        refine va_get (D := (dC, dI)) (ci := 3) (v := .ref a_0_net_pointY) (C := "SpaceCycles$Net") (T := F_Ne) (N := 13) hx hb hts (in_F i_Ne) hown hK hP 1 rfl rfl 1 (by decide) (hts _ (in_c k_548)) (fun _ h9 => h9) rfl d_Sp_side_120 ?_
        refine lv_aload_n hx hb d_Sp_side_123 rfl (lv_at hl 2 rfl) ?_
        refine va_get (D := (dC, dI)) (ci := 0) (v := .ref a_0_net) (C := "SpaceCycles") (T := F_Sp) (N := 12) hx hb hts (in_F i_Sp) hown hK hP 0 rfl rfl 2 (by decide) (hts _ (in_c k_517)) (fun _ h9 => h9) rfl d_Sp_side_124 ?_
        refine lv_iload hx hb d_Sp_side_127 (lv_at hl 0 rfl) ?_
        obtain ⟨r29, hb30, hm⟩ := bd1_e hm
        have hPc := hP.sub (ws' := (wl_Ne_beginningOf a_0_net a_0_net_begins a_0_net_pointX a_0_net_pointY b_0_net_looseSides b_0_net_sidesOut a_0_net_pieceLine b_0_net_directions a_0_net_leftSpaces b_0_net_weights b_0_net_pointAt cI v_0_net_points v_0_net_pieces v_0_net_looseEnds f_0_net_begins)) [1, 5] rfl
        have hDc := hD.sub (ws' := (wl_Ne_beginningOf a_0_net a_0_net_begins a_0_net_pointX a_0_net_pointY b_0_net_looseSides b_0_net_sidesOut a_0_net_pieceLine b_0_net_directions a_0_net_leftSpaces b_0_net_weights b_0_net_pointAt cI v_0_net_points v_0_net_pieces v_0_net_looseEnds f_0_net_begins)) [1, 5] (by decide) rfl
        refine cl_i (wc' := (wl_Ne_beginningOf a_0_net a_0_net_begins a_0_net_pointX a_0_net_pointY b_0_net_looseSides b_0_net_sidesOut a_0_net_pieceLine b_0_net_directions a_0_net_leftSpaces b_0_net_weights b_0_net_pointAt cI v_0_net_points v_0_net_pieces v_0_net_looseEnds f_0_net_begins)) (va_runV (As := [.int r19]) (rest := [.ref a_0_net_pointY]) ⟨hx, hb, hml, hown, hts⟩ (c_Ne_beginningOf l dC dI (cI := cI) (cZ := cZ) (cJ := cJ) a_0_net a_0_net_begins a_0_net_pointX a_0_net_pointY b_0_net_looseSides b_0_net_sidesOut a_0_net_pieceLine b_0_net_directions a_0_net_leftSpaces b_0_net_weights b_0_net_pointAt H.size v_0_net_points v_0_net_pieces v_0_net_looseEnds f_0_net_begins r19 r29 hb30) (cwV 1 hts (gl_V k_547 k_248 k_247 k_145 k_246) rfl rfl rfl (by decide +kernel) ⟨Nat.le_of_ble_eq_true rfl, Nat.le_of_ble_eq_true rfl⟩) ⟨PP_blind, va_recv hK hPc (ci := 3) (q0 := 0) rfl rfl, fun U hU hW => PP_at hK hN hPc hDc hU hW⟩ rfl rfl hl.1 rfl (lv_room (Nat.le_of_ble_eq_true rfl)) d_Sp_side_129 ⟨Nat.zero_le _, Nat.zero_le _⟩) hP hD hS hA [1, 5] [0, 2, 3, 4, 6, 7, 8, 9, 10, 11] rfl rfl (by decide) (by decide) (fun H locs hP hD hS => ?_)
        have hP : va_P (dC, dI) vwCl (wl_Sp_side a_0 a_0_net a_0_net_pointX a_0_net_pointY a_0_net_pieceLine a_0_net_begins a_0_net_leftSpaces a_0_loops a_0_loops_order a_0_loops_starts a_0_loops_spaces a_0_now b_0_lines b_0_flood b_0_common b_0_names b_0_ways b_0_marked b_0_net_looseSides b_0_net_sidesOut b_0_net_directions b_0_net_weights b_0_net_pointAt b_0_loops_gone b_0_now_xs b_0_now_ys b_0_now_cells cI a_0_now r_0_before v_0_runs v_0_stale v_0_net_points v_0_net_pieces v_0_net_looseEnds f_0_net_pointX f_0_net_pointY f_0_net_pieceLine f_0_net_begins f_0_net_leftSpaces v_0_loops_count v_0_loops_filled f_0_loops_order f_0_loops_starts f_0_loops_spaces v_0_now_spaces) H := hP.sub [0, 10, 1, 2, 3, 11, 4, 5, 6, 7, 8, 9] rfl
        have hD : va_D A (wl_Sp_side a_0 a_0_net a_0_net_pointX a_0_net_pointY a_0_net_pieceLine a_0_net_begins a_0_net_leftSpaces a_0_loops a_0_loops_order a_0_loops_starts a_0_loops_spaces a_0_now b_0_lines b_0_flood b_0_common b_0_names b_0_ways b_0_marked b_0_net_looseSides b_0_net_sidesOut b_0_net_directions b_0_net_weights b_0_net_pointAt b_0_loops_gone b_0_now_xs b_0_now_ys b_0_now_cells cI a_0_now r_0_before v_0_runs v_0_stale v_0_net_points v_0_net_pieces v_0_net_looseEnds f_0_net_pointX f_0_net_pointY f_0_net_pieceLine f_0_net_begins f_0_net_leftSpaces v_0_loops_count v_0_loops_filled f_0_loops_order f_0_loops_starts f_0_loops_spaces v_0_now_spaces) := hD.sub [0, 10, 1, 2, 3, 11, 4, 5, 6, 7, 8, 9] (by decide) rfl
        obtain ⟨hi31, hm⟩ := gI_e hm
        refine va_iald hx hb hK hP 3 0 rfl rfl hi31 d_Sp_side_132 ?_
        cases hm
        exact hret _ rfl _ H locs ls d_Sp_side_133 hP hD hS
      · replace hm := if_f hm c28
        by_cases c32 : p4 = 3
        · replace hm := if_t hm c32
          refine lv_tableIn (off := 80) (tgt := 134) hx hb d_Sp_side_54 (by rw [c32]; decide) (by rw [c32]; decide) (by rw [c32]; rfl) (by decide) ?_
          refine lv_aload_n hx hb d_Sp_side_134 rfl (lv_at hl 2 rfl) ?_
          refine va_get (D := (dC, dI)) (ci := 0) (v := .ref a_0_net) (C := "SpaceCycles") (T := F_Sp) (N := 12) hx hb hts (in_F i_Sp) hown hK hP 0 rfl rfl 2 (by decide) (hts _ (in_c k_517)) (fun _ h9 => h9) rfl d_Sp_side_135 ?_
          refine va_get (D := (dC, dI)) (ci := 3) (v := .ref a_0_net_pointX) (C := "SpaceCycles$Net") (T := F_Ne) (N := 13) hx hb hts (in_F i_Ne) hown hK hP 1 rfl rfl 0 (by decide) (hts _ (in_c k_546)) (fun _ h9 => h9) rfl d_Sp_side_138 ?_
          refine lv_aload_n hx hb d_Sp_side_141 rfl (lv_at hl 2 rfl) ?_
          refine va_get (D := (dC, dI)) (ci := 0) (v := .ref a_0_net) (C := "SpaceCycles") (T := F_Sp) (N := 12) hx hb hts (in_F i_Sp) hown hK hP 0 rfl rfl 2 (by decide) (hts _ (in_c k_517)) (fun _ h9 => h9) rfl d_Sp_side_142 ?_
          refine lv_iload hx hb d_Sp_side_145 (lv_at hl 0 rfl) ?_
          obtain ⟨r33, hb34, hm⟩ := bd1_e hm
          have hPc := hP.sub (ws' := (wl_Ne_endOf a_0_net a_0_net_begins a_0_net_pointX a_0_net_pointY b_0_net_looseSides b_0_net_sidesOut a_0_net_pieceLine b_0_net_directions a_0_net_leftSpaces b_0_net_weights b_0_net_pointAt cI v_0_net_points v_0_net_pieces v_0_net_looseEnds f_0_net_begins)) [1, 5] rfl
          have hDc := hD.sub (ws' := (wl_Ne_endOf a_0_net a_0_net_begins a_0_net_pointX a_0_net_pointY b_0_net_looseSides b_0_net_sidesOut a_0_net_pieceLine b_0_net_directions a_0_net_leftSpaces b_0_net_weights b_0_net_pointAt cI v_0_net_points v_0_net_pieces v_0_net_looseEnds f_0_net_begins)) [1, 5] (by decide) rfl
          refine cl_i (wc' := (wl_Ne_endOf a_0_net a_0_net_begins a_0_net_pointX a_0_net_pointY b_0_net_looseSides b_0_net_sidesOut a_0_net_pieceLine b_0_net_directions a_0_net_leftSpaces b_0_net_weights b_0_net_pointAt cI v_0_net_points v_0_net_pieces v_0_net_looseEnds f_0_net_begins)) (va_runV (As := [.int r19]) (rest := [.ref a_0_net_pointX]) ⟨hx, hb, hml, hown, hts⟩ (c_Ne_endOf l dC dI (cI := cI) (cZ := cZ) (cJ := cJ) a_0_net a_0_net_begins a_0_net_pointX a_0_net_pointY b_0_net_looseSides b_0_net_sidesOut a_0_net_pieceLine b_0_net_directions a_0_net_leftSpaces b_0_net_weights b_0_net_pointAt H.size v_0_net_points v_0_net_pieces v_0_net_looseEnds f_0_net_begins r19 r33 hb34) (cwV 1 hts (gl_V k_549 k_203 k_202 k_145 k_201) rfl rfl rfl (by decide +kernel) ⟨Nat.le_of_ble_eq_true rfl, Nat.le_of_ble_eq_true rfl⟩) ⟨PP_blind, va_recv hK hPc (ci := 3) (q0 := 0) rfl rfl, fun U hU hW => PP_at hK hN hPc hDc hU hW⟩ rfl rfl hl.1 rfl (lv_room (Nat.le_of_ble_eq_true rfl)) d_Sp_side_147 ⟨Nat.zero_le _, Nat.zero_le _⟩) hP hD hS hA [1, 5] [0, 2, 3, 4, 6, 7, 8, 9, 10, 11] rfl rfl (by decide) (by decide) (fun H locs hP hD hS => ?_)
          have hP : va_P (dC, dI) vwCl (wl_Sp_side a_0 a_0_net a_0_net_pointX a_0_net_pointY a_0_net_pieceLine a_0_net_begins a_0_net_leftSpaces a_0_loops a_0_loops_order a_0_loops_starts a_0_loops_spaces a_0_now b_0_lines b_0_flood b_0_common b_0_names b_0_ways b_0_marked b_0_net_looseSides b_0_net_sidesOut b_0_net_directions b_0_net_weights b_0_net_pointAt b_0_loops_gone b_0_now_xs b_0_now_ys b_0_now_cells cI a_0_now r_0_before v_0_runs v_0_stale v_0_net_points v_0_net_pieces v_0_net_looseEnds f_0_net_pointX f_0_net_pointY f_0_net_pieceLine f_0_net_begins f_0_net_leftSpaces v_0_loops_count v_0_loops_filled f_0_loops_order f_0_loops_starts f_0_loops_spaces v_0_now_spaces) H := hP.sub [0, 10, 1, 2, 3, 11, 4, 5, 6, 7, 8, 9] rfl
          have hD : va_D A (wl_Sp_side a_0 a_0_net a_0_net_pointX a_0_net_pointY a_0_net_pieceLine a_0_net_begins a_0_net_leftSpaces a_0_loops a_0_loops_order a_0_loops_starts a_0_loops_spaces a_0_now b_0_lines b_0_flood b_0_common b_0_names b_0_ways b_0_marked b_0_net_looseSides b_0_net_sidesOut b_0_net_directions b_0_net_weights b_0_net_pointAt b_0_loops_gone b_0_now_xs b_0_now_ys b_0_now_cells cI a_0_now r_0_before v_0_runs v_0_stale v_0_net_points v_0_net_pieces v_0_net_looseEnds f_0_net_pointX f_0_net_pointY f_0_net_pieceLine f_0_net_begins f_0_net_leftSpaces v_0_loops_count v_0_loops_filled f_0_loops_order f_0_loops_starts f_0_loops_spaces v_0_now_spaces) := hD.sub [0, 10, 1, 2, 3, 11, 4, 5, 6, 7, 8, 9] (by decide) rfl
          obtain ⟨hi35, hm⟩ := gI_e hm
          refine va_iald hx hb hK hP 2 0 rfl rfl hi35 d_Sp_side_150 ?_
          cases hm
          exact hret _ rfl _ H locs ls d_Sp_side_151 hP hD hS
        · replace hm := if_f hm c32
          by_cases c36 : p4 = 4
          · replace hm := if_t hm c36
            refine lv_tableIn (off := 98) (tgt := 152) hx hb d_Sp_side_54 (by rw [c36]; decide) (by rw [c36]; decide) (by rw [c36]; rfl) (by decide) ?_
            refine lv_aload_n hx hb d_Sp_side_152 rfl (lv_at hl 2 rfl) ?_
            refine va_get (D := (dC, dI)) (ci := 0) (v := .ref a_0_net) (C := "SpaceCycles") (T := F_Sp) (N := 12) hx hb hts (in_F i_Sp) hown hK hP 0 rfl rfl 2 (by decide) (hts _ (in_c k_517)) (fun _ h9 => h9) rfl d_Sp_side_153 ?_
            refine va_get (D := (dC, dI)) (ci := 3) (v := .ref a_0_net_pointY) (C := "SpaceCycles$Net") (T := F_Ne) (N := 13) hx hb hts (in_F i_Ne) hown hK hP 1 rfl rfl 1 (by decide) (hts _ (in_c k_548)) (fun _ h9 => h9) rfl d_Sp_side_156 ?_
            refine lv_aload_n hx hb d_Sp_side_159 rfl (lv_at hl 2 rfl) ?_
            refine va_get (D := (dC, dI)) (ci := 0) (v := .ref a_0_net) (C := "SpaceCycles") (T := F_Sp) (N := 12) hx hb hts (in_F i_Sp) hown hK hP 0 rfl rfl 2 (by decide) (hts _ (in_c k_517)) (fun _ h9 => h9) rfl d_Sp_side_160 ?_
            refine lv_iload hx hb d_Sp_side_163 (lv_at hl 0 rfl) ?_
            obtain ⟨r37, hb38, hm⟩ := bd1_e hm
            have hPc := hP.sub (ws' := (wl_Ne_endOf a_0_net a_0_net_begins a_0_net_pointX a_0_net_pointY b_0_net_looseSides b_0_net_sidesOut a_0_net_pieceLine b_0_net_directions a_0_net_leftSpaces b_0_net_weights b_0_net_pointAt cI v_0_net_points v_0_net_pieces v_0_net_looseEnds f_0_net_begins)) [1, 5] rfl
            have hDc := hD.sub (ws' := (wl_Ne_endOf a_0_net a_0_net_begins a_0_net_pointX a_0_net_pointY b_0_net_looseSides b_0_net_sidesOut a_0_net_pieceLine b_0_net_directions a_0_net_leftSpaces b_0_net_weights b_0_net_pointAt cI v_0_net_points v_0_net_pieces v_0_net_looseEnds f_0_net_begins)) [1, 5] (by decide) rfl
            refine cl_i (wc' := (wl_Ne_endOf a_0_net a_0_net_begins a_0_net_pointX a_0_net_pointY b_0_net_looseSides b_0_net_sidesOut a_0_net_pieceLine b_0_net_directions a_0_net_leftSpaces b_0_net_weights b_0_net_pointAt cI v_0_net_points v_0_net_pieces v_0_net_looseEnds f_0_net_begins)) (va_runV (As := [.int r19]) (rest := [.ref a_0_net_pointY]) ⟨hx, hb, hml, hown, hts⟩ (c_Ne_endOf l dC dI (cI := cI) (cZ := cZ) (cJ := cJ) a_0_net a_0_net_begins a_0_net_pointX a_0_net_pointY b_0_net_looseSides b_0_net_sidesOut a_0_net_pieceLine b_0_net_directions a_0_net_leftSpaces b_0_net_weights b_0_net_pointAt H.size v_0_net_points v_0_net_pieces v_0_net_looseEnds f_0_net_begins r19 r37 hb38) (cwV 1 hts (gl_V k_549 k_203 k_202 k_145 k_201) rfl rfl rfl (by decide +kernel) ⟨Nat.le_of_ble_eq_true rfl, Nat.le_of_ble_eq_true rfl⟩) ⟨PP_blind, va_recv hK hPc (ci := 3) (q0 := 0) rfl rfl, fun U hU hW => PP_at hK hN hPc hDc hU hW⟩ rfl rfl hl.1 rfl (lv_room (Nat.le_of_ble_eq_true rfl)) d_Sp_side_165 ⟨Nat.zero_le _, Nat.zero_le _⟩) hP hD hS hA [1, 5] [0, 2, 3, 4, 6, 7, 8, 9, 10, 11] rfl rfl (by decide) (by decide) (fun H locs hP hD hS => ?_)
            have hP : va_P (dC, dI) vwCl (wl_Sp_side a_0 a_0_net a_0_net_pointX a_0_net_pointY a_0_net_pieceLine a_0_net_begins a_0_net_leftSpaces a_0_loops a_0_loops_order a_0_loops_starts a_0_loops_spaces a_0_now b_0_lines b_0_flood b_0_common b_0_names b_0_ways b_0_marked b_0_net_looseSides b_0_net_sidesOut b_0_net_directions b_0_net_weights b_0_net_pointAt b_0_loops_gone b_0_now_xs b_0_now_ys b_0_now_cells cI a_0_now r_0_before v_0_runs v_0_stale v_0_net_points v_0_net_pieces v_0_net_looseEnds f_0_net_pointX f_0_net_pointY f_0_net_pieceLine f_0_net_begins f_0_net_leftSpaces v_0_loops_count v_0_loops_filled f_0_loops_order f_0_loops_starts f_0_loops_spaces v_0_now_spaces) H := hP.sub [0, 10, 1, 2, 3, 11, 4, 5, 6, 7, 8, 9] rfl
            have hD : va_D A (wl_Sp_side a_0 a_0_net a_0_net_pointX a_0_net_pointY a_0_net_pieceLine a_0_net_begins a_0_net_leftSpaces a_0_loops a_0_loops_order a_0_loops_starts a_0_loops_spaces a_0_now b_0_lines b_0_flood b_0_common b_0_names b_0_ways b_0_marked b_0_net_looseSides b_0_net_sidesOut b_0_net_directions b_0_net_weights b_0_net_pointAt b_0_loops_gone b_0_now_xs b_0_now_ys b_0_now_cells cI a_0_now r_0_before v_0_runs v_0_stale v_0_net_points v_0_net_pieces v_0_net_looseEnds f_0_net_pointX f_0_net_pointY f_0_net_pieceLine f_0_net_begins f_0_net_leftSpaces v_0_loops_count v_0_loops_filled f_0_loops_order f_0_loops_starts f_0_loops_spaces v_0_now_spaces) := hD.sub [0, 10, 1, 2, 3, 11, 4, 5, 6, 7, 8, 9] (by decide) rfl
            obtain ⟨hi39, hm⟩ := gI_e hm
            refine va_iald hx hb hK hP 3 0 rfl rfl hi39 d_Sp_side_168 ?_
            cases hm
            exact hret _ rfl _ H locs ls d_Sp_side_169 hP hD hS
          · replace hm := if_f hm c36
            refine lv_tableOut (tgt := 170) hx hb d_Sp_side_54 (by have e0 := tn (z := 0) c21 (by decide); have e1 := tn (z := 1) c24 (by decide); have e2 := tn (z := 2) c28 (by decide); have e3 := tn (z := 3) c32 (by decide); have e4 := tn (z := 4) c36 (by decide); omega) (by decide) ?_
            refine lv_aload_n hx hb d_Sp_side_170 rfl (lv_at hl 2 rfl) ?_
            refine va_get (D := (dC, dI)) (ci := 0) (v := .ref a_0_net) (C := "SpaceCycles") (T := F_Sp) (N := 12) hx hb hts (in_F i_Sp) hown hK hP 0 rfl rfl 2 (by decide) (hts _ (in_c k_517)) (fun _ h9 => h9) rfl d_Sp_side_171 ?_
            refine lv_iload hx hb d_Sp_side_174 (lv_at hl 0 rfl) ?_
            obtain ⟨r40, hb41, hm⟩ := bd1_e hm
            have hPc := hP.sub (ws' := (wl_Ne_onTheRight a_0_net a_0_net_leftSpaces a_0_net_pointX a_0_net_pointY b_0_net_looseSides b_0_net_sidesOut a_0_net_pieceLine a_0_net_begins b_0_net_directions b_0_net_weights b_0_net_pointAt cI v_0_net_points v_0_net_pieces v_0_net_looseEnds f_0_net_leftSpaces)) [1, 6] rfl
            have hDc := hD.sub (ws' := (wl_Ne_onTheRight a_0_net a_0_net_leftSpaces a_0_net_pointX a_0_net_pointY b_0_net_looseSides b_0_net_sidesOut a_0_net_pieceLine a_0_net_begins b_0_net_directions b_0_net_weights b_0_net_pointAt cI v_0_net_points v_0_net_pieces v_0_net_looseEnds f_0_net_leftSpaces)) [1, 6] (by decide) rfl
            refine cl_i (wc' := (wl_Ne_onTheRight a_0_net a_0_net_leftSpaces a_0_net_pointX a_0_net_pointY b_0_net_looseSides b_0_net_sidesOut a_0_net_pieceLine a_0_net_begins b_0_net_directions b_0_net_weights b_0_net_pointAt cI v_0_net_points v_0_net_pieces v_0_net_looseEnds f_0_net_leftSpaces)) (va_runV (As := [.int r19]) (rest := []) ⟨hx, hb, hml, hown, hts⟩ (c_Ne_onTheRight l dC dI (cI := cI) (cZ := cZ) (cJ := cJ) a_0_net a_0_net_leftSpaces a_0_net_pointX a_0_net_pointY b_0_net_looseSides b_0_net_sidesOut a_0_net_pieceLine a_0_net_begins b_0_net_directions b_0_net_weights b_0_net_pointAt H.size v_0_net_points v_0_net_pieces v_0_net_looseEnds f_0_net_leftSpaces r19 r40 hb41) (cwV 1 hts (gl_V k_550 k_219 k_218 k_145 k_217) rfl rfl rfl (by decide +kernel) ⟨Nat.le_of_ble_eq_true rfl, Nat.le_of_ble_eq_true rfl⟩) ⟨PP_blind, va_recv hK hPc (ci := 3) (q0 := 0) rfl rfl, fun U hU hW => PP_at hK hN hPc hDc hU hW⟩ rfl rfl hl.1 rfl (lv_room (Nat.le_of_ble_eq_true rfl)) d_Sp_side_176 ⟨Nat.zero_le _, Nat.zero_le _⟩) hP hD hS hA [1, 6] [0, 2, 3, 4, 5, 7, 8, 9, 10, 11] rfl rfl (by decide) (by decide) (fun H locs hP hD hS => ?_)
            have hP : va_P (dC, dI) vwCl (wl_Sp_side a_0 a_0_net a_0_net_pointX a_0_net_pointY a_0_net_pieceLine a_0_net_begins a_0_net_leftSpaces a_0_loops a_0_loops_order a_0_loops_starts a_0_loops_spaces a_0_now b_0_lines b_0_flood b_0_common b_0_names b_0_ways b_0_marked b_0_net_looseSides b_0_net_sidesOut b_0_net_directions b_0_net_weights b_0_net_pointAt b_0_loops_gone b_0_now_xs b_0_now_ys b_0_now_cells cI a_0_now r_0_before v_0_runs v_0_stale v_0_net_points v_0_net_pieces v_0_net_looseEnds f_0_net_pointX f_0_net_pointY f_0_net_pieceLine f_0_net_begins f_0_net_leftSpaces v_0_loops_count v_0_loops_filled f_0_loops_order f_0_loops_starts f_0_loops_spaces v_0_now_spaces) H := hP.sub [0, 10, 1, 2, 3, 4, 11, 5, 6, 7, 8, 9] rfl
            have hD : va_D A (wl_Sp_side a_0 a_0_net a_0_net_pointX a_0_net_pointY a_0_net_pieceLine a_0_net_begins a_0_net_leftSpaces a_0_loops a_0_loops_order a_0_loops_starts a_0_loops_spaces a_0_now b_0_lines b_0_flood b_0_common b_0_names b_0_ways b_0_marked b_0_net_looseSides b_0_net_sidesOut b_0_net_directions b_0_net_weights b_0_net_pointAt b_0_loops_gone b_0_now_xs b_0_now_ys b_0_now_cells cI a_0_now r_0_before v_0_runs v_0_stale v_0_net_points v_0_net_pieces v_0_net_looseEnds f_0_net_pointX f_0_net_pointY f_0_net_pieceLine f_0_net_begins f_0_net_leftSpaces v_0_loops_count v_0_loops_filled f_0_loops_order f_0_loops_starts f_0_loops_spaces v_0_now_spaces) := hD.sub [0, 10, 1, 2, 3, 4, 11, 5, 6, 7, 8, 9] (by decide) rfl
            cases hm
            exact hret _ rfl _ H locs ls d_Sp_side_179 hP hD hS
set_option maxHeartbeats 4000000 in
set_option maxRecDepth 100000 in
theorem c_Sp_side (l : Launch) (htr : l.stackTraces = false) (dC : Nat → ClassId) (dI : Nat → Nat → Nat) {cI cZ cJ : ClassId} (a_0 a_0_net a_0_net_pointX a_0_net_pointY a_0_net_pieceLine a_0_net_begins a_0_net_leftSpaces a_0_loops a_0_loops_order a_0_loops_starts a_0_loops_spaces a_0_now b_0_lines b_0_flood b_0_common b_0_names b_0_ways b_0_marked b_0_net_looseSides b_0_net_sidesOut b_0_net_directions b_0_net_weights b_0_net_pointAt b_0_loops_gone b_0_now_xs b_0_now_ys b_0_now_cells : Nat) (sz : Nat) (r_0_before : Nat) (v_0_runs : Int32) (v_0_stale : Int32) (v_0_net_points : Int32) (v_0_net_pieces : Int32) (v_0_net_looseEnds : Int32) (f_0_net_pointX : Nat → Int32) (f_0_net_pointY : Nat → Int32) (f_0_net_pieceLine : Nat → Int32) (f_0_net_begins : Nat → Int32) (f_0_net_leftSpaces : Nat → Int32) (v_0_loops_count : Int32) (v_0_loops_filled : Int32) (f_0_loops_order : Nat → Int32) (f_0_loops_starts : Nat → Int32) (f_0_loops_spaces : Nat → Int32) (v_0_now_spaces : Int32) (p1 : Int32) (p2 : Int32) (p3 : Int32) (p4 : Int32) (Z : Sum Nat (Int32)) (hm : m_Sp_side p1 p2 p3 p4 v_0_stale f_0_net_pointX f_0_net_pointY f_0_net_pieceLine f_0_net_begins f_0_net_leftSpaces v_0_loops_count f_0_loops_order f_0_loops_starts f_0_loops_spaces v_0_now_spaces = some Z) : XMet l y_Sp_side w_Sp_side rm_Sp_side (PPX dC dI [(cI, .int), (cZ, .boolean), (cJ, .long)] [.ref a_0, .int p1, .int p2, .int p3, .int p4] sz (wl_Sp_side a_0 a_0_net a_0_net_pointX a_0_net_pointY a_0_net_pieceLine a_0_net_begins a_0_net_leftSpaces a_0_loops a_0_loops_order a_0_loops_starts a_0_loops_spaces a_0_now b_0_lines b_0_flood b_0_common b_0_names b_0_ways b_0_marked b_0_net_looseSides b_0_net_sidesOut b_0_net_directions b_0_net_weights b_0_net_pointAt b_0_loops_gone b_0_now_xs b_0_now_ys b_0_now_cells cI a_0_now r_0_before v_0_runs v_0_stale v_0_net_points v_0_net_pieces v_0_net_looseEnds f_0_net_pointX f_0_net_pointY f_0_net_pieceLine f_0_net_begins f_0_net_leftSpaces v_0_loops_count v_0_loops_filled f_0_loops_order f_0_loops_starts f_0_loops_spaces v_0_now_spaces)) (va_Qi (fun (r : Int32) (u : Unit) => Z = Sum.inr r) (fun u t => BB dC dI [(cI, .int), (cZ, .boolean), (cJ, .long)] (va_A (wl_Sp_side a_0 a_0_net a_0_net_pointX a_0_net_pointY a_0_net_pieceLine a_0_net_begins a_0_net_leftSpaces a_0_loops a_0_loops_order a_0_loops_starts a_0_loops_spaces a_0_now b_0_lines b_0_flood b_0_common b_0_names b_0_ways b_0_marked b_0_net_looseSides b_0_net_sidesOut b_0_net_directions b_0_net_weights b_0_net_pointAt b_0_loops_gone b_0_now_xs b_0_now_ys b_0_now_cells cI a_0_now r_0_before v_0_runs v_0_stale v_0_net_points v_0_net_pieces v_0_net_looseEnds f_0_net_pointX f_0_net_pointY f_0_net_pieceLine f_0_net_begins f_0_net_leftSpaces v_0_loops_count v_0_loops_filled f_0_loops_order f_0_loops_starts f_0_loops_spaces v_0_now_spaces) sz) (wl_Sp_side a_0 a_0_net a_0_net_pointX a_0_net_pointY a_0_net_pieceLine a_0_net_begins a_0_net_leftSpaces a_0_loops a_0_loops_order a_0_loops_starts a_0_loops_spaces a_0_now b_0_lines b_0_flood b_0_common b_0_names b_0_ways b_0_marked b_0_net_looseSides b_0_net_sidesOut b_0_net_directions b_0_net_weights b_0_net_pointAt b_0_loops_gone b_0_now_xs b_0_now_ys b_0_now_cells cI a_0_now r_0_before v_0_runs v_0_stale v_0_net_points v_0_net_pieces v_0_net_looseEnds f_0_net_pointX f_0_net_pointY f_0_net_pieceLine f_0_net_begins f_0_net_leftSpaces v_0_loops_count v_0_loops_filled f_0_loops_order f_0_loops_starts f_0_loops_spaces v_0_now_spaces) () t) (va_A (wl_Sp_side a_0 a_0_net a_0_net_pointX a_0_net_pointY a_0_net_pieceLine a_0_net_begins a_0_net_leftSpaces a_0_loops a_0_loops_order a_0_loops_starts a_0_loops_spaces a_0_now b_0_lines b_0_flood b_0_common b_0_names b_0_ways b_0_marked b_0_net_looseSides b_0_net_sidesOut b_0_net_directions b_0_net_weights b_0_net_pointAt b_0_loops_gone b_0_now_xs b_0_now_ys b_0_now_cells cI a_0_now r_0_before v_0_runs v_0_stale v_0_net_points v_0_net_pieces v_0_net_looseEnds f_0_net_pointX f_0_net_pointY f_0_net_pieceLine f_0_net_begins f_0_net_leftSpaces v_0_loops_count v_0_loops_filled f_0_loops_order f_0_loops_starts f_0_loops_spaces v_0_now_spaces) sz)) (fun E => Z = Sum.inl (xk E)) (va_A (wl_Sp_side a_0 a_0_net a_0_net_pointX a_0_net_pointY a_0_net_pieceLine a_0_net_begins a_0_net_leftSpaces a_0_loops a_0_loops_order a_0_loops_starts a_0_loops_spaces a_0_now b_0_lines b_0_flood b_0_common b_0_names b_0_ways b_0_marked b_0_net_looseSides b_0_net_sidesOut b_0_net_directions b_0_net_weights b_0_net_pointAt b_0_loops_gone b_0_now_xs b_0_now_ys b_0_now_cells cI a_0_now r_0_before v_0_runs v_0_stale v_0_net_points v_0_net_pieces v_0_net_looseEnds f_0_net_pointX f_0_net_pointY f_0_net_pieceLine f_0_net_begins f_0_net_leftSpaces v_0_loops_count v_0_loops_filled f_0_loops_order f_0_loops_starts f_0_loops_spaces v_0_now_spaces) sz) := by
  refine XMet.ofW (cc := b_Sp_side) (maxL := 7) (ret := (some .int)) (by decide) rfl ?_
  intro p e s m args below meth c s₁ B hml hout hv
  obtain ⟨rfl, hsz, hP, hK, hD0, hN, hX⟩ := hv
  subst hsz
  have hl := lv_entry ([.ref a_0, .int p1, .int p2, .int p3, .int p4]) (n := 7) (Nat.le_of_ble_eq_true rfl)
  rw [lg_entry_eq]
  generalize (lg_sl ([.ref a_0, .int p1, .int p2, .int p3, .int p4]) ++ List.replicate (7 - (lg_sl ([.ref a_0, .int p1, .int p2, .int p3, .int p4])).length) Slot.unset).toArray = ls at hl ⊢
  exact t_Sp_side (A := va_A (wl_Sp_side a_0 a_0_net a_0_net_pointX a_0_net_pointY a_0_net_pieceLine a_0_net_begins a_0_net_leftSpaces a_0_loops a_0_loops_order a_0_loops_starts a_0_loops_spaces a_0_now b_0_lines b_0_flood b_0_common b_0_names b_0_ways b_0_marked b_0_net_looseSides b_0_net_sidesOut b_0_net_directions b_0_net_weights b_0_net_pointAt b_0_loops_gone b_0_now_xs b_0_now_ys b_0_now_cells cI a_0_now r_0_before v_0_runs v_0_stale v_0_net_points v_0_net_pieces v_0_net_looseEnds f_0_net_pointX f_0_net_pointY f_0_net_pieceLine f_0_net_begins f_0_net_leftSpaces v_0_loops_count v_0_loops_filled f_0_loops_order f_0_loops_starts f_0_loops_spaces v_0_now_spaces) s.heap.size) a_0 a_0_net a_0_net_pointX a_0_net_pointY a_0_net_pieceLine a_0_net_begins a_0_net_leftSpaces a_0_loops a_0_loops_order a_0_loops_starts a_0_loops_spaces a_0_now b_0_lines b_0_flood b_0_common b_0_names b_0_ways b_0_marked b_0_net_looseSides b_0_net_sidesOut b_0_net_directions b_0_net_weights b_0_net_pointAt b_0_loops_gone b_0_now_xs b_0_now_ys b_0_now_cells r_0_before v_0_runs v_0_stale v_0_net_points v_0_net_pieces v_0_net_looseEnds f_0_net_pointX f_0_net_pointY f_0_net_pieceLine f_0_net_begins f_0_net_leftSpaces v_0_loops_count v_0_loops_filled f_0_loops_order f_0_loops_starts f_0_loops_spaces v_0_now_spaces p1 p2 p3 p4 Z htr hX hout B.notSynchronized B.exec B.bytes hml (findClass_of_methodNamed B.named) (atoms_spec (ws := w_Sp_side) B.pre) hK hN (fun q h => Or.inr h) (fun r hz pc H locs ls hd hP9 hD9 hS => x_ret (W.iret B.exec B.bytes B.returns (fun t ht hW => ⟨⟨r, (), rfl, hz, by rw [ht]; exact hP9, va_K.moved hW.alike hK, hD9⟩, hS.F ht⟩) hS.2.2 hd)) hm hP hD0.self va_S.rf ls hl

theorem k_551 : ((.code ⟨"SpaceCycles$Net", "areaOf", "(I)I"⟩ prog_8_method_13_code 4 (some .int)) : Cond) ∈ gl := gl_i 978 (by decide +kernel) (by decide +kernel)
theorem k_552 : ((.selects "SpaceCycles$Net" ⟨"SpaceCycles$Net", "areaOf", "(I)I"⟩ ⟨"SpaceCycles$Net", "areaOf", "(I)I"⟩) : Cond) ∈ gl := gl_i 977 (by decide +kernel) (by decide +kernel)
theorem k_553 : ((.instanceMethod ⟨"SpaceCycles$Net", "areaOf", "(I)I"⟩) : Cond) ∈ gl := gl_i 976 (by decide +kernel) (by decide +kernel)
theorem k_554 : ((.methodLink "SpaceCycles" 232 ⟨"SpaceCycles$Net", "areaOf", "(I)I"⟩) : Cond) ∈ gl := gl_i 975 (by decide +kernel) (by decide +kernel)
theorem k_555 : ((.code ⟨"SpaceCycles$Net", "edgeOf", "(I)I"⟩ prog_8_method_14_code 4 (some .int)) : Cond) ∈ gl := gl_i 982 (by decide +kernel) (by decide +kernel)
theorem k_556 : ((.selects "SpaceCycles$Net" ⟨"SpaceCycles$Net", "edgeOf", "(I)I"⟩ ⟨"SpaceCycles$Net", "edgeOf", "(I)I"⟩) : Cond) ∈ gl := gl_i 981 (by decide +kernel) (by decide +kernel)
theorem k_557 : ((.instanceMethod ⟨"SpaceCycles$Net", "edgeOf", "(I)I"⟩) : Cond) ∈ gl := gl_i 980 (by decide +kernel) (by decide +kernel)
theorem k_558 : ((.methodLink "SpaceCycles" 235 ⟨"SpaceCycles$Net", "edgeOf", "(I)I"⟩) : Cond) ∈ gl := gl_i 979 (by decide +kernel) (by decide +kernel)
theorem k_559 : ((.code ⟨"SpaceCycles$Net", "wallsIn", "(ILSpaceCycles$Lines;)I"⟩ prog_8_method_15_code 5 (some .int)) : Cond) ∈ gl := gl_i 993 (by decide +kernel) (by decide +kernel)
theorem k_560 : ((.selects "SpaceCycles$Net" ⟨"SpaceCycles$Net", "wallsIn", "(ILSpaceCycles$Lines;)I"⟩ ⟨"SpaceCycles$Net", "wallsIn", "(ILSpaceCycles$Lines;)I"⟩) : Cond) ∈ gl := gl_i 992 (by decide +kernel) (by decide +kernel)
theorem k_561 : ((.instanceMethod ⟨"SpaceCycles$Net", "wallsIn", "(ILSpaceCycles$Lines;)I"⟩) : Cond) ∈ gl := gl_i 991 (by decide +kernel) (by decide +kernel)
theorem k_562 : ((.methodLink "SpaceCycles" 238 ⟨"SpaceCycles$Net", "wallsIn", "(ILSpaceCycles$Lines;)I"⟩) : Cond) ∈ gl := gl_i 990 (by decide +kernel) (by decide +kernel)
-- SpaceCycles.size(II)I: may throw
abbrev b_Sp_size : ByteArray := prog_1_method_10_code
abbrev y_Sp_size : MethodName := ⟨"SpaceCycles", "size", "(II)I"⟩
abbrev w_Sp_size : List Cond := Cond.code y_Sp_size b_Sp_size 3 (some .int) :: gl
abbrev rm_Sp_size : Room := { frames := 9, cells := 1, slots := 6, locals := 222 }
theorem d_Sp_size_0 : decode b_Sp_size 0 = .ok (.aload_n 0, 1) := by decide +kernel
theorem d_Sp_size_1 : decode b_Sp_size 1 = .ok (.iload_n 1, 1) := by decide +kernel
theorem d_Sp_size_2 : decode b_Sp_size 2 = .ok (.invokevirtual 199, 3) := by decide +kernel
theorem d_Sp_size_5 : decode b_Sp_size 5 = .ok (.iload_n 2, 1) := by decide +kernel
theorem d_Sp_size_6 : decode b_Sp_size 6 = .ok (.iconst 0, 1) := by decide +kernel
theorem d_Sp_size_7 : decode b_Sp_size 7 = .ok (.iconst 2, 1) := by decide +kernel
theorem d_Sp_size_8 : decode b_Sp_size 8 = .ok (.invokestatic 84, 3) := by decide +kernel
theorem d_Sp_size_11 : decode b_Sp_size 11 = .ok (.aload_n 0, 1) := by decide +kernel
theorem d_Sp_size_12 : decode b_Sp_size 12 = .ok (.invokevirtual 184, 3) := by decide +kernel
theorem d_Sp_size_15 : decode b_Sp_size 15 = .ok (.iload_n 2, 1) := by decide +kernel
theorem d_Sp_size_16 : decode b_Sp_size 16 = .ok (.lookupswitch 46 #[(0, 28), (1, 37)], 28) := by decide +kernel
theorem d_Sp_size_44 : decode b_Sp_size 44 = .ok (.aload_n 0, 1) := by decide +kernel
theorem d_Sp_size_45 : decode b_Sp_size 45 = .ok (.getfield 26, 3) := by decide +kernel
theorem d_Sp_size_48 : decode b_Sp_size 48 = .ok (.iload_n 1, 1) := by decide +kernel
theorem d_Sp_size_49 : decode b_Sp_size 49 = .ok (.invokevirtual 232, 3) := by decide +kernel
theorem d_Sp_size_52 : decode b_Sp_size 52 = .ok (.ireturn, 1) := by decide +kernel
theorem d_Sp_size_53 : decode b_Sp_size 53 = .ok (.aload_n 0, 1) := by decide +kernel
theorem d_Sp_size_54 : decode b_Sp_size 54 = .ok (.getfield 26, 3) := by decide +kernel
theorem d_Sp_size_57 : decode b_Sp_size 57 = .ok (.iload_n 1, 1) := by decide +kernel
theorem d_Sp_size_58 : decode b_Sp_size 58 = .ok (.invokevirtual 235, 3) := by decide +kernel
theorem d_Sp_size_61 : decode b_Sp_size 61 = .ok (.ireturn, 1) := by decide +kernel
theorem d_Sp_size_62 : decode b_Sp_size 62 = .ok (.aload_n 0, 1) := by decide +kernel
theorem d_Sp_size_63 : decode b_Sp_size 63 = .ok (.getfield 26, 3) := by decide +kernel
theorem d_Sp_size_66 : decode b_Sp_size 66 = .ok (.iload_n 1, 1) := by decide +kernel
theorem d_Sp_size_67 : decode b_Sp_size 67 = .ok (.invokevirtual 232, 3) := by decide +kernel
theorem d_Sp_size_70 : decode b_Sp_size 70 = .ok (.aload_n 0, 1) := by decide +kernel
theorem d_Sp_size_71 : decode b_Sp_size 71 = .ok (.getfield 26, 3) := by decide +kernel
theorem d_Sp_size_74 : decode b_Sp_size 74 = .ok (.iload_n 1, 1) := by decide +kernel
theorem d_Sp_size_75 : decode b_Sp_size 75 = .ok (.aload_n 0, 1) := by decide +kernel
theorem d_Sp_size_76 : decode b_Sp_size 76 = .ok (.getfield 12, 3) := by decide +kernel
theorem d_Sp_size_79 : decode b_Sp_size 79 = .ok (.invokevirtual 238, 3) := by decide +kernel
theorem d_Sp_size_82 : decode b_Sp_size 82 = .ok (.isub, 1) := by decide +kernel
theorem d_Sp_size_83 : decode b_Sp_size 83 = .ok (.ireturn, 1) := by decide +kernel
abbrev wl_Sp_size (a_0 : Nat) (a_0_lines : Nat) (a_0_lines_thickness : Nat) (a_0_net : Nat) (a_0_net_pointX : Nat) (a_0_net_pointY : Nat) (a_0_net_pieceLine : Nat) (a_0_net_begins : Nat) (a_0_net_leftSpaces : Nat) (a_0_now : Nat) (b_0_flood : Nat) (b_0_loops : Nat) (b_0_common : Nat) (b_0_names : Nat) (b_0_ways : Nat) (b_0_marked : Nat) (b_0_lines_lowX : Nat) (b_0_lines_lowY : Nat) (b_0_lines_highX : Nat) (b_0_lines_highY : Nat) (b_0_lines_doors : Nat) (b_0_lines_doorFrom : Nat) (b_0_lines_doorTo : Nat) (b_0_net_looseSides : Nat) (b_0_net_sidesOut : Nat) (b_0_net_directions : Nat) (b_0_net_weights : Nat) (b_0_net_pointAt : Nat) (b_0_now_xs : Nat) (b_0_now_ys : Nat) (b_0_now_cells : Nat) (cI : ClassId) (r_0_now : Nat) (r_0_before : Nat) (v_0_runs : Int32) (v_0_stale : Int32) (v_0_lines_count : Int32) (f_0_lines_thickness : Nat → Int32) (v_0_net_points : Int32) (v_0_net_pieces : Int32) (v_0_net_looseEnds : Int32) (f_0_net_pointX : Nat → Int32) (f_0_net_pointY : Nat → Int32) (f_0_net_pieceLine : Nat → Int32) (f_0_net_begins : Nat → Int32) (f_0_net_leftSpaces : Nat → Int32) (v_0_now_spaces : Int32) : va_W := [(a_0, .inr (0, [.ref a_0_lines, .ref b_0_flood, .ref a_0_net, .ref b_0_loops, .ref b_0_common, .ref b_0_names, .ref b_0_ways, .ref b_0_marked, .ref r_0_now, .ref r_0_before, .int v_0_runs, .int v_0_stale])), (a_0_lines, .inr (1, [.ref b_0_lines_lowX, .ref b_0_lines_lowY, .ref b_0_lines_highX, .ref b_0_lines_highY, .ref a_0_lines_thickness, .ref b_0_lines_doors, .ref b_0_lines_doorFrom, .ref b_0_lines_doorTo, .int v_0_lines_count])), (a_0_lines_thickness, .inl (cI, 20, .inl f_0_lines_thickness)), (a_0_net, .inr (3, [.ref a_0_net_pointX, .ref a_0_net_pointY, .ref b_0_net_looseSides, .int v_0_net_points, .int v_0_net_pieces, .int v_0_net_looseEnds, .ref b_0_net_sidesOut, .ref a_0_net_pieceLine, .ref a_0_net_begins, .ref b_0_net_directions, .ref a_0_net_leftSpaces, .ref b_0_net_weights, .ref b_0_net_pointAt])), (a_0_net_pointX, .inl (cI, 140, .inl f_0_net_pointX)), (a_0_net_pointY, .inl (cI, 140, .inl f_0_net_pointY)), (a_0_net_pieceLine, .inl (cI, 220, .inl f_0_net_pieceLine)), (a_0_net_begins, .inl (cI, 440, .inl f_0_net_begins)), (a_0_net_leftSpaces, .inl (cI, 440, .inl f_0_net_leftSpaces)), (a_0_now, .inr (8, [.ref b_0_now_xs, .ref b_0_now_ys, .ref b_0_now_cells, .int v_0_now_spaces]))]
def m_Sp_size (p1 : Int32) (p2 : Int32) (v_0_stale : Int32) (f_0_lines_thickness : Nat → Int32) (v_0_net_pieces : Int32) (f_0_net_pointX : Nat → Int32) (f_0_net_pointY : Nat → Int32) (f_0_net_pieceLine : Nat → Int32) (f_0_net_begins : Nat → Int32) (f_0_net_leftSpaces : Nat → Int32) (v_0_now_spaces : Int32) : Option (Sum Nat (Int32)) :=
  bx0 (m_Sp_needSpace p1 v_0_now_spaces) <|
  bx0 (m_Sp_needBetween p2 0 2) <|
  bx0 (m_Sp_needFreshRun v_0_stale) <|
  if p2 = 0 then (
    bd1 (m_Ne_areaOf p1 v_0_net_pieces f_0_net_pointX f_0_net_pointY f_0_net_begins f_0_net_leftSpaces) fun r11 =>
    some (Sum.inr r11))
  else (
    if p2 = 1 then (
      bd1 (m_Ne_edgeOf p1 v_0_net_pieces f_0_net_pointX f_0_net_pointY f_0_net_begins f_0_net_leftSpaces) fun r14 =>
      some (Sum.inr r14))
    else (
      bd1 (m_Ne_areaOf p1 v_0_net_pieces f_0_net_pointX f_0_net_pointY f_0_net_begins f_0_net_leftSpaces) fun r16 =>
      bd1 (m_Ne_wallsIn p1 v_0_net_pieces f_0_net_pointX f_0_net_pointY f_0_net_pieceLine f_0_net_begins f_0_net_leftSpaces f_0_lines_thickness) fun r18 =>
      some (Sum.inr (r16 - r18))))

set_option maxHeartbeats 4000000 in
set_option maxRecDepth 100000 in
theorem t_Sp_size {p : Program} {l : Launch} {e : Env} {s : State} {m : MethodId} {args : Array Value} {below : List Frame} {meth : Method} {c : Code} {A : Nat → Prop} {dC : Nat → ClassId} {dI : Nat → Nat → Nat} {cI cZ cJ : ClassId} {Qc : Array Value → State → Outcome → State → Prop} {free : Addr → Prop} (a_0 a_0_lines a_0_lines_thickness a_0_net a_0_net_pointX a_0_net_pointY a_0_net_pieceLine a_0_net_begins a_0_net_leftSpaces a_0_now b_0_flood b_0_loops b_0_common b_0_names b_0_ways b_0_marked b_0_lines_lowX b_0_lines_lowY b_0_lines_highX b_0_lines_highY b_0_lines_doors b_0_lines_doorFrom b_0_lines_doorTo b_0_net_looseSides b_0_net_sidesOut b_0_net_directions b_0_net_weights b_0_net_pointAt b_0_now_xs b_0_now_ys b_0_now_cells : Nat) (r_0_before : Nat) (v_0_runs : Int32) (v_0_stale : Int32) (v_0_lines_count : Int32) (f_0_lines_thickness : Nat → Int32) (v_0_net_points : Int32) (v_0_net_pieces : Int32) (v_0_net_looseEnds : Int32) (f_0_net_pointX : Nat → Int32) (f_0_net_pointY : Nat → Int32) (f_0_net_pieceLine : Nat → Int32) (f_0_net_begins : Nat → Int32) (f_0_net_leftSpaces : Nat → Int32) (v_0_now_spaces : Int32) (p1 : Int32) (p2 : Int32) (Z : Sum Nat (Int32)) (htr : l.stackTraces = false) (hX : TX A s s.heap) (hout : c.exceptionTable.toList = []) (hlocks : meth.locks = false) (hx : p.tables.exec = Jvm.exec) (hb : c.code = b_Sp_size) (hml : c.maxLocals = 3) (hown : s.vm.findClass "SpaceCycles" = some m.cls) (hts : ∀ w ∈ w_Sp_size, w.before args s = true) (hK : va_K (dC, dI) vwCl [(cI, .int), (cZ, .boolean), (cJ, .long)] s) (hN : NX s) (hA : ∀ q : Nat, s.heap.size ≤ q → A q)
    (hret : ∀ r : Int32, Z = Sum.inr r → ∀ (pc : Nat) (H : Heap) (locs : List Loc) (ls : Array Slot), decode b_Sp_size pc = .ok (.ireturn, 1) → va_P (dC, dI) vwCl (wl_Sp_size a_0 a_0_lines a_0_lines_thickness a_0_net a_0_net_pointX a_0_net_pointY a_0_net_pieceLine a_0_net_begins a_0_net_leftSpaces a_0_now b_0_flood b_0_loops b_0_common b_0_names b_0_ways b_0_marked b_0_lines_lowX b_0_lines_lowY b_0_lines_highX b_0_lines_highY b_0_lines_doors b_0_lines_doorFrom b_0_lines_doorTo b_0_net_looseSides b_0_net_sidesOut b_0_net_directions b_0_net_weights b_0_net_pointAt b_0_now_xs b_0_now_ys b_0_now_cells cI a_0_now r_0_before v_0_runs v_0_stale v_0_lines_count f_0_lines_thickness v_0_net_points v_0_net_pieces v_0_net_looseEnds f_0_net_pointX f_0_net_pointY f_0_net_pieceLine f_0_net_begins f_0_net_leftSpaces v_0_now_spaces) H → va_D A (wl_Sp_size a_0 a_0_lines a_0_lines_thickness a_0_net a_0_net_pointX a_0_net_pointY a_0_net_pieceLine a_0_net_begins a_0_net_leftSpaces a_0_now b_0_flood b_0_loops b_0_common b_0_names b_0_ways b_0_marked b_0_lines_lowX b_0_lines_lowY b_0_lines_highX b_0_lines_highY b_0_lines_doors b_0_lines_doorFrom b_0_lines_doorTo b_0_net_looseSides b_0_net_sidesOut b_0_net_directions b_0_net_weights b_0_net_pointAt b_0_now_xs b_0_now_ys b_0_now_cells cI a_0_now r_0_before v_0_runs v_0_stale v_0_lines_count f_0_lines_thickness v_0_net_points v_0_net_pieces v_0_net_looseEnds f_0_net_pointX f_0_net_pointY f_0_net_pieceLine f_0_net_begins f_0_net_leftSpaces v_0_now_spaces) → va_S A s.heap H locs → W p l e rm_Sp_size s m args below meth c H locs 0 0 (XMQ below Qc (fun E => Z = Sum.inl (xk E)) args s free) (F0 m pc ls [.int r]))
    (hm : m_Sp_size p1 p2 v_0_stale f_0_lines_thickness v_0_net_pieces f_0_net_pointX f_0_net_pointY f_0_net_pieceLine f_0_net_begins f_0_net_leftSpaces v_0_now_spaces = some Z) (hP : va_P (dC, dI) vwCl (wl_Sp_size a_0 a_0_lines a_0_lines_thickness a_0_net a_0_net_pointX a_0_net_pointY a_0_net_pieceLine a_0_net_begins a_0_net_leftSpaces a_0_now b_0_flood b_0_loops b_0_common b_0_names b_0_ways b_0_marked b_0_lines_lowX b_0_lines_lowY b_0_lines_highX b_0_lines_highY b_0_lines_doors b_0_lines_doorFrom b_0_lines_doorTo b_0_net_looseSides b_0_net_sidesOut b_0_net_directions b_0_net_weights b_0_net_pointAt b_0_now_xs b_0_now_ys b_0_now_cells cI a_0_now r_0_before v_0_runs v_0_stale v_0_lines_count f_0_lines_thickness v_0_net_points v_0_net_pieces v_0_net_looseEnds f_0_net_pointX f_0_net_pointY f_0_net_pieceLine f_0_net_begins f_0_net_leftSpaces v_0_now_spaces) s.heap) (hD : va_D A (wl_Sp_size a_0 a_0_lines a_0_lines_thickness a_0_net a_0_net_pointX a_0_net_pointY a_0_net_pieceLine a_0_net_begins a_0_net_leftSpaces a_0_now b_0_flood b_0_loops b_0_common b_0_names b_0_ways b_0_marked b_0_lines_lowX b_0_lines_lowY b_0_lines_highX b_0_lines_highY b_0_lines_doors b_0_lines_doorFrom b_0_lines_doorTo b_0_net_looseSides b_0_net_sidesOut b_0_net_directions b_0_net_weights b_0_net_pointAt b_0_now_xs b_0_now_ys b_0_now_cells cI a_0_now r_0_before v_0_runs v_0_stale v_0_lines_count f_0_lines_thickness v_0_net_points v_0_net_pieces v_0_net_looseEnds f_0_net_pointX f_0_net_pointY f_0_net_pieceLine f_0_net_begins f_0_net_leftSpaces v_0_now_spaces)) (hS : va_S A s.heap s.heap []) : ∀ ls : Array Slot, lv_has ls 3 [(0, .ref a_0), (1, .int p1), (2, .int p2)] → W p l e rm_Sp_size s m args below meth c s.heap [] 0 0 (XMQ below Qc (fun E => Z = Sum.inl (xk E)) args s free) (F0 m 0 ls []) := by
  intro ls hl
  unfold m_Sp_size at hm
  refine lv_aload_n hx hb d_Sp_size_0 rfl (lv_at hl 0 rfl) ?_
  refine lv_iload_n hx hb d_Sp_size_1 rfl (lv_at hl 1 rfl) ?_
  obtain ⟨z1, hb2, hz3, hm⟩ := bx0_z hm
  have hPc := hP.sub (ws' := (wl_Sp_needSpace a_0 a_0_now a_0_lines b_0_flood a_0_net b_0_loops b_0_common b_0_names b_0_ways b_0_marked b_0_now_xs b_0_now_ys b_0_now_cells a_0_now r_0_before v_0_runs v_0_stale v_0_now_spaces)) [0, 9] rfl
  have hDc := hD.sub (ws' := (wl_Sp_needSpace a_0 a_0_now a_0_lines b_0_flood a_0_net b_0_loops b_0_common b_0_names b_0_ways b_0_marked b_0_now_xs b_0_now_ys b_0_now_cells a_0_now r_0_before v_0_runs v_0_stale v_0_now_spaces)) [0, 9] (by decide) rfl
  have hFc := va_free (wc := (wl_Sp_needSpace a_0 a_0_now a_0_lines b_0_flood a_0_net b_0_loops b_0_common b_0_names b_0_ways b_0_marked b_0_now_xs b_0_now_ys b_0_now_cells a_0_now r_0_before v_0_runs v_0_stale v_0_now_spaces)) hD hS hA [0, 9] rfl
  refine x_onV (x_runV (As := [.int p1]) (rest := []) ⟨hx, hb, hml, hown, hts⟩ (c_Sp_needSpace l htr dC dI (cI := cI) (cZ := cZ) (cJ := cJ) a_0 a_0_now a_0_lines b_0_flood a_0_net b_0_loops b_0_common b_0_names b_0_ways b_0_marked b_0_now_xs b_0_now_ys b_0_now_cells s.heap.size r_0_before v_0_runs v_0_stale v_0_now_spaces p1 z1 hb2) (cwV 1 hts (gl_V k_528 k_527 k_526 k_207 k_525) rfl rfl rfl (by decide +kernel) ⟨Nat.le_of_ble_eq_true rfl, Nat.le_of_ble_eq_true rfl⟩) ⟨PPX_blind, va_recv hK hPc (ci := 0) (q0 := 0) rfl rfl, fun U hU hW => PPX_at hK hN hX hPc hDc hFc hU hW⟩ rfl rfl hl.1 rfl (lv_room (Nat.le_of_ble_eq_true rfl)) d_Sp_size_2 ⟨Nat.le_of_ble_eq_true rfl, Nat.le_of_ble_eq_true rfl⟩) hout hlocks (fun E hE => hz3 _ hE) (fun hr => ?_)
  replace hm := hm hr
  refine lv_iload_n hx hb d_Sp_size_5 rfl (lv_at hl 2 rfl) ?_
  refine lv_iconst (v := 0) hx hb d_Sp_size_6 (by decide) ?_
  refine lv_iconst (v := 2) hx hb d_Sp_size_7 (by decide) ?_
  obtain ⟨z4, hb5, hz6, hm⟩ := bx0_z hm
  have hPc := hP.sub (ws' := (wl_Sp_needBetween)) [] rfl
  have hDc := hD.sub (ws' := (wl_Sp_needBetween)) [] (by decide) rfl
  have hFc := va_free (wc := (wl_Sp_needBetween)) hD hS hA [] rfl
  refine x_onV (x_runS (As := [.int p2, .int 0, .int 2]) (rest := []) ⟨hx, hb, hml, hown, hts⟩ (c_Sp_needBetween l htr dC dI (cI := cI) (cZ := cZ) (cJ := cJ) s.heap.size p2 0 2 z4 hb5) (va_cwS 3 hts (gl_S k_484 k_483 k_207 k_482) rfl rfl rfl (by decide +kernel) ⟨Nat.le_of_ble_eq_true rfl, Nat.le_of_ble_eq_true rfl⟩) ⟨PPX_blind, fun U hU hW => PPX_at hK hN hX hPc hDc hFc hU hW⟩ rfl rfl hl.1 rfl (lv_room (Nat.le_of_ble_eq_true rfl)) d_Sp_size_8 ⟨Nat.le_of_ble_eq_true rfl, Nat.le_of_ble_eq_true rfl⟩) hout hlocks (fun E hE => hz6 _ hE) (fun hr => ?_)
  replace hm := hm hr
  refine lv_aload_n hx hb d_Sp_size_11 rfl (lv_at hl 0 rfl) ?_
  obtain ⟨z7, hb8, hz9, hm⟩ := bx0_z hm
  have hPc := hP.sub (ws' := (wl_Sp_needFreshRun a_0 a_0_lines b_0_flood a_0_net b_0_loops b_0_common b_0_names b_0_ways b_0_marked a_0_now r_0_before v_0_runs v_0_stale)) [0] rfl
  have hDc := hD.sub (ws' := (wl_Sp_needFreshRun a_0 a_0_lines b_0_flood a_0_net b_0_loops b_0_common b_0_names b_0_ways b_0_marked a_0_now r_0_before v_0_runs v_0_stale)) [0] (by decide) rfl
  have hFc := va_free (wc := (wl_Sp_needFreshRun a_0 a_0_lines b_0_flood a_0_net b_0_loops b_0_common b_0_names b_0_ways b_0_marked a_0_now r_0_before v_0_runs v_0_stale)) hD hS hA [0] rfl
  refine x_onV (x_runV (As := []) (rest := []) ⟨hx, hb, hml, hown, hts⟩ (c_Sp_needFreshRun l htr dC dI (cI := cI) (cZ := cZ) (cJ := cJ) a_0 a_0_lines b_0_flood a_0_net b_0_loops b_0_common b_0_names b_0_ways b_0_marked s.heap.size a_0_now r_0_before v_0_runs v_0_stale z7 hb8) (cwV 0 hts (gl_V k_516 k_515 k_514 k_207 k_513) rfl rfl rfl (by decide +kernel) ⟨Nat.le_of_ble_eq_true rfl, Nat.le_of_ble_eq_true rfl⟩) ⟨PPX_blind, va_recv hK hPc (ci := 0) (q0 := 0) rfl rfl, fun U hU hW => PPX_at hK hN hX hPc hDc hFc hU hW⟩ rfl rfl hl.1 rfl (lv_room (Nat.le_of_ble_eq_true rfl)) d_Sp_size_12 ⟨Nat.le_of_ble_eq_true rfl, Nat.le_of_ble_eq_true rfl⟩) hout hlocks (fun E hE => hz9 _ hE) (fun hr => ?_)
  replace hm := hm hr
  refine lv_iload_n hx hb d_Sp_size_15 rfl (lv_at hl 2 rfl) ?_
  by_cases c10 : p2 = 0
  · replace hm := if_t hm c10
    refine lv_lookup (off := 28) (tgt := 44) hx hb d_Sp_size_16 (by decide) (by rw [c10]; rfl) (by decide) ?_
    refine lv_aload_n hx hb d_Sp_size_44 rfl (lv_at hl 0 rfl) ?_
    refine va_get (D := (dC, dI)) (ci := 0) (v := .ref a_0_net) (C := "SpaceCycles") (T := F_Sp) (N := 12) hx hb hts (in_F i_Sp) hown hK hP 0 rfl rfl 2 (by decide) (hts _ (in_c k_517)) (fun _ h9 => h9) rfl d_Sp_size_45 ?_
    refine lv_iload_n hx hb d_Sp_size_48 rfl (lv_at hl 1 rfl) ?_
    obtain ⟨r11, hb12, hm⟩ := bd1_e hm
    have hPc := hP.sub (ws' := (wl_Ne_areaOf a_0_net a_0_net_pointX a_0_net_pointY a_0_net_begins a_0_net_leftSpaces b_0_net_looseSides b_0_net_sidesOut a_0_net_pieceLine b_0_net_directions b_0_net_weights b_0_net_pointAt cI v_0_net_points v_0_net_pieces v_0_net_looseEnds f_0_net_pointX f_0_net_pointY f_0_net_begins f_0_net_leftSpaces)) [3, 4, 5, 7, 8] rfl
    have hDc := hD.sub (ws' := (wl_Ne_areaOf a_0_net a_0_net_pointX a_0_net_pointY a_0_net_begins a_0_net_leftSpaces b_0_net_looseSides b_0_net_sidesOut a_0_net_pieceLine b_0_net_directions b_0_net_weights b_0_net_pointAt cI v_0_net_points v_0_net_pieces v_0_net_looseEnds f_0_net_pointX f_0_net_pointY f_0_net_begins f_0_net_leftSpaces)) [3, 4, 5, 7, 8] (by decide) rfl
    refine cl_i (wc' := (wl_Ne_areaOf a_0_net a_0_net_pointX a_0_net_pointY a_0_net_begins a_0_net_leftSpaces b_0_net_looseSides b_0_net_sidesOut a_0_net_pieceLine b_0_net_directions b_0_net_weights b_0_net_pointAt cI v_0_net_points v_0_net_pieces v_0_net_looseEnds f_0_net_pointX f_0_net_pointY f_0_net_begins f_0_net_leftSpaces)) (va_runV (As := [.int p1]) (rest := []) ⟨hx, hb, hml, hown, hts⟩ (c_Ne_areaOf l dC dI (cI := cI) (cZ := cZ) (cJ := cJ) a_0_net a_0_net_pointX a_0_net_pointY a_0_net_begins a_0_net_leftSpaces b_0_net_looseSides b_0_net_sidesOut a_0_net_pieceLine b_0_net_directions b_0_net_weights b_0_net_pointAt s.heap.size v_0_net_points v_0_net_pieces v_0_net_looseEnds f_0_net_pointX f_0_net_pointY f_0_net_begins f_0_net_leftSpaces p1 r11 hb12) (cwV 1 hts (gl_V k_554 k_553 k_552 k_145 k_551) rfl rfl rfl (by decide +kernel) ⟨Nat.le_of_ble_eq_true rfl, Nat.le_of_ble_eq_true rfl⟩) ⟨PP_blind, va_recv hK hPc (ci := 3) (q0 := 0) rfl rfl, fun U hU hW => PP_at hK hN hPc hDc hU hW⟩ rfl rfl hl.1 rfl (lv_room (Nat.le_of_ble_eq_true rfl)) d_Sp_size_49 ⟨Nat.zero_le _, Nat.zero_le _⟩) hP hD hS hA [3, 4, 5, 7, 8] [0, 1, 2, 6, 9] rfl rfl (by decide) (by decide) (fun H locs hP hD hS => ?_)
    have hP : va_P (dC, dI) vwCl (wl_Sp_size a_0 a_0_lines a_0_lines_thickness a_0_net a_0_net_pointX a_0_net_pointY a_0_net_pieceLine a_0_net_begins a_0_net_leftSpaces a_0_now b_0_flood b_0_loops b_0_common b_0_names b_0_ways b_0_marked b_0_lines_lowX b_0_lines_lowY b_0_lines_highX b_0_lines_highY b_0_lines_doors b_0_lines_doorFrom b_0_lines_doorTo b_0_net_looseSides b_0_net_sidesOut b_0_net_directions b_0_net_weights b_0_net_pointAt b_0_now_xs b_0_now_ys b_0_now_cells cI a_0_now r_0_before v_0_runs v_0_stale v_0_lines_count f_0_lines_thickness v_0_net_points v_0_net_pieces v_0_net_looseEnds f_0_net_pointX f_0_net_pointY f_0_net_pieceLine f_0_net_begins f_0_net_leftSpaces v_0_now_spaces) H := hP.sub [0, 1, 2, 5, 6, 7, 3, 8, 9, 4] rfl
    have hD : va_D A (wl_Sp_size a_0 a_0_lines a_0_lines_thickness a_0_net a_0_net_pointX a_0_net_pointY a_0_net_pieceLine a_0_net_begins a_0_net_leftSpaces a_0_now b_0_flood b_0_loops b_0_common b_0_names b_0_ways b_0_marked b_0_lines_lowX b_0_lines_lowY b_0_lines_highX b_0_lines_highY b_0_lines_doors b_0_lines_doorFrom b_0_lines_doorTo b_0_net_looseSides b_0_net_sidesOut b_0_net_directions b_0_net_weights b_0_net_pointAt b_0_now_xs b_0_now_ys b_0_now_cells cI a_0_now r_0_before v_0_runs v_0_stale v_0_lines_count f_0_lines_thickness v_0_net_points v_0_net_pieces v_0_net_looseEnds f_0_net_pointX f_0_net_pointY f_0_net_pieceLine f_0_net_begins f_0_net_leftSpaces v_0_now_spaces) := hD.sub [0, 1, 2, 5, 6, 7, 3, 8, 9, 4] (by decide) rfl
    cases hm
    exact hret _ rfl _ H locs ls d_Sp_size_52 hP hD hS
  · replace hm := if_f hm c10
    by_cases c13 : p2 = 1
    · replace hm := if_t hm c13
      refine lv_lookup (off := 37) (tgt := 53) hx hb d_Sp_size_16 (by decide) (by rw [c13]; rfl) (by decide) ?_
      refine lv_aload_n hx hb d_Sp_size_53 rfl (lv_at hl 0 rfl) ?_
      refine va_get (D := (dC, dI)) (ci := 0) (v := .ref a_0_net) (C := "SpaceCycles") (T := F_Sp) (N := 12) hx hb hts (in_F i_Sp) hown hK hP 0 rfl rfl 2 (by decide) (hts _ (in_c k_517)) (fun _ h9 => h9) rfl d_Sp_size_54 ?_
      refine lv_iload_n hx hb d_Sp_size_57 rfl (lv_at hl 1 rfl) ?_
      obtain ⟨r14, hb15, hm⟩ := bd1_e hm
      have hPc := hP.sub (ws' := (wl_Ne_edgeOf a_0_net a_0_net_pointX a_0_net_pointY a_0_net_begins a_0_net_leftSpaces b_0_net_looseSides b_0_net_sidesOut a_0_net_pieceLine b_0_net_directions b_0_net_weights b_0_net_pointAt cI v_0_net_points v_0_net_pieces v_0_net_looseEnds f_0_net_pointX f_0_net_pointY f_0_net_begins f_0_net_leftSpaces)) [3, 4, 5, 7, 8] rfl
      have hDc := hD.sub (ws' := (wl_Ne_edgeOf a_0_net a_0_net_pointX a_0_net_pointY a_0_net_begins a_0_net_leftSpaces b_0_net_looseSides b_0_net_sidesOut a_0_net_pieceLine b_0_net_directions b_0_net_weights b_0_net_pointAt cI v_0_net_points v_0_net_pieces v_0_net_looseEnds f_0_net_pointX f_0_net_pointY f_0_net_begins f_0_net_leftSpaces)) [3, 4, 5, 7, 8] (by decide) rfl
      refine cl_i (wc' := (wl_Ne_edgeOf a_0_net a_0_net_pointX a_0_net_pointY a_0_net_begins a_0_net_leftSpaces b_0_net_looseSides b_0_net_sidesOut a_0_net_pieceLine b_0_net_directions b_0_net_weights b_0_net_pointAt cI v_0_net_points v_0_net_pieces v_0_net_looseEnds f_0_net_pointX f_0_net_pointY f_0_net_begins f_0_net_leftSpaces)) (va_runV (As := [.int p1]) (rest := []) ⟨hx, hb, hml, hown, hts⟩ (c_Ne_edgeOf l dC dI (cI := cI) (cZ := cZ) (cJ := cJ) a_0_net a_0_net_pointX a_0_net_pointY a_0_net_begins a_0_net_leftSpaces b_0_net_looseSides b_0_net_sidesOut a_0_net_pieceLine b_0_net_directions b_0_net_weights b_0_net_pointAt s.heap.size v_0_net_points v_0_net_pieces v_0_net_looseEnds f_0_net_pointX f_0_net_pointY f_0_net_begins f_0_net_leftSpaces p1 r14 hb15) (cwV 1 hts (gl_V k_558 k_557 k_556 k_145 k_555) rfl rfl rfl (by decide +kernel) ⟨Nat.le_of_ble_eq_true rfl, Nat.le_of_ble_eq_true rfl⟩) ⟨PP_blind, va_recv hK hPc (ci := 3) (q0 := 0) rfl rfl, fun U hU hW => PP_at hK hN hPc hDc hU hW⟩ rfl rfl hl.1 rfl (lv_room (Nat.le_of_ble_eq_true rfl)) d_Sp_size_58 ⟨Nat.zero_le _, Nat.zero_le _⟩) hP hD hS hA [3, 4, 5, 7, 8] [0, 1, 2, 6, 9] rfl rfl (by decide) (by decide) (fun H locs hP hD hS => ?_)
      have hP : va_P (dC, dI) vwCl (wl_Sp_size a_0 a_0_lines a_0_lines_thickness a_0_net a_0_net_pointX a_0_net_pointY a_0_net_pieceLine a_0_net_begins a_0_net_leftSpaces a_0_now b_0_flood b_0_loops b_0_common b_0_names b_0_ways b_0_marked b_0_lines_lowX b_0_lines_lowY b_0_lines_highX b_0_lines_highY b_0_lines_doors b_0_lines_doorFrom b_0_lines_doorTo b_0_net_looseSides b_0_net_sidesOut b_0_net_directions b_0_net_weights b_0_net_pointAt b_0_now_xs b_0_now_ys b_0_now_cells cI a_0_now r_0_before v_0_runs v_0_stale v_0_lines_count f_0_lines_thickness v_0_net_points v_0_net_pieces v_0_net_looseEnds f_0_net_pointX f_0_net_pointY f_0_net_pieceLine f_0_net_begins f_0_net_leftSpaces v_0_now_spaces) H := hP.sub [0, 1, 2, 5, 6, 7, 3, 8, 9, 4] rfl
      have hD : va_D A (wl_Sp_size a_0 a_0_lines a_0_lines_thickness a_0_net a_0_net_pointX a_0_net_pointY a_0_net_pieceLine a_0_net_begins a_0_net_leftSpaces a_0_now b_0_flood b_0_loops b_0_common b_0_names b_0_ways b_0_marked b_0_lines_lowX b_0_lines_lowY b_0_lines_highX b_0_lines_highY b_0_lines_doors b_0_lines_doorFrom b_0_lines_doorTo b_0_net_looseSides b_0_net_sidesOut b_0_net_directions b_0_net_weights b_0_net_pointAt b_0_now_xs b_0_now_ys b_0_now_cells cI a_0_now r_0_before v_0_runs v_0_stale v_0_lines_count f_0_lines_thickness v_0_net_points v_0_net_pieces v_0_net_looseEnds f_0_net_pointX f_0_net_pointY f_0_net_pieceLine f_0_net_begins f_0_net_leftSpaces v_0_now_spaces) := hD.sub [0, 1, 2, 5, 6, 7, 3, 8, 9, 4] (by decide) rfl
      cases hm
      exact hret _ rfl _ H locs ls d_Sp_size_61 hP hD hS
    · replace hm := if_f hm c13
      refine lv_lookup (off := 46) (tgt := 62) hx hb d_Sp_size_16 (by decide) (by have e0 := tn (z := 0) c10 (by decide); have e1 := tn (z := 1) c13 (by decide); simp [Op.lookupswitch.offset, e0.symm, e1.symm, e0, e1]) (by decide) ?_
      refine lv_aload_n hx hb d_Sp_size_62 rfl (lv_at hl 0 rfl) ?_
      refine va_get (D := (dC, dI)) (ci := 0) (v := .ref a_0_net) (C := "SpaceCycles") (T := F_Sp) (N := 12) hx hb hts (in_F i_Sp) hown hK hP 0 rfl rfl 2 (by decide) (hts _ (in_c k_517)) (fun _ h9 => h9) rfl d_Sp_size_63 ?_
      refine lv_iload_n hx hb d_Sp_size_66 rfl (lv_at hl 1 rfl) ?_
      obtain ⟨r16, hb17, hm⟩ := bd1_e hm
      have hPc := hP.sub (ws' := (wl_Ne_areaOf a_0_net a_0_net_pointX a_0_net_pointY a_0_net_begins a_0_net_leftSpaces b_0_net_looseSides b_0_net_sidesOut a_0_net_pieceLine b_0_net_directions b_0_net_weights b_0_net_pointAt cI v_0_net_points v_0_net_pieces v_0_net_looseEnds f_0_net_pointX f_0_net_pointY f_0_net_begins f_0_net_leftSpaces)) [3, 4, 5, 7, 8] rfl
      have hDc := hD.sub (ws' := (wl_Ne_areaOf a_0_net a_0_net_pointX a_0_net_pointY a_0_net_begins a_0_net_leftSpaces b_0_net_looseSides b_0_net_sidesOut a_0_net_pieceLine b_0_net_directions b_0_net_weights b_0_net_pointAt cI v_0_net_points v_0_net_pieces v_0_net_looseEnds f_0_net_pointX f_0_net_pointY f_0_net_begins f_0_net_leftSpaces)) [3, 4, 5, 7, 8] (by decide) rfl
      refine cl_i (wc' := (wl_Ne_areaOf a_0_net a_0_net_pointX a_0_net_pointY a_0_net_begins a_0_net_leftSpaces b_0_net_looseSides b_0_net_sidesOut a_0_net_pieceLine b_0_net_directions b_0_net_weights b_0_net_pointAt cI v_0_net_points v_0_net_pieces v_0_net_looseEnds f_0_net_pointX f_0_net_pointY f_0_net_begins f_0_net_leftSpaces)) (va_runV (As := [.int p1]) (rest := []) ⟨hx, hb, hml, hown, hts⟩ (c_Ne_areaOf l dC dI (cI := cI) (cZ := cZ) (cJ := cJ) a_0_net a_0_net_pointX a_0_net_pointY a_0_net_begins a_0_net_leftSpaces b_0_net_looseSides b_0_net_sidesOut a_0_net_pieceLine b_0_net_directions b_0_net_weights b_0_net_pointAt s.heap.size v_0_net_points v_0_net_pieces v_0_net_looseEnds f_0_net_pointX f_0_net_pointY f_0_net_begins f_0_net_leftSpaces p1 r16 hb17) (cwV 1 hts (gl_V k_554 k_553 k_552 k_145 k_551) rfl rfl rfl (by decide +kernel) ⟨Nat.le_of_ble_eq_true rfl, Nat.le_of_ble_eq_true rfl⟩) ⟨PP_blind, va_recv hK hPc (ci := 3) (q0 := 0) rfl rfl, fun U hU hW => PP_at hK hN hPc hDc hU hW⟩ rfl rfl hl.1 rfl (lv_room (Nat.le_of_ble_eq_true rfl)) d_Sp_size_67 ⟨Nat.zero_le _, Nat.zero_le _⟩) hP hD hS hA [3, 4, 5, 7, 8] [0, 1, 2, 6, 9] rfl rfl (by decide) (by decide) (fun H locs hP hD hS => ?_)
      have hP : va_P (dC, dI) vwCl (wl_Sp_size a_0 a_0_lines a_0_lines_thickness a_0_net a_0_net_pointX a_0_net_pointY a_0_net_pieceLine a_0_net_begins a_0_net_leftSpaces a_0_now b_0_flood b_0_loops b_0_common b_0_names b_0_ways b_0_marked b_0_lines_lowX b_0_lines_lowY b_0_lines_highX b_0_lines_highY b_0_lines_doors b_0_lines_doorFrom b_0_lines_doorTo b_0_net_looseSides b_0_net_sidesOut b_0_net_directions b_0_net_weights b_0_net_pointAt b_0_now_xs b_0_now_ys b_0_now_cells cI a_0_now r_0_before v_0_runs v_0_stale v_0_lines_count f_0_lines_thickness v_0_net_points v_0_net_pieces v_0_net_looseEnds f_0_net_pointX f_0_net_pointY f_0_net_pieceLine f_0_net_begins f_0_net_leftSpaces v_0_now_spaces) H := hP.sub [0, 1, 2, 5, 6, 7, 3, 8, 9, 4] rfl
      have hD : va_D A (wl_Sp_size a_0 a_0_lines a_0_lines_thickness a_0_net a_0_net_pointX a_0_net_pointY a_0_net_pieceLine a_0_net_begins a_0_net_leftSpaces a_0_now b_0_flood b_0_loops b_0_common b_0_names b_0_ways b_0_marked b_0_lines_lowX b_0_lines_lowY b_0_lines_highX b_0_lines_highY b_0_lines_doors b_0_lines_doorFrom b_0_lines_doorTo b_0_net_looseSides b_0_net_sidesOut b_0_net_directions b_0_net_weights b_0_net_pointAt b_0_now_xs b_0_now_ys b_0_now_cells cI a_0_now r_0_before v_0_runs v_0_stale v_0_lines_count f_0_lines_thickness v_0_net_points v_0_net_pieces v_0_net_looseEnds f_0_net_pointX f_0_net_pointY f_0_net_pieceLine f_0_net_begins f_0_net_leftSpaces v_0_now_spaces) := hD.sub [0, 1, 2, 5, 6, 7, 3, 8, 9, 4] (by decide) rfl
      refine lv_aload_n hx hb d_Sp_size_70 rfl (lv_at hl 0 rfl) ?_
      refine va_get (D := (dC, dI)) (ci := 0) (v := .ref a_0_net) (C := "SpaceCycles") (T := F_Sp) (N := 12) hx hb hts (in_F i_Sp) hown hK hP 0 rfl rfl 2 (by decide) (hts _ (in_c k_517)) (fun _ h9 => h9) rfl d_Sp_size_71 ?_
      refine lv_iload_n hx hb d_Sp_size_74 rfl (lv_at hl 1 rfl) ?_
      refine lv_aload_n hx hb d_Sp_size_75 rfl (lv_at hl 0 rfl) ?_
      refine va_get (D := (dC, dI)) (ci := 0) (v := .ref a_0_lines) (C := "SpaceCycles") (T := F_Sp) (N := 12) hx hb hts (in_F i_Sp) hown hK hP 0 rfl rfl 0 (by decide) (hts _ (in_c k_466)) (fun _ h9 => h9) rfl d_Sp_size_76 ?_
      obtain ⟨r18, hb19, hm⟩ := bd1_e hm
      have hPc := hP.sub (ws' := (wl_Ne_wallsIn a_0_net a_0_net_pointX a_0_net_pointY a_0_net_pieceLine a_0_net_begins a_0_net_leftSpaces a_0_lines a_0_lines_thickness b_0_net_looseSides b_0_net_sidesOut b_0_net_directions b_0_net_weights b_0_net_pointAt b_0_lines_lowX b_0_lines_lowY b_0_lines_highX b_0_lines_highY b_0_lines_doors b_0_lines_doorFrom b_0_lines_doorTo cI v_0_net_points v_0_net_pieces v_0_net_looseEnds f_0_net_pointX f_0_net_pointY f_0_net_pieceLine f_0_net_begins f_0_net_leftSpaces v_0_lines_count f_0_lines_thickness)) [3, 4, 5, 6, 7, 8, 1, 2] rfl
      have hDc := hD.sub (ws' := (wl_Ne_wallsIn a_0_net a_0_net_pointX a_0_net_pointY a_0_net_pieceLine a_0_net_begins a_0_net_leftSpaces a_0_lines a_0_lines_thickness b_0_net_looseSides b_0_net_sidesOut b_0_net_directions b_0_net_weights b_0_net_pointAt b_0_lines_lowX b_0_lines_lowY b_0_lines_highX b_0_lines_highY b_0_lines_doors b_0_lines_doorFrom b_0_lines_doorTo cI v_0_net_points v_0_net_pieces v_0_net_looseEnds f_0_net_pointX f_0_net_pointY f_0_net_pieceLine f_0_net_begins f_0_net_leftSpaces v_0_lines_count f_0_lines_thickness)) [3, 4, 5, 6, 7, 8, 1, 2] (by decide) rfl
      refine cl_i (wc' := (wl_Ne_wallsIn a_0_net a_0_net_pointX a_0_net_pointY a_0_net_pieceLine a_0_net_begins a_0_net_leftSpaces a_0_lines a_0_lines_thickness b_0_net_looseSides b_0_net_sidesOut b_0_net_directions b_0_net_weights b_0_net_pointAt b_0_lines_lowX b_0_lines_lowY b_0_lines_highX b_0_lines_highY b_0_lines_doors b_0_lines_doorFrom b_0_lines_doorTo cI v_0_net_points v_0_net_pieces v_0_net_looseEnds f_0_net_pointX f_0_net_pointY f_0_net_pieceLine f_0_net_begins f_0_net_leftSpaces v_0_lines_count f_0_lines_thickness)) (va_runV (As := [.int p1, .ref a_0_lines]) (rest := [.int r16]) ⟨hx, hb, hml, hown, hts⟩ (c_Ne_wallsIn l dC dI (cI := cI) (cZ := cZ) (cJ := cJ) a_0_net a_0_net_pointX a_0_net_pointY a_0_net_pieceLine a_0_net_begins a_0_net_leftSpaces a_0_lines a_0_lines_thickness b_0_net_looseSides b_0_net_sidesOut b_0_net_directions b_0_net_weights b_0_net_pointAt b_0_lines_lowX b_0_lines_lowY b_0_lines_highX b_0_lines_highY b_0_lines_doors b_0_lines_doorFrom b_0_lines_doorTo H.size v_0_net_points v_0_net_pieces v_0_net_looseEnds f_0_net_pointX f_0_net_pointY f_0_net_pieceLine f_0_net_begins f_0_net_leftSpaces v_0_lines_count f_0_lines_thickness p1 r18 hb19) (cwV 2 hts (gl_V k_562 k_561 k_560 k_145 k_559) rfl rfl rfl (by decide +kernel) ⟨Nat.le_of_ble_eq_true rfl, Nat.le_of_ble_eq_true rfl⟩) ⟨PP_blind, va_recv hK hPc (ci := 3) (q0 := 0) rfl rfl, fun U hU hW => PP_at hK hN hPc hDc hU hW⟩ rfl rfl hl.1 rfl (lv_room (Nat.le_of_ble_eq_true rfl)) d_Sp_size_79 ⟨Nat.zero_le _, Nat.zero_le _⟩) hP hD hS hA [3, 4, 5, 6, 7, 8, 1, 2] [0, 9] rfl rfl (by decide) (by decide) (fun H locs hP hD hS => ?_)
      have hP : va_P (dC, dI) vwCl (wl_Sp_size a_0 a_0_lines a_0_lines_thickness a_0_net a_0_net_pointX a_0_net_pointY a_0_net_pieceLine a_0_net_begins a_0_net_leftSpaces a_0_now b_0_flood b_0_loops b_0_common b_0_names b_0_ways b_0_marked b_0_lines_lowX b_0_lines_lowY b_0_lines_highX b_0_lines_highY b_0_lines_doors b_0_lines_doorFrom b_0_lines_doorTo b_0_net_looseSides b_0_net_sidesOut b_0_net_directions b_0_net_weights b_0_net_pointAt b_0_now_xs b_0_now_ys b_0_now_cells cI a_0_now r_0_before v_0_runs v_0_stale v_0_lines_count f_0_lines_thickness v_0_net_points v_0_net_pieces v_0_net_looseEnds f_0_net_pointX f_0_net_pointY f_0_net_pieceLine f_0_net_begins f_0_net_leftSpaces v_0_now_spaces) H := hP.sub [0, 8, 9, 2, 3, 4, 5, 6, 7, 1] rfl
      have hD : va_D A (wl_Sp_size a_0 a_0_lines a_0_lines_thickness a_0_net a_0_net_pointX a_0_net_pointY a_0_net_pieceLine a_0_net_begins a_0_net_leftSpaces a_0_now b_0_flood b_0_loops b_0_common b_0_names b_0_ways b_0_marked b_0_lines_lowX b_0_lines_lowY b_0_lines_highX b_0_lines_highY b_0_lines_doors b_0_lines_doorFrom b_0_lines_doorTo b_0_net_looseSides b_0_net_sidesOut b_0_net_directions b_0_net_weights b_0_net_pointAt b_0_now_xs b_0_now_ys b_0_now_cells cI a_0_now r_0_before v_0_runs v_0_stale v_0_lines_count f_0_lines_thickness v_0_net_points v_0_net_pieces v_0_net_looseEnds f_0_net_pointX f_0_net_pointY f_0_net_pieceLine f_0_net_begins f_0_net_leftSpaces v_0_now_spaces) := hD.sub [0, 8, 9, 2, 3, 4, 5, 6, 7, 1] (by decide) rfl
      refine lv_isub hx hb d_Sp_size_82 ?_
      cases hm
      exact hret _ rfl _ H locs ls d_Sp_size_83 hP hD hS
set_option maxHeartbeats 4000000 in
set_option maxRecDepth 100000 in
theorem c_Sp_size (l : Launch) (htr : l.stackTraces = false) (dC : Nat → ClassId) (dI : Nat → Nat → Nat) {cI cZ cJ : ClassId} (a_0 a_0_lines a_0_lines_thickness a_0_net a_0_net_pointX a_0_net_pointY a_0_net_pieceLine a_0_net_begins a_0_net_leftSpaces a_0_now b_0_flood b_0_loops b_0_common b_0_names b_0_ways b_0_marked b_0_lines_lowX b_0_lines_lowY b_0_lines_highX b_0_lines_highY b_0_lines_doors b_0_lines_doorFrom b_0_lines_doorTo b_0_net_looseSides b_0_net_sidesOut b_0_net_directions b_0_net_weights b_0_net_pointAt b_0_now_xs b_0_now_ys b_0_now_cells : Nat) (sz : Nat) (r_0_before : Nat) (v_0_runs : Int32) (v_0_stale : Int32) (v_0_lines_count : Int32) (f_0_lines_thickness : Nat → Int32) (v_0_net_points : Int32) (v_0_net_pieces : Int32) (v_0_net_looseEnds : Int32) (f_0_net_pointX : Nat → Int32) (f_0_net_pointY : Nat → Int32) (f_0_net_pieceLine : Nat → Int32) (f_0_net_begins : Nat → Int32) (f_0_net_leftSpaces : Nat → Int32) (v_0_now_spaces : Int32) (p1 : Int32) (p2 : Int32) (Z : Sum Nat (Int32)) (hm : m_Sp_size p1 p2 v_0_stale f_0_lines_thickness v_0_net_pieces f_0_net_pointX f_0_net_pointY f_0_net_pieceLine f_0_net_begins f_0_net_leftSpaces v_0_now_spaces = some Z) : XMet l y_Sp_size w_Sp_size rm_Sp_size (PPX dC dI [(cI, .int), (cZ, .boolean), (cJ, .long)] [.ref a_0, .int p1, .int p2] sz (wl_Sp_size a_0 a_0_lines a_0_lines_thickness a_0_net a_0_net_pointX a_0_net_pointY a_0_net_pieceLine a_0_net_begins a_0_net_leftSpaces a_0_now b_0_flood b_0_loops b_0_common b_0_names b_0_ways b_0_marked b_0_lines_lowX b_0_lines_lowY b_0_lines_highX b_0_lines_highY b_0_lines_doors b_0_lines_doorFrom b_0_lines_doorTo b_0_net_looseSides b_0_net_sidesOut b_0_net_directions b_0_net_weights b_0_net_pointAt b_0_now_xs b_0_now_ys b_0_now_cells cI a_0_now r_0_before v_0_runs v_0_stale v_0_lines_count f_0_lines_thickness v_0_net_points v_0_net_pieces v_0_net_looseEnds f_0_net_pointX f_0_net_pointY f_0_net_pieceLine f_0_net_begins f_0_net_leftSpaces v_0_now_spaces)) (va_Qi (fun (r : Int32) (u : Unit) => Z = Sum.inr r) (fun u t => BB dC dI [(cI, .int), (cZ, .boolean), (cJ, .long)] (va_A (wl_Sp_size a_0 a_0_lines a_0_lines_thickness a_0_net a_0_net_pointX a_0_net_pointY a_0_net_pieceLine a_0_net_begins a_0_net_leftSpaces a_0_now b_0_flood b_0_loops b_0_common b_0_names b_0_ways b_0_marked b_0_lines_lowX b_0_lines_lowY b_0_lines_highX b_0_lines_highY b_0_lines_doors b_0_lines_doorFrom b_0_lines_doorTo b_0_net_looseSides b_0_net_sidesOut b_0_net_directions b_0_net_weights b_0_net_pointAt b_0_now_xs b_0_now_ys b_0_now_cells cI a_0_now r_0_before v_0_runs v_0_stale v_0_lines_count f_0_lines_thickness v_0_net_points v_0_net_pieces v_0_net_looseEnds f_0_net_pointX f_0_net_pointY f_0_net_pieceLine f_0_net_begins f_0_net_leftSpaces v_0_now_spaces) sz) (wl_Sp_size a_0 a_0_lines a_0_lines_thickness a_0_net a_0_net_pointX a_0_net_pointY a_0_net_pieceLine a_0_net_begins a_0_net_leftSpaces a_0_now b_0_flood b_0_loops b_0_common b_0_names b_0_ways b_0_marked b_0_lines_lowX b_0_lines_lowY b_0_lines_highX b_0_lines_highY b_0_lines_doors b_0_lines_doorFrom b_0_lines_doorTo b_0_net_looseSides b_0_net_sidesOut b_0_net_directions b_0_net_weights b_0_net_pointAt b_0_now_xs b_0_now_ys b_0_now_cells cI a_0_now r_0_before v_0_runs v_0_stale v_0_lines_count f_0_lines_thickness v_0_net_points v_0_net_pieces v_0_net_looseEnds f_0_net_pointX f_0_net_pointY f_0_net_pieceLine f_0_net_begins f_0_net_leftSpaces v_0_now_spaces) () t) (va_A (wl_Sp_size a_0 a_0_lines a_0_lines_thickness a_0_net a_0_net_pointX a_0_net_pointY a_0_net_pieceLine a_0_net_begins a_0_net_leftSpaces a_0_now b_0_flood b_0_loops b_0_common b_0_names b_0_ways b_0_marked b_0_lines_lowX b_0_lines_lowY b_0_lines_highX b_0_lines_highY b_0_lines_doors b_0_lines_doorFrom b_0_lines_doorTo b_0_net_looseSides b_0_net_sidesOut b_0_net_directions b_0_net_weights b_0_net_pointAt b_0_now_xs b_0_now_ys b_0_now_cells cI a_0_now r_0_before v_0_runs v_0_stale v_0_lines_count f_0_lines_thickness v_0_net_points v_0_net_pieces v_0_net_looseEnds f_0_net_pointX f_0_net_pointY f_0_net_pieceLine f_0_net_begins f_0_net_leftSpaces v_0_now_spaces) sz)) (fun E => Z = Sum.inl (xk E)) (va_A (wl_Sp_size a_0 a_0_lines a_0_lines_thickness a_0_net a_0_net_pointX a_0_net_pointY a_0_net_pieceLine a_0_net_begins a_0_net_leftSpaces a_0_now b_0_flood b_0_loops b_0_common b_0_names b_0_ways b_0_marked b_0_lines_lowX b_0_lines_lowY b_0_lines_highX b_0_lines_highY b_0_lines_doors b_0_lines_doorFrom b_0_lines_doorTo b_0_net_looseSides b_0_net_sidesOut b_0_net_directions b_0_net_weights b_0_net_pointAt b_0_now_xs b_0_now_ys b_0_now_cells cI a_0_now r_0_before v_0_runs v_0_stale v_0_lines_count f_0_lines_thickness v_0_net_points v_0_net_pieces v_0_net_looseEnds f_0_net_pointX f_0_net_pointY f_0_net_pieceLine f_0_net_begins f_0_net_leftSpaces v_0_now_spaces) sz) := by
  refine XMet.ofW (cc := b_Sp_size) (maxL := 3) (ret := (some .int)) (by decide) rfl ?_
  intro p e s m args below meth c s₁ B hml hout hv
  obtain ⟨rfl, hsz, hP, hK, hD0, hN, hX⟩ := hv
  subst hsz
  have hl := lv_entry ([.ref a_0, .int p1, .int p2]) (n := 3) (Nat.le_of_ble_eq_true rfl)
  rw [lg_entry_eq]
  generalize (lg_sl ([.ref a_0, .int p1, .int p2]) ++ List.replicate (3 - (lg_sl ([.ref a_0, .int p1, .int p2])).length) Slot.unset).toArray = ls at hl ⊢
  exact t_Sp_size (A := va_A (wl_Sp_size a_0 a_0_lines a_0_lines_thickness a_0_net a_0_net_pointX a_0_net_pointY a_0_net_pieceLine a_0_net_begins a_0_net_leftSpaces a_0_now b_0_flood b_0_loops b_0_common b_0_names b_0_ways b_0_marked b_0_lines_lowX b_0_lines_lowY b_0_lines_highX b_0_lines_highY b_0_lines_doors b_0_lines_doorFrom b_0_lines_doorTo b_0_net_looseSides b_0_net_sidesOut b_0_net_directions b_0_net_weights b_0_net_pointAt b_0_now_xs b_0_now_ys b_0_now_cells cI a_0_now r_0_before v_0_runs v_0_stale v_0_lines_count f_0_lines_thickness v_0_net_points v_0_net_pieces v_0_net_looseEnds f_0_net_pointX f_0_net_pointY f_0_net_pieceLine f_0_net_begins f_0_net_leftSpaces v_0_now_spaces) s.heap.size) a_0 a_0_lines a_0_lines_thickness a_0_net a_0_net_pointX a_0_net_pointY a_0_net_pieceLine a_0_net_begins a_0_net_leftSpaces a_0_now b_0_flood b_0_loops b_0_common b_0_names b_0_ways b_0_marked b_0_lines_lowX b_0_lines_lowY b_0_lines_highX b_0_lines_highY b_0_lines_doors b_0_lines_doorFrom b_0_lines_doorTo b_0_net_looseSides b_0_net_sidesOut b_0_net_directions b_0_net_weights b_0_net_pointAt b_0_now_xs b_0_now_ys b_0_now_cells r_0_before v_0_runs v_0_stale v_0_lines_count f_0_lines_thickness v_0_net_points v_0_net_pieces v_0_net_looseEnds f_0_net_pointX f_0_net_pointY f_0_net_pieceLine f_0_net_begins f_0_net_leftSpaces v_0_now_spaces p1 p2 Z htr hX hout B.notSynchronized B.exec B.bytes hml (findClass_of_methodNamed B.named) (atoms_spec (ws := w_Sp_size) B.pre) hK hN (fun q h => Or.inr h) (fun r hz pc H locs ls hd hP9 hD9 hS => x_ret (W.iret B.exec B.bytes B.returns (fun t ht hW => ⟨⟨r, (), rfl, hz, by rw [ht]; exact hP9, va_K.moved hW.alike hK, hD9⟩, hS.F ht⟩) hS.2.2 hd)) hm hP hD0.self va_S.rf ls hl

theorem k_563 : ((.code ⟨"SpaceCycles$Lines", "someHold", "(II)Z"⟩ prog_6_method_6_code 4 (some .boolean)) : Cond) ∈ gl := gl_i 1005 (by decide +kernel) (by decide +kernel)
theorem k_564 : ((.selects "SpaceCycles$Lines" ⟨"SpaceCycles$Lines", "someHold", "(II)Z"⟩ ⟨"SpaceCycles$Lines", "someHold", "(II)Z"⟩) : Cond) ∈ gl := gl_i 1004 (by decide +kernel) (by decide +kernel)
theorem k_565 : ((.instanceMethod ⟨"SpaceCycles$Lines", "someHold", "(II)Z"⟩) : Cond) ∈ gl := gl_i 1003 (by decide +kernel) (by decide +kernel)
theorem k_566 : ((.methodLink "SpaceCycles" 242 ⟨"SpaceCycles$Lines", "someHold", "(II)Z"⟩) : Cond) ∈ gl := gl_i 1002 (by decide +kernel) (by decide +kernel)
theorem k_567 : ((.code ⟨"SpaceCycles$Grid", "spaceAt", "(II)I"⟩ prog_5_method_4_code 3 (some .int)) : Cond) ∈ gl := gl_i 1009 (by decide +kernel) (by decide +kernel)
theorem k_568 : ((.selects "SpaceCycles$Grid" ⟨"SpaceCycles$Grid", "spaceAt", "(II)I"⟩ ⟨"SpaceCycles$Grid", "spaceAt", "(II)I"⟩) : Cond) ∈ gl := gl_i 1008 (by decide +kernel) (by decide +kernel)
theorem k_569 : ((.instanceMethod ⟨"SpaceCycles$Grid", "spaceAt", "(II)I"⟩) : Cond) ∈ gl := gl_i 1007 (by decide +kernel) (by decide +kernel)
theorem k_570 : ((.methodLink "SpaceCycles" 246 ⟨"SpaceCycles$Grid", "spaceAt", "(II)I"⟩) : Cond) ∈ gl := gl_i 1006 (by decide +kernel) (by decide +kernel)
-- SpaceCycles.at(II)I: may throw
abbrev b_Sp_at : ByteArray := prog_1_method_11_code
abbrev y_Sp_at : MethodName := ⟨"SpaceCycles", "at", "(II)I"⟩
abbrev w_Sp_at : List Cond := Cond.code y_Sp_at b_Sp_at 3 (some .int) :: gl
abbrev rm_Sp_at : Room := { frames := 9, cells := 1, slots := 6, locals := 221 }
theorem d_Sp_at_0 : decode b_Sp_at 0 = .ok (.iload_n 1, 1) := by decide +kernel
theorem d_Sp_at_1 : decode b_Sp_at 1 = .ok (.i2l, 1) := by decide +kernel
theorem d_Sp_at_2 : decode b_Sp_at 2 = .ok (.invokestatic 80, 3) := by decide +kernel
theorem d_Sp_at_5 : decode b_Sp_at 5 = .ok (.iload_n 2, 1) := by decide +kernel
theorem d_Sp_at_6 : decode b_Sp_at 6 = .ok (.i2l, 1) := by decide +kernel
theorem d_Sp_at_7 : decode b_Sp_at 7 = .ok (.invokestatic 80, 3) := by decide +kernel
theorem d_Sp_at_10 : decode b_Sp_at 10 = .ok (.aload_n 0, 1) := by decide +kernel
theorem d_Sp_at_11 : decode b_Sp_at 11 = .ok (.invokevirtual 184, 3) := by decide +kernel
theorem d_Sp_at_14 : decode b_Sp_at 14 = .ok (.aload_n 0, 1) := by decide +kernel
theorem d_Sp_at_15 : decode b_Sp_at 15 = .ok (.getfield 12, 3) := by decide +kernel
theorem d_Sp_at_18 : decode b_Sp_at 18 = .ok (.iload_n 1, 1) := by decide +kernel
theorem d_Sp_at_19 : decode b_Sp_at 19 = .ok (.iload_n 2, 1) := by decide +kernel
theorem d_Sp_at_20 : decode b_Sp_at 20 = .ok (.invokevirtual 242, 3) := by decide +kernel
theorem d_Sp_at_23 : decode b_Sp_at 23 = .ok (.ifCond .eq 8, 3) := by decide +kernel
theorem d_Sp_at_26 : decode b_Sp_at 26 = .ok (.bipush (-2), 2) := by decide +kernel
theorem d_Sp_at_28 : decode b_Sp_at 28 = .ok (.goto 12, 3) := by decide +kernel
theorem d_Sp_at_31 : decode b_Sp_at 31 = .ok (.aload_n 0, 1) := by decide +kernel
theorem d_Sp_at_32 : decode b_Sp_at 32 = .ok (.getfield 65, 3) := by decide +kernel
theorem d_Sp_at_35 : decode b_Sp_at 35 = .ok (.iload_n 1, 1) := by decide +kernel
theorem d_Sp_at_36 : decode b_Sp_at 36 = .ok (.iload_n 2, 1) := by decide +kernel
theorem d_Sp_at_37 : decode b_Sp_at 37 = .ok (.invokevirtual 246, 3) := by decide +kernel
theorem d_Sp_at_40 : decode b_Sp_at 40 = .ok (.ireturn, 1) := by decide +kernel
abbrev wl_Sp_at (a_0 : Nat) (a_0_lines : Nat) (a_0_lines_lowX : Nat) (a_0_lines_lowY : Nat) (a_0_lines_highX : Nat) (a_0_lines_highY : Nat) (a_0_now : Nat) (a_0_now_xs : Nat) (a_0_now_xs_places : Nat) (a_0_now_ys : Nat) (a_0_now_ys_places : Nat) (a_0_now_cells : Nat) (b_0_flood : Nat) (b_0_net : Nat) (b_0_loops : Nat) (b_0_common : Nat) (b_0_names : Nat) (b_0_ways : Nat) (b_0_marked : Nat) (b_0_lines_thickness : Nat) (b_0_lines_doors : Nat) (b_0_lines_doorFrom : Nat) (b_0_lines_doorTo : Nat) (cI : ClassId) (r_0_now : Nat) (r_0_before : Nat) (v_0_runs : Int32) (v_0_stale : Int32) (v_0_lines_count : Int32) (f_0_lines_lowX : Nat → Int32) (f_0_lines_lowY : Nat → Int32) (f_0_lines_highX : Nat → Int32) (f_0_lines_highY : Nat → Int32) (v_0_now_spaces : Int32) (v_0_now_xs_count : Int32) (f_0_now_xs_places : Nat → Int32) (v_0_now_ys_count : Int32) (f_0_now_ys_places : Nat → Int32) (f_0_now_cells : Nat → Int32) : va_W := [(a_0, .inr (0, [.ref a_0_lines, .ref b_0_flood, .ref b_0_net, .ref b_0_loops, .ref b_0_common, .ref b_0_names, .ref b_0_ways, .ref b_0_marked, .ref r_0_now, .ref r_0_before, .int v_0_runs, .int v_0_stale])), (a_0_lines, .inr (1, [.ref a_0_lines_lowX, .ref a_0_lines_lowY, .ref a_0_lines_highX, .ref a_0_lines_highY, .ref b_0_lines_thickness, .ref b_0_lines_doors, .ref b_0_lines_doorFrom, .ref b_0_lines_doorTo, .int v_0_lines_count])), (a_0_lines_lowX, .inl (cI, 20, .inl f_0_lines_lowX)), (a_0_lines_lowY, .inl (cI, 20, .inl f_0_lines_lowY)), (a_0_lines_highX, .inl (cI, 20, .inl f_0_lines_highX)), (a_0_lines_highY, .inl (cI, 20, .inl f_0_lines_highY)), (a_0_now, .inr (8, [.ref a_0_now_xs, .ref a_0_now_ys, .ref a_0_now_cells, .int v_0_now_spaces])), (a_0_now_xs, .inr (9, [.ref a_0_now_xs_places, .int v_0_now_xs_count])), (a_0_now_xs_places, .inl (cI, 40, .inl f_0_now_xs_places)), (a_0_now_ys, .inr (9, [.ref a_0_now_ys_places, .int v_0_now_ys_count])), (a_0_now_ys_places, .inl (cI, 40, .inl f_0_now_ys_places)), (a_0_now_cells, .inl (cI, 1681, .inl f_0_now_cells))]
def m_Sp_at (p1 : Int32) (p2 : Int32) (v_0_stale : Int32) (v_0_lines_count : Int32) (f_0_lines_lowX : Nat → Int32) (f_0_lines_lowY : Nat → Int32) (f_0_lines_highX : Nat → Int32) (f_0_lines_highY : Nat → Int32) (v_0_now_xs_count : Int32) (f_0_now_xs_places : Nat → Int32) (v_0_now_ys_count : Int32) (f_0_now_ys_places : Nat → Int32) (f_0_now_cells : Nat → Int32) : Option (Sum Nat (Int32)) :=
  bx0 (m_Sp_needCoordinate (Int32.toInt64 p1)) <|
  bx0 (m_Sp_needCoordinate (Int32.toInt64 p2)) <|
  bx0 (m_Sp_needFreshRun v_0_stale) <|
  bd1 (m_Li_someHold p1 p2 v_0_lines_count f_0_lines_lowX f_0_lines_lowY f_0_lines_highX f_0_lines_highY) fun r10 =>
  bd1 (
    if r10 = 0 then (
    bd1 (m_Gr_spaceAt p1 p2 v_0_now_xs_count f_0_now_xs_places v_0_now_ys_count f_0_now_ys_places f_0_now_cells) fun r17 =>
    some r17)
  else (
    some (-2)))
  fun (x15 : Int32) =>
  some (Sum.inr x15)

set_option maxHeartbeats 4000000 in
set_option maxRecDepth 100000 in
theorem t_Sp_at {p : Program} {l : Launch} {e : Env} {s : State} {m : MethodId} {args : Array Value} {below : List Frame} {meth : Method} {c : Code} {A : Nat → Prop} {dC : Nat → ClassId} {dI : Nat → Nat → Nat} {cI cZ cJ : ClassId} {Qc : Array Value → State → Outcome → State → Prop} {free : Addr → Prop} (a_0 a_0_lines a_0_lines_lowX a_0_lines_lowY a_0_lines_highX a_0_lines_highY a_0_now a_0_now_xs a_0_now_xs_places a_0_now_ys a_0_now_ys_places a_0_now_cells b_0_flood b_0_net b_0_loops b_0_common b_0_names b_0_ways b_0_marked b_0_lines_thickness b_0_lines_doors b_0_lines_doorFrom b_0_lines_doorTo : Nat) (r_0_before : Nat) (v_0_runs : Int32) (v_0_stale : Int32) (v_0_lines_count : Int32) (f_0_lines_lowX : Nat → Int32) (f_0_lines_lowY : Nat → Int32) (f_0_lines_highX : Nat → Int32) (f_0_lines_highY : Nat → Int32) (v_0_now_spaces : Int32) (v_0_now_xs_count : Int32) (f_0_now_xs_places : Nat → Int32) (v_0_now_ys_count : Int32) (f_0_now_ys_places : Nat → Int32) (f_0_now_cells : Nat → Int32) (p1 : Int32) (p2 : Int32) (Z : Sum Nat (Int32)) (htr : l.stackTraces = false) (hX : TX A s s.heap) (hout : c.exceptionTable.toList = []) (hlocks : meth.locks = false) (hx : p.tables.exec = Jvm.exec) (hb : c.code = b_Sp_at) (hml : c.maxLocals = 3) (hown : s.vm.findClass "SpaceCycles" = some m.cls) (hts : ∀ w ∈ w_Sp_at, w.before args s = true) (hK : va_K (dC, dI) vwCl [(cI, .int), (cZ, .boolean), (cJ, .long)] s) (hN : NX s) (hA : ∀ q : Nat, s.heap.size ≤ q → A q)
    (hret : ∀ r : Int32, Z = Sum.inr r → ∀ (pc : Nat) (H : Heap) (locs : List Loc) (ls : Array Slot), decode b_Sp_at pc = .ok (.ireturn, 1) → va_P (dC, dI) vwCl (wl_Sp_at a_0 a_0_lines a_0_lines_lowX a_0_lines_lowY a_0_lines_highX a_0_lines_highY a_0_now a_0_now_xs a_0_now_xs_places a_0_now_ys a_0_now_ys_places a_0_now_cells b_0_flood b_0_net b_0_loops b_0_common b_0_names b_0_ways b_0_marked b_0_lines_thickness b_0_lines_doors b_0_lines_doorFrom b_0_lines_doorTo cI a_0_now r_0_before v_0_runs v_0_stale v_0_lines_count f_0_lines_lowX f_0_lines_lowY f_0_lines_highX f_0_lines_highY v_0_now_spaces v_0_now_xs_count f_0_now_xs_places v_0_now_ys_count f_0_now_ys_places f_0_now_cells) H → va_D A (wl_Sp_at a_0 a_0_lines a_0_lines_lowX a_0_lines_lowY a_0_lines_highX a_0_lines_highY a_0_now a_0_now_xs a_0_now_xs_places a_0_now_ys a_0_now_ys_places a_0_now_cells b_0_flood b_0_net b_0_loops b_0_common b_0_names b_0_ways b_0_marked b_0_lines_thickness b_0_lines_doors b_0_lines_doorFrom b_0_lines_doorTo cI a_0_now r_0_before v_0_runs v_0_stale v_0_lines_count f_0_lines_lowX f_0_lines_lowY f_0_lines_highX f_0_lines_highY v_0_now_spaces v_0_now_xs_count f_0_now_xs_places v_0_now_ys_count f_0_now_ys_places f_0_now_cells) → va_S A s.heap H locs → W p l e rm_Sp_at s m args below meth c H locs 0 0 (XMQ below Qc (fun E => Z = Sum.inl (xk E)) args s free) (F0 m pc ls [.int r]))
    (hm : m_Sp_at p1 p2 v_0_stale v_0_lines_count f_0_lines_lowX f_0_lines_lowY f_0_lines_highX f_0_lines_highY v_0_now_xs_count f_0_now_xs_places v_0_now_ys_count f_0_now_ys_places f_0_now_cells = some Z) (hP : va_P (dC, dI) vwCl (wl_Sp_at a_0 a_0_lines a_0_lines_lowX a_0_lines_lowY a_0_lines_highX a_0_lines_highY a_0_now a_0_now_xs a_0_now_xs_places a_0_now_ys a_0_now_ys_places a_0_now_cells b_0_flood b_0_net b_0_loops b_0_common b_0_names b_0_ways b_0_marked b_0_lines_thickness b_0_lines_doors b_0_lines_doorFrom b_0_lines_doorTo cI a_0_now r_0_before v_0_runs v_0_stale v_0_lines_count f_0_lines_lowX f_0_lines_lowY f_0_lines_highX f_0_lines_highY v_0_now_spaces v_0_now_xs_count f_0_now_xs_places v_0_now_ys_count f_0_now_ys_places f_0_now_cells) s.heap) (hD : va_D A (wl_Sp_at a_0 a_0_lines a_0_lines_lowX a_0_lines_lowY a_0_lines_highX a_0_lines_highY a_0_now a_0_now_xs a_0_now_xs_places a_0_now_ys a_0_now_ys_places a_0_now_cells b_0_flood b_0_net b_0_loops b_0_common b_0_names b_0_ways b_0_marked b_0_lines_thickness b_0_lines_doors b_0_lines_doorFrom b_0_lines_doorTo cI a_0_now r_0_before v_0_runs v_0_stale v_0_lines_count f_0_lines_lowX f_0_lines_lowY f_0_lines_highX f_0_lines_highY v_0_now_spaces v_0_now_xs_count f_0_now_xs_places v_0_now_ys_count f_0_now_ys_places f_0_now_cells)) (hS : va_S A s.heap s.heap []) : ∀ ls : Array Slot, lv_has ls 3 [(0, .ref a_0), (1, .int p1), (2, .int p2)] → W p l e rm_Sp_at s m args below meth c s.heap [] 0 0 (XMQ below Qc (fun E => Z = Sum.inl (xk E)) args s free) (F0 m 0 ls []) := by
  intro ls hl
  unfold m_Sp_at at hm
  refine lv_iload_n hx hb d_Sp_at_0 rfl (lv_at hl 1 rfl) ?_
  refine lv_i2l hx hb d_Sp_at_1 rfl ?_
  obtain ⟨z1, hb2, hz3, hm⟩ := bx0_z hm
  have hPc := hP.sub (ws' := (wl_Sp_needCoordinate)) [] rfl
  have hDc := hD.sub (ws' := (wl_Sp_needCoordinate)) [] (by decide) rfl
  have hFc := va_free (wc := (wl_Sp_needCoordinate)) hD hS hA [] rfl
  refine x_onV (x_runS (As := [.long (Int32.toInt64 p1)]) (rest := []) ⟨hx, hb, hml, hown, hts⟩ (c_Sp_needCoordinate l htr dC dI (cI := cI) (cZ := cZ) (cJ := cJ) s.heap.size (Int32.toInt64 p1) z1 hb2) (va_cwS 1 hts (gl_S k_481 k_480 k_207 k_479) rfl rfl rfl (by decide +kernel) ⟨Nat.le_of_ble_eq_true rfl, Nat.le_of_ble_eq_true rfl⟩) ⟨PPX_blind, fun U hU hW => PPX_at hK hN hX hPc hDc hFc hU hW⟩ rfl rfl hl.1 rfl (lv_room (Nat.le_of_ble_eq_true rfl)) d_Sp_at_2 ⟨Nat.le_of_ble_eq_true rfl, Nat.le_of_ble_eq_true rfl⟩) hout hlocks (fun E hE => hz3 _ hE) (fun hr => ?_)
  replace hm := hm hr
  refine lv_iload_n hx hb d_Sp_at_5 rfl (lv_at hl 2 rfl) ?_
  refine lv_i2l hx hb d_Sp_at_6 rfl ?_
  obtain ⟨z4, hb5, hz6, hm⟩ := bx0_z hm
  have hPc := hP.sub (ws' := (wl_Sp_needCoordinate)) [] rfl
  have hDc := hD.sub (ws' := (wl_Sp_needCoordinate)) [] (by decide) rfl
  have hFc := va_free (wc := (wl_Sp_needCoordinate)) hD hS hA [] rfl
  refine x_onV (x_runS (As := [.long (Int32.toInt64 p2)]) (rest := []) ⟨hx, hb, hml, hown, hts⟩ (c_Sp_needCoordinate l htr dC dI (cI := cI) (cZ := cZ) (cJ := cJ) s.heap.size (Int32.toInt64 p2) z4 hb5) (va_cwS 1 hts (gl_S k_481 k_480 k_207 k_479) rfl rfl rfl (by decide +kernel) ⟨Nat.le_of_ble_eq_true rfl, Nat.le_of_ble_eq_true rfl⟩) ⟨PPX_blind, fun U hU hW => PPX_at hK hN hX hPc hDc hFc hU hW⟩ rfl rfl hl.1 rfl (lv_room (Nat.le_of_ble_eq_true rfl)) d_Sp_at_7 ⟨Nat.le_of_ble_eq_true rfl, Nat.le_of_ble_eq_true rfl⟩) hout hlocks (fun E hE => hz6 _ hE) (fun hr => ?_)
  replace hm := hm hr
  refine lv_aload_n hx hb d_Sp_at_10 rfl (lv_at hl 0 rfl) ?_
  obtain ⟨z7, hb8, hz9, hm⟩ := bx0_z hm
  have hPc := hP.sub (ws' := (wl_Sp_needFreshRun a_0 a_0_lines b_0_flood b_0_net b_0_loops b_0_common b_0_names b_0_ways b_0_marked a_0_now r_0_before v_0_runs v_0_stale)) [0] rfl
  have hDc := hD.sub (ws' := (wl_Sp_needFreshRun a_0 a_0_lines b_0_flood b_0_net b_0_loops b_0_common b_0_names b_0_ways b_0_marked a_0_now r_0_before v_0_runs v_0_stale)) [0] (by decide) rfl
  have hFc := va_free (wc := (wl_Sp_needFreshRun a_0 a_0_lines b_0_flood b_0_net b_0_loops b_0_common b_0_names b_0_ways b_0_marked a_0_now r_0_before v_0_runs v_0_stale)) hD hS hA [0] rfl
  refine x_onV (x_runV (As := []) (rest := []) ⟨hx, hb, hml, hown, hts⟩ (c_Sp_needFreshRun l htr dC dI (cI := cI) (cZ := cZ) (cJ := cJ) a_0 a_0_lines b_0_flood b_0_net b_0_loops b_0_common b_0_names b_0_ways b_0_marked s.heap.size a_0_now r_0_before v_0_runs v_0_stale z7 hb8) (cwV 0 hts (gl_V k_516 k_515 k_514 k_207 k_513) rfl rfl rfl (by decide +kernel) ⟨Nat.le_of_ble_eq_true rfl, Nat.le_of_ble_eq_true rfl⟩) ⟨PPX_blind, va_recv hK hPc (ci := 0) (q0 := 0) rfl rfl, fun U hU hW => PPX_at hK hN hX hPc hDc hFc hU hW⟩ rfl rfl hl.1 rfl (lv_room (Nat.le_of_ble_eq_true rfl)) d_Sp_at_11 ⟨Nat.le_of_ble_eq_true rfl, Nat.le_of_ble_eq_true rfl⟩) hout hlocks (fun E hE => hz9 _ hE) (fun hr => ?_)
  replace hm := hm hr
  refine lv_aload_n hx hb d_Sp_at_14 rfl (lv_at hl 0 rfl) ?_
  refine va_get (D := (dC, dI)) (ci := 0) (v := .ref a_0_lines) (C := "SpaceCycles") (T := F_Sp) (N := 12) hx hb hts (in_F i_Sp) hown hK hP 0 rfl rfl 0 (by decide) (hts _ (in_c k_466)) (fun _ h9 => h9) rfl d_Sp_at_15 ?_
  refine lv_iload_n hx hb d_Sp_at_18 rfl (lv_at hl 1 rfl) ?_
  refine lv_iload_n hx hb d_Sp_at_19 rfl (lv_at hl 2 rfl) ?_
  obtain ⟨r10, hb11, hm⟩ := bd1_e hm
  have hPc := hP.sub (ws' := (wl_Li_someHold a_0_lines a_0_lines_lowX a_0_lines_lowY a_0_lines_highX a_0_lines_highY b_0_lines_thickness b_0_lines_doors b_0_lines_doorFrom b_0_lines_doorTo cI v_0_lines_count f_0_lines_lowX f_0_lines_lowY f_0_lines_highX f_0_lines_highY)) [1, 2, 3, 4, 5] rfl
  have hDc := hD.sub (ws' := (wl_Li_someHold a_0_lines a_0_lines_lowX a_0_lines_lowY a_0_lines_highX a_0_lines_highY b_0_lines_thickness b_0_lines_doors b_0_lines_doorFrom b_0_lines_doorTo cI v_0_lines_count f_0_lines_lowX f_0_lines_lowY f_0_lines_highX f_0_lines_highY)) [1, 2, 3, 4, 5] (by decide) rfl
  refine cl_i (wc' := (wl_Li_someHold a_0_lines a_0_lines_lowX a_0_lines_lowY a_0_lines_highX a_0_lines_highY b_0_lines_thickness b_0_lines_doors b_0_lines_doorFrom b_0_lines_doorTo cI v_0_lines_count f_0_lines_lowX f_0_lines_lowY f_0_lines_highX f_0_lines_highY)) (va_runV (As := [.int p1, .int p2]) (rest := []) ⟨hx, hb, hml, hown, hts⟩ (c_Li_someHold l dC dI (cI := cI) (cZ := cZ) (cJ := cJ) a_0_lines a_0_lines_lowX a_0_lines_lowY a_0_lines_highX a_0_lines_highY b_0_lines_thickness b_0_lines_doors b_0_lines_doorFrom b_0_lines_doorTo s.heap.size v_0_lines_count f_0_lines_lowX f_0_lines_lowY f_0_lines_highX f_0_lines_highY p1 p2 r10 hb11) (cwV 2 hts (gl_V k_566 k_565 k_564 k_30 k_563) rfl rfl rfl (by decide +kernel) ⟨Nat.le_of_ble_eq_true rfl, Nat.le_of_ble_eq_true rfl⟩) ⟨PP_blind, va_recv hK hPc (ci := 1) (q0 := 0) rfl rfl, fun U hU hW => PP_at hK hN hPc hDc hU hW⟩ rfl rfl hl.1 rfl (lv_room (Nat.le_of_ble_eq_true rfl)) d_Sp_at_20 ⟨Nat.zero_le _, Nat.zero_le _⟩) hP hD hS hA [1, 2, 3, 4, 5] [0, 6, 7, 8, 9, 10, 11] rfl rfl (by decide) (by decide) (fun H locs hP hD hS => ?_)
  have hP : va_P (dC, dI) vwCl (wl_Sp_at a_0 a_0_lines a_0_lines_lowX a_0_lines_lowY a_0_lines_highX a_0_lines_highY a_0_now a_0_now_xs a_0_now_xs_places a_0_now_ys a_0_now_ys_places a_0_now_cells b_0_flood b_0_net b_0_loops b_0_common b_0_names b_0_ways b_0_marked b_0_lines_thickness b_0_lines_doors b_0_lines_doorFrom b_0_lines_doorTo cI a_0_now r_0_before v_0_runs v_0_stale v_0_lines_count f_0_lines_lowX f_0_lines_lowY f_0_lines_highX f_0_lines_highY v_0_now_spaces v_0_now_xs_count f_0_now_xs_places v_0_now_ys_count f_0_now_ys_places f_0_now_cells) H := hP.sub [0, 7, 8, 9, 10, 11, 1, 2, 3, 4, 5, 6] rfl
  have hD : va_D A (wl_Sp_at a_0 a_0_lines a_0_lines_lowX a_0_lines_lowY a_0_lines_highX a_0_lines_highY a_0_now a_0_now_xs a_0_now_xs_places a_0_now_ys a_0_now_ys_places a_0_now_cells b_0_flood b_0_net b_0_loops b_0_common b_0_names b_0_ways b_0_marked b_0_lines_thickness b_0_lines_doors b_0_lines_doorFrom b_0_lines_doorTo cI a_0_now r_0_before v_0_runs v_0_stale v_0_lines_count f_0_lines_lowX f_0_lines_lowY f_0_lines_highX f_0_lines_highY v_0_now_spaces v_0_now_xs_count f_0_now_xs_places v_0_now_ys_count f_0_now_ys_places f_0_now_cells) := hD.sub [0, 7, 8, 9, 10, 11, 1, 2, 3, 4, 5, 6] (by decide) rfl
  obtain ⟨x15, hb13, hm⟩ := bd1_e hm
  have K12 : ∀ (H : Heap) (locs : List Loc) (ls : Array Slot), va_P (dC, dI) vwCl (wl_Sp_at a_0 a_0_lines a_0_lines_lowX a_0_lines_lowY a_0_lines_highX a_0_lines_highY a_0_now a_0_now_xs a_0_now_xs_places a_0_now_ys a_0_now_ys_places a_0_now_cells b_0_flood b_0_net b_0_loops b_0_common b_0_names b_0_ways b_0_marked b_0_lines_thickness b_0_lines_doors b_0_lines_doorFrom b_0_lines_doorTo cI a_0_now r_0_before v_0_runs v_0_stale v_0_lines_count f_0_lines_lowX f_0_lines_lowY f_0_lines_highX f_0_lines_highY v_0_now_spaces v_0_now_xs_count f_0_now_xs_places v_0_now_ys_count f_0_now_ys_places f_0_now_cells) H → va_D A (wl_Sp_at a_0 a_0_lines a_0_lines_lowX a_0_lines_lowY a_0_lines_highX a_0_lines_highY a_0_now a_0_now_xs a_0_now_xs_places a_0_now_ys a_0_now_ys_places a_0_now_cells b_0_flood b_0_net b_0_loops b_0_common b_0_names b_0_ways b_0_marked b_0_lines_thickness b_0_lines_doors b_0_lines_doorFrom b_0_lines_doorTo cI a_0_now r_0_before v_0_runs v_0_stale v_0_lines_count f_0_lines_lowX f_0_lines_lowY f_0_lines_highX f_0_lines_highY v_0_now_spaces v_0_now_xs_count f_0_now_xs_places v_0_now_ys_count f_0_now_ys_places f_0_now_cells) → va_S A s.heap H locs → lv_has ls 3 [] → W p l e rm_Sp_at s m args below meth c H locs 0 0 (XMQ below Qc (fun E => Z = Sum.inl (xk E)) args s free) (F0 m 40 ls [.int x15]) := by
    intro H locs ls hP hD hS hl
    cases hm
    exact hret _ rfl _ H locs ls d_Sp_at_40 hP hD hS
  replace hm := hb13
  refine lv_if_eq (tgt := 31) hx hb d_Sp_at_23 (by decide) (fun c16 => ?_) (fun c16 => ?_)
  · replace hm := if_t hm c16
    refine lv_aload_n hx hb d_Sp_at_31 rfl (lv_at hl 0 rfl) ?_
    refine va_get (D := (dC, dI)) (ci := 0) (v := .ref a_0_now) (C := "SpaceCycles") (T := F_Sp) (N := 12) hx hb hts (in_F i_Sp) hown hK hP 0 rfl rfl 8 (by decide) (hts _ (in_c k_471)) (fun _ h9 => h9) rfl d_Sp_at_32 ?_
    refine lv_iload_n hx hb d_Sp_at_35 rfl (lv_at hl 1 rfl) ?_
    refine lv_iload_n hx hb d_Sp_at_36 rfl (lv_at hl 2 rfl) ?_
    obtain ⟨r17, hb18, hm⟩ := bd1_e hm
    have hPc := hP.sub (ws' := (wl_Gr_spaceAt a_0_now a_0_now_xs a_0_now_xs_places a_0_now_ys a_0_now_ys_places a_0_now_cells cI v_0_now_spaces v_0_now_xs_count f_0_now_xs_places v_0_now_ys_count f_0_now_ys_places f_0_now_cells)) [6, 7, 8, 9, 10, 11] rfl
    have hDc := hD.sub (ws' := (wl_Gr_spaceAt a_0_now a_0_now_xs a_0_now_xs_places a_0_now_ys a_0_now_ys_places a_0_now_cells cI v_0_now_spaces v_0_now_xs_count f_0_now_xs_places v_0_now_ys_count f_0_now_ys_places f_0_now_cells)) [6, 7, 8, 9, 10, 11] (by decide) rfl
    refine cl_i (wc' := (wl_Gr_spaceAt a_0_now a_0_now_xs a_0_now_xs_places a_0_now_ys a_0_now_ys_places a_0_now_cells cI v_0_now_spaces v_0_now_xs_count f_0_now_xs_places v_0_now_ys_count f_0_now_ys_places f_0_now_cells)) (va_runV (As := [.int p1, .int p2]) (rest := []) ⟨hx, hb, hml, hown, hts⟩ (c_Gr_spaceAt l dC dI (cI := cI) (cZ := cZ) (cJ := cJ) a_0_now a_0_now_xs a_0_now_xs_places a_0_now_ys a_0_now_ys_places a_0_now_cells H.size v_0_now_spaces v_0_now_xs_count f_0_now_xs_places v_0_now_ys_count f_0_now_ys_places f_0_now_cells p1 p2 r17 hb18) (cwV 2 hts (gl_V k_570 k_569 k_568 k_56 k_567) rfl rfl rfl (by decide +kernel) ⟨Nat.le_of_ble_eq_true rfl, Nat.le_of_ble_eq_true rfl⟩) ⟨PP_blind, va_recv hK hPc (ci := 8) (q0 := 0) rfl rfl, fun U hU hW => PP_at hK hN hPc hDc hU hW⟩ rfl rfl hl.1 rfl (lv_room (Nat.le_of_ble_eq_true rfl)) d_Sp_at_37 ⟨Nat.zero_le _, Nat.zero_le _⟩) hP hD hS hA [6, 7, 8, 9, 10, 11] [0, 1, 2, 3, 4, 5] rfl rfl (by decide) (by decide) (fun H locs hP hD hS => ?_)
    have hP : va_P (dC, dI) vwCl (wl_Sp_at a_0 a_0_lines a_0_lines_lowX a_0_lines_lowY a_0_lines_highX a_0_lines_highY a_0_now a_0_now_xs a_0_now_xs_places a_0_now_ys a_0_now_ys_places a_0_now_cells b_0_flood b_0_net b_0_loops b_0_common b_0_names b_0_ways b_0_marked b_0_lines_thickness b_0_lines_doors b_0_lines_doorFrom b_0_lines_doorTo cI a_0_now r_0_before v_0_runs v_0_stale v_0_lines_count f_0_lines_lowX f_0_lines_lowY f_0_lines_highX f_0_lines_highY v_0_now_spaces v_0_now_xs_count f_0_now_xs_places v_0_now_ys_count f_0_now_ys_places f_0_now_cells) H := hP.sub [0, 1, 2, 3, 4, 5, 6, 7, 8, 9, 10, 11] rfl
    have hD : va_D A (wl_Sp_at a_0 a_0_lines a_0_lines_lowX a_0_lines_lowY a_0_lines_highX a_0_lines_highY a_0_now a_0_now_xs a_0_now_xs_places a_0_now_ys a_0_now_ys_places a_0_now_cells b_0_flood b_0_net b_0_loops b_0_common b_0_names b_0_ways b_0_marked b_0_lines_thickness b_0_lines_doors b_0_lines_doorFrom b_0_lines_doorTo cI a_0_now r_0_before v_0_runs v_0_stale v_0_lines_count f_0_lines_lowX f_0_lines_lowY f_0_lines_highX f_0_lines_highY v_0_now_spaces v_0_now_xs_count f_0_now_xs_places v_0_now_ys_count f_0_now_ys_places f_0_now_cells) := hD.sub [0, 1, 2, 3, 4, 5, 6, 7, 8, 9, 10, 11] (by decide) rfl
    cases hm
    exact K12 H locs ls hP hD hS (lv_sub hl [] rfl)
  · replace hm := if_f hm c16
    refine lv_bipush (v := (-2)) hx hb d_Sp_at_26 (by decide) ?_
    refine lv_goto (tgt := 40) hx hb d_Sp_at_28 (by decide) ?_
    cases hm
    exact K12 H locs ls hP hD hS (lv_sub hl [] rfl)
set_option maxHeartbeats 4000000 in
set_option maxRecDepth 100000 in
theorem c_Sp_at (l : Launch) (htr : l.stackTraces = false) (dC : Nat → ClassId) (dI : Nat → Nat → Nat) {cI cZ cJ : ClassId} (a_0 a_0_lines a_0_lines_lowX a_0_lines_lowY a_0_lines_highX a_0_lines_highY a_0_now a_0_now_xs a_0_now_xs_places a_0_now_ys a_0_now_ys_places a_0_now_cells b_0_flood b_0_net b_0_loops b_0_common b_0_names b_0_ways b_0_marked b_0_lines_thickness b_0_lines_doors b_0_lines_doorFrom b_0_lines_doorTo : Nat) (sz : Nat) (r_0_before : Nat) (v_0_runs : Int32) (v_0_stale : Int32) (v_0_lines_count : Int32) (f_0_lines_lowX : Nat → Int32) (f_0_lines_lowY : Nat → Int32) (f_0_lines_highX : Nat → Int32) (f_0_lines_highY : Nat → Int32) (v_0_now_spaces : Int32) (v_0_now_xs_count : Int32) (f_0_now_xs_places : Nat → Int32) (v_0_now_ys_count : Int32) (f_0_now_ys_places : Nat → Int32) (f_0_now_cells : Nat → Int32) (p1 : Int32) (p2 : Int32) (Z : Sum Nat (Int32)) (hm : m_Sp_at p1 p2 v_0_stale v_0_lines_count f_0_lines_lowX f_0_lines_lowY f_0_lines_highX f_0_lines_highY v_0_now_xs_count f_0_now_xs_places v_0_now_ys_count f_0_now_ys_places f_0_now_cells = some Z) : XMet l y_Sp_at w_Sp_at rm_Sp_at (PPX dC dI [(cI, .int), (cZ, .boolean), (cJ, .long)] [.ref a_0, .int p1, .int p2] sz (wl_Sp_at a_0 a_0_lines a_0_lines_lowX a_0_lines_lowY a_0_lines_highX a_0_lines_highY a_0_now a_0_now_xs a_0_now_xs_places a_0_now_ys a_0_now_ys_places a_0_now_cells b_0_flood b_0_net b_0_loops b_0_common b_0_names b_0_ways b_0_marked b_0_lines_thickness b_0_lines_doors b_0_lines_doorFrom b_0_lines_doorTo cI a_0_now r_0_before v_0_runs v_0_stale v_0_lines_count f_0_lines_lowX f_0_lines_lowY f_0_lines_highX f_0_lines_highY v_0_now_spaces v_0_now_xs_count f_0_now_xs_places v_0_now_ys_count f_0_now_ys_places f_0_now_cells)) (va_Qi (fun (r : Int32) (u : Unit) => Z = Sum.inr r) (fun u t => BB dC dI [(cI, .int), (cZ, .boolean), (cJ, .long)] (va_A (wl_Sp_at a_0 a_0_lines a_0_lines_lowX a_0_lines_lowY a_0_lines_highX a_0_lines_highY a_0_now a_0_now_xs a_0_now_xs_places a_0_now_ys a_0_now_ys_places a_0_now_cells b_0_flood b_0_net b_0_loops b_0_common b_0_names b_0_ways b_0_marked b_0_lines_thickness b_0_lines_doors b_0_lines_doorFrom b_0_lines_doorTo cI a_0_now r_0_before v_0_runs v_0_stale v_0_lines_count f_0_lines_lowX f_0_lines_lowY f_0_lines_highX f_0_lines_highY v_0_now_spaces v_0_now_xs_count f_0_now_xs_places v_0_now_ys_count f_0_now_ys_places f_0_now_cells) sz) (wl_Sp_at a_0 a_0_lines a_0_lines_lowX a_0_lines_lowY a_0_lines_highX a_0_lines_highY a_0_now a_0_now_xs a_0_now_xs_places a_0_now_ys a_0_now_ys_places a_0_now_cells b_0_flood b_0_net b_0_loops b_0_common b_0_names b_0_ways b_0_marked b_0_lines_thickness b_0_lines_doors b_0_lines_doorFrom b_0_lines_doorTo cI a_0_now r_0_before v_0_runs v_0_stale v_0_lines_count f_0_lines_lowX f_0_lines_lowY f_0_lines_highX f_0_lines_highY v_0_now_spaces v_0_now_xs_count f_0_now_xs_places v_0_now_ys_count f_0_now_ys_places f_0_now_cells) () t) (va_A (wl_Sp_at a_0 a_0_lines a_0_lines_lowX a_0_lines_lowY a_0_lines_highX a_0_lines_highY a_0_now a_0_now_xs a_0_now_xs_places a_0_now_ys a_0_now_ys_places a_0_now_cells b_0_flood b_0_net b_0_loops b_0_common b_0_names b_0_ways b_0_marked b_0_lines_thickness b_0_lines_doors b_0_lines_doorFrom b_0_lines_doorTo cI a_0_now r_0_before v_0_runs v_0_stale v_0_lines_count f_0_lines_lowX f_0_lines_lowY f_0_lines_highX f_0_lines_highY v_0_now_spaces v_0_now_xs_count f_0_now_xs_places v_0_now_ys_count f_0_now_ys_places f_0_now_cells) sz)) (fun E => Z = Sum.inl (xk E)) (va_A (wl_Sp_at a_0 a_0_lines a_0_lines_lowX a_0_lines_lowY a_0_lines_highX a_0_lines_highY a_0_now a_0_now_xs a_0_now_xs_places a_0_now_ys a_0_now_ys_places a_0_now_cells b_0_flood b_0_net b_0_loops b_0_common b_0_names b_0_ways b_0_marked b_0_lines_thickness b_0_lines_doors b_0_lines_doorFrom b_0_lines_doorTo cI a_0_now r_0_before v_0_runs v_0_stale v_0_lines_count f_0_lines_lowX f_0_lines_lowY f_0_lines_highX f_0_lines_highY v_0_now_spaces v_0_now_xs_count f_0_now_xs_places v_0_now_ys_count f_0_now_ys_places f_0_now_cells) sz) := by
  refine XMet.ofW (cc := b_Sp_at) (maxL := 3) (ret := (some .int)) (by decide) rfl ?_
  intro p e s m args below meth c s₁ B hml hout hv
  obtain ⟨rfl, hsz, hP, hK, hD0, hN, hX⟩ := hv
  subst hsz
  have hl := lv_entry ([.ref a_0, .int p1, .int p2]) (n := 3) (Nat.le_of_ble_eq_true rfl)
  rw [lg_entry_eq]
  generalize (lg_sl ([.ref a_0, .int p1, .int p2]) ++ List.replicate (3 - (lg_sl ([.ref a_0, .int p1, .int p2])).length) Slot.unset).toArray = ls at hl ⊢
  exact t_Sp_at (A := va_A (wl_Sp_at a_0 a_0_lines a_0_lines_lowX a_0_lines_lowY a_0_lines_highX a_0_lines_highY a_0_now a_0_now_xs a_0_now_xs_places a_0_now_ys a_0_now_ys_places a_0_now_cells b_0_flood b_0_net b_0_loops b_0_common b_0_names b_0_ways b_0_marked b_0_lines_thickness b_0_lines_doors b_0_lines_doorFrom b_0_lines_doorTo cI a_0_now r_0_before v_0_runs v_0_stale v_0_lines_count f_0_lines_lowX f_0_lines_lowY f_0_lines_highX f_0_lines_highY v_0_now_spaces v_0_now_xs_count f_0_now_xs_places v_0_now_ys_count f_0_now_ys_places f_0_now_cells) s.heap.size) a_0 a_0_lines a_0_lines_lowX a_0_lines_lowY a_0_lines_highX a_0_lines_highY a_0_now a_0_now_xs a_0_now_xs_places a_0_now_ys a_0_now_ys_places a_0_now_cells b_0_flood b_0_net b_0_loops b_0_common b_0_names b_0_ways b_0_marked b_0_lines_thickness b_0_lines_doors b_0_lines_doorFrom b_0_lines_doorTo r_0_before v_0_runs v_0_stale v_0_lines_count f_0_lines_lowX f_0_lines_lowY f_0_lines_highX f_0_lines_highY v_0_now_spaces v_0_now_xs_count f_0_now_xs_places v_0_now_ys_count f_0_now_ys_places f_0_now_cells p1 p2 Z htr hX hout B.notSynchronized B.exec B.bytes hml (findClass_of_methodNamed B.named) (atoms_spec (ws := w_Sp_at) B.pre) hK hN (fun q h => Or.inr h) (fun r hz pc H locs ls hd hP9 hD9 hS => x_ret (W.iret B.exec B.bytes B.returns (fun t ht hW => ⟨⟨r, (), rfl, hz, by rw [ht]; exact hP9, va_K.moved hW.alike hK, hD9⟩, hS.F ht⟩) hS.2.2 hd)) hm hP hD0.self va_S.rf ls hl

theorem k_571 : ((.fieldLink "SpaceCycles" 58 "SpaceCycles" "marked" "[Z") : Cond) ∈ gl := gl_i 329 (by decide +kernel) (by decide +kernel)
theorem k_572 : ((.code ⟨"SpaceCycles$Net", "markNeighbours", "(I[Z)V"⟩ prog_8_method_17_code 5 none) : Cond) ∈ gl := gl_i 1023 (by decide +kernel) (by decide +kernel)
theorem k_573 : ((.selects "SpaceCycles$Net" ⟨"SpaceCycles$Net", "markNeighbours", "(I[Z)V"⟩ ⟨"SpaceCycles$Net", "markNeighbours", "(I[Z)V"⟩) : Cond) ∈ gl := gl_i 1022 (by decide +kernel) (by decide +kernel)
theorem k_574 : ((.instanceMethod ⟨"SpaceCycles$Net", "markNeighbours", "(I[Z)V"⟩) : Cond) ∈ gl := gl_i 1021 (by decide +kernel) (by decide +kernel)
theorem k_575 : ((.methodLink "SpaceCycles" 251 ⟨"SpaceCycles$Net", "markNeighbours", "(I[Z)V"⟩) : Cond) ∈ gl := gl_i 1020 (by decide +kernel) (by decide +kernel)
-- SpaceCycles.neighbour(II)I: may throw
abbrev b_Sp_neighbour : ByteArray := prog_1_method_12_code
abbrev y_Sp_neighbour : MethodName := ⟨"SpaceCycles", "neighbour", "(II)I"⟩
abbrev w_Sp_neighbour : List Cond := Cond.code y_Sp_neighbour b_Sp_neighbour 5 (some .int) :: gl
abbrev rm_Sp_neighbour : Room := { frames := 9, cells := 1, slots := 6, locals := 221 }
theorem d_Sp_neighbour_0 : decode b_Sp_neighbour 0 = .ok (.aload_n 0, 1) := by decide +kernel
theorem d_Sp_neighbour_1 : decode b_Sp_neighbour 1 = .ok (.iload_n 1, 1) := by decide +kernel
theorem d_Sp_neighbour_2 : decode b_Sp_neighbour 2 = .ok (.invokevirtual 199, 3) := by decide +kernel
theorem d_Sp_neighbour_5 : decode b_Sp_neighbour 5 = .ok (.iload_n 2, 1) := by decide +kernel
theorem d_Sp_neighbour_6 : decode b_Sp_neighbour 6 = .ok (.ifCond .ge 13, 3) := by decide +kernel
theorem d_Sp_neighbour_9 : decode b_Sp_neighbour 9 = .ok (.new 88, 3) := by decide +kernel
theorem d_Sp_neighbour_12 : decode b_Sp_neighbour 12 = .ok (.dup, 1) := by decide +kernel
theorem d_Sp_neighbour_13 : decode b_Sp_neighbour 13 = .ok (.ldc 249, 2) := by decide +kernel
theorem d_Sp_neighbour_15 : decode b_Sp_neighbour 15 = .ok (.invokespecial 92, 3) := by decide +kernel
theorem d_Sp_neighbour_18 : decode b_Sp_neighbour 18 = .ok (.athrow, 1) := by decide +kernel
theorem d_Sp_neighbour_19 : decode b_Sp_neighbour 19 = .ok (.aload_n 0, 1) := by decide +kernel
theorem d_Sp_neighbour_20 : decode b_Sp_neighbour 20 = .ok (.invokevirtual 184, 3) := by decide +kernel
theorem d_Sp_neighbour_23 : decode b_Sp_neighbour 23 = .ok (.aload_n 0, 1) := by decide +kernel
theorem d_Sp_neighbour_24 : decode b_Sp_neighbour 24 = .ok (.getfield 26, 3) := by decide +kernel
theorem d_Sp_neighbour_27 : decode b_Sp_neighbour 27 = .ok (.iload_n 1, 1) := by decide +kernel
theorem d_Sp_neighbour_28 : decode b_Sp_neighbour 28 = .ok (.aload_n 0, 1) := by decide +kernel
theorem d_Sp_neighbour_29 : decode b_Sp_neighbour 29 = .ok (.getfield 58, 3) := by decide +kernel
theorem d_Sp_neighbour_32 : decode b_Sp_neighbour 32 = .ok (.invokevirtual 251, 3) := by decide +kernel
theorem d_Sp_neighbour_35 : decode b_Sp_neighbour 35 = .ok (.iload_n 2, 1) := by decide +kernel
theorem d_Sp_neighbour_36 : decode b_Sp_neighbour 36 = .ok (.istore_n 3, 1) := by decide +kernel
theorem d_Sp_neighbour_37 : decode b_Sp_neighbour 37 = .ok (.iconst (-1), 1) := by decide +kernel
theorem d_Sp_neighbour_38 : decode b_Sp_neighbour 38 = .ok (.istore 4, 2) := by decide +kernel
theorem d_Sp_neighbour_40 : decode b_Sp_neighbour 40 = .ok (.iload 4, 2) := by decide +kernel
theorem d_Sp_neighbour_42 : decode b_Sp_neighbour 42 = .ok (.aload_n 0, 1) := by decide +kernel
theorem d_Sp_neighbour_43 : decode b_Sp_neighbour 43 = .ok (.getfield 65, 3) := by decide +kernel
theorem d_Sp_neighbour_46 : decode b_Sp_neighbour 46 = .ok (.getfield 181, 3) := by decide +kernel
theorem d_Sp_neighbour_49 : decode b_Sp_neighbour 49 = .ok (.if_icmp .ge 31, 3) := by decide +kernel
theorem d_Sp_neighbour_52 : decode b_Sp_neighbour 52 = .ok (.aload_n 0, 1) := by decide +kernel
theorem d_Sp_neighbour_53 : decode b_Sp_neighbour 53 = .ok (.getfield 58, 3) := by decide +kernel
theorem d_Sp_neighbour_56 : decode b_Sp_neighbour 56 = .ok (.iload 4, 2) := by decide +kernel
theorem d_Sp_neighbour_58 : decode b_Sp_neighbour 58 = .ok (.iconst 1, 1) := by decide +kernel
theorem d_Sp_neighbour_59 : decode b_Sp_neighbour 59 = .ok (.iadd, 1) := by decide +kernel
theorem d_Sp_neighbour_60 : decode b_Sp_neighbour 60 = .ok (.baload, 1) := by decide +kernel
theorem d_Sp_neighbour_61 : decode b_Sp_neighbour 61 = .ok (.ifCond .eq 13, 3) := by decide +kernel
theorem d_Sp_neighbour_64 : decode b_Sp_neighbour 64 = .ok (.iload_n 3, 1) := by decide +kernel
theorem d_Sp_neighbour_65 : decode b_Sp_neighbour 65 = .ok (.ifCond .ne 6, 3) := by decide +kernel
theorem d_Sp_neighbour_68 : decode b_Sp_neighbour 68 = .ok (.iload 4, 2) := by decide +kernel
theorem d_Sp_neighbour_70 : decode b_Sp_neighbour 70 = .ok (.ireturn, 1) := by decide +kernel
theorem d_Sp_neighbour_71 : decode b_Sp_neighbour 71 = .ok (.iinc 3 (-1), 3) := by decide +kernel
theorem d_Sp_neighbour_74 : decode b_Sp_neighbour 74 = .ok (.iinc 4 1, 3) := by decide +kernel
theorem d_Sp_neighbour_77 : decode b_Sp_neighbour 77 = .ok (.goto (-37), 3) := by decide +kernel
theorem d_Sp_neighbour_80 : decode b_Sp_neighbour 80 = .ok (.bipush (-2), 2) := by decide +kernel
theorem d_Sp_neighbour_82 : decode b_Sp_neighbour 82 = .ok (.ireturn, 1) := by decide +kernel
abbrev wl_Sp_neighbour (a_0 : Nat) (a_0_net : Nat) (a_0_net_leftSpaces : Nat) (a_0_marked : Nat) (a_0_now : Nat) (b_0_lines : Nat) (b_0_flood : Nat) (b_0_loops : Nat) (b_0_common : Nat) (b_0_names : Nat) (b_0_ways : Nat) (b_0_net_pointX : Nat) (b_0_net_pointY : Nat) (b_0_net_looseSides : Nat) (b_0_net_sidesOut : Nat) (b_0_net_pieceLine : Nat) (b_0_net_begins : Nat) (b_0_net_directions : Nat) (b_0_net_weights : Nat) (b_0_net_pointAt : Nat) (b_0_now_xs : Nat) (b_0_now_ys : Nat) (b_0_now_cells : Nat) (cI : ClassId) (cZ : ClassId) (r_0_now : Nat) (r_0_before : Nat) (v_0_runs : Int32) (v_0_stale : Int32) (v_0_net_points : Int32) (v_0_net_pieces : Int32) (v_0_net_looseEnds : Int32) (f_0_net_leftSpaces : Nat → Int32) (f_0_marked : Nat → Int32) (v_0_now_spaces : Int32) : va_W := [(a_0, .inr (0, [.ref b_0_lines, .ref b_0_flood, .ref a_0_net, .ref b_0_loops, .ref b_0_common, .ref b_0_names, .ref b_0_ways, .ref a_0_marked, .ref r_0_now, .ref r_0_before, .int v_0_runs, .int v_0_stale])), (a_0_net, .inr (3, [.ref b_0_net_pointX, .ref b_0_net_pointY, .ref b_0_net_looseSides, .int v_0_net_points, .int v_0_net_pieces, .int v_0_net_looseEnds, .ref b_0_net_sidesOut, .ref b_0_net_pieceLine, .ref b_0_net_begins, .ref b_0_net_directions, .ref a_0_net_leftSpaces, .ref b_0_net_weights, .ref b_0_net_pointAt])), (a_0_net_leftSpaces, .inl (cI, 440, .inl f_0_net_leftSpaces)), (a_0_marked, .inl (cZ, 82, .inl f_0_marked)), (a_0_now, .inr (8, [.ref b_0_now_xs, .ref b_0_now_ys, .ref b_0_now_cells, .int v_0_now_spaces]))]
def m_Sp_neighbour_L40 (f_0_marked : Nat → Int32) (v_0_now_spaces : Int32) : Nat → Int32 → Int32 → Option (Sum (Sum Nat (Int32 × (Nat → Int32))) (Unit))
  | 0, _, _ => none
  | n + 1, l3, l4 =>
    if v_0_now_spaces ≤ l4 then (
      some (Sum.inr ()))
    else (
      gI (l4 + 1) 82 <|
      bt1 (
        if (f_0_marked (l4 + 1).toNatClampNeg) = 0 then (
        some (Sum.inr l3))
      else (
        if l3 = 0 then (
          some (Sum.inl (Sum.inr (l4, f_0_marked))))
        else (
          lt_ (l3 + (-1)) fun x18 =>
          some (Sum.inr x18))))
      fun (x15 : Int32) =>
      lt_ (l4 + 1) fun x19 =>
        m_Sp_neighbour_L40 f_0_marked v_0_now_spaces n x15 x19)
def m_Sp_neighbour (p1 : Int32) (p2 : Int32) (v_0_stale : Int32) (v_0_net_pieces : Int32) (f_0_net_leftSpaces : Nat → Int32) (f_0_marked : Nat → Int32) (v_0_now_spaces : Int32) : Option (Sum Nat (Int32 × (Nat → Int32))) :=
  bx0 (m_Sp_needSpace p1 v_0_now_spaces) <|
  if 0 ≤ p2 then (
    bx0 (m_Sp_needFreshRun v_0_stale) <|
    bd1 (m_Ne_markNeighbours 82 p1 v_0_net_pieces f_0_net_leftSpaces f_0_marked) fun f8 =>
    bs0 (m_Sp_neighbour_L40 f8 v_0_now_spaces fu p2 (-1)) <|
    some (Sum.inr ((-2), f8)))
  else (
    some (Sum.inl 1))

set_option maxHeartbeats 4000000 in
set_option maxRecDepth 100000 in
theorem t_Sp_neighbour {p : Program} {l : Launch} {e : Env} {s : State} {m : MethodId} {args : Array Value} {below : List Frame} {meth : Method} {c : Code} {A : Nat → Prop} {dC : Nat → ClassId} {dI : Nat → Nat → Nat} {cI cZ cJ : ClassId} {Qc : Array Value → State → Outcome → State → Prop} {free : Addr → Prop} (a_0 a_0_net a_0_net_leftSpaces a_0_marked a_0_now b_0_lines b_0_flood b_0_loops b_0_common b_0_names b_0_ways b_0_net_pointX b_0_net_pointY b_0_net_looseSides b_0_net_sidesOut b_0_net_pieceLine b_0_net_begins b_0_net_directions b_0_net_weights b_0_net_pointAt b_0_now_xs b_0_now_ys b_0_now_cells : Nat) (r_0_before : Nat) (v_0_runs : Int32) (v_0_stale : Int32) (v_0_net_points : Int32) (v_0_net_pieces : Int32) (v_0_net_looseEnds : Int32) (f_0_net_leftSpaces : Nat → Int32) (f_0_marked : Nat → Int32) (v_0_now_spaces : Int32) (p1 : Int32) (p2 : Int32) (Z : Sum Nat (Int32 × (Nat → Int32))) (htr : l.stackTraces = false) (hX : TX A s s.heap) (hout : c.exceptionTable.toList = []) (hlocks : meth.locks = false) (hx : p.tables.exec = Jvm.exec) (hb : c.code = b_Sp_neighbour) (hml : c.maxLocals = 5) (hown : s.vm.findClass "SpaceCycles" = some m.cls) (hts : ∀ w ∈ w_Sp_neighbour, w.before args s = true) (hK : va_K (dC, dI) vwCl [(cI, .int), (cZ, .boolean), (cJ, .long)] s) (hN : NX s) (hA : ∀ q : Nat, s.heap.size ≤ q → A q)
    (hret : ∀ r : Int32, ∀ u : (Nat → Int32), Z = Sum.inr (r, u) → ∀ (pc : Nat) (H : Heap) (locs : List Loc) (ls : Array Slot), decode b_Sp_neighbour pc = .ok (.ireturn, 1) → va_P (dC, dI) vwCl (wl_Sp_neighbour a_0 a_0_net a_0_net_leftSpaces a_0_marked a_0_now b_0_lines b_0_flood b_0_loops b_0_common b_0_names b_0_ways b_0_net_pointX b_0_net_pointY b_0_net_looseSides b_0_net_sidesOut b_0_net_pieceLine b_0_net_begins b_0_net_directions b_0_net_weights b_0_net_pointAt b_0_now_xs b_0_now_ys b_0_now_cells cI cZ a_0_now r_0_before v_0_runs v_0_stale v_0_net_points v_0_net_pieces v_0_net_looseEnds f_0_net_leftSpaces u v_0_now_spaces) H → va_D A (wl_Sp_neighbour a_0 a_0_net a_0_net_leftSpaces a_0_marked a_0_now b_0_lines b_0_flood b_0_loops b_0_common b_0_names b_0_ways b_0_net_pointX b_0_net_pointY b_0_net_looseSides b_0_net_sidesOut b_0_net_pieceLine b_0_net_begins b_0_net_directions b_0_net_weights b_0_net_pointAt b_0_now_xs b_0_now_ys b_0_now_cells cI cZ a_0_now r_0_before v_0_runs v_0_stale v_0_net_points v_0_net_pieces v_0_net_looseEnds f_0_net_leftSpaces u v_0_now_spaces) → va_S A s.heap H locs → W p l e rm_Sp_neighbour s m args below meth c H locs 0 0 (XMQ below Qc (fun E => Z = Sum.inl (xk E)) args s free) (F0 m pc ls [.int r]))
    (hm : m_Sp_neighbour p1 p2 v_0_stale v_0_net_pieces f_0_net_leftSpaces f_0_marked v_0_now_spaces = some Z) (hP : va_P (dC, dI) vwCl (wl_Sp_neighbour a_0 a_0_net a_0_net_leftSpaces a_0_marked a_0_now b_0_lines b_0_flood b_0_loops b_0_common b_0_names b_0_ways b_0_net_pointX b_0_net_pointY b_0_net_looseSides b_0_net_sidesOut b_0_net_pieceLine b_0_net_begins b_0_net_directions b_0_net_weights b_0_net_pointAt b_0_now_xs b_0_now_ys b_0_now_cells cI cZ a_0_now r_0_before v_0_runs v_0_stale v_0_net_points v_0_net_pieces v_0_net_looseEnds f_0_net_leftSpaces f_0_marked v_0_now_spaces) s.heap) (hD : va_D A (wl_Sp_neighbour a_0 a_0_net a_0_net_leftSpaces a_0_marked a_0_now b_0_lines b_0_flood b_0_loops b_0_common b_0_names b_0_ways b_0_net_pointX b_0_net_pointY b_0_net_looseSides b_0_net_sidesOut b_0_net_pieceLine b_0_net_begins b_0_net_directions b_0_net_weights b_0_net_pointAt b_0_now_xs b_0_now_ys b_0_now_cells cI cZ a_0_now r_0_before v_0_runs v_0_stale v_0_net_points v_0_net_pieces v_0_net_looseEnds f_0_net_leftSpaces f_0_marked v_0_now_spaces)) (hS : va_S A s.heap s.heap []) : ∀ ls : Array Slot, lv_has ls 5 [(0, .ref a_0), (1, .int p1), (2, .int p2)] → W p l e rm_Sp_neighbour s m args below meth c s.heap [] 0 0 (XMQ below Qc (fun E => Z = Sum.inl (xk E)) args s free) (F0 m 0 ls []) := by
  intro ls hl
  unfold m_Sp_neighbour at hm
  refine lv_aload_n hx hb d_Sp_neighbour_0 rfl (lv_at hl 0 rfl) ?_
  refine lv_iload_n hx hb d_Sp_neighbour_1 rfl (lv_at hl 1 rfl) ?_
  obtain ⟨z1, hb2, hz3, hm⟩ := bx0_z hm
  have hPc := hP.sub (ws' := (wl_Sp_needSpace a_0 a_0_now b_0_lines b_0_flood a_0_net b_0_loops b_0_common b_0_names b_0_ways a_0_marked b_0_now_xs b_0_now_ys b_0_now_cells a_0_now r_0_before v_0_runs v_0_stale v_0_now_spaces)) [0, 4] rfl
  have hDc := hD.sub (ws' := (wl_Sp_needSpace a_0 a_0_now b_0_lines b_0_flood a_0_net b_0_loops b_0_common b_0_names b_0_ways a_0_marked b_0_now_xs b_0_now_ys b_0_now_cells a_0_now r_0_before v_0_runs v_0_stale v_0_now_spaces)) [0, 4] (by decide) rfl
  have hFc := va_free (wc := (wl_Sp_needSpace a_0 a_0_now b_0_lines b_0_flood a_0_net b_0_loops b_0_common b_0_names b_0_ways a_0_marked b_0_now_xs b_0_now_ys b_0_now_cells a_0_now r_0_before v_0_runs v_0_stale v_0_now_spaces)) hD hS hA [0, 4] rfl
  refine x_onV (x_runV (As := [.int p1]) (rest := []) ⟨hx, hb, hml, hown, hts⟩ (c_Sp_needSpace l htr dC dI (cI := cI) (cZ := cZ) (cJ := cJ) a_0 a_0_now b_0_lines b_0_flood a_0_net b_0_loops b_0_common b_0_names b_0_ways a_0_marked b_0_now_xs b_0_now_ys b_0_now_cells s.heap.size r_0_before v_0_runs v_0_stale v_0_now_spaces p1 z1 hb2) (cwV 1 hts (gl_V k_528 k_527 k_526 k_207 k_525) rfl rfl rfl (by decide +kernel) ⟨Nat.le_of_ble_eq_true rfl, Nat.le_of_ble_eq_true rfl⟩) ⟨PPX_blind, va_recv hK hPc (ci := 0) (q0 := 0) rfl rfl, fun U hU hW => PPX_at hK hN hX hPc hDc hFc hU hW⟩ rfl rfl hl.1 rfl (lv_room (Nat.le_of_ble_eq_true rfl)) d_Sp_neighbour_2 ⟨Nat.le_of_ble_eq_true rfl, Nat.le_of_ble_eq_true rfl⟩) hout hlocks (fun E hE => hz3 _ hE) (fun hr => ?_)
  replace hm := hm hr
  refine lv_iload_n hx hb d_Sp_neighbour_5 rfl (lv_at hl 2 rfl) ?_
  refine lv_if_ge (tgt := 19) hx hb d_Sp_neighbour_6 (by decide) (fun c4 => ?_) (fun c4 => ?_)
  · replace hm := if_t hm c4
    refine lv_aload_n hx hb d_Sp_neighbour_19 rfl (lv_at hl 0 rfl) ?_
    obtain ⟨z5, hb6, hz7, hm⟩ := bx0_z hm
    have hPc := hP.sub (ws' := (wl_Sp_needFreshRun a_0 b_0_lines b_0_flood a_0_net b_0_loops b_0_common b_0_names b_0_ways a_0_marked a_0_now r_0_before v_0_runs v_0_stale)) [0] rfl
    have hDc := hD.sub (ws' := (wl_Sp_needFreshRun a_0 b_0_lines b_0_flood a_0_net b_0_loops b_0_common b_0_names b_0_ways a_0_marked a_0_now r_0_before v_0_runs v_0_stale)) [0] (by decide) rfl
    have hFc := va_free (wc := (wl_Sp_needFreshRun a_0 b_0_lines b_0_flood a_0_net b_0_loops b_0_common b_0_names b_0_ways a_0_marked a_0_now r_0_before v_0_runs v_0_stale)) hD hS hA [0] rfl
    refine x_onV (x_runV (As := []) (rest := []) ⟨hx, hb, hml, hown, hts⟩ (c_Sp_needFreshRun l htr dC dI (cI := cI) (cZ := cZ) (cJ := cJ) a_0 b_0_lines b_0_flood a_0_net b_0_loops b_0_common b_0_names b_0_ways a_0_marked s.heap.size a_0_now r_0_before v_0_runs v_0_stale z5 hb6) (cwV 0 hts (gl_V k_516 k_515 k_514 k_207 k_513) rfl rfl rfl (by decide +kernel) ⟨Nat.le_of_ble_eq_true rfl, Nat.le_of_ble_eq_true rfl⟩) ⟨PPX_blind, va_recv hK hPc (ci := 0) (q0 := 0) rfl rfl, fun U hU hW => PPX_at hK hN hX hPc hDc hFc hU hW⟩ rfl rfl hl.1 rfl (lv_room (Nat.le_of_ble_eq_true rfl)) d_Sp_neighbour_20 ⟨Nat.le_of_ble_eq_true rfl, Nat.le_of_ble_eq_true rfl⟩) hout hlocks (fun E hE => hz7 _ hE) (fun hr => ?_)
    replace hm := hm hr
    refine lv_aload_n hx hb d_Sp_neighbour_23 rfl (lv_at hl 0 rfl) ?_
    refine va_get (D := (dC, dI)) (ci := 0) (v := .ref a_0_net) (C := "SpaceCycles") (T := F_Sp) (N := 12) hx hb hts (in_F i_Sp) hown hK hP 0 rfl rfl 2 (by decide) (hts _ (in_c k_517)) (fun _ h9 => h9) rfl d_Sp_neighbour_24 ?_
    refine lv_iload_n hx hb d_Sp_neighbour_27 rfl (lv_at hl 1 rfl) ?_
    refine lv_aload_n hx hb d_Sp_neighbour_28 rfl (lv_at hl 0 rfl) ?_
    refine va_get (D := (dC, dI)) (ci := 0) (v := .ref a_0_marked) (C := "SpaceCycles") (T := F_Sp) (N := 12) hx hb hts (in_F i_Sp) hown hK hP 0 rfl rfl 7 (by decide) (hts _ (in_c k_571)) (fun _ h9 => h9) rfl d_Sp_neighbour_29 ?_
    obtain ⟨f8, hb9, hm⟩ := bd1_e hm
    have hPc := hP.sub (ws' := (wl_Ne_markNeighbours a_0_net a_0_net_leftSpaces a_0_marked b_0_net_pointX b_0_net_pointY b_0_net_looseSides b_0_net_sidesOut b_0_net_pieceLine b_0_net_begins b_0_net_directions b_0_net_weights b_0_net_pointAt cI cZ 82 v_0_net_points v_0_net_pieces v_0_net_looseEnds f_0_net_leftSpaces f_0_marked)) [1, 2, 3] rfl
    have hDc := hD.sub (ws' := (wl_Ne_markNeighbours a_0_net a_0_net_leftSpaces a_0_marked b_0_net_pointX b_0_net_pointY b_0_net_looseSides b_0_net_sidesOut b_0_net_pieceLine b_0_net_begins b_0_net_directions b_0_net_weights b_0_net_pointAt cI cZ 82 v_0_net_points v_0_net_pieces v_0_net_looseEnds f_0_net_leftSpaces f_0_marked)) [1, 2, 3] (by decide) rfl
    refine cl_v (wc' := (wl_Ne_markNeighbours a_0_net a_0_net_leftSpaces a_0_marked b_0_net_pointX b_0_net_pointY b_0_net_looseSides b_0_net_sidesOut b_0_net_pieceLine b_0_net_begins b_0_net_directions b_0_net_weights b_0_net_pointAt cI cZ 82 v_0_net_points v_0_net_pieces v_0_net_looseEnds f_0_net_leftSpaces f8)) (va_runV (As := [.int p1, .ref a_0_marked]) (rest := []) ⟨hx, hb, hml, hown, hts⟩ (c_Ne_markNeighbours l dC dI (cI := cI) (cZ := cZ) (cJ := cJ) a_0_net a_0_net_leftSpaces a_0_marked b_0_net_pointX b_0_net_pointY b_0_net_looseSides b_0_net_sidesOut b_0_net_pieceLine b_0_net_begins b_0_net_directions b_0_net_weights b_0_net_pointAt s.heap.size 82 v_0_net_points v_0_net_pieces v_0_net_looseEnds f_0_net_leftSpaces f_0_marked p1 f8 hb9) (cwV 2 hts (gl_V k_575 k_574 k_573 k_145 k_572) rfl rfl rfl (by decide +kernel) ⟨Nat.le_of_ble_eq_true rfl, Nat.le_of_ble_eq_true rfl⟩) ⟨PP_blind, va_recv hK hPc (ci := 3) (q0 := 0) rfl rfl, fun U hU hW => PP_at hK hN hPc hDc hU hW⟩ rfl rfl hl.1 rfl (lv_room (Nat.le_of_ble_eq_true rfl)) d_Sp_neighbour_32 ⟨Nat.zero_le _, Nat.zero_le _⟩) hP hD hS hA [1, 2, 3] [0, 4] rfl rfl (by decide) (by decide) (fun H locs hP hD hS => ?_)
    have hP : va_P (dC, dI) vwCl (wl_Sp_neighbour a_0 a_0_net a_0_net_leftSpaces a_0_marked a_0_now b_0_lines b_0_flood b_0_loops b_0_common b_0_names b_0_ways b_0_net_pointX b_0_net_pointY b_0_net_looseSides b_0_net_sidesOut b_0_net_pieceLine b_0_net_begins b_0_net_directions b_0_net_weights b_0_net_pointAt b_0_now_xs b_0_now_ys b_0_now_cells cI cZ a_0_now r_0_before v_0_runs v_0_stale v_0_net_points v_0_net_pieces v_0_net_looseEnds f_0_net_leftSpaces f8 v_0_now_spaces) H := hP.sub [0, 2, 3, 4, 1] rfl
    have hD : va_D A (wl_Sp_neighbour a_0 a_0_net a_0_net_leftSpaces a_0_marked a_0_now b_0_lines b_0_flood b_0_loops b_0_common b_0_names b_0_ways b_0_net_pointX b_0_net_pointY b_0_net_looseSides b_0_net_sidesOut b_0_net_pieceLine b_0_net_begins b_0_net_directions b_0_net_weights b_0_net_pointAt b_0_now_xs b_0_now_ys b_0_now_cells cI cZ a_0_now r_0_before v_0_runs v_0_stale v_0_net_points v_0_net_pieces v_0_net_looseEnds f_0_net_leftSpaces f8 v_0_now_spaces) := hD.sub [0, 2, 3, 4, 1] (by decide) rfl
    refine lv_iload_n hx hb d_Sp_neighbour_35 rfl (lv_at hl 2 rfl) ?_
    refine lv_istore_n (lv' := [(3, .int p2), (0, .ref a_0), (1, .int p1), (2, .int p2)]) hx hb d_Sp_neighbour_36 rfl hl (by decide) rfl (fun ls hl => ?_)
    refine lv_iconst (v := (-1)) hx hb d_Sp_neighbour_37 (by decide) ?_
    refine lv_istore (lv' := [(4, .int (-1)), (3, .int p2), (0, .ref a_0), (1, .int p1), (2, .int p2)]) hx hb d_Sp_neighbour_38 hl (by decide) rfl (fun ls hl => ?_)
    have L40_12 : ∀ (n : Nat) (x10 : Int32) (x11 : Int32) (z : Sum (Sum Nat (Int32 × (Nat → Int32))) (Unit)), m_Sp_neighbour_L40 f8 v_0_now_spaces n x10 x11 = some z → (∀ r, z = Sum.inl r → Z = r) → (z = Sum.inr () → ∀ (H : Heap) (locs : List Loc) (ls : Array Slot), va_P (dC, dI) vwCl (wl_Sp_neighbour a_0 a_0_net a_0_net_leftSpaces a_0_marked a_0_now b_0_lines b_0_flood b_0_loops b_0_common b_0_names b_0_ways b_0_net_pointX b_0_net_pointY b_0_net_looseSides b_0_net_sidesOut b_0_net_pieceLine b_0_net_begins b_0_net_directions b_0_net_weights b_0_net_pointAt b_0_now_xs b_0_now_ys b_0_now_cells cI cZ a_0_now r_0_before v_0_runs v_0_stale v_0_net_points v_0_net_pieces v_0_net_looseEnds f_0_net_leftSpaces f8 v_0_now_spaces) H → va_D A (wl_Sp_neighbour a_0 a_0_net a_0_net_leftSpaces a_0_marked a_0_now b_0_lines b_0_flood b_0_loops b_0_common b_0_names b_0_ways b_0_net_pointX b_0_net_pointY b_0_net_looseSides b_0_net_sidesOut b_0_net_pieceLine b_0_net_begins b_0_net_directions b_0_net_weights b_0_net_pointAt b_0_now_xs b_0_now_ys b_0_now_cells cI cZ a_0_now r_0_before v_0_runs v_0_stale v_0_net_points v_0_net_pieces v_0_net_looseEnds f_0_net_leftSpaces f8 v_0_now_spaces) → va_S A s.heap H locs → lv_has ls 5 [] → W p l e rm_Sp_neighbour s m args below meth c H locs 0 0 (XMQ below Qc (fun E => Z = Sum.inl (xk E)) args s free) (F0 m 80 ls [])) → ∀ (H : Heap) (locs : List Loc) (ls : Array Slot), va_P (dC, dI) vwCl (wl_Sp_neighbour a_0 a_0_net a_0_net_leftSpaces a_0_marked a_0_now b_0_lines b_0_flood b_0_loops b_0_common b_0_names b_0_ways b_0_net_pointX b_0_net_pointY b_0_net_looseSides b_0_net_sidesOut b_0_net_pieceLine b_0_net_begins b_0_net_directions b_0_net_weights b_0_net_pointAt b_0_now_xs b_0_now_ys b_0_now_cells cI cZ a_0_now r_0_before v_0_runs v_0_stale v_0_net_points v_0_net_pieces v_0_net_looseEnds f_0_net_leftSpaces f8 v_0_now_spaces) H → va_D A (wl_Sp_neighbour a_0 a_0_net a_0_net_leftSpaces a_0_marked a_0_now b_0_lines b_0_flood b_0_loops b_0_common b_0_names b_0_ways b_0_net_pointX b_0_net_pointY b_0_net_looseSides b_0_net_sidesOut b_0_net_pieceLine b_0_net_begins b_0_net_directions b_0_net_weights b_0_net_pointAt b_0_now_xs b_0_now_ys b_0_now_cells cI cZ a_0_now r_0_before v_0_runs v_0_stale v_0_net_points v_0_net_pieces v_0_net_looseEnds f_0_net_leftSpaces f8 v_0_now_spaces) → va_S A s.heap H locs → lv_has ls 5 [(0, .ref a_0), (3, .int x10), (4, .int x11)] → W p l e rm_Sp_neighbour s m args below meth c H locs 0 0 (XMQ below Qc (fun E => Z = Sum.inl (xk E)) args s free) (F0 m 40 ls []) := by
      intro n
      induction n with
      | zero => intro x10 x11 z hm; simp [m_Sp_neighbour_L40] at hm
      | succ n ih =>
        intro x10 x11 z hm KR KE H locs ls hP hD hS hl
        rw [m_Sp_neighbour_L40] at hm
        refine lv_iload hx hb d_Sp_neighbour_40 (lv_at hl 2 rfl) ?_
        refine lv_aload_n hx hb d_Sp_neighbour_42 rfl (lv_at hl 0 rfl) ?_
        refine va_get (D := (dC, dI)) (ci := 0) (v := .ref a_0_now) (C := "SpaceCycles") (T := F_Sp) (N := 12) hx hb hts (in_F i_Sp) hown hK hP 0 rfl rfl 8 (by decide) (hts _ (in_c k_471)) (fun _ h9 => h9) rfl d_Sp_neighbour_43 ?_
        refine va_get (D := (dC, dI)) (ci := 8) (v := .int v_0_now_spaces) (C := "SpaceCycles$Grid") (T := F_Gr) (N := 4) hx hb hts (in_F i_Gr) hown hK hP 4 rfl rfl 3 (by decide) (hts _ (in_c k_472)) (fun _ h9 => h9) rfl d_Sp_neighbour_46 ?_
        refine lv_icmp_ge (tgt := 80) hx hb d_Sp_neighbour_49 (by decide) (fun c13 => ?_) (fun c13 => ?_)
        · replace hm := if_t hm c13
          cases hm
          exact KE  rfl H locs ls hP hD hS (lv_sub hl [] rfl)
        · replace hm := if_f hm c13
          refine lv_aload_n hx hb d_Sp_neighbour_52 rfl (lv_at hl 0 rfl) ?_
          refine va_get (D := (dC, dI)) (ci := 0) (v := .ref a_0_marked) (C := "SpaceCycles") (T := F_Sp) (N := 12) hx hb hts (in_F i_Sp) hown hK hP 0 rfl rfl 7 (by decide) (hts _ (in_c k_571)) (fun _ h9 => h9) rfl d_Sp_neighbour_53 ?_
          refine lv_iload hx hb d_Sp_neighbour_56 (lv_at hl 2 rfl) ?_
          refine lv_iconst (v := 1) hx hb d_Sp_neighbour_58 (by decide) ?_
          refine lv_iadd hx hb d_Sp_neighbour_59 ?_
          obtain ⟨hi14, hm⟩ := gI_e hm
          refine va_zald hx hb hK hP 3 1 rfl rfl hi14 d_Sp_neighbour_60 ?_
          obtain ⟨zhz17, hb16, hz17, hm⟩ := bt1_z hm
          have K15 : ∀ (x18 : Int32) , zhz17 = Sum.inr x18 → ∀ (H : Heap) (locs : List Loc) (ls : Array Slot), va_P (dC, dI) vwCl (wl_Sp_neighbour a_0 a_0_net a_0_net_leftSpaces a_0_marked a_0_now b_0_lines b_0_flood b_0_loops b_0_common b_0_names b_0_ways b_0_net_pointX b_0_net_pointY b_0_net_looseSides b_0_net_sidesOut b_0_net_pieceLine b_0_net_begins b_0_net_directions b_0_net_weights b_0_net_pointAt b_0_now_xs b_0_now_ys b_0_now_cells cI cZ a_0_now r_0_before v_0_runs v_0_stale v_0_net_points v_0_net_pieces v_0_net_looseEnds f_0_net_leftSpaces f8 v_0_now_spaces) H → va_D A (wl_Sp_neighbour a_0 a_0_net a_0_net_leftSpaces a_0_marked a_0_now b_0_lines b_0_flood b_0_loops b_0_common b_0_names b_0_ways b_0_net_pointX b_0_net_pointY b_0_net_looseSides b_0_net_sidesOut b_0_net_pieceLine b_0_net_begins b_0_net_directions b_0_net_weights b_0_net_pointAt b_0_now_xs b_0_now_ys b_0_now_cells cI cZ a_0_now r_0_before v_0_runs v_0_stale v_0_net_points v_0_net_pieces v_0_net_looseEnds f_0_net_leftSpaces f8 v_0_now_spaces) → va_S A s.heap H locs → lv_has ls 5 [(0, .ref a_0), (3, .int x18), (4, .int x11)] → W p l e rm_Sp_neighbour s m args below meth c H locs 0 0 (XMQ below Qc (fun E => Z = Sum.inl (xk E)) args s free) (F0 m 74 ls []) := by
            intro x18 hq H locs ls hP hD hS hl
            replace hm := hm _ hq
            obtain ⟨x22, ex22⟩ : ∃ y : Int32, y = x11 + 1 := ⟨_, rfl⟩
            replace hm := lt_el hm ex22
            refine lv_iinc (v := x22) (lv' := [(4, .int x22), (0, .ref a_0), (3, .int x18)]) hx hb d_Sp_neighbour_74 hl (k := 2) rfl (by rw [ex22]; rfl) (by decide) rfl (fun ls hl => ?_)
            refine lv_goto (tgt := 40) hx hb d_Sp_neighbour_77 (by decide) ?_
            exact ih _ _ _ hm KR KE H locs ls hP hD hS (lv_sub hl [1, 2, 0] rfl)
          replace hm := hb16
          refine lv_if_eq (tgt := 74) hx hb d_Sp_neighbour_61 (by decide) (fun c19 => ?_) (fun c19 => ?_)
          · replace hm := if_t hm c19
            cases hm
            exact K15 _ rfl H locs ls hP hD hS (lv_sub hl [0, 1, 2] rfl)
          · replace hm := if_f hm c19
            refine lv_iload_n hx hb d_Sp_neighbour_64 rfl (lv_at hl 1 rfl) ?_
            refine lv_if_ne (tgt := 71) hx hb d_Sp_neighbour_65 (by decide) (fun c20 => ?_) (fun c20 => ?_)
            · replace hm := if_f hm c20
              obtain ⟨x21, ex21⟩ : ∃ y : Int32, y = x10 + (-1) := ⟨_, rfl⟩
              replace hm := lt_el hm ex21
              refine lv_iinc (v := x21) (lv' := [(3, .int x21), (0, .ref a_0), (4, .int x11)]) hx hb d_Sp_neighbour_71 hl (k := 1) rfl (by rw [ex21]; rfl) (by decide) rfl (fun ls hl => ?_)
              cases hm
              exact K15 _ rfl H locs ls hP hD hS (lv_sub hl [1, 0, 2] rfl)
            · replace hm := if_t hm c20
              refine lv_iload hx hb d_Sp_neighbour_68 (lv_at hl 2 rfl) ?_
              cases hm
              cases (KR _ (hz17 _ rfl))
              exact hret _ _ rfl _ H locs ls d_Sp_neighbour_70 hP hD hS
    obtain ⟨zhz24, hb23, hz24, hm⟩ := bs0_z hm
    refine L40_12 fu _ _ _ hb23 (fun r hr => hz24 r hr) (fun  hq H locs ls hP hD hS hl => ?_) H locs ls hP hD hS (lv_sub hl [2, 1, 0] rfl)
    replace hm := hm  hq
    refine lv_bipush (v := (-2)) hx hb d_Sp_neighbour_80 (by decide) ?_
    cases hm
    exact hret _ _ rfl _ H locs ls d_Sp_neighbour_82 hP hD hS
  · replace hm := if_f hm c4
    cases hm
    obtain ⟨sa, hsa⟩ := hX.text 12 rfl; exact x_throw hx hb htr hown fit_IA fit_up (hts _ (in_c k_464)) (hts _ (in_c k_465)) hsa (hX.atoms hts atoms_IA) (by rw [hml]; exact hl.1) d_Sp_neighbour_9 d_Sp_neighbour_12 (Or.inl ⟨d_Sp_neighbour_13, rfl⟩) d_Sp_neighbour_15 d_Sp_neighbour_18 hout rfl (Nat.le_of_ble_eq_true rfl) (Nat.le_of_ble_eq_true rfl) (Nat.le_of_ble_eq_true rfl) (Nat.le_of_ble_eq_true rfl) hlocks
set_option maxHeartbeats 4000000 in
set_option maxRecDepth 100000 in
theorem c_Sp_neighbour (l : Launch) (htr : l.stackTraces = false) (dC : Nat → ClassId) (dI : Nat → Nat → Nat) {cI cZ cJ : ClassId} (a_0 a_0_net a_0_net_leftSpaces a_0_marked a_0_now b_0_lines b_0_flood b_0_loops b_0_common b_0_names b_0_ways b_0_net_pointX b_0_net_pointY b_0_net_looseSides b_0_net_sidesOut b_0_net_pieceLine b_0_net_begins b_0_net_directions b_0_net_weights b_0_net_pointAt b_0_now_xs b_0_now_ys b_0_now_cells : Nat) (sz : Nat) (r_0_before : Nat) (v_0_runs : Int32) (v_0_stale : Int32) (v_0_net_points : Int32) (v_0_net_pieces : Int32) (v_0_net_looseEnds : Int32) (f_0_net_leftSpaces : Nat → Int32) (f_0_marked : Nat → Int32) (v_0_now_spaces : Int32) (p1 : Int32) (p2 : Int32) (Z : Sum Nat (Int32 × (Nat → Int32))) (hm : m_Sp_neighbour p1 p2 v_0_stale v_0_net_pieces f_0_net_leftSpaces f_0_marked v_0_now_spaces = some Z) : XMet l y_Sp_neighbour w_Sp_neighbour rm_Sp_neighbour (PPX dC dI [(cI, .int), (cZ, .boolean), (cJ, .long)] [.ref a_0, .int p1, .int p2] sz (wl_Sp_neighbour a_0 a_0_net a_0_net_leftSpaces a_0_marked a_0_now b_0_lines b_0_flood b_0_loops b_0_common b_0_names b_0_ways b_0_net_pointX b_0_net_pointY b_0_net_looseSides b_0_net_sidesOut b_0_net_pieceLine b_0_net_begins b_0_net_directions b_0_net_weights b_0_net_pointAt b_0_now_xs b_0_now_ys b_0_now_cells cI cZ a_0_now r_0_before v_0_runs v_0_stale v_0_net_points v_0_net_pieces v_0_net_looseEnds f_0_net_leftSpaces f_0_marked v_0_now_spaces)) (va_Qi (fun (r : Int32) (u : (Nat → Int32)) => Z = Sum.inr (r, u)) (fun u t => BB dC dI [(cI, .int), (cZ, .boolean), (cJ, .long)] (va_A (wl_Sp_neighbour a_0 a_0_net a_0_net_leftSpaces a_0_marked a_0_now b_0_lines b_0_flood b_0_loops b_0_common b_0_names b_0_ways b_0_net_pointX b_0_net_pointY b_0_net_looseSides b_0_net_sidesOut b_0_net_pieceLine b_0_net_begins b_0_net_directions b_0_net_weights b_0_net_pointAt b_0_now_xs b_0_now_ys b_0_now_cells cI cZ a_0_now r_0_before v_0_runs v_0_stale v_0_net_points v_0_net_pieces v_0_net_looseEnds f_0_net_leftSpaces f_0_marked v_0_now_spaces) sz) (wl_Sp_neighbour a_0 a_0_net a_0_net_leftSpaces a_0_marked a_0_now b_0_lines b_0_flood b_0_loops b_0_common b_0_names b_0_ways b_0_net_pointX b_0_net_pointY b_0_net_looseSides b_0_net_sidesOut b_0_net_pieceLine b_0_net_begins b_0_net_directions b_0_net_weights b_0_net_pointAt b_0_now_xs b_0_now_ys b_0_now_cells cI cZ a_0_now r_0_before v_0_runs v_0_stale v_0_net_points v_0_net_pieces v_0_net_looseEnds f_0_net_leftSpaces u v_0_now_spaces) () t) (va_A (wl_Sp_neighbour a_0 a_0_net a_0_net_leftSpaces a_0_marked a_0_now b_0_lines b_0_flood b_0_loops b_0_common b_0_names b_0_ways b_0_net_pointX b_0_net_pointY b_0_net_looseSides b_0_net_sidesOut b_0_net_pieceLine b_0_net_begins b_0_net_directions b_0_net_weights b_0_net_pointAt b_0_now_xs b_0_now_ys b_0_now_cells cI cZ a_0_now r_0_before v_0_runs v_0_stale v_0_net_points v_0_net_pieces v_0_net_looseEnds f_0_net_leftSpaces f_0_marked v_0_now_spaces) sz)) (fun E => Z = Sum.inl (xk E)) (va_A (wl_Sp_neighbour a_0 a_0_net a_0_net_leftSpaces a_0_marked a_0_now b_0_lines b_0_flood b_0_loops b_0_common b_0_names b_0_ways b_0_net_pointX b_0_net_pointY b_0_net_looseSides b_0_net_sidesOut b_0_net_pieceLine b_0_net_begins b_0_net_directions b_0_net_weights b_0_net_pointAt b_0_now_xs b_0_now_ys b_0_now_cells cI cZ a_0_now r_0_before v_0_runs v_0_stale v_0_net_points v_0_net_pieces v_0_net_looseEnds f_0_net_leftSpaces f_0_marked v_0_now_spaces) sz) := by
  refine XMet.ofW (cc := b_Sp_neighbour) (maxL := 5) (ret := (some .int)) (by decide) rfl ?_
  intro p e s m args below meth c s₁ B hml hout hv
  obtain ⟨rfl, hsz, hP, hK, hD0, hN, hX⟩ := hv
  subst hsz
  have hl := lv_entry ([.ref a_0, .int p1, .int p2]) (n := 5) (Nat.le_of_ble_eq_true rfl)
  rw [lg_entry_eq]
  generalize (lg_sl ([.ref a_0, .int p1, .int p2]) ++ List.replicate (5 - (lg_sl ([.ref a_0, .int p1, .int p2])).length) Slot.unset).toArray = ls at hl ⊢
  exact t_Sp_neighbour (A := va_A (wl_Sp_neighbour a_0 a_0_net a_0_net_leftSpaces a_0_marked a_0_now b_0_lines b_0_flood b_0_loops b_0_common b_0_names b_0_ways b_0_net_pointX b_0_net_pointY b_0_net_looseSides b_0_net_sidesOut b_0_net_pieceLine b_0_net_begins b_0_net_directions b_0_net_weights b_0_net_pointAt b_0_now_xs b_0_now_ys b_0_now_cells cI cZ a_0_now r_0_before v_0_runs v_0_stale v_0_net_points v_0_net_pieces v_0_net_looseEnds f_0_net_leftSpaces f_0_marked v_0_now_spaces) s.heap.size) a_0 a_0_net a_0_net_leftSpaces a_0_marked a_0_now b_0_lines b_0_flood b_0_loops b_0_common b_0_names b_0_ways b_0_net_pointX b_0_net_pointY b_0_net_looseSides b_0_net_sidesOut b_0_net_pieceLine b_0_net_begins b_0_net_directions b_0_net_weights b_0_net_pointAt b_0_now_xs b_0_now_ys b_0_now_cells r_0_before v_0_runs v_0_stale v_0_net_points v_0_net_pieces v_0_net_looseEnds f_0_net_leftSpaces f_0_marked v_0_now_spaces p1 p2 Z htr hX hout B.notSynchronized B.exec B.bytes hml (findClass_of_methodNamed B.named) (atoms_spec (ws := w_Sp_neighbour) B.pre) hK hN (fun q h => Or.inr h) (fun r u hz pc H locs ls hd hP9 hD9 hS => x_ret (W.iret B.exec B.bytes B.returns (fun t ht hW => ⟨⟨r, u, rfl, hz, by rw [ht]; exact hP9, va_K.moved hW.alike hK, hD9⟩, hS.F ht⟩) hS.2.2 hd)) hm hP hD0.self va_S.rf ls hl

theorem k_576 : ((.code ⟨"SpaceCycles", "needSpaceOrOutside", "(I)V"⟩ prog_1_method_23_code 2 none) : Cond) ∈ gl := gl_i 1035 (by decide +kernel) (by decide +kernel)
theorem k_577 : ((.selects "SpaceCycles" ⟨"SpaceCycles", "needSpaceOrOutside", "(I)V"⟩ ⟨"SpaceCycles", "needSpaceOrOutside", "(I)V"⟩) : Cond) ∈ gl := gl_s (by decide +kernel) (by decide +kernel)
theorem k_578 : ((.instanceMethod ⟨"SpaceCycles", "needSpaceOrOutside", "(I)V"⟩) : Cond) ∈ gl := gl_i 1034 (by decide +kernel) (by decide +kernel)
theorem k_579 : ((.methodLink "SpaceCycles" 255 ⟨"SpaceCycles", "needSpaceOrOutside", "(I)V"⟩) : Cond) ∈ gl := gl_i 1032 (by decide +kernel) (by decide +kernel)
theorem k_580 : ((.code ⟨"SpaceCycles$Net", "lengthBetween", "(II)I"⟩ prog_8_method_16_code 6 (some .int)) : Cond) ∈ gl := gl_i 1039 (by decide +kernel) (by decide +kernel)
theorem k_581 : ((.selects "SpaceCycles$Net" ⟨"SpaceCycles$Net", "lengthBetween", "(II)I"⟩ ⟨"SpaceCycles$Net", "lengthBetween", "(II)I"⟩) : Cond) ∈ gl := gl_i 1038 (by decide +kernel) (by decide +kernel)
theorem k_582 : ((.instanceMethod ⟨"SpaceCycles$Net", "lengthBetween", "(II)I"⟩) : Cond) ∈ gl := gl_i 1037 (by decide +kernel) (by decide +kernel)
theorem k_583 : ((.methodLink "SpaceCycles" 258 ⟨"SpaceCycles$Net", "lengthBetween", "(II)I"⟩) : Cond) ∈ gl := gl_i 1036 (by decide +kernel) (by decide +kernel)
-- SpaceCycles.between(II)I: may throw
abbrev b_Sp_between : ByteArray := prog_1_method_13_code
abbrev y_Sp_between : MethodName := ⟨"SpaceCycles", "between", "(II)I"⟩
abbrev w_Sp_between : List Cond := Cond.code y_Sp_between b_Sp_between 3 (some .int) :: gl
abbrev rm_Sp_between : Room := { frames := 9, cells := 1, slots := 6, locals := 221 }
theorem d_Sp_between_0 : decode b_Sp_between 0 = .ok (.aload_n 0, 1) := by decide +kernel
theorem d_Sp_between_1 : decode b_Sp_between 1 = .ok (.iload_n 1, 1) := by decide +kernel
theorem d_Sp_between_2 : decode b_Sp_between 2 = .ok (.invokevirtual 199, 3) := by decide +kernel
theorem d_Sp_between_5 : decode b_Sp_between 5 = .ok (.aload_n 0, 1) := by decide +kernel
theorem d_Sp_between_6 : decode b_Sp_between 6 = .ok (.iload_n 2, 1) := by decide +kernel
theorem d_Sp_between_7 : decode b_Sp_between 7 = .ok (.invokevirtual 255, 3) := by decide +kernel
theorem d_Sp_between_10 : decode b_Sp_between 10 = .ok (.aload_n 0, 1) := by decide +kernel
theorem d_Sp_between_11 : decode b_Sp_between 11 = .ok (.invokevirtual 184, 3) := by decide +kernel
theorem d_Sp_between_14 : decode b_Sp_between 14 = .ok (.aload_n 0, 1) := by decide +kernel
theorem d_Sp_between_15 : decode b_Sp_between 15 = .ok (.getfield 26, 3) := by decide +kernel
theorem d_Sp_between_18 : decode b_Sp_between 18 = .ok (.iload_n 1, 1) := by decide +kernel
theorem d_Sp_between_19 : decode b_Sp_between 19 = .ok (.iload_n 2, 1) := by decide +kernel
theorem d_Sp_between_20 : decode b_Sp_between 20 = .ok (.invokevirtual 258, 3) := by decide +kernel
theorem d_Sp_between_23 : decode b_Sp_between 23 = .ok (.ireturn, 1) := by decide +kernel
abbrev wl_Sp_between (a_0 : Nat) (a_0_net : Nat) (a_0_net_pointX : Nat) (a_0_net_pointY : Nat) (a_0_net_begins : Nat) (a_0_net_leftSpaces : Nat) (a_0_now : Nat) (b_0_lines : Nat) (b_0_flood : Nat) (b_0_loops : Nat) (b_0_common : Nat) (b_0_names : Nat) (b_0_ways : Nat) (b_0_marked : Nat) (b_0_net_looseSides : Nat) (b_0_net_sidesOut : Nat) (b_0_net_pieceLine : Nat) (b_0_net_directions : Nat) (b_0_net_weights : Nat) (b_0_net_pointAt : Nat) (b_0_now_xs : Nat) (b_0_now_ys : Nat) (b_0_now_cells : Nat) (cI : ClassId) (r_0_now : Nat) (r_0_before : Nat) (v_0_runs : Int32) (v_0_stale : Int32) (v_0_net_points : Int32) (v_0_net_pieces : Int32) (v_0_net_looseEnds : Int32) (f_0_net_pointX : Nat → Int32) (f_0_net_pointY : Nat → Int32) (f_0_net_begins : Nat → Int32) (f_0_net_leftSpaces : Nat → Int32) (v_0_now_spaces : Int32) : va_W := [(a_0, .inr (0, [.ref b_0_lines, .ref b_0_flood, .ref a_0_net, .ref b_0_loops, .ref b_0_common, .ref b_0_names, .ref b_0_ways, .ref b_0_marked, .ref r_0_now, .ref r_0_before, .int v_0_runs, .int v_0_stale])), (a_0_net, .inr (3, [.ref a_0_net_pointX, .ref a_0_net_pointY, .ref b_0_net_looseSides, .int v_0_net_points, .int v_0_net_pieces, .int v_0_net_looseEnds, .ref b_0_net_sidesOut, .ref b_0_net_pieceLine, .ref a_0_net_begins, .ref b_0_net_directions, .ref a_0_net_leftSpaces, .ref b_0_net_weights, .ref b_0_net_pointAt])), (a_0_net_pointX, .inl (cI, 140, .inl f_0_net_pointX)), (a_0_net_pointY, .inl (cI, 140, .inl f_0_net_pointY)), (a_0_net_begins, .inl (cI, 440, .inl f_0_net_begins)), (a_0_net_leftSpaces, .inl (cI, 440, .inl f_0_net_leftSpaces)), (a_0_now, .inr (8, [.ref b_0_now_xs, .ref b_0_now_ys, .ref b_0_now_cells, .int v_0_now_spaces]))]
def m_Sp_between (p1 : Int32) (p2 : Int32) (v_0_runs : Int32) (v_0_stale : Int32) (v_0_net_pieces : Int32) (f_0_net_pointX : Nat → Int32) (f_0_net_pointY : Nat → Int32) (f_0_net_begins : Nat → Int32) (f_0_net_leftSpaces : Nat → Int32) (v_0_now_spaces : Int32) : Option (Sum Nat (Int32)) :=
  bx0 (m_Sp_needSpace p1 v_0_now_spaces) <|
  bx0 (m_Sp_needSpaceOrOutside p2 v_0_runs v_0_now_spaces) <|
  bx0 (m_Sp_needFreshRun v_0_stale) <|
  bd1 (m_Ne_lengthBetween p1 p2 v_0_net_pieces f_0_net_pointX f_0_net_pointY f_0_net_begins f_0_net_leftSpaces) fun r10 =>
  some (Sum.inr r10)

set_option maxHeartbeats 4000000 in
set_option maxRecDepth 100000 in
theorem t_Sp_between {p : Program} {l : Launch} {e : Env} {s : State} {m : MethodId} {args : Array Value} {below : List Frame} {meth : Method} {c : Code} {A : Nat → Prop} {dC : Nat → ClassId} {dI : Nat → Nat → Nat} {cI cZ cJ : ClassId} {Qc : Array Value → State → Outcome → State → Prop} {free : Addr → Prop} (a_0 a_0_net a_0_net_pointX a_0_net_pointY a_0_net_begins a_0_net_leftSpaces a_0_now b_0_lines b_0_flood b_0_loops b_0_common b_0_names b_0_ways b_0_marked b_0_net_looseSides b_0_net_sidesOut b_0_net_pieceLine b_0_net_directions b_0_net_weights b_0_net_pointAt b_0_now_xs b_0_now_ys b_0_now_cells : Nat) (r_0_before : Nat) (v_0_runs : Int32) (v_0_stale : Int32) (v_0_net_points : Int32) (v_0_net_pieces : Int32) (v_0_net_looseEnds : Int32) (f_0_net_pointX : Nat → Int32) (f_0_net_pointY : Nat → Int32) (f_0_net_begins : Nat → Int32) (f_0_net_leftSpaces : Nat → Int32) (v_0_now_spaces : Int32) (p1 : Int32) (p2 : Int32) (Z : Sum Nat (Int32)) (htr : l.stackTraces = false) (hX : TX A s s.heap) (hout : c.exceptionTable.toList = []) (hlocks : meth.locks = false) (hx : p.tables.exec = Jvm.exec) (hb : c.code = b_Sp_between) (hml : c.maxLocals = 3) (hown : s.vm.findClass "SpaceCycles" = some m.cls) (hts : ∀ w ∈ w_Sp_between, w.before args s = true) (hK : va_K (dC, dI) vwCl [(cI, .int), (cZ, .boolean), (cJ, .long)] s) (hN : NX s) (hA : ∀ q : Nat, s.heap.size ≤ q → A q)
    (hret : ∀ r : Int32, Z = Sum.inr r → ∀ (pc : Nat) (H : Heap) (locs : List Loc) (ls : Array Slot), decode b_Sp_between pc = .ok (.ireturn, 1) → va_P (dC, dI) vwCl (wl_Sp_between a_0 a_0_net a_0_net_pointX a_0_net_pointY a_0_net_begins a_0_net_leftSpaces a_0_now b_0_lines b_0_flood b_0_loops b_0_common b_0_names b_0_ways b_0_marked b_0_net_looseSides b_0_net_sidesOut b_0_net_pieceLine b_0_net_directions b_0_net_weights b_0_net_pointAt b_0_now_xs b_0_now_ys b_0_now_cells cI a_0_now r_0_before v_0_runs v_0_stale v_0_net_points v_0_net_pieces v_0_net_looseEnds f_0_net_pointX f_0_net_pointY f_0_net_begins f_0_net_leftSpaces v_0_now_spaces) H → va_D A (wl_Sp_between a_0 a_0_net a_0_net_pointX a_0_net_pointY a_0_net_begins a_0_net_leftSpaces a_0_now b_0_lines b_0_flood b_0_loops b_0_common b_0_names b_0_ways b_0_marked b_0_net_looseSides b_0_net_sidesOut b_0_net_pieceLine b_0_net_directions b_0_net_weights b_0_net_pointAt b_0_now_xs b_0_now_ys b_0_now_cells cI a_0_now r_0_before v_0_runs v_0_stale v_0_net_points v_0_net_pieces v_0_net_looseEnds f_0_net_pointX f_0_net_pointY f_0_net_begins f_0_net_leftSpaces v_0_now_spaces) → va_S A s.heap H locs → W p l e rm_Sp_between s m args below meth c H locs 0 0 (XMQ below Qc (fun E => Z = Sum.inl (xk E)) args s free) (F0 m pc ls [.int r]))
    (hm : m_Sp_between p1 p2 v_0_runs v_0_stale v_0_net_pieces f_0_net_pointX f_0_net_pointY f_0_net_begins f_0_net_leftSpaces v_0_now_spaces = some Z) (hP : va_P (dC, dI) vwCl (wl_Sp_between a_0 a_0_net a_0_net_pointX a_0_net_pointY a_0_net_begins a_0_net_leftSpaces a_0_now b_0_lines b_0_flood b_0_loops b_0_common b_0_names b_0_ways b_0_marked b_0_net_looseSides b_0_net_sidesOut b_0_net_pieceLine b_0_net_directions b_0_net_weights b_0_net_pointAt b_0_now_xs b_0_now_ys b_0_now_cells cI a_0_now r_0_before v_0_runs v_0_stale v_0_net_points v_0_net_pieces v_0_net_looseEnds f_0_net_pointX f_0_net_pointY f_0_net_begins f_0_net_leftSpaces v_0_now_spaces) s.heap) (hD : va_D A (wl_Sp_between a_0 a_0_net a_0_net_pointX a_0_net_pointY a_0_net_begins a_0_net_leftSpaces a_0_now b_0_lines b_0_flood b_0_loops b_0_common b_0_names b_0_ways b_0_marked b_0_net_looseSides b_0_net_sidesOut b_0_net_pieceLine b_0_net_directions b_0_net_weights b_0_net_pointAt b_0_now_xs b_0_now_ys b_0_now_cells cI a_0_now r_0_before v_0_runs v_0_stale v_0_net_points v_0_net_pieces v_0_net_looseEnds f_0_net_pointX f_0_net_pointY f_0_net_begins f_0_net_leftSpaces v_0_now_spaces)) (hS : va_S A s.heap s.heap []) : ∀ ls : Array Slot, lv_has ls 3 [(0, .ref a_0), (1, .int p1), (2, .int p2)] → W p l e rm_Sp_between s m args below meth c s.heap [] 0 0 (XMQ below Qc (fun E => Z = Sum.inl (xk E)) args s free) (F0 m 0 ls []) := by
  intro ls hl
  unfold m_Sp_between at hm
  refine lv_aload_n hx hb d_Sp_between_0 rfl (lv_at hl 0 rfl) ?_
  refine lv_iload_n hx hb d_Sp_between_1 rfl (lv_at hl 1 rfl) ?_
  obtain ⟨z1, hb2, hz3, hm⟩ := bx0_z hm
  have hPc := hP.sub (ws' := (wl_Sp_needSpace a_0 a_0_now b_0_lines b_0_flood a_0_net b_0_loops b_0_common b_0_names b_0_ways b_0_marked b_0_now_xs b_0_now_ys b_0_now_cells a_0_now r_0_before v_0_runs v_0_stale v_0_now_spaces)) [0, 6] rfl
  have hDc := hD.sub (ws' := (wl_Sp_needSpace a_0 a_0_now b_0_lines b_0_flood a_0_net b_0_loops b_0_common b_0_names b_0_ways b_0_marked b_0_now_xs b_0_now_ys b_0_now_cells a_0_now r_0_before v_0_runs v_0_stale v_0_now_spaces)) [0, 6] (by decide) rfl
  have hFc := va_free (wc := (wl_Sp_needSpace a_0 a_0_now b_0_lines b_0_flood a_0_net b_0_loops b_0_common b_0_names b_0_ways b_0_marked b_0_now_xs b_0_now_ys b_0_now_cells a_0_now r_0_before v_0_runs v_0_stale v_0_now_spaces)) hD hS hA [0, 6] rfl
  refine x_onV (x_runV (As := [.int p1]) (rest := []) ⟨hx, hb, hml, hown, hts⟩ (c_Sp_needSpace l htr dC dI (cI := cI) (cZ := cZ) (cJ := cJ) a_0 a_0_now b_0_lines b_0_flood a_0_net b_0_loops b_0_common b_0_names b_0_ways b_0_marked b_0_now_xs b_0_now_ys b_0_now_cells s.heap.size r_0_before v_0_runs v_0_stale v_0_now_spaces p1 z1 hb2) (cwV 1 hts (gl_V k_528 k_527 k_526 k_207 k_525) rfl rfl rfl (by decide +kernel) ⟨Nat.le_of_ble_eq_true rfl, Nat.le_of_ble_eq_true rfl⟩) ⟨PPX_blind, va_recv hK hPc (ci := 0) (q0 := 0) rfl rfl, fun U hU hW => PPX_at hK hN hX hPc hDc hFc hU hW⟩ rfl rfl hl.1 rfl (lv_room (Nat.le_of_ble_eq_true rfl)) d_Sp_between_2 ⟨Nat.le_of_ble_eq_true rfl, Nat.le_of_ble_eq_true rfl⟩) hout hlocks (fun E hE => hz3 _ hE) (fun hr => ?_)
  replace hm := hm hr
  refine lv_aload_n hx hb d_Sp_between_5 rfl (lv_at hl 0 rfl) ?_
  refine lv_iload_n hx hb d_Sp_between_6 rfl (lv_at hl 2 rfl) ?_
  obtain ⟨z4, hb5, hz6, hm⟩ := bx0_z hm
  have hPc := hP.sub (ws' := (wl_Sp_needSpaceOrOutside a_0 a_0_now b_0_lines b_0_flood a_0_net b_0_loops b_0_common b_0_names b_0_ways b_0_marked b_0_now_xs b_0_now_ys b_0_now_cells a_0_now r_0_before v_0_runs v_0_stale v_0_now_spaces)) [0, 6] rfl
  have hDc := hD.sub (ws' := (wl_Sp_needSpaceOrOutside a_0 a_0_now b_0_lines b_0_flood a_0_net b_0_loops b_0_common b_0_names b_0_ways b_0_marked b_0_now_xs b_0_now_ys b_0_now_cells a_0_now r_0_before v_0_runs v_0_stale v_0_now_spaces)) [0, 6] (by decide) rfl
  have hFc := va_free (wc := (wl_Sp_needSpaceOrOutside a_0 a_0_now b_0_lines b_0_flood a_0_net b_0_loops b_0_common b_0_names b_0_ways b_0_marked b_0_now_xs b_0_now_ys b_0_now_cells a_0_now r_0_before v_0_runs v_0_stale v_0_now_spaces)) hD hS hA [0, 6] rfl
  refine x_onV (x_runV (As := [.int p2]) (rest := []) ⟨hx, hb, hml, hown, hts⟩ (c_Sp_needSpaceOrOutside l htr dC dI (cI := cI) (cZ := cZ) (cJ := cJ) a_0 a_0_now b_0_lines b_0_flood a_0_net b_0_loops b_0_common b_0_names b_0_ways b_0_marked b_0_now_xs b_0_now_ys b_0_now_cells s.heap.size r_0_before v_0_runs v_0_stale v_0_now_spaces p2 z4 hb5) (cwV 1 hts (gl_V k_579 k_578 k_577 k_207 k_576) rfl rfl rfl (by decide +kernel) ⟨Nat.le_of_ble_eq_true rfl, Nat.le_of_ble_eq_true rfl⟩) ⟨PPX_blind, va_recv hK hPc (ci := 0) (q0 := 0) rfl rfl, fun U hU hW => PPX_at hK hN hX hPc hDc hFc hU hW⟩ rfl rfl hl.1 rfl (lv_room (Nat.le_of_ble_eq_true rfl)) d_Sp_between_7 ⟨Nat.le_of_ble_eq_true rfl, Nat.le_of_ble_eq_true rfl⟩) hout hlocks (fun E hE => hz6 _ hE) (fun hr => ?_)
  replace hm := hm hr
  refine lv_aload_n hx hb d_Sp_between_10 rfl (lv_at hl 0 rfl) ?_
  obtain ⟨z7, hb8, hz9, hm⟩ := bx0_z hm
  have hPc := hP.sub (ws' := (wl_Sp_needFreshRun a_0 b_0_lines b_0_flood a_0_net b_0_loops b_0_common b_0_names b_0_ways b_0_marked a_0_now r_0_before v_0_runs v_0_stale)) [0] rfl
  have hDc := hD.sub (ws' := (wl_Sp_needFreshRun a_0 b_0_lines b_0_flood a_0_net b_0_loops b_0_common b_0_names b_0_ways b_0_marked a_0_now r_0_before v_0_runs v_0_stale)) [0] (by decide) rfl
  have hFc := va_free (wc := (wl_Sp_needFreshRun a_0 b_0_lines b_0_flood a_0_net b_0_loops b_0_common b_0_names b_0_ways b_0_marked a_0_now r_0_before v_0_runs v_0_stale)) hD hS hA [0] rfl
  refine x_onV (x_runV (As := []) (rest := []) ⟨hx, hb, hml, hown, hts⟩ (c_Sp_needFreshRun l htr dC dI (cI := cI) (cZ := cZ) (cJ := cJ) a_0 b_0_lines b_0_flood a_0_net b_0_loops b_0_common b_0_names b_0_ways b_0_marked s.heap.size a_0_now r_0_before v_0_runs v_0_stale z7 hb8) (cwV 0 hts (gl_V k_516 k_515 k_514 k_207 k_513) rfl rfl rfl (by decide +kernel) ⟨Nat.le_of_ble_eq_true rfl, Nat.le_of_ble_eq_true rfl⟩) ⟨PPX_blind, va_recv hK hPc (ci := 0) (q0 := 0) rfl rfl, fun U hU hW => PPX_at hK hN hX hPc hDc hFc hU hW⟩ rfl rfl hl.1 rfl (lv_room (Nat.le_of_ble_eq_true rfl)) d_Sp_between_11 ⟨Nat.le_of_ble_eq_true rfl, Nat.le_of_ble_eq_true rfl⟩) hout hlocks (fun E hE => hz9 _ hE) (fun hr => ?_)
  replace hm := hm hr
  refine lv_aload_n hx hb d_Sp_between_14 rfl (lv_at hl 0 rfl) ?_
  refine va_get (D := (dC, dI)) (ci := 0) (v := .ref a_0_net) (C := "SpaceCycles") (T := F_Sp) (N := 12) hx hb hts (in_F i_Sp) hown hK hP 0 rfl rfl 2 (by decide) (hts _ (in_c k_517)) (fun _ h9 => h9) rfl d_Sp_between_15 ?_
  refine lv_iload_n hx hb d_Sp_between_18 rfl (lv_at hl 1 rfl) ?_
  refine lv_iload_n hx hb d_Sp_between_19 rfl (lv_at hl 2 rfl) ?_
  obtain ⟨r10, hb11, hm⟩ := bd1_e hm
  have hPc := hP.sub (ws' := (wl_Ne_lengthBetween a_0_net a_0_net_pointX a_0_net_pointY a_0_net_begins a_0_net_leftSpaces b_0_net_looseSides b_0_net_sidesOut b_0_net_pieceLine b_0_net_directions b_0_net_weights b_0_net_pointAt cI v_0_net_points v_0_net_pieces v_0_net_looseEnds f_0_net_pointX f_0_net_pointY f_0_net_begins f_0_net_leftSpaces)) [1, 2, 3, 4, 5] rfl
  have hDc := hD.sub (ws' := (wl_Ne_lengthBetween a_0_net a_0_net_pointX a_0_net_pointY a_0_net_begins a_0_net_leftSpaces b_0_net_looseSides b_0_net_sidesOut b_0_net_pieceLine b_0_net_directions b_0_net_weights b_0_net_pointAt cI v_0_net_points v_0_net_pieces v_0_net_looseEnds f_0_net_pointX f_0_net_pointY f_0_net_begins f_0_net_leftSpaces)) [1, 2, 3, 4, 5] (by decide) rfl
  refine cl_i (wc' := (wl_Ne_lengthBetween a_0_net a_0_net_pointX a_0_net_pointY a_0_net_begins a_0_net_leftSpaces b_0_net_looseSides b_0_net_sidesOut b_0_net_pieceLine b_0_net_directions b_0_net_weights b_0_net_pointAt cI v_0_net_points v_0_net_pieces v_0_net_looseEnds f_0_net_pointX f_0_net_pointY f_0_net_begins f_0_net_leftSpaces)) (va_runV (As := [.int p1, .int p2]) (rest := []) ⟨hx, hb, hml, hown, hts⟩ (c_Ne_lengthBetween l dC dI (cI := cI) (cZ := cZ) (cJ := cJ) a_0_net a_0_net_pointX a_0_net_pointY a_0_net_begins a_0_net_leftSpaces b_0_net_looseSides b_0_net_sidesOut b_0_net_pieceLine b_0_net_directions b_0_net_weights b_0_net_pointAt s.heap.size v_0_net_points v_0_net_pieces v_0_net_looseEnds f_0_net_pointX f_0_net_pointY f_0_net_begins f_0_net_leftSpaces p1 p2 r10 hb11) (cwV 2 hts (gl_V k_583 k_582 k_581 k_145 k_580) rfl rfl rfl (by decide +kernel) ⟨Nat.le_of_ble_eq_true rfl, Nat.le_of_ble_eq_true rfl⟩) ⟨PP_blind, va_recv hK hPc (ci := 3) (q0 := 0) rfl rfl, fun U hU hW => PP_at hK hN hPc hDc hU hW⟩ rfl rfl hl.1 rfl (lv_room (Nat.le_of_ble_eq_true rfl)) d_Sp_between_20 ⟨Nat.zero_le _, Nat.zero_le _⟩) hP hD hS hA [1, 2, 3, 4, 5] [0, 6] rfl rfl (by decide) (by decide) (fun H locs hP hD hS => ?_)
  have hP : va_P (dC, dI) vwCl (wl_Sp_between a_0 a_0_net a_0_net_pointX a_0_net_pointY a_0_net_begins a_0_net_leftSpaces a_0_now b_0_lines b_0_flood b_0_loops b_0_common b_0_names b_0_ways b_0_marked b_0_net_looseSides b_0_net_sidesOut b_0_net_pieceLine b_0_net_directions b_0_net_weights b_0_net_pointAt b_0_now_xs b_0_now_ys b_0_now_cells cI a_0_now r_0_before v_0_runs v_0_stale v_0_net_points v_0_net_pieces v_0_net_looseEnds f_0_net_pointX f_0_net_pointY f_0_net_begins f_0_net_leftSpaces v_0_now_spaces) H := hP.sub [0, 2, 3, 4, 5, 6, 1] rfl
  have hD : va_D A (wl_Sp_between a_0 a_0_net a_0_net_pointX a_0_net_pointY a_0_net_begins a_0_net_leftSpaces a_0_now b_0_lines b_0_flood b_0_loops b_0_common b_0_names b_0_ways b_0_marked b_0_net_looseSides b_0_net_sidesOut b_0_net_pieceLine b_0_net_directions b_0_net_weights b_0_net_pointAt b_0_now_xs b_0_now_ys b_0_now_cells cI a_0_now r_0_before v_0_runs v_0_stale v_0_net_points v_0_net_pieces v_0_net_looseEnds f_0_net_pointX f_0_net_pointY f_0_net_begins f_0_net_leftSpaces v_0_now_spaces) := hD.sub [0, 2, 3, 4, 5, 6, 1] (by decide) rfl
  cases hm
  exact hret _ rfl _ H locs ls d_Sp_between_23 hP hD hS
set_option maxHeartbeats 4000000 in
set_option maxRecDepth 100000 in
theorem c_Sp_between (l : Launch) (htr : l.stackTraces = false) (dC : Nat → ClassId) (dI : Nat → Nat → Nat) {cI cZ cJ : ClassId} (a_0 a_0_net a_0_net_pointX a_0_net_pointY a_0_net_begins a_0_net_leftSpaces a_0_now b_0_lines b_0_flood b_0_loops b_0_common b_0_names b_0_ways b_0_marked b_0_net_looseSides b_0_net_sidesOut b_0_net_pieceLine b_0_net_directions b_0_net_weights b_0_net_pointAt b_0_now_xs b_0_now_ys b_0_now_cells : Nat) (sz : Nat) (r_0_before : Nat) (v_0_runs : Int32) (v_0_stale : Int32) (v_0_net_points : Int32) (v_0_net_pieces : Int32) (v_0_net_looseEnds : Int32) (f_0_net_pointX : Nat → Int32) (f_0_net_pointY : Nat → Int32) (f_0_net_begins : Nat → Int32) (f_0_net_leftSpaces : Nat → Int32) (v_0_now_spaces : Int32) (p1 : Int32) (p2 : Int32) (Z : Sum Nat (Int32)) (hm : m_Sp_between p1 p2 v_0_runs v_0_stale v_0_net_pieces f_0_net_pointX f_0_net_pointY f_0_net_begins f_0_net_leftSpaces v_0_now_spaces = some Z) : XMet l y_Sp_between w_Sp_between rm_Sp_between (PPX dC dI [(cI, .int), (cZ, .boolean), (cJ, .long)] [.ref a_0, .int p1, .int p2] sz (wl_Sp_between a_0 a_0_net a_0_net_pointX a_0_net_pointY a_0_net_begins a_0_net_leftSpaces a_0_now b_0_lines b_0_flood b_0_loops b_0_common b_0_names b_0_ways b_0_marked b_0_net_looseSides b_0_net_sidesOut b_0_net_pieceLine b_0_net_directions b_0_net_weights b_0_net_pointAt b_0_now_xs b_0_now_ys b_0_now_cells cI a_0_now r_0_before v_0_runs v_0_stale v_0_net_points v_0_net_pieces v_0_net_looseEnds f_0_net_pointX f_0_net_pointY f_0_net_begins f_0_net_leftSpaces v_0_now_spaces)) (va_Qi (fun (r : Int32) (u : Unit) => Z = Sum.inr r) (fun u t => BB dC dI [(cI, .int), (cZ, .boolean), (cJ, .long)] (va_A (wl_Sp_between a_0 a_0_net a_0_net_pointX a_0_net_pointY a_0_net_begins a_0_net_leftSpaces a_0_now b_0_lines b_0_flood b_0_loops b_0_common b_0_names b_0_ways b_0_marked b_0_net_looseSides b_0_net_sidesOut b_0_net_pieceLine b_0_net_directions b_0_net_weights b_0_net_pointAt b_0_now_xs b_0_now_ys b_0_now_cells cI a_0_now r_0_before v_0_runs v_0_stale v_0_net_points v_0_net_pieces v_0_net_looseEnds f_0_net_pointX f_0_net_pointY f_0_net_begins f_0_net_leftSpaces v_0_now_spaces) sz) (wl_Sp_between a_0 a_0_net a_0_net_pointX a_0_net_pointY a_0_net_begins a_0_net_leftSpaces a_0_now b_0_lines b_0_flood b_0_loops b_0_common b_0_names b_0_ways b_0_marked b_0_net_looseSides b_0_net_sidesOut b_0_net_pieceLine b_0_net_directions b_0_net_weights b_0_net_pointAt b_0_now_xs b_0_now_ys b_0_now_cells cI a_0_now r_0_before v_0_runs v_0_stale v_0_net_points v_0_net_pieces v_0_net_looseEnds f_0_net_pointX f_0_net_pointY f_0_net_begins f_0_net_leftSpaces v_0_now_spaces) () t) (va_A (wl_Sp_between a_0 a_0_net a_0_net_pointX a_0_net_pointY a_0_net_begins a_0_net_leftSpaces a_0_now b_0_lines b_0_flood b_0_loops b_0_common b_0_names b_0_ways b_0_marked b_0_net_looseSides b_0_net_sidesOut b_0_net_pieceLine b_0_net_directions b_0_net_weights b_0_net_pointAt b_0_now_xs b_0_now_ys b_0_now_cells cI a_0_now r_0_before v_0_runs v_0_stale v_0_net_points v_0_net_pieces v_0_net_looseEnds f_0_net_pointX f_0_net_pointY f_0_net_begins f_0_net_leftSpaces v_0_now_spaces) sz)) (fun E => Z = Sum.inl (xk E)) (va_A (wl_Sp_between a_0 a_0_net a_0_net_pointX a_0_net_pointY a_0_net_begins a_0_net_leftSpaces a_0_now b_0_lines b_0_flood b_0_loops b_0_common b_0_names b_0_ways b_0_marked b_0_net_looseSides b_0_net_sidesOut b_0_net_pieceLine b_0_net_directions b_0_net_weights b_0_net_pointAt b_0_now_xs b_0_now_ys b_0_now_cells cI a_0_now r_0_before v_0_runs v_0_stale v_0_net_points v_0_net_pieces v_0_net_looseEnds f_0_net_pointX f_0_net_pointY f_0_net_begins f_0_net_leftSpaces v_0_now_spaces) sz) := by
  refine XMet.ofW (cc := b_Sp_between) (maxL := 3) (ret := (some .int)) (by decide) rfl ?_
  intro p e s m args below meth c s₁ B hml hout hv
  obtain ⟨rfl, hsz, hP, hK, hD0, hN, hX⟩ := hv
  subst hsz
  have hl := lv_entry ([.ref a_0, .int p1, .int p2]) (n := 3) (Nat.le_of_ble_eq_true rfl)
  rw [lg_entry_eq]
  generalize (lg_sl ([.ref a_0, .int p1, .int p2]) ++ List.replicate (3 - (lg_sl ([.ref a_0, .int p1, .int p2])).length) Slot.unset).toArray = ls at hl ⊢
  exact t_Sp_between (A := va_A (wl_Sp_between a_0 a_0_net a_0_net_pointX a_0_net_pointY a_0_net_begins a_0_net_leftSpaces a_0_now b_0_lines b_0_flood b_0_loops b_0_common b_0_names b_0_ways b_0_marked b_0_net_looseSides b_0_net_sidesOut b_0_net_pieceLine b_0_net_directions b_0_net_weights b_0_net_pointAt b_0_now_xs b_0_now_ys b_0_now_cells cI a_0_now r_0_before v_0_runs v_0_stale v_0_net_points v_0_net_pieces v_0_net_looseEnds f_0_net_pointX f_0_net_pointY f_0_net_begins f_0_net_leftSpaces v_0_now_spaces) s.heap.size) a_0 a_0_net a_0_net_pointX a_0_net_pointY a_0_net_begins a_0_net_leftSpaces a_0_now b_0_lines b_0_flood b_0_loops b_0_common b_0_names b_0_ways b_0_marked b_0_net_looseSides b_0_net_sidesOut b_0_net_pieceLine b_0_net_directions b_0_net_weights b_0_net_pointAt b_0_now_xs b_0_now_ys b_0_now_cells r_0_before v_0_runs v_0_stale v_0_net_points v_0_net_pieces v_0_net_looseEnds f_0_net_pointX f_0_net_pointY f_0_net_begins f_0_net_leftSpaces v_0_now_spaces p1 p2 Z htr hX hout B.notSynchronized B.exec B.bytes hml (findClass_of_methodNamed B.named) (atoms_spec (ws := w_Sp_between) B.pre) hK hN (fun q h => Or.inr h) (fun r hz pc H locs ls hd hP9 hD9 hS => x_ret (W.iret B.exec B.bytes B.returns (fun t ht hW => ⟨⟨r, (), rfl, hz, by rw [ht]; exact hP9, va_K.moved hW.alike hK, hD9⟩, hS.F ht⟩) hS.2.2 hd)) hm hP hD0.self va_S.rf ls hl

theorem k_584 : ((.fieldLink "SpaceCycles" 267 "SpaceCycles$Net" "looseSides" "[I") : Cond) ∈ gl := gl_i 126 (by decide +kernel) (by decide +kernel)
theorem k_585 : ((.code ⟨"SpaceCycles$Net", "directionOf", "(I)I"⟩ prog_8_method_6_code 2 (some .int)) : Cond) ∈ gl := gl_i 1080 (by decide +kernel) (by decide +kernel)
theorem k_586 : ((.selects "SpaceCycles$Net" ⟨"SpaceCycles$Net", "directionOf", "(I)I"⟩ ⟨"SpaceCycles$Net", "directionOf", "(I)I"⟩) : Cond) ∈ gl := gl_i 1079 (by decide +kernel) (by decide +kernel)
theorem k_587 : ((.instanceMethod ⟨"SpaceCycles$Net", "directionOf", "(I)I"⟩) : Cond) ∈ gl := gl_i 1078 (by decide +kernel) (by decide +kernel)
theorem k_588 : ((.methodLink "SpaceCycles" 270 ⟨"SpaceCycles$Net", "directionOf", "(I)I"⟩) : Cond) ∈ gl := gl_i 1077 (by decide +kernel) (by decide +kernel)
theorem k_589 : ((.methodLink "SpaceCycles" 273 ⟨"SpaceCycles", "turned", "(II)I"⟩) : Cond) ∈ gl := gl_i 1081 (by decide +kernel) (by decide +kernel)
theorem k_590 : ((.code ⟨"SpaceCycles$Lines", "reach", "(III)I"⟩ prog_6_method_9_code 7 (some .int)) : Cond) ∈ gl := gl_i 1085 (by decide +kernel) (by decide +kernel)
theorem k_591 : ((.selects "SpaceCycles$Lines" ⟨"SpaceCycles$Lines", "reach", "(III)I"⟩ ⟨"SpaceCycles$Lines", "reach", "(III)I"⟩) : Cond) ∈ gl := gl_i 1084 (by decide +kernel) (by decide +kernel)
theorem k_592 : ((.instanceMethod ⟨"SpaceCycles$Lines", "reach", "(III)I"⟩) : Cond) ∈ gl := gl_i 1083 (by decide +kernel) (by decide +kernel)
theorem k_593 : ((.methodLink "SpaceCycles" 276 ⟨"SpaceCycles$Lines", "reach", "(III)I"⟩) : Cond) ∈ gl := gl_i 1082 (by decide +kernel) (by decide +kernel)
-- SpaceCycles.loose(II)I: may throw
abbrev b_Sp_loose : ByteArray := prog_1_method_15_code
abbrev y_Sp_loose : MethodName := ⟨"SpaceCycles", "loose", "(II)I"⟩
abbrev w_Sp_loose : List Cond := Cond.code y_Sp_loose b_Sp_loose 6 (some .int) :: gl
abbrev rm_Sp_loose : Room := { frames := 9, cells := 1, slots := 6, locals := 222 }
theorem d_Sp_loose_0 : decode b_Sp_loose 0 = .ok (.iload_n 1, 1) := by decide +kernel
theorem d_Sp_loose_1 : decode b_Sp_loose 1 = .ok (.ifCond .ge 13, 3) := by decide +kernel
theorem d_Sp_loose_4 : decode b_Sp_loose 4 = .ok (.new 88, 3) := by decide +kernel
theorem d_Sp_loose_7 : decode b_Sp_loose 7 = .ok (.dup, 1) := by decide +kernel
theorem d_Sp_loose_8 : decode b_Sp_loose 8 = .ok (.ldc 249, 2) := by decide +kernel
theorem d_Sp_loose_10 : decode b_Sp_loose 10 = .ok (.invokespecial 92, 3) := by decide +kernel
theorem d_Sp_loose_13 : decode b_Sp_loose 13 = .ok (.athrow, 1) := by decide +kernel
theorem d_Sp_loose_14 : decode b_Sp_loose 14 = .ok (.iload_n 2, 1) := by decide +kernel
theorem d_Sp_loose_15 : decode b_Sp_loose 15 = .ok (.iconst 0, 1) := by decide +kernel
theorem d_Sp_loose_16 : decode b_Sp_loose 16 = .ok (.iconst 3, 1) := by decide +kernel
theorem d_Sp_loose_17 : decode b_Sp_loose 17 = .ok (.invokestatic 84, 3) := by decide +kernel
theorem d_Sp_loose_20 : decode b_Sp_loose 20 = .ok (.aload_n 0, 1) := by decide +kernel
theorem d_Sp_loose_21 : decode b_Sp_loose 21 = .ok (.invokevirtual 184, 3) := by decide +kernel
theorem d_Sp_loose_24 : decode b_Sp_loose 24 = .ok (.iload_n 1, 1) := by decide +kernel
theorem d_Sp_loose_25 : decode b_Sp_loose 25 = .ok (.aload_n 0, 1) := by decide +kernel
theorem d_Sp_loose_26 : decode b_Sp_loose 26 = .ok (.getfield 26, 3) := by decide +kernel
theorem d_Sp_loose_29 : decode b_Sp_loose 29 = .ok (.getfield 193, 3) := by decide +kernel
theorem d_Sp_loose_32 : decode b_Sp_loose 32 = .ok (.if_icmp .lt 14, 3) := by decide +kernel
theorem d_Sp_loose_35 : decode b_Sp_loose 35 = .ok (.new 88, 3) := by decide +kernel
theorem d_Sp_loose_38 : decode b_Sp_loose 38 = .ok (.dup, 1) := by decide +kernel
theorem d_Sp_loose_39 : decode b_Sp_loose 39 = .ok (.ldc_w 265, 3) := by decide +kernel
theorem d_Sp_loose_42 : decode b_Sp_loose 42 = .ok (.invokespecial 92, 3) := by decide +kernel
theorem d_Sp_loose_45 : decode b_Sp_loose 45 = .ok (.athrow, 1) := by decide +kernel
theorem d_Sp_loose_46 : decode b_Sp_loose 46 = .ok (.aload_n 0, 1) := by decide +kernel
theorem d_Sp_loose_47 : decode b_Sp_loose 47 = .ok (.getfield 26, 3) := by decide +kernel
theorem d_Sp_loose_50 : decode b_Sp_loose 50 = .ok (.getfield 267, 3) := by decide +kernel
theorem d_Sp_loose_53 : decode b_Sp_loose 53 = .ok (.iload_n 1, 1) := by decide +kernel
theorem d_Sp_loose_54 : decode b_Sp_loose 54 = .ok (.iaload, 1) := by decide +kernel
theorem d_Sp_loose_55 : decode b_Sp_loose 55 = .ok (.istore_n 3, 1) := by decide +kernel
theorem d_Sp_loose_56 : decode b_Sp_loose 56 = .ok (.aload_n 0, 1) := by decide +kernel
theorem d_Sp_loose_57 : decode b_Sp_loose 57 = .ok (.getfield 26, 3) := by decide +kernel
theorem d_Sp_loose_60 : decode b_Sp_loose 60 = .ok (.iload_n 3, 1) := by decide +kernel
theorem d_Sp_loose_61 : decode b_Sp_loose 61 = .ok (.invokevirtual 220, 3) := by decide +kernel
theorem d_Sp_loose_64 : decode b_Sp_loose 64 = .ok (.istore 4, 2) := by decide +kernel
theorem d_Sp_loose_66 : decode b_Sp_loose 66 = .ok (.iload_n 2, 1) := by decide +kernel
theorem d_Sp_loose_67 : decode b_Sp_loose 67 = .ok (.tableswitch 56 0 2 #[25, 34, 45], 25) := by decide +kernel
theorem d_Sp_loose_92 : decode b_Sp_loose 92 = .ok (.aload_n 0, 1) := by decide +kernel
theorem d_Sp_loose_93 : decode b_Sp_loose 93 = .ok (.getfield 26, 3) := by decide +kernel
theorem d_Sp_loose_96 : decode b_Sp_loose 96 = .ok (.iload_n 3, 1) := by decide +kernel
theorem d_Sp_loose_97 : decode b_Sp_loose 97 = .ok (.invokevirtual 214, 3) := by decide +kernel
theorem d_Sp_loose_100 : decode b_Sp_loose 100 = .ok (.ireturn, 1) := by decide +kernel
theorem d_Sp_loose_101 : decode b_Sp_loose 101 = .ok (.aload_n 0, 1) := by decide +kernel
theorem d_Sp_loose_102 : decode b_Sp_loose 102 = .ok (.getfield 26, 3) := by decide +kernel
theorem d_Sp_loose_105 : decode b_Sp_loose 105 = .ok (.getfield 217, 3) := by decide +kernel
theorem d_Sp_loose_108 : decode b_Sp_loose 108 = .ok (.iload 4, 2) := by decide +kernel
theorem d_Sp_loose_110 : decode b_Sp_loose 110 = .ok (.iaload, 1) := by decide +kernel
theorem d_Sp_loose_111 : decode b_Sp_loose 111 = .ok (.ireturn, 1) := by decide +kernel
theorem d_Sp_loose_112 : decode b_Sp_loose 112 = .ok (.aload_n 0, 1) := by decide +kernel
theorem d_Sp_loose_113 : decode b_Sp_loose 113 = .ok (.getfield 26, 3) := by decide +kernel
theorem d_Sp_loose_116 : decode b_Sp_loose 116 = .ok (.getfield 223, 3) := by decide +kernel
theorem d_Sp_loose_119 : decode b_Sp_loose 119 = .ok (.iload 4, 2) := by decide +kernel
theorem d_Sp_loose_121 : decode b_Sp_loose 121 = .ok (.iaload, 1) := by decide +kernel
theorem d_Sp_loose_122 : decode b_Sp_loose 122 = .ok (.ireturn, 1) := by decide +kernel
theorem d_Sp_loose_123 : decode b_Sp_loose 123 = .ok (.aload_n 0, 1) := by decide +kernel
theorem d_Sp_loose_124 : decode b_Sp_loose 124 = .ok (.getfield 26, 3) := by decide +kernel
theorem d_Sp_loose_127 : decode b_Sp_loose 127 = .ok (.iload_n 3, 1) := by decide +kernel
theorem d_Sp_loose_128 : decode b_Sp_loose 128 = .ok (.invokevirtual 270, 3) := by decide +kernel
theorem d_Sp_loose_131 : decode b_Sp_loose 131 = .ok (.iconst 2, 1) := by decide +kernel
theorem d_Sp_loose_132 : decode b_Sp_loose 132 = .ok (.invokestatic 273, 3) := by decide +kernel
theorem d_Sp_loose_135 : decode b_Sp_loose 135 = .ok (.istore 5, 2) := by decide +kernel
theorem d_Sp_loose_137 : decode b_Sp_loose 137 = .ok (.aload_n 0, 1) := by decide +kernel
theorem d_Sp_loose_138 : decode b_Sp_loose 138 = .ok (.getfield 12, 3) := by decide +kernel
theorem d_Sp_loose_141 : decode b_Sp_loose 141 = .ok (.aload_n 0, 1) := by decide +kernel
theorem d_Sp_loose_142 : decode b_Sp_loose 142 = .ok (.getfield 26, 3) := by decide +kernel
theorem d_Sp_loose_145 : decode b_Sp_loose 145 = .ok (.getfield 217, 3) := by decide +kernel
theorem d_Sp_loose_148 : decode b_Sp_loose 148 = .ok (.iload 4, 2) := by decide +kernel
theorem d_Sp_loose_150 : decode b_Sp_loose 150 = .ok (.iaload, 1) := by decide +kernel
theorem d_Sp_loose_151 : decode b_Sp_loose 151 = .ok (.aload_n 0, 1) := by decide +kernel
theorem d_Sp_loose_152 : decode b_Sp_loose 152 = .ok (.getfield 26, 3) := by decide +kernel
theorem d_Sp_loose_155 : decode b_Sp_loose 155 = .ok (.getfield 223, 3) := by decide +kernel
theorem d_Sp_loose_158 : decode b_Sp_loose 158 = .ok (.iload 4, 2) := by decide +kernel
theorem d_Sp_loose_160 : decode b_Sp_loose 160 = .ok (.iaload, 1) := by decide +kernel
theorem d_Sp_loose_161 : decode b_Sp_loose 161 = .ok (.iload 5, 2) := by decide +kernel
theorem d_Sp_loose_163 : decode b_Sp_loose 163 = .ok (.invokevirtual 276, 3) := by decide +kernel
theorem d_Sp_loose_166 : decode b_Sp_loose 166 = .ok (.ireturn, 1) := by decide +kernel
abbrev wl_Sp_loose (a_0 : Nat) (a_0_lines : Nat) (a_0_lines_lowX : Nat) (a_0_lines_lowY : Nat) (a_0_lines_highX : Nat) (a_0_lines_highY : Nat) (a_0_net : Nat) (a_0_net_pointX : Nat) (a_0_net_pointY : Nat) (a_0_net_looseSides : Nat) (a_0_net_pieceLine : Nat) (a_0_net_begins : Nat) (a_0_net_directions : Nat) (b_0_flood : Nat) (b_0_loops : Nat) (b_0_common : Nat) (b_0_names : Nat) (b_0_ways : Nat) (b_0_marked : Nat) (b_0_lines_thickness : Nat) (b_0_lines_doors : Nat) (b_0_lines_doorFrom : Nat) (b_0_lines_doorTo : Nat) (b_0_net_sidesOut : Nat) (b_0_net_leftSpaces : Nat) (b_0_net_weights : Nat) (b_0_net_pointAt : Nat) (cI : ClassId) (r_0_now : Nat) (r_0_before : Nat) (v_0_runs : Int32) (v_0_stale : Int32) (v_0_lines_count : Int32) (f_0_lines_lowX : Nat → Int32) (f_0_lines_lowY : Nat → Int32) (f_0_lines_highX : Nat → Int32) (f_0_lines_highY : Nat → Int32) (v_0_net_points : Int32) (v_0_net_pieces : Int32) (v_0_net_looseEnds : Int32) (f_0_net_pointX : Nat → Int32) (f_0_net_pointY : Nat → Int32) (f_0_net_looseSides : Nat → Int32) (f_0_net_pieceLine : Nat → Int32) (f_0_net_begins : Nat → Int32) (f_0_net_directions : Nat → Int32) : va_W := [(a_0, .inr (0, [.ref a_0_lines, .ref b_0_flood, .ref a_0_net, .ref b_0_loops, .ref b_0_common, .ref b_0_names, .ref b_0_ways, .ref b_0_marked, .ref r_0_now, .ref r_0_before, .int v_0_runs, .int v_0_stale])), (a_0_lines, .inr (1, [.ref a_0_lines_lowX, .ref a_0_lines_lowY, .ref a_0_lines_highX, .ref a_0_lines_highY, .ref b_0_lines_thickness, .ref b_0_lines_doors, .ref b_0_lines_doorFrom, .ref b_0_lines_doorTo, .int v_0_lines_count])), (a_0_lines_lowX, .inl (cI, 20, .inl f_0_lines_lowX)), (a_0_lines_lowY, .inl (cI, 20, .inl f_0_lines_lowY)), (a_0_lines_highX, .inl (cI, 20, .inl f_0_lines_highX)), (a_0_lines_highY, .inl (cI, 20, .inl f_0_lines_highY)), (a_0_net, .inr (3, [.ref a_0_net_pointX, .ref a_0_net_pointY, .ref a_0_net_looseSides, .int v_0_net_points, .int v_0_net_pieces, .int v_0_net_looseEnds, .ref b_0_net_sidesOut, .ref a_0_net_pieceLine, .ref a_0_net_begins, .ref a_0_net_directions, .ref b_0_net_leftSpaces, .ref b_0_net_weights, .ref b_0_net_pointAt])), (a_0_net_pointX, .inl (cI, 140, .inl f_0_net_pointX)), (a_0_net_pointY, .inl (cI, 140, .inl f_0_net_pointY)), (a_0_net_looseSides, .inl (cI, 40, .inl f_0_net_looseSides)), (a_0_net_pieceLine, .inl (cI, 220, .inl f_0_net_pieceLine)), (a_0_net_begins, .inl (cI, 440, .inl f_0_net_begins)), (a_0_net_directions, .inl (cI, 440, .inl f_0_net_directions))]
def m_Sp_loose (p1 : Int32) (p2 : Int32) (v_0_stale : Int32) (v_0_lines_count : Int32) (f_0_lines_lowX : Nat → Int32) (f_0_lines_lowY : Nat → Int32) (f_0_lines_highX : Nat → Int32) (f_0_lines_highY : Nat → Int32) (v_0_net_looseEnds : Int32) (f_0_net_pointX : Nat → Int32) (f_0_net_pointY : Nat → Int32) (f_0_net_looseSides : Nat → Int32) (f_0_net_pieceLine : Nat → Int32) (f_0_net_begins : Nat → Int32) (f_0_net_directions : Nat → Int32) : Option (Sum Nat (Int32)) :=
  if 0 ≤ p1 then (
    bx0 (m_Sp_needBetween p2 0 3) <|
    bx0 (m_Sp_needFreshRun v_0_stale) <|
    if p1 < v_0_net_looseEnds then (
      gI p1 40 <|
      lt_ (f_0_net_looseSides p1.toNatClampNeg) fun x10 =>
      bd1 (m_Ne_beginningOf x10 f_0_net_begins) fun r11 =>
      if p2 = 0 then (
        bd1 (m_Ne_lineOf x10 f_0_net_pieceLine) fun r14 =>
        some (Sum.inr r14))
      else (
        if p2 = 1 then (
          gI r11 140 <|
          some (Sum.inr (f_0_net_pointX r11.toNatClampNeg)))
        else (
          if p2 = 2 then (
            gI r11 140 <|
            some (Sum.inr (f_0_net_pointY r11.toNatClampNeg)))
          else (
            bd1 (m_Ne_directionOf x10 f_0_net_directions) fun r20 =>
            bd1 (m_Sp_turned r20 2) fun r22 =>
            gI r11 140 <|
            gI r11 140 <|
            bd1 (m_Li_reach (f_0_net_pointX r11.toNatClampNeg) (f_0_net_pointY r11.toNatClampNeg) r22 v_0_lines_count f_0_lines_lowX f_0_lines_lowY f_0_lines_highX f_0_lines_highY) fun r26 =>
            some (Sum.inr r26)))))
    else (
      some (Sum.inl 1)))
  else (
    some (Sum.inl 1))

set_option maxHeartbeats 4000000 in
set_option maxRecDepth 100000 in
theorem t_Sp_loose {p : Program} {l : Launch} {e : Env} {s : State} {m : MethodId} {args : Array Value} {below : List Frame} {meth : Method} {c : Code} {A : Nat → Prop} {dC : Nat → ClassId} {dI : Nat → Nat → Nat} {cI cZ cJ : ClassId} {Qc : Array Value → State → Outcome → State → Prop} {free : Addr → Prop} (a_0 a_0_lines a_0_lines_lowX a_0_lines_lowY a_0_lines_highX a_0_lines_highY a_0_net a_0_net_pointX a_0_net_pointY a_0_net_looseSides a_0_net_pieceLine a_0_net_begins a_0_net_directions b_0_flood b_0_loops b_0_common b_0_names b_0_ways b_0_marked b_0_lines_thickness b_0_lines_doors b_0_lines_doorFrom b_0_lines_doorTo b_0_net_sidesOut b_0_net_leftSpaces b_0_net_weights b_0_net_pointAt : Nat) (r_0_now : Nat) (r_0_before : Nat) (v_0_runs : Int32) (v_0_stale : Int32) (v_0_lines_count : Int32) (f_0_lines_lowX : Nat → Int32) (f_0_lines_lowY : Nat → Int32) (f_0_lines_highX : Nat → Int32) (f_0_lines_highY : Nat → Int32) (v_0_net_points : Int32) (v_0_net_pieces : Int32) (v_0_net_looseEnds : Int32) (f_0_net_pointX : Nat → Int32) (f_0_net_pointY : Nat → Int32) (f_0_net_looseSides : Nat → Int32) (f_0_net_pieceLine : Nat → Int32) (f_0_net_begins : Nat → Int32) (f_0_net_directions : Nat → Int32) (p1 : Int32) (p2 : Int32) (Z : Sum Nat (Int32)) (htr : l.stackTraces = false) (hX : TX A s s.heap) (hout : c.exceptionTable.toList = []) (hlocks : meth.locks = false) (hx : p.tables.exec = Jvm.exec) (hb : c.code = b_Sp_loose) (hml : c.maxLocals = 6) (hown : s.vm.findClass "SpaceCycles" = some m.cls) (hts : ∀ w ∈ w_Sp_loose, w.before args s = true) (hK : va_K (dC, dI) vwCl [(cI, .int), (cZ, .boolean), (cJ, .long)] s) (hN : NX s) (hA : ∀ q : Nat, s.heap.size ≤ q → A q)
    (hret : ∀ r : Int32, Z = Sum.inr r → ∀ (pc : Nat) (H : Heap) (locs : List Loc) (ls : Array Slot), decode b_Sp_loose pc = .ok (.ireturn, 1) → va_P (dC, dI) vwCl (wl_Sp_loose a_0 a_0_lines a_0_lines_lowX a_0_lines_lowY a_0_lines_highX a_0_lines_highY a_0_net a_0_net_pointX a_0_net_pointY a_0_net_looseSides a_0_net_pieceLine a_0_net_begins a_0_net_directions b_0_flood b_0_loops b_0_common b_0_names b_0_ways b_0_marked b_0_lines_thickness b_0_lines_doors b_0_lines_doorFrom b_0_lines_doorTo b_0_net_sidesOut b_0_net_leftSpaces b_0_net_weights b_0_net_pointAt cI r_0_now r_0_before v_0_runs v_0_stale v_0_lines_count f_0_lines_lowX f_0_lines_lowY f_0_lines_highX f_0_lines_highY v_0_net_points v_0_net_pieces v_0_net_looseEnds f_0_net_pointX f_0_net_pointY f_0_net_looseSides f_0_net_pieceLine f_0_net_begins f_0_net_directions) H → va_D A (wl_Sp_loose a_0 a_0_lines a_0_lines_lowX a_0_lines_lowY a_0_lines_highX a_0_lines_highY a_0_net a_0_net_pointX a_0_net_pointY a_0_net_looseSides a_0_net_pieceLine a_0_net_begins a_0_net_directions b_0_flood b_0_loops b_0_common b_0_names b_0_ways b_0_marked b_0_lines_thickness b_0_lines_doors b_0_lines_doorFrom b_0_lines_doorTo b_0_net_sidesOut b_0_net_leftSpaces b_0_net_weights b_0_net_pointAt cI r_0_now r_0_before v_0_runs v_0_stale v_0_lines_count f_0_lines_lowX f_0_lines_lowY f_0_lines_highX f_0_lines_highY v_0_net_points v_0_net_pieces v_0_net_looseEnds f_0_net_pointX f_0_net_pointY f_0_net_looseSides f_0_net_pieceLine f_0_net_begins f_0_net_directions) → va_S A s.heap H locs → W p l e rm_Sp_loose s m args below meth c H locs 0 0 (XMQ below Qc (fun E => Z = Sum.inl (xk E)) args s free) (F0 m pc ls [.int r]))
    (hm : m_Sp_loose p1 p2 v_0_stale v_0_lines_count f_0_lines_lowX f_0_lines_lowY f_0_lines_highX f_0_lines_highY v_0_net_looseEnds f_0_net_pointX f_0_net_pointY f_0_net_looseSides f_0_net_pieceLine f_0_net_begins f_0_net_directions = some Z) (hP : va_P (dC, dI) vwCl (wl_Sp_loose a_0 a_0_lines a_0_lines_lowX a_0_lines_lowY a_0_lines_highX a_0_lines_highY a_0_net a_0_net_pointX a_0_net_pointY a_0_net_looseSides a_0_net_pieceLine a_0_net_begins a_0_net_directions b_0_flood b_0_loops b_0_common b_0_names b_0_ways b_0_marked b_0_lines_thickness b_0_lines_doors b_0_lines_doorFrom b_0_lines_doorTo b_0_net_sidesOut b_0_net_leftSpaces b_0_net_weights b_0_net_pointAt cI r_0_now r_0_before v_0_runs v_0_stale v_0_lines_count f_0_lines_lowX f_0_lines_lowY f_0_lines_highX f_0_lines_highY v_0_net_points v_0_net_pieces v_0_net_looseEnds f_0_net_pointX f_0_net_pointY f_0_net_looseSides f_0_net_pieceLine f_0_net_begins f_0_net_directions) s.heap) (hD : va_D A (wl_Sp_loose a_0 a_0_lines a_0_lines_lowX a_0_lines_lowY a_0_lines_highX a_0_lines_highY a_0_net a_0_net_pointX a_0_net_pointY a_0_net_looseSides a_0_net_pieceLine a_0_net_begins a_0_net_directions b_0_flood b_0_loops b_0_common b_0_names b_0_ways b_0_marked b_0_lines_thickness b_0_lines_doors b_0_lines_doorFrom b_0_lines_doorTo b_0_net_sidesOut b_0_net_leftSpaces b_0_net_weights b_0_net_pointAt cI r_0_now r_0_before v_0_runs v_0_stale v_0_lines_count f_0_lines_lowX f_0_lines_lowY f_0_lines_highX f_0_lines_highY v_0_net_points v_0_net_pieces v_0_net_looseEnds f_0_net_pointX f_0_net_pointY f_0_net_looseSides f_0_net_pieceLine f_0_net_begins f_0_net_directions)) (hS : va_S A s.heap s.heap []) : ∀ ls : Array Slot, lv_has ls 6 [(0, .ref a_0), (1, .int p1), (2, .int p2)] → W p l e rm_Sp_loose s m args below meth c s.heap [] 0 0 (XMQ below Qc (fun E => Z = Sum.inl (xk E)) args s free) (F0 m 0 ls []) := by
  intro ls hl
  unfold m_Sp_loose at hm
  refine lv_iload_n hx hb d_Sp_loose_0 rfl (lv_at hl 1 rfl) ?_
  refine lv_if_ge (tgt := 14) hx hb d_Sp_loose_1 (by decide) (fun c1 => ?_) (fun c1 => ?_)
  · replace hm := if_t hm c1
    refine lv_iload_n hx hb d_Sp_loose_14 rfl (lv_at hl 2 rfl) ?_
    refine lv_iconst (v := 0) hx hb d_Sp_loose_15 (by decide) ?_
    refine lv_iconst (v := 3) hx hb d_Sp_loose_16 (by decide) ?_
    obtain ⟨z2, hb3, hz4, hm⟩ := bx0_z hm
    have hPc := hP.sub (ws' := (wl_Sp_needBetween)) [] rfl
    have hDc := hD.sub (ws' := (wl_Sp_needBetween)) [] (by decide) rfl
    have hFc := va_free (wc := (wl_Sp_needBetween)) hD hS hA [] rfl
    refine x_onV (x_runS (As := [.int p2, .int 0, .int 3]) (rest := []) ⟨hx, hb, hml, hown, hts⟩ (c_Sp_needBetween l htr dC dI (cI := cI) (cZ := cZ) (cJ := cJ) s.heap.size p2 0 3 z2 hb3) (va_cwS 3 hts (gl_S k_484 k_483 k_207 k_482) rfl rfl rfl (by decide +kernel) ⟨Nat.le_of_ble_eq_true rfl, Nat.le_of_ble_eq_true rfl⟩) ⟨PPX_blind, fun U hU hW => PPX_at hK hN hX hPc hDc hFc hU hW⟩ rfl rfl hl.1 rfl (lv_room (Nat.le_of_ble_eq_true rfl)) d_Sp_loose_17 ⟨Nat.le_of_ble_eq_true rfl, Nat.le_of_ble_eq_true rfl⟩) hout hlocks (fun E hE => hz4 _ hE) (fun hr => ?_)
    replace hm := hm hr
    refine lv_aload_n hx hb d_Sp_loose_20 rfl (lv_at hl 0 rfl) ?_
    obtain ⟨z5, hb6, hz7, hm⟩ := bx0_z hm
    have hPc := hP.sub (ws' := (wl_Sp_needFreshRun a_0 a_0_lines b_0_flood a_0_net b_0_loops b_0_common b_0_names b_0_ways b_0_marked r_0_now r_0_before v_0_runs v_0_stale)) [0] rfl
    have hDc := hD.sub (ws' := (wl_Sp_needFreshRun a_0 a_0_lines b_0_flood a_0_net b_0_loops b_0_common b_0_names b_0_ways b_0_marked r_0_now r_0_before v_0_runs v_0_stale)) [0] (by decide) rfl
    have hFc := va_free (wc := (wl_Sp_needFreshRun a_0 a_0_lines b_0_flood a_0_net b_0_loops b_0_common b_0_names b_0_ways b_0_marked r_0_now r_0_before v_0_runs v_0_stale)) hD hS hA [0] rfl
    refine x_onV (x_runV (As := []) (rest := []) ⟨hx, hb, hml, hown, hts⟩ (c_Sp_needFreshRun l htr dC dI (cI := cI) (cZ := cZ) (cJ := cJ) a_0 a_0_lines b_0_flood a_0_net b_0_loops b_0_common b_0_names b_0_ways b_0_marked s.heap.size r_0_now r_0_before v_0_runs v_0_stale z5 hb6) (cwV 0 hts (gl_V k_516 k_515 k_514 k_207 k_513) rfl rfl rfl (by decide +kernel) ⟨Nat.le_of_ble_eq_true rfl, Nat.le_of_ble_eq_true rfl⟩) ⟨PPX_blind, va_recv hK hPc (ci := 0) (q0 := 0) rfl rfl, fun U hU hW => PPX_at hK hN hX hPc hDc hFc hU hW⟩ rfl rfl hl.1 rfl (lv_room (Nat.le_of_ble_eq_true rfl)) d_Sp_loose_21 ⟨Nat.le_of_ble_eq_true rfl, Nat.le_of_ble_eq_true rfl⟩) hout hlocks (fun E hE => hz7 _ hE) (fun hr => ?_)
    replace hm := hm hr
    refine lv_iload_n hx hb d_Sp_loose_24 rfl (lv_at hl 1 rfl) ?_
    refine lv_aload_n hx hb d_Sp_loose_25 rfl (lv_at hl 0 rfl) ?_
    refine va_get (D := (dC, dI)) (ci := 0) (v := .ref a_0_net) (C := "SpaceCycles") (T := F_Sp) (N := 12) hx hb hts (in_F i_Sp) hown hK hP 0 rfl rfl 2 (by decide) (hts _ (in_c k_517)) (fun _ h9 => h9) rfl d_Sp_loose_26 ?_
    refine va_get (D := (dC, dI)) (ci := 3) (v := .int v_0_net_looseEnds) (C := "SpaceCycles$Net") (T := F_Ne) (N := 13) hx hb hts (in_F i_Ne) hown hK hP 6 rfl rfl 5 (by decide) (hts _ (in_c k_520)) (fun _ h9 => h9) rfl d_Sp_loose_29 ?_
    refine lv_icmp_lt (tgt := 46) hx hb d_Sp_loose_32 (by decide) (fun c8 => ?_) (fun c8 => ?_)
    · replace hm := if_t hm c8
      refine lv_aload_n hx hb d_Sp_loose_46 rfl (lv_at hl 0 rfl) ?_
      refine va_get (D := (dC, dI)) (ci := 0) (v := .ref a_0_net) (C := "SpaceCycles") (T := F_Sp) (N := 12) hx hb hts (in_F i_Sp) hown hK hP 0 rfl rfl 2 (by decide) (hts _ (in_c k_517)) (fun _ h9 => h9) rfl d_Sp_loose_47 ?_
      refine va_get (D := (dC, dI)) (ci := 3) (v := .ref a_0_net_looseSides) (C := "SpaceCycles$Net") (T := F_Ne) (N := 13) hx hb hts (in_F i_Ne) hown hK hP 6 rfl rfl 2 (by decide) (hts _ (in_c k_584)) (fun _ h9 => h9) rfl d_Sp_loose_50 ?_
      refine lv_iload_n hx hb d_Sp_loose_53 rfl (lv_at hl 1 rfl) ?_
      obtain ⟨hi9, hm⟩ := gI_e hm
      refine va_iald hx hb hK hP 9 0 rfl rfl hi9 d_Sp_loose_54 ?_
      refine lv_topi (fun x10 ex10 => ?_)
      replace hm := lt_el hm ex10
      refine lv_istore_n (lv' := [(3, .int x10), (0, .ref a_0), (1, .int p1), (2, .int p2)]) hx hb d_Sp_loose_55 rfl hl (by decide) rfl (fun ls hl => ?_)
      refine lv_aload_n hx hb d_Sp_loose_56 rfl (lv_at hl 1 rfl) ?_
      refine va_get (D := (dC, dI)) (ci := 0) (v := .ref a_0_net) (C := "SpaceCycles") (T := F_Sp) (N := 12) hx hb hts (in_F i_Sp) hown hK hP 0 rfl rfl 2 (by decide) (hts _ (in_c k_517)) (fun _ h9 => h9) rfl d_Sp_loose_57 ?_
      refine lv_iload_n hx hb d_Sp_loose_60 rfl (lv_at hl 0 rfl) ?_
      obtain ⟨r11, hb12, hm⟩ := bd1_e hm
      have hPc := hP.sub (ws' := (wl_Ne_beginningOf a_0_net a_0_net_begins a_0_net_pointX a_0_net_pointY a_0_net_looseSides b_0_net_sidesOut a_0_net_pieceLine a_0_net_directions b_0_net_leftSpaces b_0_net_weights b_0_net_pointAt cI v_0_net_points v_0_net_pieces v_0_net_looseEnds f_0_net_begins)) [6, 11] rfl
      have hDc := hD.sub (ws' := (wl_Ne_beginningOf a_0_net a_0_net_begins a_0_net_pointX a_0_net_pointY a_0_net_looseSides b_0_net_sidesOut a_0_net_pieceLine a_0_net_directions b_0_net_leftSpaces b_0_net_weights b_0_net_pointAt cI v_0_net_points v_0_net_pieces v_0_net_looseEnds f_0_net_begins)) [6, 11] (by decide) rfl
      refine cl_i (wc' := (wl_Ne_beginningOf a_0_net a_0_net_begins a_0_net_pointX a_0_net_pointY a_0_net_looseSides b_0_net_sidesOut a_0_net_pieceLine a_0_net_directions b_0_net_leftSpaces b_0_net_weights b_0_net_pointAt cI v_0_net_points v_0_net_pieces v_0_net_looseEnds f_0_net_begins)) (va_runV (As := [.int x10]) (rest := []) ⟨hx, hb, hml, hown, hts⟩ (c_Ne_beginningOf l dC dI (cI := cI) (cZ := cZ) (cJ := cJ) a_0_net a_0_net_begins a_0_net_pointX a_0_net_pointY a_0_net_looseSides b_0_net_sidesOut a_0_net_pieceLine a_0_net_directions b_0_net_leftSpaces b_0_net_weights b_0_net_pointAt s.heap.size v_0_net_points v_0_net_pieces v_0_net_looseEnds f_0_net_begins x10 r11 hb12) (cwV 1 hts (gl_V k_547 k_248 k_247 k_145 k_246) rfl rfl rfl (by decide +kernel) ⟨Nat.le_of_ble_eq_true rfl, Nat.le_of_ble_eq_true rfl⟩) ⟨PP_blind, va_recv hK hPc (ci := 3) (q0 := 0) rfl rfl, fun U hU hW => PP_at hK hN hPc hDc hU hW⟩ rfl rfl hl.1 rfl (lv_room (Nat.le_of_ble_eq_true rfl)) d_Sp_loose_61 ⟨Nat.zero_le _, Nat.zero_le _⟩) hP hD hS hA [6, 11] [0, 1, 2, 3, 4, 5, 7, 8, 9, 10, 12] rfl rfl (by decide) (by decide) (fun H locs hP hD hS => ?_)
      have hP : va_P (dC, dI) vwCl (wl_Sp_loose a_0 a_0_lines a_0_lines_lowX a_0_lines_lowY a_0_lines_highX a_0_lines_highY a_0_net a_0_net_pointX a_0_net_pointY a_0_net_looseSides a_0_net_pieceLine a_0_net_begins a_0_net_directions b_0_flood b_0_loops b_0_common b_0_names b_0_ways b_0_marked b_0_lines_thickness b_0_lines_doors b_0_lines_doorFrom b_0_lines_doorTo b_0_net_sidesOut b_0_net_leftSpaces b_0_net_weights b_0_net_pointAt cI r_0_now r_0_before v_0_runs v_0_stale v_0_lines_count f_0_lines_lowX f_0_lines_lowY f_0_lines_highX f_0_lines_highY v_0_net_points v_0_net_pieces v_0_net_looseEnds f_0_net_pointX f_0_net_pointY f_0_net_looseSides f_0_net_pieceLine f_0_net_begins f_0_net_directions) H := hP.sub [0, 1, 2, 3, 4, 5, 11, 6, 7, 8, 9, 12, 10] rfl
      have hD : va_D A (wl_Sp_loose a_0 a_0_lines a_0_lines_lowX a_0_lines_lowY a_0_lines_highX a_0_lines_highY a_0_net a_0_net_pointX a_0_net_pointY a_0_net_looseSides a_0_net_pieceLine a_0_net_begins a_0_net_directions b_0_flood b_0_loops b_0_common b_0_names b_0_ways b_0_marked b_0_lines_thickness b_0_lines_doors b_0_lines_doorFrom b_0_lines_doorTo b_0_net_sidesOut b_0_net_leftSpaces b_0_net_weights b_0_net_pointAt cI r_0_now r_0_before v_0_runs v_0_stale v_0_lines_count f_0_lines_lowX f_0_lines_lowY f_0_lines_highX f_0_lines_highY v_0_net_points v_0_net_pieces v_0_net_looseEnds f_0_net_pointX f_0_net_pointY f_0_net_looseSides f_0_net_pieceLine f_0_net_begins f_0_net_directions) := hD.sub [0, 1, 2, 3, 4, 5, 11, 6, 7, 8, 9, 12, 10] (by decide) rfl
      refine lv_istore (lv' := [(4, .int r11), (3, .int x10), (0, .ref a_0), (1, .int p1), (2, .int p2)]) hx hb d_Sp_loose_64 hl (by decide) rfl (fun ls hl => ?_)
      refine lv_iload_n hx hb d_Sp_loose_66 rfl (lv_at hl 4 rfl) ?_
      by_cases c13 : p2 = 0
      · replace hm := if_t hm c13
        refine lv_tableIn (off := 25) (tgt := 92) hx hb d_Sp_loose_67 (by rw [c13]; decide) (by rw [c13]; decide) (by rw [c13]; rfl) (by decide) ?_
        refine lv_aload_n hx hb d_Sp_loose_92 rfl (lv_at hl 2 rfl) ?_
        refine va_get (D := (dC, dI)) (ci := 0) (v := .ref a_0_net) (C := "SpaceCycles") (T := F_Sp) (N := 12) hx hb hts (in_F i_Sp) hown hK hP 0 rfl rfl 2 (by decide) (hts _ (in_c k_517)) (fun _ h9 => h9) rfl d_Sp_loose_93 ?_
        refine lv_iload_n hx hb d_Sp_loose_96 rfl (lv_at hl 1 rfl) ?_
        obtain ⟨r14, hb15, hm⟩ := bd1_e hm
        have hPc := hP.sub (ws' := (wl_Ne_lineOf a_0_net a_0_net_pieceLine a_0_net_pointX a_0_net_pointY a_0_net_looseSides b_0_net_sidesOut a_0_net_begins a_0_net_directions b_0_net_leftSpaces b_0_net_weights b_0_net_pointAt cI v_0_net_points v_0_net_pieces v_0_net_looseEnds f_0_net_pieceLine)) [6, 10] rfl
        have hDc := hD.sub (ws' := (wl_Ne_lineOf a_0_net a_0_net_pieceLine a_0_net_pointX a_0_net_pointY a_0_net_looseSides b_0_net_sidesOut a_0_net_begins a_0_net_directions b_0_net_leftSpaces b_0_net_weights b_0_net_pointAt cI v_0_net_points v_0_net_pieces v_0_net_looseEnds f_0_net_pieceLine)) [6, 10] (by decide) rfl
        refine cl_i (wc' := (wl_Ne_lineOf a_0_net a_0_net_pieceLine a_0_net_pointX a_0_net_pointY a_0_net_looseSides b_0_net_sidesOut a_0_net_begins a_0_net_directions b_0_net_leftSpaces b_0_net_weights b_0_net_pointAt cI v_0_net_points v_0_net_pieces v_0_net_looseEnds f_0_net_pieceLine)) (va_runV (As := [.int x10]) (rest := []) ⟨hx, hb, hml, hown, hts⟩ (c_Ne_lineOf l dC dI (cI := cI) (cZ := cZ) (cJ := cJ) a_0_net a_0_net_pieceLine a_0_net_pointX a_0_net_pointY a_0_net_looseSides b_0_net_sidesOut a_0_net_begins a_0_net_directions b_0_net_leftSpaces b_0_net_weights b_0_net_pointAt H.size v_0_net_points v_0_net_pieces v_0_net_looseEnds f_0_net_pieceLine x10 r14 hb15) (cwV 1 hts (gl_V k_545 k_215 k_214 k_145 k_213) rfl rfl rfl (by decide +kernel) ⟨Nat.le_of_ble_eq_true rfl, Nat.le_of_ble_eq_true rfl⟩) ⟨PP_blind, va_recv hK hPc (ci := 3) (q0 := 0) rfl rfl, fun U hU hW => PP_at hK hN hPc hDc hU hW⟩ rfl rfl hl.1 rfl (lv_room (Nat.le_of_ble_eq_true rfl)) d_Sp_loose_97 ⟨Nat.zero_le _, Nat.zero_le _⟩) hP hD hS hA [6, 10] [0, 1, 2, 3, 4, 5, 7, 8, 9, 11, 12] rfl rfl (by decide) (by decide) (fun H locs hP hD hS => ?_)
        have hP : va_P (dC, dI) vwCl (wl_Sp_loose a_0 a_0_lines a_0_lines_lowX a_0_lines_lowY a_0_lines_highX a_0_lines_highY a_0_net a_0_net_pointX a_0_net_pointY a_0_net_looseSides a_0_net_pieceLine a_0_net_begins a_0_net_directions b_0_flood b_0_loops b_0_common b_0_names b_0_ways b_0_marked b_0_lines_thickness b_0_lines_doors b_0_lines_doorFrom b_0_lines_doorTo b_0_net_sidesOut b_0_net_leftSpaces b_0_net_weights b_0_net_pointAt cI r_0_now r_0_before v_0_runs v_0_stale v_0_lines_count f_0_lines_lowX f_0_lines_lowY f_0_lines_highX f_0_lines_highY v_0_net_points v_0_net_pieces v_0_net_looseEnds f_0_net_pointX f_0_net_pointY f_0_net_looseSides f_0_net_pieceLine f_0_net_begins f_0_net_directions) H := hP.sub [0, 1, 2, 3, 4, 5, 11, 6, 7, 8, 12, 9, 10] rfl
        have hD : va_D A (wl_Sp_loose a_0 a_0_lines a_0_lines_lowX a_0_lines_lowY a_0_lines_highX a_0_lines_highY a_0_net a_0_net_pointX a_0_net_pointY a_0_net_looseSides a_0_net_pieceLine a_0_net_begins a_0_net_directions b_0_flood b_0_loops b_0_common b_0_names b_0_ways b_0_marked b_0_lines_thickness b_0_lines_doors b_0_lines_doorFrom b_0_lines_doorTo b_0_net_sidesOut b_0_net_leftSpaces b_0_net_weights b_0_net_pointAt cI r_0_now r_0_before v_0_runs v_0_stale v_0_lines_count f_0_lines_lowX f_0_lines_lowY f_0_lines_highX f_0_lines_highY v_0_net_points v_0_net_pieces v_0_net_looseEnds f_0_net_pointX f_0_net_pointY f_0_net_looseSides f_0_net_pieceLine f_0_net_begins f_0_net_directions) := hD.sub [0, 1, 2, 3, 4, 5, 11, 6, 7, 8, 12, 9, 10] (by decide) rfl
        cases hm
        exact hret _ rfl _ H locs ls d_Sp_loose_100 hP hD hS
      · replace hm := if_f hm c13
        by_cases c16 : p2 = 1
        · replace hm := if_t hm c16
          refine lv_tableIn (off := 34) (tgt := 101) hx hb d_Sp_loose_67 (by rw [c16]; decide) (by rw [c16]; decide) (by rw [c16]; rfl) (by decide) ?_
          refine lv_aload_n hx hb d_Sp_loose_101 rfl (lv_at hl 2 rfl) ?_
          refine va_get (D := (dC, dI)) (ci := 0) (v := .ref a_0_net) (C := "SpaceCycles") (T := F_Sp) (N := 12) hx hb hts (in_F i_Sp) hown hK hP 0 rfl rfl 2 (by decide) (hts _ (in_c k_517)) (fun _ h9 => h9) rfl d_Sp_loose_102 ?_
          refine va_get (D := (dC, dI)) (ci := 3) (v := .ref a_0_net_pointX) (C := "SpaceCycles$Net") (T := F_Ne) (N := 13) hx hb hts (in_F i_Ne) hown hK hP 6 rfl rfl 0 (by decide) (hts _ (in_c k_546)) (fun _ h9 => h9) rfl d_Sp_loose_105 ?_
          refine lv_iload hx hb d_Sp_loose_108 (lv_at hl 0 rfl) ?_
          obtain ⟨hi17, hm⟩ := gI_e hm
          refine va_iald hx hb hK hP 7 0 rfl rfl hi17 d_Sp_loose_110 ?_
          cases hm
          exact hret _ rfl _ H locs ls d_Sp_loose_111 hP hD hS
        · replace hm := if_f hm c16
          by_cases c18 : p2 = 2
          · replace hm := if_t hm c18
            refine lv_tableIn (off := 45) (tgt := 112) hx hb d_Sp_loose_67 (by rw [c18]; decide) (by rw [c18]; decide) (by rw [c18]; rfl) (by decide) ?_
            refine lv_aload_n hx hb d_Sp_loose_112 rfl (lv_at hl 2 rfl) ?_
            refine va_get (D := (dC, dI)) (ci := 0) (v := .ref a_0_net) (C := "SpaceCycles") (T := F_Sp) (N := 12) hx hb hts (in_F i_Sp) hown hK hP 0 rfl rfl 2 (by decide) (hts _ (in_c k_517)) (fun _ h9 => h9) rfl d_Sp_loose_113 ?_
            refine va_get (D := (dC, dI)) (ci := 3) (v := .ref a_0_net_pointY) (C := "SpaceCycles$Net") (T := F_Ne) (N := 13) hx hb hts (in_F i_Ne) hown hK hP 6 rfl rfl 1 (by decide) (hts _ (in_c k_548)) (fun _ h9 => h9) rfl d_Sp_loose_116 ?_
            refine lv_iload hx hb d_Sp_loose_119 (lv_at hl 0 rfl) ?_
            obtain ⟨hi19, hm⟩ := gI_e hm
            refine va_iald hx hb hK hP 8 0 rfl rfl hi19 d_Sp_loose_121 ?_
            cases hm
            exact hret _ rfl _ H locs ls d_Sp_loose_122 hP hD hS
          · replace hm := if_f hm c18
            refine lv_tableOut (tgt := 123) hx hb d_Sp_loose_67 (by have e0 := tn (z := 0) c13 (by decide); have e1 := tn (z := 1) c16 (by decide); have e2 := tn (z := 2) c18 (by decide); omega) (by decide) ?_
            refine lv_aload_n hx hb d_Sp_loose_123 rfl (lv_at hl 2 rfl) ?_
            refine va_get (D := (dC, dI)) (ci := 0) (v := .ref a_0_net) (C := "SpaceCycles") (T := F_Sp) (N := 12) hx hb hts (in_F i_Sp) hown hK hP 0 rfl rfl 2 (by decide) (hts _ (in_c k_517)) (fun _ h9 => h9) rfl d_Sp_loose_124 ?_
            refine lv_iload_n hx hb d_Sp_loose_127 rfl (lv_at hl 1 rfl) ?_
            obtain ⟨r20, hb21, hm⟩ := bd1_e hm
            have hPc := hP.sub (ws' := (wl_Ne_directionOf a_0_net a_0_net_directions a_0_net_pointX a_0_net_pointY a_0_net_looseSides b_0_net_sidesOut a_0_net_pieceLine a_0_net_begins b_0_net_leftSpaces b_0_net_weights b_0_net_pointAt cI v_0_net_points v_0_net_pieces v_0_net_looseEnds f_0_net_directions)) [6, 12] rfl
            have hDc := hD.sub (ws' := (wl_Ne_directionOf a_0_net a_0_net_directions a_0_net_pointX a_0_net_pointY a_0_net_looseSides b_0_net_sidesOut a_0_net_pieceLine a_0_net_begins b_0_net_leftSpaces b_0_net_weights b_0_net_pointAt cI v_0_net_points v_0_net_pieces v_0_net_looseEnds f_0_net_directions)) [6, 12] (by decide) rfl
            refine cl_i (wc' := (wl_Ne_directionOf a_0_net a_0_net_directions a_0_net_pointX a_0_net_pointY a_0_net_looseSides b_0_net_sidesOut a_0_net_pieceLine a_0_net_begins b_0_net_leftSpaces b_0_net_weights b_0_net_pointAt cI v_0_net_points v_0_net_pieces v_0_net_looseEnds f_0_net_directions)) (va_runV (As := [.int x10]) (rest := []) ⟨hx, hb, hml, hown, hts⟩ (c_Ne_directionOf l dC dI (cI := cI) (cZ := cZ) (cJ := cJ) a_0_net a_0_net_directions a_0_net_pointX a_0_net_pointY a_0_net_looseSides b_0_net_sidesOut a_0_net_pieceLine a_0_net_begins b_0_net_leftSpaces b_0_net_weights b_0_net_pointAt H.size v_0_net_points v_0_net_pieces v_0_net_looseEnds f_0_net_directions x10 r20 hb21) (cwV 1 hts (gl_V k_588 k_587 k_586 k_145 k_585) rfl rfl rfl (by decide +kernel) ⟨Nat.le_of_ble_eq_true rfl, Nat.le_of_ble_eq_true rfl⟩) ⟨PP_blind, va_recv hK hPc (ci := 3) (q0 := 0) rfl rfl, fun U hU hW => PP_at hK hN hPc hDc hU hW⟩ rfl rfl hl.1 rfl (lv_room (Nat.le_of_ble_eq_true rfl)) d_Sp_loose_128 ⟨Nat.zero_le _, Nat.zero_le _⟩) hP hD hS hA [6, 12] [0, 1, 2, 3, 4, 5, 7, 8, 9, 10, 11] rfl rfl (by decide) (by decide) (fun H locs hP hD hS => ?_)
            have hP : va_P (dC, dI) vwCl (wl_Sp_loose a_0 a_0_lines a_0_lines_lowX a_0_lines_lowY a_0_lines_highX a_0_lines_highY a_0_net a_0_net_pointX a_0_net_pointY a_0_net_looseSides a_0_net_pieceLine a_0_net_begins a_0_net_directions b_0_flood b_0_loops b_0_common b_0_names b_0_ways b_0_marked b_0_lines_thickness b_0_lines_doors b_0_lines_doorFrom b_0_lines_doorTo b_0_net_sidesOut b_0_net_leftSpaces b_0_net_weights b_0_net_pointAt cI r_0_now r_0_before v_0_runs v_0_stale v_0_lines_count f_0_lines_lowX f_0_lines_lowY f_0_lines_highX f_0_lines_highY v_0_net_points v_0_net_pieces v_0_net_looseEnds f_0_net_pointX f_0_net_pointY f_0_net_looseSides f_0_net_pieceLine f_0_net_begins f_0_net_directions) H := hP.sub [0, 1, 2, 3, 4, 5, 11, 6, 7, 8, 9, 10, 12] rfl
            have hD : va_D A (wl_Sp_loose a_0 a_0_lines a_0_lines_lowX a_0_lines_lowY a_0_lines_highX a_0_lines_highY a_0_net a_0_net_pointX a_0_net_pointY a_0_net_looseSides a_0_net_pieceLine a_0_net_begins a_0_net_directions b_0_flood b_0_loops b_0_common b_0_names b_0_ways b_0_marked b_0_lines_thickness b_0_lines_doors b_0_lines_doorFrom b_0_lines_doorTo b_0_net_sidesOut b_0_net_leftSpaces b_0_net_weights b_0_net_pointAt cI r_0_now r_0_before v_0_runs v_0_stale v_0_lines_count f_0_lines_lowX f_0_lines_lowY f_0_lines_highX f_0_lines_highY v_0_net_points v_0_net_pieces v_0_net_looseEnds f_0_net_pointX f_0_net_pointY f_0_net_looseSides f_0_net_pieceLine f_0_net_begins f_0_net_directions) := hD.sub [0, 1, 2, 3, 4, 5, 11, 6, 7, 8, 9, 10, 12] (by decide) rfl
            refine lv_iconst (v := 2) hx hb d_Sp_loose_131 (by decide) ?_
            obtain ⟨r22, hb23, hm⟩ := bd1_e hm
            have hPc := hP.sub (ws' := (wl_Sp_turned)) [] rfl
            have hDc := hD.sub (ws' := (wl_Sp_turned)) [] (by decide) rfl
            refine cl_i (wc' := (wl_Sp_turned)) (va_runS (As := [.int r20, .int 2]) (rest := []) ⟨hx, hb, hml, hown, hts⟩ (c_Sp_turned l dC dI (cI := cI) (cZ := cZ) (cJ := cJ) H.size r20 2 r22 hb23) (va_cwS 2 hts (gl_S k_589 k_206 k_207 k_205) rfl rfl rfl (by decide +kernel) ⟨Nat.le_of_ble_eq_true rfl, Nat.le_of_ble_eq_true rfl⟩) ⟨PP_blind, fun U hU hW => PP_at hK hN hPc hDc hU hW⟩ rfl rfl hl.1 rfl (lv_room (Nat.le_of_ble_eq_true rfl)) d_Sp_loose_132 ⟨Nat.zero_le _, Nat.zero_le _⟩) hP hD hS hA [] [0, 1, 2, 3, 4, 5, 6, 7, 8, 9, 10, 11, 12] rfl rfl (by decide) (by decide) (fun H locs hP hD hS => ?_)
            have hP : va_P (dC, dI) vwCl (wl_Sp_loose a_0 a_0_lines a_0_lines_lowX a_0_lines_lowY a_0_lines_highX a_0_lines_highY a_0_net a_0_net_pointX a_0_net_pointY a_0_net_looseSides a_0_net_pieceLine a_0_net_begins a_0_net_directions b_0_flood b_0_loops b_0_common b_0_names b_0_ways b_0_marked b_0_lines_thickness b_0_lines_doors b_0_lines_doorFrom b_0_lines_doorTo b_0_net_sidesOut b_0_net_leftSpaces b_0_net_weights b_0_net_pointAt cI r_0_now r_0_before v_0_runs v_0_stale v_0_lines_count f_0_lines_lowX f_0_lines_lowY f_0_lines_highX f_0_lines_highY v_0_net_points v_0_net_pieces v_0_net_looseEnds f_0_net_pointX f_0_net_pointY f_0_net_looseSides f_0_net_pieceLine f_0_net_begins f_0_net_directions) H := hP.sub [0, 1, 2, 3, 4, 5, 6, 7, 8, 9, 10, 11, 12] rfl
            have hD : va_D A (wl_Sp_loose a_0 a_0_lines a_0_lines_lowX a_0_lines_lowY a_0_lines_highX a_0_lines_highY a_0_net a_0_net_pointX a_0_net_pointY a_0_net_looseSides a_0_net_pieceLine a_0_net_begins a_0_net_directions b_0_flood b_0_loops b_0_common b_0_names b_0_ways b_0_marked b_0_lines_thickness b_0_lines_doors b_0_lines_doorFrom b_0_lines_doorTo b_0_net_sidesOut b_0_net_leftSpaces b_0_net_weights b_0_net_pointAt cI r_0_now r_0_before v_0_runs v_0_stale v_0_lines_count f_0_lines_lowX f_0_lines_lowY f_0_lines_highX f_0_lines_highY v_0_net_points v_0_net_pieces v_0_net_looseEnds f_0_net_pointX f_0_net_pointY f_0_net_looseSides f_0_net_pieceLine f_0_net_begins f_0_net_directions) := hD.sub [0, 1, 2, 3, 4, 5, 6, 7, 8, 9, 10, 11, 12] (by decide) rfl
            refine lv_istore (lv' := [(5, .int r22), (4, .int r11), (3, .int x10), (0, .ref a_0), (1, .int p1), (2, .int p2)]) hx hb d_Sp_loose_135 hl (by decide) rfl (fun ls hl => ?_)
            refine lv_aload_n hx hb d_Sp_loose_137 rfl (lv_at hl 3 rfl) ?_
            refine va_get (D := (dC, dI)) (ci := 0) (v := .ref a_0_lines) (C := "SpaceCycles") (T := F_Sp) (N := 12) hx hb hts (in_F i_Sp) hown hK hP 0 rfl rfl 0 (by decide) (hts _ (in_c k_466)) (fun _ h9 => h9) rfl d_Sp_loose_138 ?_
            refine lv_aload_n hx hb d_Sp_loose_141 rfl (lv_at hl 3 rfl) ?_
            refine va_get (D := (dC, dI)) (ci := 0) (v := .ref a_0_net) (C := "SpaceCycles") (T := F_Sp) (N := 12) hx hb hts (in_F i_Sp) hown hK hP 0 rfl rfl 2 (by decide) (hts _ (in_c k_517)) (fun _ h9 => h9) rfl d_Sp_loose_142 ?_
            refine va_get (D := (dC, dI)) (ci := 3) (v := .ref a_0_net_pointX) (C := "SpaceCycles$Net") (T := F_Ne) (N := 13) hx hb hts (in_F i_Ne) hown hK hP 6 rfl rfl 0 (by decide) (hts _ (in_c k_546)) (fun _ h9 => h9) rfl d_Sp_loose_145 ?_
            refine lv_iload hx hb d_Sp_loose_148 (lv_at hl 1 rfl) ?_
            obtain ⟨hi24, hm⟩ := gI_e hm
            refine va_iald hx hb hK hP 7 0 rfl rfl hi24 d_Sp_loose_150 ?_
            refine lv_aload_n hx hb d_Sp_loose_151 rfl (lv_at hl 3 rfl) ?_
            refine va_get (D := (dC, dI)) (ci := 0) (v := .ref a_0_net) (C := "SpaceCycles") (T := F_Sp) (N := 12) hx hb hts (in_F i_Sp) hown hK hP 0 rfl rfl 2 (by decide) (hts _ (in_c k_517)) (fun _ h9 => h9) rfl d_Sp_loose_152 ?_
            refine va_get (D := (dC, dI)) (ci := 3) (v := .ref a_0_net_pointY) (C := "SpaceCycles$Net") (T := F_Ne) (N := 13) hx hb hts (in_F i_Ne) hown hK hP 6 rfl rfl 1 (by decide) (hts _ (in_c k_548)) (fun _ h9 => h9) rfl d_Sp_loose_155 ?_
            refine lv_iload hx hb d_Sp_loose_158 (lv_at hl 1 rfl) ?_
            obtain ⟨hi25, hm⟩ := gI_e hm
            refine va_iald hx hb hK hP 8 0 rfl rfl hi25 d_Sp_loose_160 ?_
            refine lv_iload hx hb d_Sp_loose_161 (lv_at hl 0 rfl) ?_
            obtain ⟨r26, hb27, hm⟩ := bd1_e hm
            have hPc := hP.sub (ws' := (wl_Li_reach a_0_lines a_0_lines_lowX a_0_lines_lowY a_0_lines_highX a_0_lines_highY b_0_lines_thickness b_0_lines_doors b_0_lines_doorFrom b_0_lines_doorTo cI v_0_lines_count f_0_lines_lowX f_0_lines_lowY f_0_lines_highX f_0_lines_highY)) [1, 2, 3, 4, 5] rfl
            have hDc := hD.sub (ws' := (wl_Li_reach a_0_lines a_0_lines_lowX a_0_lines_lowY a_0_lines_highX a_0_lines_highY b_0_lines_thickness b_0_lines_doors b_0_lines_doorFrom b_0_lines_doorTo cI v_0_lines_count f_0_lines_lowX f_0_lines_lowY f_0_lines_highX f_0_lines_highY)) [1, 2, 3, 4, 5] (by decide) rfl
            refine cl_i (wc' := (wl_Li_reach a_0_lines a_0_lines_lowX a_0_lines_lowY a_0_lines_highX a_0_lines_highY b_0_lines_thickness b_0_lines_doors b_0_lines_doorFrom b_0_lines_doorTo cI v_0_lines_count f_0_lines_lowX f_0_lines_lowY f_0_lines_highX f_0_lines_highY)) (va_runV (As := [.int (f_0_net_pointX r11.toNatClampNeg), .int (f_0_net_pointY r11.toNatClampNeg), .int r22]) (rest := []) ⟨hx, hb, hml, hown, hts⟩ (c_Li_reach l dC dI (cI := cI) (cZ := cZ) (cJ := cJ) a_0_lines a_0_lines_lowX a_0_lines_lowY a_0_lines_highX a_0_lines_highY b_0_lines_thickness b_0_lines_doors b_0_lines_doorFrom b_0_lines_doorTo H.size v_0_lines_count f_0_lines_lowX f_0_lines_lowY f_0_lines_highX f_0_lines_highY (f_0_net_pointX r11.toNatClampNeg) (f_0_net_pointY r11.toNatClampNeg) r22 r26 hb27) (cwV 3 hts (gl_V k_593 k_592 k_591 k_30 k_590) rfl rfl rfl (by decide +kernel) ⟨Nat.le_of_ble_eq_true rfl, Nat.le_of_ble_eq_true rfl⟩) ⟨PP_blind, va_recv hK hPc (ci := 1) (q0 := 0) rfl rfl, fun U hU hW => PP_at hK hN hPc hDc hU hW⟩ rfl rfl hl.1 rfl (lv_room (Nat.le_of_ble_eq_true rfl)) d_Sp_loose_163 ⟨Nat.zero_le _, Nat.zero_le _⟩) hP hD hS hA [1, 2, 3, 4, 5] [0, 6, 7, 8, 9, 10, 11, 12] rfl rfl (by decide) (by decide) (fun H locs hP hD hS => ?_)
            have hP : va_P (dC, dI) vwCl (wl_Sp_loose a_0 a_0_lines a_0_lines_lowX a_0_lines_lowY a_0_lines_highX a_0_lines_highY a_0_net a_0_net_pointX a_0_net_pointY a_0_net_looseSides a_0_net_pieceLine a_0_net_begins a_0_net_directions b_0_flood b_0_loops b_0_common b_0_names b_0_ways b_0_marked b_0_lines_thickness b_0_lines_doors b_0_lines_doorFrom b_0_lines_doorTo b_0_net_sidesOut b_0_net_leftSpaces b_0_net_weights b_0_net_pointAt cI r_0_now r_0_before v_0_runs v_0_stale v_0_lines_count f_0_lines_lowX f_0_lines_lowY f_0_lines_highX f_0_lines_highY v_0_net_points v_0_net_pieces v_0_net_looseEnds f_0_net_pointX f_0_net_pointY f_0_net_looseSides f_0_net_pieceLine f_0_net_begins f_0_net_directions) H := hP.sub [0, 8, 9, 10, 11, 12, 1, 2, 3, 4, 5, 6, 7] rfl
            have hD : va_D A (wl_Sp_loose a_0 a_0_lines a_0_lines_lowX a_0_lines_lowY a_0_lines_highX a_0_lines_highY a_0_net a_0_net_pointX a_0_net_pointY a_0_net_looseSides a_0_net_pieceLine a_0_net_begins a_0_net_directions b_0_flood b_0_loops b_0_common b_0_names b_0_ways b_0_marked b_0_lines_thickness b_0_lines_doors b_0_lines_doorFrom b_0_lines_doorTo b_0_net_sidesOut b_0_net_leftSpaces b_0_net_weights b_0_net_pointAt cI r_0_now r_0_before v_0_runs v_0_stale v_0_lines_count f_0_lines_lowX f_0_lines_lowY f_0_lines_highX f_0_lines_highY v_0_net_points v_0_net_pieces v_0_net_looseEnds f_0_net_pointX f_0_net_pointY f_0_net_looseSides f_0_net_pieceLine f_0_net_begins f_0_net_directions) := hD.sub [0, 8, 9, 10, 11, 12, 1, 2, 3, 4, 5, 6, 7] (by decide) rfl
            cases hm
            exact hret _ rfl _ H locs ls d_Sp_loose_166 hP hD hS
    · replace hm := if_f hm c8
      cases hm
      obtain ⟨sa, hsa⟩ := hX.text 13 rfl; exact x_throw hx hb htr hown fit_IA fit_up (hts _ (in_c k_464)) (hts _ (in_c k_465)) hsa (hX.atoms hts atoms_IA) (by rw [hml]; exact hl.1) d_Sp_loose_35 d_Sp_loose_38 (Or.inr ⟨d_Sp_loose_39, rfl⟩) d_Sp_loose_42 d_Sp_loose_45 hout rfl (Nat.le_of_ble_eq_true rfl) (Nat.le_of_ble_eq_true rfl) (Nat.le_of_ble_eq_true rfl) (Nat.le_of_ble_eq_true rfl) hlocks
  · replace hm := if_f hm c1
    cases hm
    obtain ⟨sa, hsa⟩ := hX.text 12 rfl; exact x_throw hx hb htr hown fit_IA fit_up (hts _ (in_c k_464)) (hts _ (in_c k_465)) hsa (hX.atoms hts atoms_IA) (by rw [hml]; exact hl.1) d_Sp_loose_4 d_Sp_loose_7 (Or.inl ⟨d_Sp_loose_8, rfl⟩) d_Sp_loose_10 d_Sp_loose_13 hout rfl (Nat.le_of_ble_eq_true rfl) (Nat.le_of_ble_eq_true rfl) (Nat.le_of_ble_eq_true rfl) (Nat.le_of_ble_eq_true rfl) hlocks
set_option maxHeartbeats 4000000 in
set_option maxRecDepth 100000 in
theorem c_Sp_loose (l : Launch) (htr : l.stackTraces = false) (dC : Nat → ClassId) (dI : Nat → Nat → Nat) {cI cZ cJ : ClassId} (a_0 a_0_lines a_0_lines_lowX a_0_lines_lowY a_0_lines_highX a_0_lines_highY a_0_net a_0_net_pointX a_0_net_pointY a_0_net_looseSides a_0_net_pieceLine a_0_net_begins a_0_net_directions b_0_flood b_0_loops b_0_common b_0_names b_0_ways b_0_marked b_0_lines_thickness b_0_lines_doors b_0_lines_doorFrom b_0_lines_doorTo b_0_net_sidesOut b_0_net_leftSpaces b_0_net_weights b_0_net_pointAt : Nat) (sz : Nat) (r_0_now : Nat) (r_0_before : Nat) (v_0_runs : Int32) (v_0_stale : Int32) (v_0_lines_count : Int32) (f_0_lines_lowX : Nat → Int32) (f_0_lines_lowY : Nat → Int32) (f_0_lines_highX : Nat → Int32) (f_0_lines_highY : Nat → Int32) (v_0_net_points : Int32) (v_0_net_pieces : Int32) (v_0_net_looseEnds : Int32) (f_0_net_pointX : Nat → Int32) (f_0_net_pointY : Nat → Int32) (f_0_net_looseSides : Nat → Int32) (f_0_net_pieceLine : Nat → Int32) (f_0_net_begins : Nat → Int32) (f_0_net_directions : Nat → Int32) (p1 : Int32) (p2 : Int32) (Z : Sum Nat (Int32)) (hm : m_Sp_loose p1 p2 v_0_stale v_0_lines_count f_0_lines_lowX f_0_lines_lowY f_0_lines_highX f_0_lines_highY v_0_net_looseEnds f_0_net_pointX f_0_net_pointY f_0_net_looseSides f_0_net_pieceLine f_0_net_begins f_0_net_directions = some Z) : XMet l y_Sp_loose w_Sp_loose rm_Sp_loose (PPX dC dI [(cI, .int), (cZ, .boolean), (cJ, .long)] [.ref a_0, .int p1, .int p2] sz (wl_Sp_loose a_0 a_0_lines a_0_lines_lowX a_0_lines_lowY a_0_lines_highX a_0_lines_highY a_0_net a_0_net_pointX a_0_net_pointY a_0_net_looseSides a_0_net_pieceLine a_0_net_begins a_0_net_directions b_0_flood b_0_loops b_0_common b_0_names b_0_ways b_0_marked b_0_lines_thickness b_0_lines_doors b_0_lines_doorFrom b_0_lines_doorTo b_0_net_sidesOut b_0_net_leftSpaces b_0_net_weights b_0_net_pointAt cI r_0_now r_0_before v_0_runs v_0_stale v_0_lines_count f_0_lines_lowX f_0_lines_lowY f_0_lines_highX f_0_lines_highY v_0_net_points v_0_net_pieces v_0_net_looseEnds f_0_net_pointX f_0_net_pointY f_0_net_looseSides f_0_net_pieceLine f_0_net_begins f_0_net_directions)) (va_Qi (fun (r : Int32) (u : Unit) => Z = Sum.inr r) (fun u t => BB dC dI [(cI, .int), (cZ, .boolean), (cJ, .long)] (va_A (wl_Sp_loose a_0 a_0_lines a_0_lines_lowX a_0_lines_lowY a_0_lines_highX a_0_lines_highY a_0_net a_0_net_pointX a_0_net_pointY a_0_net_looseSides a_0_net_pieceLine a_0_net_begins a_0_net_directions b_0_flood b_0_loops b_0_common b_0_names b_0_ways b_0_marked b_0_lines_thickness b_0_lines_doors b_0_lines_doorFrom b_0_lines_doorTo b_0_net_sidesOut b_0_net_leftSpaces b_0_net_weights b_0_net_pointAt cI r_0_now r_0_before v_0_runs v_0_stale v_0_lines_count f_0_lines_lowX f_0_lines_lowY f_0_lines_highX f_0_lines_highY v_0_net_points v_0_net_pieces v_0_net_looseEnds f_0_net_pointX f_0_net_pointY f_0_net_looseSides f_0_net_pieceLine f_0_net_begins f_0_net_directions) sz) (wl_Sp_loose a_0 a_0_lines a_0_lines_lowX a_0_lines_lowY a_0_lines_highX a_0_lines_highY a_0_net a_0_net_pointX a_0_net_pointY a_0_net_looseSides a_0_net_pieceLine a_0_net_begins a_0_net_directions b_0_flood b_0_loops b_0_common b_0_names b_0_ways b_0_marked b_0_lines_thickness b_0_lines_doors b_0_lines_doorFrom b_0_lines_doorTo b_0_net_sidesOut b_0_net_leftSpaces b_0_net_weights b_0_net_pointAt cI r_0_now r_0_before v_0_runs v_0_stale v_0_lines_count f_0_lines_lowX f_0_lines_lowY f_0_lines_highX f_0_lines_highY v_0_net_points v_0_net_pieces v_0_net_looseEnds f_0_net_pointX f_0_net_pointY f_0_net_looseSides f_0_net_pieceLine f_0_net_begins f_0_net_directions) () t) (va_A (wl_Sp_loose a_0 a_0_lines a_0_lines_lowX a_0_lines_lowY a_0_lines_highX a_0_lines_highY a_0_net a_0_net_pointX a_0_net_pointY a_0_net_looseSides a_0_net_pieceLine a_0_net_begins a_0_net_directions b_0_flood b_0_loops b_0_common b_0_names b_0_ways b_0_marked b_0_lines_thickness b_0_lines_doors b_0_lines_doorFrom b_0_lines_doorTo b_0_net_sidesOut b_0_net_leftSpaces b_0_net_weights b_0_net_pointAt cI r_0_now r_0_before v_0_runs v_0_stale v_0_lines_count f_0_lines_lowX f_0_lines_lowY f_0_lines_highX f_0_lines_highY v_0_net_points v_0_net_pieces v_0_net_looseEnds f_0_net_pointX f_0_net_pointY f_0_net_looseSides f_0_net_pieceLine f_0_net_begins f_0_net_directions) sz)) (fun E => Z = Sum.inl (xk E)) (va_A (wl_Sp_loose a_0 a_0_lines a_0_lines_lowX a_0_lines_lowY a_0_lines_highX a_0_lines_highY a_0_net a_0_net_pointX a_0_net_pointY a_0_net_looseSides a_0_net_pieceLine a_0_net_begins a_0_net_directions b_0_flood b_0_loops b_0_common b_0_names b_0_ways b_0_marked b_0_lines_thickness b_0_lines_doors b_0_lines_doorFrom b_0_lines_doorTo b_0_net_sidesOut b_0_net_leftSpaces b_0_net_weights b_0_net_pointAt cI r_0_now r_0_before v_0_runs v_0_stale v_0_lines_count f_0_lines_lowX f_0_lines_lowY f_0_lines_highX f_0_lines_highY v_0_net_points v_0_net_pieces v_0_net_looseEnds f_0_net_pointX f_0_net_pointY f_0_net_looseSides f_0_net_pieceLine f_0_net_begins f_0_net_directions) sz) := by
  refine XMet.ofW (cc := b_Sp_loose) (maxL := 6) (ret := (some .int)) (by decide) rfl ?_
  intro p e s m args below meth c s₁ B hml hout hv
  obtain ⟨rfl, hsz, hP, hK, hD0, hN, hX⟩ := hv
  subst hsz
  have hl := lv_entry ([.ref a_0, .int p1, .int p2]) (n := 6) (Nat.le_of_ble_eq_true rfl)
  rw [lg_entry_eq]
  generalize (lg_sl ([.ref a_0, .int p1, .int p2]) ++ List.replicate (6 - (lg_sl ([.ref a_0, .int p1, .int p2])).length) Slot.unset).toArray = ls at hl ⊢
  exact t_Sp_loose (A := va_A (wl_Sp_loose a_0 a_0_lines a_0_lines_lowX a_0_lines_lowY a_0_lines_highX a_0_lines_highY a_0_net a_0_net_pointX a_0_net_pointY a_0_net_looseSides a_0_net_pieceLine a_0_net_begins a_0_net_directions b_0_flood b_0_loops b_0_common b_0_names b_0_ways b_0_marked b_0_lines_thickness b_0_lines_doors b_0_lines_doorFrom b_0_lines_doorTo b_0_net_sidesOut b_0_net_leftSpaces b_0_net_weights b_0_net_pointAt cI r_0_now r_0_before v_0_runs v_0_stale v_0_lines_count f_0_lines_lowX f_0_lines_lowY f_0_lines_highX f_0_lines_highY v_0_net_points v_0_net_pieces v_0_net_looseEnds f_0_net_pointX f_0_net_pointY f_0_net_looseSides f_0_net_pieceLine f_0_net_begins f_0_net_directions) s.heap.size) a_0 a_0_lines a_0_lines_lowX a_0_lines_lowY a_0_lines_highX a_0_lines_highY a_0_net a_0_net_pointX a_0_net_pointY a_0_net_looseSides a_0_net_pieceLine a_0_net_begins a_0_net_directions b_0_flood b_0_loops b_0_common b_0_names b_0_ways b_0_marked b_0_lines_thickness b_0_lines_doors b_0_lines_doorFrom b_0_lines_doorTo b_0_net_sidesOut b_0_net_leftSpaces b_0_net_weights b_0_net_pointAt r_0_now r_0_before v_0_runs v_0_stale v_0_lines_count f_0_lines_lowX f_0_lines_lowY f_0_lines_highX f_0_lines_highY v_0_net_points v_0_net_pieces v_0_net_looseEnds f_0_net_pointX f_0_net_pointY f_0_net_looseSides f_0_net_pieceLine f_0_net_begins f_0_net_directions p1 p2 Z htr hX hout B.notSynchronized B.exec B.bytes hml (findClass_of_methodNamed B.named) (atoms_spec (ws := w_Sp_loose) B.pre) hK hN (fun q h => Or.inr h) (fun r hz pc H locs ls hd hP9 hD9 hS => x_ret (W.iret B.exec B.bytes B.returns (fun t ht hW => ⟨⟨r, (), rfl, hz, by rw [ht]; exact hP9, va_K.moved hW.alike hK, hD9⟩, hS.F ht⟩) hS.2.2 hd)) hm hP hD0.self va_S.rf ls hl

theorem k_594 : ((.fieldLink "SpaceCycles" 47 "SpaceCycles" "names" "LSpaceCycles$Names;") : Cond) ∈ gl := gl_i 327 (by decide +kernel) (by decide +kernel)
theorem k_595 : ((.fieldLink "SpaceCycles" 279 "SpaceCycles$Names" "given" "[I") : Cond) ∈ gl := gl_i 245 (by decide +kernel) (by decide +kernel)
-- SpaceCycles.name(II)I: may throw
abbrev b_Sp_name : ByteArray := prog_1_method_16_code
abbrev y_Sp_name : MethodName := ⟨"SpaceCycles", "name", "(II)I"⟩
abbrev w_Sp_name : List Cond := Cond.code y_Sp_name b_Sp_name 4 (some .int) :: gl
abbrev rm_Sp_name : Room := { frames := 9, cells := 1, slots := 6, locals := 222 }
theorem d_Sp_name_0 : decode b_Sp_name 0 = .ok (.aload_n 0, 1) := by decide +kernel
theorem d_Sp_name_1 : decode b_Sp_name 1 = .ok (.iload_n 1, 1) := by decide +kernel
theorem d_Sp_name_2 : decode b_Sp_name 2 = .ok (.invokevirtual 199, 3) := by decide +kernel
theorem d_Sp_name_5 : decode b_Sp_name 5 = .ok (.iload_n 2, 1) := by decide +kernel
theorem d_Sp_name_6 : decode b_Sp_name 6 = .ok (.iconst 0, 1) := by decide +kernel
theorem d_Sp_name_7 : decode b_Sp_name 7 = .ok (.sipush 1000, 3) := by decide +kernel
theorem d_Sp_name_10 : decode b_Sp_name 10 = .ok (.invokestatic 84, 3) := by decide +kernel
theorem d_Sp_name_13 : decode b_Sp_name 13 = .ok (.aload_n 0, 1) := by decide +kernel
theorem d_Sp_name_14 : decode b_Sp_name 14 = .ok (.invokevirtual 184, 3) := by decide +kernel
theorem d_Sp_name_17 : decode b_Sp_name 17 = .ok (.aload_n 0, 1) := by decide +kernel
theorem d_Sp_name_18 : decode b_Sp_name 18 = .ok (.getfield 47, 3) := by decide +kernel
theorem d_Sp_name_21 : decode b_Sp_name 21 = .ok (.getfield 279, 3) := by decide +kernel
theorem d_Sp_name_24 : decode b_Sp_name 24 = .ok (.iload_n 1, 1) := by decide +kernel
theorem d_Sp_name_25 : decode b_Sp_name 25 = .ok (.iaload, 1) := by decide +kernel
theorem d_Sp_name_26 : decode b_Sp_name 26 = .ok (.istore_n 3, 1) := by decide +kernel
theorem d_Sp_name_27 : decode b_Sp_name 27 = .ok (.aload_n 0, 1) := by decide +kernel
theorem d_Sp_name_28 : decode b_Sp_name 28 = .ok (.getfield 47, 3) := by decide +kernel
theorem d_Sp_name_31 : decode b_Sp_name 31 = .ok (.getfield 279, 3) := by decide +kernel
theorem d_Sp_name_34 : decode b_Sp_name 34 = .ok (.iload_n 1, 1) := by decide +kernel
theorem d_Sp_name_35 : decode b_Sp_name 35 = .ok (.iload_n 2, 1) := by decide +kernel
theorem d_Sp_name_36 : decode b_Sp_name 36 = .ok (.iastore, 1) := by decide +kernel
theorem d_Sp_name_37 : decode b_Sp_name 37 = .ok (.iload_n 3, 1) := by decide +kernel
theorem d_Sp_name_38 : decode b_Sp_name 38 = .ok (.ireturn, 1) := by decide +kernel
abbrev wl_Sp_name (a_0 : Nat) (a_0_names : Nat) (a_0_names_given : Nat) (a_0_now : Nat) (b_0_lines : Nat) (b_0_flood : Nat) (b_0_net : Nat) (b_0_loops : Nat) (b_0_common : Nat) (b_0_ways : Nat) (b_0_marked : Nat) (b_0_names_passed : Nat) (b_0_names_shares : Nat) (b_0_now_xs : Nat) (b_0_now_ys : Nat) (b_0_now_cells : Nat) (cI : ClassId) (r_0_now : Nat) (r_0_before : Nat) (v_0_runs : Int32) (v_0_stale : Int32) (f_0_names_given : Nat → Int32) (v_0_now_spaces : Int32) : va_W := [(a_0, .inr (0, [.ref b_0_lines, .ref b_0_flood, .ref b_0_net, .ref b_0_loops, .ref b_0_common, .ref a_0_names, .ref b_0_ways, .ref b_0_marked, .ref r_0_now, .ref r_0_before, .int v_0_runs, .int v_0_stale])), (a_0_names, .inr (6, [.ref a_0_names_given, .ref b_0_names_passed, .ref b_0_names_shares])), (a_0_names_given, .inl (cI, 81, .inl f_0_names_given)), (a_0_now, .inr (8, [.ref b_0_now_xs, .ref b_0_now_ys, .ref b_0_now_cells, .int v_0_now_spaces]))]
def m_Sp_name (p1 : Int32) (p2 : Int32) (v_0_stale : Int32) (f_0_names_given : Nat → Int32) (v_0_now_spaces : Int32) : Option (Sum Nat (Int32 × (Nat → Int32))) :=
  bx0 (m_Sp_needSpace p1 v_0_now_spaces) <|
  bx0 (m_Sp_needBetween p2 0 1000) <|
  bx0 (m_Sp_needFreshRun v_0_stale) <|
  gI p1 81 <|
  lt_ (f_0_names_given p1.toNatClampNeg) fun x11 =>
  gI p1 81 <|
  lt_ (upd f_0_names_given p1.toNatClampNeg p2) fun f13 =>
  some (Sum.inr (x11, f13))

set_option maxHeartbeats 4000000 in
set_option maxRecDepth 100000 in
theorem t_Sp_name {p : Program} {l : Launch} {e : Env} {s : State} {m : MethodId} {args : Array Value} {below : List Frame} {meth : Method} {c : Code} {A : Nat → Prop} {dC : Nat → ClassId} {dI : Nat → Nat → Nat} {cI cZ cJ : ClassId} {Qc : Array Value → State → Outcome → State → Prop} {free : Addr → Prop} (a_0 a_0_names a_0_names_given a_0_now b_0_lines b_0_flood b_0_net b_0_loops b_0_common b_0_ways b_0_marked b_0_names_passed b_0_names_shares b_0_now_xs b_0_now_ys b_0_now_cells : Nat) (r_0_before : Nat) (v_0_runs : Int32) (v_0_stale : Int32) (f_0_names_given : Nat → Int32) (v_0_now_spaces : Int32) (p1 : Int32) (p2 : Int32) (Z : Sum Nat (Int32 × (Nat → Int32))) (htr : l.stackTraces = false) (hX : TX A s s.heap) (hout : c.exceptionTable.toList = []) (hlocks : meth.locks = false) (hx : p.tables.exec = Jvm.exec) (hb : c.code = b_Sp_name) (hml : c.maxLocals = 4) (hown : s.vm.findClass "SpaceCycles" = some m.cls) (hts : ∀ w ∈ w_Sp_name, w.before args s = true) (hK : va_K (dC, dI) vwCl [(cI, .int), (cZ, .boolean), (cJ, .long)] s) (hN : NX s) (hA : ∀ q : Nat, s.heap.size ≤ q → A q)
    (hret : ∀ r : Int32, ∀ u : (Nat → Int32), Z = Sum.inr (r, u) → ∀ (pc : Nat) (H : Heap) (locs : List Loc) (ls : Array Slot), decode b_Sp_name pc = .ok (.ireturn, 1) → va_P (dC, dI) vwCl (wl_Sp_name a_0 a_0_names a_0_names_given a_0_now b_0_lines b_0_flood b_0_net b_0_loops b_0_common b_0_ways b_0_marked b_0_names_passed b_0_names_shares b_0_now_xs b_0_now_ys b_0_now_cells cI a_0_now r_0_before v_0_runs v_0_stale u v_0_now_spaces) H → va_D A (wl_Sp_name a_0 a_0_names a_0_names_given a_0_now b_0_lines b_0_flood b_0_net b_0_loops b_0_common b_0_ways b_0_marked b_0_names_passed b_0_names_shares b_0_now_xs b_0_now_ys b_0_now_cells cI a_0_now r_0_before v_0_runs v_0_stale u v_0_now_spaces) → va_S A s.heap H locs → W p l e rm_Sp_name s m args below meth c H locs 0 0 (XMQ below Qc (fun E => Z = Sum.inl (xk E)) args s free) (F0 m pc ls [.int r]))
    (hm : m_Sp_name p1 p2 v_0_stale f_0_names_given v_0_now_spaces = some Z) (hP : va_P (dC, dI) vwCl (wl_Sp_name a_0 a_0_names a_0_names_given a_0_now b_0_lines b_0_flood b_0_net b_0_loops b_0_common b_0_ways b_0_marked b_0_names_passed b_0_names_shares b_0_now_xs b_0_now_ys b_0_now_cells cI a_0_now r_0_before v_0_runs v_0_stale f_0_names_given v_0_now_spaces) s.heap) (hD : va_D A (wl_Sp_name a_0 a_0_names a_0_names_given a_0_now b_0_lines b_0_flood b_0_net b_0_loops b_0_common b_0_ways b_0_marked b_0_names_passed b_0_names_shares b_0_now_xs b_0_now_ys b_0_now_cells cI a_0_now r_0_before v_0_runs v_0_stale f_0_names_given v_0_now_spaces)) (hS : va_S A s.heap s.heap []) : ∀ ls : Array Slot, lv_has ls 4 [(0, .ref a_0), (1, .int p1), (2, .int p2)] → W p l e rm_Sp_name s m args below meth c s.heap [] 0 0 (XMQ below Qc (fun E => Z = Sum.inl (xk E)) args s free) (F0 m 0 ls []) := by
  intro ls hl
  unfold m_Sp_name at hm
  refine lv_aload_n hx hb d_Sp_name_0 rfl (lv_at hl 0 rfl) ?_
  refine lv_iload_n hx hb d_Sp_name_1 rfl (lv_at hl 1 rfl) ?_
  obtain ⟨z1, hb2, hz3, hm⟩ := bx0_z hm
  have hPc := hP.sub (ws' := (wl_Sp_needSpace a_0 a_0_now b_0_lines b_0_flood b_0_net b_0_loops b_0_common a_0_names b_0_ways b_0_marked b_0_now_xs b_0_now_ys b_0_now_cells a_0_now r_0_before v_0_runs v_0_stale v_0_now_spaces)) [0, 3] rfl
  have hDc := hD.sub (ws' := (wl_Sp_needSpace a_0 a_0_now b_0_lines b_0_flood b_0_net b_0_loops b_0_common a_0_names b_0_ways b_0_marked b_0_now_xs b_0_now_ys b_0_now_cells a_0_now r_0_before v_0_runs v_0_stale v_0_now_spaces)) [0, 3] (by decide) rfl
  have hFc := va_free (wc := (wl_Sp_needSpace a_0 a_0_now b_0_lines b_0_flood b_0_net b_0_loops b_0_common a_0_names b_0_ways b_0_marked b_0_now_xs b_0_now_ys b_0_now_cells a_0_now r_0_before v_0_runs v_0_stale v_0_now_spaces)) hD hS hA [0, 3] rfl
  refine x_onV (x_runV (As := [.int p1]) (rest := []) ⟨hx, hb, hml, hown, hts⟩ (c_Sp_needSpace l htr dC dI (cI := cI) (cZ := cZ) (cJ := cJ) a_0 a_0_now b_0_lines b_0_flood b_0_net b_0_loops b_0_common a_0_names b_0_ways b_0_marked b_0_now_xs b_0_now_ys b_0_now_cells s.heap.size r_0_before v_0_runs v_0_stale v_0_now_spaces p1 z1 hb2) (cwV 1 hts (gl_V k_528 k_527 k_526 k_207 k_525) rfl rfl rfl (by decide +kernel) ⟨Nat.le_of_ble_eq_true rfl, Nat.le_of_ble_eq_true rfl⟩) ⟨PPX_blind, va_recv hK hPc (ci := 0) (q0 := 0) rfl rfl, fun U hU hW => PPX_at hK hN hX hPc hDc hFc hU hW⟩ rfl rfl hl.1 rfl (lv_room (Nat.le_of_ble_eq_true rfl)) d_Sp_name_2 ⟨Nat.le_of_ble_eq_true rfl, Nat.le_of_ble_eq_true rfl⟩) hout hlocks (fun E hE => hz3 _ hE) (fun hr => ?_)
  replace hm := hm hr
  refine lv_iload_n hx hb d_Sp_name_5 rfl (lv_at hl 2 rfl) ?_
  refine lv_iconst (v := 0) hx hb d_Sp_name_6 (by decide) ?_
  refine lv_sipush (v := 1000) hx hb d_Sp_name_7 (by decide) ?_
  obtain ⟨z4, hb5, hz6, hm⟩ := bx0_z hm
  have hPc := hP.sub (ws' := (wl_Sp_needBetween)) [] rfl
  have hDc := hD.sub (ws' := (wl_Sp_needBetween)) [] (by decide) rfl
  have hFc := va_free (wc := (wl_Sp_needBetween)) hD hS hA [] rfl
  refine x_onV (x_runS (As := [.int p2, .int 0, .int 1000]) (rest := []) ⟨hx, hb, hml, hown, hts⟩ (c_Sp_needBetween l htr dC dI (cI := cI) (cZ := cZ) (cJ := cJ) s.heap.size p2 0 1000 z4 hb5) (va_cwS 3 hts (gl_S k_484 k_483 k_207 k_482) rfl rfl rfl (by decide +kernel) ⟨Nat.le_of_ble_eq_true rfl, Nat.le_of_ble_eq_true rfl⟩) ⟨PPX_blind, fun U hU hW => PPX_at hK hN hX hPc hDc hFc hU hW⟩ rfl rfl hl.1 rfl (lv_room (Nat.le_of_ble_eq_true rfl)) d_Sp_name_10 ⟨Nat.le_of_ble_eq_true rfl, Nat.le_of_ble_eq_true rfl⟩) hout hlocks (fun E hE => hz6 _ hE) (fun hr => ?_)
  replace hm := hm hr
  refine lv_aload_n hx hb d_Sp_name_13 rfl (lv_at hl 0 rfl) ?_
  obtain ⟨z7, hb8, hz9, hm⟩ := bx0_z hm
  have hPc := hP.sub (ws' := (wl_Sp_needFreshRun a_0 b_0_lines b_0_flood b_0_net b_0_loops b_0_common a_0_names b_0_ways b_0_marked a_0_now r_0_before v_0_runs v_0_stale)) [0] rfl
  have hDc := hD.sub (ws' := (wl_Sp_needFreshRun a_0 b_0_lines b_0_flood b_0_net b_0_loops b_0_common a_0_names b_0_ways b_0_marked a_0_now r_0_before v_0_runs v_0_stale)) [0] (by decide) rfl
  have hFc := va_free (wc := (wl_Sp_needFreshRun a_0 b_0_lines b_0_flood b_0_net b_0_loops b_0_common a_0_names b_0_ways b_0_marked a_0_now r_0_before v_0_runs v_0_stale)) hD hS hA [0] rfl
  refine x_onV (x_runV (As := []) (rest := []) ⟨hx, hb, hml, hown, hts⟩ (c_Sp_needFreshRun l htr dC dI (cI := cI) (cZ := cZ) (cJ := cJ) a_0 b_0_lines b_0_flood b_0_net b_0_loops b_0_common a_0_names b_0_ways b_0_marked s.heap.size a_0_now r_0_before v_0_runs v_0_stale z7 hb8) (cwV 0 hts (gl_V k_516 k_515 k_514 k_207 k_513) rfl rfl rfl (by decide +kernel) ⟨Nat.le_of_ble_eq_true rfl, Nat.le_of_ble_eq_true rfl⟩) ⟨PPX_blind, va_recv hK hPc (ci := 0) (q0 := 0) rfl rfl, fun U hU hW => PPX_at hK hN hX hPc hDc hFc hU hW⟩ rfl rfl hl.1 rfl (lv_room (Nat.le_of_ble_eq_true rfl)) d_Sp_name_14 ⟨Nat.le_of_ble_eq_true rfl, Nat.le_of_ble_eq_true rfl⟩) hout hlocks (fun E hE => hz9 _ hE) (fun hr => ?_)
  replace hm := hm hr
  refine lv_aload_n hx hb d_Sp_name_17 rfl (lv_at hl 0 rfl) ?_
  refine va_get (D := (dC, dI)) (ci := 0) (v := .ref a_0_names) (C := "SpaceCycles") (T := F_Sp) (N := 12) hx hb hts (in_F i_Sp) hown hK hP 0 rfl rfl 5 (by decide) (hts _ (in_c k_594)) (fun _ h9 => h9) rfl d_Sp_name_18 ?_
  refine va_get (D := (dC, dI)) (ci := 6) (v := .ref a_0_names_given) (C := "SpaceCycles$Names") (T := F_Na) (N := 3) hx hb hts (in_F i_Na) hown hK hP 1 rfl rfl 0 (by decide) (hts _ (in_c k_595)) (fun _ h9 => h9) rfl d_Sp_name_21 ?_
  refine lv_iload_n hx hb d_Sp_name_24 rfl (lv_at hl 1 rfl) ?_
  obtain ⟨hi10, hm⟩ := gI_e hm
  refine va_iald hx hb hK hP 2 0 rfl rfl hi10 d_Sp_name_25 ?_
  refine lv_topi (fun x11 ex11 => ?_)
  replace hm := lt_el hm ex11
  refine lv_istore_n (lv' := [(3, .int x11), (0, .ref a_0), (1, .int p1), (2, .int p2)]) hx hb d_Sp_name_26 rfl hl (by decide) rfl (fun ls hl => ?_)
  refine lv_aload_n hx hb d_Sp_name_27 rfl (lv_at hl 1 rfl) ?_
  refine va_get (D := (dC, dI)) (ci := 0) (v := .ref a_0_names) (C := "SpaceCycles") (T := F_Sp) (N := 12) hx hb hts (in_F i_Sp) hown hK hP 0 rfl rfl 5 (by decide) (hts _ (in_c k_594)) (fun _ h9 => h9) rfl d_Sp_name_28 ?_
  refine va_get (D := (dC, dI)) (ci := 6) (v := .ref a_0_names_given) (C := "SpaceCycles$Names") (T := F_Na) (N := 3) hx hb hts (in_F i_Na) hown hK hP 1 rfl rfl 0 (by decide) (hts _ (in_c k_595)) (fun _ h9 => h9) rfl d_Sp_name_31 ?_
  refine lv_iload_n hx hb d_Sp_name_34 rfl (lv_at hl 2 rfl) ?_
  refine lv_iload_n hx hb d_Sp_name_35 rfl (lv_at hl 3 rfl) ?_
  obtain ⟨hi12, hm⟩ := gI_e hm
  obtain ⟨f13, ef13⟩ : ∃ y : Nat → Int32, y = upd f_0_names_given p1.toNatClampNeg p2 := ⟨_, rfl⟩
  replace hm := lt_el hm ef13
  refine va_iast hx hb hK hP hD hS 2 0 rfl rfl hi12 d_Sp_name_36 (fun H locs hP hD hS => ?_)
  rw [← ef13] at hP hD
  have hP : va_P (dC, dI) vwCl (wl_Sp_name a_0 a_0_names a_0_names_given a_0_now b_0_lines b_0_flood b_0_net b_0_loops b_0_common b_0_ways b_0_marked b_0_names_passed b_0_names_shares b_0_now_xs b_0_now_ys b_0_now_cells cI a_0_now r_0_before v_0_runs v_0_stale f13 v_0_now_spaces) H := hP
  have hD : va_D A (wl_Sp_name a_0 a_0_names a_0_names_given a_0_now b_0_lines b_0_flood b_0_net b_0_loops b_0_common b_0_ways b_0_marked b_0_names_passed b_0_names_shares b_0_now_xs b_0_now_ys b_0_now_cells cI a_0_now r_0_before v_0_runs v_0_stale f13 v_0_now_spaces) := hD
  refine lv_iload_n hx hb d_Sp_name_37 rfl (lv_at hl 0 rfl) ?_
  cases hm
  exact hret _ _ rfl _ H locs ls d_Sp_name_38 hP hD hS
set_option maxHeartbeats 4000000 in
set_option maxRecDepth 100000 in
theorem c_Sp_name (l : Launch) (htr : l.stackTraces = false) (dC : Nat → ClassId) (dI : Nat → Nat → Nat) {cI cZ cJ : ClassId} (a_0 a_0_names a_0_names_given a_0_now b_0_lines b_0_flood b_0_net b_0_loops b_0_common b_0_ways b_0_marked b_0_names_passed b_0_names_shares b_0_now_xs b_0_now_ys b_0_now_cells : Nat) (sz : Nat) (r_0_before : Nat) (v_0_runs : Int32) (v_0_stale : Int32) (f_0_names_given : Nat → Int32) (v_0_now_spaces : Int32) (p1 : Int32) (p2 : Int32) (Z : Sum Nat (Int32 × (Nat → Int32))) (hm : m_Sp_name p1 p2 v_0_stale f_0_names_given v_0_now_spaces = some Z) : XMet l y_Sp_name w_Sp_name rm_Sp_name (PPX dC dI [(cI, .int), (cZ, .boolean), (cJ, .long)] [.ref a_0, .int p1, .int p2] sz (wl_Sp_name a_0 a_0_names a_0_names_given a_0_now b_0_lines b_0_flood b_0_net b_0_loops b_0_common b_0_ways b_0_marked b_0_names_passed b_0_names_shares b_0_now_xs b_0_now_ys b_0_now_cells cI a_0_now r_0_before v_0_runs v_0_stale f_0_names_given v_0_now_spaces)) (va_Qi (fun (r : Int32) (u : (Nat → Int32)) => Z = Sum.inr (r, u)) (fun u t => BB dC dI [(cI, .int), (cZ, .boolean), (cJ, .long)] (va_A (wl_Sp_name a_0 a_0_names a_0_names_given a_0_now b_0_lines b_0_flood b_0_net b_0_loops b_0_common b_0_ways b_0_marked b_0_names_passed b_0_names_shares b_0_now_xs b_0_now_ys b_0_now_cells cI a_0_now r_0_before v_0_runs v_0_stale f_0_names_given v_0_now_spaces) sz) (wl_Sp_name a_0 a_0_names a_0_names_given a_0_now b_0_lines b_0_flood b_0_net b_0_loops b_0_common b_0_ways b_0_marked b_0_names_passed b_0_names_shares b_0_now_xs b_0_now_ys b_0_now_cells cI a_0_now r_0_before v_0_runs v_0_stale u v_0_now_spaces) () t) (va_A (wl_Sp_name a_0 a_0_names a_0_names_given a_0_now b_0_lines b_0_flood b_0_net b_0_loops b_0_common b_0_ways b_0_marked b_0_names_passed b_0_names_shares b_0_now_xs b_0_now_ys b_0_now_cells cI a_0_now r_0_before v_0_runs v_0_stale f_0_names_given v_0_now_spaces) sz)) (fun E => Z = Sum.inl (xk E)) (va_A (wl_Sp_name a_0 a_0_names a_0_names_given a_0_now b_0_lines b_0_flood b_0_net b_0_loops b_0_common b_0_ways b_0_marked b_0_names_passed b_0_names_shares b_0_now_xs b_0_now_ys b_0_now_cells cI a_0_now r_0_before v_0_runs v_0_stale f_0_names_given v_0_now_spaces) sz) := by
  refine XMet.ofW (cc := b_Sp_name) (maxL := 4) (ret := (some .int)) (by decide) rfl ?_
  intro p e s m args below meth c s₁ B hml hout hv
  obtain ⟨rfl, hsz, hP, hK, hD0, hN, hX⟩ := hv
  subst hsz
  have hl := lv_entry ([.ref a_0, .int p1, .int p2]) (n := 4) (Nat.le_of_ble_eq_true rfl)
  rw [lg_entry_eq]
  generalize (lg_sl ([.ref a_0, .int p1, .int p2]) ++ List.replicate (4 - (lg_sl ([.ref a_0, .int p1, .int p2])).length) Slot.unset).toArray = ls at hl ⊢
  exact t_Sp_name (A := va_A (wl_Sp_name a_0 a_0_names a_0_names_given a_0_now b_0_lines b_0_flood b_0_net b_0_loops b_0_common b_0_ways b_0_marked b_0_names_passed b_0_names_shares b_0_now_xs b_0_now_ys b_0_now_cells cI a_0_now r_0_before v_0_runs v_0_stale f_0_names_given v_0_now_spaces) s.heap.size) a_0 a_0_names a_0_names_given a_0_now b_0_lines b_0_flood b_0_net b_0_loops b_0_common b_0_ways b_0_marked b_0_names_passed b_0_names_shares b_0_now_xs b_0_now_ys b_0_now_cells r_0_before v_0_runs v_0_stale f_0_names_given v_0_now_spaces p1 p2 Z htr hX hout B.notSynchronized B.exec B.bytes hml (findClass_of_methodNamed B.named) (atoms_spec (ws := w_Sp_name) B.pre) hK hN (fun q h => Or.inr h) (fun r u hz pc H locs ls hd hP9 hD9 hS => x_ret (W.iret B.exec B.bytes B.returns (fun t ht hW => ⟨⟨r, u, rfl, hz, by rw [ht]; exact hP9, va_K.moved hW.alike hK, hD9⟩, hS.F ht⟩) hS.2.2 hd)) hm hP hD0.self va_S.rf ls hl

-- SpaceCycles.nameOf(I)I: may throw
abbrev b_Sp_nameOf : ByteArray := prog_1_method_17_code
abbrev y_Sp_nameOf : MethodName := ⟨"SpaceCycles", "nameOf", "(I)I"⟩
abbrev w_Sp_nameOf : List Cond := Cond.code y_Sp_nameOf b_Sp_nameOf 2 (some .int) :: gl
abbrev rm_Sp_nameOf : Room := { frames := 9, cells := 1, slots := 6, locals := 221 }
theorem d_Sp_nameOf_0 : decode b_Sp_nameOf 0 = .ok (.aload_n 0, 1) := by decide +kernel
theorem d_Sp_nameOf_1 : decode b_Sp_nameOf 1 = .ok (.iload_n 1, 1) := by decide +kernel
theorem d_Sp_nameOf_2 : decode b_Sp_nameOf 2 = .ok (.invokevirtual 199, 3) := by decide +kernel
theorem d_Sp_nameOf_5 : decode b_Sp_nameOf 5 = .ok (.aload_n 0, 1) := by decide +kernel
theorem d_Sp_nameOf_6 : decode b_Sp_nameOf 6 = .ok (.invokevirtual 184, 3) := by decide +kernel
theorem d_Sp_nameOf_9 : decode b_Sp_nameOf 9 = .ok (.aload_n 0, 1) := by decide +kernel
theorem d_Sp_nameOf_10 : decode b_Sp_nameOf 10 = .ok (.getfield 47, 3) := by decide +kernel
theorem d_Sp_nameOf_13 : decode b_Sp_nameOf 13 = .ok (.getfield 279, 3) := by decide +kernel
theorem d_Sp_nameOf_16 : decode b_Sp_nameOf 16 = .ok (.iload_n 1, 1) := by decide +kernel
theorem d_Sp_nameOf_17 : decode b_Sp_nameOf 17 = .ok (.iaload, 1) := by decide +kernel
theorem d_Sp_nameOf_18 : decode b_Sp_nameOf 18 = .ok (.ireturn, 1) := by decide +kernel
abbrev wl_Sp_nameOf (a_0 : Nat) (a_0_names : Nat) (a_0_names_given : Nat) (a_0_now : Nat) (b_0_lines : Nat) (b_0_flood : Nat) (b_0_net : Nat) (b_0_loops : Nat) (b_0_common : Nat) (b_0_ways : Nat) (b_0_marked : Nat) (b_0_names_passed : Nat) (b_0_names_shares : Nat) (b_0_now_xs : Nat) (b_0_now_ys : Nat) (b_0_now_cells : Nat) (cI : ClassId) (r_0_now : Nat) (r_0_before : Nat) (v_0_runs : Int32) (v_0_stale : Int32) (f_0_names_given : Nat → Int32) (v_0_now_spaces : Int32) : va_W := [(a_0, .inr (0, [.ref b_0_lines, .ref b_0_flood, .ref b_0_net, .ref b_0_loops, .ref b_0_common, .ref a_0_names, .ref b_0_ways, .ref b_0_marked, .ref r_0_now, .ref r_0_before, .int v_0_runs, .int v_0_stale])), (a_0_names, .inr (6, [.ref a_0_names_given, .ref b_0_names_passed, .ref b_0_names_shares])), (a_0_names_given, .inl (cI, 81, .inl f_0_names_given)), (a_0_now, .inr (8, [.ref b_0_now_xs, .ref b_0_now_ys, .ref b_0_now_cells, .int v_0_now_spaces]))]
def m_Sp_nameOf (p1 : Int32) (v_0_stale : Int32) (f_0_names_given : Nat → Int32) (v_0_now_spaces : Int32) : Option (Sum Nat (Int32)) :=
  bx0 (m_Sp_needSpace p1 v_0_now_spaces) <|
  bx0 (m_Sp_needFreshRun v_0_stale) <|
  gI p1 81 <|
  some (Sum.inr (f_0_names_given p1.toNatClampNeg))

set_option maxHeartbeats 4000000 in
set_option maxRecDepth 100000 in
theorem t_Sp_nameOf {p : Program} {l : Launch} {e : Env} {s : State} {m : MethodId} {args : Array Value} {below : List Frame} {meth : Method} {c : Code} {A : Nat → Prop} {dC : Nat → ClassId} {dI : Nat → Nat → Nat} {cI cZ cJ : ClassId} {Qc : Array Value → State → Outcome → State → Prop} {free : Addr → Prop} (a_0 a_0_names a_0_names_given a_0_now b_0_lines b_0_flood b_0_net b_0_loops b_0_common b_0_ways b_0_marked b_0_names_passed b_0_names_shares b_0_now_xs b_0_now_ys b_0_now_cells : Nat) (r_0_before : Nat) (v_0_runs : Int32) (v_0_stale : Int32) (f_0_names_given : Nat → Int32) (v_0_now_spaces : Int32) (p1 : Int32) (Z : Sum Nat (Int32)) (htr : l.stackTraces = false) (hX : TX A s s.heap) (hout : c.exceptionTable.toList = []) (hlocks : meth.locks = false) (hx : p.tables.exec = Jvm.exec) (hb : c.code = b_Sp_nameOf) (hml : c.maxLocals = 2) (hown : s.vm.findClass "SpaceCycles" = some m.cls) (hts : ∀ w ∈ w_Sp_nameOf, w.before args s = true) (hK : va_K (dC, dI) vwCl [(cI, .int), (cZ, .boolean), (cJ, .long)] s) (hN : NX s) (hA : ∀ q : Nat, s.heap.size ≤ q → A q)
    (hret : ∀ r : Int32, Z = Sum.inr r → ∀ (pc : Nat) (ls : Array Slot), decode b_Sp_nameOf pc = .ok (.ireturn, 1) → W p l e rm_Sp_nameOf s m args below meth c s.heap [] 0 0 (XMQ below Qc (fun E => Z = Sum.inl (xk E)) args s free) (F0 m pc ls [.int r]))
    (hm : m_Sp_nameOf p1 v_0_stale f_0_names_given v_0_now_spaces = some Z) (hP : va_P (dC, dI) vwCl (wl_Sp_nameOf a_0 a_0_names a_0_names_given a_0_now b_0_lines b_0_flood b_0_net b_0_loops b_0_common b_0_ways b_0_marked b_0_names_passed b_0_names_shares b_0_now_xs b_0_now_ys b_0_now_cells cI a_0_now r_0_before v_0_runs v_0_stale f_0_names_given v_0_now_spaces) s.heap) (hD : va_D A (wl_Sp_nameOf a_0 a_0_names a_0_names_given a_0_now b_0_lines b_0_flood b_0_net b_0_loops b_0_common b_0_ways b_0_marked b_0_names_passed b_0_names_shares b_0_now_xs b_0_now_ys b_0_now_cells cI a_0_now r_0_before v_0_runs v_0_stale f_0_names_given v_0_now_spaces)) (hS : va_S A s.heap s.heap []) : ∀ ls : Array Slot, lv_has ls 2 [(0, .ref a_0), (1, .int p1)] → W p l e rm_Sp_nameOf s m args below meth c s.heap [] 0 0 (XMQ below Qc (fun E => Z = Sum.inl (xk E)) args s free) (F0 m 0 ls []) := by
  intro ls hl
  unfold m_Sp_nameOf at hm
  refine lv_aload_n hx hb d_Sp_nameOf_0 rfl (lv_at hl 0 rfl) ?_
  refine lv_iload_n hx hb d_Sp_nameOf_1 rfl (lv_at hl 1 rfl) ?_
  obtain ⟨z1, hb2, hz3, hm⟩ := bx0_z hm
  have hPc := hP.sub (ws' := (wl_Sp_needSpace a_0 a_0_now b_0_lines b_0_flood b_0_net b_0_loops b_0_common a_0_names b_0_ways b_0_marked b_0_now_xs b_0_now_ys b_0_now_cells a_0_now r_0_before v_0_runs v_0_stale v_0_now_spaces)) [0, 3] rfl
  have hDc := hD.sub (ws' := (wl_Sp_needSpace a_0 a_0_now b_0_lines b_0_flood b_0_net b_0_loops b_0_common a_0_names b_0_ways b_0_marked b_0_now_xs b_0_now_ys b_0_now_cells a_0_now r_0_before v_0_runs v_0_stale v_0_now_spaces)) [0, 3] (by decide) rfl
  have hFc := va_free (wc := (wl_Sp_needSpace a_0 a_0_now b_0_lines b_0_flood b_0_net b_0_loops b_0_common a_0_names b_0_ways b_0_marked b_0_now_xs b_0_now_ys b_0_now_cells a_0_now r_0_before v_0_runs v_0_stale v_0_now_spaces)) hD hS hA [0, 3] rfl
  refine x_onV (x_runV (As := [.int p1]) (rest := []) ⟨hx, hb, hml, hown, hts⟩ (c_Sp_needSpace l htr dC dI (cI := cI) (cZ := cZ) (cJ := cJ) a_0 a_0_now b_0_lines b_0_flood b_0_net b_0_loops b_0_common a_0_names b_0_ways b_0_marked b_0_now_xs b_0_now_ys b_0_now_cells s.heap.size r_0_before v_0_runs v_0_stale v_0_now_spaces p1 z1 hb2) (cwV 1 hts (gl_V k_528 k_527 k_526 k_207 k_525) rfl rfl rfl (by decide +kernel) ⟨Nat.le_of_ble_eq_true rfl, Nat.le_of_ble_eq_true rfl⟩) ⟨PPX_blind, va_recv hK hPc (ci := 0) (q0 := 0) rfl rfl, fun U hU hW => PPX_at hK hN hX hPc hDc hFc hU hW⟩ rfl rfl hl.1 rfl (lv_room (Nat.le_of_ble_eq_true rfl)) d_Sp_nameOf_2 ⟨Nat.le_of_ble_eq_true rfl, Nat.le_of_ble_eq_true rfl⟩) hout hlocks (fun E hE => hz3 _ hE) (fun hr => ?_)
  replace hm := hm hr
  refine lv_aload_n hx hb d_Sp_nameOf_5 rfl (lv_at hl 0 rfl) ?_
  obtain ⟨z4, hb5, hz6, hm⟩ := bx0_z hm
  have hPc := hP.sub (ws' := (wl_Sp_needFreshRun a_0 b_0_lines b_0_flood b_0_net b_0_loops b_0_common a_0_names b_0_ways b_0_marked a_0_now r_0_before v_0_runs v_0_stale)) [0] rfl
  have hDc := hD.sub (ws' := (wl_Sp_needFreshRun a_0 b_0_lines b_0_flood b_0_net b_0_loops b_0_common a_0_names b_0_ways b_0_marked a_0_now r_0_before v_0_runs v_0_stale)) [0] (by decide) rfl
  have hFc := va_free (wc := (wl_Sp_needFreshRun a_0 b_0_lines b_0_flood b_0_net b_0_loops b_0_common a_0_names b_0_ways b_0_marked a_0_now r_0_before v_0_runs v_0_stale)) hD hS hA [0] rfl
  refine x_onV (x_runV (As := []) (rest := []) ⟨hx, hb, hml, hown, hts⟩ (c_Sp_needFreshRun l htr dC dI (cI := cI) (cZ := cZ) (cJ := cJ) a_0 b_0_lines b_0_flood b_0_net b_0_loops b_0_common a_0_names b_0_ways b_0_marked s.heap.size a_0_now r_0_before v_0_runs v_0_stale z4 hb5) (cwV 0 hts (gl_V k_516 k_515 k_514 k_207 k_513) rfl rfl rfl (by decide +kernel) ⟨Nat.le_of_ble_eq_true rfl, Nat.le_of_ble_eq_true rfl⟩) ⟨PPX_blind, va_recv hK hPc (ci := 0) (q0 := 0) rfl rfl, fun U hU hW => PPX_at hK hN hX hPc hDc hFc hU hW⟩ rfl rfl hl.1 rfl (lv_room (Nat.le_of_ble_eq_true rfl)) d_Sp_nameOf_6 ⟨Nat.le_of_ble_eq_true rfl, Nat.le_of_ble_eq_true rfl⟩) hout hlocks (fun E hE => hz6 _ hE) (fun hr => ?_)
  replace hm := hm hr
  refine lv_aload_n hx hb d_Sp_nameOf_9 rfl (lv_at hl 0 rfl) ?_
  refine va_get (D := (dC, dI)) (ci := 0) (v := .ref a_0_names) (C := "SpaceCycles") (T := F_Sp) (N := 12) hx hb hts (in_F i_Sp) hown hK hP 0 rfl rfl 5 (by decide) (hts _ (in_c k_594)) (fun _ h9 => h9) rfl d_Sp_nameOf_10 ?_
  refine va_get (D := (dC, dI)) (ci := 6) (v := .ref a_0_names_given) (C := "SpaceCycles$Names") (T := F_Na) (N := 3) hx hb hts (in_F i_Na) hown hK hP 1 rfl rfl 0 (by decide) (hts _ (in_c k_595)) (fun _ h9 => h9) rfl d_Sp_nameOf_13 ?_
  refine lv_iload_n hx hb d_Sp_nameOf_16 rfl (lv_at hl 1 rfl) ?_
  obtain ⟨hi7, hm⟩ := gI_e hm
  refine va_iald hx hb hK hP 2 0 rfl rfl hi7 d_Sp_nameOf_17 ?_
  cases hm
  exact hret _ rfl _ ls d_Sp_nameOf_18
set_option maxHeartbeats 4000000 in
set_option maxRecDepth 100000 in
theorem c_Sp_nameOf (l : Launch) (htr : l.stackTraces = false) (dC : Nat → ClassId) (dI : Nat → Nat → Nat) {cI cZ cJ : ClassId} (a_0 a_0_names a_0_names_given a_0_now b_0_lines b_0_flood b_0_net b_0_loops b_0_common b_0_ways b_0_marked b_0_names_passed b_0_names_shares b_0_now_xs b_0_now_ys b_0_now_cells : Nat) (sz : Nat) (r_0_before : Nat) (v_0_runs : Int32) (v_0_stale : Int32) (f_0_names_given : Nat → Int32) (v_0_now_spaces : Int32) (p1 : Int32) (Z : Sum Nat (Int32)) (hm : m_Sp_nameOf p1 v_0_stale f_0_names_given v_0_now_spaces = some Z) : XMet l y_Sp_nameOf w_Sp_nameOf rm_Sp_nameOf (PPX dC dI [(cI, .int), (cZ, .boolean), (cJ, .long)] [.ref a_0, .int p1] sz (wl_Sp_nameOf a_0 a_0_names a_0_names_given a_0_now b_0_lines b_0_flood b_0_net b_0_loops b_0_common b_0_ways b_0_marked b_0_names_passed b_0_names_shares b_0_now_xs b_0_now_ys b_0_now_cells cI a_0_now r_0_before v_0_runs v_0_stale f_0_names_given v_0_now_spaces)) (va_Qi (fun (r : Int32) (_ : Unit) => Z = Sum.inr r) (fun _ _ => True) (fun _ => False)) (fun E => Z = Sum.inl (xk E)) (fun _ => False) := by
  refine XMet.ofW (cc := b_Sp_nameOf) (maxL := 2) (ret := (some .int)) (by decide) rfl ?_
  intro p e s m args below meth c s₁ B hml hout hv
  obtain ⟨rfl, hsz, hP, hK, hD0, hN, hX⟩ := hv
  subst hsz
  have hl := lv_entry ([.ref a_0, .int p1]) (n := 2) (Nat.le_of_ble_eq_true rfl)
  rw [lg_entry_eq]
  generalize (lg_sl ([.ref a_0, .int p1]) ++ List.replicate (2 - (lg_sl ([.ref a_0, .int p1])).length) Slot.unset).toArray = ls at hl ⊢
  exact t_Sp_nameOf (A := va_A (wl_Sp_nameOf a_0 a_0_names a_0_names_given a_0_now b_0_lines b_0_flood b_0_net b_0_loops b_0_common b_0_ways b_0_marked b_0_names_passed b_0_names_shares b_0_now_xs b_0_now_ys b_0_now_cells cI a_0_now r_0_before v_0_runs v_0_stale f_0_names_given v_0_now_spaces) s.heap.size) a_0 a_0_names a_0_names_given a_0_now b_0_lines b_0_flood b_0_net b_0_loops b_0_common b_0_ways b_0_marked b_0_names_passed b_0_names_shares b_0_now_xs b_0_now_ys b_0_now_cells r_0_before v_0_runs v_0_stale f_0_names_given v_0_now_spaces p1 Z htr hX hout B.notSynchronized B.exec B.bytes hml (findClass_of_methodNamed B.named) (atoms_spec (ws := w_Sp_nameOf) B.pre) hK hN (fun q h => Or.inr h) (fun r hz pc ls hd => x_ret (W.iret B.exec B.bytes B.returns (fun t ht hW => ⟨⟨r, (), rfl, hz, trivial⟩, by rw [ht]; exact Nat.le_refl _, fun q _ _ => by rw [ht]⟩) (fun q h => by cases h) hd)) hm hP hD0.self va_S.rf ls hl
