-- SpaceCycles$Net.node(II)I
abbrev b_Ne_node : ByteArray := prog_8_method_18_code
abbrev y_Ne_node : MethodName := ⟨"SpaceCycles$Net", "node", "(II)I"⟩
abbrev w_Ne_node : List Cond := Cond.code y_Ne_node b_Ne_node 2 (some .int) :: gl
abbrev rm_Ne_node : Room := { frames := 0, cells := 0, slots := 0, locals := 0 }
theorem d_Ne_node_0 : decode b_Ne_node 0 = .ok (.iload_n 0, 1) := by decide +kernel
theorem d_Ne_node_1 : decode b_Ne_node 1 = .ok (.bipush 40, 2) := by decide +kernel
theorem d_Ne_node_3 : decode b_Ne_node 3 = .ok (.imul, 1) := by decide +kernel
theorem d_Ne_node_4 : decode b_Ne_node 4 = .ok (.iload_n 1, 1) := by decide +kernel
theorem d_Ne_node_5 : decode b_Ne_node 5 = .ok (.iadd, 1) := by decide +kernel
theorem d_Ne_node_6 : decode b_Ne_node 6 = .ok (.ireturn, 1) := by decide +kernel
abbrev wl_Ne_node : va_W := []
def m_Ne_node (p0 : Int32) (p1 : Int32) : Option (Int32) :=
  some ((p0 * 40) + p1)

set_option maxHeartbeats 4000000 in
set_option maxRecDepth 100000 in
theorem t_Ne_node {p : Program} {l : Launch} {e : Env} {s : State} {m : MethodId} {args : Array Value} {below : List Frame} {meth : Method} {c : Code} {A : Nat → Prop} {Q : State → Prop} {dC : Nat → ClassId} {dI : Nat → Nat → Nat} {cI cZ cJ : ClassId}  (p0 : Int32) (p1 : Int32) (R0 : Int32) (hx : p.tables.exec = Jvm.exec) (hb : c.code = b_Ne_node) (hml : c.maxLocals = 2) (hown : s.vm.findClass "SpaceCycles$Net" = some m.cls) (hts : ∀ w ∈ w_Ne_node, w.before args s = true) (hK : va_K (dC, dI) vwCl [(cI, .int), (cZ, .boolean), (cJ, .long)] s) (hN : NX s) (hA : ∀ q : Nat, s.heap.size ≤ q → A q)
    (hret : ∀ (pc : Nat) (H : Heap) (locs : List Loc) (ls : Array Slot), decode b_Ne_node pc = .ok (.ireturn, 1) → va_P (dC, dI) vwCl (wl_Ne_node) H → va_D A (wl_Ne_node) → va_S A s.heap H locs → W p l e rm_Ne_node s m args below meth c H locs 0 0 Q (F0 m pc ls [.int R0]))
    (hm : m_Ne_node p0 p1 = some R0) : ∀ (H : Heap) (locs : List Loc) (ls : Array Slot), va_P (dC, dI) vwCl (wl_Ne_node) H → va_D A (wl_Ne_node) → va_S A s.heap H locs → lv_has ls 2 [(0, .int p0), (1, .int p1)] → W p l e rm_Ne_node s m args below meth c H locs 0 0 Q (F0 m 0 ls []) := by
  intro H locs ls hP hD hS hl
  unfold m_Ne_node at hm
  refine lv_iload_n hx hb d_Ne_node_0 rfl (lv_at hl 0 rfl) ?_
  refine lv_bipush (v := 40) hx hb d_Ne_node_1 (by decide) ?_
  refine lv_imul hx hb d_Ne_node_3 ?_
  refine lv_iload_n hx hb d_Ne_node_4 rfl (lv_at hl 1 rfl) ?_
  refine lv_iadd hx hb d_Ne_node_5 ?_
  cases hm
  exact hret _ H locs ls d_Ne_node_6 hP hD hS
set_option maxHeartbeats 4000000 in
set_option maxRecDepth 100000 in
theorem c_Ne_node (l : Launch) (dC : Nat → ClassId) (dI : Nat → Nat → Nat) {cI cZ cJ : ClassId} (sz : Nat)  (p0 : Int32) (p1 : Int32) (R0 : Int32) (hm : m_Ne_node p0 p1 = some R0) : Met l y_Ne_node w_Ne_node rm_Ne_node (PP dC dI [(cI, .int), (cZ, .boolean), (cJ, .long)] [.int p0, .int p1] sz (wl_Ne_node)) (QI dC dI [(cI, .int), (cZ, .boolean), (cJ, .long)] sz (wl_Ne_node) (wl_Ne_node) R0) 0 0 (va_A (wl_Ne_node) sz) := by
  refine Met.ofW (cc := b_Ne_node) (maxL := 2) (ret := (some .int)) (by decide) rfl ?_
  intro p e s m args below meth c s₁ B hml hv
  obtain ⟨rfl, hsz, hP, hK, hD0, hN⟩ := hv
  subst hsz
  have hl := lv_entry ([.int p0, .int p1]) (n := 2) (Nat.le_of_ble_eq_true rfl)
  rw [lg_entry_eq]
  generalize (lg_sl ([.int p0, .int p1]) ++ List.replicate (2 - (lg_sl ([.int p0, .int p1])).length) Slot.unset).toArray = ls at hl ⊢
  exact t_Ne_node p0 p1 R0 B.exec B.bytes hml (findClass_of_methodNamed B.named) (atoms_spec (ws := w_Ne_node) B.pre) hK hN (fun q h => Or.inr h) (fun pc H locs ls hd hP9 hD9 hS => W.iret B.exec B.bytes B.returns (fun t ht hW => ⟨⟨_, (), rfl, rfl, by rw [ht]; exact hP9, va_K.moved hW.alike hK, hD9⟩, hS.F ht⟩) hS.2.2 hd) hm s.heap [] ls hP hD0.self va_S.rf hl

theorem k_140 : ((.fieldLink "SpaceCycles$Net" 100 "SpaceCycles$Grid" "xs" "LSpaceCycles$Cuts;") : Cond) ∈ gl := gl_i 299 (by decide +kernel) (by decide +kernel)
theorem k_141 : ((.fieldLink "SpaceCycles$Net" 106 "SpaceCycles$Cuts" "count" "I") : Cond) ∈ gl := gl_i 290 (by decide +kernel) (by decide +kernel)
theorem k_142 : ((.fieldLink "SpaceCycles$Net" 46 "SpaceCycles$Net" "weights" "[I") : Cond) ∈ gl := gl_i 141 (by decide +kernel) (by decide +kernel)
theorem k_143 : ((.code ⟨"SpaceCycles$Net", "node", "(II)I"⟩ prog_8_method_18_code 2 (some .int)) : Cond) ∈ gl := gl_i 808 (by decide +kernel) (by decide +kernel)
theorem k_144 : ((.static ⟨"SpaceCycles$Net", "node", "(II)I"⟩) : Cond) ∈ gl := gl_i 807 (by decide +kernel) (by decide +kernel)
theorem k_145 : ((.initialized "SpaceCycles$Net") : Cond) ∈ gl := gl_i 4 (by decide +kernel) (by decide +kernel)
theorem k_146 : ((.methodLink "SpaceCycles$Net" 109 ⟨"SpaceCycles$Net", "node", "(II)I"⟩) : Cond) ∈ gl := gl_i 806 (by decide +kernel) (by decide +kernel)
theorem k_147 : ((.fieldLink "SpaceCycles$Net" 112 "SpaceCycles$Grid" "ys" "LSpaceCycles$Cuts;") : Cond) ∈ gl := gl_i 303 (by decide +kernel) (by decide +kernel)
theorem k_148 : ((.methodLink "SpaceCycles$Net" 115 ⟨"java/util/Arrays", "fill", "([IIII)V"⟩) : Cond) ∈ gl := gl_i 809 (by decide +kernel) (by decide +kernel)
theorem k_149 : ((.fieldLink "SpaceCycles$Net" 60 "SpaceCycles$Lines" "count" "I") : Cond) ∈ gl := gl_i 75 (by decide +kernel) (by decide +kernel)
theorem k_150 : ((.fieldLink "SpaceCycles$Net" 121 "SpaceCycles$Lines" "lowX" "[I") : Cond) ∈ gl := gl_i 48 (by decide +kernel) (by decide +kernel)
theorem k_151 : ((.methodLink "SpaceCycles$Net" 124 ⟨"SpaceCycles$Cuts", "indexOf", "(I)I"⟩) : Cond) ∈ gl := gl_i 810 (by decide +kernel) (by decide +kernel)
theorem k_152 : ((.fieldLink "SpaceCycles$Net" 127 "SpaceCycles$Lines" "lowY" "[I") : Cond) ∈ gl := gl_i 54 (by decide +kernel) (by decide +kernel)
theorem k_153 : ((.fieldLink "SpaceCycles$Net" 130 "SpaceCycles$Lines" "highX" "[I") : Cond) ∈ gl := gl_i 59 (by decide +kernel) (by decide +kernel)
theorem k_154 : ((.fieldLink "SpaceCycles$Net" 133 "SpaceCycles$Lines" "highY" "[I") : Cond) ∈ gl := gl_i 64 (by decide +kernel) (by decide +kernel)
theorem k_155 : ((.code ⟨"SpaceCycles$Lines", "isFlat", "(I)Z"⟩ prog_6_method_3_code 2 (some .boolean)) : Cond) ∈ gl := gl_i 814 (by decide +kernel) (by decide +kernel)
theorem k_156 : ((.selects "SpaceCycles$Lines" ⟨"SpaceCycles$Lines", "isFlat", "(I)Z"⟩ ⟨"SpaceCycles$Lines", "isFlat", "(I)Z"⟩) : Cond) ∈ gl := gl_i 813 (by decide +kernel) (by decide +kernel)
theorem k_157 : ((.instanceMethod ⟨"SpaceCycles$Lines", "isFlat", "(I)Z"⟩) : Cond) ∈ gl := gl_i 812 (by decide +kernel) (by decide +kernel)
theorem k_158 : ((.methodLink "SpaceCycles$Net" 136 ⟨"SpaceCycles$Lines", "isFlat", "(I)Z"⟩) : Cond) ∈ gl := gl_i 811 (by decide +kernel) (by decide +kernel)
-- SpaceCycles$Net.weigh(LSpaceCycles$Lines;LSpaceCycles$Grid;)V
abbrev b_Ne_weigh : ByteArray := prog_8_method_19_code
abbrev y_Ne_weigh : MethodName := ⟨"SpaceCycles$Net", "weigh", "(LSpaceCycles$Lines;LSpaceCycles$Grid;)V"⟩
abbrev w_Ne_weigh : List Cond := Cond.code y_Ne_weigh b_Ne_weigh 8 none :: gl
abbrev rm_Ne_weigh : Room := { frames := 2, cells := 0, slots := 0, locals := 85 }
theorem d_Ne_weigh_0 : decode b_Ne_weigh 0 = .ok (.iconst 0, 1) := by decide +kernel
theorem d_Ne_weigh_1 : decode b_Ne_weigh 1 = .ok (.istore_n 3, 1) := by decide +kernel
theorem d_Ne_weigh_2 : decode b_Ne_weigh 2 = .ok (.iload_n 3, 1) := by decide +kernel
theorem d_Ne_weigh_3 : decode b_Ne_weigh 3 = .ok (.aload_n 2, 1) := by decide +kernel
theorem d_Ne_weigh_4 : decode b_Ne_weigh 4 = .ok (.getfield 100, 3) := by decide +kernel
theorem d_Ne_weigh_7 : decode b_Ne_weigh 7 = .ok (.getfield 106, 3) := by decide +kernel
theorem d_Ne_weigh_10 : decode b_Ne_weigh 10 = .ok (.if_icmp .ge 33, 3) := by decide +kernel
theorem d_Ne_weigh_13 : decode b_Ne_weigh 13 = .ok (.aload_n 0, 1) := by decide +kernel
theorem d_Ne_weigh_14 : decode b_Ne_weigh 14 = .ok (.getfield 46, 3) := by decide +kernel
theorem d_Ne_weigh_17 : decode b_Ne_weigh 17 = .ok (.iload_n 3, 1) := by decide +kernel
theorem d_Ne_weigh_18 : decode b_Ne_weigh 18 = .ok (.iconst 0, 1) := by decide +kernel
theorem d_Ne_weigh_19 : decode b_Ne_weigh 19 = .ok (.invokestatic 109, 3) := by decide +kernel
theorem d_Ne_weigh_22 : decode b_Ne_weigh 22 = .ok (.iload_n 3, 1) := by decide +kernel
theorem d_Ne_weigh_23 : decode b_Ne_weigh 23 = .ok (.aload_n 2, 1) := by decide +kernel
theorem d_Ne_weigh_24 : decode b_Ne_weigh 24 = .ok (.getfield 112, 3) := by decide +kernel
theorem d_Ne_weigh_27 : decode b_Ne_weigh 27 = .ok (.getfield 106, 3) := by decide +kernel
theorem d_Ne_weigh_30 : decode b_Ne_weigh 30 = .ok (.invokestatic 109, 3) := by decide +kernel
theorem d_Ne_weigh_33 : decode b_Ne_weigh 33 = .ok (.iconst 0, 1) := by decide +kernel
theorem d_Ne_weigh_34 : decode b_Ne_weigh 34 = .ok (.invokestatic 115, 3) := by decide +kernel
theorem d_Ne_weigh_37 : decode b_Ne_weigh 37 = .ok (.iinc 3 1, 3) := by decide +kernel
theorem d_Ne_weigh_40 : decode b_Ne_weigh 40 = .ok (.goto (-38), 3) := by decide +kernel
theorem d_Ne_weigh_43 : decode b_Ne_weigh 43 = .ok (.iconst 0, 1) := by decide +kernel
theorem d_Ne_weigh_44 : decode b_Ne_weigh 44 = .ok (.istore_n 3, 1) := by decide +kernel
theorem d_Ne_weigh_45 : decode b_Ne_weigh 45 = .ok (.iload_n 3, 1) := by decide +kernel
theorem d_Ne_weigh_46 : decode b_Ne_weigh 46 = .ok (.aload_n 1, 1) := by decide +kernel
theorem d_Ne_weigh_47 : decode b_Ne_weigh 47 = .ok (.getfield 60, 3) := by decide +kernel
theorem d_Ne_weigh_50 : decode b_Ne_weigh 50 = .ok (.if_icmp .ge 137, 3) := by decide +kernel
theorem d_Ne_weigh_53 : decode b_Ne_weigh 53 = .ok (.aload_n 2, 1) := by decide +kernel
theorem d_Ne_weigh_54 : decode b_Ne_weigh 54 = .ok (.getfield 100, 3) := by decide +kernel
theorem d_Ne_weigh_57 : decode b_Ne_weigh 57 = .ok (.aload_n 1, 1) := by decide +kernel
theorem d_Ne_weigh_58 : decode b_Ne_weigh 58 = .ok (.getfield 121, 3) := by decide +kernel
theorem d_Ne_weigh_61 : decode b_Ne_weigh 61 = .ok (.iload_n 3, 1) := by decide +kernel
theorem d_Ne_weigh_62 : decode b_Ne_weigh 62 = .ok (.iaload, 1) := by decide +kernel
theorem d_Ne_weigh_63 : decode b_Ne_weigh 63 = .ok (.invokevirtual 124, 3) := by decide +kernel
theorem d_Ne_weigh_66 : decode b_Ne_weigh 66 = .ok (.aload_n 2, 1) := by decide +kernel
theorem d_Ne_weigh_67 : decode b_Ne_weigh 67 = .ok (.getfield 112, 3) := by decide +kernel
theorem d_Ne_weigh_70 : decode b_Ne_weigh 70 = .ok (.aload_n 1, 1) := by decide +kernel
theorem d_Ne_weigh_71 : decode b_Ne_weigh 71 = .ok (.getfield 127, 3) := by decide +kernel
theorem d_Ne_weigh_74 : decode b_Ne_weigh 74 = .ok (.iload_n 3, 1) := by decide +kernel
theorem d_Ne_weigh_75 : decode b_Ne_weigh 75 = .ok (.iaload, 1) := by decide +kernel
theorem d_Ne_weigh_76 : decode b_Ne_weigh 76 = .ok (.invokevirtual 124, 3) := by decide +kernel
theorem d_Ne_weigh_79 : decode b_Ne_weigh 79 = .ok (.invokestatic 109, 3) := by decide +kernel
theorem d_Ne_weigh_82 : decode b_Ne_weigh 82 = .ok (.istore 4, 2) := by decide +kernel
theorem d_Ne_weigh_84 : decode b_Ne_weigh 84 = .ok (.aload_n 2, 1) := by decide +kernel
theorem d_Ne_weigh_85 : decode b_Ne_weigh 85 = .ok (.getfield 100, 3) := by decide +kernel
theorem d_Ne_weigh_88 : decode b_Ne_weigh 88 = .ok (.aload_n 1, 1) := by decide +kernel
theorem d_Ne_weigh_89 : decode b_Ne_weigh 89 = .ok (.getfield 130, 3) := by decide +kernel
theorem d_Ne_weigh_92 : decode b_Ne_weigh 92 = .ok (.iload_n 3, 1) := by decide +kernel
theorem d_Ne_weigh_93 : decode b_Ne_weigh 93 = .ok (.iaload, 1) := by decide +kernel
theorem d_Ne_weigh_94 : decode b_Ne_weigh 94 = .ok (.invokevirtual 124, 3) := by decide +kernel
theorem d_Ne_weigh_97 : decode b_Ne_weigh 97 = .ok (.aload_n 2, 1) := by decide +kernel
theorem d_Ne_weigh_98 : decode b_Ne_weigh 98 = .ok (.getfield 112, 3) := by decide +kernel
theorem d_Ne_weigh_101 : decode b_Ne_weigh 101 = .ok (.aload_n 1, 1) := by decide +kernel
theorem d_Ne_weigh_102 : decode b_Ne_weigh 102 = .ok (.getfield 133, 3) := by decide +kernel
theorem d_Ne_weigh_105 : decode b_Ne_weigh 105 = .ok (.iload_n 3, 1) := by decide +kernel
theorem d_Ne_weigh_106 : decode b_Ne_weigh 106 = .ok (.iaload, 1) := by decide +kernel
theorem d_Ne_weigh_107 : decode b_Ne_weigh 107 = .ok (.invokevirtual 124, 3) := by decide +kernel
theorem d_Ne_weigh_110 : decode b_Ne_weigh 110 = .ok (.invokestatic 109, 3) := by decide +kernel
theorem d_Ne_weigh_113 : decode b_Ne_weigh 113 = .ok (.istore 5, 2) := by decide +kernel
theorem d_Ne_weigh_115 : decode b_Ne_weigh 115 = .ok (.aload_n 1, 1) := by decide +kernel
theorem d_Ne_weigh_116 : decode b_Ne_weigh 116 = .ok (.iload_n 3, 1) := by decide +kernel
theorem d_Ne_weigh_117 : decode b_Ne_weigh 117 = .ok (.invokevirtual 136, 3) := by decide +kernel
theorem d_Ne_weigh_120 : decode b_Ne_weigh 120 = .ok (.ifCond .eq 8, 3) := by decide +kernel
theorem d_Ne_weigh_123 : decode b_Ne_weigh 123 = .ok (.bipush 40, 2) := by decide +kernel
theorem d_Ne_weigh_125 : decode b_Ne_weigh 125 = .ok (.goto 4, 3) := by decide +kernel
theorem d_Ne_weigh_128 : decode b_Ne_weigh 128 = .ok (.iconst 1, 1) := by decide +kernel
theorem d_Ne_weigh_129 : decode b_Ne_weigh 129 = .ok (.istore 6, 2) := by decide +kernel
theorem d_Ne_weigh_131 : decode b_Ne_weigh 131 = .ok (.iload 4, 2) := by decide +kernel
theorem d_Ne_weigh_133 : decode b_Ne_weigh 133 = .ok (.istore 7, 2) := by decide +kernel
theorem d_Ne_weigh_135 : decode b_Ne_weigh 135 = .ok (.iload 7, 2) := by decide +kernel
theorem d_Ne_weigh_137 : decode b_Ne_weigh 137 = .ok (.iload 5, 2) := by decide +kernel
theorem d_Ne_weigh_139 : decode b_Ne_weigh 139 = .ok (.if_icmp .gt 42, 3) := by decide +kernel
theorem d_Ne_weigh_142 : decode b_Ne_weigh 142 = .ok (.aload_n 0, 1) := by decide +kernel
theorem d_Ne_weigh_143 : decode b_Ne_weigh 143 = .ok (.getfield 46, 3) := by decide +kernel
theorem d_Ne_weigh_146 : decode b_Ne_weigh 146 = .ok (.iload 7, 2) := by decide +kernel
theorem d_Ne_weigh_148 : decode b_Ne_weigh 148 = .ok (.dup2, 1) := by decide +kernel
theorem d_Ne_weigh_149 : decode b_Ne_weigh 149 = .ok (.iaload, 1) := by decide +kernel
theorem d_Ne_weigh_150 : decode b_Ne_weigh 150 = .ok (.iload 7, 2) := by decide +kernel
theorem d_Ne_weigh_152 : decode b_Ne_weigh 152 = .ok (.iload 4, 2) := by decide +kernel
theorem d_Ne_weigh_154 : decode b_Ne_weigh 154 = .ok (.if_icmp .eq 10, 3) := by decide +kernel
theorem d_Ne_weigh_157 : decode b_Ne_weigh 157 = .ok (.iload 7, 2) := by decide +kernel
theorem d_Ne_weigh_159 : decode b_Ne_weigh 159 = .ok (.iload 5, 2) := by decide +kernel
theorem d_Ne_weigh_161 : decode b_Ne_weigh 161 = .ok (.if_icmp .ne 7, 3) := by decide +kernel
theorem d_Ne_weigh_164 : decode b_Ne_weigh 164 = .ok (.iconst 2, 1) := by decide +kernel
theorem d_Ne_weigh_165 : decode b_Ne_weigh 165 = .ok (.goto 4, 3) := by decide +kernel
theorem d_Ne_weigh_168 : decode b_Ne_weigh 168 = .ok (.iconst 1, 1) := by decide +kernel
theorem d_Ne_weigh_169 : decode b_Ne_weigh 169 = .ok (.iadd, 1) := by decide +kernel
theorem d_Ne_weigh_170 : decode b_Ne_weigh 170 = .ok (.iastore, 1) := by decide +kernel
theorem d_Ne_weigh_171 : decode b_Ne_weigh 171 = .ok (.iload 7, 2) := by decide +kernel
theorem d_Ne_weigh_173 : decode b_Ne_weigh 173 = .ok (.iload 6, 2) := by decide +kernel
theorem d_Ne_weigh_175 : decode b_Ne_weigh 175 = .ok (.iadd, 1) := by decide +kernel
theorem d_Ne_weigh_176 : decode b_Ne_weigh 176 = .ok (.istore 7, 2) := by decide +kernel
theorem d_Ne_weigh_178 : decode b_Ne_weigh 178 = .ok (.goto (-43), 3) := by decide +kernel
theorem d_Ne_weigh_181 : decode b_Ne_weigh 181 = .ok (.iinc 3 1, 3) := by decide +kernel
theorem d_Ne_weigh_184 : decode b_Ne_weigh 184 = .ok (.goto (-139), 3) := by decide +kernel
theorem d_Ne_weigh_187 : decode b_Ne_weigh 187 = .ok (.return_, 1) := by decide +kernel
abbrev wl_Ne_weigh (a_0 : Nat) (a_0_weights : Nat) (a_1 : Nat) (a_1_lowX : Nat) (a_1_lowY : Nat) (a_1_highX : Nat) (a_1_highY : Nat) (a_2 : Nat) (a_2_xs : Nat) (a_2_xs_places : Nat) (a_2_ys : Nat) (a_2_ys_places : Nat) (b_0_pointX : Nat) (b_0_pointY : Nat) (b_0_looseSides : Nat) (b_0_sidesOut : Nat) (b_0_pieceLine : Nat) (b_0_begins : Nat) (b_0_directions : Nat) (b_0_leftSpaces : Nat) (b_0_pointAt : Nat) (b_1_thickness : Nat) (b_1_doors : Nat) (b_1_doorFrom : Nat) (b_1_doorTo : Nat) (b_2_cells : Nat) (cI : ClassId) (v_0_points : Int32) (v_0_pieces : Int32) (v_0_looseEnds : Int32) (f_0_weights : Nat → Int32) (v_1_count : Int32) (f_1_lowX : Nat → Int32) (f_1_lowY : Nat → Int32) (f_1_highX : Nat → Int32) (f_1_highY : Nat → Int32) (v_2_spaces : Int32) (v_2_xs_count : Int32) (f_2_xs_places : Nat → Int32) (v_2_ys_count : Int32) (f_2_ys_places : Nat → Int32) : va_W := [(a_0, .inr (3, [.ref b_0_pointX, .ref b_0_pointY, .ref b_0_looseSides, .int v_0_points, .int v_0_pieces, .int v_0_looseEnds, .ref b_0_sidesOut, .ref b_0_pieceLine, .ref b_0_begins, .ref b_0_directions, .ref b_0_leftSpaces, .ref a_0_weights, .ref b_0_pointAt])), (a_0_weights, .inl (cI, 1600, .inl f_0_weights)), (a_1, .inr (1, [.ref a_1_lowX, .ref a_1_lowY, .ref a_1_highX, .ref a_1_highY, .ref b_1_thickness, .ref b_1_doors, .ref b_1_doorFrom, .ref b_1_doorTo, .int v_1_count])), (a_1_lowX, .inl (cI, 20, .inl f_1_lowX)), (a_1_lowY, .inl (cI, 20, .inl f_1_lowY)), (a_1_highX, .inl (cI, 20, .inl f_1_highX)), (a_1_highY, .inl (cI, 20, .inl f_1_highY)), (a_2, .inr (8, [.ref a_2_xs, .ref a_2_ys, .ref b_2_cells, .int v_2_spaces])), (a_2_xs, .inr (9, [.ref a_2_xs_places, .int v_2_xs_count])), (a_2_xs_places, .inl (cI, 40, .inl f_2_xs_places)), (a_2_ys, .inr (9, [.ref a_2_ys_places, .int v_2_ys_count])), (a_2_ys_places, .inl (cI, 40, .inl f_2_ys_places))]
def m_Ne_weigh_L2 (v_2_xs_count : Int32) (v_2_ys_count : Int32) : Nat → Int32 → (Nat → Int32) → Option ((Nat → Int32))
  | 0, _, _ => none
  | n + 1, l3, f_0_weights =>
    if v_2_xs_count ≤ l3 then (
      some f_0_weights)
    else (
      bd1 (m_Ne_node l3 0) fun r2 =>
      bd1 (m_Ne_node l3 v_2_ys_count) fun r4 =>
      bd1 (m_Ar_fill1 1600 r2 r4 0 f_0_weights) fun f6 =>
      lt_ (l3 + 1) fun x8 =>
      m_Ne_weigh_L2 v_2_xs_count v_2_ys_count n x8 f6)

def m_Ne_weigh_L135 (l4 : Int32) (l5 : Int32) (l6 : Int32) : Nat → Int32 → (Nat → Int32) → Option ((Nat → Int32))
  | 0, _, _ => none
  | n + 1, l7, f_0_weights =>
    if l5 < l7 then (
      some f_0_weights)
    else (
      gI l7 1600 <|
      bd1 (
        if l7 = l4 then (
        some 2)
      else (
        if l7 = l5 then (
          some 2)
        else (
          some 1)))
      fun (x43 : Int32) =>
      gI l7 1600 <|
        lt_ (upd f_0_weights l7.toNatClampNeg ((f_0_weights l7.toNatClampNeg) + x43)) fun f47 =>
        lt_ (l7 + l6) fun x48 =>
        m_Ne_weigh_L135 l4 l5 l6 n x48 f47)

def m_Ne_weigh_L45 (v_1_count : Int32) (f_1_lowX : Nat → Int32) (f_1_lowY : Nat → Int32) (f_1_highX : Nat → Int32) (f_1_highY : Nat → Int32) (v_2_xs_count : Int32) (f_2_xs_places : Nat → Int32) (v_2_ys_count : Int32) (f_2_ys_places : Nat → Int32) : Nat → Int32 → (Nat → Int32) → Option ((Nat → Int32))
  | 0, _, _ => none
  | n + 1, l3, f_0_weights =>
    if v_1_count ≤ l3 then (
      some f_0_weights)
    else (
      gI l3 20 <|
      bd1 (m_Cu_indexOf (f_1_lowX l3.toNatClampNeg) v_2_xs_count f_2_xs_places) fun r16 =>
      gI l3 20 <|
      bd1 (m_Cu_indexOf (f_1_lowY l3.toNatClampNeg) v_2_ys_count f_2_ys_places) fun r19 =>
      bd1 (m_Ne_node r16 r19) fun r21 =>
      gI l3 20 <|
      bd1 (m_Cu_indexOf (f_1_highX l3.toNatClampNeg) v_2_xs_count f_2_xs_places) fun r24 =>
      gI l3 20 <|
      bd1 (m_Cu_indexOf (f_1_highY l3.toNatClampNeg) v_2_ys_count f_2_ys_places) fun r27 =>
      bd1 (m_Ne_node r24 r27) fun r29 =>
      bd1 (m_Li_isFlat l3 f_1_lowY f_1_highY) fun r31 =>
      bd1 (
        if r31 = 0 then (
        some 1)
      else (
        some 40))
      fun (x36 : Int32) =>
      bd1 (m_Ne_weigh_L135 r21 r29 x36 fu r21 f_0_weights) fun f40 =>
        lt_ (l3 + 1) fun x54 =>
        m_Ne_weigh_L45 v_1_count f_1_lowX f_1_lowY f_1_highX f_1_highY v_2_xs_count f_2_xs_places v_2_ys_count f_2_ys_places n x54 f40)
def m_Ne_weigh (f_0_weights : Nat → Int32) (v_1_count : Int32) (f_1_lowX : Nat → Int32) (f_1_lowY : Nat → Int32) (f_1_highX : Nat → Int32) (f_1_highY : Nat → Int32) (v_2_xs_count : Int32) (f_2_xs_places : Nat → Int32) (v_2_ys_count : Int32) (f_2_ys_places : Nat → Int32) : Option ((Nat → Int32)) :=
  bd1 (m_Ne_weigh_L2 v_2_xs_count v_2_ys_count fu 0 f_0_weights) fun f3 =>
  bd1 (m_Ne_weigh_L45 v_1_count f_1_lowX f_1_lowY f_1_highX f_1_highY v_2_xs_count f_2_xs_places v_2_ys_count f_2_ys_places fu 0 f3) fun f16 =>
  some f16

set_option maxHeartbeats 4000000 in
set_option maxRecDepth 100000 in
theorem t_Ne_weigh {p : Program} {l : Launch} {e : Env} {s : State} {m : MethodId} {args : Array Value} {below : List Frame} {meth : Method} {c : Code} {A : Nat → Prop} {Q : State → Prop} {dC : Nat → ClassId} {dI : Nat → Nat → Nat} {cI cZ cJ : ClassId} (a_0 a_0_weights a_1 a_1_lowX a_1_lowY a_1_highX a_1_highY a_2 a_2_xs a_2_xs_places a_2_ys a_2_ys_places b_0_pointX b_0_pointY b_0_looseSides b_0_sidesOut b_0_pieceLine b_0_begins b_0_directions b_0_leftSpaces b_0_pointAt b_1_thickness b_1_doors b_1_doorFrom b_1_doorTo b_2_cells : Nat) (v_0_points : Int32) (v_0_pieces : Int32) (v_0_looseEnds : Int32) (f_0_weights : Nat → Int32) (v_1_count : Int32) (f_1_lowX : Nat → Int32) (f_1_lowY : Nat → Int32) (f_1_highX : Nat → Int32) (f_1_highY : Nat → Int32) (v_2_spaces : Int32) (v_2_xs_count : Int32) (f_2_xs_places : Nat → Int32) (v_2_ys_count : Int32) (f_2_ys_places : Nat → Int32)  (of_0_weights : Nat → Int32) (hx : p.tables.exec = Jvm.exec) (hb : c.code = b_Ne_weigh) (hml : c.maxLocals = 8) (hown : s.vm.findClass "SpaceCycles$Net" = some m.cls) (hts : ∀ w ∈ w_Ne_weigh, w.before args s = true) (hK : va_K (dC, dI) vwCl [(cI, .int), (cZ, .boolean), (cJ, .long)] s) (hN : NX s) (hA : ∀ q : Nat, s.heap.size ≤ q → A q)
    (hret : ∀ (pc : Nat) (H : Heap) (locs : List Loc) (ls : Array Slot), decode b_Ne_weigh pc = .ok (.return_, 1) → va_P (dC, dI) vwCl (wl_Ne_weigh a_0 a_0_weights a_1 a_1_lowX a_1_lowY a_1_highX a_1_highY a_2 a_2_xs a_2_xs_places a_2_ys a_2_ys_places b_0_pointX b_0_pointY b_0_looseSides b_0_sidesOut b_0_pieceLine b_0_begins b_0_directions b_0_leftSpaces b_0_pointAt b_1_thickness b_1_doors b_1_doorFrom b_1_doorTo b_2_cells cI v_0_points v_0_pieces v_0_looseEnds of_0_weights v_1_count f_1_lowX f_1_lowY f_1_highX f_1_highY v_2_spaces v_2_xs_count f_2_xs_places v_2_ys_count f_2_ys_places) H → va_D A (wl_Ne_weigh a_0 a_0_weights a_1 a_1_lowX a_1_lowY a_1_highX a_1_highY a_2 a_2_xs a_2_xs_places a_2_ys a_2_ys_places b_0_pointX b_0_pointY b_0_looseSides b_0_sidesOut b_0_pieceLine b_0_begins b_0_directions b_0_leftSpaces b_0_pointAt b_1_thickness b_1_doors b_1_doorFrom b_1_doorTo b_2_cells cI v_0_points v_0_pieces v_0_looseEnds of_0_weights v_1_count f_1_lowX f_1_lowY f_1_highX f_1_highY v_2_spaces v_2_xs_count f_2_xs_places v_2_ys_count f_2_ys_places) → va_S A s.heap H locs → W p l e rm_Ne_weigh s m args below meth c H locs 0 0 Q (F0 m pc ls []))
    (hm : m_Ne_weigh f_0_weights v_1_count f_1_lowX f_1_lowY f_1_highX f_1_highY v_2_xs_count f_2_xs_places v_2_ys_count f_2_ys_places = some of_0_weights) : ∀ (H : Heap) (locs : List Loc) (ls : Array Slot), va_P (dC, dI) vwCl (wl_Ne_weigh a_0 a_0_weights a_1 a_1_lowX a_1_lowY a_1_highX a_1_highY a_2 a_2_xs a_2_xs_places a_2_ys a_2_ys_places b_0_pointX b_0_pointY b_0_looseSides b_0_sidesOut b_0_pieceLine b_0_begins b_0_directions b_0_leftSpaces b_0_pointAt b_1_thickness b_1_doors b_1_doorFrom b_1_doorTo b_2_cells cI v_0_points v_0_pieces v_0_looseEnds f_0_weights v_1_count f_1_lowX f_1_lowY f_1_highX f_1_highY v_2_spaces v_2_xs_count f_2_xs_places v_2_ys_count f_2_ys_places) H → va_D A (wl_Ne_weigh a_0 a_0_weights a_1 a_1_lowX a_1_lowY a_1_highX a_1_highY a_2 a_2_xs a_2_xs_places a_2_ys a_2_ys_places b_0_pointX b_0_pointY b_0_looseSides b_0_sidesOut b_0_pieceLine b_0_begins b_0_directions b_0_leftSpaces b_0_pointAt b_1_thickness b_1_doors b_1_doorFrom b_1_doorTo b_2_cells cI v_0_points v_0_pieces v_0_looseEnds f_0_weights v_1_count f_1_lowX f_1_lowY f_1_highX f_1_highY v_2_spaces v_2_xs_count f_2_xs_places v_2_ys_count f_2_ys_places) → va_S A s.heap H locs → lv_has ls 8 [(0, .ref a_0), (1, .ref a_1), (2, .ref a_2)] → W p l e rm_Ne_weigh s m args below meth c H locs 0 0 Q (F0 m 0 ls []) := by
  intro H locs ls hP hD hS hl
  unfold m_Ne_weigh at hm
  refine lv_iconst (v := 0) hx hb d_Ne_weigh_0 (by decide) ?_
  refine lv_istore_n (lv' := [(3, .int 0), (0, .ref a_0), (1, .ref a_1), (2, .ref a_2)]) hx hb d_Ne_weigh_1 rfl hl (by decide) rfl (fun ls hl => ?_)
  have L2_4 : ∀ (n : Nat) (x1 : Int32) (f2 : Nat → Int32) (f3 : Nat → Int32), m_Ne_weigh_L2 v_2_xs_count v_2_ys_count n x1 f2 = some f3 → (∀ (H : Heap) (locs : List Loc) (ls : Array Slot), va_P (dC, dI) vwCl (wl_Ne_weigh a_0 a_0_weights a_1 a_1_lowX a_1_lowY a_1_highX a_1_highY a_2 a_2_xs a_2_xs_places a_2_ys a_2_ys_places b_0_pointX b_0_pointY b_0_looseSides b_0_sidesOut b_0_pieceLine b_0_begins b_0_directions b_0_leftSpaces b_0_pointAt b_1_thickness b_1_doors b_1_doorFrom b_1_doorTo b_2_cells cI v_0_points v_0_pieces v_0_looseEnds f3 v_1_count f_1_lowX f_1_lowY f_1_highX f_1_highY v_2_spaces v_2_xs_count f_2_xs_places v_2_ys_count f_2_ys_places) H → va_D A (wl_Ne_weigh a_0 a_0_weights a_1 a_1_lowX a_1_lowY a_1_highX a_1_highY a_2 a_2_xs a_2_xs_places a_2_ys a_2_ys_places b_0_pointX b_0_pointY b_0_looseSides b_0_sidesOut b_0_pieceLine b_0_begins b_0_directions b_0_leftSpaces b_0_pointAt b_1_thickness b_1_doors b_1_doorFrom b_1_doorTo b_2_cells cI v_0_points v_0_pieces v_0_looseEnds f3 v_1_count f_1_lowX f_1_lowY f_1_highX f_1_highY v_2_spaces v_2_xs_count f_2_xs_places v_2_ys_count f_2_ys_places) → va_S A s.heap H locs → lv_has ls 8 [(0, .ref a_0), (1, .ref a_1), (2, .ref a_2)] → W p l e rm_Ne_weigh s m args below meth c H locs 0 0 Q (F0 m 43 ls [])) → ∀ (H : Heap) (locs : List Loc) (ls : Array Slot), va_P (dC, dI) vwCl (wl_Ne_weigh a_0 a_0_weights a_1 a_1_lowX a_1_lowY a_1_highX a_1_highY a_2 a_2_xs a_2_xs_places a_2_ys a_2_ys_places b_0_pointX b_0_pointY b_0_looseSides b_0_sidesOut b_0_pieceLine b_0_begins b_0_directions b_0_leftSpaces b_0_pointAt b_1_thickness b_1_doors b_1_doorFrom b_1_doorTo b_2_cells cI v_0_points v_0_pieces v_0_looseEnds f2 v_1_count f_1_lowX f_1_lowY f_1_highX f_1_highY v_2_spaces v_2_xs_count f_2_xs_places v_2_ys_count f_2_ys_places) H → va_D A (wl_Ne_weigh a_0 a_0_weights a_1 a_1_lowX a_1_lowY a_1_highX a_1_highY a_2 a_2_xs a_2_xs_places a_2_ys a_2_ys_places b_0_pointX b_0_pointY b_0_looseSides b_0_sidesOut b_0_pieceLine b_0_begins b_0_directions b_0_leftSpaces b_0_pointAt b_1_thickness b_1_doors b_1_doorFrom b_1_doorTo b_2_cells cI v_0_points v_0_pieces v_0_looseEnds f2 v_1_count f_1_lowX f_1_lowY f_1_highX f_1_highY v_2_spaces v_2_xs_count f_2_xs_places v_2_ys_count f_2_ys_places) → va_S A s.heap H locs → lv_has ls 8 [(0, .ref a_0), (1, .ref a_1), (2, .ref a_2), (3, .int x1)] → W p l e rm_Ne_weigh s m args below meth c H locs 0 0 Q (F0 m 2 ls []) := by
    intro n
    induction n with
    | zero => intro x1 f2 f3 hm; simp [m_Ne_weigh_L2] at hm
    | succ n ih =>
      intro x1 f2 f3 hm KE H locs ls hP hD hS hl
      rw [m_Ne_weigh_L2] at hm
      refine lv_iload_n hx hb d_Ne_weigh_2 rfl (lv_at hl 3 rfl) ?_
      refine lv_aload_n hx hb d_Ne_weigh_3 rfl (lv_at hl 2 rfl) ?_
      refine va_get (D := (dC, dI)) (ci := 8) (v := .ref a_2_xs) (C := "SpaceCycles$Grid") (T := F_Gr) (N := 4) hx hb hts (in_F i_Gr) hown hK hP 7 rfl rfl 0 (by decide) (hts _ (in_c k_140)) (fun _ h9 => h9) rfl d_Ne_weigh_4 ?_
      refine va_get (D := (dC, dI)) (ci := 9) (v := .int v_2_xs_count) (C := "SpaceCycles$Cuts") (T := F_Cu) (N := 2) hx hb hts (in_F i_Cu) hown hK hP 8 rfl rfl 1 (by decide) (hts _ (in_c k_141)) (fun _ h9 => h9) rfl d_Ne_weigh_7 ?_
      refine lv_icmp_ge (tgt := 43) hx hb d_Ne_weigh_10 (by decide) (fun c5 => ?_) (fun c5 => ?_)
      · replace hm := if_t hm c5
        cases hm
        exact KE H locs ls hP hD hS (lv_sub hl [0, 1, 2] rfl)
      · replace hm := if_f hm c5
        refine lv_aload_n hx hb d_Ne_weigh_13 rfl (lv_at hl 0 rfl) ?_
        refine va_get (D := (dC, dI)) (ci := 3) (v := .ref a_0_weights) (C := "SpaceCycles$Net") (T := F_Ne) (N := 13) hx hb hts (in_F i_Ne) hown hK hP 0 rfl rfl 11 (by decide) (hts _ (in_c k_142)) (fun _ h9 => h9) rfl d_Ne_weigh_14 ?_
        refine lv_iload_n hx hb d_Ne_weigh_17 rfl (lv_at hl 3 rfl) ?_
        refine lv_iconst (v := 0) hx hb d_Ne_weigh_18 (by decide) ?_
        obtain ⟨r6, hb7, hm⟩ := bd1_e hm
        have hPc := hP.sub (ws' := (wl_Ne_node)) [] rfl
        have hDc := hD.sub (ws' := (wl_Ne_node)) [] (by decide) rfl
        refine cl_i (wc' := (wl_Ne_node)) (va_runS (As := [.int x1, .int 0]) (rest := [.ref a_0_weights]) ⟨hx, hb, hml, hown, hts⟩ (c_Ne_node l dC dI (cI := cI) (cZ := cZ) (cJ := cJ) H.size x1 0 r6 hb7) (va_cwS 2 hts (gl_S k_146 k_144 k_145 k_143) rfl rfl rfl (by decide +kernel) ⟨Nat.le_of_ble_eq_true rfl, Nat.le_of_ble_eq_true rfl⟩) ⟨PP_blind, fun U hU hW => PP_at hK hN hPc hDc hU hW⟩ rfl rfl hl.1 rfl (lv_room (Nat.le_of_ble_eq_true rfl)) d_Ne_weigh_19 ⟨Nat.zero_le _, Nat.zero_le _⟩) hP hD hS hA [] [0, 1, 2, 3, 4, 5, 6, 7, 8, 9, 10, 11] rfl rfl (by decide) (by decide) (fun H locs hP hD hS => ?_)
        have hP : va_P (dC, dI) vwCl (wl_Ne_weigh a_0 a_0_weights a_1 a_1_lowX a_1_lowY a_1_highX a_1_highY a_2 a_2_xs a_2_xs_places a_2_ys a_2_ys_places b_0_pointX b_0_pointY b_0_looseSides b_0_sidesOut b_0_pieceLine b_0_begins b_0_directions b_0_leftSpaces b_0_pointAt b_1_thickness b_1_doors b_1_doorFrom b_1_doorTo b_2_cells cI v_0_points v_0_pieces v_0_looseEnds f2 v_1_count f_1_lowX f_1_lowY f_1_highX f_1_highY v_2_spaces v_2_xs_count f_2_xs_places v_2_ys_count f_2_ys_places) H := hP.sub [0, 1, 2, 3, 4, 5, 6, 7, 8, 9, 10, 11] rfl
        have hD : va_D A (wl_Ne_weigh a_0 a_0_weights a_1 a_1_lowX a_1_lowY a_1_highX a_1_highY a_2 a_2_xs a_2_xs_places a_2_ys a_2_ys_places b_0_pointX b_0_pointY b_0_looseSides b_0_sidesOut b_0_pieceLine b_0_begins b_0_directions b_0_leftSpaces b_0_pointAt b_1_thickness b_1_doors b_1_doorFrom b_1_doorTo b_2_cells cI v_0_points v_0_pieces v_0_looseEnds f2 v_1_count f_1_lowX f_1_lowY f_1_highX f_1_highY v_2_spaces v_2_xs_count f_2_xs_places v_2_ys_count f_2_ys_places) := hD.sub [0, 1, 2, 3, 4, 5, 6, 7, 8, 9, 10, 11] (by decide) rfl
        refine lv_iload_n hx hb d_Ne_weigh_22 rfl (lv_at hl 3 rfl) ?_
        refine lv_aload_n hx hb d_Ne_weigh_23 rfl (lv_at hl 2 rfl) ?_
        refine va_get (D := (dC, dI)) (ci := 8) (v := .ref a_2_ys) (C := "SpaceCycles$Grid") (T := F_Gr) (N := 4) hx hb hts (in_F i_Gr) hown hK hP 7 rfl rfl 1 (by decide) (hts _ (in_c k_147)) (fun _ h9 => h9) rfl d_Ne_weigh_24 ?_
        refine va_get (D := (dC, dI)) (ci := 9) (v := .int v_2_ys_count) (C := "SpaceCycles$Cuts") (T := F_Cu) (N := 2) hx hb hts (in_F i_Cu) hown hK hP 10 rfl rfl 1 (by decide) (hts _ (in_c k_141)) (fun _ h9 => h9) rfl d_Ne_weigh_27 ?_
        obtain ⟨r8, hb9, hm⟩ := bd1_e hm
        have hPc := hP.sub (ws' := (wl_Ne_node)) [] rfl
        have hDc := hD.sub (ws' := (wl_Ne_node)) [] (by decide) rfl
        refine cl_i (wc' := (wl_Ne_node)) (va_runS (As := [.int x1, .int v_2_ys_count]) (rest := [.int r6, .ref a_0_weights]) ⟨hx, hb, hml, hown, hts⟩ (c_Ne_node l dC dI (cI := cI) (cZ := cZ) (cJ := cJ) H.size x1 v_2_ys_count r8 hb9) (va_cwS 2 hts (gl_S k_146 k_144 k_145 k_143) rfl rfl rfl (by decide +kernel) ⟨Nat.le_of_ble_eq_true rfl, Nat.le_of_ble_eq_true rfl⟩) ⟨PP_blind, fun U hU hW => PP_at hK hN hPc hDc hU hW⟩ rfl rfl hl.1 rfl (lv_room (Nat.le_of_ble_eq_true rfl)) d_Ne_weigh_30 ⟨Nat.zero_le _, Nat.zero_le _⟩) hP hD hS hA [] [0, 1, 2, 3, 4, 5, 6, 7, 8, 9, 10, 11] rfl rfl (by decide) (by decide) (fun H locs hP hD hS => ?_)
        have hP : va_P (dC, dI) vwCl (wl_Ne_weigh a_0 a_0_weights a_1 a_1_lowX a_1_lowY a_1_highX a_1_highY a_2 a_2_xs a_2_xs_places a_2_ys a_2_ys_places b_0_pointX b_0_pointY b_0_looseSides b_0_sidesOut b_0_pieceLine b_0_begins b_0_directions b_0_leftSpaces b_0_pointAt b_1_thickness b_1_doors b_1_doorFrom b_1_doorTo b_2_cells cI v_0_points v_0_pieces v_0_looseEnds f2 v_1_count f_1_lowX f_1_lowY f_1_highX f_1_highY v_2_spaces v_2_xs_count f_2_xs_places v_2_ys_count f_2_ys_places) H := hP.sub [0, 1, 2, 3, 4, 5, 6, 7, 8, 9, 10, 11] rfl
        have hD : va_D A (wl_Ne_weigh a_0 a_0_weights a_1 a_1_lowX a_1_lowY a_1_highX a_1_highY a_2 a_2_xs a_2_xs_places a_2_ys a_2_ys_places b_0_pointX b_0_pointY b_0_looseSides b_0_sidesOut b_0_pieceLine b_0_begins b_0_directions b_0_leftSpaces b_0_pointAt b_1_thickness b_1_doors b_1_doorFrom b_1_doorTo b_2_cells cI v_0_points v_0_pieces v_0_looseEnds f2 v_1_count f_1_lowX f_1_lowY f_1_highX f_1_highY v_2_spaces v_2_xs_count f_2_xs_places v_2_ys_count f_2_ys_places) := hD.sub [0, 1, 2, 3, 4, 5, 6, 7, 8, 9, 10, 11] (by decide) rfl
        refine lv_iconst (v := 0) hx hb d_Ne_weigh_33 (by decide) ?_
        obtain ⟨f10, hb11, hm⟩ := bd1_e hm
        have hPc := hP.sub (ws' := (wl_Ar_fill1 a_0_weights cI 1600 f2)) [1] rfl
        have hDc := hD.sub (ws' := (wl_Ar_fill1 a_0_weights cI 1600 f2)) [1] (by decide) rfl
        refine cl_v (wc' := (wl_Ar_fill1 a_0_weights cI 1600 f10)) (va_runS (As := [.ref a_0_weights, .int r6, .int r8, .int 0]) (rest := []) ⟨hx, hb, hml, hown, hts⟩ (c_Ar_fill1 l dC dI (cI := cI) (cZ := cZ) (cJ := cJ) a_0_weights H.size 1600 f2 r6 r8 0 f10 hb11) (va_cwS 4 hts (gl_S k_148 k_62 k_2 k_61) rfl rfl rfl (by decide +kernel) ⟨Nat.le_of_ble_eq_true rfl, Nat.le_of_ble_eq_true rfl⟩) ⟨PP_blind, fun U hU hW => PP_at hK hN hPc hDc hU hW⟩ rfl rfl hl.1 rfl (lv_room (Nat.le_of_ble_eq_true rfl)) d_Ne_weigh_34 ⟨Nat.zero_le _, Nat.zero_le _⟩) hP hD hS hA [1] [0, 2, 3, 4, 5, 6, 7, 8, 9, 10, 11] rfl rfl (by decide) (by decide) (fun H locs hP hD hS => ?_)
        have hP : va_P (dC, dI) vwCl (wl_Ne_weigh a_0 a_0_weights a_1 a_1_lowX a_1_lowY a_1_highX a_1_highY a_2 a_2_xs a_2_xs_places a_2_ys a_2_ys_places b_0_pointX b_0_pointY b_0_looseSides b_0_sidesOut b_0_pieceLine b_0_begins b_0_directions b_0_leftSpaces b_0_pointAt b_1_thickness b_1_doors b_1_doorFrom b_1_doorTo b_2_cells cI v_0_points v_0_pieces v_0_looseEnds f10 v_1_count f_1_lowX f_1_lowY f_1_highX f_1_highY v_2_spaces v_2_xs_count f_2_xs_places v_2_ys_count f_2_ys_places) H := hP.sub [0, 11, 1, 2, 3, 4, 5, 6, 7, 8, 9, 10] rfl
        have hD : va_D A (wl_Ne_weigh a_0 a_0_weights a_1 a_1_lowX a_1_lowY a_1_highX a_1_highY a_2 a_2_xs a_2_xs_places a_2_ys a_2_ys_places b_0_pointX b_0_pointY b_0_looseSides b_0_sidesOut b_0_pieceLine b_0_begins b_0_directions b_0_leftSpaces b_0_pointAt b_1_thickness b_1_doors b_1_doorFrom b_1_doorTo b_2_cells cI v_0_points v_0_pieces v_0_looseEnds f10 v_1_count f_1_lowX f_1_lowY f_1_highX f_1_highY v_2_spaces v_2_xs_count f_2_xs_places v_2_ys_count f_2_ys_places) := hD.sub [0, 11, 1, 2, 3, 4, 5, 6, 7, 8, 9, 10] (by decide) rfl
        obtain ⟨x12, ex12⟩ : ∃ y : Int32, y = x1 + 1 := ⟨_, rfl⟩
        replace hm := lt_el hm ex12
        refine lv_iinc (v := x12) (lv' := [(3, .int x12), (0, .ref a_0), (1, .ref a_1), (2, .ref a_2)]) hx hb d_Ne_weigh_37 hl (k := 3) rfl (by rw [ex12]; rfl) (by decide) rfl (fun ls hl => ?_)
        refine lv_goto (tgt := 2) hx hb d_Ne_weigh_40 (by decide) ?_
        exact ih _ _ _ hm KE H locs ls hP hD hS (lv_sub hl [1, 2, 3, 0] rfl)
  obtain ⟨f3, hb13, hm⟩ := bd1_e hm
  refine L2_4 fu _ _ _ hb13 (fun H locs ls hP hD hS hl => ?_) H locs ls hP hD hS (lv_sub hl [1, 2, 3, 0] rfl)
  refine lv_iconst (v := 0) hx hb d_Ne_weigh_43 (by decide) ?_
  refine lv_istore_n (lv' := [(3, .int 0), (0, .ref a_0), (1, .ref a_1), (2, .ref a_2)]) hx hb d_Ne_weigh_44 rfl hl (by decide) rfl (fun ls hl => ?_)
  have L45_17 : ∀ (n : Nat) (x14 : Int32) (f15 : Nat → Int32) (f16 : Nat → Int32), m_Ne_weigh_L45 v_1_count f_1_lowX f_1_lowY f_1_highX f_1_highY v_2_xs_count f_2_xs_places v_2_ys_count f_2_ys_places n x14 f15 = some f16 → (∀ (H : Heap) (locs : List Loc) (ls : Array Slot), va_P (dC, dI) vwCl (wl_Ne_weigh a_0 a_0_weights a_1 a_1_lowX a_1_lowY a_1_highX a_1_highY a_2 a_2_xs a_2_xs_places a_2_ys a_2_ys_places b_0_pointX b_0_pointY b_0_looseSides b_0_sidesOut b_0_pieceLine b_0_begins b_0_directions b_0_leftSpaces b_0_pointAt b_1_thickness b_1_doors b_1_doorFrom b_1_doorTo b_2_cells cI v_0_points v_0_pieces v_0_looseEnds f16 v_1_count f_1_lowX f_1_lowY f_1_highX f_1_highY v_2_spaces v_2_xs_count f_2_xs_places v_2_ys_count f_2_ys_places) H → va_D A (wl_Ne_weigh a_0 a_0_weights a_1 a_1_lowX a_1_lowY a_1_highX a_1_highY a_2 a_2_xs a_2_xs_places a_2_ys a_2_ys_places b_0_pointX b_0_pointY b_0_looseSides b_0_sidesOut b_0_pieceLine b_0_begins b_0_directions b_0_leftSpaces b_0_pointAt b_1_thickness b_1_doors b_1_doorFrom b_1_doorTo b_2_cells cI v_0_points v_0_pieces v_0_looseEnds f16 v_1_count f_1_lowX f_1_lowY f_1_highX f_1_highY v_2_spaces v_2_xs_count f_2_xs_places v_2_ys_count f_2_ys_places) → va_S A s.heap H locs → lv_has ls 8 [] → W p l e rm_Ne_weigh s m args below meth c H locs 0 0 Q (F0 m 187 ls [])) → ∀ (H : Heap) (locs : List Loc) (ls : Array Slot), va_P (dC, dI) vwCl (wl_Ne_weigh a_0 a_0_weights a_1 a_1_lowX a_1_lowY a_1_highX a_1_highY a_2 a_2_xs a_2_xs_places a_2_ys a_2_ys_places b_0_pointX b_0_pointY b_0_looseSides b_0_sidesOut b_0_pieceLine b_0_begins b_0_directions b_0_leftSpaces b_0_pointAt b_1_thickness b_1_doors b_1_doorFrom b_1_doorTo b_2_cells cI v_0_points v_0_pieces v_0_looseEnds f15 v_1_count f_1_lowX f_1_lowY f_1_highX f_1_highY v_2_spaces v_2_xs_count f_2_xs_places v_2_ys_count f_2_ys_places) H → va_D A (wl_Ne_weigh a_0 a_0_weights a_1 a_1_lowX a_1_lowY a_1_highX a_1_highY a_2 a_2_xs a_2_xs_places a_2_ys a_2_ys_places b_0_pointX b_0_pointY b_0_looseSides b_0_sidesOut b_0_pieceLine b_0_begins b_0_directions b_0_leftSpaces b_0_pointAt b_1_thickness b_1_doors b_1_doorFrom b_1_doorTo b_2_cells cI v_0_points v_0_pieces v_0_looseEnds f15 v_1_count f_1_lowX f_1_lowY f_1_highX f_1_highY v_2_spaces v_2_xs_count f_2_xs_places v_2_ys_count f_2_ys_places) → va_S A s.heap H locs → lv_has ls 8 [(0, .ref a_0), (1, .ref a_1), (2, .ref a_2), (3, .int x14)] → W p l e rm_Ne_weigh s m args below meth c H locs 0 0 Q (F0 m 45 ls []) := by
    intro n
    induction n with
    | zero => intro x14 f15 f16 hm; simp [m_Ne_weigh_L45] at hm
    | succ n ih =>
      intro x14 f15 f16 hm KE H locs ls hP hD hS hl
      rw [m_Ne_weigh_L45] at hm
      refine lv_iload_n hx hb d_Ne_weigh_45 rfl (lv_at hl 3 rfl) ?_
      refine lv_aload_n hx hb d_Ne_weigh_46 rfl (lv_at hl 1 rfl) ?_
      refine va_get (D := (dC, dI)) (ci := 1) (v := .int v_1_count) (C := "SpaceCycles$Lines") (T := F_Li) (N := 9) hx hb hts (in_F i_Li) hown hK hP 2 rfl rfl 8 (by decide) (hts _ (in_c k_149)) (fun _ h9 => h9) rfl d_Ne_weigh_47 ?_
      refine lv_icmp_ge (tgt := 187) hx hb d_Ne_weigh_50 (by decide) (fun c18 => ?_) (fun c18 => ?_)
      · replace hm := if_t hm c18
        cases hm
        exact KE H locs ls hP hD hS (lv_sub hl [] rfl)
      · replace hm := if_f hm c18
        refine lv_aload_n hx hb d_Ne_weigh_53 rfl (lv_at hl 2 rfl) ?_
        refine va_get (D := (dC, dI)) (ci := 8) (v := .ref a_2_xs) (C := "SpaceCycles$Grid") (T := F_Gr) (N := 4) hx hb hts (in_F i_Gr) hown hK hP 7 rfl rfl 0 (by decide) (hts _ (in_c k_140)) (fun _ h9 => h9) rfl d_Ne_weigh_54 ?_
        refine lv_aload_n hx hb d_Ne_weigh_57 rfl (lv_at hl 1 rfl) ?_
        refine va_get (D := (dC, dI)) (ci := 1) (v := .ref a_1_lowX) (C := "SpaceCycles$Lines") (T := F_Li) (N := 9) hx hb hts (in_F i_Li) hown hK hP 2 rfl rfl 0 (by decide) (hts _ (in_c k_150)) (fun _ h9 => h9) rfl d_Ne_weigh_58 ?_
        refine lv_iload_n hx hb d_Ne_weigh_61 rfl (lv_at hl 3 rfl) ?_
        obtain ⟨hi19, hm⟩ := gI_e hm
        refine va_iald hx hb hK hP 3 0 rfl rfl hi19 d_Ne_weigh_62 ?_
        obtain ⟨r20, hb21, hm⟩ := bd1_e hm
        have hPc := hP.sub (ws' := (wl_Cu_indexOf a_2_xs a_2_xs_places cI v_2_xs_count f_2_xs_places)) [8, 9] rfl
        have hDc := hD.sub (ws' := (wl_Cu_indexOf a_2_xs a_2_xs_places cI v_2_xs_count f_2_xs_places)) [8, 9] (by decide) rfl
        refine cl_i (wc' := (wl_Cu_indexOf a_2_xs a_2_xs_places cI v_2_xs_count f_2_xs_places)) (va_runV (As := [.int (f_1_lowX x14.toNatClampNeg)]) (rest := []) ⟨hx, hb, hml, hown, hts⟩ (c_Cu_indexOf l dC dI (cI := cI) (cZ := cZ) (cJ := cJ) a_2_xs a_2_xs_places H.size v_2_xs_count f_2_xs_places (f_1_lowX x14.toNatClampNeg) r20 hb21) (cwV 1 hts (gl_V k_151 k_96 k_95 k_9 k_94) rfl rfl rfl (by decide +kernel) ⟨Nat.le_of_ble_eq_true rfl, Nat.le_of_ble_eq_true rfl⟩) ⟨PP_blind, va_recv hK hPc (ci := 9) (q0 := 0) rfl rfl, fun U hU hW => PP_at hK hN hPc hDc hU hW⟩ rfl rfl hl.1 rfl (lv_room (Nat.le_of_ble_eq_true rfl)) d_Ne_weigh_63 ⟨Nat.zero_le _, Nat.zero_le _⟩) hP hD hS hA [8, 9] [0, 1, 2, 3, 4, 5, 6, 7, 10, 11] rfl rfl (by decide) (by decide) (fun H locs hP hD hS => ?_)
        have hP : va_P (dC, dI) vwCl (wl_Ne_weigh a_0 a_0_weights a_1 a_1_lowX a_1_lowY a_1_highX a_1_highY a_2 a_2_xs a_2_xs_places a_2_ys a_2_ys_places b_0_pointX b_0_pointY b_0_looseSides b_0_sidesOut b_0_pieceLine b_0_begins b_0_directions b_0_leftSpaces b_0_pointAt b_1_thickness b_1_doors b_1_doorFrom b_1_doorTo b_2_cells cI v_0_points v_0_pieces v_0_looseEnds f15 v_1_count f_1_lowX f_1_lowY f_1_highX f_1_highY v_2_spaces v_2_xs_count f_2_xs_places v_2_ys_count f_2_ys_places) H := hP.sub [0, 1, 2, 3, 4, 5, 6, 7, 10, 11, 8, 9] rfl
        have hD : va_D A (wl_Ne_weigh a_0 a_0_weights a_1 a_1_lowX a_1_lowY a_1_highX a_1_highY a_2 a_2_xs a_2_xs_places a_2_ys a_2_ys_places b_0_pointX b_0_pointY b_0_looseSides b_0_sidesOut b_0_pieceLine b_0_begins b_0_directions b_0_leftSpaces b_0_pointAt b_1_thickness b_1_doors b_1_doorFrom b_1_doorTo b_2_cells cI v_0_points v_0_pieces v_0_looseEnds f15 v_1_count f_1_lowX f_1_lowY f_1_highX f_1_highY v_2_spaces v_2_xs_count f_2_xs_places v_2_ys_count f_2_ys_places) := hD.sub [0, 1, 2, 3, 4, 5, 6, 7, 10, 11, 8, 9] (by decide) rfl
        refine lv_aload_n hx hb d_Ne_weigh_66 rfl (lv_at hl 2 rfl) ?_
        refine va_get (D := (dC, dI)) (ci := 8) (v := .ref a_2_ys) (C := "SpaceCycles$Grid") (T := F_Gr) (N := 4) hx hb hts (in_F i_Gr) hown hK hP 7 rfl rfl 1 (by decide) (hts _ (in_c k_147)) (fun _ h9 => h9) rfl d_Ne_weigh_67 ?_
        refine lv_aload_n hx hb d_Ne_weigh_70 rfl (lv_at hl 1 rfl) ?_
        refine va_get (D := (dC, dI)) (ci := 1) (v := .ref a_1_lowY) (C := "SpaceCycles$Lines") (T := F_Li) (N := 9) hx hb hts (in_F i_Li) hown hK hP 2 rfl rfl 1 (by decide) (hts _ (in_c k_152)) (fun _ h9 => h9) rfl d_Ne_weigh_71 ?_
        refine lv_iload_n hx hb d_Ne_weigh_74 rfl (lv_at hl 3 rfl) ?_
        obtain ⟨hi22, hm⟩ := gI_e hm
        refine va_iald hx hb hK hP 4 0 rfl rfl hi22 d_Ne_weigh_75 ?_
        obtain ⟨r23, hb24, hm⟩ := bd1_e hm
        have hPc := hP.sub (ws' := (wl_Cu_indexOf a_2_ys a_2_ys_places cI v_2_ys_count f_2_ys_places)) [10, 11] rfl
        have hDc := hD.sub (ws' := (wl_Cu_indexOf a_2_ys a_2_ys_places cI v_2_ys_count f_2_ys_places)) [10, 11] (by decide) rfl
        refine cl_i (wc' := (wl_Cu_indexOf a_2_ys a_2_ys_places cI v_2_ys_count f_2_ys_places)) (va_runV (As := [.int (f_1_lowY x14.toNatClampNeg)]) (rest := [.int r20]) ⟨hx, hb, hml, hown, hts⟩ (c_Cu_indexOf l dC dI (cI := cI) (cZ := cZ) (cJ := cJ) a_2_ys a_2_ys_places H.size v_2_ys_count f_2_ys_places (f_1_lowY x14.toNatClampNeg) r23 hb24) (cwV 1 hts (gl_V k_151 k_96 k_95 k_9 k_94) rfl rfl rfl (by decide +kernel) ⟨Nat.le_of_ble_eq_true rfl, Nat.le_of_ble_eq_true rfl⟩) ⟨PP_blind, va_recv hK hPc (ci := 9) (q0 := 0) rfl rfl, fun U hU hW => PP_at hK hN hPc hDc hU hW⟩ rfl rfl hl.1 rfl (lv_room (Nat.le_of_ble_eq_true rfl)) d_Ne_weigh_76 ⟨Nat.zero_le _, Nat.zero_le _⟩) hP hD hS hA [10, 11] [0, 1, 2, 3, 4, 5, 6, 7, 8, 9] rfl rfl (by decide) (by decide) (fun H locs hP hD hS => ?_)
        have hP : va_P (dC, dI) vwCl (wl_Ne_weigh a_0 a_0_weights a_1 a_1_lowX a_1_lowY a_1_highX a_1_highY a_2 a_2_xs a_2_xs_places a_2_ys a_2_ys_places b_0_pointX b_0_pointY b_0_looseSides b_0_sidesOut b_0_pieceLine b_0_begins b_0_directions b_0_leftSpaces b_0_pointAt b_1_thickness b_1_doors b_1_doorFrom b_1_doorTo b_2_cells cI v_0_points v_0_pieces v_0_looseEnds f15 v_1_count f_1_lowX f_1_lowY f_1_highX f_1_highY v_2_spaces v_2_xs_count f_2_xs_places v_2_ys_count f_2_ys_places) H := hP.sub [0, 1, 2, 3, 4, 5, 6, 7, 8, 9, 10, 11] rfl
        have hD : va_D A (wl_Ne_weigh a_0 a_0_weights a_1 a_1_lowX a_1_lowY a_1_highX a_1_highY a_2 a_2_xs a_2_xs_places a_2_ys a_2_ys_places b_0_pointX b_0_pointY b_0_looseSides b_0_sidesOut b_0_pieceLine b_0_begins b_0_directions b_0_leftSpaces b_0_pointAt b_1_thickness b_1_doors b_1_doorFrom b_1_doorTo b_2_cells cI v_0_points v_0_pieces v_0_looseEnds f15 v_1_count f_1_lowX f_1_lowY f_1_highX f_1_highY v_2_spaces v_2_xs_count f_2_xs_places v_2_ys_count f_2_ys_places) := hD.sub [0, 1, 2, 3, 4, 5, 6, 7, 8, 9, 10, 11] (by decide) rfl
        obtain ⟨r25, hb26, hm⟩ := bd1_e hm
        have hPc := hP.sub (ws' := (wl_Ne_node)) [] rfl
        have hDc := hD.sub (ws' := (wl_Ne_node)) [] (by decide) rfl
        refine cl_i (wc' := (wl_Ne_node)) (va_runS (As := [.int r20, .int r23]) (rest := []) ⟨hx, hb, hml, hown, hts⟩ (c_Ne_node l dC dI (cI := cI) (cZ := cZ) (cJ := cJ) H.size r20 r23 r25 hb26) (va_cwS 2 hts (gl_S k_146 k_144 k_145 k_143) rfl rfl rfl (by decide +kernel) ⟨Nat.le_of_ble_eq_true rfl, Nat.le_of_ble_eq_true rfl⟩) ⟨PP_blind, fun U hU hW => PP_at hK hN hPc hDc hU hW⟩ rfl rfl hl.1 rfl (lv_room (Nat.le_of_ble_eq_true rfl)) d_Ne_weigh_79 ⟨Nat.zero_le _, Nat.zero_le _⟩) hP hD hS hA [] [0, 1, 2, 3, 4, 5, 6, 7, 8, 9, 10, 11] rfl rfl (by decide) (by decide) (fun H locs hP hD hS => ?_)
        have hP : va_P (dC, dI) vwCl (wl_Ne_weigh a_0 a_0_weights a_1 a_1_lowX a_1_lowY a_1_highX a_1_highY a_2 a_2_xs a_2_xs_places a_2_ys a_2_ys_places b_0_pointX b_0_pointY b_0_looseSides b_0_sidesOut b_0_pieceLine b_0_begins b_0_directions b_0_leftSpaces b_0_pointAt b_1_thickness b_1_doors b_1_doorFrom b_1_doorTo b_2_cells cI v_0_points v_0_pieces v_0_looseEnds f15 v_1_count f_1_lowX f_1_lowY f_1_highX f_1_highY v_2_spaces v_2_xs_count f_2_xs_places v_2_ys_count f_2_ys_places) H := hP.sub [0, 1, 2, 3, 4, 5, 6, 7, 8, 9, 10, 11] rfl
        have hD : va_D A (wl_Ne_weigh a_0 a_0_weights a_1 a_1_lowX a_1_lowY a_1_highX a_1_highY a_2 a_2_xs a_2_xs_places a_2_ys a_2_ys_places b_0_pointX b_0_pointY b_0_looseSides b_0_sidesOut b_0_pieceLine b_0_begins b_0_directions b_0_leftSpaces b_0_pointAt b_1_thickness b_1_doors b_1_doorFrom b_1_doorTo b_2_cells cI v_0_points v_0_pieces v_0_looseEnds f15 v_1_count f_1_lowX f_1_lowY f_1_highX f_1_highY v_2_spaces v_2_xs_count f_2_xs_places v_2_ys_count f_2_ys_places) := hD.sub [0, 1, 2, 3, 4, 5, 6, 7, 8, 9, 10, 11] (by decide) rfl
        refine lv_istore (lv' := [(4, .int r25), (0, .ref a_0), (1, .ref a_1), (2, .ref a_2), (3, .int x14)]) hx hb d_Ne_weigh_82 hl (by decide) rfl (fun ls hl => ?_)
        refine lv_aload_n hx hb d_Ne_weigh_84 rfl (lv_at hl 3 rfl) ?_
        refine va_get (D := (dC, dI)) (ci := 8) (v := .ref a_2_xs) (C := "SpaceCycles$Grid") (T := F_Gr) (N := 4) hx hb hts (in_F i_Gr) hown hK hP 7 rfl rfl 0 (by decide) (hts _ (in_c k_140)) (fun _ h9 => h9) rfl d_Ne_weigh_85 ?_
        refine lv_aload_n hx hb d_Ne_weigh_88 rfl (lv_at hl 2 rfl) ?_
        refine va_get (D := (dC, dI)) (ci := 1) (v := .ref a_1_highX) (C := "SpaceCycles$Lines") (T := F_Li) (N := 9) hx hb hts (in_F i_Li) hown hK hP 2 rfl rfl 2 (by decide) (hts _ (in_c k_153)) (fun _ h9 => h9) rfl d_Ne_weigh_89 ?_
        refine lv_iload_n hx hb d_Ne_weigh_92 rfl (lv_at hl 4 rfl) ?_
        obtain ⟨hi27, hm⟩ := gI_e hm
        refine va_iald hx hb hK hP 5 0 rfl rfl hi27 d_Ne_weigh_93 ?_
        obtain ⟨r28, hb29, hm⟩ := bd1_e hm
        have hPc := hP.sub (ws' := (wl_Cu_indexOf a_2_xs a_2_xs_places cI v_2_xs_count f_2_xs_places)) [8, 9] rfl
        have hDc := hD.sub (ws' := (wl_Cu_indexOf a_2_xs a_2_xs_places cI v_2_xs_count f_2_xs_places)) [8, 9] (by decide) rfl
        refine cl_i (wc' := (wl_Cu_indexOf a_2_xs a_2_xs_places cI v_2_xs_count f_2_xs_places)) (va_runV (As := [.int (f_1_highX x14.toNatClampNeg)]) (rest := []) ⟨hx, hb, hml, hown, hts⟩ (c_Cu_indexOf l dC dI (cI := cI) (cZ := cZ) (cJ := cJ) a_2_xs a_2_xs_places H.size v_2_xs_count f_2_xs_places (f_1_highX x14.toNatClampNeg) r28 hb29) (cwV 1 hts (gl_V k_151 k_96 k_95 k_9 k_94) rfl rfl rfl (by decide +kernel) ⟨Nat.le_of_ble_eq_true rfl, Nat.le_of_ble_eq_true rfl⟩) ⟨PP_blind, va_recv hK hPc (ci := 9) (q0 := 0) rfl rfl, fun U hU hW => PP_at hK hN hPc hDc hU hW⟩ rfl rfl hl.1 rfl (lv_room (Nat.le_of_ble_eq_true rfl)) d_Ne_weigh_94 ⟨Nat.zero_le _, Nat.zero_le _⟩) hP hD hS hA [8, 9] [0, 1, 2, 3, 4, 5, 6, 7, 10, 11] rfl rfl (by decide) (by decide) (fun H locs hP hD hS => ?_)
        have hP : va_P (dC, dI) vwCl (wl_Ne_weigh a_0 a_0_weights a_1 a_1_lowX a_1_lowY a_1_highX a_1_highY a_2 a_2_xs a_2_xs_places a_2_ys a_2_ys_places b_0_pointX b_0_pointY b_0_looseSides b_0_sidesOut b_0_pieceLine b_0_begins b_0_directions b_0_leftSpaces b_0_pointAt b_1_thickness b_1_doors b_1_doorFrom b_1_doorTo b_2_cells cI v_0_points v_0_pieces v_0_looseEnds f15 v_1_count f_1_lowX f_1_lowY f_1_highX f_1_highY v_2_spaces v_2_xs_count f_2_xs_places v_2_ys_count f_2_ys_places) H := hP.sub [0, 1, 2, 3, 4, 5, 6, 7, 10, 11, 8, 9] rfl
        have hD : va_D A (wl_Ne_weigh a_0 a_0_weights a_1 a_1_lowX a_1_lowY a_1_highX a_1_highY a_2 a_2_xs a_2_xs_places a_2_ys a_2_ys_places b_0_pointX b_0_pointY b_0_looseSides b_0_sidesOut b_0_pieceLine b_0_begins b_0_directions b_0_leftSpaces b_0_pointAt b_1_thickness b_1_doors b_1_doorFrom b_1_doorTo b_2_cells cI v_0_points v_0_pieces v_0_looseEnds f15 v_1_count f_1_lowX f_1_lowY f_1_highX f_1_highY v_2_spaces v_2_xs_count f_2_xs_places v_2_ys_count f_2_ys_places) := hD.sub [0, 1, 2, 3, 4, 5, 6, 7, 10, 11, 8, 9] (by decide) rfl
        refine lv_aload_n hx hb d_Ne_weigh_97 rfl (lv_at hl 3 rfl) ?_
        refine va_get (D := (dC, dI)) (ci := 8) (v := .ref a_2_ys) (C := "SpaceCycles$Grid") (T := F_Gr) (N := 4) hx hb hts (in_F i_Gr) hown hK hP 7 rfl rfl 1 (by decide) (hts _ (in_c k_147)) (fun _ h9 => h9) rfl d_Ne_weigh_98 ?_
        refine lv_aload_n hx hb d_Ne_weigh_101 rfl (lv_at hl 2 rfl) ?_
        refine va_get (D := (dC, dI)) (ci := 1) (v := .ref a_1_highY) (C := "SpaceCycles$Lines") (T := F_Li) (N := 9) hx hb hts (in_F i_Li) hown hK hP 2 rfl rfl 3 (by decide) (hts _ (in_c k_154)) (fun _ h9 => h9) rfl d_Ne_weigh_102 ?_
        refine lv_iload_n hx hb d_Ne_weigh_105 rfl (lv_at hl 4 rfl) ?_
        obtain ⟨hi30, hm⟩ := gI_e hm
        refine va_iald hx hb hK hP 6 0 rfl rfl hi30 d_Ne_weigh_106 ?_
        obtain ⟨r31, hb32, hm⟩ := bd1_e hm
        have hPc := hP.sub (ws' := (wl_Cu_indexOf a_2_ys a_2_ys_places cI v_2_ys_count f_2_ys_places)) [10, 11] rfl
        have hDc := hD.sub (ws' := (wl_Cu_indexOf a_2_ys a_2_ys_places cI v_2_ys_count f_2_ys_places)) [10, 11] (by decide) rfl
        refine cl_i (wc' := (wl_Cu_indexOf a_2_ys a_2_ys_places cI v_2_ys_count f_2_ys_places)) (va_runV (As := [.int (f_1_highY x14.toNatClampNeg)]) (rest := [.int r28]) ⟨hx, hb, hml, hown, hts⟩ (c_Cu_indexOf l dC dI (cI := cI) (cZ := cZ) (cJ := cJ) a_2_ys a_2_ys_places H.size v_2_ys_count f_2_ys_places (f_1_highY x14.toNatClampNeg) r31 hb32) (cwV 1 hts (gl_V k_151 k_96 k_95 k_9 k_94) rfl rfl rfl (by decide +kernel) ⟨Nat.le_of_ble_eq_true rfl, Nat.le_of_ble_eq_true rfl⟩) ⟨PP_blind, va_recv hK hPc (ci := 9) (q0 := 0) rfl rfl, fun U hU hW => PP_at hK hN hPc hDc hU hW⟩ rfl rfl hl.1 rfl (lv_room (Nat.le_of_ble_eq_true rfl)) d_Ne_weigh_107 ⟨Nat.zero_le _, Nat.zero_le _⟩) hP hD hS hA [10, 11] [0, 1, 2, 3, 4, 5, 6, 7, 8, 9] rfl rfl (by decide) (by decide) (fun H locs hP hD hS => ?_)
        have hP : va_P (dC, dI) vwCl (wl_Ne_weigh a_0 a_0_weights a_1 a_1_lowX a_1_lowY a_1_highX a_1_highY a_2 a_2_xs a_2_xs_places a_2_ys a_2_ys_places b_0_pointX b_0_pointY b_0_looseSides b_0_sidesOut b_0_pieceLine b_0_begins b_0_directions b_0_leftSpaces b_0_pointAt b_1_thickness b_1_doors b_1_doorFrom b_1_doorTo b_2_cells cI v_0_points v_0_pieces v_0_looseEnds f15 v_1_count f_1_lowX f_1_lowY f_1_highX f_1_highY v_2_spaces v_2_xs_count f_2_xs_places v_2_ys_count f_2_ys_places) H := hP.sub [0, 1, 2, 3, 4, 5, 6, 7, 8, 9, 10, 11] rfl
        have hD : va_D A (wl_Ne_weigh a_0 a_0_weights a_1 a_1_lowX a_1_lowY a_1_highX a_1_highY a_2 a_2_xs a_2_xs_places a_2_ys a_2_ys_places b_0_pointX b_0_pointY b_0_looseSides b_0_sidesOut b_0_pieceLine b_0_begins b_0_directions b_0_leftSpaces b_0_pointAt b_1_thickness b_1_doors b_1_doorFrom b_1_doorTo b_2_cells cI v_0_points v_0_pieces v_0_looseEnds f15 v_1_count f_1_lowX f_1_lowY f_1_highX f_1_highY v_2_spaces v_2_xs_count f_2_xs_places v_2_ys_count f_2_ys_places) := hD.sub [0, 1, 2, 3, 4, 5, 6, 7, 8, 9, 10, 11] (by decide) rfl
        obtain ⟨r33, hb34, hm⟩ := bd1_e hm
        have hPc := hP.sub (ws' := (wl_Ne_node)) [] rfl
        have hDc := hD.sub (ws' := (wl_Ne_node)) [] (by decide) rfl
        refine cl_i (wc' := (wl_Ne_node)) (va_runS (As := [.int r28, .int r31]) (rest := []) ⟨hx, hb, hml, hown, hts⟩ (c_Ne_node l dC dI (cI := cI) (cZ := cZ) (cJ := cJ) H.size r28 r31 r33 hb34) (va_cwS 2 hts (gl_S k_146 k_144 k_145 k_143) rfl rfl rfl (by decide +kernel) ⟨Nat.le_of_ble_eq_true rfl, Nat.le_of_ble_eq_true rfl⟩) ⟨PP_blind, fun U hU hW => PP_at hK hN hPc hDc hU hW⟩ rfl rfl hl.1 rfl (lv_room (Nat.le_of_ble_eq_true rfl)) d_Ne_weigh_110 ⟨Nat.zero_le _, Nat.zero_le _⟩) hP hD hS hA [] [0, 1, 2, 3, 4, 5, 6, 7, 8, 9, 10, 11] rfl rfl (by decide) (by decide) (fun H locs hP hD hS => ?_)
        have hP : va_P (dC, dI) vwCl (wl_Ne_weigh a_0 a_0_weights a_1 a_1_lowX a_1_lowY a_1_highX a_1_highY a_2 a_2_xs a_2_xs_places a_2_ys a_2_ys_places b_0_pointX b_0_pointY b_0_looseSides b_0_sidesOut b_0_pieceLine b_0_begins b_0_directions b_0_leftSpaces b_0_pointAt b_1_thickness b_1_doors b_1_doorFrom b_1_doorTo b_2_cells cI v_0_points v_0_pieces v_0_looseEnds f15 v_1_count f_1_lowX f_1_lowY f_1_highX f_1_highY v_2_spaces v_2_xs_count f_2_xs_places v_2_ys_count f_2_ys_places) H := hP.sub [0, 1, 2, 3, 4, 5, 6, 7, 8, 9, 10, 11] rfl
        have hD : va_D A (wl_Ne_weigh a_0 a_0_weights a_1 a_1_lowX a_1_lowY a_1_highX a_1_highY a_2 a_2_xs a_2_xs_places a_2_ys a_2_ys_places b_0_pointX b_0_pointY b_0_looseSides b_0_sidesOut b_0_pieceLine b_0_begins b_0_directions b_0_leftSpaces b_0_pointAt b_1_thickness b_1_doors b_1_doorFrom b_1_doorTo b_2_cells cI v_0_points v_0_pieces v_0_looseEnds f15 v_1_count f_1_lowX f_1_lowY f_1_highX f_1_highY v_2_spaces v_2_xs_count f_2_xs_places v_2_ys_count f_2_ys_places) := hD.sub [0, 1, 2, 3, 4, 5, 6, 7, 8, 9, 10, 11] (by decide) rfl
        refine lv_istore (lv' := [(5, .int r33), (4, .int r25), (0, .ref a_0), (1, .ref a_1), (2, .ref a_2), (3, .int x14)]) hx hb d_Ne_weigh_113 hl (by decide) rfl (fun ls hl => ?_)
        refine lv_aload_n hx hb d_Ne_weigh_115 rfl (lv_at hl 3 rfl) ?_
        refine lv_iload_n hx hb d_Ne_weigh_116 rfl (lv_at hl 5 rfl) ?_
        obtain ⟨r35, hb36, hm⟩ := bd1_e hm
        have hPc := hP.sub (ws' := (wl_Li_isFlat a_1 a_1_lowY a_1_highY a_1_lowX a_1_highX b_1_thickness b_1_doors b_1_doorFrom b_1_doorTo cI v_1_count f_1_lowY f_1_highY)) [2, 4, 6] rfl
        have hDc := hD.sub (ws' := (wl_Li_isFlat a_1 a_1_lowY a_1_highY a_1_lowX a_1_highX b_1_thickness b_1_doors b_1_doorFrom b_1_doorTo cI v_1_count f_1_lowY f_1_highY)) [2, 4, 6] (by decide) rfl
        refine cl_i (wc' := (wl_Li_isFlat a_1 a_1_lowY a_1_highY a_1_lowX a_1_highX b_1_thickness b_1_doors b_1_doorFrom b_1_doorTo cI v_1_count f_1_lowY f_1_highY)) (va_runV (As := [.int x14]) (rest := []) ⟨hx, hb, hml, hown, hts⟩ (c_Li_isFlat l dC dI (cI := cI) (cZ := cZ) (cJ := cJ) a_1 a_1_lowY a_1_highY a_1_lowX a_1_highX b_1_thickness b_1_doors b_1_doorFrom b_1_doorTo H.size v_1_count f_1_lowY f_1_highY x14 r35 hb36) (cwV 1 hts (gl_V k_158 k_157 k_156 k_30 k_155) rfl rfl rfl (by decide +kernel) ⟨Nat.le_of_ble_eq_true rfl, Nat.le_of_ble_eq_true rfl⟩) ⟨PP_blind, va_recv hK hPc (ci := 1) (q0 := 0) rfl rfl, fun U hU hW => PP_at hK hN hPc hDc hU hW⟩ rfl rfl hl.1 rfl (lv_room (Nat.le_of_ble_eq_true rfl)) d_Ne_weigh_117 ⟨Nat.zero_le _, Nat.zero_le _⟩) hP hD hS hA [2, 4, 6] [0, 1, 3, 5, 7, 8, 9, 10, 11] rfl rfl (by decide) (by decide) (fun H locs hP hD hS => ?_)
        have hP : va_P (dC, dI) vwCl (wl_Ne_weigh a_0 a_0_weights a_1 a_1_lowX a_1_lowY a_1_highX a_1_highY a_2 a_2_xs a_2_xs_places a_2_ys a_2_ys_places b_0_pointX b_0_pointY b_0_looseSides b_0_sidesOut b_0_pieceLine b_0_begins b_0_directions b_0_leftSpaces b_0_pointAt b_1_thickness b_1_doors b_1_doorFrom b_1_doorTo b_2_cells cI v_0_points v_0_pieces v_0_looseEnds f15 v_1_count f_1_lowX f_1_lowY f_1_highX f_1_highY v_2_spaces v_2_xs_count f_2_xs_places v_2_ys_count f_2_ys_places) H := hP.sub [0, 1, 9, 2, 10, 3, 11, 4, 5, 6, 7, 8] rfl
        have hD : va_D A (wl_Ne_weigh a_0 a_0_weights a_1 a_1_lowX a_1_lowY a_1_highX a_1_highY a_2 a_2_xs a_2_xs_places a_2_ys a_2_ys_places b_0_pointX b_0_pointY b_0_looseSides b_0_sidesOut b_0_pieceLine b_0_begins b_0_directions b_0_leftSpaces b_0_pointAt b_1_thickness b_1_doors b_1_doorFrom b_1_doorTo b_2_cells cI v_0_points v_0_pieces v_0_looseEnds f15 v_1_count f_1_lowX f_1_lowY f_1_highX f_1_highY v_2_spaces v_2_xs_count f_2_xs_places v_2_ys_count f_2_ys_places) := hD.sub [0, 1, 9, 2, 10, 3, 11, 4, 5, 6, 7, 8] (by decide) rfl
        obtain ⟨x40, hb38, hm⟩ := bd1_e hm
        have K37 : ∀ (H : Heap) (locs : List Loc) (ls : Array Slot), va_P (dC, dI) vwCl (wl_Ne_weigh a_0 a_0_weights a_1 a_1_lowX a_1_lowY a_1_highX a_1_highY a_2 a_2_xs a_2_xs_places a_2_ys a_2_ys_places b_0_pointX b_0_pointY b_0_looseSides b_0_sidesOut b_0_pieceLine b_0_begins b_0_directions b_0_leftSpaces b_0_pointAt b_1_thickness b_1_doors b_1_doorFrom b_1_doorTo b_2_cells cI v_0_points v_0_pieces v_0_looseEnds f15 v_1_count f_1_lowX f_1_lowY f_1_highX f_1_highY v_2_spaces v_2_xs_count f_2_xs_places v_2_ys_count f_2_ys_places) H → va_D A (wl_Ne_weigh a_0 a_0_weights a_1 a_1_lowX a_1_lowY a_1_highX a_1_highY a_2 a_2_xs a_2_xs_places a_2_ys a_2_ys_places b_0_pointX b_0_pointY b_0_looseSides b_0_sidesOut b_0_pieceLine b_0_begins b_0_directions b_0_leftSpaces b_0_pointAt b_1_thickness b_1_doors b_1_doorFrom b_1_doorTo b_2_cells cI v_0_points v_0_pieces v_0_looseEnds f15 v_1_count f_1_lowX f_1_lowY f_1_highX f_1_highY v_2_spaces v_2_xs_count f_2_xs_places v_2_ys_count f_2_ys_places) → va_S A s.heap H locs → lv_has ls 8 [(0, .ref a_0), (1, .ref a_1), (2, .ref a_2), (3, .int x14), (4, .int r25), (5, .int r33)] → W p l e rm_Ne_weigh s m args below meth c H locs 0 0 Q (F0 m 129 ls [.int x40]) := by
          intro H locs ls hP hD hS hl
          refine lv_istore (lv' := [(6, .int x40), (0, .ref a_0), (1, .ref a_1), (2, .ref a_2), (3, .int x14), (4, .int r25), (5, .int r33)]) hx hb d_Ne_weigh_129 hl (by decide) rfl (fun ls hl => ?_)
          refine lv_iload hx hb d_Ne_weigh_131 (lv_at hl 5 rfl) ?_
          refine lv_istore (lv' := [(7, .int r25), (6, .int x40), (0, .ref a_0), (1, .ref a_1), (2, .ref a_2), (3, .int x14), (4, .int r25), (5, .int r33)]) hx hb d_Ne_weigh_133 hl (by decide) rfl (fun ls hl => ?_)
          have L135_45 : ∀ (n : Nat) (x42 : Int32) (f43 : Nat → Int32) (f44 : Nat → Int32), m_Ne_weigh_L135 r25 r33 x40 n x42 f43 = some f44 → (∀ (H : Heap) (locs : List Loc) (ls : Array Slot), va_P (dC, dI) vwCl (wl_Ne_weigh a_0 a_0_weights a_1 a_1_lowX a_1_lowY a_1_highX a_1_highY a_2 a_2_xs a_2_xs_places a_2_ys a_2_ys_places b_0_pointX b_0_pointY b_0_looseSides b_0_sidesOut b_0_pieceLine b_0_begins b_0_directions b_0_leftSpaces b_0_pointAt b_1_thickness b_1_doors b_1_doorFrom b_1_doorTo b_2_cells cI v_0_points v_0_pieces v_0_looseEnds f44 v_1_count f_1_lowX f_1_lowY f_1_highX f_1_highY v_2_spaces v_2_xs_count f_2_xs_places v_2_ys_count f_2_ys_places) H → va_D A (wl_Ne_weigh a_0 a_0_weights a_1 a_1_lowX a_1_lowY a_1_highX a_1_highY a_2 a_2_xs a_2_xs_places a_2_ys a_2_ys_places b_0_pointX b_0_pointY b_0_looseSides b_0_sidesOut b_0_pieceLine b_0_begins b_0_directions b_0_leftSpaces b_0_pointAt b_1_thickness b_1_doors b_1_doorFrom b_1_doorTo b_2_cells cI v_0_points v_0_pieces v_0_looseEnds f44 v_1_count f_1_lowX f_1_lowY f_1_highX f_1_highY v_2_spaces v_2_xs_count f_2_xs_places v_2_ys_count f_2_ys_places) → va_S A s.heap H locs → lv_has ls 8 [(0, .ref a_0), (1, .ref a_1), (2, .ref a_2), (3, .int x14)] → W p l e rm_Ne_weigh s m args below meth c H locs 0 0 Q (F0 m 181 ls [])) → ∀ (H : Heap) (locs : List Loc) (ls : Array Slot), va_P (dC, dI) vwCl (wl_Ne_weigh a_0 a_0_weights a_1 a_1_lowX a_1_lowY a_1_highX a_1_highY a_2 a_2_xs a_2_xs_places a_2_ys a_2_ys_places b_0_pointX b_0_pointY b_0_looseSides b_0_sidesOut b_0_pieceLine b_0_begins b_0_directions b_0_leftSpaces b_0_pointAt b_1_thickness b_1_doors b_1_doorFrom b_1_doorTo b_2_cells cI v_0_points v_0_pieces v_0_looseEnds f43 v_1_count f_1_lowX f_1_lowY f_1_highX f_1_highY v_2_spaces v_2_xs_count f_2_xs_places v_2_ys_count f_2_ys_places) H → va_D A (wl_Ne_weigh a_0 a_0_weights a_1 a_1_lowX a_1_lowY a_1_highX a_1_highY a_2 a_2_xs a_2_xs_places a_2_ys a_2_ys_places b_0_pointX b_0_pointY b_0_looseSides b_0_sidesOut b_0_pieceLine b_0_begins b_0_directions b_0_leftSpaces b_0_pointAt b_1_thickness b_1_doors b_1_doorFrom b_1_doorTo b_2_cells cI v_0_points v_0_pieces v_0_looseEnds f43 v_1_count f_1_lowX f_1_lowY f_1_highX f_1_highY v_2_spaces v_2_xs_count f_2_xs_places v_2_ys_count f_2_ys_places) → va_S A s.heap H locs → lv_has ls 8 [(0, .ref a_0), (1, .ref a_1), (2, .ref a_2), (3, .int x14), (4, .int r25), (5, .int r33), (6, .int x40), (7, .int x42)] → W p l e rm_Ne_weigh s m args below meth c H locs 0 0 Q (F0 m 135 ls []) := by
            intro n
            induction n with
            | zero => intro x42 f43 f44 hm; simp [m_Ne_weigh_L135] at hm
            | succ n ih =>
              intro x42 f43 f44 hm KE H locs ls hP hD hS hl
              rw [m_Ne_weigh_L135] at hm
              refine lv_iload hx hb d_Ne_weigh_135 (lv_at hl 7 rfl) ?_
              refine lv_iload hx hb d_Ne_weigh_137 (lv_at hl 5 rfl) ?_
              refine lv_icmp_gt (tgt := 181) hx hb d_Ne_weigh_139 (by decide) (fun c46 => ?_) (fun c46 => ?_)
              · replace hm := if_t hm c46
                cases hm
                exact KE H locs ls hP hD hS (lv_sub hl [0, 1, 2, 3] rfl)
              · replace hm := if_f hm c46
                refine lv_aload_n hx hb d_Ne_weigh_142 rfl (lv_at hl 0 rfl) ?_
                refine va_get (D := (dC, dI)) (ci := 3) (v := .ref a_0_weights) (C := "SpaceCycles$Net") (T := F_Ne) (N := 13) hx hb hts (in_F i_Ne) hown hK hP 0 rfl rfl 11 (by decide) (hts _ (in_c k_142)) (fun _ h9 => h9) rfl d_Ne_weigh_143 ?_
                refine lv_iload hx hb d_Ne_weigh_146 (lv_at hl 7 rfl) ?_
                refine lv_dup2_11 hx hb d_Ne_weigh_148 rfl rfl ?_
                obtain ⟨hi47, hm⟩ := gI_e hm
                refine va_iald hx hb hK hP 1 0 rfl rfl hi47 d_Ne_weigh_149 ?_
                refine lv_iload hx hb d_Ne_weigh_150 (lv_at hl 7 rfl) ?_
                refine lv_iload hx hb d_Ne_weigh_152 (lv_at hl 4 rfl) ?_
                obtain ⟨x51, hb49, hm⟩ := bd1_e hm
                have K48 : ∀ (H : Heap) (locs : List Loc) (ls : Array Slot), va_P (dC, dI) vwCl (wl_Ne_weigh a_0 a_0_weights a_1 a_1_lowX a_1_lowY a_1_highX a_1_highY a_2 a_2_xs a_2_xs_places a_2_ys a_2_ys_places b_0_pointX b_0_pointY b_0_looseSides b_0_sidesOut b_0_pieceLine b_0_begins b_0_directions b_0_leftSpaces b_0_pointAt b_1_thickness b_1_doors b_1_doorFrom b_1_doorTo b_2_cells cI v_0_points v_0_pieces v_0_looseEnds f43 v_1_count f_1_lowX f_1_lowY f_1_highX f_1_highY v_2_spaces v_2_xs_count f_2_xs_places v_2_ys_count f_2_ys_places) H → va_D A (wl_Ne_weigh a_0 a_0_weights a_1 a_1_lowX a_1_lowY a_1_highX a_1_highY a_2 a_2_xs a_2_xs_places a_2_ys a_2_ys_places b_0_pointX b_0_pointY b_0_looseSides b_0_sidesOut b_0_pieceLine b_0_begins b_0_directions b_0_leftSpaces b_0_pointAt b_1_thickness b_1_doors b_1_doorFrom b_1_doorTo b_2_cells cI v_0_points v_0_pieces v_0_looseEnds f43 v_1_count f_1_lowX f_1_lowY f_1_highX f_1_highY v_2_spaces v_2_xs_count f_2_xs_places v_2_ys_count f_2_ys_places) → va_S A s.heap H locs → lv_has ls 8 [(0, .ref a_0), (1, .ref a_1), (2, .ref a_2), (3, .int x14), (4, .int r25), (5, .int r33), (6, .int x40), (7, .int x42)] → W p l e rm_Ne_weigh s m args below meth c H locs 0 0 Q (F0 m 169 ls [.int x51, .int (f43 x42.toNatClampNeg), .int x42, .ref a_0_weights]) := by
                  intro H locs ls hP hD hS hl
                  refine lv_iadd hx hb d_Ne_weigh_169 ?_
                  obtain ⟨hi54, hm⟩ := gI_e hm
                  obtain ⟨f55, ef55⟩ : ∃ y : Nat → Int32, y = upd f43 x42.toNatClampNeg ((f43 x42.toNatClampNeg) + x51) := ⟨_, rfl⟩
                  replace hm := lt_el hm ef55
                  refine va_iast hx hb hK hP hD hS 1 0 rfl rfl hi54 d_Ne_weigh_170 (fun H locs hP hD hS => ?_)
                  rw [← ef55] at hP hD
                  have hP : va_P (dC, dI) vwCl (wl_Ne_weigh a_0 a_0_weights a_1 a_1_lowX a_1_lowY a_1_highX a_1_highY a_2 a_2_xs a_2_xs_places a_2_ys a_2_ys_places b_0_pointX b_0_pointY b_0_looseSides b_0_sidesOut b_0_pieceLine b_0_begins b_0_directions b_0_leftSpaces b_0_pointAt b_1_thickness b_1_doors b_1_doorFrom b_1_doorTo b_2_cells cI v_0_points v_0_pieces v_0_looseEnds f55 v_1_count f_1_lowX f_1_lowY f_1_highX f_1_highY v_2_spaces v_2_xs_count f_2_xs_places v_2_ys_count f_2_ys_places) H := hP
                  have hD : va_D A (wl_Ne_weigh a_0 a_0_weights a_1 a_1_lowX a_1_lowY a_1_highX a_1_highY a_2 a_2_xs a_2_xs_places a_2_ys a_2_ys_places b_0_pointX b_0_pointY b_0_looseSides b_0_sidesOut b_0_pieceLine b_0_begins b_0_directions b_0_leftSpaces b_0_pointAt b_1_thickness b_1_doors b_1_doorFrom b_1_doorTo b_2_cells cI v_0_points v_0_pieces v_0_looseEnds f55 v_1_count f_1_lowX f_1_lowY f_1_highX f_1_highY v_2_spaces v_2_xs_count f_2_xs_places v_2_ys_count f_2_ys_places) := hD
                  refine lv_iload hx hb d_Ne_weigh_171 (lv_at hl 7 rfl) ?_
                  refine lv_iload hx hb d_Ne_weigh_173 (lv_at hl 6 rfl) ?_
                  refine lv_iadd hx hb d_Ne_weigh_175 ?_
                  refine lv_topi (fun x56 ex56 => ?_)
                  replace hm := lt_el hm ex56
                  refine lv_istore (lv' := [(7, .int x56), (0, .ref a_0), (1, .ref a_1), (2, .ref a_2), (3, .int x14), (4, .int r25), (5, .int r33), (6, .int x40)]) hx hb d_Ne_weigh_176 hl (by decide) rfl (fun ls hl => ?_)
                  refine lv_goto (tgt := 135) hx hb d_Ne_weigh_178 (by decide) ?_
                  exact ih _ _ _ hm KE H locs ls hP hD hS (lv_sub hl [1, 2, 3, 4, 5, 6, 7, 0] rfl)
                replace hm := hb49
                refine lv_icmp_eq (tgt := 164) hx hb d_Ne_weigh_154 (by decide) (fun c52 => ?_) (fun c52 => ?_)
                · replace hm := if_t hm c52
                  refine lv_iconst (v := 2) hx hb d_Ne_weigh_164 (by decide) ?_
                  refine lv_goto (tgt := 169) hx hb d_Ne_weigh_165 (by decide) ?_
                  cases hm
                  exact K48 H locs ls hP hD hS (lv_sub hl [0, 1, 2, 3, 4, 5, 6, 7] rfl)
                · replace hm := if_f hm c52
                  refine lv_iload hx hb d_Ne_weigh_157 (lv_at hl 7 rfl) ?_
                  refine lv_iload hx hb d_Ne_weigh_159 (lv_at hl 5 rfl) ?_
                  refine lv_icmp_ne (tgt := 168) hx hb d_Ne_weigh_161 (by decide) (fun c53 => ?_) (fun c53 => ?_)
                  · replace hm := if_f hm c53
                    refine lv_iconst (v := 1) hx hb d_Ne_weigh_168 (by decide) ?_
                    cases hm
                    exact K48 H locs ls hP hD hS (lv_sub hl [0, 1, 2, 3, 4, 5, 6, 7] rfl)
                  · replace hm := if_t hm c53
                    refine lv_iconst (v := 2) hx hb d_Ne_weigh_164 (by decide) ?_
                    refine lv_goto (tgt := 169) hx hb d_Ne_weigh_165 (by decide) ?_
                    cases hm
                    exact K48 H locs ls hP hD hS (lv_sub hl [0, 1, 2, 3, 4, 5, 6, 7] rfl)
          obtain ⟨f44, hb57, hm⟩ := bd1_e hm
          refine L135_45 fu _ _ _ hb57 (fun H locs ls hP hD hS hl => ?_) H locs ls hP hD hS (lv_sub hl [2, 3, 4, 5, 6, 7, 1, 0] rfl)
          obtain ⟨x58, ex58⟩ : ∃ y : Int32, y = x14 + 1 := ⟨_, rfl⟩
          replace hm := lt_el hm ex58
          refine lv_iinc (v := x58) (lv' := [(3, .int x58), (0, .ref a_0), (1, .ref a_1), (2, .ref a_2)]) hx hb d_Ne_weigh_181 hl (k := 3) rfl (by rw [ex58]; rfl) (by decide) rfl (fun ls hl => ?_)
          refine lv_goto (tgt := 45) hx hb d_Ne_weigh_184 (by decide) ?_
          exact ih _ _ _ hm KE H locs ls hP hD hS (lv_sub hl [1, 2, 3, 0] rfl)
        replace hm := hb38
        refine lv_if_eq (tgt := 128) hx hb d_Ne_weigh_120 (by decide) (fun c41 => ?_) (fun c41 => ?_)
        · replace hm := if_t hm c41
          refine lv_iconst (v := 1) hx hb d_Ne_weigh_128 (by decide) ?_
          cases hm
          exact K37 H locs ls hP hD hS (lv_sub hl [2, 3, 4, 5, 1, 0] rfl)
        · replace hm := if_f hm c41
          refine lv_bipush (v := 40) hx hb d_Ne_weigh_123 (by decide) ?_
          refine lv_goto (tgt := 129) hx hb d_Ne_weigh_125 (by decide) ?_
          cases hm
          exact K37 H locs ls hP hD hS (lv_sub hl [2, 3, 4, 5, 1, 0] rfl)
  obtain ⟨f16, hb59, hm⟩ := bd1_e hm
  refine L45_17 fu _ _ _ hb59 (fun H locs ls hP hD hS hl => ?_) H locs ls hP hD hS (lv_sub hl [1, 2, 3, 0] rfl)
  cases hm
  exact hret _ H locs ls d_Ne_weigh_187 hP hD hS
set_option maxHeartbeats 4000000 in
set_option maxRecDepth 100000 in
theorem c_Ne_weigh (l : Launch) (dC : Nat → ClassId) (dI : Nat → Nat → Nat) {cI cZ cJ : ClassId} (a_0 a_0_weights a_1 a_1_lowX a_1_lowY a_1_highX a_1_highY a_2 a_2_xs a_2_xs_places a_2_ys a_2_ys_places b_0_pointX b_0_pointY b_0_looseSides b_0_sidesOut b_0_pieceLine b_0_begins b_0_directions b_0_leftSpaces b_0_pointAt b_1_thickness b_1_doors b_1_doorFrom b_1_doorTo b_2_cells : Nat) (sz : Nat) (v_0_points : Int32) (v_0_pieces : Int32) (v_0_looseEnds : Int32) (f_0_weights : Nat → Int32) (v_1_count : Int32) (f_1_lowX : Nat → Int32) (f_1_lowY : Nat → Int32) (f_1_highX : Nat → Int32) (f_1_highY : Nat → Int32) (v_2_spaces : Int32) (v_2_xs_count : Int32) (f_2_xs_places : Nat → Int32) (v_2_ys_count : Int32) (f_2_ys_places : Nat → Int32)  (of_0_weights : Nat → Int32) (hm : m_Ne_weigh f_0_weights v_1_count f_1_lowX f_1_lowY f_1_highX f_1_highY v_2_xs_count f_2_xs_places v_2_ys_count f_2_ys_places = some of_0_weights) : Met l y_Ne_weigh w_Ne_weigh rm_Ne_weigh (PP dC dI [(cI, .int), (cZ, .boolean), (cJ, .long)] [.ref a_0, .ref a_1, .ref a_2] sz (wl_Ne_weigh a_0 a_0_weights a_1 a_1_lowX a_1_lowY a_1_highX a_1_highY a_2 a_2_xs a_2_xs_places a_2_ys a_2_ys_places b_0_pointX b_0_pointY b_0_looseSides b_0_sidesOut b_0_pieceLine b_0_begins b_0_directions b_0_leftSpaces b_0_pointAt b_1_thickness b_1_doors b_1_doorFrom b_1_doorTo b_2_cells cI v_0_points v_0_pieces v_0_looseEnds f_0_weights v_1_count f_1_lowX f_1_lowY f_1_highX f_1_highY v_2_spaces v_2_xs_count f_2_xs_places v_2_ys_count f_2_ys_places)) (QV dC dI [(cI, .int), (cZ, .boolean), (cJ, .long)] sz (wl_Ne_weigh a_0 a_0_weights a_1 a_1_lowX a_1_lowY a_1_highX a_1_highY a_2 a_2_xs a_2_xs_places a_2_ys a_2_ys_places b_0_pointX b_0_pointY b_0_looseSides b_0_sidesOut b_0_pieceLine b_0_begins b_0_directions b_0_leftSpaces b_0_pointAt b_1_thickness b_1_doors b_1_doorFrom b_1_doorTo b_2_cells cI v_0_points v_0_pieces v_0_looseEnds f_0_weights v_1_count f_1_lowX f_1_lowY f_1_highX f_1_highY v_2_spaces v_2_xs_count f_2_xs_places v_2_ys_count f_2_ys_places) (wl_Ne_weigh a_0 a_0_weights a_1 a_1_lowX a_1_lowY a_1_highX a_1_highY a_2 a_2_xs a_2_xs_places a_2_ys a_2_ys_places b_0_pointX b_0_pointY b_0_looseSides b_0_sidesOut b_0_pieceLine b_0_begins b_0_directions b_0_leftSpaces b_0_pointAt b_1_thickness b_1_doors b_1_doorFrom b_1_doorTo b_2_cells cI v_0_points v_0_pieces v_0_looseEnds of_0_weights v_1_count f_1_lowX f_1_lowY f_1_highX f_1_highY v_2_spaces v_2_xs_count f_2_xs_places v_2_ys_count f_2_ys_places)) 0 0 (va_A (wl_Ne_weigh a_0 a_0_weights a_1 a_1_lowX a_1_lowY a_1_highX a_1_highY a_2 a_2_xs a_2_xs_places a_2_ys a_2_ys_places b_0_pointX b_0_pointY b_0_looseSides b_0_sidesOut b_0_pieceLine b_0_begins b_0_directions b_0_leftSpaces b_0_pointAt b_1_thickness b_1_doors b_1_doorFrom b_1_doorTo b_2_cells cI v_0_points v_0_pieces v_0_looseEnds f_0_weights v_1_count f_1_lowX f_1_lowY f_1_highX f_1_highY v_2_spaces v_2_xs_count f_2_xs_places v_2_ys_count f_2_ys_places) sz) := by
  refine Met.ofW (cc := b_Ne_weigh) (maxL := 8) (ret := none) (by decide) rfl ?_
  intro p e s m args below meth c s₁ B hml hv
  obtain ⟨rfl, hsz, hP, hK, hD0, hN⟩ := hv
  subst hsz
  have hl := lv_entry ([.ref a_0, .ref a_1, .ref a_2]) (n := 8) (Nat.le_of_ble_eq_true rfl)
  rw [lg_entry_eq]
  generalize (lg_sl ([.ref a_0, .ref a_1, .ref a_2]) ++ List.replicate (8 - (lg_sl ([.ref a_0, .ref a_1, .ref a_2])).length) Slot.unset).toArray = ls at hl ⊢
  exact t_Ne_weigh a_0 a_0_weights a_1 a_1_lowX a_1_lowY a_1_highX a_1_highY a_2 a_2_xs a_2_xs_places a_2_ys a_2_ys_places b_0_pointX b_0_pointY b_0_looseSides b_0_sidesOut b_0_pieceLine b_0_begins b_0_directions b_0_leftSpaces b_0_pointAt b_1_thickness b_1_doors b_1_doorFrom b_1_doorTo b_2_cells v_0_points v_0_pieces v_0_looseEnds f_0_weights v_1_count f_1_lowX f_1_lowY f_1_highX f_1_highY v_2_spaces v_2_xs_count f_2_xs_places v_2_ys_count f_2_ys_places of_0_weights B.exec B.bytes hml (findClass_of_methodNamed B.named) (atoms_spec (ws := w_Ne_weigh) B.pre) hK hN (fun q h => Or.inr h) (fun pc H locs ls hd hP9 hD9 hS => W.vret B.exec B.bytes B.returns (fun t ht hW => ⟨⟨(), rfl, trivial, by rw [ht]; exact hP9, va_K.moved hW.alike hK, hD9⟩, hS.F ht⟩) hS.2.2 hd) hm s.heap [] ls hP hD0.self va_S.rf hl

theorem k_159 : ((.fieldLink "SpaceCycles$Net" 21 "SpaceCycles$Net" "points" "I") : Cond) ∈ gl := gl_i 127 (by decide +kernel) (by decide +kernel)
theorem k_160 : ((.fieldLink "SpaceCycles$Net" 49 "SpaceCycles$Net" "pointAt" "[I") : Cond) ∈ gl := gl_i 142 (by decide +kernel) (by decide +kernel)
theorem k_161 : ((.fieldLink "SpaceCycles$Net" 9 "SpaceCycles$Net" "pointX" "[I") : Cond) ∈ gl := gl_i 119 (by decide +kernel) (by decide +kernel)
theorem k_162 : ((.fieldLink "SpaceCycles$Net" 140 "SpaceCycles$Cuts" "places" "[I") : Cond) ∈ gl := gl_i 285 (by decide +kernel) (by decide +kernel)
theorem k_163 : ((.fieldLink "SpaceCycles$Net" 15 "SpaceCycles$Net" "pointY" "[I") : Cond) ∈ gl := gl_i 122 (by decide +kernel) (by decide +kernel)
theorem k_164 : ((.fieldLink "SpaceCycles$Net" 31 "SpaceCycles$Net" "sidesOut" "[I") : Cond) ∈ gl := gl_i 136 (by decide +kernel) (by decide +kernel)
-- SpaceCycles$Net.numberPoints(LSpaceCycles$Grid;)V
abbrev b_Ne_numberPoints : ByteArray := prog_8_method_20_code
abbrev y_Ne_numberPoints : MethodName := ⟨"SpaceCycles$Net", "numberPoints", "(LSpaceCycles$Grid;)V"⟩
abbrev w_Ne_numberPoints : List Cond := Cond.code y_Ne_numberPoints b_Ne_numberPoints 5 none :: gl
abbrev rm_Ne_numberPoints : Room := { frames := 2, cells := 0, slots := 0, locals := 46 }
theorem d_Ne_numberPoints_0 : decode b_Ne_numberPoints 0 = .ok (.aload_n 0, 1) := by decide +kernel
theorem d_Ne_numberPoints_1 : decode b_Ne_numberPoints 1 = .ok (.iconst 0, 1) := by decide +kernel
theorem d_Ne_numberPoints_2 : decode b_Ne_numberPoints 2 = .ok (.putfield 21, 3) := by decide +kernel
theorem d_Ne_numberPoints_5 : decode b_Ne_numberPoints 5 = .ok (.iconst 0, 1) := by decide +kernel
theorem d_Ne_numberPoints_6 : decode b_Ne_numberPoints 6 = .ok (.istore_n 2, 1) := by decide +kernel
theorem d_Ne_numberPoints_7 : decode b_Ne_numberPoints 7 = .ok (.iload_n 2, 1) := by decide +kernel
theorem d_Ne_numberPoints_8 : decode b_Ne_numberPoints 8 = .ok (.aload_n 1, 1) := by decide +kernel
theorem d_Ne_numberPoints_9 : decode b_Ne_numberPoints 9 = .ok (.getfield 100, 3) := by decide +kernel
theorem d_Ne_numberPoints_12 : decode b_Ne_numberPoints 12 = .ok (.getfield 106, 3) := by decide +kernel
theorem d_Ne_numberPoints_15 : decode b_Ne_numberPoints 15 = .ok (.if_icmp .ge 121, 3) := by decide +kernel
theorem d_Ne_numberPoints_18 : decode b_Ne_numberPoints 18 = .ok (.iconst 0, 1) := by decide +kernel
theorem d_Ne_numberPoints_19 : decode b_Ne_numberPoints 19 = .ok (.istore_n 3, 1) := by decide +kernel
theorem d_Ne_numberPoints_20 : decode b_Ne_numberPoints 20 = .ok (.iload_n 3, 1) := by decide +kernel
theorem d_Ne_numberPoints_21 : decode b_Ne_numberPoints 21 = .ok (.aload_n 1, 1) := by decide +kernel
theorem d_Ne_numberPoints_22 : decode b_Ne_numberPoints 22 = .ok (.getfield 112, 3) := by decide +kernel
theorem d_Ne_numberPoints_25 : decode b_Ne_numberPoints 25 = .ok (.getfield 106, 3) := by decide +kernel
theorem d_Ne_numberPoints_28 : decode b_Ne_numberPoints 28 = .ok (.if_icmp .ge 102, 3) := by decide +kernel
theorem d_Ne_numberPoints_31 : decode b_Ne_numberPoints 31 = .ok (.iload_n 2, 1) := by decide +kernel
theorem d_Ne_numberPoints_32 : decode b_Ne_numberPoints 32 = .ok (.iload_n 3, 1) := by decide +kernel
theorem d_Ne_numberPoints_33 : decode b_Ne_numberPoints 33 = .ok (.invokestatic 109, 3) := by decide +kernel
theorem d_Ne_numberPoints_36 : decode b_Ne_numberPoints 36 = .ok (.istore 4, 2) := by decide +kernel
theorem d_Ne_numberPoints_38 : decode b_Ne_numberPoints 38 = .ok (.aload_n 0, 1) := by decide +kernel
theorem d_Ne_numberPoints_39 : decode b_Ne_numberPoints 39 = .ok (.getfield 49, 3) := by decide +kernel
theorem d_Ne_numberPoints_42 : decode b_Ne_numberPoints 42 = .ok (.iload 4, 2) := by decide +kernel
theorem d_Ne_numberPoints_44 : decode b_Ne_numberPoints 44 = .ok (.iconst (-1), 1) := by decide +kernel
theorem d_Ne_numberPoints_45 : decode b_Ne_numberPoints 45 = .ok (.iastore, 1) := by decide +kernel
theorem d_Ne_numberPoints_46 : decode b_Ne_numberPoints 46 = .ok (.aload_n 0, 1) := by decide +kernel
theorem d_Ne_numberPoints_47 : decode b_Ne_numberPoints 47 = .ok (.getfield 46, 3) := by decide +kernel
theorem d_Ne_numberPoints_50 : decode b_Ne_numberPoints 50 = .ok (.iload 4, 2) := by decide +kernel
theorem d_Ne_numberPoints_52 : decode b_Ne_numberPoints 52 = .ok (.iaload, 1) := by decide +kernel
theorem d_Ne_numberPoints_53 : decode b_Ne_numberPoints 53 = .ok (.iconst 2, 1) := by decide +kernel
theorem d_Ne_numberPoints_54 : decode b_Ne_numberPoints 54 = .ok (.if_icmp .lt 70, 3) := by decide +kernel
theorem d_Ne_numberPoints_57 : decode b_Ne_numberPoints 57 = .ok (.aload_n 0, 1) := by decide +kernel
theorem d_Ne_numberPoints_58 : decode b_Ne_numberPoints 58 = .ok (.getfield 21, 3) := by decide +kernel
theorem d_Ne_numberPoints_61 : decode b_Ne_numberPoints 61 = .ok (.sipush 140, 3) := by decide +kernel
theorem d_Ne_numberPoints_64 : decode b_Ne_numberPoints 64 = .ok (.if_icmp .ge 60, 3) := by decide +kernel
theorem d_Ne_numberPoints_67 : decode b_Ne_numberPoints 67 = .ok (.aload_n 0, 1) := by decide +kernel
theorem d_Ne_numberPoints_68 : decode b_Ne_numberPoints 68 = .ok (.getfield 49, 3) := by decide +kernel
theorem d_Ne_numberPoints_71 : decode b_Ne_numberPoints 71 = .ok (.iload 4, 2) := by decide +kernel
theorem d_Ne_numberPoints_73 : decode b_Ne_numberPoints 73 = .ok (.aload_n 0, 1) := by decide +kernel
theorem d_Ne_numberPoints_74 : decode b_Ne_numberPoints 74 = .ok (.getfield 21, 3) := by decide +kernel
theorem d_Ne_numberPoints_77 : decode b_Ne_numberPoints 77 = .ok (.iastore, 1) := by decide +kernel
theorem d_Ne_numberPoints_78 : decode b_Ne_numberPoints 78 = .ok (.aload_n 0, 1) := by decide +kernel
theorem d_Ne_numberPoints_79 : decode b_Ne_numberPoints 79 = .ok (.getfield 9, 3) := by decide +kernel
theorem d_Ne_numberPoints_82 : decode b_Ne_numberPoints 82 = .ok (.aload_n 0, 1) := by decide +kernel
theorem d_Ne_numberPoints_83 : decode b_Ne_numberPoints 83 = .ok (.getfield 21, 3) := by decide +kernel
theorem d_Ne_numberPoints_86 : decode b_Ne_numberPoints 86 = .ok (.aload_n 1, 1) := by decide +kernel
theorem d_Ne_numberPoints_87 : decode b_Ne_numberPoints 87 = .ok (.getfield 100, 3) := by decide +kernel
theorem d_Ne_numberPoints_90 : decode b_Ne_numberPoints 90 = .ok (.getfield 140, 3) := by decide +kernel
theorem d_Ne_numberPoints_93 : decode b_Ne_numberPoints 93 = .ok (.iload_n 2, 1) := by decide +kernel
theorem d_Ne_numberPoints_94 : decode b_Ne_numberPoints 94 = .ok (.iaload, 1) := by decide +kernel
theorem d_Ne_numberPoints_95 : decode b_Ne_numberPoints 95 = .ok (.iastore, 1) := by decide +kernel
theorem d_Ne_numberPoints_96 : decode b_Ne_numberPoints 96 = .ok (.aload_n 0, 1) := by decide +kernel
theorem d_Ne_numberPoints_97 : decode b_Ne_numberPoints 97 = .ok (.getfield 15, 3) := by decide +kernel
theorem d_Ne_numberPoints_100 : decode b_Ne_numberPoints 100 = .ok (.aload_n 0, 1) := by decide +kernel
theorem d_Ne_numberPoints_101 : decode b_Ne_numberPoints 101 = .ok (.getfield 21, 3) := by decide +kernel
theorem d_Ne_numberPoints_104 : decode b_Ne_numberPoints 104 = .ok (.aload_n 1, 1) := by decide +kernel
theorem d_Ne_numberPoints_105 : decode b_Ne_numberPoints 105 = .ok (.getfield 112, 3) := by decide +kernel
theorem d_Ne_numberPoints_108 : decode b_Ne_numberPoints 108 = .ok (.getfield 140, 3) := by decide +kernel
theorem d_Ne_numberPoints_111 : decode b_Ne_numberPoints 111 = .ok (.iload_n 3, 1) := by decide +kernel
theorem d_Ne_numberPoints_112 : decode b_Ne_numberPoints 112 = .ok (.iaload, 1) := by decide +kernel
theorem d_Ne_numberPoints_113 : decode b_Ne_numberPoints 113 = .ok (.iastore, 1) := by decide +kernel
theorem d_Ne_numberPoints_114 : decode b_Ne_numberPoints 114 = .ok (.aload_n 0, 1) := by decide +kernel
theorem d_Ne_numberPoints_115 : decode b_Ne_numberPoints 115 = .ok (.dup, 1) := by decide +kernel
theorem d_Ne_numberPoints_116 : decode b_Ne_numberPoints 116 = .ok (.getfield 21, 3) := by decide +kernel
theorem d_Ne_numberPoints_119 : decode b_Ne_numberPoints 119 = .ok (.iconst 1, 1) := by decide +kernel
theorem d_Ne_numberPoints_120 : decode b_Ne_numberPoints 120 = .ok (.iadd, 1) := by decide +kernel
theorem d_Ne_numberPoints_121 : decode b_Ne_numberPoints 121 = .ok (.putfield 21, 3) := by decide +kernel
theorem d_Ne_numberPoints_124 : decode b_Ne_numberPoints 124 = .ok (.iinc 3 1, 3) := by decide +kernel
theorem d_Ne_numberPoints_127 : decode b_Ne_numberPoints 127 = .ok (.goto (-107), 3) := by decide +kernel
theorem d_Ne_numberPoints_130 : decode b_Ne_numberPoints 130 = .ok (.iinc 2 1, 3) := by decide +kernel
theorem d_Ne_numberPoints_133 : decode b_Ne_numberPoints 133 = .ok (.goto (-126), 3) := by decide +kernel
theorem d_Ne_numberPoints_136 : decode b_Ne_numberPoints 136 = .ok (.aload_n 0, 1) := by decide +kernel
theorem d_Ne_numberPoints_137 : decode b_Ne_numberPoints 137 = .ok (.getfield 31, 3) := by decide +kernel
theorem d_Ne_numberPoints_140 : decode b_Ne_numberPoints 140 = .ok (.iconst 0, 1) := by decide +kernel
theorem d_Ne_numberPoints_141 : decode b_Ne_numberPoints 141 = .ok (.aload_n 0, 1) := by decide +kernel
theorem d_Ne_numberPoints_142 : decode b_Ne_numberPoints 142 = .ok (.getfield 21, 3) := by decide +kernel
theorem d_Ne_numberPoints_145 : decode b_Ne_numberPoints 145 = .ok (.iconst 4, 1) := by decide +kernel
theorem d_Ne_numberPoints_146 : decode b_Ne_numberPoints 146 = .ok (.imul, 1) := by decide +kernel
theorem d_Ne_numberPoints_147 : decode b_Ne_numberPoints 147 = .ok (.iconst (-1), 1) := by decide +kernel
theorem d_Ne_numberPoints_148 : decode b_Ne_numberPoints 148 = .ok (.invokestatic 115, 3) := by decide +kernel
theorem d_Ne_numberPoints_151 : decode b_Ne_numberPoints 151 = .ok (.return_, 1) := by decide +kernel
abbrev wl_Ne_numberPoints (a_0 : Nat) (a_0_pointX : Nat) (a_0_pointY : Nat) (a_0_sidesOut : Nat) (a_0_weights : Nat) (a_0_pointAt : Nat) (a_1 : Nat) (a_1_xs : Nat) (a_1_xs_places : Nat) (a_1_ys : Nat) (a_1_ys_places : Nat) (b_0_looseSides : Nat) (b_0_pieceLine : Nat) (b_0_begins : Nat) (b_0_directions : Nat) (b_0_leftSpaces : Nat) (b_1_cells : Nat) (cI : ClassId) (v_0_points : Int32) (v_0_pieces : Int32) (v_0_looseEnds : Int32) (f_0_pointX : Nat → Int32) (f_0_pointY : Nat → Int32) (f_0_sidesOut : Nat → Int32) (f_0_weights : Nat → Int32) (f_0_pointAt : Nat → Int32) (v_1_spaces : Int32) (v_1_xs_count : Int32) (f_1_xs_places : Nat → Int32) (v_1_ys_count : Int32) (f_1_ys_places : Nat → Int32) : va_W := [(a_0, .inr (3, [.ref a_0_pointX, .ref a_0_pointY, .ref b_0_looseSides, .int v_0_points, .int v_0_pieces, .int v_0_looseEnds, .ref a_0_sidesOut, .ref b_0_pieceLine, .ref b_0_begins, .ref b_0_directions, .ref b_0_leftSpaces, .ref a_0_weights, .ref a_0_pointAt])), (a_0_pointX, .inl (cI, 140, .inl f_0_pointX)), (a_0_pointY, .inl (cI, 140, .inl f_0_pointY)), (a_0_sidesOut, .inl (cI, 560, .inl f_0_sidesOut)), (a_0_weights, .inl (cI, 1600, .inl f_0_weights)), (a_0_pointAt, .inl (cI, 1600, .inl f_0_pointAt)), (a_1, .inr (8, [.ref a_1_xs, .ref a_1_ys, .ref b_1_cells, .int v_1_spaces])), (a_1_xs, .inr (9, [.ref a_1_xs_places, .int v_1_xs_count])), (a_1_xs_places, .inl (cI, 40, .inl f_1_xs_places)), (a_1_ys, .inr (9, [.ref a_1_ys_places, .int v_1_ys_count])), (a_1_ys_places, .inl (cI, 40, .inl f_1_ys_places))]
def m_Ne_numberPoints_L20 (l2 : Int32) (f_0_weights : Nat → Int32) (f_1_xs_places : Nat → Int32) (v_1_ys_count : Int32) (f_1_ys_places : Nat → Int32) : Nat → Int32 → Int32 → (Nat → Int32) → (Nat → Int32) → (Nat → Int32) → Option ((Int32) × (Nat → Int32) × (Nat → Int32) × (Nat → Int32))
  | 0, _, _, _, _, _ => none
  | n + 1, l3, v_0_points, f_0_pointX, f_0_pointY, f_0_pointAt =>
    if v_1_ys_count ≤ l3 then (
      some (v_0_points, f_0_pointX, f_0_pointY, f_0_pointAt))
    else (
      bd1 (m_Ne_node l2 l3) fun r3 =>
      gI r3 1600 <|
      lt_ (upd f_0_pointAt r3.toNatClampNeg (-1)) fun f6 =>
      gI r3 1600 <|
      bd4 (
        if (f_0_weights r3.toNatClampNeg) < 2 then (
        some (v_0_points, f_0_pointX, f_0_pointY, f6))
      else (
        if 140 ≤ v_0_points then (
          some (v_0_points, f_0_pointX, f_0_pointY, f6))
        else (
          gI r3 1600 <|
          lt_ (upd f6 r3.toNatClampNeg v_0_points) fun f18 =>
          gI l2 40 <|
          gI v_0_points 140 <|
          lt_ (upd f_0_pointX v_0_points.toNatClampNeg (f_1_xs_places l2.toNatClampNeg)) fun f21 =>
          gI l3 40 <|
          gI v_0_points 140 <|
          lt_ (upd f_0_pointY v_0_points.toNatClampNeg (f_1_ys_places l3.toNatClampNeg)) fun f24 =>
          lt_ (v_0_points + 1) fun x25 =>
          some (x25, f21, f24, f18))))
      fun (x11 : Int32) (f12 : Nat → Int32) (f13 : Nat → Int32) (f14 : Nat → Int32) =>
      lt_ (l3 + 1) fun x26 =>
        m_Ne_numberPoints_L20 l2 f_0_weights f_1_xs_places v_1_ys_count f_1_ys_places n x26 x11 f12 f13 f14)

def m_Ne_numberPoints_L7 (f_0_weights : Nat → Int32) (v_1_xs_count : Int32) (f_1_xs_places : Nat → Int32) (v_1_ys_count : Int32) (f_1_ys_places : Nat → Int32) : Nat → Int32 → Int32 → (Nat → Int32) → (Nat → Int32) → (Nat → Int32) → Option ((Int32) × (Nat → Int32) × (Nat → Int32) × (Nat → Int32))
  | 0, _, _, _, _, _ => none
  | n + 1, l2, v_0_points, f_0_pointX, f_0_pointY, f_0_pointAt =>
    if v_1_xs_count ≤ l2 then (
      some (v_0_points, f_0_pointX, f_0_pointY, f_0_pointAt))
    else (
      bd4 (m_Ne_numberPoints_L20 l2 f_0_weights f_1_xs_places v_1_ys_count f_1_ys_places fu 0 v_0_points f_0_pointX f_0_pointY f_0_pointAt) fun x7 f8 f9 f10 =>
      lt_ (l2 + 1) fun x38 =>
      m_Ne_numberPoints_L7 f_0_weights v_1_xs_count f_1_xs_places v_1_ys_count f_1_ys_places n x38 x7 f8 f9 f10)
def m_Ne_numberPoints (v_0_points : Int32) (f_0_pointX : Nat → Int32) (f_0_pointY : Nat → Int32) (f_0_sidesOut : Nat → Int32) (f_0_weights : Nat → Int32) (f_0_pointAt : Nat → Int32) (v_1_xs_count : Int32) (f_1_xs_places : Nat → Int32) (v_1_ys_count : Int32) (f_1_ys_places : Nat → Int32) : Option ((Int32) × (Nat → Int32) × (Nat → Int32) × (Nat → Int32) × (Nat → Int32)) :=
  bd4 (m_Ne_numberPoints_L7 f_0_weights v_1_xs_count f_1_xs_places v_1_ys_count f_1_ys_places fu 0 0 f_0_pointX f_0_pointY f_0_pointAt) fun x6 f7 f8 f9 =>
  bd1 (m_Ar_fill1 560 0 (x6 * 4) (-1) f_0_sidesOut) fun f50 =>
  some (x6, f7, f8, f50, f9)

set_option maxHeartbeats 4000000 in
set_option maxRecDepth 100000 in
theorem t_Ne_numberPoints {p : Program} {l : Launch} {e : Env} {s : State} {m : MethodId} {args : Array Value} {below : List Frame} {meth : Method} {c : Code} {A : Nat → Prop} {Q : State → Prop} {dC : Nat → ClassId} {dI : Nat → Nat → Nat} {cI cZ cJ : ClassId} (a_0 a_0_pointX a_0_pointY a_0_sidesOut a_0_weights a_0_pointAt a_1 a_1_xs a_1_xs_places a_1_ys a_1_ys_places b_0_looseSides b_0_pieceLine b_0_begins b_0_directions b_0_leftSpaces b_1_cells : Nat) (v_0_points : Int32) (v_0_pieces : Int32) (v_0_looseEnds : Int32) (f_0_pointX : Nat → Int32) (f_0_pointY : Nat → Int32) (f_0_sidesOut : Nat → Int32) (f_0_weights : Nat → Int32) (f_0_pointAt : Nat → Int32) (v_1_spaces : Int32) (v_1_xs_count : Int32) (f_1_xs_places : Nat → Int32) (v_1_ys_count : Int32) (f_1_ys_places : Nat → Int32)  (ov_0_points : Int32) (of_0_pointX : Nat → Int32) (of_0_pointY : Nat → Int32) (of_0_sidesOut : Nat → Int32) (of_0_pointAt : Nat → Int32) (hx : p.tables.exec = Jvm.exec) (hb : c.code = b_Ne_numberPoints) (hml : c.maxLocals = 5) (hown : s.vm.findClass "SpaceCycles$Net" = some m.cls) (hts : ∀ w ∈ w_Ne_numberPoints, w.before args s = true) (hK : va_K (dC, dI) vwCl [(cI, .int), (cZ, .boolean), (cJ, .long)] s) (hN : NX s) (hA : ∀ q : Nat, s.heap.size ≤ q → A q)
    (hret : ∀ (pc : Nat) (H : Heap) (locs : List Loc) (ls : Array Slot), decode b_Ne_numberPoints pc = .ok (.return_, 1) → va_P (dC, dI) vwCl (wl_Ne_numberPoints a_0 a_0_pointX a_0_pointY a_0_sidesOut a_0_weights a_0_pointAt a_1 a_1_xs a_1_xs_places a_1_ys a_1_ys_places b_0_looseSides b_0_pieceLine b_0_begins b_0_directions b_0_leftSpaces b_1_cells cI ov_0_points v_0_pieces v_0_looseEnds of_0_pointX of_0_pointY of_0_sidesOut f_0_weights of_0_pointAt v_1_spaces v_1_xs_count f_1_xs_places v_1_ys_count f_1_ys_places) H → va_D A (wl_Ne_numberPoints a_0 a_0_pointX a_0_pointY a_0_sidesOut a_0_weights a_0_pointAt a_1 a_1_xs a_1_xs_places a_1_ys a_1_ys_places b_0_looseSides b_0_pieceLine b_0_begins b_0_directions b_0_leftSpaces b_1_cells cI ov_0_points v_0_pieces v_0_looseEnds of_0_pointX of_0_pointY of_0_sidesOut f_0_weights of_0_pointAt v_1_spaces v_1_xs_count f_1_xs_places v_1_ys_count f_1_ys_places) → va_S A s.heap H locs → W p l e rm_Ne_numberPoints s m args below meth c H locs 0 0 Q (F0 m pc ls []))
    (hm : m_Ne_numberPoints v_0_points f_0_pointX f_0_pointY f_0_sidesOut f_0_weights f_0_pointAt v_1_xs_count f_1_xs_places v_1_ys_count f_1_ys_places = some (ov_0_points, of_0_pointX, of_0_pointY, of_0_sidesOut, of_0_pointAt)) : ∀ (H : Heap) (locs : List Loc) (ls : Array Slot), va_P (dC, dI) vwCl (wl_Ne_numberPoints a_0 a_0_pointX a_0_pointY a_0_sidesOut a_0_weights a_0_pointAt a_1 a_1_xs a_1_xs_places a_1_ys a_1_ys_places b_0_looseSides b_0_pieceLine b_0_begins b_0_directions b_0_leftSpaces b_1_cells cI v_0_points v_0_pieces v_0_looseEnds f_0_pointX f_0_pointY f_0_sidesOut f_0_weights f_0_pointAt v_1_spaces v_1_xs_count f_1_xs_places v_1_ys_count f_1_ys_places) H → va_D A (wl_Ne_numberPoints a_0 a_0_pointX a_0_pointY a_0_sidesOut a_0_weights a_0_pointAt a_1 a_1_xs a_1_xs_places a_1_ys a_1_ys_places b_0_looseSides b_0_pieceLine b_0_begins b_0_directions b_0_leftSpaces b_1_cells cI v_0_points v_0_pieces v_0_looseEnds f_0_pointX f_0_pointY f_0_sidesOut f_0_weights f_0_pointAt v_1_spaces v_1_xs_count f_1_xs_places v_1_ys_count f_1_ys_places) → va_S A s.heap H locs → lv_has ls 5 [(0, .ref a_0), (1, .ref a_1)] → W p l e rm_Ne_numberPoints s m args below meth c H locs 0 0 Q (F0 m 0 ls []) := by
  intro H locs ls hP hD hS hl
  unfold m_Ne_numberPoints at hm
  refine lv_aload_n hx hb d_Ne_numberPoints_0 rfl (lv_at hl 0 rfl) ?_
  refine lv_iconst (v := 0) hx hb d_Ne_numberPoints_1 (by decide) ?_
  refine va_put (D := (dC, dI)) (ci := 3) (v := .int 0) (ty := .int) (C := "SpaceCycles$Net") (T := F_Ne) (N := 13) hx hb hts (in_F i_Ne) t_Ne t_Ne_ok n_Ne hown hK hP hD hS 0 rfl rfl 3 (by decide) (hts _ (in_c k_159)) (fun _ h9 => h9) rfl (by decide +kernel) rfl rfl (Nat.le_of_ble_eq_true rfl) d_Ne_numberPoints_2 (fun H locs hP hD hS => ?_)
  have hP : va_P (dC, dI) vwCl (wl_Ne_numberPoints a_0 a_0_pointX a_0_pointY a_0_sidesOut a_0_weights a_0_pointAt a_1 a_1_xs a_1_xs_places a_1_ys a_1_ys_places b_0_looseSides b_0_pieceLine b_0_begins b_0_directions b_0_leftSpaces b_1_cells cI 0 v_0_pieces v_0_looseEnds f_0_pointX f_0_pointY f_0_sidesOut f_0_weights f_0_pointAt v_1_spaces v_1_xs_count f_1_xs_places v_1_ys_count f_1_ys_places) H := hP
  have hD : va_D A (wl_Ne_numberPoints a_0 a_0_pointX a_0_pointY a_0_sidesOut a_0_weights a_0_pointAt a_1 a_1_xs a_1_xs_places a_1_ys a_1_ys_places b_0_looseSides b_0_pieceLine b_0_begins b_0_directions b_0_leftSpaces b_1_cells cI 0 v_0_pieces v_0_looseEnds f_0_pointX f_0_pointY f_0_sidesOut f_0_weights f_0_pointAt v_1_spaces v_1_xs_count f_1_xs_places v_1_ys_count f_1_ys_places) := hD
  refine lv_iconst (v := 0) hx hb d_Ne_numberPoints_5 (by decide) ?_
  refine lv_istore_n (lv' := [(2, .int 0), (0, .ref a_0), (1, .ref a_1)]) hx hb d_Ne_numberPoints_6 rfl hl (by decide) rfl (fun ls hl => ?_)
  have L7_10 : ∀ (n : Nat) (x1 : Int32) (x2 : Int32) (f3 : Nat → Int32) (f4 : Nat → Int32) (f5 : Nat → Int32) (x6 : Int32) (f7 : Nat → Int32) (f8 : Nat → Int32) (f9 : Nat → Int32), m_Ne_numberPoints_L7 f_0_weights v_1_xs_count f_1_xs_places v_1_ys_count f_1_ys_places n x1 x2 f3 f4 f5 = some (x6, f7, f8, f9) → (∀ (H : Heap) (locs : List Loc) (ls : Array Slot), va_P (dC, dI) vwCl (wl_Ne_numberPoints a_0 a_0_pointX a_0_pointY a_0_sidesOut a_0_weights a_0_pointAt a_1 a_1_xs a_1_xs_places a_1_ys a_1_ys_places b_0_looseSides b_0_pieceLine b_0_begins b_0_directions b_0_leftSpaces b_1_cells cI x6 v_0_pieces v_0_looseEnds f7 f8 f_0_sidesOut f_0_weights f9 v_1_spaces v_1_xs_count f_1_xs_places v_1_ys_count f_1_ys_places) H → va_D A (wl_Ne_numberPoints a_0 a_0_pointX a_0_pointY a_0_sidesOut a_0_weights a_0_pointAt a_1 a_1_xs a_1_xs_places a_1_ys a_1_ys_places b_0_looseSides b_0_pieceLine b_0_begins b_0_directions b_0_leftSpaces b_1_cells cI x6 v_0_pieces v_0_looseEnds f7 f8 f_0_sidesOut f_0_weights f9 v_1_spaces v_1_xs_count f_1_xs_places v_1_ys_count f_1_ys_places) → va_S A s.heap H locs → lv_has ls 5 [(0, .ref a_0)] → W p l e rm_Ne_numberPoints s m args below meth c H locs 0 0 Q (F0 m 136 ls [])) → ∀ (H : Heap) (locs : List Loc) (ls : Array Slot), va_P (dC, dI) vwCl (wl_Ne_numberPoints a_0 a_0_pointX a_0_pointY a_0_sidesOut a_0_weights a_0_pointAt a_1 a_1_xs a_1_xs_places a_1_ys a_1_ys_places b_0_looseSides b_0_pieceLine b_0_begins b_0_directions b_0_leftSpaces b_1_cells cI x2 v_0_pieces v_0_looseEnds f3 f4 f_0_sidesOut f_0_weights f5 v_1_spaces v_1_xs_count f_1_xs_places v_1_ys_count f_1_ys_places) H → va_D A (wl_Ne_numberPoints a_0 a_0_pointX a_0_pointY a_0_sidesOut a_0_weights a_0_pointAt a_1 a_1_xs a_1_xs_places a_1_ys a_1_ys_places b_0_looseSides b_0_pieceLine b_0_begins b_0_directions b_0_leftSpaces b_1_cells cI x2 v_0_pieces v_0_looseEnds f3 f4 f_0_sidesOut f_0_weights f5 v_1_spaces v_1_xs_count f_1_xs_places v_1_ys_count f_1_ys_places) → va_S A s.heap H locs → lv_has ls 5 [(0, .ref a_0), (1, .ref a_1), (2, .int x1)] → W p l e rm_Ne_numberPoints s m args below meth c H locs 0 0 Q (F0 m 7 ls []) := by
    intro n
    induction n with
    | zero => intro x1 x2 f3 f4 f5 x6 f7 f8 f9 hm; simp [m_Ne_numberPoints_L7] at hm
    | succ n ih =>
      intro x1 x2 f3 f4 f5 x6 f7 f8 f9 hm KE H locs ls hP hD hS hl
      rw [m_Ne_numberPoints_L7] at hm
      refine lv_iload_n hx hb d_Ne_numberPoints_7 rfl (lv_at hl 2 rfl) ?_
      refine lv_aload_n hx hb d_Ne_numberPoints_8 rfl (lv_at hl 1 rfl) ?_
      refine va_get (D := (dC, dI)) (ci := 8) (v := .ref a_1_xs) (C := "SpaceCycles$Grid") (T := F_Gr) (N := 4) hx hb hts (in_F i_Gr) hown hK hP 6 rfl rfl 0 (by decide) (hts _ (in_c k_140)) (fun _ h9 => h9) rfl d_Ne_numberPoints_9 ?_
      refine va_get (D := (dC, dI)) (ci := 9) (v := .int v_1_xs_count) (C := "SpaceCycles$Cuts") (T := F_Cu) (N := 2) hx hb hts (in_F i_Cu) hown hK hP 7 rfl rfl 1 (by decide) (hts _ (in_c k_141)) (fun _ h9 => h9) rfl d_Ne_numberPoints_12 ?_
      refine lv_icmp_ge (tgt := 136) hx hb d_Ne_numberPoints_15 (by decide) (fun c11 => ?_) (fun c11 => ?_)
      · replace hm := if_t hm c11
        cases hm
        exact KE H locs ls hP hD hS (lv_sub hl [0] rfl)
      · replace hm := if_f hm c11
        refine lv_iconst (v := 0) hx hb d_Ne_numberPoints_18 (by decide) ?_
        refine lv_istore_n (lv' := [(3, .int 0), (0, .ref a_0), (1, .ref a_1), (2, .int x1)]) hx hb d_Ne_numberPoints_19 rfl hl (by decide) rfl (fun ls hl => ?_)
        have L20_21 : ∀ (n : Nat) (x12 : Int32) (x13 : Int32) (f14 : Nat → Int32) (f15 : Nat → Int32) (f16 : Nat → Int32) (x17 : Int32) (f18 : Nat → Int32) (f19 : Nat → Int32) (f20 : Nat → Int32), m_Ne_numberPoints_L20 x1 f_0_weights f_1_xs_places v_1_ys_count f_1_ys_places n x12 x13 f14 f15 f16 = some (x17, f18, f19, f20) → (∀ (H : Heap) (locs : List Loc) (ls : Array Slot), va_P (dC, dI) vwCl (wl_Ne_numberPoints a_0 a_0_pointX a_0_pointY a_0_sidesOut a_0_weights a_0_pointAt a_1 a_1_xs a_1_xs_places a_1_ys a_1_ys_places b_0_looseSides b_0_pieceLine b_0_begins b_0_directions b_0_leftSpaces b_1_cells cI x17 v_0_pieces v_0_looseEnds f18 f19 f_0_sidesOut f_0_weights f20 v_1_spaces v_1_xs_count f_1_xs_places v_1_ys_count f_1_ys_places) H → va_D A (wl_Ne_numberPoints a_0 a_0_pointX a_0_pointY a_0_sidesOut a_0_weights a_0_pointAt a_1 a_1_xs a_1_xs_places a_1_ys a_1_ys_places b_0_looseSides b_0_pieceLine b_0_begins b_0_directions b_0_leftSpaces b_1_cells cI x17 v_0_pieces v_0_looseEnds f18 f19 f_0_sidesOut f_0_weights f20 v_1_spaces v_1_xs_count f_1_xs_places v_1_ys_count f_1_ys_places) → va_S A s.heap H locs → lv_has ls 5 [(0, .ref a_0), (1, .ref a_1), (2, .int x1)] → W p l e rm_Ne_numberPoints s m args below meth c H locs 0 0 Q (F0 m 130 ls [])) → ∀ (H : Heap) (locs : List Loc) (ls : Array Slot), va_P (dC, dI) vwCl (wl_Ne_numberPoints a_0 a_0_pointX a_0_pointY a_0_sidesOut a_0_weights a_0_pointAt a_1 a_1_xs a_1_xs_places a_1_ys a_1_ys_places b_0_looseSides b_0_pieceLine b_0_begins b_0_directions b_0_leftSpaces b_1_cells cI x13 v_0_pieces v_0_looseEnds f14 f15 f_0_sidesOut f_0_weights f16 v_1_spaces v_1_xs_count f_1_xs_places v_1_ys_count f_1_ys_places) H → va_D A (wl_Ne_numberPoints a_0 a_0_pointX a_0_pointY a_0_sidesOut a_0_weights a_0_pointAt a_1 a_1_xs a_1_xs_places a_1_ys a_1_ys_places b_0_looseSides b_0_pieceLine b_0_begins b_0_directions b_0_leftSpaces b_1_cells cI x13 v_0_pieces v_0_looseEnds f14 f15 f_0_sidesOut f_0_weights f16 v_1_spaces v_1_xs_count f_1_xs_places v_1_ys_count f_1_ys_places) → va_S A s.heap H locs → lv_has ls 5 [(0, .ref a_0), (1, .ref a_1), (2, .int x1), (3, .int x12)] → W p l e rm_Ne_numberPoints s m args below meth c H locs 0 0 Q (F0 m 20 ls []) := by
          intro n
          induction n with
          | zero => intro x12 x13 f14 f15 f16 x17 f18 f19 f20 hm; simp [m_Ne_numberPoints_L20] at hm
          | succ n ih =>
            intro x12 x13 f14 f15 f16 x17 f18 f19 f20 hm KE H locs ls hP hD hS hl
            rw [m_Ne_numberPoints_L20] at hm
            refine lv_iload_n hx hb d_Ne_numberPoints_20 rfl (lv_at hl 3 rfl) ?_
            refine lv_aload_n hx hb d_Ne_numberPoints_21 rfl (lv_at hl 1 rfl) ?_
            refine va_get (D := (dC, dI)) (ci := 8) (v := .ref a_1_ys) (C := "SpaceCycles$Grid") (T := F_Gr) (N := 4) hx hb hts (in_F i_Gr) hown hK hP 6 rfl rfl 1 (by decide) (hts _ (in_c k_147)) (fun _ h9 => h9) rfl d_Ne_numberPoints_22 ?_
            refine va_get (D := (dC, dI)) (ci := 9) (v := .int v_1_ys_count) (C := "SpaceCycles$Cuts") (T := F_Cu) (N := 2) hx hb hts (in_F i_Cu) hown hK hP 9 rfl rfl 1 (by decide) (hts _ (in_c k_141)) (fun _ h9 => h9) rfl d_Ne_numberPoints_25 ?_
            refine lv_icmp_ge (tgt := 130) hx hb d_Ne_numberPoints_28 (by decide) (fun c22 => ?_) (fun c22 => ?_)
            · replace hm := if_t hm c22
              cases hm
              exact KE H locs ls hP hD hS (lv_sub hl [0, 1, 2] rfl)
            · replace hm := if_f hm c22
              refine lv_iload_n hx hb d_Ne_numberPoints_31 rfl (lv_at hl 2 rfl) ?_
              refine lv_iload_n hx hb d_Ne_numberPoints_32 rfl (lv_at hl 3 rfl) ?_
              obtain ⟨r23, hb24, hm⟩ := bd1_e hm
              have hPc := hP.sub (ws' := (wl_Ne_node)) [] rfl
              have hDc := hD.sub (ws' := (wl_Ne_node)) [] (by decide) rfl
              refine cl_i (wc' := (wl_Ne_node)) (va_runS (As := [.int x1, .int x12]) (rest := []) ⟨hx, hb, hml, hown, hts⟩ (c_Ne_node l dC dI (cI := cI) (cZ := cZ) (cJ := cJ) H.size x1 x12 r23 hb24) (va_cwS 2 hts (gl_S k_146 k_144 k_145 k_143) rfl rfl rfl (by decide +kernel) ⟨Nat.le_of_ble_eq_true rfl, Nat.le_of_ble_eq_true rfl⟩) ⟨PP_blind, fun U hU hW => PP_at hK hN hPc hDc hU hW⟩ rfl rfl hl.1 rfl (lv_room (Nat.le_of_ble_eq_true rfl)) d_Ne_numberPoints_33 ⟨Nat.zero_le _, Nat.zero_le _⟩) hP hD hS hA [] [0, 1, 2, 3, 4, 5, 6, 7, 8, 9, 10] rfl rfl (by decide) (by decide) (fun H locs hP hD hS => ?_)
              have hP : va_P (dC, dI) vwCl (wl_Ne_numberPoints a_0 a_0_pointX a_0_pointY a_0_sidesOut a_0_weights a_0_pointAt a_1 a_1_xs a_1_xs_places a_1_ys a_1_ys_places b_0_looseSides b_0_pieceLine b_0_begins b_0_directions b_0_leftSpaces b_1_cells cI x13 v_0_pieces v_0_looseEnds f14 f15 f_0_sidesOut f_0_weights f16 v_1_spaces v_1_xs_count f_1_xs_places v_1_ys_count f_1_ys_places) H := hP.sub [0, 1, 2, 3, 4, 5, 6, 7, 8, 9, 10] rfl
              have hD : va_D A (wl_Ne_numberPoints a_0 a_0_pointX a_0_pointY a_0_sidesOut a_0_weights a_0_pointAt a_1 a_1_xs a_1_xs_places a_1_ys a_1_ys_places b_0_looseSides b_0_pieceLine b_0_begins b_0_directions b_0_leftSpaces b_1_cells cI x13 v_0_pieces v_0_looseEnds f14 f15 f_0_sidesOut f_0_weights f16 v_1_spaces v_1_xs_count f_1_xs_places v_1_ys_count f_1_ys_places) := hD.sub [0, 1, 2, 3, 4, 5, 6, 7, 8, 9, 10] (by decide) rfl
              refine lv_istore (lv' := [(4, .int r23), (0, .ref a_0), (1, .ref a_1), (2, .int x1), (3, .int x12)]) hx hb d_Ne_numberPoints_36 hl (by decide) rfl (fun ls hl => ?_)
              refine lv_aload_n hx hb d_Ne_numberPoints_38 rfl (lv_at hl 1 rfl) ?_
              refine va_get (D := (dC, dI)) (ci := 3) (v := .ref a_0_pointAt) (C := "SpaceCycles$Net") (T := F_Ne) (N := 13) hx hb hts (in_F i_Ne) hown hK hP 0 rfl rfl 12 (by decide) (hts _ (in_c k_160)) (fun _ h9 => h9) rfl d_Ne_numberPoints_39 ?_
              refine lv_iload hx hb d_Ne_numberPoints_42 (lv_at hl 0 rfl) ?_
              refine lv_iconst (v := (-1)) hx hb d_Ne_numberPoints_44 (by decide) ?_
              obtain ⟨hi25, hm⟩ := gI_e hm
              obtain ⟨f26, ef26⟩ : ∃ y : Nat → Int32, y = upd f16 r23.toNatClampNeg (-1) := ⟨_, rfl⟩
              replace hm := lt_el hm ef26
              refine va_iast hx hb hK hP hD hS 5 0 rfl rfl hi25 d_Ne_numberPoints_45 (fun H locs hP hD hS => ?_)
              rw [← ef26] at hP hD
              have hP : va_P (dC, dI) vwCl (wl_Ne_numberPoints a_0 a_0_pointX a_0_pointY a_0_sidesOut a_0_weights a_0_pointAt a_1 a_1_xs a_1_xs_places a_1_ys a_1_ys_places b_0_looseSides b_0_pieceLine b_0_begins b_0_directions b_0_leftSpaces b_1_cells cI x13 v_0_pieces v_0_looseEnds f14 f15 f_0_sidesOut f_0_weights f26 v_1_spaces v_1_xs_count f_1_xs_places v_1_ys_count f_1_ys_places) H := hP
              have hD : va_D A (wl_Ne_numberPoints a_0 a_0_pointX a_0_pointY a_0_sidesOut a_0_weights a_0_pointAt a_1 a_1_xs a_1_xs_places a_1_ys a_1_ys_places b_0_looseSides b_0_pieceLine b_0_begins b_0_directions b_0_leftSpaces b_1_cells cI x13 v_0_pieces v_0_looseEnds f14 f15 f_0_sidesOut f_0_weights f26 v_1_spaces v_1_xs_count f_1_xs_places v_1_ys_count f_1_ys_places) := hD
              refine lv_aload_n hx hb d_Ne_numberPoints_46 rfl (lv_at hl 1 rfl) ?_
              refine va_get (D := (dC, dI)) (ci := 3) (v := .ref a_0_weights) (C := "SpaceCycles$Net") (T := F_Ne) (N := 13) hx hb hts (in_F i_Ne) hown hK hP 0 rfl rfl 11 (by decide) (hts _ (in_c k_142)) (fun _ h9 => h9) rfl d_Ne_numberPoints_47 ?_
              refine lv_iload hx hb d_Ne_numberPoints_50 (lv_at hl 0 rfl) ?_
              obtain ⟨hi27, hm⟩ := gI_e hm
              refine va_iald hx hb hK hP 4 0 rfl rfl hi27 d_Ne_numberPoints_52 ?_
              refine lv_iconst (v := 2) hx hb d_Ne_numberPoints_53 (by decide) ?_
              obtain ⟨x31, f32, f33, f34, hb29, hm⟩ := bd4_e hm
              have K28 : ∀ (H : Heap) (locs : List Loc) (ls : Array Slot), va_P (dC, dI) vwCl (wl_Ne_numberPoints a_0 a_0_pointX a_0_pointY a_0_sidesOut a_0_weights a_0_pointAt a_1 a_1_xs a_1_xs_places a_1_ys a_1_ys_places b_0_looseSides b_0_pieceLine b_0_begins b_0_directions b_0_leftSpaces b_1_cells cI x31 v_0_pieces v_0_looseEnds f32 f33 f_0_sidesOut f_0_weights f34 v_1_spaces v_1_xs_count f_1_xs_places v_1_ys_count f_1_ys_places) H → va_D A (wl_Ne_numberPoints a_0 a_0_pointX a_0_pointY a_0_sidesOut a_0_weights a_0_pointAt a_1 a_1_xs a_1_xs_places a_1_ys a_1_ys_places b_0_looseSides b_0_pieceLine b_0_begins b_0_directions b_0_leftSpaces b_1_cells cI x31 v_0_pieces v_0_looseEnds f32 f33 f_0_sidesOut f_0_weights f34 v_1_spaces v_1_xs_count f_1_xs_places v_1_ys_count f_1_ys_places) → va_S A s.heap H locs → lv_has ls 5 [(0, .ref a_0), (1, .ref a_1), (2, .int x1), (3, .int x12)] → W p l e rm_Ne_numberPoints s m args below meth c H locs 0 0 Q (F0 m 124 ls []) := by
                intro H locs ls hP hD hS hl
                obtain ⟨x46, ex46⟩ : ∃ y : Int32, y = x12 + 1 := ⟨_, rfl⟩
                replace hm := lt_el hm ex46
                refine lv_iinc (v := x46) (lv' := [(3, .int x46), (0, .ref a_0), (1, .ref a_1), (2, .int x1)]) hx hb d_Ne_numberPoints_124 hl (k := 3) rfl (by rw [ex46]; rfl) (by decide) rfl (fun ls hl => ?_)
                refine lv_goto (tgt := 20) hx hb d_Ne_numberPoints_127 (by decide) ?_
                exact ih _ _ _ _ _ _ _ _ _ hm KE H locs ls hP hD hS (lv_sub hl [1, 2, 3, 0] rfl)
              replace hm := hb29
              refine lv_icmp_lt (tgt := 124) hx hb d_Ne_numberPoints_54 (by decide) (fun c35 => ?_) (fun c35 => ?_)
              · replace hm := if_t hm c35
                cases hm
                exact K28 H locs ls hP hD hS (lv_sub hl [1, 2, 3, 4] rfl)
              · replace hm := if_f hm c35
                refine lv_aload_n hx hb d_Ne_numberPoints_57 rfl (lv_at hl 1 rfl) ?_
                refine va_get (D := (dC, dI)) (ci := 3) (v := .int x13) (C := "SpaceCycles$Net") (T := F_Ne) (N := 13) hx hb hts (in_F i_Ne) hown hK hP 0 rfl rfl 3 (by decide) (hts _ (in_c k_159)) (fun _ h9 => h9) rfl d_Ne_numberPoints_58 ?_
                refine lv_sipush (v := 140) hx hb d_Ne_numberPoints_61 (by decide) ?_
                refine lv_icmp_ge (tgt := 124) hx hb d_Ne_numberPoints_64 (by decide) (fun c36 => ?_) (fun c36 => ?_)
                · replace hm := if_t hm c36
                  cases hm
                  exact K28 H locs ls hP hD hS (lv_sub hl [1, 2, 3, 4] rfl)
                · replace hm := if_f hm c36
                  refine lv_aload_n hx hb d_Ne_numberPoints_67 rfl (lv_at hl 1 rfl) ?_
                  refine va_get (D := (dC, dI)) (ci := 3) (v := .ref a_0_pointAt) (C := "SpaceCycles$Net") (T := F_Ne) (N := 13) hx hb hts (in_F i_Ne) hown hK hP 0 rfl rfl 12 (by decide) (hts _ (in_c k_160)) (fun _ h9 => h9) rfl d_Ne_numberPoints_68 ?_
                  refine lv_iload hx hb d_Ne_numberPoints_71 (lv_at hl 0 rfl) ?_
                  refine lv_aload_n hx hb d_Ne_numberPoints_73 rfl (lv_at hl 1 rfl) ?_
                  refine va_get (D := (dC, dI)) (ci := 3) (v := .int x13) (C := "SpaceCycles$Net") (T := F_Ne) (N := 13) hx hb hts (in_F i_Ne) hown hK hP 0 rfl rfl 3 (by decide) (hts _ (in_c k_159)) (fun _ h9 => h9) rfl d_Ne_numberPoints_74 ?_
                  obtain ⟨hi37, hm⟩ := gI_e hm
                  obtain ⟨f38, ef38⟩ : ∃ y : Nat → Int32, y = upd f26 r23.toNatClampNeg x13 := ⟨_, rfl⟩
                  replace hm := lt_el hm ef38
                  refine va_iast hx hb hK hP hD hS 5 0 rfl rfl hi37 d_Ne_numberPoints_77 (fun H locs hP hD hS => ?_)
                  rw [← ef38] at hP hD
                  have hP : va_P (dC, dI) vwCl (wl_Ne_numberPoints a_0 a_0_pointX a_0_pointY a_0_sidesOut a_0_weights a_0_pointAt a_1 a_1_xs a_1_xs_places a_1_ys a_1_ys_places b_0_looseSides b_0_pieceLine b_0_begins b_0_directions b_0_leftSpaces b_1_cells cI x13 v_0_pieces v_0_looseEnds f14 f15 f_0_sidesOut f_0_weights f38 v_1_spaces v_1_xs_count f_1_xs_places v_1_ys_count f_1_ys_places) H := hP
                  have hD : va_D A (wl_Ne_numberPoints a_0 a_0_pointX a_0_pointY a_0_sidesOut a_0_weights a_0_pointAt a_1 a_1_xs a_1_xs_places a_1_ys a_1_ys_places b_0_looseSides b_0_pieceLine b_0_begins b_0_directions b_0_leftSpaces b_1_cells cI x13 v_0_pieces v_0_looseEnds f14 f15 f_0_sidesOut f_0_weights f38 v_1_spaces v_1_xs_count f_1_xs_places v_1_ys_count f_1_ys_places) := hD
                  refine lv_aload_n hx hb d_Ne_numberPoints_78 rfl (lv_at hl 1 rfl) ?_
                  refine va_get (D := (dC, dI)) (ci := 3) (v := .ref a_0_pointX) (C := "SpaceCycles$Net") (T := F_Ne) (N := 13) hx hb hts (in_F i_Ne) hown hK hP 0 rfl rfl 0 (by decide) (hts _ (in_c k_161)) (fun _ h9 => h9) rfl d_Ne_numberPoints_79 ?_
                  refine lv_aload_n hx hb d_Ne_numberPoints_82 rfl (lv_at hl 1 rfl) ?_
                  refine va_get (D := (dC, dI)) (ci := 3) (v := .int x13) (C := "SpaceCycles$Net") (T := F_Ne) (N := 13) hx hb hts (in_F i_Ne) hown hK hP 0 rfl rfl 3 (by decide) (hts _ (in_c k_159)) (fun _ h9 => h9) rfl d_Ne_numberPoints_83 ?_
                  refine lv_aload_n hx hb d_Ne_numberPoints_86 rfl (lv_at hl 2 rfl) ?_
                  refine va_get (D := (dC, dI)) (ci := 8) (v := .ref a_1_xs) (C := "SpaceCycles$Grid") (T := F_Gr) (N := 4) hx hb hts (in_F i_Gr) hown hK hP 6 rfl rfl 0 (by decide) (hts _ (in_c k_140)) (fun _ h9 => h9) rfl d_Ne_numberPoints_87 ?_
                  refine va_get (D := (dC, dI)) (ci := 9) (v := .ref a_1_xs_places) (C := "SpaceCycles$Cuts") (T := F_Cu) (N := 2) hx hb hts (in_F i_Cu) hown hK hP 7 rfl rfl 0 (by decide) (hts _ (in_c k_162)) (fun _ h9 => h9) rfl d_Ne_numberPoints_90 ?_
                  refine lv_iload_n hx hb d_Ne_numberPoints_93 rfl (lv_at hl 3 rfl) ?_
                  obtain ⟨hi39, hm⟩ := gI_e hm
                  refine va_iald hx hb hK hP 8 0 rfl rfl hi39 d_Ne_numberPoints_94 ?_
                  obtain ⟨hi40, hm⟩ := gI_e hm
                  obtain ⟨f41, ef41⟩ : ∃ y : Nat → Int32, y = upd f14 x13.toNatClampNeg (f_1_xs_places x1.toNatClampNeg) := ⟨_, rfl⟩
                  replace hm := lt_el hm ef41
                  refine va_iast hx hb hK hP hD hS 1 0 rfl rfl hi40 d_Ne_numberPoints_95 (fun H locs hP hD hS => ?_)
                  rw [← ef41] at hP hD
                  have hP : va_P (dC, dI) vwCl (wl_Ne_numberPoints a_0 a_0_pointX a_0_pointY a_0_sidesOut a_0_weights a_0_pointAt a_1 a_1_xs a_1_xs_places a_1_ys a_1_ys_places b_0_looseSides b_0_pieceLine b_0_begins b_0_directions b_0_leftSpaces b_1_cells cI x13 v_0_pieces v_0_looseEnds f41 f15 f_0_sidesOut f_0_weights f38 v_1_spaces v_1_xs_count f_1_xs_places v_1_ys_count f_1_ys_places) H := hP
                  have hD : va_D A (wl_Ne_numberPoints a_0 a_0_pointX a_0_pointY a_0_sidesOut a_0_weights a_0_pointAt a_1 a_1_xs a_1_xs_places a_1_ys a_1_ys_places b_0_looseSides b_0_pieceLine b_0_begins b_0_directions b_0_leftSpaces b_1_cells cI x13 v_0_pieces v_0_looseEnds f41 f15 f_0_sidesOut f_0_weights f38 v_1_spaces v_1_xs_count f_1_xs_places v_1_ys_count f_1_ys_places) := hD
                  refine lv_aload_n hx hb d_Ne_numberPoints_96 rfl (lv_at hl 1 rfl) ?_
                  refine va_get (D := (dC, dI)) (ci := 3) (v := .ref a_0_pointY) (C := "SpaceCycles$Net") (T := F_Ne) (N := 13) hx hb hts (in_F i_Ne) hown hK hP 0 rfl rfl 1 (by decide) (hts _ (in_c k_163)) (fun _ h9 => h9) rfl d_Ne_numberPoints_97 ?_
                  refine lv_aload_n hx hb d_Ne_numberPoints_100 rfl (lv_at hl 1 rfl) ?_
                  refine va_get (D := (dC, dI)) (ci := 3) (v := .int x13) (C := "SpaceCycles$Net") (T := F_Ne) (N := 13) hx hb hts (in_F i_Ne) hown hK hP 0 rfl rfl 3 (by decide) (hts _ (in_c k_159)) (fun _ h9 => h9) rfl d_Ne_numberPoints_101 ?_
                  refine lv_aload_n hx hb d_Ne_numberPoints_104 rfl (lv_at hl 2 rfl) ?_
                  refine va_get (D := (dC, dI)) (ci := 8) (v := .ref a_1_ys) (C := "SpaceCycles$Grid") (T := F_Gr) (N := 4) hx hb hts (in_F i_Gr) hown hK hP 6 rfl rfl 1 (by decide) (hts _ (in_c k_147)) (fun _ h9 => h9) rfl d_Ne_numberPoints_105 ?_
                  refine va_get (D := (dC, dI)) (ci := 9) (v := .ref a_1_ys_places) (C := "SpaceCycles$Cuts") (T := F_Cu) (N := 2) hx hb hts (in_F i_Cu) hown hK hP 9 rfl rfl 0 (by decide) (hts _ (in_c k_162)) (fun _ h9 => h9) rfl d_Ne_numberPoints_108 ?_
                  refine lv_iload_n hx hb d_Ne_numberPoints_111 rfl (lv_at hl 4 rfl) ?_
                  obtain ⟨hi42, hm⟩ := gI_e hm
                  refine va_iald hx hb hK hP 10 0 rfl rfl hi42 d_Ne_numberPoints_112 ?_
                  obtain ⟨hi43, hm⟩ := gI_e hm
                  obtain ⟨f44, ef44⟩ : ∃ y : Nat → Int32, y = upd f15 x13.toNatClampNeg (f_1_ys_places x12.toNatClampNeg) := ⟨_, rfl⟩
                  replace hm := lt_el hm ef44
                  refine va_iast hx hb hK hP hD hS 2 0 rfl rfl hi43 d_Ne_numberPoints_113 (fun H locs hP hD hS => ?_)
                  rw [← ef44] at hP hD
                  have hP : va_P (dC, dI) vwCl (wl_Ne_numberPoints a_0 a_0_pointX a_0_pointY a_0_sidesOut a_0_weights a_0_pointAt a_1 a_1_xs a_1_xs_places a_1_ys a_1_ys_places b_0_looseSides b_0_pieceLine b_0_begins b_0_directions b_0_leftSpaces b_1_cells cI x13 v_0_pieces v_0_looseEnds f41 f44 f_0_sidesOut f_0_weights f38 v_1_spaces v_1_xs_count f_1_xs_places v_1_ys_count f_1_ys_places) H := hP
                  have hD : va_D A (wl_Ne_numberPoints a_0 a_0_pointX a_0_pointY a_0_sidesOut a_0_weights a_0_pointAt a_1 a_1_xs a_1_xs_places a_1_ys a_1_ys_places b_0_looseSides b_0_pieceLine b_0_begins b_0_directions b_0_leftSpaces b_1_cells cI x13 v_0_pieces v_0_looseEnds f41 f44 f_0_sidesOut f_0_weights f38 v_1_spaces v_1_xs_count f_1_xs_places v_1_ys_count f_1_ys_places) := hD
                  refine lv_aload_n hx hb d_Ne_numberPoints_114 rfl (lv_at hl 1 rfl) ?_
                  refine lv_dup hx hb d_Ne_numberPoints_115 rfl ?_
                  refine va_get (D := (dC, dI)) (ci := 3) (v := .int x13) (C := "SpaceCycles$Net") (T := F_Ne) (N := 13) hx hb hts (in_F i_Ne) hown hK hP 0 rfl rfl 3 (by decide) (hts _ (in_c k_159)) (fun _ h9 => h9) rfl d_Ne_numberPoints_116 ?_
                  refine lv_iconst (v := 1) hx hb d_Ne_numberPoints_119 (by decide) ?_
                  refine lv_iadd hx hb d_Ne_numberPoints_120 ?_
                  refine lv_topi (fun x45 ex45 => ?_)
                  replace hm := lt_el hm ex45
                  refine va_put (D := (dC, dI)) (ci := 3) (v := .int x45) (ty := .int) (C := "SpaceCycles$Net") (T := F_Ne) (N := 13) hx hb hts (in_F i_Ne) t_Ne t_Ne_ok n_Ne hown hK hP hD hS 0 rfl rfl 3 (by decide) (hts _ (in_c k_159)) (fun _ h9 => h9) rfl (by decide +kernel) rfl rfl (Nat.le_of_ble_eq_true rfl) d_Ne_numberPoints_121 (fun H locs hP hD hS => ?_)
                  have hP : va_P (dC, dI) vwCl (wl_Ne_numberPoints a_0 a_0_pointX a_0_pointY a_0_sidesOut a_0_weights a_0_pointAt a_1 a_1_xs a_1_xs_places a_1_ys a_1_ys_places b_0_looseSides b_0_pieceLine b_0_begins b_0_directions b_0_leftSpaces b_1_cells cI x45 v_0_pieces v_0_looseEnds f41 f44 f_0_sidesOut f_0_weights f38 v_1_spaces v_1_xs_count f_1_xs_places v_1_ys_count f_1_ys_places) H := hP
                  have hD : va_D A (wl_Ne_numberPoints a_0 a_0_pointX a_0_pointY a_0_sidesOut a_0_weights a_0_pointAt a_1 a_1_xs a_1_xs_places a_1_ys a_1_ys_places b_0_looseSides b_0_pieceLine b_0_begins b_0_directions b_0_leftSpaces b_1_cells cI x45 v_0_pieces v_0_looseEnds f41 f44 f_0_sidesOut f_0_weights f38 v_1_spaces v_1_xs_count f_1_xs_places v_1_ys_count f_1_ys_places) := hD
                  cases hm
                  exact K28 H locs ls hP hD hS (lv_sub hl [1, 2, 3, 4] rfl)
        obtain ⟨x17, f18, f19, f20, hb47, hm⟩ := bd4_e hm
        refine L20_21 fu _ _ _ _ _ _ _ _ _ hb47 (fun H locs ls hP hD hS hl => ?_) H locs ls hP hD hS (lv_sub hl [1, 2, 3, 0] rfl)
        obtain ⟨x48, ex48⟩ : ∃ y : Int32, y = x1 + 1 := ⟨_, rfl⟩
        replace hm := lt_el hm ex48
        refine lv_iinc (v := x48) (lv' := [(2, .int x48), (0, .ref a_0), (1, .ref a_1)]) hx hb d_Ne_numberPoints_130 hl (k := 2) rfl (by rw [ex48]; rfl) (by decide) rfl (fun ls hl => ?_)
        refine lv_goto (tgt := 7) hx hb d_Ne_numberPoints_133 (by decide) ?_
        exact ih _ _ _ _ _ _ _ _ _ hm KE H locs ls hP hD hS (lv_sub hl [1, 2, 0] rfl)
  obtain ⟨x6, f7, f8, f9, hb49, hm⟩ := bd4_e hm
  refine L7_10 fu _ _ _ _ _ _ _ _ _ hb49 (fun H locs ls hP hD hS hl => ?_) H locs ls hP hD hS (lv_sub hl [1, 2, 0] rfl)
  refine lv_aload_n hx hb d_Ne_numberPoints_136 rfl (lv_at hl 0 rfl) ?_
  refine va_get (D := (dC, dI)) (ci := 3) (v := .ref a_0_sidesOut) (C := "SpaceCycles$Net") (T := F_Ne) (N := 13) hx hb hts (in_F i_Ne) hown hK hP 0 rfl rfl 6 (by decide) (hts _ (in_c k_164)) (fun _ h9 => h9) rfl d_Ne_numberPoints_137 ?_
  refine lv_iconst (v := 0) hx hb d_Ne_numberPoints_140 (by decide) ?_
  refine lv_aload_n hx hb d_Ne_numberPoints_141 rfl (lv_at hl 0 rfl) ?_
  refine va_get (D := (dC, dI)) (ci := 3) (v := .int x6) (C := "SpaceCycles$Net") (T := F_Ne) (N := 13) hx hb hts (in_F i_Ne) hown hK hP 0 rfl rfl 3 (by decide) (hts _ (in_c k_159)) (fun _ h9 => h9) rfl d_Ne_numberPoints_142 ?_
  refine lv_iconst (v := 4) hx hb d_Ne_numberPoints_145 (by decide) ?_
  refine lv_imul hx hb d_Ne_numberPoints_146 ?_
  refine lv_iconst (v := (-1)) hx hb d_Ne_numberPoints_147 (by decide) ?_
  obtain ⟨f50, hb51, hm⟩ := bd1_e hm
  have hPc := hP.sub (ws' := (wl_Ar_fill1 a_0_sidesOut cI 560 f_0_sidesOut)) [3] rfl
  have hDc := hD.sub (ws' := (wl_Ar_fill1 a_0_sidesOut cI 560 f_0_sidesOut)) [3] (by decide) rfl
  refine cl_v (wc' := (wl_Ar_fill1 a_0_sidesOut cI 560 f50)) (va_runS (As := [.ref a_0_sidesOut, .int 0, .int (x6 * 4), .int (-1)]) (rest := []) ⟨hx, hb, hml, hown, hts⟩ (c_Ar_fill1 l dC dI (cI := cI) (cZ := cZ) (cJ := cJ) a_0_sidesOut H.size 560 f_0_sidesOut 0 (x6 * 4) (-1) f50 hb51) (va_cwS 4 hts (gl_S k_148 k_62 k_2 k_61) rfl rfl rfl (by decide +kernel) ⟨Nat.le_of_ble_eq_true rfl, Nat.le_of_ble_eq_true rfl⟩) ⟨PP_blind, fun U hU hW => PP_at hK hN hPc hDc hU hW⟩ rfl rfl hl.1 rfl (lv_room (Nat.le_of_ble_eq_true rfl)) d_Ne_numberPoints_148 ⟨Nat.zero_le _, Nat.zero_le _⟩) hP hD hS hA [3] [0, 1, 2, 4, 5, 6, 7, 8, 9, 10] rfl rfl (by decide) (by decide) (fun H locs hP hD hS => ?_)
  have hP : va_P (dC, dI) vwCl (wl_Ne_numberPoints a_0 a_0_pointX a_0_pointY a_0_sidesOut a_0_weights a_0_pointAt a_1 a_1_xs a_1_xs_places a_1_ys a_1_ys_places b_0_looseSides b_0_pieceLine b_0_begins b_0_directions b_0_leftSpaces b_1_cells cI x6 v_0_pieces v_0_looseEnds f7 f8 f50 f_0_weights f9 v_1_spaces v_1_xs_count f_1_xs_places v_1_ys_count f_1_ys_places) H := hP.sub [0, 1, 2, 10, 3, 4, 5, 6, 7, 8, 9] rfl
  have hD : va_D A (wl_Ne_numberPoints a_0 a_0_pointX a_0_pointY a_0_sidesOut a_0_weights a_0_pointAt a_1 a_1_xs a_1_xs_places a_1_ys a_1_ys_places b_0_looseSides b_0_pieceLine b_0_begins b_0_directions b_0_leftSpaces b_1_cells cI x6 v_0_pieces v_0_looseEnds f7 f8 f50 f_0_weights f9 v_1_spaces v_1_xs_count f_1_xs_places v_1_ys_count f_1_ys_places) := hD.sub [0, 1, 2, 10, 3, 4, 5, 6, 7, 8, 9] (by decide) rfl
  cases hm
  exact hret _ H locs ls d_Ne_numberPoints_151 hP hD hS
set_option maxHeartbeats 4000000 in
set_option maxRecDepth 100000 in
theorem c_Ne_numberPoints (l : Launch) (dC : Nat → ClassId) (dI : Nat → Nat → Nat) {cI cZ cJ : ClassId} (a_0 a_0_pointX a_0_pointY a_0_sidesOut a_0_weights a_0_pointAt a_1 a_1_xs a_1_xs_places a_1_ys a_1_ys_places b_0_looseSides b_0_pieceLine b_0_begins b_0_directions b_0_leftSpaces b_1_cells : Nat) (sz : Nat) (v_0_points : Int32) (v_0_pieces : Int32) (v_0_looseEnds : Int32) (f_0_pointX : Nat → Int32) (f_0_pointY : Nat → Int32) (f_0_sidesOut : Nat → Int32) (f_0_weights : Nat → Int32) (f_0_pointAt : Nat → Int32) (v_1_spaces : Int32) (v_1_xs_count : Int32) (f_1_xs_places : Nat → Int32) (v_1_ys_count : Int32) (f_1_ys_places : Nat → Int32)  (ov_0_points : Int32) (of_0_pointX : Nat → Int32) (of_0_pointY : Nat → Int32) (of_0_sidesOut : Nat → Int32) (of_0_pointAt : Nat → Int32) (hm : m_Ne_numberPoints v_0_points f_0_pointX f_0_pointY f_0_sidesOut f_0_weights f_0_pointAt v_1_xs_count f_1_xs_places v_1_ys_count f_1_ys_places = some (ov_0_points, of_0_pointX, of_0_pointY, of_0_sidesOut, of_0_pointAt)) : Met l y_Ne_numberPoints w_Ne_numberPoints rm_Ne_numberPoints (PP dC dI [(cI, .int), (cZ, .boolean), (cJ, .long)] [.ref a_0, .ref a_1] sz (wl_Ne_numberPoints a_0 a_0_pointX a_0_pointY a_0_sidesOut a_0_weights a_0_pointAt a_1 a_1_xs a_1_xs_places a_1_ys a_1_ys_places b_0_looseSides b_0_pieceLine b_0_begins b_0_directions b_0_leftSpaces b_1_cells cI v_0_points v_0_pieces v_0_looseEnds f_0_pointX f_0_pointY f_0_sidesOut f_0_weights f_0_pointAt v_1_spaces v_1_xs_count f_1_xs_places v_1_ys_count f_1_ys_places)) (QV dC dI [(cI, .int), (cZ, .boolean), (cJ, .long)] sz (wl_Ne_numberPoints a_0 a_0_pointX a_0_pointY a_0_sidesOut a_0_weights a_0_pointAt a_1 a_1_xs a_1_xs_places a_1_ys a_1_ys_places b_0_looseSides b_0_pieceLine b_0_begins b_0_directions b_0_leftSpaces b_1_cells cI v_0_points v_0_pieces v_0_looseEnds f_0_pointX f_0_pointY f_0_sidesOut f_0_weights f_0_pointAt v_1_spaces v_1_xs_count f_1_xs_places v_1_ys_count f_1_ys_places) (wl_Ne_numberPoints a_0 a_0_pointX a_0_pointY a_0_sidesOut a_0_weights a_0_pointAt a_1 a_1_xs a_1_xs_places a_1_ys a_1_ys_places b_0_looseSides b_0_pieceLine b_0_begins b_0_directions b_0_leftSpaces b_1_cells cI ov_0_points v_0_pieces v_0_looseEnds of_0_pointX of_0_pointY of_0_sidesOut f_0_weights of_0_pointAt v_1_spaces v_1_xs_count f_1_xs_places v_1_ys_count f_1_ys_places)) 0 0 (va_A (wl_Ne_numberPoints a_0 a_0_pointX a_0_pointY a_0_sidesOut a_0_weights a_0_pointAt a_1 a_1_xs a_1_xs_places a_1_ys a_1_ys_places b_0_looseSides b_0_pieceLine b_0_begins b_0_directions b_0_leftSpaces b_1_cells cI v_0_points v_0_pieces v_0_looseEnds f_0_pointX f_0_pointY f_0_sidesOut f_0_weights f_0_pointAt v_1_spaces v_1_xs_count f_1_xs_places v_1_ys_count f_1_ys_places) sz) := by
  refine Met.ofW (cc := b_Ne_numberPoints) (maxL := 5) (ret := none) (by decide) rfl ?_
  intro p e s m args below meth c s₁ B hml hv
  obtain ⟨rfl, hsz, hP, hK, hD0, hN⟩ := hv
  subst hsz
  have hl := lv_entry ([.ref a_0, .ref a_1]) (n := 5) (Nat.le_of_ble_eq_true rfl)
  rw [lg_entry_eq]
  generalize (lg_sl ([.ref a_0, .ref a_1]) ++ List.replicate (5 - (lg_sl ([.ref a_0, .ref a_1])).length) Slot.unset).toArray = ls at hl ⊢
  exact t_Ne_numberPoints a_0 a_0_pointX a_0_pointY a_0_sidesOut a_0_weights a_0_pointAt a_1 a_1_xs a_1_xs_places a_1_ys a_1_ys_places b_0_looseSides b_0_pieceLine b_0_begins b_0_directions b_0_leftSpaces b_1_cells v_0_points v_0_pieces v_0_looseEnds f_0_pointX f_0_pointY f_0_sidesOut f_0_weights f_0_pointAt v_1_spaces v_1_xs_count f_1_xs_places v_1_ys_count f_1_ys_places ov_0_points of_0_pointX of_0_pointY of_0_sidesOut of_0_pointAt B.exec B.bytes hml (findClass_of_methodNamed B.named) (atoms_spec (ws := w_Ne_numberPoints) B.pre) hK hN (fun q h => Or.inr h) (fun pc H locs ls hd hP9 hD9 hS => W.vret B.exec B.bytes B.returns (fun t ht hW => ⟨⟨(), rfl, trivial, by rw [ht]; exact hP9, va_K.moved hW.alike hK, hD9⟩, hS.F ht⟩) hS.2.2 hd) hm s.heap [] ls hP hD0.self va_S.rf hl

-- SpaceCycles$Net.sideFrom(II)I
abbrev b_Ne_sideFrom : ByteArray := prog_8_method_9_code
abbrev y_Ne_sideFrom : MethodName := ⟨"SpaceCycles$Net", "sideFrom", "(II)I"⟩
abbrev w_Ne_sideFrom : List Cond := Cond.code y_Ne_sideFrom b_Ne_sideFrom 3 (some .int) :: gl
abbrev rm_Ne_sideFrom : Room := { frames := 0, cells := 0, slots := 0, locals := 0 }
theorem d_Ne_sideFrom_0 : decode b_Ne_sideFrom 0 = .ok (.aload_n 0, 1) := by decide +kernel
theorem d_Ne_sideFrom_1 : decode b_Ne_sideFrom 1 = .ok (.getfield 31, 3) := by decide +kernel
theorem d_Ne_sideFrom_4 : decode b_Ne_sideFrom 4 = .ok (.iload_n 1, 1) := by decide +kernel
theorem d_Ne_sideFrom_5 : decode b_Ne_sideFrom 5 = .ok (.iconst 4, 1) := by decide +kernel
theorem d_Ne_sideFrom_6 : decode b_Ne_sideFrom 6 = .ok (.imul, 1) := by decide +kernel
theorem d_Ne_sideFrom_7 : decode b_Ne_sideFrom 7 = .ok (.iload_n 2, 1) := by decide +kernel
theorem d_Ne_sideFrom_8 : decode b_Ne_sideFrom 8 = .ok (.iadd, 1) := by decide +kernel
theorem d_Ne_sideFrom_9 : decode b_Ne_sideFrom 9 = .ok (.iaload, 1) := by decide +kernel
theorem d_Ne_sideFrom_10 : decode b_Ne_sideFrom 10 = .ok (.ireturn, 1) := by decide +kernel
abbrev wl_Ne_sideFrom (a_0 : Nat) (a_0_sidesOut : Nat) (b_0_pointX : Nat) (b_0_pointY : Nat) (b_0_looseSides : Nat) (b_0_pieceLine : Nat) (b_0_begins : Nat) (b_0_directions : Nat) (b_0_leftSpaces : Nat) (b_0_weights : Nat) (b_0_pointAt : Nat) (cI : ClassId) (v_0_points : Int32) (v_0_pieces : Int32) (v_0_looseEnds : Int32) (f_0_sidesOut : Nat → Int32) : va_W := [(a_0, .inr (3, [.ref b_0_pointX, .ref b_0_pointY, .ref b_0_looseSides, .int v_0_points, .int v_0_pieces, .int v_0_looseEnds, .ref a_0_sidesOut, .ref b_0_pieceLine, .ref b_0_begins, .ref b_0_directions, .ref b_0_leftSpaces, .ref b_0_weights, .ref b_0_pointAt])), (a_0_sidesOut, .inl (cI, 560, .inl f_0_sidesOut))]
def m_Ne_sideFrom (p1 : Int32) (p2 : Int32) (f_0_sidesOut : Nat → Int32) : Option (Int32) :=
  gI ((p1 * 4) + p2) 560 <|
  some (f_0_sidesOut ((p1 * 4) + p2).toNatClampNeg)

set_option maxHeartbeats 4000000 in
set_option maxRecDepth 100000 in
theorem t_Ne_sideFrom {p : Program} {l : Launch} {e : Env} {s : State} {m : MethodId} {args : Array Value} {below : List Frame} {meth : Method} {c : Code} {A : Nat → Prop} {Q : State → Prop} {dC : Nat → ClassId} {dI : Nat → Nat → Nat} {cI cZ cJ : ClassId} (a_0 a_0_sidesOut b_0_pointX b_0_pointY b_0_looseSides b_0_pieceLine b_0_begins b_0_directions b_0_leftSpaces b_0_weights b_0_pointAt : Nat) (v_0_points : Int32) (v_0_pieces : Int32) (v_0_looseEnds : Int32) (f_0_sidesOut : Nat → Int32) (p1 : Int32) (p2 : Int32) (R0 : Int32) (hx : p.tables.exec = Jvm.exec) (hb : c.code = b_Ne_sideFrom) (hml : c.maxLocals = 3) (hown : s.vm.findClass "SpaceCycles$Net" = some m.cls) (hts : ∀ w ∈ w_Ne_sideFrom, w.before args s = true) (hK : va_K (dC, dI) vwCl [(cI, .int), (cZ, .boolean), (cJ, .long)] s) (hN : NX s) (hA : ∀ q : Nat, s.heap.size ≤ q → A q)
    (hret : ∀ (pc : Nat) (H : Heap) (locs : List Loc) (ls : Array Slot), decode b_Ne_sideFrom pc = .ok (.ireturn, 1) → va_P (dC, dI) vwCl (wl_Ne_sideFrom a_0 a_0_sidesOut b_0_pointX b_0_pointY b_0_looseSides b_0_pieceLine b_0_begins b_0_directions b_0_leftSpaces b_0_weights b_0_pointAt cI v_0_points v_0_pieces v_0_looseEnds f_0_sidesOut) H → va_D A (wl_Ne_sideFrom a_0 a_0_sidesOut b_0_pointX b_0_pointY b_0_looseSides b_0_pieceLine b_0_begins b_0_directions b_0_leftSpaces b_0_weights b_0_pointAt cI v_0_points v_0_pieces v_0_looseEnds f_0_sidesOut) → va_S A s.heap H locs → W p l e rm_Ne_sideFrom s m args below meth c H locs 0 0 Q (F0 m pc ls [.int R0]))
    (hm : m_Ne_sideFrom p1 p2 f_0_sidesOut = some R0) : ∀ (H : Heap) (locs : List Loc) (ls : Array Slot), va_P (dC, dI) vwCl (wl_Ne_sideFrom a_0 a_0_sidesOut b_0_pointX b_0_pointY b_0_looseSides b_0_pieceLine b_0_begins b_0_directions b_0_leftSpaces b_0_weights b_0_pointAt cI v_0_points v_0_pieces v_0_looseEnds f_0_sidesOut) H → va_D A (wl_Ne_sideFrom a_0 a_0_sidesOut b_0_pointX b_0_pointY b_0_looseSides b_0_pieceLine b_0_begins b_0_directions b_0_leftSpaces b_0_weights b_0_pointAt cI v_0_points v_0_pieces v_0_looseEnds f_0_sidesOut) → va_S A s.heap H locs → lv_has ls 3 [(0, .ref a_0), (1, .int p1), (2, .int p2)] → W p l e rm_Ne_sideFrom s m args below meth c H locs 0 0 Q (F0 m 0 ls []) := by
  intro H locs ls hP hD hS hl
  unfold m_Ne_sideFrom at hm
  refine lv_aload_n hx hb d_Ne_sideFrom_0 rfl (lv_at hl 0 rfl) ?_
  refine va_get (D := (dC, dI)) (ci := 3) (v := .ref a_0_sidesOut) (C := "SpaceCycles$Net") (T := F_Ne) (N := 13) hx hb hts (in_F i_Ne) hown hK hP 0 rfl rfl 6 (by decide) (hts _ (in_c k_164)) (fun _ h9 => h9) rfl d_Ne_sideFrom_1 ?_
  refine lv_iload_n hx hb d_Ne_sideFrom_4 rfl (lv_at hl 1 rfl) ?_
  refine lv_iconst (v := 4) hx hb d_Ne_sideFrom_5 (by decide) ?_
  refine lv_imul hx hb d_Ne_sideFrom_6 ?_
  refine lv_iload_n hx hb d_Ne_sideFrom_7 rfl (lv_at hl 2 rfl) ?_
  refine lv_iadd hx hb d_Ne_sideFrom_8 ?_
  obtain ⟨hi1, hm⟩ := gI_e hm
  refine va_iald hx hb hK hP 1 0 rfl rfl hi1 d_Ne_sideFrom_9 ?_
  cases hm
  exact hret _ H locs ls d_Ne_sideFrom_10 hP hD hS
set_option maxHeartbeats 4000000 in
set_option maxRecDepth 100000 in
theorem c_Ne_sideFrom (l : Launch) (dC : Nat → ClassId) (dI : Nat → Nat → Nat) {cI cZ cJ : ClassId} (a_0 a_0_sidesOut b_0_pointX b_0_pointY b_0_looseSides b_0_pieceLine b_0_begins b_0_directions b_0_leftSpaces b_0_weights b_0_pointAt : Nat) (sz : Nat) (v_0_points : Int32) (v_0_pieces : Int32) (v_0_looseEnds : Int32) (f_0_sidesOut : Nat → Int32) (p1 : Int32) (p2 : Int32) (R0 : Int32) (hm : m_Ne_sideFrom p1 p2 f_0_sidesOut = some R0) : Met l y_Ne_sideFrom w_Ne_sideFrom rm_Ne_sideFrom (PP dC dI [(cI, .int), (cZ, .boolean), (cJ, .long)] [.ref a_0, .int p1, .int p2] sz (wl_Ne_sideFrom a_0 a_0_sidesOut b_0_pointX b_0_pointY b_0_looseSides b_0_pieceLine b_0_begins b_0_directions b_0_leftSpaces b_0_weights b_0_pointAt cI v_0_points v_0_pieces v_0_looseEnds f_0_sidesOut)) (QI dC dI [(cI, .int), (cZ, .boolean), (cJ, .long)] sz (wl_Ne_sideFrom a_0 a_0_sidesOut b_0_pointX b_0_pointY b_0_looseSides b_0_pieceLine b_0_begins b_0_directions b_0_leftSpaces b_0_weights b_0_pointAt cI v_0_points v_0_pieces v_0_looseEnds f_0_sidesOut) (wl_Ne_sideFrom a_0 a_0_sidesOut b_0_pointX b_0_pointY b_0_looseSides b_0_pieceLine b_0_begins b_0_directions b_0_leftSpaces b_0_weights b_0_pointAt cI v_0_points v_0_pieces v_0_looseEnds f_0_sidesOut) R0) 0 0 (va_A (wl_Ne_sideFrom a_0 a_0_sidesOut b_0_pointX b_0_pointY b_0_looseSides b_0_pieceLine b_0_begins b_0_directions b_0_leftSpaces b_0_weights b_0_pointAt cI v_0_points v_0_pieces v_0_looseEnds f_0_sidesOut) sz) := by
  refine Met.ofW (cc := b_Ne_sideFrom) (maxL := 3) (ret := (some .int)) (by decide) rfl ?_
  intro p e s m args below meth c s₁ B hml hv
  obtain ⟨rfl, hsz, hP, hK, hD0, hN⟩ := hv
  subst hsz
  have hl := lv_entry ([.ref a_0, .int p1, .int p2]) (n := 3) (Nat.le_of_ble_eq_true rfl)
  rw [lg_entry_eq]
  generalize (lg_sl ([.ref a_0, .int p1, .int p2]) ++ List.replicate (3 - (lg_sl ([.ref a_0, .int p1, .int p2])).length) Slot.unset).toArray = ls at hl ⊢
  exact t_Ne_sideFrom a_0 a_0_sidesOut b_0_pointX b_0_pointY b_0_looseSides b_0_pieceLine b_0_begins b_0_directions b_0_leftSpaces b_0_weights b_0_pointAt v_0_points v_0_pieces v_0_looseEnds f_0_sidesOut p1 p2 R0 B.exec B.bytes hml (findClass_of_methodNamed B.named) (atoms_spec (ws := w_Ne_sideFrom) B.pre) hK hN (fun q h => Or.inr h) (fun pc H locs ls hd hP9 hD9 hS => W.iret B.exec B.bytes B.returns (fun t ht hW => ⟨⟨_, (), rfl, rfl, by rw [ht]; exact hP9, va_K.moved hW.alike hK, hD9⟩, hS.F ht⟩) hS.2.2 hd) hm s.heap [] ls hP hD0.self va_S.rf hl

theorem k_165 : ((.fieldLink "SpaceCycles$Net" 28 "SpaceCycles$Net" "looseEnds" "I") : Cond) ∈ gl := gl_i 134 (by decide +kernel) (by decide +kernel)
theorem k_166 : ((.code ⟨"SpaceCycles$Net", "sideFrom", "(II)I"⟩ prog_8_method_9_code 3 (some .int)) : Cond) ∈ gl := gl_i 835 (by decide +kernel) (by decide +kernel)
theorem k_167 : ((.selects "SpaceCycles$Net" ⟨"SpaceCycles$Net", "sideFrom", "(II)I"⟩ ⟨"SpaceCycles$Net", "sideFrom", "(II)I"⟩) : Cond) ∈ gl := gl_i 834 (by decide +kernel) (by decide +kernel)
theorem k_168 : ((.instanceMethod ⟨"SpaceCycles$Net", "sideFrom", "(II)I"⟩) : Cond) ∈ gl := gl_i 833 (by decide +kernel) (by decide +kernel)
theorem k_169 : ((.methodLink "SpaceCycles$Net" 85 ⟨"SpaceCycles$Net", "sideFrom", "(II)I"⟩) : Cond) ∈ gl := gl_i 832 (by decide +kernel) (by decide +kernel)
theorem k_170 : ((.fieldLink "SpaceCycles$Net" 18 "SpaceCycles$Net" "looseSides" "[I") : Cond) ∈ gl := gl_i 125 (by decide +kernel) (by decide +kernel)
-- SpaceCycles$Net.findLooseEnds()V
abbrev b_Ne_findLooseEnds : ByteArray := prog_8_method_23_code
abbrev y_Ne_findLooseEnds : MethodName := ⟨"SpaceCycles$Net", "findLooseEnds", "()V"⟩
abbrev w_Ne_findLooseEnds : List Cond := Cond.code y_Ne_findLooseEnds b_Ne_findLooseEnds 6 none :: gl
abbrev rm_Ne_findLooseEnds : Room := { frames := 1, cells := 0, slots := 0, locals := 22 }
theorem d_Ne_findLooseEnds_0 : decode b_Ne_findLooseEnds 0 = .ok (.aload_n 0, 1) := by decide +kernel
theorem d_Ne_findLooseEnds_1 : decode b_Ne_findLooseEnds 1 = .ok (.iconst 0, 1) := by decide +kernel
theorem d_Ne_findLooseEnds_2 : decode b_Ne_findLooseEnds 2 = .ok (.putfield 28, 3) := by decide +kernel
theorem d_Ne_findLooseEnds_5 : decode b_Ne_findLooseEnds 5 = .ok (.iconst 0, 1) := by decide +kernel
theorem d_Ne_findLooseEnds_6 : decode b_Ne_findLooseEnds 6 = .ok (.istore_n 1, 1) := by decide +kernel
theorem d_Ne_findLooseEnds_7 : decode b_Ne_findLooseEnds 7 = .ok (.iload_n 1, 1) := by decide +kernel
theorem d_Ne_findLooseEnds_8 : decode b_Ne_findLooseEnds 8 = .ok (.aload_n 0, 1) := by decide +kernel
theorem d_Ne_findLooseEnds_9 : decode b_Ne_findLooseEnds 9 = .ok (.getfield 21, 3) := by decide +kernel
theorem d_Ne_findLooseEnds_12 : decode b_Ne_findLooseEnds 12 = .ok (.if_icmp .ge 86, 3) := by decide +kernel
theorem d_Ne_findLooseEnds_15 : decode b_Ne_findLooseEnds 15 = .ok (.iconst (-1), 1) := by decide +kernel
theorem d_Ne_findLooseEnds_16 : decode b_Ne_findLooseEnds 16 = .ok (.istore_n 2, 1) := by decide +kernel
theorem d_Ne_findLooseEnds_17 : decode b_Ne_findLooseEnds 17 = .ok (.iconst 0, 1) := by decide +kernel
theorem d_Ne_findLooseEnds_18 : decode b_Ne_findLooseEnds 18 = .ok (.istore_n 3, 1) := by decide +kernel
theorem d_Ne_findLooseEnds_19 : decode b_Ne_findLooseEnds 19 = .ok (.iconst 0, 1) := by decide +kernel
theorem d_Ne_findLooseEnds_20 : decode b_Ne_findLooseEnds 20 = .ok (.istore 4, 2) := by decide +kernel
theorem d_Ne_findLooseEnds_22 : decode b_Ne_findLooseEnds 22 = .ok (.iload 4, 2) := by decide +kernel
theorem d_Ne_findLooseEnds_24 : decode b_Ne_findLooseEnds 24 = .ok (.iconst 4, 1) := by decide +kernel
theorem d_Ne_findLooseEnds_25 : decode b_Ne_findLooseEnds 25 = .ok (.if_icmp .ge 30, 3) := by decide +kernel
theorem d_Ne_findLooseEnds_28 : decode b_Ne_findLooseEnds 28 = .ok (.aload_n 0, 1) := by decide +kernel
theorem d_Ne_findLooseEnds_29 : decode b_Ne_findLooseEnds 29 = .ok (.iload_n 1, 1) := by decide +kernel
theorem d_Ne_findLooseEnds_30 : decode b_Ne_findLooseEnds 30 = .ok (.iload 4, 2) := by decide +kernel
theorem d_Ne_findLooseEnds_32 : decode b_Ne_findLooseEnds 32 = .ok (.invokevirtual 85, 3) := by decide +kernel
theorem d_Ne_findLooseEnds_35 : decode b_Ne_findLooseEnds 35 = .ok (.istore 5, 2) := by decide +kernel
theorem d_Ne_findLooseEnds_37 : decode b_Ne_findLooseEnds 37 = .ok (.iload 5, 2) := by decide +kernel
theorem d_Ne_findLooseEnds_39 : decode b_Ne_findLooseEnds 39 = .ok (.iconst (-1), 1) := by decide +kernel
theorem d_Ne_findLooseEnds_40 : decode b_Ne_findLooseEnds 40 = .ok (.if_icmp .eq 9, 3) := by decide +kernel
theorem d_Ne_findLooseEnds_43 : decode b_Ne_findLooseEnds 43 = .ok (.iload 5, 2) := by decide +kernel
theorem d_Ne_findLooseEnds_45 : decode b_Ne_findLooseEnds 45 = .ok (.istore_n 2, 1) := by decide +kernel
theorem d_Ne_findLooseEnds_46 : decode b_Ne_findLooseEnds 46 = .ok (.iinc 3 1, 3) := by decide +kernel
theorem d_Ne_findLooseEnds_49 : decode b_Ne_findLooseEnds 49 = .ok (.iinc 4 1, 3) := by decide +kernel
theorem d_Ne_findLooseEnds_52 : decode b_Ne_findLooseEnds 52 = .ok (.goto (-30), 3) := by decide +kernel
theorem d_Ne_findLooseEnds_55 : decode b_Ne_findLooseEnds 55 = .ok (.iload_n 3, 1) := by decide +kernel
theorem d_Ne_findLooseEnds_56 : decode b_Ne_findLooseEnds 56 = .ok (.iconst 1, 1) := by decide +kernel
theorem d_Ne_findLooseEnds_57 : decode b_Ne_findLooseEnds 57 = .ok (.if_icmp .ne 35, 3) := by decide +kernel
theorem d_Ne_findLooseEnds_60 : decode b_Ne_findLooseEnds 60 = .ok (.aload_n 0, 1) := by decide +kernel
theorem d_Ne_findLooseEnds_61 : decode b_Ne_findLooseEnds 61 = .ok (.getfield 28, 3) := by decide +kernel
theorem d_Ne_findLooseEnds_64 : decode b_Ne_findLooseEnds 64 = .ok (.aload_n 0, 1) := by decide +kernel
theorem d_Ne_findLooseEnds_65 : decode b_Ne_findLooseEnds 65 = .ok (.getfield 18, 3) := by decide +kernel
theorem d_Ne_findLooseEnds_68 : decode b_Ne_findLooseEnds 68 = .ok (.arraylength, 1) := by decide +kernel
theorem d_Ne_findLooseEnds_69 : decode b_Ne_findLooseEnds 69 = .ok (.if_icmp .ge 23, 3) := by decide +kernel
theorem d_Ne_findLooseEnds_72 : decode b_Ne_findLooseEnds 72 = .ok (.aload_n 0, 1) := by decide +kernel
theorem d_Ne_findLooseEnds_73 : decode b_Ne_findLooseEnds 73 = .ok (.getfield 18, 3) := by decide +kernel
theorem d_Ne_findLooseEnds_76 : decode b_Ne_findLooseEnds 76 = .ok (.aload_n 0, 1) := by decide +kernel
theorem d_Ne_findLooseEnds_77 : decode b_Ne_findLooseEnds 77 = .ok (.getfield 28, 3) := by decide +kernel
theorem d_Ne_findLooseEnds_80 : decode b_Ne_findLooseEnds 80 = .ok (.iload_n 2, 1) := by decide +kernel
theorem d_Ne_findLooseEnds_81 : decode b_Ne_findLooseEnds 81 = .ok (.iastore, 1) := by decide +kernel
theorem d_Ne_findLooseEnds_82 : decode b_Ne_findLooseEnds 82 = .ok (.aload_n 0, 1) := by decide +kernel
theorem d_Ne_findLooseEnds_83 : decode b_Ne_findLooseEnds 83 = .ok (.dup, 1) := by decide +kernel
theorem d_Ne_findLooseEnds_84 : decode b_Ne_findLooseEnds 84 = .ok (.getfield 28, 3) := by decide +kernel
theorem d_Ne_findLooseEnds_87 : decode b_Ne_findLooseEnds 87 = .ok (.iconst 1, 1) := by decide +kernel
theorem d_Ne_findLooseEnds_88 : decode b_Ne_findLooseEnds 88 = .ok (.iadd, 1) := by decide +kernel
theorem d_Ne_findLooseEnds_89 : decode b_Ne_findLooseEnds 89 = .ok (.putfield 28, 3) := by decide +kernel
theorem d_Ne_findLooseEnds_92 : decode b_Ne_findLooseEnds 92 = .ok (.iinc 1 1, 3) := by decide +kernel
theorem d_Ne_findLooseEnds_95 : decode b_Ne_findLooseEnds 95 = .ok (.goto (-88), 3) := by decide +kernel
theorem d_Ne_findLooseEnds_98 : decode b_Ne_findLooseEnds 98 = .ok (.return_, 1) := by decide +kernel
abbrev wl_Ne_findLooseEnds (a_0 : Nat) (a_0_looseSides : Nat) (a_0_sidesOut : Nat) (b_0_pointX : Nat) (b_0_pointY : Nat) (b_0_pieceLine : Nat) (b_0_begins : Nat) (b_0_directions : Nat) (b_0_leftSpaces : Nat) (b_0_weights : Nat) (b_0_pointAt : Nat) (cI : ClassId) (v_0_points : Int32) (v_0_pieces : Int32) (v_0_looseEnds : Int32) (f_0_looseSides : Nat → Int32) (f_0_sidesOut : Nat → Int32) : va_W := [(a_0, .inr (3, [.ref b_0_pointX, .ref b_0_pointY, .ref a_0_looseSides, .int v_0_points, .int v_0_pieces, .int v_0_looseEnds, .ref a_0_sidesOut, .ref b_0_pieceLine, .ref b_0_begins, .ref b_0_directions, .ref b_0_leftSpaces, .ref b_0_weights, .ref b_0_pointAt])), (a_0_looseSides, .inl (cI, 40, .inl f_0_looseSides)), (a_0_sidesOut, .inl (cI, 560, .inl f_0_sidesOut))]
def m_Ne_findLooseEnds_L22 (l1 : Int32) (f_0_sidesOut : Nat → Int32) : Nat → Int32 → Int32 → Int32 → Option (Int32 × Int32)
  | 0, _, _, _ => none
  | n + 1, l2, l3, l4 =>
    if 4 ≤ l4 then (
      some (l2, l3))
    else (
      bd1 (m_Ne_sideFrom l1 l4 f_0_sidesOut) fun r3 =>
      bd2 (
        if r3 = (-1) then (
        some (l2, l3))
      else (
        lt_ (l3 + 1) fun x11 =>
        some (r3, x11)))
      fun (x8 : Int32) (x9 : Int32) =>
      lt_ (l4 + 1) fun x12 =>
        m_Ne_findLooseEnds_L22 l1 f_0_sidesOut n x8 x9 x12)

def m_Ne_findLooseEnds_L7 (v_0_points : Int32) (f_0_sidesOut : Nat → Int32) : Nat → Int32 → Int32 → (Nat → Int32) → Option ((Int32) × (Nat → Int32))
  | 0, _, _, _ => none
  | n + 1, l1, v_0_looseEnds, f_0_looseSides =>
    if v_0_points ≤ l1 then (
      some (v_0_looseEnds, f_0_looseSides))
    else (
      bd2 (m_Ne_findLooseEnds_L22 l1 f_0_sidesOut fu (-1) 0 0) fun x5 x6 =>
      bd2 (
        if x6 = 1 then (
        if 40 ≤ v_0_looseEnds then (
          some (v_0_looseEnds, f_0_looseSides))
        else (
          gI v_0_looseEnds 40 <|
          lt_ (upd f_0_looseSides v_0_looseEnds.toNatClampNeg x5) fun f28 =>
          lt_ (v_0_looseEnds + 1) fun x29 =>
          some (x29, f28)))
      else (
        some (v_0_looseEnds, f_0_looseSides)))
      fun (x23 : Int32) (f24 : Nat → Int32) =>
      lt_ (l1 + 1) fun x30 =>
        m_Ne_findLooseEnds_L7 v_0_points f_0_sidesOut n x30 x23 f24)
def m_Ne_findLooseEnds (v_0_points : Int32) (v_0_looseEnds : Int32) (f_0_looseSides : Nat → Int32) (f_0_sidesOut : Nat → Int32) : Option ((Int32) × (Nat → Int32)) :=
  bd2 (m_Ne_findLooseEnds_L7 v_0_points f_0_sidesOut fu 0 0 f_0_looseSides) fun x4 f5 =>
  some (x4, f5)

set_option maxHeartbeats 4000000 in
set_option maxRecDepth 100000 in
theorem t_Ne_findLooseEnds {p : Program} {l : Launch} {e : Env} {s : State} {m : MethodId} {args : Array Value} {below : List Frame} {meth : Method} {c : Code} {A : Nat → Prop} {Q : State → Prop} {dC : Nat → ClassId} {dI : Nat → Nat → Nat} {cI cZ cJ : ClassId} (a_0 a_0_looseSides a_0_sidesOut b_0_pointX b_0_pointY b_0_pieceLine b_0_begins b_0_directions b_0_leftSpaces b_0_weights b_0_pointAt : Nat) (v_0_points : Int32) (v_0_pieces : Int32) (v_0_looseEnds : Int32) (f_0_looseSides : Nat → Int32) (f_0_sidesOut : Nat → Int32)  (ov_0_looseEnds : Int32) (of_0_looseSides : Nat → Int32) (hx : p.tables.exec = Jvm.exec) (hb : c.code = b_Ne_findLooseEnds) (hml : c.maxLocals = 6) (hown : s.vm.findClass "SpaceCycles$Net" = some m.cls) (hts : ∀ w ∈ w_Ne_findLooseEnds, w.before args s = true) (hK : va_K (dC, dI) vwCl [(cI, .int), (cZ, .boolean), (cJ, .long)] s) (hN : NX s) (hA : ∀ q : Nat, s.heap.size ≤ q → A q)
    (hret : ∀ (pc : Nat) (H : Heap) (locs : List Loc) (ls : Array Slot), decode b_Ne_findLooseEnds pc = .ok (.return_, 1) → va_P (dC, dI) vwCl (wl_Ne_findLooseEnds a_0 a_0_looseSides a_0_sidesOut b_0_pointX b_0_pointY b_0_pieceLine b_0_begins b_0_directions b_0_leftSpaces b_0_weights b_0_pointAt cI v_0_points v_0_pieces ov_0_looseEnds of_0_looseSides f_0_sidesOut) H → va_D A (wl_Ne_findLooseEnds a_0 a_0_looseSides a_0_sidesOut b_0_pointX b_0_pointY b_0_pieceLine b_0_begins b_0_directions b_0_leftSpaces b_0_weights b_0_pointAt cI v_0_points v_0_pieces ov_0_looseEnds of_0_looseSides f_0_sidesOut) → va_S A s.heap H locs → W p l e rm_Ne_findLooseEnds s m args below meth c H locs 0 0 Q (F0 m pc ls []))
    (hm : m_Ne_findLooseEnds v_0_points v_0_looseEnds f_0_looseSides f_0_sidesOut = some (ov_0_looseEnds, of_0_looseSides)) : ∀ (H : Heap) (locs : List Loc) (ls : Array Slot), va_P (dC, dI) vwCl (wl_Ne_findLooseEnds a_0 a_0_looseSides a_0_sidesOut b_0_pointX b_0_pointY b_0_pieceLine b_0_begins b_0_directions b_0_leftSpaces b_0_weights b_0_pointAt cI v_0_points v_0_pieces v_0_looseEnds f_0_looseSides f_0_sidesOut) H → va_D A (wl_Ne_findLooseEnds a_0 a_0_looseSides a_0_sidesOut b_0_pointX b_0_pointY b_0_pieceLine b_0_begins b_0_directions b_0_leftSpaces b_0_weights b_0_pointAt cI v_0_points v_0_pieces v_0_looseEnds f_0_looseSides f_0_sidesOut) → va_S A s.heap H locs → lv_has ls 6 [(0, .ref a_0)] → W p l e rm_Ne_findLooseEnds s m args below meth c H locs 0 0 Q (F0 m 0 ls []) := by
  intro H locs ls hP hD hS hl
  unfold m_Ne_findLooseEnds at hm
  refine lv_aload_n hx hb d_Ne_findLooseEnds_0 rfl (lv_at hl 0 rfl) ?_
  refine lv_iconst (v := 0) hx hb d_Ne_findLooseEnds_1 (by decide) ?_
  refine va_put (D := (dC, dI)) (ci := 3) (v := .int 0) (ty := .int) (C := "SpaceCycles$Net") (T := F_Ne) (N := 13) hx hb hts (in_F i_Ne) t_Ne t_Ne_ok n_Ne hown hK hP hD hS 0 rfl rfl 5 (by decide) (hts _ (in_c k_165)) (fun _ h9 => h9) rfl (by decide +kernel) rfl rfl (Nat.le_of_ble_eq_true rfl) d_Ne_findLooseEnds_2 (fun H locs hP hD hS => ?_)
  have hP : va_P (dC, dI) vwCl (wl_Ne_findLooseEnds a_0 a_0_looseSides a_0_sidesOut b_0_pointX b_0_pointY b_0_pieceLine b_0_begins b_0_directions b_0_leftSpaces b_0_weights b_0_pointAt cI v_0_points v_0_pieces 0 f_0_looseSides f_0_sidesOut) H := hP
  have hD : va_D A (wl_Ne_findLooseEnds a_0 a_0_looseSides a_0_sidesOut b_0_pointX b_0_pointY b_0_pieceLine b_0_begins b_0_directions b_0_leftSpaces b_0_weights b_0_pointAt cI v_0_points v_0_pieces 0 f_0_looseSides f_0_sidesOut) := hD
  refine lv_iconst (v := 0) hx hb d_Ne_findLooseEnds_5 (by decide) ?_
  refine lv_istore_n (lv' := [(1, .int 0), (0, .ref a_0)]) hx hb d_Ne_findLooseEnds_6 rfl hl (by decide) rfl (fun ls hl => ?_)
  have L7_6 : ∀ (n : Nat) (x1 : Int32) (x2 : Int32) (f3 : Nat → Int32) (x4 : Int32) (f5 : Nat → Int32), m_Ne_findLooseEnds_L7 v_0_points f_0_sidesOut n x1 x2 f3 = some (x4, f5) → (∀ (H : Heap) (locs : List Loc) (ls : Array Slot), va_P (dC, dI) vwCl (wl_Ne_findLooseEnds a_0 a_0_looseSides a_0_sidesOut b_0_pointX b_0_pointY b_0_pieceLine b_0_begins b_0_directions b_0_leftSpaces b_0_weights b_0_pointAt cI v_0_points v_0_pieces x4 f5 f_0_sidesOut) H → va_D A (wl_Ne_findLooseEnds a_0 a_0_looseSides a_0_sidesOut b_0_pointX b_0_pointY b_0_pieceLine b_0_begins b_0_directions b_0_leftSpaces b_0_weights b_0_pointAt cI v_0_points v_0_pieces x4 f5 f_0_sidesOut) → va_S A s.heap H locs → lv_has ls 6 [] → W p l e rm_Ne_findLooseEnds s m args below meth c H locs 0 0 Q (F0 m 98 ls [])) → ∀ (H : Heap) (locs : List Loc) (ls : Array Slot), va_P (dC, dI) vwCl (wl_Ne_findLooseEnds a_0 a_0_looseSides a_0_sidesOut b_0_pointX b_0_pointY b_0_pieceLine b_0_begins b_0_directions b_0_leftSpaces b_0_weights b_0_pointAt cI v_0_points v_0_pieces x2 f3 f_0_sidesOut) H → va_D A (wl_Ne_findLooseEnds a_0 a_0_looseSides a_0_sidesOut b_0_pointX b_0_pointY b_0_pieceLine b_0_begins b_0_directions b_0_leftSpaces b_0_weights b_0_pointAt cI v_0_points v_0_pieces x2 f3 f_0_sidesOut) → va_S A s.heap H locs → lv_has ls 6 [(0, .ref a_0), (1, .int x1)] → W p l e rm_Ne_findLooseEnds s m args below meth c H locs 0 0 Q (F0 m 7 ls []) := by
    intro n
    induction n with
    | zero => intro x1 x2 f3 x4 f5 hm; simp [m_Ne_findLooseEnds_L7] at hm
    | succ n ih =>
      intro x1 x2 f3 x4 f5 hm KE H locs ls hP hD hS hl
      rw [m_Ne_findLooseEnds_L7] at hm
      refine lv_iload_n hx hb d_Ne_findLooseEnds_7 rfl (lv_at hl 1 rfl) ?_
      refine lv_aload_n hx hb d_Ne_findLooseEnds_8 rfl (lv_at hl 0 rfl) ?_
      refine va_get (D := (dC, dI)) (ci := 3) (v := .int v_0_points) (C := "SpaceCycles$Net") (T := F_Ne) (N := 13) hx hb hts (in_F i_Ne) hown hK hP 0 rfl rfl 3 (by decide) (hts _ (in_c k_159)) (fun _ h9 => h9) rfl d_Ne_findLooseEnds_9 ?_
      refine lv_icmp_ge (tgt := 98) hx hb d_Ne_findLooseEnds_12 (by decide) (fun c7 => ?_) (fun c7 => ?_)
      · replace hm := if_t hm c7
        cases hm
        exact KE H locs ls hP hD hS (lv_sub hl [] rfl)
      · replace hm := if_f hm c7
        refine lv_iconst (v := (-1)) hx hb d_Ne_findLooseEnds_15 (by decide) ?_
        refine lv_istore_n (lv' := [(2, .int (-1)), (0, .ref a_0), (1, .int x1)]) hx hb d_Ne_findLooseEnds_16 rfl hl (by decide) rfl (fun ls hl => ?_)
        refine lv_iconst (v := 0) hx hb d_Ne_findLooseEnds_17 (by decide) ?_
        refine lv_istore_n (lv' := [(3, .int 0), (2, .int (-1)), (0, .ref a_0), (1, .int x1)]) hx hb d_Ne_findLooseEnds_18 rfl hl (by decide) rfl (fun ls hl => ?_)
        refine lv_iconst (v := 0) hx hb d_Ne_findLooseEnds_19 (by decide) ?_
        refine lv_istore (lv' := [(4, .int 0), (3, .int 0), (2, .int (-1)), (0, .ref a_0), (1, .int x1)]) hx hb d_Ne_findLooseEnds_20 hl (by decide) rfl (fun ls hl => ?_)
        have L22_13 : ∀ (n : Nat) (x8 : Int32) (x9 : Int32) (x10 : Int32) (x11 : Int32) (x12 : Int32), m_Ne_findLooseEnds_L22 x1 f_0_sidesOut n x8 x9 x10 = some (x11, x12) → (∀ (H : Heap) (locs : List Loc) (ls : Array Slot), va_P (dC, dI) vwCl (wl_Ne_findLooseEnds a_0 a_0_looseSides a_0_sidesOut b_0_pointX b_0_pointY b_0_pieceLine b_0_begins b_0_directions b_0_leftSpaces b_0_weights b_0_pointAt cI v_0_points v_0_pieces x2 f3 f_0_sidesOut) H → va_D A (wl_Ne_findLooseEnds a_0 a_0_looseSides a_0_sidesOut b_0_pointX b_0_pointY b_0_pieceLine b_0_begins b_0_directions b_0_leftSpaces b_0_weights b_0_pointAt cI v_0_points v_0_pieces x2 f3 f_0_sidesOut) → va_S A s.heap H locs → lv_has ls 6 [(0, .ref a_0), (1, .int x1), (2, .int x11), (3, .int x12)] → W p l e rm_Ne_findLooseEnds s m args below meth c H locs 0 0 Q (F0 m 55 ls [])) → ∀ (H : Heap) (locs : List Loc) (ls : Array Slot), va_P (dC, dI) vwCl (wl_Ne_findLooseEnds a_0 a_0_looseSides a_0_sidesOut b_0_pointX b_0_pointY b_0_pieceLine b_0_begins b_0_directions b_0_leftSpaces b_0_weights b_0_pointAt cI v_0_points v_0_pieces x2 f3 f_0_sidesOut) H → va_D A (wl_Ne_findLooseEnds a_0 a_0_looseSides a_0_sidesOut b_0_pointX b_0_pointY b_0_pieceLine b_0_begins b_0_directions b_0_leftSpaces b_0_weights b_0_pointAt cI v_0_points v_0_pieces x2 f3 f_0_sidesOut) → va_S A s.heap H locs → lv_has ls 6 [(0, .ref a_0), (1, .int x1), (2, .int x8), (3, .int x9), (4, .int x10)] → W p l e rm_Ne_findLooseEnds s m args below meth c H locs 0 0 Q (F0 m 22 ls []) := by
          intro n
          induction n with
          | zero => intro x8 x9 x10 x11 x12 hm; simp [m_Ne_findLooseEnds_L22] at hm
          | succ n ih =>
            intro x8 x9 x10 x11 x12 hm KE H locs ls hP hD hS hl
            rw [m_Ne_findLooseEnds_L22] at hm
            refine lv_iload hx hb d_Ne_findLooseEnds_22 (lv_at hl 4 rfl) ?_
            refine lv_iconst (v := 4) hx hb d_Ne_findLooseEnds_24 (by decide) ?_
            refine lv_icmp_ge (tgt := 55) hx hb d_Ne_findLooseEnds_25 (by decide) (fun c14 => ?_) (fun c14 => ?_)
            · replace hm := if_t hm c14
              cases hm
              exact KE H locs ls hP hD hS (lv_sub hl [0, 1, 2, 3] rfl)
            · replace hm := if_f hm c14
              refine lv_aload_n hx hb d_Ne_findLooseEnds_28 rfl (lv_at hl 0 rfl) ?_
              refine lv_iload_n hx hb d_Ne_findLooseEnds_29 rfl (lv_at hl 1 rfl) ?_
              refine lv_iload hx hb d_Ne_findLooseEnds_30 (lv_at hl 4 rfl) ?_
              obtain ⟨r15, hb16, hm⟩ := bd1_e hm
              have hPc := hP.sub (ws' := (wl_Ne_sideFrom a_0 a_0_sidesOut b_0_pointX b_0_pointY a_0_looseSides b_0_pieceLine b_0_begins b_0_directions b_0_leftSpaces b_0_weights b_0_pointAt cI v_0_points v_0_pieces x2 f_0_sidesOut)) [0, 2] rfl
              have hDc := hD.sub (ws' := (wl_Ne_sideFrom a_0 a_0_sidesOut b_0_pointX b_0_pointY a_0_looseSides b_0_pieceLine b_0_begins b_0_directions b_0_leftSpaces b_0_weights b_0_pointAt cI v_0_points v_0_pieces x2 f_0_sidesOut)) [0, 2] (by decide) rfl
              refine cl_i (wc' := (wl_Ne_sideFrom a_0 a_0_sidesOut b_0_pointX b_0_pointY a_0_looseSides b_0_pieceLine b_0_begins b_0_directions b_0_leftSpaces b_0_weights b_0_pointAt cI v_0_points v_0_pieces x2 f_0_sidesOut)) (va_runV (As := [.int x1, .int x10]) (rest := []) ⟨hx, hb, hml, hown, hts⟩ (c_Ne_sideFrom l dC dI (cI := cI) (cZ := cZ) (cJ := cJ) a_0 a_0_sidesOut b_0_pointX b_0_pointY a_0_looseSides b_0_pieceLine b_0_begins b_0_directions b_0_leftSpaces b_0_weights b_0_pointAt H.size v_0_points v_0_pieces x2 f_0_sidesOut x1 x10 r15 hb16) (cwV 2 hts (gl_V k_169 k_168 k_167 k_145 k_166) rfl rfl rfl (by decide +kernel) ⟨Nat.le_of_ble_eq_true rfl, Nat.le_of_ble_eq_true rfl⟩) ⟨PP_blind, va_recv hK hPc (ci := 3) (q0 := 0) rfl rfl, fun U hU hW => PP_at hK hN hPc hDc hU hW⟩ rfl rfl hl.1 rfl (lv_room (Nat.le_of_ble_eq_true rfl)) d_Ne_findLooseEnds_32 ⟨Nat.zero_le _, Nat.zero_le _⟩) hP hD hS hA [0, 2] [1] rfl rfl (by decide) (by decide) (fun H locs hP hD hS => ?_)
              have hP : va_P (dC, dI) vwCl (wl_Ne_findLooseEnds a_0 a_0_looseSides a_0_sidesOut b_0_pointX b_0_pointY b_0_pieceLine b_0_begins b_0_directions b_0_leftSpaces b_0_weights b_0_pointAt cI v_0_points v_0_pieces x2 f3 f_0_sidesOut) H := hP.sub [1, 0, 2] rfl
              have hD : va_D A (wl_Ne_findLooseEnds a_0 a_0_looseSides a_0_sidesOut b_0_pointX b_0_pointY b_0_pieceLine b_0_begins b_0_directions b_0_leftSpaces b_0_weights b_0_pointAt cI v_0_points v_0_pieces x2 f3 f_0_sidesOut) := hD.sub [1, 0, 2] (by decide) rfl
              refine lv_istore (lv' := [(5, .int r15), (0, .ref a_0), (1, .int x1), (2, .int x8), (3, .int x9), (4, .int x10)]) hx hb d_Ne_findLooseEnds_35 hl (by decide) rfl (fun ls hl => ?_)
              refine lv_iload hx hb d_Ne_findLooseEnds_37 (lv_at hl 0 rfl) ?_
              refine lv_iconst (v := (-1)) hx hb d_Ne_findLooseEnds_39 (by decide) ?_
              obtain ⟨x20, x21, hb18, hm⟩ := bd2_e hm
              have K17 : ∀ (H : Heap) (locs : List Loc) (ls : Array Slot), va_P (dC, dI) vwCl (wl_Ne_findLooseEnds a_0 a_0_looseSides a_0_sidesOut b_0_pointX b_0_pointY b_0_pieceLine b_0_begins b_0_directions b_0_leftSpaces b_0_weights b_0_pointAt cI v_0_points v_0_pieces x2 f3 f_0_sidesOut) H → va_D A (wl_Ne_findLooseEnds a_0 a_0_looseSides a_0_sidesOut b_0_pointX b_0_pointY b_0_pieceLine b_0_begins b_0_directions b_0_leftSpaces b_0_weights b_0_pointAt cI v_0_points v_0_pieces x2 f3 f_0_sidesOut) → va_S A s.heap H locs → lv_has ls 6 [(0, .ref a_0), (1, .int x1), (2, .int x20), (3, .int x21), (4, .int x10)] → W p l e rm_Ne_findLooseEnds s m args below meth c H locs 0 0 Q (F0 m 49 ls []) := by
                intro H locs ls hP hD hS hl
                obtain ⟨x24, ex24⟩ : ∃ y : Int32, y = x10 + 1 := ⟨_, rfl⟩
                replace hm := lt_el hm ex24
                refine lv_iinc (v := x24) (lv' := [(4, .int x24), (0, .ref a_0), (1, .int x1), (2, .int x20), (3, .int x21)]) hx hb d_Ne_findLooseEnds_49 hl (k := 4) rfl (by rw [ex24]; rfl) (by decide) rfl (fun ls hl => ?_)
                refine lv_goto (tgt := 22) hx hb d_Ne_findLooseEnds_52 (by decide) ?_
                exact ih _ _ _ _ _ hm KE H locs ls hP hD hS (lv_sub hl [1, 2, 3, 4, 0] rfl)
              replace hm := hb18
              refine lv_icmp_eq (tgt := 49) hx hb d_Ne_findLooseEnds_40 (by decide) (fun c22 => ?_) (fun c22 => ?_)
              · replace hm := if_t hm c22
                cases hm
                exact K17 H locs ls hP hD hS (lv_sub hl [1, 2, 3, 4, 5] rfl)
              · replace hm := if_f hm c22
                refine lv_iload hx hb d_Ne_findLooseEnds_43 (lv_at hl 0 rfl) ?_
                refine lv_istore_n (lv' := [(2, .int r15), (5, .int r15), (0, .ref a_0), (1, .int x1), (3, .int x9), (4, .int x10)]) hx hb d_Ne_findLooseEnds_45 rfl hl (by decide) rfl (fun ls hl => ?_)
                obtain ⟨x23, ex23⟩ : ∃ y : Int32, y = x9 + 1 := ⟨_, rfl⟩
                replace hm := lt_el hm ex23
                refine lv_iinc (v := x23) (lv' := [(3, .int x23), (2, .int r15), (5, .int r15), (0, .ref a_0), (1, .int x1), (4, .int x10)]) hx hb d_Ne_findLooseEnds_46 hl (k := 4) rfl (by rw [ex23]; rfl) (by decide) rfl (fun ls hl => ?_)
                cases hm
                exact K17 H locs ls hP hD hS (lv_sub hl [3, 4, 1, 0, 5] rfl)
        obtain ⟨x11, x12, hb25, hm⟩ := bd2_e hm
        refine L22_13 fu _ _ _ _ _ hb25 (fun H locs ls hP hD hS hl => ?_) H locs ls hP hD hS (lv_sub hl [3, 4, 2, 1, 0] rfl)
        refine lv_iload_n hx hb d_Ne_findLooseEnds_55 rfl (lv_at hl 3 rfl) ?_
        refine lv_iconst (v := 1) hx hb d_Ne_findLooseEnds_56 (by decide) ?_
        obtain ⟨x29, f30, hb27, hm⟩ := bd2_e hm
        have K26 : ∀ (H : Heap) (locs : List Loc) (ls : Array Slot), va_P (dC, dI) vwCl (wl_Ne_findLooseEnds a_0 a_0_looseSides a_0_sidesOut b_0_pointX b_0_pointY b_0_pieceLine b_0_begins b_0_directions b_0_leftSpaces b_0_weights b_0_pointAt cI v_0_points v_0_pieces x29 f30 f_0_sidesOut) H → va_D A (wl_Ne_findLooseEnds a_0 a_0_looseSides a_0_sidesOut b_0_pointX b_0_pointY b_0_pieceLine b_0_begins b_0_directions b_0_leftSpaces b_0_weights b_0_pointAt cI v_0_points v_0_pieces x29 f30 f_0_sidesOut) → va_S A s.heap H locs → lv_has ls 6 [(0, .ref a_0), (1, .int x1)] → W p l e rm_Ne_findLooseEnds s m args below meth c H locs 0 0 Q (F0 m 92 ls []) := by
          intro H locs ls hP hD hS hl
          obtain ⟨x36, ex36⟩ : ∃ y : Int32, y = x1 + 1 := ⟨_, rfl⟩
          replace hm := lt_el hm ex36
          refine lv_iinc (v := x36) (lv' := [(1, .int x36), (0, .ref a_0)]) hx hb d_Ne_findLooseEnds_92 hl (k := 1) rfl (by rw [ex36]; rfl) (by decide) rfl (fun ls hl => ?_)
          refine lv_goto (tgt := 7) hx hb d_Ne_findLooseEnds_95 (by decide) ?_
          exact ih _ _ _ _ _ hm KE H locs ls hP hD hS (lv_sub hl [1, 0] rfl)
        replace hm := hb27
        refine lv_icmp_ne (tgt := 92) hx hb d_Ne_findLooseEnds_57 (by decide) (fun c31 => ?_) (fun c31 => ?_)
        · replace hm := if_f hm c31
          cases hm
          exact K26 H locs ls hP hD hS (lv_sub hl [0, 1] rfl)
        · replace hm := if_t hm c31
          refine lv_aload_n hx hb d_Ne_findLooseEnds_60 rfl (lv_at hl 0 rfl) ?_
          refine va_get (D := (dC, dI)) (ci := 3) (v := .int x2) (C := "SpaceCycles$Net") (T := F_Ne) (N := 13) hx hb hts (in_F i_Ne) hown hK hP 0 rfl rfl 5 (by decide) (hts _ (in_c k_165)) (fun _ h9 => h9) rfl d_Ne_findLooseEnds_61 ?_
          refine lv_aload_n hx hb d_Ne_findLooseEnds_64 rfl (lv_at hl 0 rfl) ?_
          refine va_get (D := (dC, dI)) (ci := 3) (v := .ref a_0_looseSides) (C := "SpaceCycles$Net") (T := F_Ne) (N := 13) hx hb hts (in_F i_Ne) hown hK hP 0 rfl rfl 2 (by decide) (hts _ (in_c k_170)) (fun _ h9 => h9) rfl d_Ne_findLooseEnds_65 ?_
          refine va_alen (v := 40) hx hb hK hP 1 0 rfl rfl rfl d_Ne_findLooseEnds_68 ?_
          refine lv_icmp_ge (tgt := 92) hx hb d_Ne_findLooseEnds_69 (by decide) (fun c32 => ?_) (fun c32 => ?_)
          · replace hm := if_t hm c32
            cases hm
            exact K26 H locs ls hP hD hS (lv_sub hl [0, 1] rfl)
          · replace hm := if_f hm c32
            refine lv_aload_n hx hb d_Ne_findLooseEnds_72 rfl (lv_at hl 0 rfl) ?_
            refine va_get (D := (dC, dI)) (ci := 3) (v := .ref a_0_looseSides) (C := "SpaceCycles$Net") (T := F_Ne) (N := 13) hx hb hts (in_F i_Ne) hown hK hP 0 rfl rfl 2 (by decide) (hts _ (in_c k_170)) (fun _ h9 => h9) rfl d_Ne_findLooseEnds_73 ?_
            refine lv_aload_n hx hb d_Ne_findLooseEnds_76 rfl (lv_at hl 0 rfl) ?_
            refine va_get (D := (dC, dI)) (ci := 3) (v := .int x2) (C := "SpaceCycles$Net") (T := F_Ne) (N := 13) hx hb hts (in_F i_Ne) hown hK hP 0 rfl rfl 5 (by decide) (hts _ (in_c k_165)) (fun _ h9 => h9) rfl d_Ne_findLooseEnds_77 ?_
            refine lv_iload_n hx hb d_Ne_findLooseEnds_80 rfl (lv_at hl 2 rfl) ?_
            obtain ⟨hi33, hm⟩ := gI_e hm
            obtain ⟨f34, ef34⟩ : ∃ y : Nat → Int32, y = upd f3 x2.toNatClampNeg x11 := ⟨_, rfl⟩
            replace hm := lt_el hm ef34
            refine va_iast hx hb hK hP hD hS 1 0 rfl rfl hi33 d_Ne_findLooseEnds_81 (fun H locs hP hD hS => ?_)
            rw [← ef34] at hP hD
            have hP : va_P (dC, dI) vwCl (wl_Ne_findLooseEnds a_0 a_0_looseSides a_0_sidesOut b_0_pointX b_0_pointY b_0_pieceLine b_0_begins b_0_directions b_0_leftSpaces b_0_weights b_0_pointAt cI v_0_points v_0_pieces x2 f34 f_0_sidesOut) H := hP
            have hD : va_D A (wl_Ne_findLooseEnds a_0 a_0_looseSides a_0_sidesOut b_0_pointX b_0_pointY b_0_pieceLine b_0_begins b_0_directions b_0_leftSpaces b_0_weights b_0_pointAt cI v_0_points v_0_pieces x2 f34 f_0_sidesOut) := hD
            refine lv_aload_n hx hb d_Ne_findLooseEnds_82 rfl (lv_at hl 0 rfl) ?_
            refine lv_dup hx hb d_Ne_findLooseEnds_83 rfl ?_
            refine va_get (D := (dC, dI)) (ci := 3) (v := .int x2) (C := "SpaceCycles$Net") (T := F_Ne) (N := 13) hx hb hts (in_F i_Ne) hown hK hP 0 rfl rfl 5 (by decide) (hts _ (in_c k_165)) (fun _ h9 => h9) rfl d_Ne_findLooseEnds_84 ?_
            refine lv_iconst (v := 1) hx hb d_Ne_findLooseEnds_87 (by decide) ?_
            refine lv_iadd hx hb d_Ne_findLooseEnds_88 ?_
            refine lv_topi (fun x35 ex35 => ?_)
            replace hm := lt_el hm ex35
            refine va_put (D := (dC, dI)) (ci := 3) (v := .int x35) (ty := .int) (C := "SpaceCycles$Net") (T := F_Ne) (N := 13) hx hb hts (in_F i_Ne) t_Ne t_Ne_ok n_Ne hown hK hP hD hS 0 rfl rfl 5 (by decide) (hts _ (in_c k_165)) (fun _ h9 => h9) rfl (by decide +kernel) rfl rfl (Nat.le_of_ble_eq_true rfl) d_Ne_findLooseEnds_89 (fun H locs hP hD hS => ?_)
            have hP : va_P (dC, dI) vwCl (wl_Ne_findLooseEnds a_0 a_0_looseSides a_0_sidesOut b_0_pointX b_0_pointY b_0_pieceLine b_0_begins b_0_directions b_0_leftSpaces b_0_weights b_0_pointAt cI v_0_points v_0_pieces x35 f34 f_0_sidesOut) H := hP
            have hD : va_D A (wl_Ne_findLooseEnds a_0 a_0_looseSides a_0_sidesOut b_0_pointX b_0_pointY b_0_pieceLine b_0_begins b_0_directions b_0_leftSpaces b_0_weights b_0_pointAt cI v_0_points v_0_pieces x35 f34 f_0_sidesOut) := hD
            cases hm
            exact K26 H locs ls hP hD hS (lv_sub hl [0, 1] rfl)
  obtain ⟨x4, f5, hb37, hm⟩ := bd2_e hm
  refine L7_6 fu _ _ _ _ _ hb37 (fun H locs ls hP hD hS hl => ?_) H locs ls hP hD hS (lv_sub hl [1, 0] rfl)
  cases hm
  exact hret _ H locs ls d_Ne_findLooseEnds_98 hP hD hS
set_option maxHeartbeats 4000000 in
set_option maxRecDepth 100000 in
theorem c_Ne_findLooseEnds (l : Launch) (dC : Nat → ClassId) (dI : Nat → Nat → Nat) {cI cZ cJ : ClassId} (a_0 a_0_looseSides a_0_sidesOut b_0_pointX b_0_pointY b_0_pieceLine b_0_begins b_0_directions b_0_leftSpaces b_0_weights b_0_pointAt : Nat) (sz : Nat) (v_0_points : Int32) (v_0_pieces : Int32) (v_0_looseEnds : Int32) (f_0_looseSides : Nat → Int32) (f_0_sidesOut : Nat → Int32)  (ov_0_looseEnds : Int32) (of_0_looseSides : Nat → Int32) (hm : m_Ne_findLooseEnds v_0_points v_0_looseEnds f_0_looseSides f_0_sidesOut = some (ov_0_looseEnds, of_0_looseSides)) : Met l y_Ne_findLooseEnds w_Ne_findLooseEnds rm_Ne_findLooseEnds (PP dC dI [(cI, .int), (cZ, .boolean), (cJ, .long)] [.ref a_0] sz (wl_Ne_findLooseEnds a_0 a_0_looseSides a_0_sidesOut b_0_pointX b_0_pointY b_0_pieceLine b_0_begins b_0_directions b_0_leftSpaces b_0_weights b_0_pointAt cI v_0_points v_0_pieces v_0_looseEnds f_0_looseSides f_0_sidesOut)) (QV dC dI [(cI, .int), (cZ, .boolean), (cJ, .long)] sz (wl_Ne_findLooseEnds a_0 a_0_looseSides a_0_sidesOut b_0_pointX b_0_pointY b_0_pieceLine b_0_begins b_0_directions b_0_leftSpaces b_0_weights b_0_pointAt cI v_0_points v_0_pieces v_0_looseEnds f_0_looseSides f_0_sidesOut) (wl_Ne_findLooseEnds a_0 a_0_looseSides a_0_sidesOut b_0_pointX b_0_pointY b_0_pieceLine b_0_begins b_0_directions b_0_leftSpaces b_0_weights b_0_pointAt cI v_0_points v_0_pieces ov_0_looseEnds of_0_looseSides f_0_sidesOut)) 0 0 (va_A (wl_Ne_findLooseEnds a_0 a_0_looseSides a_0_sidesOut b_0_pointX b_0_pointY b_0_pieceLine b_0_begins b_0_directions b_0_leftSpaces b_0_weights b_0_pointAt cI v_0_points v_0_pieces v_0_looseEnds f_0_looseSides f_0_sidesOut) sz) := by
  refine Met.ofW (cc := b_Ne_findLooseEnds) (maxL := 6) (ret := none) (by decide) rfl ?_
  intro p e s m args below meth c s₁ B hml hv
  obtain ⟨rfl, hsz, hP, hK, hD0, hN⟩ := hv
  subst hsz
  have hl := lv_entry ([.ref a_0]) (n := 6) (Nat.le_of_ble_eq_true rfl)
  rw [lg_entry_eq]
  generalize (lg_sl ([.ref a_0]) ++ List.replicate (6 - (lg_sl ([.ref a_0])).length) Slot.unset).toArray = ls at hl ⊢
  exact t_Ne_findLooseEnds a_0 a_0_looseSides a_0_sidesOut b_0_pointX b_0_pointY b_0_pieceLine b_0_begins b_0_directions b_0_leftSpaces b_0_weights b_0_pointAt v_0_points v_0_pieces v_0_looseEnds f_0_looseSides f_0_sidesOut ov_0_looseEnds of_0_looseSides B.exec B.bytes hml (findClass_of_methodNamed B.named) (atoms_spec (ws := w_Ne_findLooseEnds) B.pre) hK hN (fun q h => Or.inr h) (fun pc H locs ls hd hP9 hD9 hS => W.vret B.exec B.bytes B.returns (fun t ht hW => ⟨⟨(), rfl, trivial, by rw [ht]; exact hP9, va_K.moved hW.alike hK, hD9⟩, hS.F ht⟩) hS.2.2 hd) hm s.heap [] ls hP hD0.self va_S.rf hl

theorem k_171 : ((.fieldLink "SpaceCycles$Net" 37 "SpaceCycles$Net" "begins" "[I") : Cond) ∈ gl := gl_i 138 (by decide +kernel) (by decide +kernel)
theorem k_172 : ((.fieldLink "SpaceCycles$Net" 40 "SpaceCycles$Net" "directions" "[I") : Cond) ∈ gl := gl_i 139 (by decide +kernel) (by decide +kernel)
theorem k_173 : ((.fieldLink "SpaceCycles$Net" 43 "SpaceCycles$Net" "leftSpaces" "[I") : Cond) ∈ gl := gl_i 140 (by decide +kernel) (by decide +kernel)
-- SpaceCycles$Net.addSide(IIII)V
abbrev b_Ne_addSide : ByteArray := prog_8_method_22_code
abbrev y_Ne_addSide : MethodName := ⟨"SpaceCycles$Net", "addSide", "(IIII)V"⟩
abbrev w_Ne_addSide : List Cond := Cond.code y_Ne_addSide b_Ne_addSide 5 none :: gl
abbrev rm_Ne_addSide : Room := { frames := 0, cells := 0, slots := 0, locals := 0 }
theorem d_Ne_addSide_0 : decode b_Ne_addSide 0 = .ok (.aload_n 0, 1) := by decide +kernel
theorem d_Ne_addSide_1 : decode b_Ne_addSide 1 = .ok (.getfield 37, 3) := by decide +kernel
theorem d_Ne_addSide_4 : decode b_Ne_addSide 4 = .ok (.iload_n 1, 1) := by decide +kernel
theorem d_Ne_addSide_5 : decode b_Ne_addSide 5 = .ok (.iload_n 2, 1) := by decide +kernel
theorem d_Ne_addSide_6 : decode b_Ne_addSide 6 = .ok (.iastore, 1) := by decide +kernel
theorem d_Ne_addSide_7 : decode b_Ne_addSide 7 = .ok (.aload_n 0, 1) := by decide +kernel
theorem d_Ne_addSide_8 : decode b_Ne_addSide 8 = .ok (.getfield 40, 3) := by decide +kernel
theorem d_Ne_addSide_11 : decode b_Ne_addSide 11 = .ok (.iload_n 1, 1) := by decide +kernel
theorem d_Ne_addSide_12 : decode b_Ne_addSide 12 = .ok (.iload_n 3, 1) := by decide +kernel
theorem d_Ne_addSide_13 : decode b_Ne_addSide 13 = .ok (.iastore, 1) := by decide +kernel
theorem d_Ne_addSide_14 : decode b_Ne_addSide 14 = .ok (.aload_n 0, 1) := by decide +kernel
theorem d_Ne_addSide_15 : decode b_Ne_addSide 15 = .ok (.getfield 43, 3) := by decide +kernel
theorem d_Ne_addSide_18 : decode b_Ne_addSide 18 = .ok (.iload_n 1, 1) := by decide +kernel
theorem d_Ne_addSide_19 : decode b_Ne_addSide 19 = .ok (.iload 4, 2) := by decide +kernel
theorem d_Ne_addSide_21 : decode b_Ne_addSide 21 = .ok (.iastore, 1) := by decide +kernel
theorem d_Ne_addSide_22 : decode b_Ne_addSide 22 = .ok (.aload_n 0, 1) := by decide +kernel
theorem d_Ne_addSide_23 : decode b_Ne_addSide 23 = .ok (.getfield 31, 3) := by decide +kernel
theorem d_Ne_addSide_26 : decode b_Ne_addSide 26 = .ok (.iload_n 2, 1) := by decide +kernel
theorem d_Ne_addSide_27 : decode b_Ne_addSide 27 = .ok (.iconst 4, 1) := by decide +kernel
theorem d_Ne_addSide_28 : decode b_Ne_addSide 28 = .ok (.imul, 1) := by decide +kernel
theorem d_Ne_addSide_29 : decode b_Ne_addSide 29 = .ok (.iload_n 3, 1) := by decide +kernel
theorem d_Ne_addSide_30 : decode b_Ne_addSide 30 = .ok (.iadd, 1) := by decide +kernel
theorem d_Ne_addSide_31 : decode b_Ne_addSide 31 = .ok (.iload_n 1, 1) := by decide +kernel
theorem d_Ne_addSide_32 : decode b_Ne_addSide 32 = .ok (.iastore, 1) := by decide +kernel
theorem d_Ne_addSide_33 : decode b_Ne_addSide 33 = .ok (.return_, 1) := by decide +kernel
abbrev wl_Ne_addSide (a_0 : Nat) (a_0_sidesOut : Nat) (a_0_begins : Nat) (a_0_directions : Nat) (a_0_leftSpaces : Nat) (b_0_pointX : Nat) (b_0_pointY : Nat) (b_0_looseSides : Nat) (b_0_pieceLine : Nat) (b_0_weights : Nat) (b_0_pointAt : Nat) (cI : ClassId) (v_0_points : Int32) (v_0_pieces : Int32) (v_0_looseEnds : Int32) (f_0_sidesOut : Nat → Int32) (f_0_begins : Nat → Int32) (f_0_directions : Nat → Int32) (f_0_leftSpaces : Nat → Int32) : va_W := [(a_0, .inr (3, [.ref b_0_pointX, .ref b_0_pointY, .ref b_0_looseSides, .int v_0_points, .int v_0_pieces, .int v_0_looseEnds, .ref a_0_sidesOut, .ref b_0_pieceLine, .ref a_0_begins, .ref a_0_directions, .ref a_0_leftSpaces, .ref b_0_weights, .ref b_0_pointAt])), (a_0_sidesOut, .inl (cI, 560, .inl f_0_sidesOut)), (a_0_begins, .inl (cI, 440, .inl f_0_begins)), (a_0_directions, .inl (cI, 440, .inl f_0_directions)), (a_0_leftSpaces, .inl (cI, 440, .inl f_0_leftSpaces))]
def m_Ne_addSide (p1 : Int32) (p2 : Int32) (p3 : Int32) (p4 : Int32) (f_0_sidesOut : Nat → Int32) (f_0_begins : Nat → Int32) (f_0_directions : Nat → Int32) (f_0_leftSpaces : Nat → Int32) : Option ((Nat → Int32) × (Nat → Int32) × (Nat → Int32) × (Nat → Int32)) :=
  gI p1 440 <|
  lt_ (upd f_0_begins p1.toNatClampNeg p2) fun f2 =>
  gI p1 440 <|
  lt_ (upd f_0_directions p1.toNatClampNeg p3) fun f4 =>
  gI p1 440 <|
  lt_ (upd f_0_leftSpaces p1.toNatClampNeg p4) fun f6 =>
  gI ((p2 * 4) + p3) 560 <|
  lt_ (upd f_0_sidesOut ((p2 * 4) + p3).toNatClampNeg p1) fun f8 =>
  some (f8, f2, f4, f6)

set_option maxHeartbeats 4000000 in
set_option maxRecDepth 100000 in
theorem t_Ne_addSide {p : Program} {l : Launch} {e : Env} {s : State} {m : MethodId} {args : Array Value} {below : List Frame} {meth : Method} {c : Code} {A : Nat → Prop} {Q : State → Prop} {dC : Nat → ClassId} {dI : Nat → Nat → Nat} {cI cZ cJ : ClassId} (a_0 a_0_sidesOut a_0_begins a_0_directions a_0_leftSpaces b_0_pointX b_0_pointY b_0_looseSides b_0_pieceLine b_0_weights b_0_pointAt : Nat) (v_0_points : Int32) (v_0_pieces : Int32) (v_0_looseEnds : Int32) (f_0_sidesOut : Nat → Int32) (f_0_begins : Nat → Int32) (f_0_directions : Nat → Int32) (f_0_leftSpaces : Nat → Int32) (p1 : Int32) (p2 : Int32) (p3 : Int32) (p4 : Int32) (of_0_sidesOut : Nat → Int32) (of_0_begins : Nat → Int32) (of_0_directions : Nat → Int32) (of_0_leftSpaces : Nat → Int32) (hx : p.tables.exec = Jvm.exec) (hb : c.code = b_Ne_addSide) (hml : c.maxLocals = 5) (hown : s.vm.findClass "SpaceCycles$Net" = some m.cls) (hts : ∀ w ∈ w_Ne_addSide, w.before args s = true) (hK : va_K (dC, dI) vwCl [(cI, .int), (cZ, .boolean), (cJ, .long)] s) (hN : NX s) (hA : ∀ q : Nat, s.heap.size ≤ q → A q)
    (hret : ∀ (pc : Nat) (H : Heap) (locs : List Loc) (ls : Array Slot), decode b_Ne_addSide pc = .ok (.return_, 1) → va_P (dC, dI) vwCl (wl_Ne_addSide a_0 a_0_sidesOut a_0_begins a_0_directions a_0_leftSpaces b_0_pointX b_0_pointY b_0_looseSides b_0_pieceLine b_0_weights b_0_pointAt cI v_0_points v_0_pieces v_0_looseEnds of_0_sidesOut of_0_begins of_0_directions of_0_leftSpaces) H → va_D A (wl_Ne_addSide a_0 a_0_sidesOut a_0_begins a_0_directions a_0_leftSpaces b_0_pointX b_0_pointY b_0_looseSides b_0_pieceLine b_0_weights b_0_pointAt cI v_0_points v_0_pieces v_0_looseEnds of_0_sidesOut of_0_begins of_0_directions of_0_leftSpaces) → va_S A s.heap H locs → W p l e rm_Ne_addSide s m args below meth c H locs 0 0 Q (F0 m pc ls []))
    (hm : m_Ne_addSide p1 p2 p3 p4 f_0_sidesOut f_0_begins f_0_directions f_0_leftSpaces = some (of_0_sidesOut, of_0_begins, of_0_directions, of_0_leftSpaces)) : ∀ (H : Heap) (locs : List Loc) (ls : Array Slot), va_P (dC, dI) vwCl (wl_Ne_addSide a_0 a_0_sidesOut a_0_begins a_0_directions a_0_leftSpaces b_0_pointX b_0_pointY b_0_looseSides b_0_pieceLine b_0_weights b_0_pointAt cI v_0_points v_0_pieces v_0_looseEnds f_0_sidesOut f_0_begins f_0_directions f_0_leftSpaces) H → va_D A (wl_Ne_addSide a_0 a_0_sidesOut a_0_begins a_0_directions a_0_leftSpaces b_0_pointX b_0_pointY b_0_looseSides b_0_pieceLine b_0_weights b_0_pointAt cI v_0_points v_0_pieces v_0_looseEnds f_0_sidesOut f_0_begins f_0_directions f_0_leftSpaces) → va_S A s.heap H locs → lv_has ls 5 [(0, .ref a_0), (1, .int p1), (2, .int p2), (3, .int p3), (4, .int p4)] → W p l e rm_Ne_addSide s m args below meth c H locs 0 0 Q (F0 m 0 ls []) := by
  intro H locs ls hP hD hS hl
  unfold m_Ne_addSide at hm
  refine lv_aload_n hx hb d_Ne_addSide_0 rfl (lv_at hl 0 rfl) ?_
  refine va_get (D := (dC, dI)) (ci := 3) (v := .ref a_0_begins) (C := "SpaceCycles$Net") (T := F_Ne) (N := 13) hx hb hts (in_F i_Ne) hown hK hP 0 rfl rfl 8 (by decide) (hts _ (in_c k_171)) (fun _ h9 => h9) rfl d_Ne_addSide_1 ?_
  refine lv_iload_n hx hb d_Ne_addSide_4 rfl (lv_at hl 1 rfl) ?_
  refine lv_iload_n hx hb d_Ne_addSide_5 rfl (lv_at hl 2 rfl) ?_
  obtain ⟨hi1, hm⟩ := gI_e hm
  obtain ⟨f2, ef2⟩ : ∃ y : Nat → Int32, y = upd f_0_begins p1.toNatClampNeg p2 := ⟨_, rfl⟩
  replace hm := lt_el hm ef2
  refine va_iast hx hb hK hP hD hS 2 0 rfl rfl hi1 d_Ne_addSide_6 (fun H locs hP hD hS => ?_)
  rw [← ef2] at hP hD
  have hP : va_P (dC, dI) vwCl (wl_Ne_addSide a_0 a_0_sidesOut a_0_begins a_0_directions a_0_leftSpaces b_0_pointX b_0_pointY b_0_looseSides b_0_pieceLine b_0_weights b_0_pointAt cI v_0_points v_0_pieces v_0_looseEnds f_0_sidesOut f2 f_0_directions f_0_leftSpaces) H := hP
  have hD : va_D A (wl_Ne_addSide a_0 a_0_sidesOut a_0_begins a_0_directions a_0_leftSpaces b_0_pointX b_0_pointY b_0_looseSides b_0_pieceLine b_0_weights b_0_pointAt cI v_0_points v_0_pieces v_0_looseEnds f_0_sidesOut f2 f_0_directions f_0_leftSpaces) := hD
  refine lv_aload_n hx hb d_Ne_addSide_7 rfl (lv_at hl 0 rfl) ?_
  refine va_get (D := (dC, dI)) (ci := 3) (v := .ref a_0_directions) (C := "SpaceCycles$Net") (T := F_Ne) (N := 13) hx hb hts (in_F i_Ne) hown hK hP 0 rfl rfl 9 (by decide) (hts _ (in_c k_172)) (fun _ h9 => h9) rfl d_Ne_addSide_8 ?_
  refine lv_iload_n hx hb d_Ne_addSide_11 rfl (lv_at hl 1 rfl) ?_
  refine lv_iload_n hx hb d_Ne_addSide_12 rfl (lv_at hl 3 rfl) ?_
  obtain ⟨hi3, hm⟩ := gI_e hm
  obtain ⟨f4, ef4⟩ : ∃ y : Nat → Int32, y = upd f_0_directions p1.toNatClampNeg p3 := ⟨_, rfl⟩
  replace hm := lt_el hm ef4
  refine va_iast hx hb hK hP hD hS 3 0 rfl rfl hi3 d_Ne_addSide_13 (fun H locs hP hD hS => ?_)
  rw [← ef4] at hP hD
  have hP : va_P (dC, dI) vwCl (wl_Ne_addSide a_0 a_0_sidesOut a_0_begins a_0_directions a_0_leftSpaces b_0_pointX b_0_pointY b_0_looseSides b_0_pieceLine b_0_weights b_0_pointAt cI v_0_points v_0_pieces v_0_looseEnds f_0_sidesOut f2 f4 f_0_leftSpaces) H := hP
  have hD : va_D A (wl_Ne_addSide a_0 a_0_sidesOut a_0_begins a_0_directions a_0_leftSpaces b_0_pointX b_0_pointY b_0_looseSides b_0_pieceLine b_0_weights b_0_pointAt cI v_0_points v_0_pieces v_0_looseEnds f_0_sidesOut f2 f4 f_0_leftSpaces) := hD
  refine lv_aload_n hx hb d_Ne_addSide_14 rfl (lv_at hl 0 rfl) ?_
  refine va_get (D := (dC, dI)) (ci := 3) (v := .ref a_0_leftSpaces) (C := "SpaceCycles$Net") (T := F_Ne) (N := 13) hx hb hts (in_F i_Ne) hown hK hP 0 rfl rfl 10 (by decide) (hts _ (in_c k_173)) (fun _ h9 => h9) rfl d_Ne_addSide_15 ?_
  refine lv_iload_n hx hb d_Ne_addSide_18 rfl (lv_at hl 1 rfl) ?_
  refine lv_iload hx hb d_Ne_addSide_19 (lv_at hl 4 rfl) ?_
  obtain ⟨hi5, hm⟩ := gI_e hm
  obtain ⟨f6, ef6⟩ : ∃ y : Nat → Int32, y = upd f_0_leftSpaces p1.toNatClampNeg p4 := ⟨_, rfl⟩
  replace hm := lt_el hm ef6
  refine va_iast hx hb hK hP hD hS 4 0 rfl rfl hi5 d_Ne_addSide_21 (fun H locs hP hD hS => ?_)
  rw [← ef6] at hP hD
  have hP : va_P (dC, dI) vwCl (wl_Ne_addSide a_0 a_0_sidesOut a_0_begins a_0_directions a_0_leftSpaces b_0_pointX b_0_pointY b_0_looseSides b_0_pieceLine b_0_weights b_0_pointAt cI v_0_points v_0_pieces v_0_looseEnds f_0_sidesOut f2 f4 f6) H := hP
  have hD : va_D A (wl_Ne_addSide a_0 a_0_sidesOut a_0_begins a_0_directions a_0_leftSpaces b_0_pointX b_0_pointY b_0_looseSides b_0_pieceLine b_0_weights b_0_pointAt cI v_0_points v_0_pieces v_0_looseEnds f_0_sidesOut f2 f4 f6) := hD
  refine lv_aload_n hx hb d_Ne_addSide_22 rfl (lv_at hl 0 rfl) ?_
  refine va_get (D := (dC, dI)) (ci := 3) (v := .ref a_0_sidesOut) (C := "SpaceCycles$Net") (T := F_Ne) (N := 13) hx hb hts (in_F i_Ne) hown hK hP 0 rfl rfl 6 (by decide) (hts _ (in_c k_164)) (fun _ h9 => h9) rfl d_Ne_addSide_23 ?_
  refine lv_iload_n hx hb d_Ne_addSide_26 rfl (lv_at hl 2 rfl) ?_
  refine lv_iconst (v := 4) hx hb d_Ne_addSide_27 (by decide) ?_
  refine lv_imul hx hb d_Ne_addSide_28 ?_
  refine lv_iload_n hx hb d_Ne_addSide_29 rfl (lv_at hl 3 rfl) ?_
  refine lv_iadd hx hb d_Ne_addSide_30 ?_
  refine lv_iload_n hx hb d_Ne_addSide_31 rfl (lv_at hl 1 rfl) ?_
  obtain ⟨hi7, hm⟩ := gI_e hm
  obtain ⟨f8, ef8⟩ : ∃ y : Nat → Int32, y = upd f_0_sidesOut ((p2 * 4) + p3).toNatClampNeg p1 := ⟨_, rfl⟩
  replace hm := lt_el hm ef8
  refine va_iast hx hb hK hP hD hS 1 0 rfl rfl hi7 d_Ne_addSide_32 (fun H locs hP hD hS => ?_)
  rw [← ef8] at hP hD
  have hP : va_P (dC, dI) vwCl (wl_Ne_addSide a_0 a_0_sidesOut a_0_begins a_0_directions a_0_leftSpaces b_0_pointX b_0_pointY b_0_looseSides b_0_pieceLine b_0_weights b_0_pointAt cI v_0_points v_0_pieces v_0_looseEnds f8 f2 f4 f6) H := hP
  have hD : va_D A (wl_Ne_addSide a_0 a_0_sidesOut a_0_begins a_0_directions a_0_leftSpaces b_0_pointX b_0_pointY b_0_looseSides b_0_pieceLine b_0_weights b_0_pointAt cI v_0_points v_0_pieces v_0_looseEnds f8 f2 f4 f6) := hD
  cases hm
  exact hret _ H locs ls d_Ne_addSide_33 hP hD hS
set_option maxHeartbeats 4000000 in
set_option maxRecDepth 100000 in
theorem c_Ne_addSide (l : Launch) (dC : Nat → ClassId) (dI : Nat → Nat → Nat) {cI cZ cJ : ClassId} (a_0 a_0_sidesOut a_0_begins a_0_directions a_0_leftSpaces b_0_pointX b_0_pointY b_0_looseSides b_0_pieceLine b_0_weights b_0_pointAt : Nat) (sz : Nat) (v_0_points : Int32) (v_0_pieces : Int32) (v_0_looseEnds : Int32) (f_0_sidesOut : Nat → Int32) (f_0_begins : Nat → Int32) (f_0_directions : Nat → Int32) (f_0_leftSpaces : Nat → Int32) (p1 : Int32) (p2 : Int32) (p3 : Int32) (p4 : Int32) (of_0_sidesOut : Nat → Int32) (of_0_begins : Nat → Int32) (of_0_directions : Nat → Int32) (of_0_leftSpaces : Nat → Int32) (hm : m_Ne_addSide p1 p2 p3 p4 f_0_sidesOut f_0_begins f_0_directions f_0_leftSpaces = some (of_0_sidesOut, of_0_begins, of_0_directions, of_0_leftSpaces)) : Met l y_Ne_addSide w_Ne_addSide rm_Ne_addSide (PP dC dI [(cI, .int), (cZ, .boolean), (cJ, .long)] [.ref a_0, .int p1, .int p2, .int p3, .int p4] sz (wl_Ne_addSide a_0 a_0_sidesOut a_0_begins a_0_directions a_0_leftSpaces b_0_pointX b_0_pointY b_0_looseSides b_0_pieceLine b_0_weights b_0_pointAt cI v_0_points v_0_pieces v_0_looseEnds f_0_sidesOut f_0_begins f_0_directions f_0_leftSpaces)) (QV dC dI [(cI, .int), (cZ, .boolean), (cJ, .long)] sz (wl_Ne_addSide a_0 a_0_sidesOut a_0_begins a_0_directions a_0_leftSpaces b_0_pointX b_0_pointY b_0_looseSides b_0_pieceLine b_0_weights b_0_pointAt cI v_0_points v_0_pieces v_0_looseEnds f_0_sidesOut f_0_begins f_0_directions f_0_leftSpaces) (wl_Ne_addSide a_0 a_0_sidesOut a_0_begins a_0_directions a_0_leftSpaces b_0_pointX b_0_pointY b_0_looseSides b_0_pieceLine b_0_weights b_0_pointAt cI v_0_points v_0_pieces v_0_looseEnds of_0_sidesOut of_0_begins of_0_directions of_0_leftSpaces)) 0 0 (va_A (wl_Ne_addSide a_0 a_0_sidesOut a_0_begins a_0_directions a_0_leftSpaces b_0_pointX b_0_pointY b_0_looseSides b_0_pieceLine b_0_weights b_0_pointAt cI v_0_points v_0_pieces v_0_looseEnds f_0_sidesOut f_0_begins f_0_directions f_0_leftSpaces) sz) := by
  refine Met.ofW (cc := b_Ne_addSide) (maxL := 5) (ret := none) (by decide) rfl ?_
  intro p e s m args below meth c s₁ B hml hv
  obtain ⟨rfl, hsz, hP, hK, hD0, hN⟩ := hv
  subst hsz
  have hl := lv_entry ([.ref a_0, .int p1, .int p2, .int p3, .int p4]) (n := 5) (Nat.le_of_ble_eq_true rfl)
  rw [lg_entry_eq]
  generalize (lg_sl ([.ref a_0, .int p1, .int p2, .int p3, .int p4]) ++ List.replicate (5 - (lg_sl ([.ref a_0, .int p1, .int p2, .int p3, .int p4])).length) Slot.unset).toArray = ls at hl ⊢
  exact t_Ne_addSide a_0 a_0_sidesOut a_0_begins a_0_directions a_0_leftSpaces b_0_pointX b_0_pointY b_0_looseSides b_0_pieceLine b_0_weights b_0_pointAt v_0_points v_0_pieces v_0_looseEnds f_0_sidesOut f_0_begins f_0_directions f_0_leftSpaces p1 p2 p3 p4 of_0_sidesOut of_0_begins of_0_directions of_0_leftSpaces B.exec B.bytes hml (findClass_of_methodNamed B.named) (atoms_spec (ws := w_Ne_addSide) B.pre) hK hN (fun q h => Or.inr h) (fun pc H locs ls hd hP9 hD9 hS => W.vret B.exec B.bytes B.returns (fun t ht hW => ⟨⟨(), rfl, trivial, by rw [ht]; exact hP9, va_K.moved hW.alike hK, hD9⟩, hS.F ht⟩) hS.2.2 hd) hm s.heap [] ls hP hD0.self va_S.rf hl

theorem k_174 : ((.fieldLink "SpaceCycles$Net" 25 "SpaceCycles$Net" "pieces" "I") : Cond) ∈ gl := gl_i 130 (by decide +kernel) (by decide +kernel)
theorem k_175 : ((.fieldLink "SpaceCycles$Net" 143 "SpaceCycles$Grid" "cells" "[I") : Cond) ∈ gl := gl_i 307 (by decide +kernel) (by decide +kernel)
theorem k_176 : ((.methodLink "SpaceCycles$Net" 146 ⟨"SpaceCycles$Grid", "cell", "(II)I"⟩) : Cond) ∈ gl := gl_i 823 (by decide +kernel) (by decide +kernel)
theorem k_177 : ((.fieldLink "SpaceCycles$Net" 34 "SpaceCycles$Net" "pieceLine" "[I") : Cond) ∈ gl := gl_i 137 (by decide +kernel) (by decide +kernel)
theorem k_178 : ((.code ⟨"SpaceCycles$Net", "addSide", "(IIII)V"⟩ prog_8_method_22_code 5 none) : Cond) ∈ gl := gl_i 827 (by decide +kernel) (by decide +kernel)
theorem k_179 : ((.selects "SpaceCycles$Net" ⟨"SpaceCycles$Net", "addSide", "(IIII)V"⟩ ⟨"SpaceCycles$Net", "addSide", "(IIII)V"⟩) : Cond) ∈ gl := gl_s (by decide +kernel) (by decide +kernel)
theorem k_180 : ((.instanceMethod ⟨"SpaceCycles$Net", "addSide", "(IIII)V"⟩) : Cond) ∈ gl := gl_i 826 (by decide +kernel) (by decide +kernel)
theorem k_181 : ((.methodLink "SpaceCycles$Net" 149 ⟨"SpaceCycles$Net", "addSide", "(IIII)V"⟩) : Cond) ∈ gl := gl_i 824 (by decide +kernel) (by decide +kernel)
-- SpaceCycles$Net.cutIntoPieces(LSpaceCycles$Lines;ILSpaceCycles$Grid;)V
abbrev b_Ne_cutIntoPieces : ByteArray := prog_8_method_21_code
abbrev y_Ne_cutIntoPieces : MethodName := ⟨"SpaceCycles$Net", "cutIntoPieces", "(LSpaceCycles$Lines;ILSpaceCycles$Grid;)V"⟩
abbrev w_Ne_cutIntoPieces : List Cond := Cond.code y_Ne_cutIntoPieces b_Ne_cutIntoPieces 15 none :: gl
abbrev rm_Ne_cutIntoPieces : Room := { frames := 2, cells := 0, slots := 0, locals := 85 }
theorem d_Ne_cutIntoPieces_0 : decode b_Ne_cutIntoPieces 0 = .ok (.aload_n 1, 1) := by decide +kernel
theorem d_Ne_cutIntoPieces_1 : decode b_Ne_cutIntoPieces 1 = .ok (.iload_n 2, 1) := by decide +kernel
theorem d_Ne_cutIntoPieces_2 : decode b_Ne_cutIntoPieces 2 = .ok (.invokevirtual 136, 3) := by decide +kernel
theorem d_Ne_cutIntoPieces_5 : decode b_Ne_cutIntoPieces 5 = .ok (.istore 4, 2) := by decide +kernel
theorem d_Ne_cutIntoPieces_7 : decode b_Ne_cutIntoPieces 7 = .ok (.aload_n 3, 1) := by decide +kernel
theorem d_Ne_cutIntoPieces_8 : decode b_Ne_cutIntoPieces 8 = .ok (.getfield 100, 3) := by decide +kernel
theorem d_Ne_cutIntoPieces_11 : decode b_Ne_cutIntoPieces 11 = .ok (.aload_n 1, 1) := by decide +kernel
theorem d_Ne_cutIntoPieces_12 : decode b_Ne_cutIntoPieces 12 = .ok (.getfield 121, 3) := by decide +kernel
theorem d_Ne_cutIntoPieces_15 : decode b_Ne_cutIntoPieces 15 = .ok (.iload_n 2, 1) := by decide +kernel
theorem d_Ne_cutIntoPieces_16 : decode b_Ne_cutIntoPieces 16 = .ok (.iaload, 1) := by decide +kernel
theorem d_Ne_cutIntoPieces_17 : decode b_Ne_cutIntoPieces 17 = .ok (.invokevirtual 124, 3) := by decide +kernel
theorem d_Ne_cutIntoPieces_20 : decode b_Ne_cutIntoPieces 20 = .ok (.istore 5, 2) := by decide +kernel
theorem d_Ne_cutIntoPieces_22 : decode b_Ne_cutIntoPieces 22 = .ok (.aload_n 3, 1) := by decide +kernel
theorem d_Ne_cutIntoPieces_23 : decode b_Ne_cutIntoPieces 23 = .ok (.getfield 112, 3) := by decide +kernel
theorem d_Ne_cutIntoPieces_26 : decode b_Ne_cutIntoPieces 26 = .ok (.aload_n 1, 1) := by decide +kernel
theorem d_Ne_cutIntoPieces_27 : decode b_Ne_cutIntoPieces 27 = .ok (.getfield 127, 3) := by decide +kernel
theorem d_Ne_cutIntoPieces_30 : decode b_Ne_cutIntoPieces 30 = .ok (.iload_n 2, 1) := by decide +kernel
theorem d_Ne_cutIntoPieces_31 : decode b_Ne_cutIntoPieces 31 = .ok (.iaload, 1) := by decide +kernel
theorem d_Ne_cutIntoPieces_32 : decode b_Ne_cutIntoPieces 32 = .ok (.invokevirtual 124, 3) := by decide +kernel
theorem d_Ne_cutIntoPieces_35 : decode b_Ne_cutIntoPieces 35 = .ok (.istore 6, 2) := by decide +kernel
theorem d_Ne_cutIntoPieces_37 : decode b_Ne_cutIntoPieces 37 = .ok (.iload 4, 2) := by decide +kernel
theorem d_Ne_cutIntoPieces_39 : decode b_Ne_cutIntoPieces 39 = .ok (.ifCond .eq 22, 3) := by decide +kernel
theorem d_Ne_cutIntoPieces_42 : decode b_Ne_cutIntoPieces 42 = .ok (.aload_n 3, 1) := by decide +kernel
theorem d_Ne_cutIntoPieces_43 : decode b_Ne_cutIntoPieces 43 = .ok (.getfield 100, 3) := by decide +kernel
theorem d_Ne_cutIntoPieces_46 : decode b_Ne_cutIntoPieces 46 = .ok (.aload_n 1, 1) := by decide +kernel
theorem d_Ne_cutIntoPieces_47 : decode b_Ne_cutIntoPieces 47 = .ok (.getfield 130, 3) := by decide +kernel
theorem d_Ne_cutIntoPieces_50 : decode b_Ne_cutIntoPieces 50 = .ok (.iload_n 2, 1) := by decide +kernel
theorem d_Ne_cutIntoPieces_51 : decode b_Ne_cutIntoPieces 51 = .ok (.iaload, 1) := by decide +kernel
theorem d_Ne_cutIntoPieces_52 : decode b_Ne_cutIntoPieces 52 = .ok (.invokevirtual 124, 3) := by decide +kernel
theorem d_Ne_cutIntoPieces_55 : decode b_Ne_cutIntoPieces 55 = .ok (.iload 5, 2) := by decide +kernel
theorem d_Ne_cutIntoPieces_57 : decode b_Ne_cutIntoPieces 57 = .ok (.isub, 1) := by decide +kernel
theorem d_Ne_cutIntoPieces_58 : decode b_Ne_cutIntoPieces 58 = .ok (.goto 19, 3) := by decide +kernel
theorem d_Ne_cutIntoPieces_61 : decode b_Ne_cutIntoPieces 61 = .ok (.aload_n 3, 1) := by decide +kernel
theorem d_Ne_cutIntoPieces_62 : decode b_Ne_cutIntoPieces 62 = .ok (.getfield 112, 3) := by decide +kernel
theorem d_Ne_cutIntoPieces_65 : decode b_Ne_cutIntoPieces 65 = .ok (.aload_n 1, 1) := by decide +kernel
theorem d_Ne_cutIntoPieces_66 : decode b_Ne_cutIntoPieces 66 = .ok (.getfield 133, 3) := by decide +kernel
theorem d_Ne_cutIntoPieces_69 : decode b_Ne_cutIntoPieces 69 = .ok (.iload_n 2, 1) := by decide +kernel
theorem d_Ne_cutIntoPieces_70 : decode b_Ne_cutIntoPieces 70 = .ok (.iaload, 1) := by decide +kernel
theorem d_Ne_cutIntoPieces_71 : decode b_Ne_cutIntoPieces 71 = .ok (.invokevirtual 124, 3) := by decide +kernel
theorem d_Ne_cutIntoPieces_74 : decode b_Ne_cutIntoPieces 74 = .ok (.iload 6, 2) := by decide +kernel
theorem d_Ne_cutIntoPieces_76 : decode b_Ne_cutIntoPieces 76 = .ok (.isub, 1) := by decide +kernel
theorem d_Ne_cutIntoPieces_77 : decode b_Ne_cutIntoPieces 77 = .ok (.istore 7, 2) := by decide +kernel
theorem d_Ne_cutIntoPieces_79 : decode b_Ne_cutIntoPieces 79 = .ok (.iconst (-1), 1) := by decide +kernel
theorem d_Ne_cutIntoPieces_80 : decode b_Ne_cutIntoPieces 80 = .ok (.istore 8, 2) := by decide +kernel
theorem d_Ne_cutIntoPieces_82 : decode b_Ne_cutIntoPieces 82 = .ok (.iconst 0, 1) := by decide +kernel
theorem d_Ne_cutIntoPieces_83 : decode b_Ne_cutIntoPieces 83 = .ok (.istore 9, 2) := by decide +kernel
theorem d_Ne_cutIntoPieces_85 : decode b_Ne_cutIntoPieces 85 = .ok (.iload 9, 2) := by decide +kernel
theorem d_Ne_cutIntoPieces_87 : decode b_Ne_cutIntoPieces 87 = .ok (.iload 7, 2) := by decide +kernel
theorem d_Ne_cutIntoPieces_89 : decode b_Ne_cutIntoPieces 89 = .ok (.if_icmp .gt 236, 3) := by decide +kernel
theorem d_Ne_cutIntoPieces_92 : decode b_Ne_cutIntoPieces 92 = .ok (.iload 4, 2) := by decide +kernel
theorem d_Ne_cutIntoPieces_94 : decode b_Ne_cutIntoPieces 94 = .ok (.ifCond .eq 11, 3) := by decide +kernel
theorem d_Ne_cutIntoPieces_97 : decode b_Ne_cutIntoPieces 97 = .ok (.iload 5, 2) := by decide +kernel
theorem d_Ne_cutIntoPieces_99 : decode b_Ne_cutIntoPieces 99 = .ok (.iload 9, 2) := by decide +kernel
theorem d_Ne_cutIntoPieces_101 : decode b_Ne_cutIntoPieces 101 = .ok (.iadd, 1) := by decide +kernel
theorem d_Ne_cutIntoPieces_102 : decode b_Ne_cutIntoPieces 102 = .ok (.goto 5, 3) := by decide +kernel
theorem d_Ne_cutIntoPieces_105 : decode b_Ne_cutIntoPieces 105 = .ok (.iload 5, 2) := by decide +kernel
theorem d_Ne_cutIntoPieces_107 : decode b_Ne_cutIntoPieces 107 = .ok (.istore 10, 2) := by decide +kernel
theorem d_Ne_cutIntoPieces_109 : decode b_Ne_cutIntoPieces 109 = .ok (.iload 4, 2) := by decide +kernel
theorem d_Ne_cutIntoPieces_111 : decode b_Ne_cutIntoPieces 111 = .ok (.ifCond .eq 8, 3) := by decide +kernel
theorem d_Ne_cutIntoPieces_114 : decode b_Ne_cutIntoPieces 114 = .ok (.iload 6, 2) := by decide +kernel
theorem d_Ne_cutIntoPieces_116 : decode b_Ne_cutIntoPieces 116 = .ok (.goto 8, 3) := by decide +kernel
theorem d_Ne_cutIntoPieces_119 : decode b_Ne_cutIntoPieces 119 = .ok (.iload 6, 2) := by decide +kernel
theorem d_Ne_cutIntoPieces_121 : decode b_Ne_cutIntoPieces 121 = .ok (.iload 9, 2) := by decide +kernel
theorem d_Ne_cutIntoPieces_123 : decode b_Ne_cutIntoPieces 123 = .ok (.iadd, 1) := by decide +kernel
theorem d_Ne_cutIntoPieces_124 : decode b_Ne_cutIntoPieces 124 = .ok (.istore 11, 2) := by decide +kernel
theorem d_Ne_cutIntoPieces_126 : decode b_Ne_cutIntoPieces 126 = .ok (.aload_n 0, 1) := by decide +kernel
theorem d_Ne_cutIntoPieces_127 : decode b_Ne_cutIntoPieces 127 = .ok (.getfield 49, 3) := by decide +kernel
theorem d_Ne_cutIntoPieces_130 : decode b_Ne_cutIntoPieces 130 = .ok (.iload 10, 2) := by decide +kernel
theorem d_Ne_cutIntoPieces_132 : decode b_Ne_cutIntoPieces 132 = .ok (.iload 11, 2) := by decide +kernel
theorem d_Ne_cutIntoPieces_134 : decode b_Ne_cutIntoPieces 134 = .ok (.invokestatic 109, 3) := by decide +kernel
theorem d_Ne_cutIntoPieces_137 : decode b_Ne_cutIntoPieces 137 = .ok (.iaload, 1) := by decide +kernel
theorem d_Ne_cutIntoPieces_138 : decode b_Ne_cutIntoPieces 138 = .ok (.istore 12, 2) := by decide +kernel
theorem d_Ne_cutIntoPieces_140 : decode b_Ne_cutIntoPieces 140 = .ok (.iload 12, 2) := by decide +kernel
theorem d_Ne_cutIntoPieces_142 : decode b_Ne_cutIntoPieces 142 = .ok (.iconst (-1), 1) := by decide +kernel
theorem d_Ne_cutIntoPieces_143 : decode b_Ne_cutIntoPieces 143 = .ok (.if_icmp .eq 161, 3) := by decide +kernel
theorem d_Ne_cutIntoPieces_146 : decode b_Ne_cutIntoPieces 146 = .ok (.iload 8, 2) := by decide +kernel
theorem d_Ne_cutIntoPieces_148 : decode b_Ne_cutIntoPieces 148 = .ok (.iconst (-1), 1) := by decide +kernel
theorem d_Ne_cutIntoPieces_149 : decode b_Ne_cutIntoPieces 149 = .ok (.if_icmp .eq 155, 3) := by decide +kernel
theorem d_Ne_cutIntoPieces_152 : decode b_Ne_cutIntoPieces 152 = .ok (.aload_n 0, 1) := by decide +kernel
theorem d_Ne_cutIntoPieces_153 : decode b_Ne_cutIntoPieces 153 = .ok (.getfield 25, 3) := by decide +kernel
theorem d_Ne_cutIntoPieces_156 : decode b_Ne_cutIntoPieces 156 = .ok (.sipush 220, 3) := by decide +kernel
theorem d_Ne_cutIntoPieces_159 : decode b_Ne_cutIntoPieces 159 = .ok (.if_icmp .ge 145, 3) := by decide +kernel
theorem d_Ne_cutIntoPieces_162 : decode b_Ne_cutIntoPieces 162 = .ok (.iload 4, 2) := by decide +kernel
theorem d_Ne_cutIntoPieces_164 : decode b_Ne_cutIntoPieces 164 = .ok (.ifCond .eq 20, 3) := by decide +kernel
theorem d_Ne_cutIntoPieces_167 : decode b_Ne_cutIntoPieces 167 = .ok (.aload_n 3, 1) := by decide +kernel
theorem d_Ne_cutIntoPieces_168 : decode b_Ne_cutIntoPieces 168 = .ok (.getfield 143, 3) := by decide +kernel
theorem d_Ne_cutIntoPieces_171 : decode b_Ne_cutIntoPieces 171 = .ok (.iload 10, 2) := by decide +kernel
theorem d_Ne_cutIntoPieces_173 : decode b_Ne_cutIntoPieces 173 = .ok (.iload 11, 2) := by decide +kernel
theorem d_Ne_cutIntoPieces_175 : decode b_Ne_cutIntoPieces 175 = .ok (.iconst 1, 1) := by decide +kernel
theorem d_Ne_cutIntoPieces_176 : decode b_Ne_cutIntoPieces 176 = .ok (.iadd, 1) := by decide +kernel
theorem d_Ne_cutIntoPieces_177 : decode b_Ne_cutIntoPieces 177 = .ok (.invokestatic 146, 3) := by decide +kernel
theorem d_Ne_cutIntoPieces_180 : decode b_Ne_cutIntoPieces 180 = .ok (.iaload, 1) := by decide +kernel
theorem d_Ne_cutIntoPieces_181 : decode b_Ne_cutIntoPieces 181 = .ok (.goto 15, 3) := by decide +kernel
theorem d_Ne_cutIntoPieces_184 : decode b_Ne_cutIntoPieces 184 = .ok (.aload_n 3, 1) := by decide +kernel
theorem d_Ne_cutIntoPieces_185 : decode b_Ne_cutIntoPieces 185 = .ok (.getfield 143, 3) := by decide +kernel
theorem d_Ne_cutIntoPieces_188 : decode b_Ne_cutIntoPieces 188 = .ok (.iload 10, 2) := by decide +kernel
theorem d_Ne_cutIntoPieces_190 : decode b_Ne_cutIntoPieces 190 = .ok (.iload 11, 2) := by decide +kernel
theorem d_Ne_cutIntoPieces_192 : decode b_Ne_cutIntoPieces 192 = .ok (.invokestatic 146, 3) := by decide +kernel
theorem d_Ne_cutIntoPieces_195 : decode b_Ne_cutIntoPieces 195 = .ok (.iaload, 1) := by decide +kernel
theorem d_Ne_cutIntoPieces_196 : decode b_Ne_cutIntoPieces 196 = .ok (.istore 13, 2) := by decide +kernel
theorem d_Ne_cutIntoPieces_198 : decode b_Ne_cutIntoPieces 198 = .ok (.iload 4, 2) := by decide +kernel
theorem d_Ne_cutIntoPieces_200 : decode b_Ne_cutIntoPieces 200 = .ok (.ifCond .eq 18, 3) := by decide +kernel
theorem d_Ne_cutIntoPieces_203 : decode b_Ne_cutIntoPieces 203 = .ok (.aload_n 3, 1) := by decide +kernel
theorem d_Ne_cutIntoPieces_204 : decode b_Ne_cutIntoPieces 204 = .ok (.getfield 143, 3) := by decide +kernel
theorem d_Ne_cutIntoPieces_207 : decode b_Ne_cutIntoPieces 207 = .ok (.iload 10, 2) := by decide +kernel
theorem d_Ne_cutIntoPieces_209 : decode b_Ne_cutIntoPieces 209 = .ok (.iload 11, 2) := by decide +kernel
theorem d_Ne_cutIntoPieces_211 : decode b_Ne_cutIntoPieces 211 = .ok (.invokestatic 146, 3) := by decide +kernel
theorem d_Ne_cutIntoPieces_214 : decode b_Ne_cutIntoPieces 214 = .ok (.iaload, 1) := by decide +kernel
theorem d_Ne_cutIntoPieces_215 : decode b_Ne_cutIntoPieces 215 = .ok (.goto 17, 3) := by decide +kernel
theorem d_Ne_cutIntoPieces_218 : decode b_Ne_cutIntoPieces 218 = .ok (.aload_n 3, 1) := by decide +kernel
theorem d_Ne_cutIntoPieces_219 : decode b_Ne_cutIntoPieces 219 = .ok (.getfield 143, 3) := by decide +kernel
theorem d_Ne_cutIntoPieces_222 : decode b_Ne_cutIntoPieces 222 = .ok (.iload 10, 2) := by decide +kernel
theorem d_Ne_cutIntoPieces_224 : decode b_Ne_cutIntoPieces 224 = .ok (.iconst 1, 1) := by decide +kernel
theorem d_Ne_cutIntoPieces_225 : decode b_Ne_cutIntoPieces 225 = .ok (.iadd, 1) := by decide +kernel
theorem d_Ne_cutIntoPieces_226 : decode b_Ne_cutIntoPieces 226 = .ok (.iload 11, 2) := by decide +kernel
theorem d_Ne_cutIntoPieces_228 : decode b_Ne_cutIntoPieces 228 = .ok (.invokestatic 146, 3) := by decide +kernel
theorem d_Ne_cutIntoPieces_231 : decode b_Ne_cutIntoPieces 231 = .ok (.iaload, 1) := by decide +kernel
theorem d_Ne_cutIntoPieces_232 : decode b_Ne_cutIntoPieces 232 = .ok (.istore 14, 2) := by decide +kernel
theorem d_Ne_cutIntoPieces_234 : decode b_Ne_cutIntoPieces 234 = .ok (.aload_n 0, 1) := by decide +kernel
theorem d_Ne_cutIntoPieces_235 : decode b_Ne_cutIntoPieces 235 = .ok (.getfield 34, 3) := by decide +kernel
theorem d_Ne_cutIntoPieces_238 : decode b_Ne_cutIntoPieces 238 = .ok (.aload_n 0, 1) := by decide +kernel
theorem d_Ne_cutIntoPieces_239 : decode b_Ne_cutIntoPieces 239 = .ok (.getfield 25, 3) := by decide +kernel
theorem d_Ne_cutIntoPieces_242 : decode b_Ne_cutIntoPieces 242 = .ok (.iload_n 2, 1) := by decide +kernel
theorem d_Ne_cutIntoPieces_243 : decode b_Ne_cutIntoPieces 243 = .ok (.iastore, 1) := by decide +kernel
theorem d_Ne_cutIntoPieces_244 : decode b_Ne_cutIntoPieces 244 = .ok (.aload_n 0, 1) := by decide +kernel
theorem d_Ne_cutIntoPieces_245 : decode b_Ne_cutIntoPieces 245 = .ok (.iconst 2, 1) := by decide +kernel
theorem d_Ne_cutIntoPieces_246 : decode b_Ne_cutIntoPieces 246 = .ok (.aload_n 0, 1) := by decide +kernel
theorem d_Ne_cutIntoPieces_247 : decode b_Ne_cutIntoPieces 247 = .ok (.getfield 25, 3) := by decide +kernel
theorem d_Ne_cutIntoPieces_250 : decode b_Ne_cutIntoPieces 250 = .ok (.imul, 1) := by decide +kernel
theorem d_Ne_cutIntoPieces_251 : decode b_Ne_cutIntoPieces 251 = .ok (.iload 8, 2) := by decide +kernel
theorem d_Ne_cutIntoPieces_253 : decode b_Ne_cutIntoPieces 253 = .ok (.iload 4, 2) := by decide +kernel
theorem d_Ne_cutIntoPieces_255 : decode b_Ne_cutIntoPieces 255 = .ok (.ifCond .eq 7, 3) := by decide +kernel
theorem d_Ne_cutIntoPieces_258 : decode b_Ne_cutIntoPieces 258 = .ok (.iconst 0, 1) := by decide +kernel
theorem d_Ne_cutIntoPieces_259 : decode b_Ne_cutIntoPieces 259 = .ok (.goto 4, 3) := by decide +kernel
theorem d_Ne_cutIntoPieces_262 : decode b_Ne_cutIntoPieces 262 = .ok (.iconst 1, 1) := by decide +kernel
theorem d_Ne_cutIntoPieces_263 : decode b_Ne_cutIntoPieces 263 = .ok (.iload 13, 2) := by decide +kernel
theorem d_Ne_cutIntoPieces_265 : decode b_Ne_cutIntoPieces 265 = .ok (.invokevirtual 149, 3) := by decide +kernel
theorem d_Ne_cutIntoPieces_268 : decode b_Ne_cutIntoPieces 268 = .ok (.aload_n 0, 1) := by decide +kernel
theorem d_Ne_cutIntoPieces_269 : decode b_Ne_cutIntoPieces 269 = .ok (.iconst 2, 1) := by decide +kernel
theorem d_Ne_cutIntoPieces_270 : decode b_Ne_cutIntoPieces 270 = .ok (.aload_n 0, 1) := by decide +kernel
theorem d_Ne_cutIntoPieces_271 : decode b_Ne_cutIntoPieces 271 = .ok (.getfield 25, 3) := by decide +kernel
theorem d_Ne_cutIntoPieces_274 : decode b_Ne_cutIntoPieces 274 = .ok (.imul, 1) := by decide +kernel
theorem d_Ne_cutIntoPieces_275 : decode b_Ne_cutIntoPieces 275 = .ok (.iconst 1, 1) := by decide +kernel
theorem d_Ne_cutIntoPieces_276 : decode b_Ne_cutIntoPieces 276 = .ok (.iadd, 1) := by decide +kernel
theorem d_Ne_cutIntoPieces_277 : decode b_Ne_cutIntoPieces 277 = .ok (.iload 12, 2) := by decide +kernel
theorem d_Ne_cutIntoPieces_279 : decode b_Ne_cutIntoPieces 279 = .ok (.iload 4, 2) := by decide +kernel
theorem d_Ne_cutIntoPieces_281 : decode b_Ne_cutIntoPieces 281 = .ok (.ifCond .eq 7, 3) := by decide +kernel
theorem d_Ne_cutIntoPieces_284 : decode b_Ne_cutIntoPieces 284 = .ok (.iconst 2, 1) := by decide +kernel
theorem d_Ne_cutIntoPieces_285 : decode b_Ne_cutIntoPieces 285 = .ok (.goto 4, 3) := by decide +kernel
theorem d_Ne_cutIntoPieces_288 : decode b_Ne_cutIntoPieces 288 = .ok (.iconst 3, 1) := by decide +kernel
theorem d_Ne_cutIntoPieces_289 : decode b_Ne_cutIntoPieces 289 = .ok (.iload 14, 2) := by decide +kernel
theorem d_Ne_cutIntoPieces_291 : decode b_Ne_cutIntoPieces 291 = .ok (.invokevirtual 149, 3) := by decide +kernel
theorem d_Ne_cutIntoPieces_294 : decode b_Ne_cutIntoPieces 294 = .ok (.aload_n 0, 1) := by decide +kernel
theorem d_Ne_cutIntoPieces_295 : decode b_Ne_cutIntoPieces 295 = .ok (.dup, 1) := by decide +kernel
theorem d_Ne_cutIntoPieces_296 : decode b_Ne_cutIntoPieces 296 = .ok (.getfield 25, 3) := by decide +kernel
theorem d_Ne_cutIntoPieces_299 : decode b_Ne_cutIntoPieces 299 = .ok (.iconst 1, 1) := by decide +kernel
theorem d_Ne_cutIntoPieces_300 : decode b_Ne_cutIntoPieces 300 = .ok (.iadd, 1) := by decide +kernel
theorem d_Ne_cutIntoPieces_301 : decode b_Ne_cutIntoPieces 301 = .ok (.putfield 25, 3) := by decide +kernel
theorem d_Ne_cutIntoPieces_304 : decode b_Ne_cutIntoPieces 304 = .ok (.iload 12, 2) := by decide +kernel
theorem d_Ne_cutIntoPieces_306 : decode b_Ne_cutIntoPieces 306 = .ok (.iconst (-1), 1) := by decide +kernel
theorem d_Ne_cutIntoPieces_307 : decode b_Ne_cutIntoPieces 307 = .ok (.if_icmp .eq 8, 3) := by decide +kernel
theorem d_Ne_cutIntoPieces_310 : decode b_Ne_cutIntoPieces 310 = .ok (.iload 12, 2) := by decide +kernel
theorem d_Ne_cutIntoPieces_312 : decode b_Ne_cutIntoPieces 312 = .ok (.goto 5, 3) := by decide +kernel
theorem d_Ne_cutIntoPieces_315 : decode b_Ne_cutIntoPieces 315 = .ok (.iload 8, 2) := by decide +kernel
theorem d_Ne_cutIntoPieces_317 : decode b_Ne_cutIntoPieces 317 = .ok (.istore 8, 2) := by decide +kernel
theorem d_Ne_cutIntoPieces_319 : decode b_Ne_cutIntoPieces 319 = .ok (.iinc 9 1, 3) := by decide +kernel
theorem d_Ne_cutIntoPieces_322 : decode b_Ne_cutIntoPieces 322 = .ok (.goto (-237), 3) := by decide +kernel
theorem d_Ne_cutIntoPieces_325 : decode b_Ne_cutIntoPieces 325 = .ok (.return_, 1) := by decide +kernel
abbrev wl_Ne_cutIntoPieces (a_0 : Nat) (a_0_sidesOut : Nat) (a_0_pieceLine : Nat) (a_0_begins : Nat) (a_0_directions : Nat) (a_0_leftSpaces : Nat) (a_0_pointAt : Nat) (a_1 : Nat) (a_1_lowX : Nat) (a_1_lowY : Nat) (a_1_highX : Nat) (a_1_highY : Nat) (a_3 : Nat) (a_3_xs : Nat) (a_3_xs_places : Nat) (a_3_ys : Nat) (a_3_ys_places : Nat) (a_3_cells : Nat) (b_0_pointX : Nat) (b_0_pointY : Nat) (b_0_looseSides : Nat) (b_0_weights : Nat) (b_1_thickness : Nat) (b_1_doors : Nat) (b_1_doorFrom : Nat) (b_1_doorTo : Nat) (cI : ClassId) (v_0_points : Int32) (v_0_pieces : Int32) (v_0_looseEnds : Int32) (f_0_sidesOut : Nat → Int32) (f_0_pieceLine : Nat → Int32) (f_0_begins : Nat → Int32) (f_0_directions : Nat → Int32) (f_0_leftSpaces : Nat → Int32) (f_0_pointAt : Nat → Int32) (v_1_count : Int32) (f_1_lowX : Nat → Int32) (f_1_lowY : Nat → Int32) (f_1_highX : Nat → Int32) (f_1_highY : Nat → Int32) (v_3_spaces : Int32) (v_3_xs_count : Int32) (f_3_xs_places : Nat → Int32) (v_3_ys_count : Int32) (f_3_ys_places : Nat → Int32) (f_3_cells : Nat → Int32) : va_W := [(a_0, .inr (3, [.ref b_0_pointX, .ref b_0_pointY, .ref b_0_looseSides, .int v_0_points, .int v_0_pieces, .int v_0_looseEnds, .ref a_0_sidesOut, .ref a_0_pieceLine, .ref a_0_begins, .ref a_0_directions, .ref a_0_leftSpaces, .ref b_0_weights, .ref a_0_pointAt])), (a_0_sidesOut, .inl (cI, 560, .inl f_0_sidesOut)), (a_0_pieceLine, .inl (cI, 220, .inl f_0_pieceLine)), (a_0_begins, .inl (cI, 440, .inl f_0_begins)), (a_0_directions, .inl (cI, 440, .inl f_0_directions)), (a_0_leftSpaces, .inl (cI, 440, .inl f_0_leftSpaces)), (a_0_pointAt, .inl (cI, 1600, .inl f_0_pointAt)), (a_1, .inr (1, [.ref a_1_lowX, .ref a_1_lowY, .ref a_1_highX, .ref a_1_highY, .ref b_1_thickness, .ref b_1_doors, .ref b_1_doorFrom, .ref b_1_doorTo, .int v_1_count])), (a_1_lowX, .inl (cI, 20, .inl f_1_lowX)), (a_1_lowY, .inl (cI, 20, .inl f_1_lowY)), (a_1_highX, .inl (cI, 20, .inl f_1_highX)), (a_1_highY, .inl (cI, 20, .inl f_1_highY)), (a_3, .inr (8, [.ref a_3_xs, .ref a_3_ys, .ref a_3_cells, .int v_3_spaces])), (a_3_xs, .inr (9, [.ref a_3_xs_places, .int v_3_xs_count])), (a_3_xs_places, .inl (cI, 40, .inl f_3_xs_places)), (a_3_ys, .inr (9, [.ref a_3_ys_places, .int v_3_ys_count])), (a_3_ys_places, .inl (cI, 40, .inl f_3_ys_places)), (a_3_cells, .inl (cI, 1681, .inl f_3_cells))]
def m_Ne_cutIntoPieces_L85 (l2 : Int32) (l4 : Int32) (l5 : Int32) (l6 : Int32) (l7 : Int32) (f_0_pointAt : Nat → Int32) (f_3_cells : Nat → Int32) : Nat → Int32 → Int32 → Int32 → (Nat → Int32) → (Nat → Int32) → (Nat → Int32) → (Nat → Int32) → (Nat → Int32) → Option ((Int32) × (Nat → Int32) × (Nat → Int32) × (Nat → Int32) × (Nat → Int32) × (Nat → Int32))
  | 0, _, _, _, _, _, _, _, _ => none
  | n + 1, l8, l9, v_0_pieces, f_0_sidesOut, f_0_pieceLine, f_0_begins, f_0_directions, f_0_leftSpaces =>
    if l7 < l9 then (
      some (v_0_pieces, f_0_sidesOut, f_0_pieceLine, f_0_begins, f_0_directions, f_0_leftSpaces))
    else (
      bd1 (
        if l4 = 0 then (
        some l5)
      else (
        some (l5 + l9)))
      fun (x24 : Int32) =>
      bd1 (
          if l4 = 0 then (
          some (l6 + l9))
        else (
          some l6))
        fun (x29 : Int32) =>
        bd1 (m_Ne_node x24 x29) fun r31 =>
          gI r31 1600 <|
          lt_ (f_0_pointAt r31.toNatClampNeg) fun x34 =>
          bd6 (
            if x34 = (-1) then (
            some (v_0_pieces, f_0_sidesOut, f_0_pieceLine, f_0_begins, f_0_directions, f_0_leftSpaces))
          else (
            if l8 = (-1) then (
              some (v_0_pieces, f_0_sidesOut, f_0_pieceLine, f_0_begins, f_0_directions, f_0_leftSpaces))
            else (
              if 220 ≤ v_0_pieces then (
                some (v_0_pieces, f_0_sidesOut, f_0_pieceLine, f_0_begins, f_0_directions, f_0_leftSpaces))
              else (
                bd1 (
                  if l4 = 0 then (
                  bd1 (m_Gr_cell x24 x29) fun r52 =>
                  gI r52 1681 <|
                  some (f_3_cells r52.toNatClampNeg))
                else (
                  bd1 (m_Gr_cell x24 (x29 + 1)) fun r55 =>
                  gI r55 1681 <|
                  some (f_3_cells r55.toNatClampNeg)))
                fun (x50 : Int32) =>
                bd1 (
                    if l4 = 0 then (
                    bd1 (m_Gr_cell (x24 + 1) x29) fun r63 =>
                    gI r63 1681 <|
                    some (f_3_cells r63.toNatClampNeg))
                  else (
                    bd1 (m_Gr_cell x24 x29) fun r66 =>
                    gI r66 1681 <|
                    some (f_3_cells r66.toNatClampNeg)))
                  fun (x61 : Int32) =>
                  gI v_0_pieces 220 <|
                    lt_ (upd f_0_pieceLine v_0_pieces.toNatClampNeg l2) fun f70 =>
                    bd1 (
                      if l4 = 0 then (
                      some 1)
                    else (
                      some 0))
                    fun (x74 : Int32) =>
                    bd4 (m_Ne_addSide (2 * v_0_pieces) l8 x74 x50 f_0_sidesOut f_0_begins f_0_directions f_0_leftSpaces) fun f76 f77 f78 f79 =>
                      bd1 (
                        if l4 = 0 then (
                        some 3)
                      else (
                        some 2))
                      fun (x84 : Int32) =>
                      bd4 (m_Ne_addSide ((2 * v_0_pieces) + 1) x34 x84 x61 f76 f77 f78 f79) fun f86 f87 f88 f89 =>
                        lt_ (v_0_pieces + 1) fun x91 =>
                        some (x91, f86, f70, f87, f88, f89)))))
          fun (x38 : Int32) (f39 : Nat → Int32) (f40 : Nat → Int32) (f41 : Nat → Int32) (f42 : Nat → Int32) (f43 : Nat → Int32) =>
          bd1 (
              if x34 = (-1) then (
              some l8)
            else (
              some x34))
            fun (x95 : Int32) =>
            lt_ (l9 + 1) fun x97 =>
              m_Ne_cutIntoPieces_L85 l2 l4 l5 l6 l7 f_0_pointAt f_3_cells n x95 x97 x38 f39 f40 f41 f42 f43)
def m_Ne_cutIntoPieces (p2 : Int32) (v_0_pieces : Int32) (f_0_sidesOut : Nat → Int32) (f_0_pieceLine : Nat → Int32) (f_0_begins : Nat → Int32) (f_0_directions : Nat → Int32) (f_0_leftSpaces : Nat → Int32) (f_0_pointAt : Nat → Int32) (f_1_lowX : Nat → Int32) (f_1_lowY : Nat → Int32) (f_1_highX : Nat → Int32) (f_1_highY : Nat → Int32) (v_3_xs_count : Int32) (f_3_xs_places : Nat → Int32) (v_3_ys_count : Int32) (f_3_ys_places : Nat → Int32) (f_3_cells : Nat → Int32) : Option ((Int32) × (Nat → Int32) × (Nat → Int32) × (Nat → Int32) × (Nat → Int32) × (Nat → Int32)) :=
  bd1 (m_Li_isFlat p2 f_1_lowY f_1_highY) fun r1 =>
  gI p2 20 <|
  bd1 (m_Cu_indexOf (f_1_lowX p2.toNatClampNeg) v_3_xs_count f_3_xs_places) fun r4 =>
  gI p2 20 <|
  bd1 (m_Cu_indexOf (f_1_lowY p2.toNatClampNeg) v_3_ys_count f_3_ys_places) fun r7 =>
  bd1 (
    if r1 = 0 then (
    gI p2 20 <|
    bd1 (m_Cu_indexOf (f_1_highY p2.toNatClampNeg) v_3_ys_count f_3_ys_places) fun r15 =>
    some (r15 - r7))
  else (
    gI p2 20 <|
    bd1 (m_Cu_indexOf (f_1_highX p2.toNatClampNeg) v_3_xs_count f_3_xs_places) fun r18 =>
    some (r18 - r4)))
  fun (x12 : Int32) =>
  bd6 (m_Ne_cutIntoPieces_L85 p2 r1 r4 r7 x12 f_0_pointAt f_3_cells fu (-1) 0 v_0_pieces f_0_sidesOut f_0_pieceLine f_0_begins f_0_directions f_0_leftSpaces) fun x28 f29 f30 f31 f32 f33 =>
    some (x28, f29, f30, f31, f32, f33)

set_option maxHeartbeats 4000000 in
set_option maxRecDepth 100000 in
theorem t_Ne_cutIntoPieces {p : Program} {l : Launch} {e : Env} {s : State} {m : MethodId} {args : Array Value} {below : List Frame} {meth : Method} {c : Code} {A : Nat → Prop} {Q : State → Prop} {dC : Nat → ClassId} {dI : Nat → Nat → Nat} {cI cZ cJ : ClassId} (a_0 a_0_sidesOut a_0_pieceLine a_0_begins a_0_directions a_0_leftSpaces a_0_pointAt a_1 a_1_lowX a_1_lowY a_1_highX a_1_highY a_3 a_3_xs a_3_xs_places a_3_ys a_3_ys_places a_3_cells b_0_pointX b_0_pointY b_0_looseSides b_0_weights b_1_thickness b_1_doors b_1_doorFrom b_1_doorTo : Nat) (v_0_points : Int32) (v_0_pieces : Int32) (v_0_looseEnds : Int32) (f_0_sidesOut : Nat → Int32) (f_0_pieceLine : Nat → Int32) (f_0_begins : Nat → Int32) (f_0_directions : Nat → Int32) (f_0_leftSpaces : Nat → Int32) (f_0_pointAt : Nat → Int32) (v_1_count : Int32) (f_1_lowX : Nat → Int32) (f_1_lowY : Nat → Int32) (f_1_highX : Nat → Int32) (f_1_highY : Nat → Int32) (v_3_spaces : Int32) (v_3_xs_count : Int32) (f_3_xs_places : Nat → Int32) (v_3_ys_count : Int32) (f_3_ys_places : Nat → Int32) (f_3_cells : Nat → Int32) (p2 : Int32) (ov_0_pieces : Int32) (of_0_sidesOut : Nat → Int32) (of_0_pieceLine : Nat → Int32) (of_0_begins : Nat → Int32) (of_0_directions : Nat → Int32) (of_0_leftSpaces : Nat → Int32) (hx : p.tables.exec = Jvm.exec) (hb : c.code = b_Ne_cutIntoPieces) (hml : c.maxLocals = 15) (hown : s.vm.findClass "SpaceCycles$Net" = some m.cls) (hts : ∀ w ∈ w_Ne_cutIntoPieces, w.before args s = true) (hK : va_K (dC, dI) vwCl [(cI, .int), (cZ, .boolean), (cJ, .long)] s) (hN : NX s) (hA : ∀ q : Nat, s.heap.size ≤ q → A q)
    (hret : ∀ (pc : Nat) (H : Heap) (locs : List Loc) (ls : Array Slot), decode b_Ne_cutIntoPieces pc = .ok (.return_, 1) → va_P (dC, dI) vwCl (wl_Ne_cutIntoPieces a_0 a_0_sidesOut a_0_pieceLine a_0_begins a_0_directions a_0_leftSpaces a_0_pointAt a_1 a_1_lowX a_1_lowY a_1_highX a_1_highY a_3 a_3_xs a_3_xs_places a_3_ys a_3_ys_places a_3_cells b_0_pointX b_0_pointY b_0_looseSides b_0_weights b_1_thickness b_1_doors b_1_doorFrom b_1_doorTo cI v_0_points ov_0_pieces v_0_looseEnds of_0_sidesOut of_0_pieceLine of_0_begins of_0_directions of_0_leftSpaces f_0_pointAt v_1_count f_1_lowX f_1_lowY f_1_highX f_1_highY v_3_spaces v_3_xs_count f_3_xs_places v_3_ys_count f_3_ys_places f_3_cells) H → va_D A (wl_Ne_cutIntoPieces a_0 a_0_sidesOut a_0_pieceLine a_0_begins a_0_directions a_0_leftSpaces a_0_pointAt a_1 a_1_lowX a_1_lowY a_1_highX a_1_highY a_3 a_3_xs a_3_xs_places a_3_ys a_3_ys_places a_3_cells b_0_pointX b_0_pointY b_0_looseSides b_0_weights b_1_thickness b_1_doors b_1_doorFrom b_1_doorTo cI v_0_points ov_0_pieces v_0_looseEnds of_0_sidesOut of_0_pieceLine of_0_begins of_0_directions of_0_leftSpaces f_0_pointAt v_1_count f_1_lowX f_1_lowY f_1_highX f_1_highY v_3_spaces v_3_xs_count f_3_xs_places v_3_ys_count f_3_ys_places f_3_cells) → va_S A s.heap H locs → W p l e rm_Ne_cutIntoPieces s m args below meth c H locs 0 0 Q (F0 m pc ls []))
    (hm : m_Ne_cutIntoPieces p2 v_0_pieces f_0_sidesOut f_0_pieceLine f_0_begins f_0_directions f_0_leftSpaces f_0_pointAt f_1_lowX f_1_lowY f_1_highX f_1_highY v_3_xs_count f_3_xs_places v_3_ys_count f_3_ys_places f_3_cells = some (ov_0_pieces, of_0_sidesOut, of_0_pieceLine, of_0_begins, of_0_directions, of_0_leftSpaces)) : ∀ (H : Heap) (locs : List Loc) (ls : Array Slot), va_P (dC, dI) vwCl (wl_Ne_cutIntoPieces a_0 a_0_sidesOut a_0_pieceLine a_0_begins a_0_directions a_0_leftSpaces a_0_pointAt a_1 a_1_lowX a_1_lowY a_1_highX a_1_highY a_3 a_3_xs a_3_xs_places a_3_ys a_3_ys_places a_3_cells b_0_pointX b_0_pointY b_0_looseSides b_0_weights b_1_thickness b_1_doors b_1_doorFrom b_1_doorTo cI v_0_points v_0_pieces v_0_looseEnds f_0_sidesOut f_0_pieceLine f_0_begins f_0_directions f_0_leftSpaces f_0_pointAt v_1_count f_1_lowX f_1_lowY f_1_highX f_1_highY v_3_spaces v_3_xs_count f_3_xs_places v_3_ys_count f_3_ys_places f_3_cells) H → va_D A (wl_Ne_cutIntoPieces a_0 a_0_sidesOut a_0_pieceLine a_0_begins a_0_directions a_0_leftSpaces a_0_pointAt a_1 a_1_lowX a_1_lowY a_1_highX a_1_highY a_3 a_3_xs a_3_xs_places a_3_ys a_3_ys_places a_3_cells b_0_pointX b_0_pointY b_0_looseSides b_0_weights b_1_thickness b_1_doors b_1_doorFrom b_1_doorTo cI v_0_points v_0_pieces v_0_looseEnds f_0_sidesOut f_0_pieceLine f_0_begins f_0_directions f_0_leftSpaces f_0_pointAt v_1_count f_1_lowX f_1_lowY f_1_highX f_1_highY v_3_spaces v_3_xs_count f_3_xs_places v_3_ys_count f_3_ys_places f_3_cells) → va_S A s.heap H locs → lv_has ls 15 [(0, .ref a_0), (1, .ref a_1), (2, .int p2), (3, .ref a_3)] → W p l e rm_Ne_cutIntoPieces s m args below meth c H locs 0 0 Q (F0 m 0 ls []) := by
  intro H locs ls hP hD hS hl
  unfold m_Ne_cutIntoPieces at hm
  refine lv_aload_n hx hb d_Ne_cutIntoPieces_0 rfl (lv_at hl 1 rfl) ?_
  refine lv_iload_n hx hb d_Ne_cutIntoPieces_1 rfl (lv_at hl 2 rfl) ?_
  obtain ⟨r1, hb2, hm⟩ := bd1_e hm
  have hPc := hP.sub (ws' := (wl_Li_isFlat a_1 a_1_lowY a_1_highY a_1_lowX a_1_highX b_1_thickness b_1_doors b_1_doorFrom b_1_doorTo cI v_1_count f_1_lowY f_1_highY)) [7, 9, 11] rfl
  have hDc := hD.sub (ws' := (wl_Li_isFlat a_1 a_1_lowY a_1_highY a_1_lowX a_1_highX b_1_thickness b_1_doors b_1_doorFrom b_1_doorTo cI v_1_count f_1_lowY f_1_highY)) [7, 9, 11] (by decide) rfl
  refine cl_i (wc' := (wl_Li_isFlat a_1 a_1_lowY a_1_highY a_1_lowX a_1_highX b_1_thickness b_1_doors b_1_doorFrom b_1_doorTo cI v_1_count f_1_lowY f_1_highY)) (va_runV (As := [.int p2]) (rest := []) ⟨hx, hb, hml, hown, hts⟩ (c_Li_isFlat l dC dI (cI := cI) (cZ := cZ) (cJ := cJ) a_1 a_1_lowY a_1_highY a_1_lowX a_1_highX b_1_thickness b_1_doors b_1_doorFrom b_1_doorTo H.size v_1_count f_1_lowY f_1_highY p2 r1 hb2) (cwV 1 hts (gl_V k_158 k_157 k_156 k_30 k_155) rfl rfl rfl (by decide +kernel) ⟨Nat.le_of_ble_eq_true rfl, Nat.le_of_ble_eq_true rfl⟩) ⟨PP_blind, va_recv hK hPc (ci := 1) (q0 := 0) rfl rfl, fun U hU hW => PP_at hK hN hPc hDc hU hW⟩ rfl rfl hl.1 rfl (lv_room (Nat.le_of_ble_eq_true rfl)) d_Ne_cutIntoPieces_2 ⟨Nat.zero_le _, Nat.zero_le _⟩) hP hD hS hA [7, 9, 11] [0, 1, 2, 3, 4, 5, 6, 8, 10, 12, 13, 14, 15, 16, 17] rfl rfl (by decide) (by decide) (fun H locs hP hD hS => ?_)
  have hP : va_P (dC, dI) vwCl (wl_Ne_cutIntoPieces a_0 a_0_sidesOut a_0_pieceLine a_0_begins a_0_directions a_0_leftSpaces a_0_pointAt a_1 a_1_lowX a_1_lowY a_1_highX a_1_highY a_3 a_3_xs a_3_xs_places a_3_ys a_3_ys_places a_3_cells b_0_pointX b_0_pointY b_0_looseSides b_0_weights b_1_thickness b_1_doors b_1_doorFrom b_1_doorTo cI v_0_points v_0_pieces v_0_looseEnds f_0_sidesOut f_0_pieceLine f_0_begins f_0_directions f_0_leftSpaces f_0_pointAt v_1_count f_1_lowX f_1_lowY f_1_highX f_1_highY v_3_spaces v_3_xs_count f_3_xs_places v_3_ys_count f_3_ys_places f_3_cells) H := hP.sub [0, 1, 2, 3, 4, 5, 6, 15, 7, 16, 8, 17, 9, 10, 11, 12, 13, 14] rfl
  have hD : va_D A (wl_Ne_cutIntoPieces a_0 a_0_sidesOut a_0_pieceLine a_0_begins a_0_directions a_0_leftSpaces a_0_pointAt a_1 a_1_lowX a_1_lowY a_1_highX a_1_highY a_3 a_3_xs a_3_xs_places a_3_ys a_3_ys_places a_3_cells b_0_pointX b_0_pointY b_0_looseSides b_0_weights b_1_thickness b_1_doors b_1_doorFrom b_1_doorTo cI v_0_points v_0_pieces v_0_looseEnds f_0_sidesOut f_0_pieceLine f_0_begins f_0_directions f_0_leftSpaces f_0_pointAt v_1_count f_1_lowX f_1_lowY f_1_highX f_1_highY v_3_spaces v_3_xs_count f_3_xs_places v_3_ys_count f_3_ys_places f_3_cells) := hD.sub [0, 1, 2, 3, 4, 5, 6, 15, 7, 16, 8, 17, 9, 10, 11, 12, 13, 14] (by decide) rfl
  refine lv_istore (lv' := [(4, .int r1), (0, .ref a_0), (1, .ref a_1), (2, .int p2), (3, .ref a_3)]) hx hb d_Ne_cutIntoPieces_5 hl (by decide) rfl (fun ls hl => ?_)
  refine lv_aload_n hx hb d_Ne_cutIntoPieces_7 rfl (lv_at hl 4 rfl) ?_
  refine va_get (D := (dC, dI)) (ci := 8) (v := .ref a_3_xs) (C := "SpaceCycles$Grid") (T := F_Gr) (N := 4) hx hb hts (in_F i_Gr) hown hK hP 12 rfl rfl 0 (by decide) (hts _ (in_c k_140)) (fun _ h9 => h9) rfl d_Ne_cutIntoPieces_8 ?_
  refine lv_aload_n hx hb d_Ne_cutIntoPieces_11 rfl (lv_at hl 2 rfl) ?_
  refine va_get (D := (dC, dI)) (ci := 1) (v := .ref a_1_lowX) (C := "SpaceCycles$Lines") (T := F_Li) (N := 9) hx hb hts (in_F i_Li) hown hK hP 7 rfl rfl 0 (by decide) (hts _ (in_c k_150)) (fun _ h9 => h9) rfl d_Ne_cutIntoPieces_12 ?_
  refine lv_iload_n hx hb d_Ne_cutIntoPieces_15 rfl (lv_at hl 3 rfl) ?_
  obtain ⟨hi3, hm⟩ := gI_e hm
  refine va_iald hx hb hK hP 8 0 rfl rfl hi3 d_Ne_cutIntoPieces_16 ?_
  obtain ⟨r4, hb5, hm⟩ := bd1_e hm
  have hPc := hP.sub (ws' := (wl_Cu_indexOf a_3_xs a_3_xs_places cI v_3_xs_count f_3_xs_places)) [13, 14] rfl
  have hDc := hD.sub (ws' := (wl_Cu_indexOf a_3_xs a_3_xs_places cI v_3_xs_count f_3_xs_places)) [13, 14] (by decide) rfl
  refine cl_i (wc' := (wl_Cu_indexOf a_3_xs a_3_xs_places cI v_3_xs_count f_3_xs_places)) (va_runV (As := [.int (f_1_lowX p2.toNatClampNeg)]) (rest := []) ⟨hx, hb, hml, hown, hts⟩ (c_Cu_indexOf l dC dI (cI := cI) (cZ := cZ) (cJ := cJ) a_3_xs a_3_xs_places H.size v_3_xs_count f_3_xs_places (f_1_lowX p2.toNatClampNeg) r4 hb5) (cwV 1 hts (gl_V k_151 k_96 k_95 k_9 k_94) rfl rfl rfl (by decide +kernel) ⟨Nat.le_of_ble_eq_true rfl, Nat.le_of_ble_eq_true rfl⟩) ⟨PP_blind, va_recv hK hPc (ci := 9) (q0 := 0) rfl rfl, fun U hU hW => PP_at hK hN hPc hDc hU hW⟩ rfl rfl hl.1 rfl (lv_room (Nat.le_of_ble_eq_true rfl)) d_Ne_cutIntoPieces_17 ⟨Nat.zero_le _, Nat.zero_le _⟩) hP hD hS hA [13, 14] [0, 1, 2, 3, 4, 5, 6, 7, 8, 9, 10, 11, 12, 15, 16, 17] rfl rfl (by decide) (by decide) (fun H locs hP hD hS => ?_)
  have hP : va_P (dC, dI) vwCl (wl_Ne_cutIntoPieces a_0 a_0_sidesOut a_0_pieceLine a_0_begins a_0_directions a_0_leftSpaces a_0_pointAt a_1 a_1_lowX a_1_lowY a_1_highX a_1_highY a_3 a_3_xs a_3_xs_places a_3_ys a_3_ys_places a_3_cells b_0_pointX b_0_pointY b_0_looseSides b_0_weights b_1_thickness b_1_doors b_1_doorFrom b_1_doorTo cI v_0_points v_0_pieces v_0_looseEnds f_0_sidesOut f_0_pieceLine f_0_begins f_0_directions f_0_leftSpaces f_0_pointAt v_1_count f_1_lowX f_1_lowY f_1_highX f_1_highY v_3_spaces v_3_xs_count f_3_xs_places v_3_ys_count f_3_ys_places f_3_cells) H := hP.sub [0, 1, 2, 3, 4, 5, 6, 7, 8, 9, 10, 11, 12, 16, 17, 13, 14, 15] rfl
  have hD : va_D A (wl_Ne_cutIntoPieces a_0 a_0_sidesOut a_0_pieceLine a_0_begins a_0_directions a_0_leftSpaces a_0_pointAt a_1 a_1_lowX a_1_lowY a_1_highX a_1_highY a_3 a_3_xs a_3_xs_places a_3_ys a_3_ys_places a_3_cells b_0_pointX b_0_pointY b_0_looseSides b_0_weights b_1_thickness b_1_doors b_1_doorFrom b_1_doorTo cI v_0_points v_0_pieces v_0_looseEnds f_0_sidesOut f_0_pieceLine f_0_begins f_0_directions f_0_leftSpaces f_0_pointAt v_1_count f_1_lowX f_1_lowY f_1_highX f_1_highY v_3_spaces v_3_xs_count f_3_xs_places v_3_ys_count f_3_ys_places f_3_cells) := hD.sub [0, 1, 2, 3, 4, 5, 6, 7, 8, 9, 10, 11, 12, 16, 17, 13, 14, 15] (by decide) rfl
  refine lv_istore (lv' := [(5, .int r4), (4, .int r1), (0, .ref a_0), (1, .ref a_1), (2, .int p2), (3, .ref a_3)]) hx hb d_Ne_cutIntoPieces_20 hl (by decide) rfl (fun ls hl => ?_)
  refine lv_aload_n hx hb d_Ne_cutIntoPieces_22 rfl (lv_at hl 5 rfl) ?_
  refine va_get (D := (dC, dI)) (ci := 8) (v := .ref a_3_ys) (C := "SpaceCycles$Grid") (T := F_Gr) (N := 4) hx hb hts (in_F i_Gr) hown hK hP 12 rfl rfl 1 (by decide) (hts _ (in_c k_147)) (fun _ h9 => h9) rfl d_Ne_cutIntoPieces_23 ?_
  refine lv_aload_n hx hb d_Ne_cutIntoPieces_26 rfl (lv_at hl 3 rfl) ?_
  refine va_get (D := (dC, dI)) (ci := 1) (v := .ref a_1_lowY) (C := "SpaceCycles$Lines") (T := F_Li) (N := 9) hx hb hts (in_F i_Li) hown hK hP 7 rfl rfl 1 (by decide) (hts _ (in_c k_152)) (fun _ h9 => h9) rfl d_Ne_cutIntoPieces_27 ?_
  refine lv_iload_n hx hb d_Ne_cutIntoPieces_30 rfl (lv_at hl 4 rfl) ?_
  obtain ⟨hi6, hm⟩ := gI_e hm
  refine va_iald hx hb hK hP 9 0 rfl rfl hi6 d_Ne_cutIntoPieces_31 ?_
  obtain ⟨r7, hb8, hm⟩ := bd1_e hm
  have hPc := hP.sub (ws' := (wl_Cu_indexOf a_3_ys a_3_ys_places cI v_3_ys_count f_3_ys_places)) [15, 16] rfl
  have hDc := hD.sub (ws' := (wl_Cu_indexOf a_3_ys a_3_ys_places cI v_3_ys_count f_3_ys_places)) [15, 16] (by decide) rfl
  refine cl_i (wc' := (wl_Cu_indexOf a_3_ys a_3_ys_places cI v_3_ys_count f_3_ys_places)) (va_runV (As := [.int (f_1_lowY p2.toNatClampNeg)]) (rest := []) ⟨hx, hb, hml, hown, hts⟩ (c_Cu_indexOf l dC dI (cI := cI) (cZ := cZ) (cJ := cJ) a_3_ys a_3_ys_places H.size v_3_ys_count f_3_ys_places (f_1_lowY p2.toNatClampNeg) r7 hb8) (cwV 1 hts (gl_V k_151 k_96 k_95 k_9 k_94) rfl rfl rfl (by decide +kernel) ⟨Nat.le_of_ble_eq_true rfl, Nat.le_of_ble_eq_true rfl⟩) ⟨PP_blind, va_recv hK hPc (ci := 9) (q0 := 0) rfl rfl, fun U hU hW => PP_at hK hN hPc hDc hU hW⟩ rfl rfl hl.1 rfl (lv_room (Nat.le_of_ble_eq_true rfl)) d_Ne_cutIntoPieces_32 ⟨Nat.zero_le _, Nat.zero_le _⟩) hP hD hS hA [15, 16] [0, 1, 2, 3, 4, 5, 6, 7, 8, 9, 10, 11, 12, 13, 14, 17] rfl rfl (by decide) (by decide) (fun H locs hP hD hS => ?_)
  have hP : va_P (dC, dI) vwCl (wl_Ne_cutIntoPieces a_0 a_0_sidesOut a_0_pieceLine a_0_begins a_0_directions a_0_leftSpaces a_0_pointAt a_1 a_1_lowX a_1_lowY a_1_highX a_1_highY a_3 a_3_xs a_3_xs_places a_3_ys a_3_ys_places a_3_cells b_0_pointX b_0_pointY b_0_looseSides b_0_weights b_1_thickness b_1_doors b_1_doorFrom b_1_doorTo cI v_0_points v_0_pieces v_0_looseEnds f_0_sidesOut f_0_pieceLine f_0_begins f_0_directions f_0_leftSpaces f_0_pointAt v_1_count f_1_lowX f_1_lowY f_1_highX f_1_highY v_3_spaces v_3_xs_count f_3_xs_places v_3_ys_count f_3_ys_places f_3_cells) H := hP.sub [0, 1, 2, 3, 4, 5, 6, 7, 8, 9, 10, 11, 12, 13, 14, 16, 17, 15] rfl
  have hD : va_D A (wl_Ne_cutIntoPieces a_0 a_0_sidesOut a_0_pieceLine a_0_begins a_0_directions a_0_leftSpaces a_0_pointAt a_1 a_1_lowX a_1_lowY a_1_highX a_1_highY a_3 a_3_xs a_3_xs_places a_3_ys a_3_ys_places a_3_cells b_0_pointX b_0_pointY b_0_looseSides b_0_weights b_1_thickness b_1_doors b_1_doorFrom b_1_doorTo cI v_0_points v_0_pieces v_0_looseEnds f_0_sidesOut f_0_pieceLine f_0_begins f_0_directions f_0_leftSpaces f_0_pointAt v_1_count f_1_lowX f_1_lowY f_1_highX f_1_highY v_3_spaces v_3_xs_count f_3_xs_places v_3_ys_count f_3_ys_places f_3_cells) := hD.sub [0, 1, 2, 3, 4, 5, 6, 7, 8, 9, 10, 11, 12, 13, 14, 16, 17, 15] (by decide) rfl
  refine lv_istore (lv' := [(6, .int r7), (5, .int r4), (4, .int r1), (0, .ref a_0), (1, .ref a_1), (2, .int p2), (3, .ref a_3)]) hx hb d_Ne_cutIntoPieces_35 hl (by decide) rfl (fun ls hl => ?_)
  refine lv_iload hx hb d_Ne_cutIntoPieces_37 (lv_at hl 2 rfl) ?_
  obtain ⟨x12, hb10, hm⟩ := bd1_e hm
  have K9 : ∀ (H : Heap) (locs : List Loc) (ls : Array Slot), va_P (dC, dI) vwCl (wl_Ne_cutIntoPieces a_0 a_0_sidesOut a_0_pieceLine a_0_begins a_0_directions a_0_leftSpaces a_0_pointAt a_1 a_1_lowX a_1_lowY a_1_highX a_1_highY a_3 a_3_xs a_3_xs_places a_3_ys a_3_ys_places a_3_cells b_0_pointX b_0_pointY b_0_looseSides b_0_weights b_1_thickness b_1_doors b_1_doorFrom b_1_doorTo cI v_0_points v_0_pieces v_0_looseEnds f_0_sidesOut f_0_pieceLine f_0_begins f_0_directions f_0_leftSpaces f_0_pointAt v_1_count f_1_lowX f_1_lowY f_1_highX f_1_highY v_3_spaces v_3_xs_count f_3_xs_places v_3_ys_count f_3_ys_places f_3_cells) H → va_D A (wl_Ne_cutIntoPieces a_0 a_0_sidesOut a_0_pieceLine a_0_begins a_0_directions a_0_leftSpaces a_0_pointAt a_1 a_1_lowX a_1_lowY a_1_highX a_1_highY a_3 a_3_xs a_3_xs_places a_3_ys a_3_ys_places a_3_cells b_0_pointX b_0_pointY b_0_looseSides b_0_weights b_1_thickness b_1_doors b_1_doorFrom b_1_doorTo cI v_0_points v_0_pieces v_0_looseEnds f_0_sidesOut f_0_pieceLine f_0_begins f_0_directions f_0_leftSpaces f_0_pointAt v_1_count f_1_lowX f_1_lowY f_1_highX f_1_highY v_3_spaces v_3_xs_count f_3_xs_places v_3_ys_count f_3_ys_places f_3_cells) → va_S A s.heap H locs → lv_has ls 15 [(0, .ref a_0), (2, .int p2), (3, .ref a_3), (4, .int r1), (5, .int r4), (6, .int r7)] → W p l e rm_Ne_cutIntoPieces s m args below meth c H locs 0 0 Q (F0 m 77 ls [.int x12]) := by
    intro H locs ls hP hD hS hl
    refine lv_istore (lv' := [(7, .int x12), (0, .ref a_0), (2, .int p2), (3, .ref a_3), (4, .int r1), (5, .int r4), (6, .int r7)]) hx hb d_Ne_cutIntoPieces_77 hl (by decide) rfl (fun ls hl => ?_)
    refine lv_iconst (v := (-1)) hx hb d_Ne_cutIntoPieces_79 (by decide) ?_
    refine lv_istore (lv' := [(8, .int (-1)), (7, .int x12), (0, .ref a_0), (2, .int p2), (3, .ref a_3), (4, .int r1), (5, .int r4), (6, .int r7)]) hx hb d_Ne_cutIntoPieces_80 hl (by decide) rfl (fun ls hl => ?_)
    refine lv_iconst (v := 0) hx hb d_Ne_cutIntoPieces_82 (by decide) ?_
    refine lv_istore (lv' := [(9, .int 0), (8, .int (-1)), (7, .int x12), (0, .ref a_0), (2, .int p2), (3, .ref a_3), (4, .int r1), (5, .int r4), (6, .int r7)]) hx hb d_Ne_cutIntoPieces_83 hl (by decide) rfl (fun ls hl => ?_)
    have L85_34 : ∀ (n : Nat) (x20 : Int32) (x21 : Int32) (x22 : Int32) (f23 : Nat → Int32) (f24 : Nat → Int32) (f25 : Nat → Int32) (f26 : Nat → Int32) (f27 : Nat → Int32) (x28 : Int32) (f29 : Nat → Int32) (f30 : Nat → Int32) (f31 : Nat → Int32) (f32 : Nat → Int32) (f33 : Nat → Int32), m_Ne_cutIntoPieces_L85 p2 r1 r4 r7 x12 f_0_pointAt f_3_cells n x20 x21 x22 f23 f24 f25 f26 f27 = some (x28, f29, f30, f31, f32, f33) → (∀ (H : Heap) (locs : List Loc) (ls : Array Slot), va_P (dC, dI) vwCl (wl_Ne_cutIntoPieces a_0 a_0_sidesOut a_0_pieceLine a_0_begins a_0_directions a_0_leftSpaces a_0_pointAt a_1 a_1_lowX a_1_lowY a_1_highX a_1_highY a_3 a_3_xs a_3_xs_places a_3_ys a_3_ys_places a_3_cells b_0_pointX b_0_pointY b_0_looseSides b_0_weights b_1_thickness b_1_doors b_1_doorFrom b_1_doorTo cI v_0_points x28 v_0_looseEnds f29 f30 f31 f32 f33 f_0_pointAt v_1_count f_1_lowX f_1_lowY f_1_highX f_1_highY v_3_spaces v_3_xs_count f_3_xs_places v_3_ys_count f_3_ys_places f_3_cells) H → va_D A (wl_Ne_cutIntoPieces a_0 a_0_sidesOut a_0_pieceLine a_0_begins a_0_directions a_0_leftSpaces a_0_pointAt a_1 a_1_lowX a_1_lowY a_1_highX a_1_highY a_3 a_3_xs a_3_xs_places a_3_ys a_3_ys_places a_3_cells b_0_pointX b_0_pointY b_0_looseSides b_0_weights b_1_thickness b_1_doors b_1_doorFrom b_1_doorTo cI v_0_points x28 v_0_looseEnds f29 f30 f31 f32 f33 f_0_pointAt v_1_count f_1_lowX f_1_lowY f_1_highX f_1_highY v_3_spaces v_3_xs_count f_3_xs_places v_3_ys_count f_3_ys_places f_3_cells) → va_S A s.heap H locs → lv_has ls 15 [] → W p l e rm_Ne_cutIntoPieces s m args below meth c H locs 0 0 Q (F0 m 325 ls [])) → ∀ (H : Heap) (locs : List Loc) (ls : Array Slot), va_P (dC, dI) vwCl (wl_Ne_cutIntoPieces a_0 a_0_sidesOut a_0_pieceLine a_0_begins a_0_directions a_0_leftSpaces a_0_pointAt a_1 a_1_lowX a_1_lowY a_1_highX a_1_highY a_3 a_3_xs a_3_xs_places a_3_ys a_3_ys_places a_3_cells b_0_pointX b_0_pointY b_0_looseSides b_0_weights b_1_thickness b_1_doors b_1_doorFrom b_1_doorTo cI v_0_points x22 v_0_looseEnds f23 f24 f25 f26 f27 f_0_pointAt v_1_count f_1_lowX f_1_lowY f_1_highX f_1_highY v_3_spaces v_3_xs_count f_3_xs_places v_3_ys_count f_3_ys_places f_3_cells) H → va_D A (wl_Ne_cutIntoPieces a_0 a_0_sidesOut a_0_pieceLine a_0_begins a_0_directions a_0_leftSpaces a_0_pointAt a_1 a_1_lowX a_1_lowY a_1_highX a_1_highY a_3 a_3_xs a_3_xs_places a_3_ys a_3_ys_places a_3_cells b_0_pointX b_0_pointY b_0_looseSides b_0_weights b_1_thickness b_1_doors b_1_doorFrom b_1_doorTo cI v_0_points x22 v_0_looseEnds f23 f24 f25 f26 f27 f_0_pointAt v_1_count f_1_lowX f_1_lowY f_1_highX f_1_highY v_3_spaces v_3_xs_count f_3_xs_places v_3_ys_count f_3_ys_places f_3_cells) → va_S A s.heap H locs → lv_has ls 15 [(0, .ref a_0), (2, .int p2), (3, .ref a_3), (4, .int r1), (5, .int r4), (6, .int r7), (7, .int x12), (8, .int x20), (9, .int x21)] → W p l e rm_Ne_cutIntoPieces s m args below meth c H locs 0 0 Q (F0 m 85 ls []) := by
      intro n
      induction n with
      | zero => intro x20 x21 x22 f23 f24 f25 f26 f27 x28 f29 f30 f31 f32 f33 hm; simp [m_Ne_cutIntoPieces_L85] at hm
      | succ n ih =>
        intro x20 x21 x22 f23 f24 f25 f26 f27 x28 f29 f30 f31 f32 f33 hm KE H locs ls hP hD hS hl
        rw [m_Ne_cutIntoPieces_L85] at hm
        refine lv_iload hx hb d_Ne_cutIntoPieces_85 (lv_at hl 8 rfl) ?_
        refine lv_iload hx hb d_Ne_cutIntoPieces_87 (lv_at hl 6 rfl) ?_
        refine lv_icmp_gt (tgt := 325) hx hb d_Ne_cutIntoPieces_89 (by decide) (fun c35 => ?_) (fun c35 => ?_)
        · replace hm := if_t hm c35
          cases hm
          exact KE H locs ls hP hD hS (lv_sub hl [] rfl)
        · replace hm := if_f hm c35
          refine lv_iload hx hb d_Ne_cutIntoPieces_92 (lv_at hl 3 rfl) ?_
          obtain ⟨x39, hb37, hm⟩ := bd1_e hm
          have K36 : ∀ (H : Heap) (locs : List Loc) (ls : Array Slot), va_P (dC, dI) vwCl (wl_Ne_cutIntoPieces a_0 a_0_sidesOut a_0_pieceLine a_0_begins a_0_directions a_0_leftSpaces a_0_pointAt a_1 a_1_lowX a_1_lowY a_1_highX a_1_highY a_3 a_3_xs a_3_xs_places a_3_ys a_3_ys_places a_3_cells b_0_pointX b_0_pointY b_0_looseSides b_0_weights b_1_thickness b_1_doors b_1_doorFrom b_1_doorTo cI v_0_points x22 v_0_looseEnds f23 f24 f25 f26 f27 f_0_pointAt v_1_count f_1_lowX f_1_lowY f_1_highX f_1_highY v_3_spaces v_3_xs_count f_3_xs_places v_3_ys_count f_3_ys_places f_3_cells) H → va_D A (wl_Ne_cutIntoPieces a_0 a_0_sidesOut a_0_pieceLine a_0_begins a_0_directions a_0_leftSpaces a_0_pointAt a_1 a_1_lowX a_1_lowY a_1_highX a_1_highY a_3 a_3_xs a_3_xs_places a_3_ys a_3_ys_places a_3_cells b_0_pointX b_0_pointY b_0_looseSides b_0_weights b_1_thickness b_1_doors b_1_doorFrom b_1_doorTo cI v_0_points x22 v_0_looseEnds f23 f24 f25 f26 f27 f_0_pointAt v_1_count f_1_lowX f_1_lowY f_1_highX f_1_highY v_3_spaces v_3_xs_count f_3_xs_places v_3_ys_count f_3_ys_places f_3_cells) → va_S A s.heap H locs → lv_has ls 15 [(0, .ref a_0), (2, .int p2), (3, .ref a_3), (4, .int r1), (5, .int r4), (6, .int r7), (7, .int x12), (8, .int x20), (9, .int x21)] → W p l e rm_Ne_cutIntoPieces s m args below meth c H locs 0 0 Q (F0 m 107 ls [.int x39]) := by
            intro H locs ls hP hD hS hl
            refine lv_istore (lv' := [(10, .int x39), (0, .ref a_0), (2, .int p2), (3, .ref a_3), (4, .int r1), (5, .int r4), (6, .int r7), (7, .int x12), (8, .int x20), (9, .int x21)]) hx hb d_Ne_cutIntoPieces_107 hl (by decide) rfl (fun ls hl => ?_)
            refine lv_iload hx hb d_Ne_cutIntoPieces_109 (lv_at hl 4 rfl) ?_
            obtain ⟨x44, hb42, hm⟩ := bd1_e hm
            have K41 : ∀ (H : Heap) (locs : List Loc) (ls : Array Slot), va_P (dC, dI) vwCl (wl_Ne_cutIntoPieces a_0 a_0_sidesOut a_0_pieceLine a_0_begins a_0_directions a_0_leftSpaces a_0_pointAt a_1 a_1_lowX a_1_lowY a_1_highX a_1_highY a_3 a_3_xs a_3_xs_places a_3_ys a_3_ys_places a_3_cells b_0_pointX b_0_pointY b_0_looseSides b_0_weights b_1_thickness b_1_doors b_1_doorFrom b_1_doorTo cI v_0_points x22 v_0_looseEnds f23 f24 f25 f26 f27 f_0_pointAt v_1_count f_1_lowX f_1_lowY f_1_highX f_1_highY v_3_spaces v_3_xs_count f_3_xs_places v_3_ys_count f_3_ys_places f_3_cells) H → va_D A (wl_Ne_cutIntoPieces a_0 a_0_sidesOut a_0_pieceLine a_0_begins a_0_directions a_0_leftSpaces a_0_pointAt a_1 a_1_lowX a_1_lowY a_1_highX a_1_highY a_3 a_3_xs a_3_xs_places a_3_ys a_3_ys_places a_3_cells b_0_pointX b_0_pointY b_0_looseSides b_0_weights b_1_thickness b_1_doors b_1_doorFrom b_1_doorTo cI v_0_points x22 v_0_looseEnds f23 f24 f25 f26 f27 f_0_pointAt v_1_count f_1_lowX f_1_lowY f_1_highX f_1_highY v_3_spaces v_3_xs_count f_3_xs_places v_3_ys_count f_3_ys_places f_3_cells) → va_S A s.heap H locs → lv_has ls 15 [(0, .ref a_0), (2, .int p2), (3, .ref a_3), (4, .int r1), (5, .int r4), (6, .int r7), (7, .int x12), (8, .int x20), (9, .int x21), (10, .int x39)] → W p l e rm_Ne_cutIntoPieces s m args below meth c H locs 0 0 Q (F0 m 124 ls [.int x44]) := by
              intro H locs ls hP hD hS hl
              refine lv_istore (lv' := [(11, .int x44), (0, .ref a_0), (2, .int p2), (3, .ref a_3), (4, .int r1), (5, .int r4), (6, .int r7), (7, .int x12), (8, .int x20), (9, .int x21), (10, .int x39)]) hx hb d_Ne_cutIntoPieces_124 hl (by decide) rfl (fun ls hl => ?_)
              refine lv_aload_n hx hb d_Ne_cutIntoPieces_126 rfl (lv_at hl 1 rfl) ?_
              refine va_get (D := (dC, dI)) (ci := 3) (v := .ref a_0_pointAt) (C := "SpaceCycles$Net") (T := F_Ne) (N := 13) hx hb hts (in_F i_Ne) hown hK hP 0 rfl rfl 12 (by decide) (hts _ (in_c k_160)) (fun _ h9 => h9) rfl d_Ne_cutIntoPieces_127 ?_
              refine lv_iload hx hb d_Ne_cutIntoPieces_130 (lv_at hl 10 rfl) ?_
              refine lv_iload hx hb d_Ne_cutIntoPieces_132 (lv_at hl 0 rfl) ?_
              obtain ⟨r46, hb47, hm⟩ := bd1_e hm
              have hPc := hP.sub (ws' := (wl_Ne_node)) [] rfl
              have hDc := hD.sub (ws' := (wl_Ne_node)) [] (by decide) rfl
              refine cl_i (wc' := (wl_Ne_node)) (va_runS (As := [.int x39, .int x44]) (rest := [.ref a_0_pointAt]) ⟨hx, hb, hml, hown, hts⟩ (c_Ne_node l dC dI (cI := cI) (cZ := cZ) (cJ := cJ) H.size x39 x44 r46 hb47) (va_cwS 2 hts (gl_S k_146 k_144 k_145 k_143) rfl rfl rfl (by decide +kernel) ⟨Nat.le_of_ble_eq_true rfl, Nat.le_of_ble_eq_true rfl⟩) ⟨PP_blind, fun U hU hW => PP_at hK hN hPc hDc hU hW⟩ rfl rfl hl.1 rfl (lv_room (Nat.le_of_ble_eq_true rfl)) d_Ne_cutIntoPieces_134 ⟨Nat.zero_le _, Nat.zero_le _⟩) hP hD hS hA [] [0, 1, 2, 3, 4, 5, 6, 7, 8, 9, 10, 11, 12, 13, 14, 15, 16, 17] rfl rfl (by decide) (by decide) (fun H locs hP hD hS => ?_)
              have hP : va_P (dC, dI) vwCl (wl_Ne_cutIntoPieces a_0 a_0_sidesOut a_0_pieceLine a_0_begins a_0_directions a_0_leftSpaces a_0_pointAt a_1 a_1_lowX a_1_lowY a_1_highX a_1_highY a_3 a_3_xs a_3_xs_places a_3_ys a_3_ys_places a_3_cells b_0_pointX b_0_pointY b_0_looseSides b_0_weights b_1_thickness b_1_doors b_1_doorFrom b_1_doorTo cI v_0_points x22 v_0_looseEnds f23 f24 f25 f26 f27 f_0_pointAt v_1_count f_1_lowX f_1_lowY f_1_highX f_1_highY v_3_spaces v_3_xs_count f_3_xs_places v_3_ys_count f_3_ys_places f_3_cells) H := hP.sub [0, 1, 2, 3, 4, 5, 6, 7, 8, 9, 10, 11, 12, 13, 14, 15, 16, 17] rfl
              have hD : va_D A (wl_Ne_cutIntoPieces a_0 a_0_sidesOut a_0_pieceLine a_0_begins a_0_directions a_0_leftSpaces a_0_pointAt a_1 a_1_lowX a_1_lowY a_1_highX a_1_highY a_3 a_3_xs a_3_xs_places a_3_ys a_3_ys_places a_3_cells b_0_pointX b_0_pointY b_0_looseSides b_0_weights b_1_thickness b_1_doors b_1_doorFrom b_1_doorTo cI v_0_points x22 v_0_looseEnds f23 f24 f25 f26 f27 f_0_pointAt v_1_count f_1_lowX f_1_lowY f_1_highX f_1_highY v_3_spaces v_3_xs_count f_3_xs_places v_3_ys_count f_3_ys_places f_3_cells) := hD.sub [0, 1, 2, 3, 4, 5, 6, 7, 8, 9, 10, 11, 12, 13, 14, 15, 16, 17] (by decide) rfl
              obtain ⟨hi48, hm⟩ := gI_e hm
              refine va_iald hx hb hK hP 6 0 rfl rfl hi48 d_Ne_cutIntoPieces_137 ?_
              refine lv_topi (fun x49 ex49 => ?_)
              replace hm := lt_el hm ex49
              refine lv_istore (lv' := [(12, .int x49), (11, .int x44), (0, .ref a_0), (2, .int p2), (3, .ref a_3), (4, .int r1), (5, .int r4), (6, .int r7), (7, .int x12), (8, .int x20), (9, .int x21), (10, .int x39)]) hx hb d_Ne_cutIntoPieces_138 hl (by decide) rfl (fun ls hl => ?_)
              refine lv_iload hx hb d_Ne_cutIntoPieces_140 (lv_at hl 0 rfl) ?_
              refine lv_iconst (v := (-1)) hx hb d_Ne_cutIntoPieces_142 (by decide) ?_
              obtain ⟨x53, f54, f55, f56, f57, f58, hb51, hm⟩ := bd6_e hm
              have K50 : ∀ (H : Heap) (locs : List Loc) (ls : Array Slot), va_P (dC, dI) vwCl (wl_Ne_cutIntoPieces a_0 a_0_sidesOut a_0_pieceLine a_0_begins a_0_directions a_0_leftSpaces a_0_pointAt a_1 a_1_lowX a_1_lowY a_1_highX a_1_highY a_3 a_3_xs a_3_xs_places a_3_ys a_3_ys_places a_3_cells b_0_pointX b_0_pointY b_0_looseSides b_0_weights b_1_thickness b_1_doors b_1_doorFrom b_1_doorTo cI v_0_points x53 v_0_looseEnds f54 f55 f56 f57 f58 f_0_pointAt v_1_count f_1_lowX f_1_lowY f_1_highX f_1_highY v_3_spaces v_3_xs_count f_3_xs_places v_3_ys_count f_3_ys_places f_3_cells) H → va_D A (wl_Ne_cutIntoPieces a_0 a_0_sidesOut a_0_pieceLine a_0_begins a_0_directions a_0_leftSpaces a_0_pointAt a_1 a_1_lowX a_1_lowY a_1_highX a_1_highY a_3 a_3_xs a_3_xs_places a_3_ys a_3_ys_places a_3_cells b_0_pointX b_0_pointY b_0_looseSides b_0_weights b_1_thickness b_1_doors b_1_doorFrom b_1_doorTo cI v_0_points x53 v_0_looseEnds f54 f55 f56 f57 f58 f_0_pointAt v_1_count f_1_lowX f_1_lowY f_1_highX f_1_highY v_3_spaces v_3_xs_count f_3_xs_places v_3_ys_count f_3_ys_places f_3_cells) → va_S A s.heap H locs → lv_has ls 15 [(0, .ref a_0), (2, .int p2), (3, .ref a_3), (4, .int r1), (5, .int r4), (6, .int r7), (7, .int x12), (8, .int x20), (9, .int x21), (12, .int x49)] → W p l e rm_Ne_cutIntoPieces s m args below meth c H locs 0 0 Q (F0 m 304 ls []) := by
                intro H locs ls hP hD hS hl
                refine lv_iload hx hb d_Ne_cutIntoPieces_304 (lv_at hl 9 rfl) ?_
                refine lv_iconst (v := (-1)) hx hb d_Ne_cutIntoPieces_306 (by decide) ?_
                obtain ⟨x110, hb108, hm⟩ := bd1_e hm
                have K107 : ∀ (H : Heap) (locs : List Loc) (ls : Array Slot), va_P (dC, dI) vwCl (wl_Ne_cutIntoPieces a_0 a_0_sidesOut a_0_pieceLine a_0_begins a_0_directions a_0_leftSpaces a_0_pointAt a_1 a_1_lowX a_1_lowY a_1_highX a_1_highY a_3 a_3_xs a_3_xs_places a_3_ys a_3_ys_places a_3_cells b_0_pointX b_0_pointY b_0_looseSides b_0_weights b_1_thickness b_1_doors b_1_doorFrom b_1_doorTo cI v_0_points x53 v_0_looseEnds f54 f55 f56 f57 f58 f_0_pointAt v_1_count f_1_lowX f_1_lowY f_1_highX f_1_highY v_3_spaces v_3_xs_count f_3_xs_places v_3_ys_count f_3_ys_places f_3_cells) H → va_D A (wl_Ne_cutIntoPieces a_0 a_0_sidesOut a_0_pieceLine a_0_begins a_0_directions a_0_leftSpaces a_0_pointAt a_1 a_1_lowX a_1_lowY a_1_highX a_1_highY a_3 a_3_xs a_3_xs_places a_3_ys a_3_ys_places a_3_cells b_0_pointX b_0_pointY b_0_looseSides b_0_weights b_1_thickness b_1_doors b_1_doorFrom b_1_doorTo cI v_0_points x53 v_0_looseEnds f54 f55 f56 f57 f58 f_0_pointAt v_1_count f_1_lowX f_1_lowY f_1_highX f_1_highY v_3_spaces v_3_xs_count f_3_xs_places v_3_ys_count f_3_ys_places f_3_cells) → va_S A s.heap H locs → lv_has ls 15 [(0, .ref a_0), (2, .int p2), (3, .ref a_3), (4, .int r1), (5, .int r4), (6, .int r7), (7, .int x12), (9, .int x21)] → W p l e rm_Ne_cutIntoPieces s m args below meth c H locs 0 0 Q (F0 m 317 ls [.int x110]) := by
                  intro H locs ls hP hD hS hl
                  refine lv_istore (lv' := [(8, .int x110), (0, .ref a_0), (2, .int p2), (3, .ref a_3), (4, .int r1), (5, .int r4), (6, .int r7), (7, .int x12), (9, .int x21)]) hx hb d_Ne_cutIntoPieces_317 hl (by decide) rfl (fun ls hl => ?_)
                  obtain ⟨x112, ex112⟩ : ∃ y : Int32, y = x21 + 1 := ⟨_, rfl⟩
                  replace hm := lt_el hm ex112
                  refine lv_iinc (v := x112) (lv' := [(9, .int x112), (8, .int x110), (0, .ref a_0), (2, .int p2), (3, .ref a_3), (4, .int r1), (5, .int r4), (6, .int r7), (7, .int x12)]) hx hb d_Ne_cutIntoPieces_319 hl (k := 8) rfl (by rw [ex112]; rfl) (by decide) rfl (fun ls hl => ?_)
                  refine lv_goto (tgt := 85) hx hb d_Ne_cutIntoPieces_322 (by decide) ?_
                  exact ih _ _ _ _ _ _ _ _ _ _ _ _ _ _ hm KE H locs ls hP hD hS (lv_sub hl [2, 3, 4, 5, 6, 7, 8, 1, 0] rfl)
                replace hm := hb108
                refine lv_icmp_eq (tgt := 315) hx hb d_Ne_cutIntoPieces_307 (by decide) (fun c111 => ?_) (fun c111 => ?_)
                · replace hm := if_t hm c111
                  refine lv_iload hx hb d_Ne_cutIntoPieces_315 (lv_at hl 7 rfl) ?_
                  cases hm
                  exact K107 H locs ls hP hD hS (lv_sub hl [0, 1, 2, 3, 4, 5, 6, 8] rfl)
                · replace hm := if_f hm c111
                  refine lv_iload hx hb d_Ne_cutIntoPieces_310 (lv_at hl 9 rfl) ?_
                  refine lv_goto (tgt := 317) hx hb d_Ne_cutIntoPieces_312 (by decide) ?_
                  cases hm
                  exact K107 H locs ls hP hD hS (lv_sub hl [0, 1, 2, 3, 4, 5, 6, 8] rfl)
              replace hm := hb51
              refine lv_icmp_eq (tgt := 304) hx hb d_Ne_cutIntoPieces_143 (by decide) (fun c59 => ?_) (fun c59 => ?_)
              · replace hm := if_t hm c59
                cases hm
                exact K50 H locs ls hP hD hS (lv_sub hl [2, 3, 4, 5, 6, 7, 8, 9, 10, 0] rfl)
              · replace hm := if_f hm c59
                refine lv_iload hx hb d_Ne_cutIntoPieces_146 (lv_at hl 9 rfl) ?_
                refine lv_iconst (v := (-1)) hx hb d_Ne_cutIntoPieces_148 (by decide) ?_
                refine lv_icmp_eq (tgt := 304) hx hb d_Ne_cutIntoPieces_149 (by decide) (fun c60 => ?_) (fun c60 => ?_)
                · replace hm := if_t hm c60
                  cases hm
                  exact K50 H locs ls hP hD hS (lv_sub hl [2, 3, 4, 5, 6, 7, 8, 9, 10, 0] rfl)
                · replace hm := if_f hm c60
                  refine lv_aload_n hx hb d_Ne_cutIntoPieces_152 rfl (lv_at hl 2 rfl) ?_
                  refine va_get (D := (dC, dI)) (ci := 3) (v := .int x22) (C := "SpaceCycles$Net") (T := F_Ne) (N := 13) hx hb hts (in_F i_Ne) hown hK hP 0 rfl rfl 4 (by decide) (hts _ (in_c k_174)) (fun _ h9 => h9) rfl d_Ne_cutIntoPieces_153 ?_
                  refine lv_sipush (v := 220) hx hb d_Ne_cutIntoPieces_156 (by decide) ?_
                  refine lv_icmp_ge (tgt := 304) hx hb d_Ne_cutIntoPieces_159 (by decide) (fun c61 => ?_) (fun c61 => ?_)
                  · replace hm := if_t hm c61
                    cases hm
                    exact K50 H locs ls hP hD hS (lv_sub hl [2, 3, 4, 5, 6, 7, 8, 9, 10, 0] rfl)
                  · replace hm := if_f hm c61
                    refine lv_iload hx hb d_Ne_cutIntoPieces_162 (lv_at hl 5 rfl) ?_
                    obtain ⟨x65, hb63, hm⟩ := bd1_e hm
                    have K62 : ∀ (H : Heap) (locs : List Loc) (ls : Array Slot), va_P (dC, dI) vwCl (wl_Ne_cutIntoPieces a_0 a_0_sidesOut a_0_pieceLine a_0_begins a_0_directions a_0_leftSpaces a_0_pointAt a_1 a_1_lowX a_1_lowY a_1_highX a_1_highY a_3 a_3_xs a_3_xs_places a_3_ys a_3_ys_places a_3_cells b_0_pointX b_0_pointY b_0_looseSides b_0_weights b_1_thickness b_1_doors b_1_doorFrom b_1_doorTo cI v_0_points x22 v_0_looseEnds f23 f24 f25 f26 f27 f_0_pointAt v_1_count f_1_lowX f_1_lowY f_1_highX f_1_highY v_3_spaces v_3_xs_count f_3_xs_places v_3_ys_count f_3_ys_places f_3_cells) H → va_D A (wl_Ne_cutIntoPieces a_0 a_0_sidesOut a_0_pieceLine a_0_begins a_0_directions a_0_leftSpaces a_0_pointAt a_1 a_1_lowX a_1_lowY a_1_highX a_1_highY a_3 a_3_xs a_3_xs_places a_3_ys a_3_ys_places a_3_cells b_0_pointX b_0_pointY b_0_looseSides b_0_weights b_1_thickness b_1_doors b_1_doorFrom b_1_doorTo cI v_0_points x22 v_0_looseEnds f23 f24 f25 f26 f27 f_0_pointAt v_1_count f_1_lowX f_1_lowY f_1_highX f_1_highY v_3_spaces v_3_xs_count f_3_xs_places v_3_ys_count f_3_ys_places f_3_cells) → va_S A s.heap H locs → lv_has ls 15 [(0, .ref a_0), (2, .int p2), (3, .ref a_3), (4, .int r1), (5, .int r4), (6, .int r7), (7, .int x12), (8, .int x20), (9, .int x21), (10, .int x39), (11, .int x44), (12, .int x49)] → W p l e rm_Ne_cutIntoPieces s m args below meth c H locs 0 0 Q (F0 m 196 ls [.int x65]) := by
                      intro H locs ls hP hD hS hl
                      refine lv_istore (lv' := [(13, .int x65), (0, .ref a_0), (2, .int p2), (3, .ref a_3), (4, .int r1), (5, .int r4), (6, .int r7), (7, .int x12), (8, .int x20), (9, .int x21), (10, .int x39), (11, .int x44), (12, .int x49)]) hx hb d_Ne_cutIntoPieces_196 hl (by decide) rfl (fun ls hl => ?_)
                      refine lv_iload hx hb d_Ne_cutIntoPieces_198 (lv_at hl 4 rfl) ?_
                      obtain ⟨x76, hb74, hm⟩ := bd1_e hm
                      have K73 : ∀ (H : Heap) (locs : List Loc) (ls : Array Slot), va_P (dC, dI) vwCl (wl_Ne_cutIntoPieces a_0 a_0_sidesOut a_0_pieceLine a_0_begins a_0_directions a_0_leftSpaces a_0_pointAt a_1 a_1_lowX a_1_lowY a_1_highX a_1_highY a_3 a_3_xs a_3_xs_places a_3_ys a_3_ys_places a_3_cells b_0_pointX b_0_pointY b_0_looseSides b_0_weights b_1_thickness b_1_doors b_1_doorFrom b_1_doorTo cI v_0_points x22 v_0_looseEnds f23 f24 f25 f26 f27 f_0_pointAt v_1_count f_1_lowX f_1_lowY f_1_highX f_1_highY v_3_spaces v_3_xs_count f_3_xs_places v_3_ys_count f_3_ys_places f_3_cells) H → va_D A (wl_Ne_cutIntoPieces a_0 a_0_sidesOut a_0_pieceLine a_0_begins a_0_directions a_0_leftSpaces a_0_pointAt a_1 a_1_lowX a_1_lowY a_1_highX a_1_highY a_3 a_3_xs a_3_xs_places a_3_ys a_3_ys_places a_3_cells b_0_pointX b_0_pointY b_0_looseSides b_0_weights b_1_thickness b_1_doors b_1_doorFrom b_1_doorTo cI v_0_points x22 v_0_looseEnds f23 f24 f25 f26 f27 f_0_pointAt v_1_count f_1_lowX f_1_lowY f_1_highX f_1_highY v_3_spaces v_3_xs_count f_3_xs_places v_3_ys_count f_3_ys_places f_3_cells) → va_S A s.heap H locs → lv_has ls 15 [(0, .ref a_0), (2, .int p2), (3, .ref a_3), (4, .int r1), (5, .int r4), (6, .int r7), (7, .int x12), (8, .int x20), (9, .int x21), (12, .int x49), (13, .int x65)] → W p l e rm_Ne_cutIntoPieces s m args below meth c H locs 0 0 Q (F0 m 232 ls [.int x76]) := by
                        intro H locs ls hP hD hS hl
                        refine lv_istore (lv' := [(14, .int x76), (0, .ref a_0), (2, .int p2), (3, .ref a_3), (4, .int r1), (5, .int r4), (6, .int r7), (7, .int x12), (8, .int x20), (9, .int x21), (12, .int x49), (13, .int x65)]) hx hb d_Ne_cutIntoPieces_232 hl (by decide) rfl (fun ls hl => ?_)
                        refine lv_aload_n hx hb d_Ne_cutIntoPieces_234 rfl (lv_at hl 1 rfl) ?_
                        refine va_get (D := (dC, dI)) (ci := 3) (v := .ref a_0_pieceLine) (C := "SpaceCycles$Net") (T := F_Ne) (N := 13) hx hb hts (in_F i_Ne) hown hK hP 0 rfl rfl 7 (by decide) (hts _ (in_c k_177)) (fun _ h9 => h9) rfl d_Ne_cutIntoPieces_235 ?_
                        refine lv_aload_n hx hb d_Ne_cutIntoPieces_238 rfl (lv_at hl 1 rfl) ?_
                        refine va_get (D := (dC, dI)) (ci := 3) (v := .int x22) (C := "SpaceCycles$Net") (T := F_Ne) (N := 13) hx hb hts (in_F i_Ne) hown hK hP 0 rfl rfl 4 (by decide) (hts _ (in_c k_174)) (fun _ h9 => h9) rfl d_Ne_cutIntoPieces_239 ?_
                        refine lv_iload_n hx hb d_Ne_cutIntoPieces_242 rfl (lv_at hl 2 rfl) ?_
                        obtain ⟨hi84, hm⟩ := gI_e hm
                        obtain ⟨f85, ef85⟩ : ∃ y : Nat → Int32, y = upd f24 x22.toNatClampNeg p2 := ⟨_, rfl⟩
                        replace hm := lt_el hm ef85
                        refine va_iast hx hb hK hP hD hS 2 0 rfl rfl hi84 d_Ne_cutIntoPieces_243 (fun H locs hP hD hS => ?_)
                        rw [← ef85] at hP hD
                        have hP : va_P (dC, dI) vwCl (wl_Ne_cutIntoPieces a_0 a_0_sidesOut a_0_pieceLine a_0_begins a_0_directions a_0_leftSpaces a_0_pointAt a_1 a_1_lowX a_1_lowY a_1_highX a_1_highY a_3 a_3_xs a_3_xs_places a_3_ys a_3_ys_places a_3_cells b_0_pointX b_0_pointY b_0_looseSides b_0_weights b_1_thickness b_1_doors b_1_doorFrom b_1_doorTo cI v_0_points x22 v_0_looseEnds f23 f85 f25 f26 f27 f_0_pointAt v_1_count f_1_lowX f_1_lowY f_1_highX f_1_highY v_3_spaces v_3_xs_count f_3_xs_places v_3_ys_count f_3_ys_places f_3_cells) H := hP
                        have hD : va_D A (wl_Ne_cutIntoPieces a_0 a_0_sidesOut a_0_pieceLine a_0_begins a_0_directions a_0_leftSpaces a_0_pointAt a_1 a_1_lowX a_1_lowY a_1_highX a_1_highY a_3 a_3_xs a_3_xs_places a_3_ys a_3_ys_places a_3_cells b_0_pointX b_0_pointY b_0_looseSides b_0_weights b_1_thickness b_1_doors b_1_doorFrom b_1_doorTo cI v_0_points x22 v_0_looseEnds f23 f85 f25 f26 f27 f_0_pointAt v_1_count f_1_lowX f_1_lowY f_1_highX f_1_highY v_3_spaces v_3_xs_count f_3_xs_places v_3_ys_count f_3_ys_places f_3_cells) := hD
                        refine lv_aload_n hx hb d_Ne_cutIntoPieces_244 rfl (lv_at hl 1 rfl) ?_
                        refine lv_iconst (v := 2) hx hb d_Ne_cutIntoPieces_245 (by decide) ?_
                        refine lv_aload_n hx hb d_Ne_cutIntoPieces_246 rfl (lv_at hl 1 rfl) ?_
                        refine va_get (D := (dC, dI)) (ci := 3) (v := .int x22) (C := "SpaceCycles$Net") (T := F_Ne) (N := 13) hx hb hts (in_F i_Ne) hown hK hP 0 rfl rfl 4 (by decide) (hts _ (in_c k_174)) (fun _ h9 => h9) rfl d_Ne_cutIntoPieces_247 ?_
                        refine lv_imul hx hb d_Ne_cutIntoPieces_250 ?_
                        refine lv_iload hx hb d_Ne_cutIntoPieces_251 (lv_at hl 8 rfl) ?_
                        refine lv_iload hx hb d_Ne_cutIntoPieces_253 (lv_at hl 4 rfl) ?_
                        obtain ⟨x89, hb87, hm⟩ := bd1_e hm
                        have K86 : ∀ (H : Heap) (locs : List Loc) (ls : Array Slot), va_P (dC, dI) vwCl (wl_Ne_cutIntoPieces a_0 a_0_sidesOut a_0_pieceLine a_0_begins a_0_directions a_0_leftSpaces a_0_pointAt a_1 a_1_lowX a_1_lowY a_1_highX a_1_highY a_3 a_3_xs a_3_xs_places a_3_ys a_3_ys_places a_3_cells b_0_pointX b_0_pointY b_0_looseSides b_0_weights b_1_thickness b_1_doors b_1_doorFrom b_1_doorTo cI v_0_points x22 v_0_looseEnds f23 f85 f25 f26 f27 f_0_pointAt v_1_count f_1_lowX f_1_lowY f_1_highX f_1_highY v_3_spaces v_3_xs_count f_3_xs_places v_3_ys_count f_3_ys_places f_3_cells) H → va_D A (wl_Ne_cutIntoPieces a_0 a_0_sidesOut a_0_pieceLine a_0_begins a_0_directions a_0_leftSpaces a_0_pointAt a_1 a_1_lowX a_1_lowY a_1_highX a_1_highY a_3 a_3_xs a_3_xs_places a_3_ys a_3_ys_places a_3_cells b_0_pointX b_0_pointY b_0_looseSides b_0_weights b_1_thickness b_1_doors b_1_doorFrom b_1_doorTo cI v_0_points x22 v_0_looseEnds f23 f85 f25 f26 f27 f_0_pointAt v_1_count f_1_lowX f_1_lowY f_1_highX f_1_highY v_3_spaces v_3_xs_count f_3_xs_places v_3_ys_count f_3_ys_places f_3_cells) → va_S A s.heap H locs → lv_has ls 15 [(0, .ref a_0), (2, .int p2), (3, .ref a_3), (4, .int r1), (5, .int r4), (6, .int r7), (7, .int x12), (8, .int x20), (9, .int x21), (12, .int x49), (13, .int x65), (14, .int x76)] → W p l e rm_Ne_cutIntoPieces s m args below meth c H locs 0 0 Q (F0 m 263 ls [.int x89, .int x20, .int (2 * x22), .ref a_0]) := by
                          intro H locs ls hP hD hS hl
                          refine lv_iload hx hb d_Ne_cutIntoPieces_263 (lv_at hl 10 rfl) ?_
                          obtain ⟨f91, f92, f93, f94, hb95, hm⟩ := bd4_e hm
                          have hPc := hP.sub (ws' := (wl_Ne_addSide a_0 a_0_sidesOut a_0_begins a_0_directions a_0_leftSpaces b_0_pointX b_0_pointY b_0_looseSides a_0_pieceLine b_0_weights a_0_pointAt cI v_0_points x22 v_0_looseEnds f23 f25 f26 f27)) [0, 1, 3, 4, 5] rfl
                          have hDc := hD.sub (ws' := (wl_Ne_addSide a_0 a_0_sidesOut a_0_begins a_0_directions a_0_leftSpaces b_0_pointX b_0_pointY b_0_looseSides a_0_pieceLine b_0_weights a_0_pointAt cI v_0_points x22 v_0_looseEnds f23 f25 f26 f27)) [0, 1, 3, 4, 5] (by decide) rfl
                          refine cl_v (wc' := (wl_Ne_addSide a_0 a_0_sidesOut a_0_begins a_0_directions a_0_leftSpaces b_0_pointX b_0_pointY b_0_looseSides a_0_pieceLine b_0_weights a_0_pointAt cI v_0_points x22 v_0_looseEnds f91 f92 f93 f94)) (va_runV (As := [.int (2 * x22), .int x20, .int x89, .int x65]) (rest := []) ⟨hx, hb, hml, hown, hts⟩ (c_Ne_addSide l dC dI (cI := cI) (cZ := cZ) (cJ := cJ) a_0 a_0_sidesOut a_0_begins a_0_directions a_0_leftSpaces b_0_pointX b_0_pointY b_0_looseSides a_0_pieceLine b_0_weights a_0_pointAt H.size v_0_points x22 v_0_looseEnds f23 f25 f26 f27 (2 * x22) x20 x89 x65 f91 f92 f93 f94 hb95) (cwV 4 hts (gl_V k_181 k_180 k_179 k_145 k_178) rfl rfl rfl (by decide +kernel) ⟨Nat.le_of_ble_eq_true rfl, Nat.le_of_ble_eq_true rfl⟩) ⟨PP_blind, va_recv hK hPc (ci := 3) (q0 := 0) rfl rfl, fun U hU hW => PP_at hK hN hPc hDc hU hW⟩ rfl rfl hl.1 rfl (lv_room (Nat.le_of_ble_eq_true rfl)) d_Ne_cutIntoPieces_265 ⟨Nat.zero_le _, Nat.zero_le _⟩) hP hD hS hA [0, 1, 3, 4, 5] [2, 6, 7, 8, 9, 10, 11, 12, 13, 14, 15, 16, 17] rfl rfl (by decide) (by decide) (fun H locs hP hD hS => ?_)
                          have hP : va_P (dC, dI) vwCl (wl_Ne_cutIntoPieces a_0 a_0_sidesOut a_0_pieceLine a_0_begins a_0_directions a_0_leftSpaces a_0_pointAt a_1 a_1_lowX a_1_lowY a_1_highX a_1_highY a_3 a_3_xs a_3_xs_places a_3_ys a_3_ys_places a_3_cells b_0_pointX b_0_pointY b_0_looseSides b_0_weights b_1_thickness b_1_doors b_1_doorFrom b_1_doorTo cI v_0_points x22 v_0_looseEnds f91 f85 f92 f93 f94 f_0_pointAt v_1_count f_1_lowX f_1_lowY f_1_highX f_1_highY v_3_spaces v_3_xs_count f_3_xs_places v_3_ys_count f_3_ys_places f_3_cells) H := hP.sub [13, 14, 0, 15, 16, 17, 1, 2, 3, 4, 5, 6, 7, 8, 9, 10, 11, 12] rfl
                          have hD : va_D A (wl_Ne_cutIntoPieces a_0 a_0_sidesOut a_0_pieceLine a_0_begins a_0_directions a_0_leftSpaces a_0_pointAt a_1 a_1_lowX a_1_lowY a_1_highX a_1_highY a_3 a_3_xs a_3_xs_places a_3_ys a_3_ys_places a_3_cells b_0_pointX b_0_pointY b_0_looseSides b_0_weights b_1_thickness b_1_doors b_1_doorFrom b_1_doorTo cI v_0_points x22 v_0_looseEnds f91 f85 f92 f93 f94 f_0_pointAt v_1_count f_1_lowX f_1_lowY f_1_highX f_1_highY v_3_spaces v_3_xs_count f_3_xs_places v_3_ys_count f_3_ys_places f_3_cells) := hD.sub [13, 14, 0, 15, 16, 17, 1, 2, 3, 4, 5, 6, 7, 8, 9, 10, 11, 12] (by decide) rfl
                          refine lv_aload_n hx hb d_Ne_cutIntoPieces_268 rfl (lv_at hl 0 rfl) ?_
                          refine lv_iconst (v := 2) hx hb d_Ne_cutIntoPieces_269 (by decide) ?_
                          refine lv_aload_n hx hb d_Ne_cutIntoPieces_270 rfl (lv_at hl 0 rfl) ?_
                          refine va_get (D := (dC, dI)) (ci := 3) (v := .int x22) (C := "SpaceCycles$Net") (T := F_Ne) (N := 13) hx hb hts (in_F i_Ne) hown hK hP 0 rfl rfl 4 (by decide) (hts _ (in_c k_174)) (fun _ h9 => h9) rfl d_Ne_cutIntoPieces_271 ?_
                          refine lv_imul hx hb d_Ne_cutIntoPieces_274 ?_
                          refine lv_iconst (v := 1) hx hb d_Ne_cutIntoPieces_275 (by decide) ?_
                          refine lv_iadd hx hb d_Ne_cutIntoPieces_276 ?_
                          refine lv_iload hx hb d_Ne_cutIntoPieces_277 (lv_at hl 9 rfl) ?_
                          refine lv_iload hx hb d_Ne_cutIntoPieces_279 (lv_at hl 3 rfl) ?_
                          obtain ⟨x99, hb97, hm⟩ := bd1_e hm
                          have K96 : ∀ (H : Heap) (locs : List Loc) (ls : Array Slot), va_P (dC, dI) vwCl (wl_Ne_cutIntoPieces a_0 a_0_sidesOut a_0_pieceLine a_0_begins a_0_directions a_0_leftSpaces a_0_pointAt a_1 a_1_lowX a_1_lowY a_1_highX a_1_highY a_3 a_3_xs a_3_xs_places a_3_ys a_3_ys_places a_3_cells b_0_pointX b_0_pointY b_0_looseSides b_0_weights b_1_thickness b_1_doors b_1_doorFrom b_1_doorTo cI v_0_points x22 v_0_looseEnds f91 f85 f92 f93 f94 f_0_pointAt v_1_count f_1_lowX f_1_lowY f_1_highX f_1_highY v_3_spaces v_3_xs_count f_3_xs_places v_3_ys_count f_3_ys_places f_3_cells) H → va_D A (wl_Ne_cutIntoPieces a_0 a_0_sidesOut a_0_pieceLine a_0_begins a_0_directions a_0_leftSpaces a_0_pointAt a_1 a_1_lowX a_1_lowY a_1_highX a_1_highY a_3 a_3_xs a_3_xs_places a_3_ys a_3_ys_places a_3_cells b_0_pointX b_0_pointY b_0_looseSides b_0_weights b_1_thickness b_1_doors b_1_doorFrom b_1_doorTo cI v_0_points x22 v_0_looseEnds f91 f85 f92 f93 f94 f_0_pointAt v_1_count f_1_lowX f_1_lowY f_1_highX f_1_highY v_3_spaces v_3_xs_count f_3_xs_places v_3_ys_count f_3_ys_places f_3_cells) → va_S A s.heap H locs → lv_has ls 15 [(0, .ref a_0), (2, .int p2), (3, .ref a_3), (4, .int r1), (5, .int r4), (6, .int r7), (7, .int x12), (8, .int x20), (9, .int x21), (12, .int x49), (14, .int x76)] → W p l e rm_Ne_cutIntoPieces s m args below meth c H locs 0 0 Q (F0 m 289 ls [.int x99, .int x49, .int ((2 * x22) + 1), .ref a_0]) := by
                            intro H locs ls hP hD hS hl
                            refine lv_iload hx hb d_Ne_cutIntoPieces_289 (lv_at hl 10 rfl) ?_
                            obtain ⟨f101, f102, f103, f104, hb105, hm⟩ := bd4_e hm
                            have hPc := hP.sub (ws' := (wl_Ne_addSide a_0 a_0_sidesOut a_0_begins a_0_directions a_0_leftSpaces b_0_pointX b_0_pointY b_0_looseSides a_0_pieceLine b_0_weights a_0_pointAt cI v_0_points x22 v_0_looseEnds f91 f92 f93 f94)) [0, 1, 3, 4, 5] rfl
                            have hDc := hD.sub (ws' := (wl_Ne_addSide a_0 a_0_sidesOut a_0_begins a_0_directions a_0_leftSpaces b_0_pointX b_0_pointY b_0_looseSides a_0_pieceLine b_0_weights a_0_pointAt cI v_0_points x22 v_0_looseEnds f91 f92 f93 f94)) [0, 1, 3, 4, 5] (by decide) rfl
                            refine cl_v (wc' := (wl_Ne_addSide a_0 a_0_sidesOut a_0_begins a_0_directions a_0_leftSpaces b_0_pointX b_0_pointY b_0_looseSides a_0_pieceLine b_0_weights a_0_pointAt cI v_0_points x22 v_0_looseEnds f101 f102 f103 f104)) (va_runV (As := [.int ((2 * x22) + 1), .int x49, .int x99, .int x76]) (rest := []) ⟨hx, hb, hml, hown, hts⟩ (c_Ne_addSide l dC dI (cI := cI) (cZ := cZ) (cJ := cJ) a_0 a_0_sidesOut a_0_begins a_0_directions a_0_leftSpaces b_0_pointX b_0_pointY b_0_looseSides a_0_pieceLine b_0_weights a_0_pointAt H.size v_0_points x22 v_0_looseEnds f91 f92 f93 f94 ((2 * x22) + 1) x49 x99 x76 f101 f102 f103 f104 hb105) (cwV 4 hts (gl_V k_181 k_180 k_179 k_145 k_178) rfl rfl rfl (by decide +kernel) ⟨Nat.le_of_ble_eq_true rfl, Nat.le_of_ble_eq_true rfl⟩) ⟨PP_blind, va_recv hK hPc (ci := 3) (q0 := 0) rfl rfl, fun U hU hW => PP_at hK hN hPc hDc hU hW⟩ rfl rfl hl.1 rfl (lv_room (Nat.le_of_ble_eq_true rfl)) d_Ne_cutIntoPieces_291 ⟨Nat.zero_le _, Nat.zero_le _⟩) hP hD hS hA [0, 1, 3, 4, 5] [2, 6, 7, 8, 9, 10, 11, 12, 13, 14, 15, 16, 17] rfl rfl (by decide) (by decide) (fun H locs hP hD hS => ?_)
                            have hP : va_P (dC, dI) vwCl (wl_Ne_cutIntoPieces a_0 a_0_sidesOut a_0_pieceLine a_0_begins a_0_directions a_0_leftSpaces a_0_pointAt a_1 a_1_lowX a_1_lowY a_1_highX a_1_highY a_3 a_3_xs a_3_xs_places a_3_ys a_3_ys_places a_3_cells b_0_pointX b_0_pointY b_0_looseSides b_0_weights b_1_thickness b_1_doors b_1_doorFrom b_1_doorTo cI v_0_points x22 v_0_looseEnds f101 f85 f102 f103 f104 f_0_pointAt v_1_count f_1_lowX f_1_lowY f_1_highX f_1_highY v_3_spaces v_3_xs_count f_3_xs_places v_3_ys_count f_3_ys_places f_3_cells) H := hP.sub [13, 14, 0, 15, 16, 17, 1, 2, 3, 4, 5, 6, 7, 8, 9, 10, 11, 12] rfl
                            have hD : va_D A (wl_Ne_cutIntoPieces a_0 a_0_sidesOut a_0_pieceLine a_0_begins a_0_directions a_0_leftSpaces a_0_pointAt a_1 a_1_lowX a_1_lowY a_1_highX a_1_highY a_3 a_3_xs a_3_xs_places a_3_ys a_3_ys_places a_3_cells b_0_pointX b_0_pointY b_0_looseSides b_0_weights b_1_thickness b_1_doors b_1_doorFrom b_1_doorTo cI v_0_points x22 v_0_looseEnds f101 f85 f102 f103 f104 f_0_pointAt v_1_count f_1_lowX f_1_lowY f_1_highX f_1_highY v_3_spaces v_3_xs_count f_3_xs_places v_3_ys_count f_3_ys_places f_3_cells) := hD.sub [13, 14, 0, 15, 16, 17, 1, 2, 3, 4, 5, 6, 7, 8, 9, 10, 11, 12] (by decide) rfl
                            refine lv_aload_n hx hb d_Ne_cutIntoPieces_294 rfl (lv_at hl 0 rfl) ?_
                            refine lv_dup hx hb d_Ne_cutIntoPieces_295 rfl ?_
                            refine va_get (D := (dC, dI)) (ci := 3) (v := .int x22) (C := "SpaceCycles$Net") (T := F_Ne) (N := 13) hx hb hts (in_F i_Ne) hown hK hP 0 rfl rfl 4 (by decide) (hts _ (in_c k_174)) (fun _ h9 => h9) rfl d_Ne_cutIntoPieces_296 ?_
                            refine lv_iconst (v := 1) hx hb d_Ne_cutIntoPieces_299 (by decide) ?_
                            refine lv_iadd hx hb d_Ne_cutIntoPieces_300 ?_
                            refine lv_topi (fun x106 ex106 => ?_)
                            replace hm := lt_el hm ex106
                            refine va_put (D := (dC, dI)) (ci := 3) (v := .int x106) (ty := .int) (C := "SpaceCycles$Net") (T := F_Ne) (N := 13) hx hb hts (in_F i_Ne) t_Ne t_Ne_ok n_Ne hown hK hP hD hS 0 rfl rfl 4 (by decide) (hts _ (in_c k_174)) (fun _ h9 => h9) rfl (by decide +kernel) rfl rfl (Nat.le_of_ble_eq_true rfl) d_Ne_cutIntoPieces_301 (fun H locs hP hD hS => ?_)
                            have hP : va_P (dC, dI) vwCl (wl_Ne_cutIntoPieces a_0 a_0_sidesOut a_0_pieceLine a_0_begins a_0_directions a_0_leftSpaces a_0_pointAt a_1 a_1_lowX a_1_lowY a_1_highX a_1_highY a_3 a_3_xs a_3_xs_places a_3_ys a_3_ys_places a_3_cells b_0_pointX b_0_pointY b_0_looseSides b_0_weights b_1_thickness b_1_doors b_1_doorFrom b_1_doorTo cI v_0_points x106 v_0_looseEnds f101 f85 f102 f103 f104 f_0_pointAt v_1_count f_1_lowX f_1_lowY f_1_highX f_1_highY v_3_spaces v_3_xs_count f_3_xs_places v_3_ys_count f_3_ys_places f_3_cells) H := hP
                            have hD : va_D A (wl_Ne_cutIntoPieces a_0 a_0_sidesOut a_0_pieceLine a_0_begins a_0_directions a_0_leftSpaces a_0_pointAt a_1 a_1_lowX a_1_lowY a_1_highX a_1_highY a_3 a_3_xs a_3_xs_places a_3_ys a_3_ys_places a_3_cells b_0_pointX b_0_pointY b_0_looseSides b_0_weights b_1_thickness b_1_doors b_1_doorFrom b_1_doorTo cI v_0_points x106 v_0_looseEnds f101 f85 f102 f103 f104 f_0_pointAt v_1_count f_1_lowX f_1_lowY f_1_highX f_1_highY v_3_spaces v_3_xs_count f_3_xs_places v_3_ys_count f_3_ys_places f_3_cells) := hD
                            cases hm
                            exact K50 H locs ls hP hD hS (lv_sub hl [0, 1, 2, 3, 4, 5, 6, 7, 8, 9] rfl)
                          replace hm := hb97
                          refine lv_if_eq (tgt := 288) hx hb d_Ne_cutIntoPieces_281 (by decide) (fun c100 => ?_) (fun c100 => ?_)
                          · replace hm := if_t hm c100
                            refine lv_iconst (v := 3) hx hb d_Ne_cutIntoPieces_288 (by decide) ?_
                            cases hm
                            exact K96 H locs ls hP hD hS (lv_sub hl [0, 1, 2, 3, 4, 5, 6, 7, 8, 9, 11] rfl)
                          · replace hm := if_f hm c100
                            refine lv_iconst (v := 2) hx hb d_Ne_cutIntoPieces_284 (by decide) ?_
                            refine lv_goto (tgt := 289) hx hb d_Ne_cutIntoPieces_285 (by decide) ?_
                            cases hm
                            exact K96 H locs ls hP hD hS (lv_sub hl [0, 1, 2, 3, 4, 5, 6, 7, 8, 9, 11] rfl)
                        replace hm := hb87
                        refine lv_if_eq (tgt := 262) hx hb d_Ne_cutIntoPieces_255 (by decide) (fun c90 => ?_) (fun c90 => ?_)
                        · replace hm := if_t hm c90
                          refine lv_iconst (v := 1) hx hb d_Ne_cutIntoPieces_262 (by decide) ?_
                          cases hm
                          exact K86 H locs ls hP hD hS (lv_sub hl [1, 2, 3, 4, 5, 6, 7, 8, 9, 10, 11, 0] rfl)
                        · replace hm := if_f hm c90
                          refine lv_iconst (v := 0) hx hb d_Ne_cutIntoPieces_258 (by decide) ?_
                          refine lv_goto (tgt := 263) hx hb d_Ne_cutIntoPieces_259 (by decide) ?_
                          cases hm
                          exact K86 H locs ls hP hD hS (lv_sub hl [1, 2, 3, 4, 5, 6, 7, 8, 9, 10, 11, 0] rfl)
                      replace hm := hb74
                      refine lv_if_eq (tgt := 218) hx hb d_Ne_cutIntoPieces_200 (by decide) (fun c77 => ?_) (fun c77 => ?_)
                      · replace hm := if_t hm c77
                        refine lv_aload_n hx hb d_Ne_cutIntoPieces_218 rfl (lv_at hl 3 rfl) ?_
                        refine va_get (D := (dC, dI)) (ci := 8) (v := .ref a_3_cells) (C := "SpaceCycles$Grid") (T := F_Gr) (N := 4) hx hb hts (in_F i_Gr) hown hK hP 12 rfl rfl 2 (by decide) (hts _ (in_c k_175)) (fun _ h9 => h9) rfl d_Ne_cutIntoPieces_219 ?_
                        refine lv_iload hx hb d_Ne_cutIntoPieces_222 (lv_at hl 10 rfl) ?_
                        refine lv_iconst (v := 1) hx hb d_Ne_cutIntoPieces_224 (by decide) ?_
                        refine lv_iadd hx hb d_Ne_cutIntoPieces_225 ?_
                        refine lv_iload hx hb d_Ne_cutIntoPieces_226 (lv_at hl 11 rfl) ?_
                        obtain ⟨r78, hb79, hm⟩ := bd1_e hm
                        have hPc := hP.sub (ws' := (wl_Gr_cell)) [] rfl
                        have hDc := hD.sub (ws' := (wl_Gr_cell)) [] (by decide) rfl
                        refine cl_i (wc' := (wl_Gr_cell)) (va_runS (As := [.int (x39 + 1), .int x44]) (rest := [.ref a_3_cells]) ⟨hx, hb, hml, hown, hts⟩ (c_Gr_cell l dC dI (cI := cI) (cZ := cZ) (cJ := cJ) H.size (x39 + 1) x44 r78 hb79) (va_cwS 2 hts (gl_S k_176 k_55 k_56 k_54) rfl rfl rfl (by decide +kernel) ⟨Nat.le_of_ble_eq_true rfl, Nat.le_of_ble_eq_true rfl⟩) ⟨PP_blind, fun U hU hW => PP_at hK hN hPc hDc hU hW⟩ rfl rfl hl.1 rfl (lv_room (Nat.le_of_ble_eq_true rfl)) d_Ne_cutIntoPieces_228 ⟨Nat.zero_le _, Nat.zero_le _⟩) hP hD hS hA [] [0, 1, 2, 3, 4, 5, 6, 7, 8, 9, 10, 11, 12, 13, 14, 15, 16, 17] rfl rfl (by decide) (by decide) (fun H locs hP hD hS => ?_)
                        have hP : va_P (dC, dI) vwCl (wl_Ne_cutIntoPieces a_0 a_0_sidesOut a_0_pieceLine a_0_begins a_0_directions a_0_leftSpaces a_0_pointAt a_1 a_1_lowX a_1_lowY a_1_highX a_1_highY a_3 a_3_xs a_3_xs_places a_3_ys a_3_ys_places a_3_cells b_0_pointX b_0_pointY b_0_looseSides b_0_weights b_1_thickness b_1_doors b_1_doorFrom b_1_doorTo cI v_0_points x22 v_0_looseEnds f23 f24 f25 f26 f27 f_0_pointAt v_1_count f_1_lowX f_1_lowY f_1_highX f_1_highY v_3_spaces v_3_xs_count f_3_xs_places v_3_ys_count f_3_ys_places f_3_cells) H := hP.sub [0, 1, 2, 3, 4, 5, 6, 7, 8, 9, 10, 11, 12, 13, 14, 15, 16, 17] rfl
                        have hD : va_D A (wl_Ne_cutIntoPieces a_0 a_0_sidesOut a_0_pieceLine a_0_begins a_0_directions a_0_leftSpaces a_0_pointAt a_1 a_1_lowX a_1_lowY a_1_highX a_1_highY a_3 a_3_xs a_3_xs_places a_3_ys a_3_ys_places a_3_cells b_0_pointX b_0_pointY b_0_looseSides b_0_weights b_1_thickness b_1_doors b_1_doorFrom b_1_doorTo cI v_0_points x22 v_0_looseEnds f23 f24 f25 f26 f27 f_0_pointAt v_1_count f_1_lowX f_1_lowY f_1_highX f_1_highY v_3_spaces v_3_xs_count f_3_xs_places v_3_ys_count f_3_ys_places f_3_cells) := hD.sub [0, 1, 2, 3, 4, 5, 6, 7, 8, 9, 10, 11, 12, 13, 14, 15, 16, 17] (by decide) rfl
                        obtain ⟨hi80, hm⟩ := gI_e hm
                        refine va_iald hx hb hK hP 17 0 rfl rfl hi80 d_Ne_cutIntoPieces_231 ?_
                        cases hm
                        exact K73 H locs ls hP hD hS (lv_sub hl [1, 2, 3, 4, 5, 6, 7, 8, 9, 12, 0] rfl)
                      · replace hm := if_f hm c77
                        refine lv_aload_n hx hb d_Ne_cutIntoPieces_203 rfl (lv_at hl 3 rfl) ?_
                        refine va_get (D := (dC, dI)) (ci := 8) (v := .ref a_3_cells) (C := "SpaceCycles$Grid") (T := F_Gr) (N := 4) hx hb hts (in_F i_Gr) hown hK hP 12 rfl rfl 2 (by decide) (hts _ (in_c k_175)) (fun _ h9 => h9) rfl d_Ne_cutIntoPieces_204 ?_
                        refine lv_iload hx hb d_Ne_cutIntoPieces_207 (lv_at hl 10 rfl) ?_
                        refine lv_iload hx hb d_Ne_cutIntoPieces_209 (lv_at hl 11 rfl) ?_
                        obtain ⟨r81, hb82, hm⟩ := bd1_e hm
                        have hPc := hP.sub (ws' := (wl_Gr_cell)) [] rfl
                        have hDc := hD.sub (ws' := (wl_Gr_cell)) [] (by decide) rfl
                        refine cl_i (wc' := (wl_Gr_cell)) (va_runS (As := [.int x39, .int x44]) (rest := [.ref a_3_cells]) ⟨hx, hb, hml, hown, hts⟩ (c_Gr_cell l dC dI (cI := cI) (cZ := cZ) (cJ := cJ) H.size x39 x44 r81 hb82) (va_cwS 2 hts (gl_S k_176 k_55 k_56 k_54) rfl rfl rfl (by decide +kernel) ⟨Nat.le_of_ble_eq_true rfl, Nat.le_of_ble_eq_true rfl⟩) ⟨PP_blind, fun U hU hW => PP_at hK hN hPc hDc hU hW⟩ rfl rfl hl.1 rfl (lv_room (Nat.le_of_ble_eq_true rfl)) d_Ne_cutIntoPieces_211 ⟨Nat.zero_le _, Nat.zero_le _⟩) hP hD hS hA [] [0, 1, 2, 3, 4, 5, 6, 7, 8, 9, 10, 11, 12, 13, 14, 15, 16, 17] rfl rfl (by decide) (by decide) (fun H locs hP hD hS => ?_)
                        have hP : va_P (dC, dI) vwCl (wl_Ne_cutIntoPieces a_0 a_0_sidesOut a_0_pieceLine a_0_begins a_0_directions a_0_leftSpaces a_0_pointAt a_1 a_1_lowX a_1_lowY a_1_highX a_1_highY a_3 a_3_xs a_3_xs_places a_3_ys a_3_ys_places a_3_cells b_0_pointX b_0_pointY b_0_looseSides b_0_weights b_1_thickness b_1_doors b_1_doorFrom b_1_doorTo cI v_0_points x22 v_0_looseEnds f23 f24 f25 f26 f27 f_0_pointAt v_1_count f_1_lowX f_1_lowY f_1_highX f_1_highY v_3_spaces v_3_xs_count f_3_xs_places v_3_ys_count f_3_ys_places f_3_cells) H := hP.sub [0, 1, 2, 3, 4, 5, 6, 7, 8, 9, 10, 11, 12, 13, 14, 15, 16, 17] rfl
                        have hD : va_D A (wl_Ne_cutIntoPieces a_0 a_0_sidesOut a_0_pieceLine a_0_begins a_0_directions a_0_leftSpaces a_0_pointAt a_1 a_1_lowX a_1_lowY a_1_highX a_1_highY a_3 a_3_xs a_3_xs_places a_3_ys a_3_ys_places a_3_cells b_0_pointX b_0_pointY b_0_looseSides b_0_weights b_1_thickness b_1_doors b_1_doorFrom b_1_doorTo cI v_0_points x22 v_0_looseEnds f23 f24 f25 f26 f27 f_0_pointAt v_1_count f_1_lowX f_1_lowY f_1_highX f_1_highY v_3_spaces v_3_xs_count f_3_xs_places v_3_ys_count f_3_ys_places f_3_cells) := hD.sub [0, 1, 2, 3, 4, 5, 6, 7, 8, 9, 10, 11, 12, 13, 14, 15, 16, 17] (by decide) rfl
                        obtain ⟨hi83, hm⟩ := gI_e hm
                        refine va_iald hx hb hK hP 17 0 rfl rfl hi83 d_Ne_cutIntoPieces_214 ?_
                        refine lv_goto (tgt := 232) hx hb d_Ne_cutIntoPieces_215 (by decide) ?_
                        cases hm
                        exact K73 H locs ls hP hD hS (lv_sub hl [1, 2, 3, 4, 5, 6, 7, 8, 9, 12, 0] rfl)
                    replace hm := hb63
                    refine lv_if_eq (tgt := 184) hx hb d_Ne_cutIntoPieces_164 (by decide) (fun c66 => ?_) (fun c66 => ?_)
                    · replace hm := if_t hm c66
                      refine lv_aload_n hx hb d_Ne_cutIntoPieces_184 rfl (lv_at hl 4 rfl) ?_
                      refine va_get (D := (dC, dI)) (ci := 8) (v := .ref a_3_cells) (C := "SpaceCycles$Grid") (T := F_Gr) (N := 4) hx hb hts (in_F i_Gr) hown hK hP 12 rfl rfl 2 (by decide) (hts _ (in_c k_175)) (fun _ h9 => h9) rfl d_Ne_cutIntoPieces_185 ?_
                      refine lv_iload hx hb d_Ne_cutIntoPieces_188 (lv_at hl 11 rfl) ?_
                      refine lv_iload hx hb d_Ne_cutIntoPieces_190 (lv_at hl 1 rfl) ?_
                      obtain ⟨r67, hb68, hm⟩ := bd1_e hm
                      have hPc := hP.sub (ws' := (wl_Gr_cell)) [] rfl
                      have hDc := hD.sub (ws' := (wl_Gr_cell)) [] (by decide) rfl
                      refine cl_i (wc' := (wl_Gr_cell)) (va_runS (As := [.int x39, .int x44]) (rest := [.ref a_3_cells]) ⟨hx, hb, hml, hown, hts⟩ (c_Gr_cell l dC dI (cI := cI) (cZ := cZ) (cJ := cJ) H.size x39 x44 r67 hb68) (va_cwS 2 hts (gl_S k_176 k_55 k_56 k_54) rfl rfl rfl (by decide +kernel) ⟨Nat.le_of_ble_eq_true rfl, Nat.le_of_ble_eq_true rfl⟩) ⟨PP_blind, fun U hU hW => PP_at hK hN hPc hDc hU hW⟩ rfl rfl hl.1 rfl (lv_room (Nat.le_of_ble_eq_true rfl)) d_Ne_cutIntoPieces_192 ⟨Nat.zero_le _, Nat.zero_le _⟩) hP hD hS hA [] [0, 1, 2, 3, 4, 5, 6, 7, 8, 9, 10, 11, 12, 13, 14, 15, 16, 17] rfl rfl (by decide) (by decide) (fun H locs hP hD hS => ?_)
                      have hP : va_P (dC, dI) vwCl (wl_Ne_cutIntoPieces a_0 a_0_sidesOut a_0_pieceLine a_0_begins a_0_directions a_0_leftSpaces a_0_pointAt a_1 a_1_lowX a_1_lowY a_1_highX a_1_highY a_3 a_3_xs a_3_xs_places a_3_ys a_3_ys_places a_3_cells b_0_pointX b_0_pointY b_0_looseSides b_0_weights b_1_thickness b_1_doors b_1_doorFrom b_1_doorTo cI v_0_points x22 v_0_looseEnds f23 f24 f25 f26 f27 f_0_pointAt v_1_count f_1_lowX f_1_lowY f_1_highX f_1_highY v_3_spaces v_3_xs_count f_3_xs_places v_3_ys_count f_3_ys_places f_3_cells) H := hP.sub [0, 1, 2, 3, 4, 5, 6, 7, 8, 9, 10, 11, 12, 13, 14, 15, 16, 17] rfl
                      have hD : va_D A (wl_Ne_cutIntoPieces a_0 a_0_sidesOut a_0_pieceLine a_0_begins a_0_directions a_0_leftSpaces a_0_pointAt a_1 a_1_lowX a_1_lowY a_1_highX a_1_highY a_3 a_3_xs a_3_xs_places a_3_ys a_3_ys_places a_3_cells b_0_pointX b_0_pointY b_0_looseSides b_0_weights b_1_thickness b_1_doors b_1_doorFrom b_1_doorTo cI v_0_points x22 v_0_looseEnds f23 f24 f25 f26 f27 f_0_pointAt v_1_count f_1_lowX f_1_lowY f_1_highX f_1_highY v_3_spaces v_3_xs_count f_3_xs_places v_3_ys_count f_3_ys_places f_3_cells) := hD.sub [0, 1, 2, 3, 4, 5, 6, 7, 8, 9, 10, 11, 12, 13, 14, 15, 16, 17] (by decide) rfl
                      obtain ⟨hi69, hm⟩ := gI_e hm
                      refine va_iald hx hb hK hP 17 0 rfl rfl hi69 d_Ne_cutIntoPieces_195 ?_
                      cases hm
                      exact K62 H locs ls hP hD hS (lv_sub hl [2, 3, 4, 5, 6, 7, 8, 9, 10, 11, 1, 0] rfl)
                    · replace hm := if_f hm c66
                      refine lv_aload_n hx hb d_Ne_cutIntoPieces_167 rfl (lv_at hl 4 rfl) ?_
                      refine va_get (D := (dC, dI)) (ci := 8) (v := .ref a_3_cells) (C := "SpaceCycles$Grid") (T := F_Gr) (N := 4) hx hb hts (in_F i_Gr) hown hK hP 12 rfl rfl 2 (by decide) (hts _ (in_c k_175)) (fun _ h9 => h9) rfl d_Ne_cutIntoPieces_168 ?_
                      refine lv_iload hx hb d_Ne_cutIntoPieces_171 (lv_at hl 11 rfl) ?_
                      refine lv_iload hx hb d_Ne_cutIntoPieces_173 (lv_at hl 1 rfl) ?_
                      refine lv_iconst (v := 1) hx hb d_Ne_cutIntoPieces_175 (by decide) ?_
                      refine lv_iadd hx hb d_Ne_cutIntoPieces_176 ?_
                      obtain ⟨r70, hb71, hm⟩ := bd1_e hm
                      have hPc := hP.sub (ws' := (wl_Gr_cell)) [] rfl
                      have hDc := hD.sub (ws' := (wl_Gr_cell)) [] (by decide) rfl
                      refine cl_i (wc' := (wl_Gr_cell)) (va_runS (As := [.int x39, .int (x44 + 1)]) (rest := [.ref a_3_cells]) ⟨hx, hb, hml, hown, hts⟩ (c_Gr_cell l dC dI (cI := cI) (cZ := cZ) (cJ := cJ) H.size x39 (x44 + 1) r70 hb71) (va_cwS 2 hts (gl_S k_176 k_55 k_56 k_54) rfl rfl rfl (by decide +kernel) ⟨Nat.le_of_ble_eq_true rfl, Nat.le_of_ble_eq_true rfl⟩) ⟨PP_blind, fun U hU hW => PP_at hK hN hPc hDc hU hW⟩ rfl rfl hl.1 rfl (lv_room (Nat.le_of_ble_eq_true rfl)) d_Ne_cutIntoPieces_177 ⟨Nat.zero_le _, Nat.zero_le _⟩) hP hD hS hA [] [0, 1, 2, 3, 4, 5, 6, 7, 8, 9, 10, 11, 12, 13, 14, 15, 16, 17] rfl rfl (by decide) (by decide) (fun H locs hP hD hS => ?_)
                      have hP : va_P (dC, dI) vwCl (wl_Ne_cutIntoPieces a_0 a_0_sidesOut a_0_pieceLine a_0_begins a_0_directions a_0_leftSpaces a_0_pointAt a_1 a_1_lowX a_1_lowY a_1_highX a_1_highY a_3 a_3_xs a_3_xs_places a_3_ys a_3_ys_places a_3_cells b_0_pointX b_0_pointY b_0_looseSides b_0_weights b_1_thickness b_1_doors b_1_doorFrom b_1_doorTo cI v_0_points x22 v_0_looseEnds f23 f24 f25 f26 f27 f_0_pointAt v_1_count f_1_lowX f_1_lowY f_1_highX f_1_highY v_3_spaces v_3_xs_count f_3_xs_places v_3_ys_count f_3_ys_places f_3_cells) H := hP.sub [0, 1, 2, 3, 4, 5, 6, 7, 8, 9, 10, 11, 12, 13, 14, 15, 16, 17] rfl
                      have hD : va_D A (wl_Ne_cutIntoPieces a_0 a_0_sidesOut a_0_pieceLine a_0_begins a_0_directions a_0_leftSpaces a_0_pointAt a_1 a_1_lowX a_1_lowY a_1_highX a_1_highY a_3 a_3_xs a_3_xs_places a_3_ys a_3_ys_places a_3_cells b_0_pointX b_0_pointY b_0_looseSides b_0_weights b_1_thickness b_1_doors b_1_doorFrom b_1_doorTo cI v_0_points x22 v_0_looseEnds f23 f24 f25 f26 f27 f_0_pointAt v_1_count f_1_lowX f_1_lowY f_1_highX f_1_highY v_3_spaces v_3_xs_count f_3_xs_places v_3_ys_count f_3_ys_places f_3_cells) := hD.sub [0, 1, 2, 3, 4, 5, 6, 7, 8, 9, 10, 11, 12, 13, 14, 15, 16, 17] (by decide) rfl
                      obtain ⟨hi72, hm⟩ := gI_e hm
                      refine va_iald hx hb hK hP 17 0 rfl rfl hi72 d_Ne_cutIntoPieces_180 ?_
                      refine lv_goto (tgt := 196) hx hb d_Ne_cutIntoPieces_181 (by decide) ?_
                      cases hm
                      exact K62 H locs ls hP hD hS (lv_sub hl [2, 3, 4, 5, 6, 7, 8, 9, 10, 11, 1, 0] rfl)
            replace hm := hb42
            refine lv_if_eq (tgt := 119) hx hb d_Ne_cutIntoPieces_111 (by decide) (fun c45 => ?_) (fun c45 => ?_)
            · replace hm := if_t hm c45
              refine lv_iload hx hb d_Ne_cutIntoPieces_119 (lv_at hl 6 rfl) ?_
              refine lv_iload hx hb d_Ne_cutIntoPieces_121 (lv_at hl 9 rfl) ?_
              refine lv_iadd hx hb d_Ne_cutIntoPieces_123 ?_
              cases hm
              exact K41 H locs ls hP hD hS (lv_sub hl [1, 2, 3, 4, 5, 6, 7, 8, 9, 0] rfl)
            · replace hm := if_f hm c45
              refine lv_iload hx hb d_Ne_cutIntoPieces_114 (lv_at hl 6 rfl) ?_
              refine lv_goto (tgt := 124) hx hb d_Ne_cutIntoPieces_116 (by decide) ?_
              cases hm
              exact K41 H locs ls hP hD hS (lv_sub hl [1, 2, 3, 4, 5, 6, 7, 8, 9, 0] rfl)
          replace hm := hb37
          refine lv_if_eq (tgt := 105) hx hb d_Ne_cutIntoPieces_94 (by decide) (fun c40 => ?_) (fun c40 => ?_)
          · replace hm := if_t hm c40
            refine lv_iload hx hb d_Ne_cutIntoPieces_105 (lv_at hl 4 rfl) ?_
            cases hm
            exact K36 H locs ls hP hD hS (lv_sub hl [0, 1, 2, 3, 4, 5, 6, 7, 8] rfl)
          · replace hm := if_f hm c40
            refine lv_iload hx hb d_Ne_cutIntoPieces_97 (lv_at hl 4 rfl) ?_
            refine lv_iload hx hb d_Ne_cutIntoPieces_99 (lv_at hl 8 rfl) ?_
            refine lv_iadd hx hb d_Ne_cutIntoPieces_101 ?_
            refine lv_goto (tgt := 107) hx hb d_Ne_cutIntoPieces_102 (by decide) ?_
            cases hm
            exact K36 H locs ls hP hD hS (lv_sub hl [0, 1, 2, 3, 4, 5, 6, 7, 8] rfl)
    obtain ⟨x28, f29, f30, f31, f32, f33, hb113, hm⟩ := bd6_e hm
    refine L85_34 fu _ _ _ _ _ _ _ _ _ _ _ _ _ _ hb113 (fun H locs ls hP hD hS hl => ?_) H locs ls hP hD hS (lv_sub hl [3, 4, 5, 6, 7, 8, 2, 1, 0] rfl)
    cases hm
    exact hret _ H locs ls d_Ne_cutIntoPieces_325 hP hD hS
  replace hm := hb10
  refine lv_if_eq (tgt := 61) hx hb d_Ne_cutIntoPieces_39 (by decide) (fun c13 => ?_) (fun c13 => ?_)
  · replace hm := if_t hm c13
    refine lv_aload_n hx hb d_Ne_cutIntoPieces_61 rfl (lv_at hl 6 rfl) ?_
    refine va_get (D := (dC, dI)) (ci := 8) (v := .ref a_3_ys) (C := "SpaceCycles$Grid") (T := F_Gr) (N := 4) hx hb hts (in_F i_Gr) hown hK hP 12 rfl rfl 1 (by decide) (hts _ (in_c k_147)) (fun _ h9 => h9) rfl d_Ne_cutIntoPieces_62 ?_
    refine lv_aload_n hx hb d_Ne_cutIntoPieces_65 rfl (lv_at hl 4 rfl) ?_
    refine va_get (D := (dC, dI)) (ci := 1) (v := .ref a_1_highY) (C := "SpaceCycles$Lines") (T := F_Li) (N := 9) hx hb hts (in_F i_Li) hown hK hP 7 rfl rfl 3 (by decide) (hts _ (in_c k_154)) (fun _ h9 => h9) rfl d_Ne_cutIntoPieces_66 ?_
    refine lv_iload_n hx hb d_Ne_cutIntoPieces_69 rfl (lv_at hl 5 rfl) ?_
    obtain ⟨hi14, hm⟩ := gI_e hm
    refine va_iald hx hb hK hP 11 0 rfl rfl hi14 d_Ne_cutIntoPieces_70 ?_
    obtain ⟨r15, hb16, hm⟩ := bd1_e hm
    have hPc := hP.sub (ws' := (wl_Cu_indexOf a_3_ys a_3_ys_places cI v_3_ys_count f_3_ys_places)) [15, 16] rfl
    have hDc := hD.sub (ws' := (wl_Cu_indexOf a_3_ys a_3_ys_places cI v_3_ys_count f_3_ys_places)) [15, 16] (by decide) rfl
    refine cl_i (wc' := (wl_Cu_indexOf a_3_ys a_3_ys_places cI v_3_ys_count f_3_ys_places)) (va_runV (As := [.int (f_1_highY p2.toNatClampNeg)]) (rest := []) ⟨hx, hb, hml, hown, hts⟩ (c_Cu_indexOf l dC dI (cI := cI) (cZ := cZ) (cJ := cJ) a_3_ys a_3_ys_places H.size v_3_ys_count f_3_ys_places (f_1_highY p2.toNatClampNeg) r15 hb16) (cwV 1 hts (gl_V k_151 k_96 k_95 k_9 k_94) rfl rfl rfl (by decide +kernel) ⟨Nat.le_of_ble_eq_true rfl, Nat.le_of_ble_eq_true rfl⟩) ⟨PP_blind, va_recv hK hPc (ci := 9) (q0 := 0) rfl rfl, fun U hU hW => PP_at hK hN hPc hDc hU hW⟩ rfl rfl hl.1 rfl (lv_room (Nat.le_of_ble_eq_true rfl)) d_Ne_cutIntoPieces_71 ⟨Nat.zero_le _, Nat.zero_le _⟩) hP hD hS hA [15, 16] [0, 1, 2, 3, 4, 5, 6, 7, 8, 9, 10, 11, 12, 13, 14, 17] rfl rfl (by decide) (by decide) (fun H locs hP hD hS => ?_)
    have hP : va_P (dC, dI) vwCl (wl_Ne_cutIntoPieces a_0 a_0_sidesOut a_0_pieceLine a_0_begins a_0_directions a_0_leftSpaces a_0_pointAt a_1 a_1_lowX a_1_lowY a_1_highX a_1_highY a_3 a_3_xs a_3_xs_places a_3_ys a_3_ys_places a_3_cells b_0_pointX b_0_pointY b_0_looseSides b_0_weights b_1_thickness b_1_doors b_1_doorFrom b_1_doorTo cI v_0_points v_0_pieces v_0_looseEnds f_0_sidesOut f_0_pieceLine f_0_begins f_0_directions f_0_leftSpaces f_0_pointAt v_1_count f_1_lowX f_1_lowY f_1_highX f_1_highY v_3_spaces v_3_xs_count f_3_xs_places v_3_ys_count f_3_ys_places f_3_cells) H := hP.sub [0, 1, 2, 3, 4, 5, 6, 7, 8, 9, 10, 11, 12, 13, 14, 16, 17, 15] rfl
    have hD : va_D A (wl_Ne_cutIntoPieces a_0 a_0_sidesOut a_0_pieceLine a_0_begins a_0_directions a_0_leftSpaces a_0_pointAt a_1 a_1_lowX a_1_lowY a_1_highX a_1_highY a_3 a_3_xs a_3_xs_places a_3_ys a_3_ys_places a_3_cells b_0_pointX b_0_pointY b_0_looseSides b_0_weights b_1_thickness b_1_doors b_1_doorFrom b_1_doorTo cI v_0_points v_0_pieces v_0_looseEnds f_0_sidesOut f_0_pieceLine f_0_begins f_0_directions f_0_leftSpaces f_0_pointAt v_1_count f_1_lowX f_1_lowY f_1_highX f_1_highY v_3_spaces v_3_xs_count f_3_xs_places v_3_ys_count f_3_ys_places f_3_cells) := hD.sub [0, 1, 2, 3, 4, 5, 6, 7, 8, 9, 10, 11, 12, 13, 14, 16, 17, 15] (by decide) rfl
    refine lv_iload hx hb d_Ne_cutIntoPieces_74 (lv_at hl 0 rfl) ?_
    refine lv_isub hx hb d_Ne_cutIntoPieces_76 ?_
    cases hm
    exact K9 H locs ls hP hD hS (lv_sub hl [3, 5, 6, 2, 1, 0] rfl)
  · replace hm := if_f hm c13
    refine lv_aload_n hx hb d_Ne_cutIntoPieces_42 rfl (lv_at hl 6 rfl) ?_
    refine va_get (D := (dC, dI)) (ci := 8) (v := .ref a_3_xs) (C := "SpaceCycles$Grid") (T := F_Gr) (N := 4) hx hb hts (in_F i_Gr) hown hK hP 12 rfl rfl 0 (by decide) (hts _ (in_c k_140)) (fun _ h9 => h9) rfl d_Ne_cutIntoPieces_43 ?_
    refine lv_aload_n hx hb d_Ne_cutIntoPieces_46 rfl (lv_at hl 4 rfl) ?_
    refine va_get (D := (dC, dI)) (ci := 1) (v := .ref a_1_highX) (C := "SpaceCycles$Lines") (T := F_Li) (N := 9) hx hb hts (in_F i_Li) hown hK hP 7 rfl rfl 2 (by decide) (hts _ (in_c k_153)) (fun _ h9 => h9) rfl d_Ne_cutIntoPieces_47 ?_
    refine lv_iload_n hx hb d_Ne_cutIntoPieces_50 rfl (lv_at hl 5 rfl) ?_
    obtain ⟨hi17, hm⟩ := gI_e hm
    refine va_iald hx hb hK hP 10 0 rfl rfl hi17 d_Ne_cutIntoPieces_51 ?_
    obtain ⟨r18, hb19, hm⟩ := bd1_e hm
    have hPc := hP.sub (ws' := (wl_Cu_indexOf a_3_xs a_3_xs_places cI v_3_xs_count f_3_xs_places)) [13, 14] rfl
    have hDc := hD.sub (ws' := (wl_Cu_indexOf a_3_xs a_3_xs_places cI v_3_xs_count f_3_xs_places)) [13, 14] (by decide) rfl
    refine cl_i (wc' := (wl_Cu_indexOf a_3_xs a_3_xs_places cI v_3_xs_count f_3_xs_places)) (va_runV (As := [.int (f_1_highX p2.toNatClampNeg)]) (rest := []) ⟨hx, hb, hml, hown, hts⟩ (c_Cu_indexOf l dC dI (cI := cI) (cZ := cZ) (cJ := cJ) a_3_xs a_3_xs_places H.size v_3_xs_count f_3_xs_places (f_1_highX p2.toNatClampNeg) r18 hb19) (cwV 1 hts (gl_V k_151 k_96 k_95 k_9 k_94) rfl rfl rfl (by decide +kernel) ⟨Nat.le_of_ble_eq_true rfl, Nat.le_of_ble_eq_true rfl⟩) ⟨PP_blind, va_recv hK hPc (ci := 9) (q0 := 0) rfl rfl, fun U hU hW => PP_at hK hN hPc hDc hU hW⟩ rfl rfl hl.1 rfl (lv_room (Nat.le_of_ble_eq_true rfl)) d_Ne_cutIntoPieces_52 ⟨Nat.zero_le _, Nat.zero_le _⟩) hP hD hS hA [13, 14] [0, 1, 2, 3, 4, 5, 6, 7, 8, 9, 10, 11, 12, 15, 16, 17] rfl rfl (by decide) (by decide) (fun H locs hP hD hS => ?_)
    have hP : va_P (dC, dI) vwCl (wl_Ne_cutIntoPieces a_0 a_0_sidesOut a_0_pieceLine a_0_begins a_0_directions a_0_leftSpaces a_0_pointAt a_1 a_1_lowX a_1_lowY a_1_highX a_1_highY a_3 a_3_xs a_3_xs_places a_3_ys a_3_ys_places a_3_cells b_0_pointX b_0_pointY b_0_looseSides b_0_weights b_1_thickness b_1_doors b_1_doorFrom b_1_doorTo cI v_0_points v_0_pieces v_0_looseEnds f_0_sidesOut f_0_pieceLine f_0_begins f_0_directions f_0_leftSpaces f_0_pointAt v_1_count f_1_lowX f_1_lowY f_1_highX f_1_highY v_3_spaces v_3_xs_count f_3_xs_places v_3_ys_count f_3_ys_places f_3_cells) H := hP.sub [0, 1, 2, 3, 4, 5, 6, 7, 8, 9, 10, 11, 12, 16, 17, 13, 14, 15] rfl
    have hD : va_D A (wl_Ne_cutIntoPieces a_0 a_0_sidesOut a_0_pieceLine a_0_begins a_0_directions a_0_leftSpaces a_0_pointAt a_1 a_1_lowX a_1_lowY a_1_highX a_1_highY a_3 a_3_xs a_3_xs_places a_3_ys a_3_ys_places a_3_cells b_0_pointX b_0_pointY b_0_looseSides b_0_weights b_1_thickness b_1_doors b_1_doorFrom b_1_doorTo cI v_0_points v_0_pieces v_0_looseEnds f_0_sidesOut f_0_pieceLine f_0_begins f_0_directions f_0_leftSpaces f_0_pointAt v_1_count f_1_lowX f_1_lowY f_1_highX f_1_highY v_3_spaces v_3_xs_count f_3_xs_places v_3_ys_count f_3_ys_places f_3_cells) := hD.sub [0, 1, 2, 3, 4, 5, 6, 7, 8, 9, 10, 11, 12, 16, 17, 13, 14, 15] (by decide) rfl
    refine lv_iload hx hb d_Ne_cutIntoPieces_55 (lv_at hl 1 rfl) ?_
    refine lv_isub hx hb d_Ne_cutIntoPieces_57 ?_
    refine lv_goto (tgt := 77) hx hb d_Ne_cutIntoPieces_58 (by decide) ?_
    cases hm
    exact K9 H locs ls hP hD hS (lv_sub hl [3, 5, 6, 2, 1, 0] rfl)
set_option maxHeartbeats 4000000 in
set_option maxRecDepth 100000 in
theorem c_Ne_cutIntoPieces (l : Launch) (dC : Nat → ClassId) (dI : Nat → Nat → Nat) {cI cZ cJ : ClassId} (a_0 a_0_sidesOut a_0_pieceLine a_0_begins a_0_directions a_0_leftSpaces a_0_pointAt a_1 a_1_lowX a_1_lowY a_1_highX a_1_highY a_3 a_3_xs a_3_xs_places a_3_ys a_3_ys_places a_3_cells b_0_pointX b_0_pointY b_0_looseSides b_0_weights b_1_thickness b_1_doors b_1_doorFrom b_1_doorTo : Nat) (sz : Nat) (v_0_points : Int32) (v_0_pieces : Int32) (v_0_looseEnds : Int32) (f_0_sidesOut : Nat → Int32) (f_0_pieceLine : Nat → Int32) (f_0_begins : Nat → Int32) (f_0_directions : Nat → Int32) (f_0_leftSpaces : Nat → Int32) (f_0_pointAt : Nat → Int32) (v_1_count : Int32) (f_1_lowX : Nat → Int32) (f_1_lowY : Nat → Int32) (f_1_highX : Nat → Int32) (f_1_highY : Nat → Int32) (v_3_spaces : Int32) (v_3_xs_count : Int32) (f_3_xs_places : Nat → Int32) (v_3_ys_count : Int32) (f_3_ys_places : Nat → Int32) (f_3_cells : Nat → Int32) (p2 : Int32) (ov_0_pieces : Int32) (of_0_sidesOut : Nat → Int32) (of_0_pieceLine : Nat → Int32) (of_0_begins : Nat → Int32) (of_0_directions : Nat → Int32) (of_0_leftSpaces : Nat → Int32) (hm : m_Ne_cutIntoPieces p2 v_0_pieces f_0_sidesOut f_0_pieceLine f_0_begins f_0_directions f_0_leftSpaces f_0_pointAt f_1_lowX f_1_lowY f_1_highX f_1_highY v_3_xs_count f_3_xs_places v_3_ys_count f_3_ys_places f_3_cells = some (ov_0_pieces, of_0_sidesOut, of_0_pieceLine, of_0_begins, of_0_directions, of_0_leftSpaces)) : Met l y_Ne_cutIntoPieces w_Ne_cutIntoPieces rm_Ne_cutIntoPieces (PP dC dI [(cI, .int), (cZ, .boolean), (cJ, .long)] [.ref a_0, .ref a_1, .int p2, .ref a_3] sz (wl_Ne_cutIntoPieces a_0 a_0_sidesOut a_0_pieceLine a_0_begins a_0_directions a_0_leftSpaces a_0_pointAt a_1 a_1_lowX a_1_lowY a_1_highX a_1_highY a_3 a_3_xs a_3_xs_places a_3_ys a_3_ys_places a_3_cells b_0_pointX b_0_pointY b_0_looseSides b_0_weights b_1_thickness b_1_doors b_1_doorFrom b_1_doorTo cI v_0_points v_0_pieces v_0_looseEnds f_0_sidesOut f_0_pieceLine f_0_begins f_0_directions f_0_leftSpaces f_0_pointAt v_1_count f_1_lowX f_1_lowY f_1_highX f_1_highY v_3_spaces v_3_xs_count f_3_xs_places v_3_ys_count f_3_ys_places f_3_cells)) (QV dC dI [(cI, .int), (cZ, .boolean), (cJ, .long)] sz (wl_Ne_cutIntoPieces a_0 a_0_sidesOut a_0_pieceLine a_0_begins a_0_directions a_0_leftSpaces a_0_pointAt a_1 a_1_lowX a_1_lowY a_1_highX a_1_highY a_3 a_3_xs a_3_xs_places a_3_ys a_3_ys_places a_3_cells b_0_pointX b_0_pointY b_0_looseSides b_0_weights b_1_thickness b_1_doors b_1_doorFrom b_1_doorTo cI v_0_points v_0_pieces v_0_looseEnds f_0_sidesOut f_0_pieceLine f_0_begins f_0_directions f_0_leftSpaces f_0_pointAt v_1_count f_1_lowX f_1_lowY f_1_highX f_1_highY v_3_spaces v_3_xs_count f_3_xs_places v_3_ys_count f_3_ys_places f_3_cells) (wl_Ne_cutIntoPieces a_0 a_0_sidesOut a_0_pieceLine a_0_begins a_0_directions a_0_leftSpaces a_0_pointAt a_1 a_1_lowX a_1_lowY a_1_highX a_1_highY a_3 a_3_xs a_3_xs_places a_3_ys a_3_ys_places a_3_cells b_0_pointX b_0_pointY b_0_looseSides b_0_weights b_1_thickness b_1_doors b_1_doorFrom b_1_doorTo cI v_0_points ov_0_pieces v_0_looseEnds of_0_sidesOut of_0_pieceLine of_0_begins of_0_directions of_0_leftSpaces f_0_pointAt v_1_count f_1_lowX f_1_lowY f_1_highX f_1_highY v_3_spaces v_3_xs_count f_3_xs_places v_3_ys_count f_3_ys_places f_3_cells)) 0 0 (va_A (wl_Ne_cutIntoPieces a_0 a_0_sidesOut a_0_pieceLine a_0_begins a_0_directions a_0_leftSpaces a_0_pointAt a_1 a_1_lowX a_1_lowY a_1_highX a_1_highY a_3 a_3_xs a_3_xs_places a_3_ys a_3_ys_places a_3_cells b_0_pointX b_0_pointY b_0_looseSides b_0_weights b_1_thickness b_1_doors b_1_doorFrom b_1_doorTo cI v_0_points v_0_pieces v_0_looseEnds f_0_sidesOut f_0_pieceLine f_0_begins f_0_directions f_0_leftSpaces f_0_pointAt v_1_count f_1_lowX f_1_lowY f_1_highX f_1_highY v_3_spaces v_3_xs_count f_3_xs_places v_3_ys_count f_3_ys_places f_3_cells) sz) := by
  refine Met.ofW (cc := b_Ne_cutIntoPieces) (maxL := 15) (ret := none) (by decide) rfl ?_
  intro p e s m args below meth c s₁ B hml hv
  obtain ⟨rfl, hsz, hP, hK, hD0, hN⟩ := hv
  subst hsz
  have hl := lv_entry ([.ref a_0, .ref a_1, .int p2, .ref a_3]) (n := 15) (Nat.le_of_ble_eq_true rfl)
  rw [lg_entry_eq]
  generalize (lg_sl ([.ref a_0, .ref a_1, .int p2, .ref a_3]) ++ List.replicate (15 - (lg_sl ([.ref a_0, .ref a_1, .int p2, .ref a_3])).length) Slot.unset).toArray = ls at hl ⊢
  exact t_Ne_cutIntoPieces a_0 a_0_sidesOut a_0_pieceLine a_0_begins a_0_directions a_0_leftSpaces a_0_pointAt a_1 a_1_lowX a_1_lowY a_1_highX a_1_highY a_3 a_3_xs a_3_xs_places a_3_ys a_3_ys_places a_3_cells b_0_pointX b_0_pointY b_0_looseSides b_0_weights b_1_thickness b_1_doors b_1_doorFrom b_1_doorTo v_0_points v_0_pieces v_0_looseEnds f_0_sidesOut f_0_pieceLine f_0_begins f_0_directions f_0_leftSpaces f_0_pointAt v_1_count f_1_lowX f_1_lowY f_1_highX f_1_highY v_3_spaces v_3_xs_count f_3_xs_places v_3_ys_count f_3_ys_places f_3_cells p2 ov_0_pieces of_0_sidesOut of_0_pieceLine of_0_begins of_0_directions of_0_leftSpaces B.exec B.bytes hml (findClass_of_methodNamed B.named) (atoms_spec (ws := w_Ne_cutIntoPieces) B.pre) hK hN (fun q h => Or.inr h) (fun pc H locs ls hd hP9 hD9 hS => W.vret B.exec B.bytes B.returns (fun t ht hW => ⟨⟨(), rfl, trivial, by rw [ht]; exact hP9, va_K.moved hW.alike hK, hD9⟩, hS.F ht⟩) hS.2.2 hd) hm s.heap [] ls hP hD0.self va_S.rf hl

theorem k_182 : ((.code ⟨"SpaceCycles$Net", "weigh", "(LSpaceCycles$Lines;LSpaceCycles$Grid;)V"⟩ prog_8_method_19_code 8 none) : Cond) ∈ gl := gl_i 805 (by decide +kernel) (by decide +kernel)
theorem k_183 : ((.selects "SpaceCycles$Net" ⟨"SpaceCycles$Net", "weigh", "(LSpaceCycles$Lines;LSpaceCycles$Grid;)V"⟩ ⟨"SpaceCycles$Net", "weigh", "(LSpaceCycles$Lines;LSpaceCycles$Grid;)V"⟩) : Cond) ∈ gl := gl_s (by decide +kernel) (by decide +kernel)
theorem k_184 : ((.instanceMethod ⟨"SpaceCycles$Net", "weigh", "(LSpaceCycles$Lines;LSpaceCycles$Grid;)V"⟩) : Cond) ∈ gl := gl_i 804 (by decide +kernel) (by decide +kernel)
theorem k_185 : ((.methodLink "SpaceCycles$Net" 52 ⟨"SpaceCycles$Net", "weigh", "(LSpaceCycles$Lines;LSpaceCycles$Grid;)V"⟩) : Cond) ∈ gl := gl_i 802 (by decide +kernel) (by decide +kernel)
theorem k_186 : ((.code ⟨"SpaceCycles$Net", "numberPoints", "(LSpaceCycles$Grid;)V"⟩ prog_8_method_20_code 5 none) : Cond) ∈ gl := gl_i 818 (by decide +kernel) (by decide +kernel)
theorem k_187 : ((.selects "SpaceCycles$Net" ⟨"SpaceCycles$Net", "numberPoints", "(LSpaceCycles$Grid;)V"⟩ ⟨"SpaceCycles$Net", "numberPoints", "(LSpaceCycles$Grid;)V"⟩) : Cond) ∈ gl := gl_s (by decide +kernel) (by decide +kernel)
theorem k_188 : ((.instanceMethod ⟨"SpaceCycles$Net", "numberPoints", "(LSpaceCycles$Grid;)V"⟩) : Cond) ∈ gl := gl_i 817 (by decide +kernel) (by decide +kernel)
theorem k_189 : ((.methodLink "SpaceCycles$Net" 56 ⟨"SpaceCycles$Net", "numberPoints", "(LSpaceCycles$Grid;)V"⟩) : Cond) ∈ gl := gl_i 815 (by decide +kernel) (by decide +kernel)
theorem k_190 : ((.code ⟨"SpaceCycles$Net", "cutIntoPieces", "(LSpaceCycles$Lines;ILSpaceCycles$Grid;)V"⟩ prog_8_method_21_code 15 none) : Cond) ∈ gl := gl_i 822 (by decide +kernel) (by decide +kernel)
theorem k_191 : ((.selects "SpaceCycles$Net" ⟨"SpaceCycles$Net", "cutIntoPieces", "(LSpaceCycles$Lines;ILSpaceCycles$Grid;)V"⟩ ⟨"SpaceCycles$Net", "cutIntoPieces", "(LSpaceCycles$Lines;ILSpaceCycles$Grid;)V"⟩) : Cond) ∈ gl := gl_s (by decide +kernel) (by decide +kernel)
theorem k_192 : ((.instanceMethod ⟨"SpaceCycles$Net", "cutIntoPieces", "(LSpaceCycles$Lines;ILSpaceCycles$Grid;)V"⟩) : Cond) ∈ gl := gl_i 821 (by decide +kernel) (by decide +kernel)
theorem k_193 : ((.methodLink "SpaceCycles$Net" 65 ⟨"SpaceCycles$Net", "cutIntoPieces", "(LSpaceCycles$Lines;ILSpaceCycles$Grid;)V"⟩) : Cond) ∈ gl := gl_i 819 (by decide +kernel) (by decide +kernel)
theorem k_194 : ((.code ⟨"SpaceCycles$Net", "findLooseEnds", "()V"⟩ prog_8_method_23_code 6 none) : Cond) ∈ gl := gl_i 831 (by decide +kernel) (by decide +kernel)
theorem k_195 : ((.selects "SpaceCycles$Net" ⟨"SpaceCycles$Net", "findLooseEnds", "()V"⟩ ⟨"SpaceCycles$Net", "findLooseEnds", "()V"⟩) : Cond) ∈ gl := gl_s (by decide +kernel) (by decide +kernel)
theorem k_196 : ((.instanceMethod ⟨"SpaceCycles$Net", "findLooseEnds", "()V"⟩) : Cond) ∈ gl := gl_i 830 (by decide +kernel) (by decide +kernel)
theorem k_197 : ((.methodLink "SpaceCycles$Net" 69 ⟨"SpaceCycles$Net", "findLooseEnds", "()V"⟩) : Cond) ∈ gl := gl_i 828 (by decide +kernel) (by decide +kernel)
-- SpaceCycles$Net.build(LSpaceCycles$Lines;LSpaceCycles$Grid;)V
abbrev b_Ne_build : ByteArray := prog_8_method_2_code
abbrev y_Ne_build : MethodName := ⟨"SpaceCycles$Net", "build", "(LSpaceCycles$Lines;LSpaceCycles$Grid;)V"⟩
abbrev w_Ne_build : List Cond := Cond.code y_Ne_build b_Ne_build 4 none :: gl
abbrev rm_Ne_build : Room := { frames := 3, cells := 0, slots := 0, locals := 119 }
theorem d_Ne_build_0 : decode b_Ne_build 0 = .ok (.aload_n 0, 1) := by decide +kernel
theorem d_Ne_build_1 : decode b_Ne_build 1 = .ok (.aload_n 1, 1) := by decide +kernel
theorem d_Ne_build_2 : decode b_Ne_build 2 = .ok (.aload_n 2, 1) := by decide +kernel
theorem d_Ne_build_3 : decode b_Ne_build 3 = .ok (.invokevirtual 52, 3) := by decide +kernel
theorem d_Ne_build_6 : decode b_Ne_build 6 = .ok (.aload_n 0, 1) := by decide +kernel
theorem d_Ne_build_7 : decode b_Ne_build 7 = .ok (.aload_n 2, 1) := by decide +kernel
theorem d_Ne_build_8 : decode b_Ne_build 8 = .ok (.invokevirtual 56, 3) := by decide +kernel
theorem d_Ne_build_11 : decode b_Ne_build 11 = .ok (.aload_n 0, 1) := by decide +kernel
theorem d_Ne_build_12 : decode b_Ne_build 12 = .ok (.iconst 0, 1) := by decide +kernel
theorem d_Ne_build_13 : decode b_Ne_build 13 = .ok (.putfield 25, 3) := by decide +kernel
theorem d_Ne_build_16 : decode b_Ne_build 16 = .ok (.iconst 0, 1) := by decide +kernel
theorem d_Ne_build_17 : decode b_Ne_build 17 = .ok (.istore_n 3, 1) := by decide +kernel
theorem d_Ne_build_18 : decode b_Ne_build 18 = .ok (.iload_n 3, 1) := by decide +kernel
theorem d_Ne_build_19 : decode b_Ne_build 19 = .ok (.aload_n 1, 1) := by decide +kernel
theorem d_Ne_build_20 : decode b_Ne_build 20 = .ok (.getfield 60, 3) := by decide +kernel
theorem d_Ne_build_23 : decode b_Ne_build 23 = .ok (.if_icmp .ge 16, 3) := by decide +kernel
theorem d_Ne_build_26 : decode b_Ne_build 26 = .ok (.aload_n 0, 1) := by decide +kernel
theorem d_Ne_build_27 : decode b_Ne_build 27 = .ok (.aload_n 1, 1) := by decide +kernel
theorem d_Ne_build_28 : decode b_Ne_build 28 = .ok (.iload_n 3, 1) := by decide +kernel
theorem d_Ne_build_29 : decode b_Ne_build 29 = .ok (.aload_n 2, 1) := by decide +kernel
theorem d_Ne_build_30 : decode b_Ne_build 30 = .ok (.invokevirtual 65, 3) := by decide +kernel
theorem d_Ne_build_33 : decode b_Ne_build 33 = .ok (.iinc 3 1, 3) := by decide +kernel
theorem d_Ne_build_36 : decode b_Ne_build 36 = .ok (.goto (-18), 3) := by decide +kernel
theorem d_Ne_build_39 : decode b_Ne_build 39 = .ok (.aload_n 0, 1) := by decide +kernel
theorem d_Ne_build_40 : decode b_Ne_build 40 = .ok (.invokevirtual 69, 3) := by decide +kernel
theorem d_Ne_build_43 : decode b_Ne_build 43 = .ok (.return_, 1) := by decide +kernel
abbrev wl_Ne_build (a_0 : Nat) (a_0_pointX : Nat) (a_0_pointY : Nat) (a_0_looseSides : Nat) (a_0_sidesOut : Nat) (a_0_pieceLine : Nat) (a_0_begins : Nat) (a_0_directions : Nat) (a_0_leftSpaces : Nat) (a_0_weights : Nat) (a_0_pointAt : Nat) (a_1 : Nat) (a_1_lowX : Nat) (a_1_lowY : Nat) (a_1_highX : Nat) (a_1_highY : Nat) (a_2 : Nat) (a_2_xs : Nat) (a_2_xs_places : Nat) (a_2_ys : Nat) (a_2_ys_places : Nat) (a_2_cells : Nat) (b_1_thickness : Nat) (b_1_doors : Nat) (b_1_doorFrom : Nat) (b_1_doorTo : Nat) (cI : ClassId) (v_0_points : Int32) (v_0_pieces : Int32) (v_0_looseEnds : Int32) (f_0_pointX : Nat → Int32) (f_0_pointY : Nat → Int32) (f_0_looseSides : Nat → Int32) (f_0_sidesOut : Nat → Int32) (f_0_pieceLine : Nat → Int32) (f_0_begins : Nat → Int32) (f_0_directions : Nat → Int32) (f_0_leftSpaces : Nat → Int32) (f_0_weights : Nat → Int32) (f_0_pointAt : Nat → Int32) (v_1_count : Int32) (f_1_lowX : Nat → Int32) (f_1_lowY : Nat → Int32) (f_1_highX : Nat → Int32) (f_1_highY : Nat → Int32) (v_2_spaces : Int32) (v_2_xs_count : Int32) (f_2_xs_places : Nat → Int32) (v_2_ys_count : Int32) (f_2_ys_places : Nat → Int32) (f_2_cells : Nat → Int32) : va_W := [(a_0, .inr (3, [.ref a_0_pointX, .ref a_0_pointY, .ref a_0_looseSides, .int v_0_points, .int v_0_pieces, .int v_0_looseEnds, .ref a_0_sidesOut, .ref a_0_pieceLine, .ref a_0_begins, .ref a_0_directions, .ref a_0_leftSpaces, .ref a_0_weights, .ref a_0_pointAt])), (a_0_pointX, .inl (cI, 140, .inl f_0_pointX)), (a_0_pointY, .inl (cI, 140, .inl f_0_pointY)), (a_0_looseSides, .inl (cI, 40, .inl f_0_looseSides)), (a_0_sidesOut, .inl (cI, 560, .inl f_0_sidesOut)), (a_0_pieceLine, .inl (cI, 220, .inl f_0_pieceLine)), (a_0_begins, .inl (cI, 440, .inl f_0_begins)), (a_0_directions, .inl (cI, 440, .inl f_0_directions)), (a_0_leftSpaces, .inl (cI, 440, .inl f_0_leftSpaces)), (a_0_weights, .inl (cI, 1600, .inl f_0_weights)), (a_0_pointAt, .inl (cI, 1600, .inl f_0_pointAt)), (a_1, .inr (1, [.ref a_1_lowX, .ref a_1_lowY, .ref a_1_highX, .ref a_1_highY, .ref b_1_thickness, .ref b_1_doors, .ref b_1_doorFrom, .ref b_1_doorTo, .int v_1_count])), (a_1_lowX, .inl (cI, 20, .inl f_1_lowX)), (a_1_lowY, .inl (cI, 20, .inl f_1_lowY)), (a_1_highX, .inl (cI, 20, .inl f_1_highX)), (a_1_highY, .inl (cI, 20, .inl f_1_highY)), (a_2, .inr (8, [.ref a_2_xs, .ref a_2_ys, .ref a_2_cells, .int v_2_spaces])), (a_2_xs, .inr (9, [.ref a_2_xs_places, .int v_2_xs_count])), (a_2_xs_places, .inl (cI, 40, .inl f_2_xs_places)), (a_2_ys, .inr (9, [.ref a_2_ys_places, .int v_2_ys_count])), (a_2_ys_places, .inl (cI, 40, .inl f_2_ys_places)), (a_2_cells, .inl (cI, 1681, .inl f_2_cells))]
def m_Ne_build_L18 (f_0_pointAt : Nat → Int32) (v_1_count : Int32) (f_1_lowX : Nat → Int32) (f_1_lowY : Nat → Int32) (f_1_highX : Nat → Int32) (f_1_highY : Nat → Int32) (v_2_xs_count : Int32) (f_2_xs_places : Nat → Int32) (v_2_ys_count : Int32) (f_2_ys_places : Nat → Int32) (f_2_cells : Nat → Int32) : Nat → Int32 → Int32 → (Nat → Int32) → (Nat → Int32) → (Nat → Int32) → (Nat → Int32) → (Nat → Int32) → Option ((Int32) × (Nat → Int32) × (Nat → Int32) × (Nat → Int32) × (Nat → Int32) × (Nat → Int32))
  | 0, _, _, _, _, _, _, _ => none
  | n + 1, l3, v_0_pieces, f_0_sidesOut, f_0_pieceLine, f_0_begins, f_0_directions, f_0_leftSpaces =>
    if v_1_count ≤ l3 then (
      some (v_0_pieces, f_0_sidesOut, f_0_pieceLine, f_0_begins, f_0_directions, f_0_leftSpaces))
    else (
      bd6 (m_Ne_cutIntoPieces l3 v_0_pieces f_0_sidesOut f_0_pieceLine f_0_begins f_0_directions f_0_leftSpaces f_0_pointAt f_1_lowX f_1_lowY f_1_highX f_1_highY v_2_xs_count f_2_xs_places v_2_ys_count f_2_ys_places f_2_cells) fun x10 f11 f12 f13 f14 f15 =>
      lt_ (l3 + 1) fun x17 =>
      m_Ne_build_L18 f_0_pointAt v_1_count f_1_lowX f_1_lowY f_1_highX f_1_highY v_2_xs_count f_2_xs_places v_2_ys_count f_2_ys_places f_2_cells n x17 x10 f11 f12 f13 f14 f15)
def m_Ne_build (v_0_points : Int32) (v_0_pieces : Int32) (v_0_looseEnds : Int32) (f_0_pointX : Nat → Int32) (f_0_pointY : Nat → Int32) (f_0_looseSides : Nat → Int32) (f_0_sidesOut : Nat → Int32) (f_0_pieceLine : Nat → Int32) (f_0_begins : Nat → Int32) (f_0_directions : Nat → Int32) (f_0_leftSpaces : Nat → Int32) (f_0_weights : Nat → Int32) (f_0_pointAt : Nat → Int32) (v_1_count : Int32) (f_1_lowX : Nat → Int32) (f_1_lowY : Nat → Int32) (f_1_highX : Nat → Int32) (f_1_highY : Nat → Int32) (v_2_xs_count : Int32) (f_2_xs_places : Nat → Int32) (v_2_ys_count : Int32) (f_2_ys_places : Nat → Int32) (f_2_cells : Nat → Int32) : Option ((Int32) × (Int32) × (Int32) × (Nat → Int32) × (Nat → Int32) × (Nat → Int32) × (Nat → Int32) × (Nat → Int32) × (Nat → Int32) × (Nat → Int32) × (Nat → Int32) × (Nat → Int32) × (Nat → Int32)) :=
  bd1 (m_Ne_weigh f_0_weights v_1_count f_1_lowX f_1_lowY f_1_highX f_1_highY v_2_xs_count f_2_xs_places v_2_ys_count f_2_ys_places) fun f1 =>
  bd5 (m_Ne_numberPoints v_0_points f_0_pointX f_0_pointY f_0_sidesOut f1 f_0_pointAt v_2_xs_count f_2_xs_places v_2_ys_count f_2_ys_places) fun x3 f4 f5 f6 f7 =>
  bd6 (m_Ne_build_L18 f7 v_1_count f_1_lowX f_1_lowY f_1_highX f_1_highY v_2_xs_count f_2_xs_places v_2_ys_count f_2_ys_places f_2_cells fu 0 0 f6 f_0_pieceLine f_0_begins f_0_directions f_0_leftSpaces) fun x16 f17 f18 f19 f20 f21 =>
  bd2 (m_Ne_findLooseEnds x3 v_0_looseEnds f_0_looseSides f17) fun x33 f34 =>
  some (x3, x16, x33, f4, f5, f34, f17, f18, f19, f20, f21, f1, f7)

set_option maxHeartbeats 4000000 in
set_option maxRecDepth 100000 in
theorem t_Ne_build {p : Program} {l : Launch} {e : Env} {s : State} {m : MethodId} {args : Array Value} {below : List Frame} {meth : Method} {c : Code} {A : Nat → Prop} {Q : State → Prop} {dC : Nat → ClassId} {dI : Nat → Nat → Nat} {cI cZ cJ : ClassId} (a_0 a_0_pointX a_0_pointY a_0_looseSides a_0_sidesOut a_0_pieceLine a_0_begins a_0_directions a_0_leftSpaces a_0_weights a_0_pointAt a_1 a_1_lowX a_1_lowY a_1_highX a_1_highY a_2 a_2_xs a_2_xs_places a_2_ys a_2_ys_places a_2_cells b_1_thickness b_1_doors b_1_doorFrom b_1_doorTo : Nat) (v_0_points : Int32) (v_0_pieces : Int32) (v_0_looseEnds : Int32) (f_0_pointX : Nat → Int32) (f_0_pointY : Nat → Int32) (f_0_looseSides : Nat → Int32) (f_0_sidesOut : Nat → Int32) (f_0_pieceLine : Nat → Int32) (f_0_begins : Nat → Int32) (f_0_directions : Nat → Int32) (f_0_leftSpaces : Nat → Int32) (f_0_weights : Nat → Int32) (f_0_pointAt : Nat → Int32) (v_1_count : Int32) (f_1_lowX : Nat → Int32) (f_1_lowY : Nat → Int32) (f_1_highX : Nat → Int32) (f_1_highY : Nat → Int32) (v_2_spaces : Int32) (v_2_xs_count : Int32) (f_2_xs_places : Nat → Int32) (v_2_ys_count : Int32) (f_2_ys_places : Nat → Int32) (f_2_cells : Nat → Int32)  (ov_0_points : Int32) (ov_0_pieces : Int32) (ov_0_looseEnds : Int32) (of_0_pointX : Nat → Int32) (of_0_pointY : Nat → Int32) (of_0_looseSides : Nat → Int32) (of_0_sidesOut : Nat → Int32) (of_0_pieceLine : Nat → Int32) (of_0_begins : Nat → Int32) (of_0_directions : Nat → Int32) (of_0_leftSpaces : Nat → Int32) (of_0_weights : Nat → Int32) (of_0_pointAt : Nat → Int32) (hx : p.tables.exec = Jvm.exec) (hb : c.code = b_Ne_build) (hml : c.maxLocals = 4) (hown : s.vm.findClass "SpaceCycles$Net" = some m.cls) (hts : ∀ w ∈ w_Ne_build, w.before args s = true) (hK : va_K (dC, dI) vwCl [(cI, .int), (cZ, .boolean), (cJ, .long)] s) (hN : NX s) (hA : ∀ q : Nat, s.heap.size ≤ q → A q)
    (hret : ∀ (pc : Nat) (H : Heap) (locs : List Loc) (ls : Array Slot), decode b_Ne_build pc = .ok (.return_, 1) → va_P (dC, dI) vwCl (wl_Ne_build a_0 a_0_pointX a_0_pointY a_0_looseSides a_0_sidesOut a_0_pieceLine a_0_begins a_0_directions a_0_leftSpaces a_0_weights a_0_pointAt a_1 a_1_lowX a_1_lowY a_1_highX a_1_highY a_2 a_2_xs a_2_xs_places a_2_ys a_2_ys_places a_2_cells b_1_thickness b_1_doors b_1_doorFrom b_1_doorTo cI ov_0_points ov_0_pieces ov_0_looseEnds of_0_pointX of_0_pointY of_0_looseSides of_0_sidesOut of_0_pieceLine of_0_begins of_0_directions of_0_leftSpaces of_0_weights of_0_pointAt v_1_count f_1_lowX f_1_lowY f_1_highX f_1_highY v_2_spaces v_2_xs_count f_2_xs_places v_2_ys_count f_2_ys_places f_2_cells) H → va_D A (wl_Ne_build a_0 a_0_pointX a_0_pointY a_0_looseSides a_0_sidesOut a_0_pieceLine a_0_begins a_0_directions a_0_leftSpaces a_0_weights a_0_pointAt a_1 a_1_lowX a_1_lowY a_1_highX a_1_highY a_2 a_2_xs a_2_xs_places a_2_ys a_2_ys_places a_2_cells b_1_thickness b_1_doors b_1_doorFrom b_1_doorTo cI ov_0_points ov_0_pieces ov_0_looseEnds of_0_pointX of_0_pointY of_0_looseSides of_0_sidesOut of_0_pieceLine of_0_begins of_0_directions of_0_leftSpaces of_0_weights of_0_pointAt v_1_count f_1_lowX f_1_lowY f_1_highX f_1_highY v_2_spaces v_2_xs_count f_2_xs_places v_2_ys_count f_2_ys_places f_2_cells) → va_S A s.heap H locs → W p l e rm_Ne_build s m args below meth c H locs 0 0 Q (F0 m pc ls []))
    (hm : m_Ne_build v_0_points v_0_pieces v_0_looseEnds f_0_pointX f_0_pointY f_0_looseSides f_0_sidesOut f_0_pieceLine f_0_begins f_0_directions f_0_leftSpaces f_0_weights f_0_pointAt v_1_count f_1_lowX f_1_lowY f_1_highX f_1_highY v_2_xs_count f_2_xs_places v_2_ys_count f_2_ys_places f_2_cells = some (ov_0_points, ov_0_pieces, ov_0_looseEnds, of_0_pointX, of_0_pointY, of_0_looseSides, of_0_sidesOut, of_0_pieceLine, of_0_begins, of_0_directions, of_0_leftSpaces, of_0_weights, of_0_pointAt)) : ∀ (H : Heap) (locs : List Loc) (ls : Array Slot), va_P (dC, dI) vwCl (wl_Ne_build a_0 a_0_pointX a_0_pointY a_0_looseSides a_0_sidesOut a_0_pieceLine a_0_begins a_0_directions a_0_leftSpaces a_0_weights a_0_pointAt a_1 a_1_lowX a_1_lowY a_1_highX a_1_highY a_2 a_2_xs a_2_xs_places a_2_ys a_2_ys_places a_2_cells b_1_thickness b_1_doors b_1_doorFrom b_1_doorTo cI v_0_points v_0_pieces v_0_looseEnds f_0_pointX f_0_pointY f_0_looseSides f_0_sidesOut f_0_pieceLine f_0_begins f_0_directions f_0_leftSpaces f_0_weights f_0_pointAt v_1_count f_1_lowX f_1_lowY f_1_highX f_1_highY v_2_spaces v_2_xs_count f_2_xs_places v_2_ys_count f_2_ys_places f_2_cells) H → va_D A (wl_Ne_build a_0 a_0_pointX a_0_pointY a_0_looseSides a_0_sidesOut a_0_pieceLine a_0_begins a_0_directions a_0_leftSpaces a_0_weights a_0_pointAt a_1 a_1_lowX a_1_lowY a_1_highX a_1_highY a_2 a_2_xs a_2_xs_places a_2_ys a_2_ys_places a_2_cells b_1_thickness b_1_doors b_1_doorFrom b_1_doorTo cI v_0_points v_0_pieces v_0_looseEnds f_0_pointX f_0_pointY f_0_looseSides f_0_sidesOut f_0_pieceLine f_0_begins f_0_directions f_0_leftSpaces f_0_weights f_0_pointAt v_1_count f_1_lowX f_1_lowY f_1_highX f_1_highY v_2_spaces v_2_xs_count f_2_xs_places v_2_ys_count f_2_ys_places f_2_cells) → va_S A s.heap H locs → lv_has ls 4 [(0, .ref a_0), (1, .ref a_1), (2, .ref a_2)] → W p l e rm_Ne_build s m args below meth c H locs 0 0 Q (F0 m 0 ls []) := by
  intro H locs ls hP hD hS hl
  unfold m_Ne_build at hm
  refine lv_aload_n hx hb d_Ne_build_0 rfl (lv_at hl 0 rfl) ?_
  refine lv_aload_n hx hb d_Ne_build_1 rfl (lv_at hl 1 rfl) ?_
  refine lv_aload_n hx hb d_Ne_build_2 rfl (lv_at hl 2 rfl) ?_
  obtain ⟨f1, hb2, hm⟩ := bd1_e hm
  have hPc := hP.sub (ws' := (wl_Ne_weigh a_0 a_0_weights a_1 a_1_lowX a_1_lowY a_1_highX a_1_highY a_2 a_2_xs a_2_xs_places a_2_ys a_2_ys_places a_0_pointX a_0_pointY a_0_looseSides a_0_sidesOut a_0_pieceLine a_0_begins a_0_directions a_0_leftSpaces a_0_pointAt b_1_thickness b_1_doors b_1_doorFrom b_1_doorTo a_2_cells cI v_0_points v_0_pieces v_0_looseEnds f_0_weights v_1_count f_1_lowX f_1_lowY f_1_highX f_1_highY v_2_spaces v_2_xs_count f_2_xs_places v_2_ys_count f_2_ys_places)) [0, 9, 11, 12, 13, 14, 15, 16, 17, 18, 19, 20] rfl
  have hDc := hD.sub (ws' := (wl_Ne_weigh a_0 a_0_weights a_1 a_1_lowX a_1_lowY a_1_highX a_1_highY a_2 a_2_xs a_2_xs_places a_2_ys a_2_ys_places a_0_pointX a_0_pointY a_0_looseSides a_0_sidesOut a_0_pieceLine a_0_begins a_0_directions a_0_leftSpaces a_0_pointAt b_1_thickness b_1_doors b_1_doorFrom b_1_doorTo a_2_cells cI v_0_points v_0_pieces v_0_looseEnds f_0_weights v_1_count f_1_lowX f_1_lowY f_1_highX f_1_highY v_2_spaces v_2_xs_count f_2_xs_places v_2_ys_count f_2_ys_places)) [0, 9, 11, 12, 13, 14, 15, 16, 17, 18, 19, 20] (by decide) rfl
  refine cl_v (wc' := (wl_Ne_weigh a_0 a_0_weights a_1 a_1_lowX a_1_lowY a_1_highX a_1_highY a_2 a_2_xs a_2_xs_places a_2_ys a_2_ys_places a_0_pointX a_0_pointY a_0_looseSides a_0_sidesOut a_0_pieceLine a_0_begins a_0_directions a_0_leftSpaces a_0_pointAt b_1_thickness b_1_doors b_1_doorFrom b_1_doorTo a_2_cells cI v_0_points v_0_pieces v_0_looseEnds f1 v_1_count f_1_lowX f_1_lowY f_1_highX f_1_highY v_2_spaces v_2_xs_count f_2_xs_places v_2_ys_count f_2_ys_places)) (va_runV (As := [.ref a_1, .ref a_2]) (rest := []) ⟨hx, hb, hml, hown, hts⟩ (c_Ne_weigh l dC dI (cI := cI) (cZ := cZ) (cJ := cJ) a_0 a_0_weights a_1 a_1_lowX a_1_lowY a_1_highX a_1_highY a_2 a_2_xs a_2_xs_places a_2_ys a_2_ys_places a_0_pointX a_0_pointY a_0_looseSides a_0_sidesOut a_0_pieceLine a_0_begins a_0_directions a_0_leftSpaces a_0_pointAt b_1_thickness b_1_doors b_1_doorFrom b_1_doorTo a_2_cells H.size v_0_points v_0_pieces v_0_looseEnds f_0_weights v_1_count f_1_lowX f_1_lowY f_1_highX f_1_highY v_2_spaces v_2_xs_count f_2_xs_places v_2_ys_count f_2_ys_places f1 hb2) (cwV 2 hts (gl_V k_185 k_184 k_183 k_145 k_182) rfl rfl rfl (by decide +kernel) ⟨Nat.le_of_ble_eq_true rfl, Nat.le_of_ble_eq_true rfl⟩) ⟨PP_blind, va_recv hK hPc (ci := 3) (q0 := 0) rfl rfl, fun U hU hW => PP_at hK hN hPc hDc hU hW⟩ rfl rfl hl.1 rfl (lv_room (Nat.le_of_ble_eq_true rfl)) d_Ne_build_3 ⟨Nat.zero_le _, Nat.zero_le _⟩) hP hD hS hA [0, 9, 11, 12, 13, 14, 15, 16, 17, 18, 19, 20] [1, 2, 3, 4, 5, 6, 7, 8, 10, 21] rfl rfl (by decide) (by decide) (fun H locs hP hD hS => ?_)
  have hP : va_P (dC, dI) vwCl (wl_Ne_build a_0 a_0_pointX a_0_pointY a_0_looseSides a_0_sidesOut a_0_pieceLine a_0_begins a_0_directions a_0_leftSpaces a_0_weights a_0_pointAt a_1 a_1_lowX a_1_lowY a_1_highX a_1_highY a_2 a_2_xs a_2_xs_places a_2_ys a_2_ys_places a_2_cells b_1_thickness b_1_doors b_1_doorFrom b_1_doorTo cI v_0_points v_0_pieces v_0_looseEnds f_0_pointX f_0_pointY f_0_looseSides f_0_sidesOut f_0_pieceLine f_0_begins f_0_directions f_0_leftSpaces f1 f_0_pointAt v_1_count f_1_lowX f_1_lowY f_1_highX f_1_highY v_2_spaces v_2_xs_count f_2_xs_places v_2_ys_count f_2_ys_places f_2_cells) H := hP.sub [10, 0, 1, 2, 3, 4, 5, 6, 7, 11, 8, 12, 13, 14, 15, 16, 17, 18, 19, 20, 21, 9] rfl
  have hD : va_D A (wl_Ne_build a_0 a_0_pointX a_0_pointY a_0_looseSides a_0_sidesOut a_0_pieceLine a_0_begins a_0_directions a_0_leftSpaces a_0_weights a_0_pointAt a_1 a_1_lowX a_1_lowY a_1_highX a_1_highY a_2 a_2_xs a_2_xs_places a_2_ys a_2_ys_places a_2_cells b_1_thickness b_1_doors b_1_doorFrom b_1_doorTo cI v_0_points v_0_pieces v_0_looseEnds f_0_pointX f_0_pointY f_0_looseSides f_0_sidesOut f_0_pieceLine f_0_begins f_0_directions f_0_leftSpaces f1 f_0_pointAt v_1_count f_1_lowX f_1_lowY f_1_highX f_1_highY v_2_spaces v_2_xs_count f_2_xs_places v_2_ys_count f_2_ys_places f_2_cells) := hD.sub [10, 0, 1, 2, 3, 4, 5, 6, 7, 11, 8, 12, 13, 14, 15, 16, 17, 18, 19, 20, 21, 9] (by decide) rfl
  refine lv_aload_n hx hb d_Ne_build_6 rfl (lv_at hl 0 rfl) ?_
  refine lv_aload_n hx hb d_Ne_build_7 rfl (lv_at hl 2 rfl) ?_
  obtain ⟨x3, f4, f5, f6, f7, hb8, hm⟩ := bd5_e hm
  have hPc := hP.sub (ws' := (wl_Ne_numberPoints a_0 a_0_pointX a_0_pointY a_0_sidesOut a_0_weights a_0_pointAt a_2 a_2_xs a_2_xs_places a_2_ys a_2_ys_places a_0_looseSides a_0_pieceLine a_0_begins a_0_directions a_0_leftSpaces a_2_cells cI v_0_points v_0_pieces v_0_looseEnds f_0_pointX f_0_pointY f_0_sidesOut f1 f_0_pointAt v_2_spaces v_2_xs_count f_2_xs_places v_2_ys_count f_2_ys_places)) [0, 1, 2, 4, 9, 10, 16, 17, 18, 19, 20] rfl
  have hDc := hD.sub (ws' := (wl_Ne_numberPoints a_0 a_0_pointX a_0_pointY a_0_sidesOut a_0_weights a_0_pointAt a_2 a_2_xs a_2_xs_places a_2_ys a_2_ys_places a_0_looseSides a_0_pieceLine a_0_begins a_0_directions a_0_leftSpaces a_2_cells cI v_0_points v_0_pieces v_0_looseEnds f_0_pointX f_0_pointY f_0_sidesOut f1 f_0_pointAt v_2_spaces v_2_xs_count f_2_xs_places v_2_ys_count f_2_ys_places)) [0, 1, 2, 4, 9, 10, 16, 17, 18, 19, 20] (by decide) rfl
  refine cl_v (wc' := (wl_Ne_numberPoints a_0 a_0_pointX a_0_pointY a_0_sidesOut a_0_weights a_0_pointAt a_2 a_2_xs a_2_xs_places a_2_ys a_2_ys_places a_0_looseSides a_0_pieceLine a_0_begins a_0_directions a_0_leftSpaces a_2_cells cI x3 v_0_pieces v_0_looseEnds f4 f5 f6 f1 f7 v_2_spaces v_2_xs_count f_2_xs_places v_2_ys_count f_2_ys_places)) (va_runV (As := [.ref a_2]) (rest := []) ⟨hx, hb, hml, hown, hts⟩ (c_Ne_numberPoints l dC dI (cI := cI) (cZ := cZ) (cJ := cJ) a_0 a_0_pointX a_0_pointY a_0_sidesOut a_0_weights a_0_pointAt a_2 a_2_xs a_2_xs_places a_2_ys a_2_ys_places a_0_looseSides a_0_pieceLine a_0_begins a_0_directions a_0_leftSpaces a_2_cells H.size v_0_points v_0_pieces v_0_looseEnds f_0_pointX f_0_pointY f_0_sidesOut f1 f_0_pointAt v_2_spaces v_2_xs_count f_2_xs_places v_2_ys_count f_2_ys_places x3 f4 f5 f6 f7 hb8) (cwV 1 hts (gl_V k_189 k_188 k_187 k_145 k_186) rfl rfl rfl (by decide +kernel) ⟨Nat.le_of_ble_eq_true rfl, Nat.le_of_ble_eq_true rfl⟩) ⟨PP_blind, va_recv hK hPc (ci := 3) (q0 := 0) rfl rfl, fun U hU hW => PP_at hK hN hPc hDc hU hW⟩ rfl rfl hl.1 rfl (lv_room (Nat.le_of_ble_eq_true rfl)) d_Ne_build_8 ⟨Nat.zero_le _, Nat.zero_le _⟩) hP hD hS hA [0, 1, 2, 4, 9, 10, 16, 17, 18, 19, 20] [3, 5, 6, 7, 8, 11, 12, 13, 14, 15, 21] rfl rfl (by decide) (by decide) (fun H locs hP hD hS => ?_)
  have hP : va_P (dC, dI) vwCl (wl_Ne_build a_0 a_0_pointX a_0_pointY a_0_looseSides a_0_sidesOut a_0_pieceLine a_0_begins a_0_directions a_0_leftSpaces a_0_weights a_0_pointAt a_1 a_1_lowX a_1_lowY a_1_highX a_1_highY a_2 a_2_xs a_2_xs_places a_2_ys a_2_ys_places a_2_cells b_1_thickness b_1_doors b_1_doorFrom b_1_doorTo cI x3 v_0_pieces v_0_looseEnds f4 f5 f_0_looseSides f6 f_0_pieceLine f_0_begins f_0_directions f_0_leftSpaces f1 f7 v_1_count f_1_lowX f_1_lowY f_1_highX f_1_highY v_2_spaces v_2_xs_count f_2_xs_places v_2_ys_count f_2_ys_places f_2_cells) H := hP.sub [11, 12, 13, 0, 14, 1, 2, 3, 4, 15, 16, 5, 6, 7, 8, 9, 17, 18, 19, 20, 21, 10] rfl
  have hD : va_D A (wl_Ne_build a_0 a_0_pointX a_0_pointY a_0_looseSides a_0_sidesOut a_0_pieceLine a_0_begins a_0_directions a_0_leftSpaces a_0_weights a_0_pointAt a_1 a_1_lowX a_1_lowY a_1_highX a_1_highY a_2 a_2_xs a_2_xs_places a_2_ys a_2_ys_places a_2_cells b_1_thickness b_1_doors b_1_doorFrom b_1_doorTo cI x3 v_0_pieces v_0_looseEnds f4 f5 f_0_looseSides f6 f_0_pieceLine f_0_begins f_0_directions f_0_leftSpaces f1 f7 v_1_count f_1_lowX f_1_lowY f_1_highX f_1_highY v_2_spaces v_2_xs_count f_2_xs_places v_2_ys_count f_2_ys_places f_2_cells) := hD.sub [11, 12, 13, 0, 14, 1, 2, 3, 4, 15, 16, 5, 6, 7, 8, 9, 17, 18, 19, 20, 21, 10] (by decide) rfl
  refine lv_aload_n hx hb d_Ne_build_11 rfl (lv_at hl 0 rfl) ?_
  refine lv_iconst (v := 0) hx hb d_Ne_build_12 (by decide) ?_
  refine va_put (D := (dC, dI)) (ci := 3) (v := .int 0) (ty := .int) (C := "SpaceCycles$Net") (T := F_Ne) (N := 13) hx hb hts (in_F i_Ne) t_Ne t_Ne_ok n_Ne hown hK hP hD hS 0 rfl rfl 4 (by decide) (hts _ (in_c k_174)) (fun _ h9 => h9) rfl (by decide +kernel) rfl rfl (Nat.le_of_ble_eq_true rfl) d_Ne_build_13 (fun H locs hP hD hS => ?_)
  have hP : va_P (dC, dI) vwCl (wl_Ne_build a_0 a_0_pointX a_0_pointY a_0_looseSides a_0_sidesOut a_0_pieceLine a_0_begins a_0_directions a_0_leftSpaces a_0_weights a_0_pointAt a_1 a_1_lowX a_1_lowY a_1_highX a_1_highY a_2 a_2_xs a_2_xs_places a_2_ys a_2_ys_places a_2_cells b_1_thickness b_1_doors b_1_doorFrom b_1_doorTo cI x3 0 v_0_looseEnds f4 f5 f_0_looseSides f6 f_0_pieceLine f_0_begins f_0_directions f_0_leftSpaces f1 f7 v_1_count f_1_lowX f_1_lowY f_1_highX f_1_highY v_2_spaces v_2_xs_count f_2_xs_places v_2_ys_count f_2_ys_places f_2_cells) H := hP
  have hD : va_D A (wl_Ne_build a_0 a_0_pointX a_0_pointY a_0_looseSides a_0_sidesOut a_0_pieceLine a_0_begins a_0_directions a_0_leftSpaces a_0_weights a_0_pointAt a_1 a_1_lowX a_1_lowY a_1_highX a_1_highY a_2 a_2_xs a_2_xs_places a_2_ys a_2_ys_places a_2_cells b_1_thickness b_1_doors b_1_doorFrom b_1_doorTo cI x3 0 v_0_looseEnds f4 f5 f_0_looseSides f6 f_0_pieceLine f_0_begins f_0_directions f_0_leftSpaces f1 f7 v_1_count f_1_lowX f_1_lowY f_1_highX f_1_highY v_2_spaces v_2_xs_count f_2_xs_places v_2_ys_count f_2_ys_places f_2_cells) := hD
  refine lv_iconst (v := 0) hx hb d_Ne_build_16 (by decide) ?_
  refine lv_istore_n (lv' := [(3, .int 0), (0, .ref a_0), (1, .ref a_1), (2, .ref a_2)]) hx hb d_Ne_build_17 rfl hl (by decide) rfl (fun ls hl => ?_)
  have L18_22 : ∀ (n : Nat) (x9 : Int32) (x10 : Int32) (f11 : Nat → Int32) (f12 : Nat → Int32) (f13 : Nat → Int32) (f14 : Nat → Int32) (f15 : Nat → Int32) (x16 : Int32) (f17 : Nat → Int32) (f18 : Nat → Int32) (f19 : Nat → Int32) (f20 : Nat → Int32) (f21 : Nat → Int32), m_Ne_build_L18 f7 v_1_count f_1_lowX f_1_lowY f_1_highX f_1_highY v_2_xs_count f_2_xs_places v_2_ys_count f_2_ys_places f_2_cells n x9 x10 f11 f12 f13 f14 f15 = some (x16, f17, f18, f19, f20, f21) → (∀ (H : Heap) (locs : List Loc) (ls : Array Slot), va_P (dC, dI) vwCl (wl_Ne_build a_0 a_0_pointX a_0_pointY a_0_looseSides a_0_sidesOut a_0_pieceLine a_0_begins a_0_directions a_0_leftSpaces a_0_weights a_0_pointAt a_1 a_1_lowX a_1_lowY a_1_highX a_1_highY a_2 a_2_xs a_2_xs_places a_2_ys a_2_ys_places a_2_cells b_1_thickness b_1_doors b_1_doorFrom b_1_doorTo cI x3 x16 v_0_looseEnds f4 f5 f_0_looseSides f17 f18 f19 f20 f21 f1 f7 v_1_count f_1_lowX f_1_lowY f_1_highX f_1_highY v_2_spaces v_2_xs_count f_2_xs_places v_2_ys_count f_2_ys_places f_2_cells) H → va_D A (wl_Ne_build a_0 a_0_pointX a_0_pointY a_0_looseSides a_0_sidesOut a_0_pieceLine a_0_begins a_0_directions a_0_leftSpaces a_0_weights a_0_pointAt a_1 a_1_lowX a_1_lowY a_1_highX a_1_highY a_2 a_2_xs a_2_xs_places a_2_ys a_2_ys_places a_2_cells b_1_thickness b_1_doors b_1_doorFrom b_1_doorTo cI x3 x16 v_0_looseEnds f4 f5 f_0_looseSides f17 f18 f19 f20 f21 f1 f7 v_1_count f_1_lowX f_1_lowY f_1_highX f_1_highY v_2_spaces v_2_xs_count f_2_xs_places v_2_ys_count f_2_ys_places f_2_cells) → va_S A s.heap H locs → lv_has ls 4 [(0, .ref a_0)] → W p l e rm_Ne_build s m args below meth c H locs 0 0 Q (F0 m 39 ls [])) → ∀ (H : Heap) (locs : List Loc) (ls : Array Slot), va_P (dC, dI) vwCl (wl_Ne_build a_0 a_0_pointX a_0_pointY a_0_looseSides a_0_sidesOut a_0_pieceLine a_0_begins a_0_directions a_0_leftSpaces a_0_weights a_0_pointAt a_1 a_1_lowX a_1_lowY a_1_highX a_1_highY a_2 a_2_xs a_2_xs_places a_2_ys a_2_ys_places a_2_cells b_1_thickness b_1_doors b_1_doorFrom b_1_doorTo cI x3 x10 v_0_looseEnds f4 f5 f_0_looseSides f11 f12 f13 f14 f15 f1 f7 v_1_count f_1_lowX f_1_lowY f_1_highX f_1_highY v_2_spaces v_2_xs_count f_2_xs_places v_2_ys_count f_2_ys_places f_2_cells) H → va_D A (wl_Ne_build a_0 a_0_pointX a_0_pointY a_0_looseSides a_0_sidesOut a_0_pieceLine a_0_begins a_0_directions a_0_leftSpaces a_0_weights a_0_pointAt a_1 a_1_lowX a_1_lowY a_1_highX a_1_highY a_2 a_2_xs a_2_xs_places a_2_ys a_2_ys_places a_2_cells b_1_thickness b_1_doors b_1_doorFrom b_1_doorTo cI x3 x10 v_0_looseEnds f4 f5 f_0_looseSides f11 f12 f13 f14 f15 f1 f7 v_1_count f_1_lowX f_1_lowY f_1_highX f_1_highY v_2_spaces v_2_xs_count f_2_xs_places v_2_ys_count f_2_ys_places f_2_cells) → va_S A s.heap H locs → lv_has ls 4 [(0, .ref a_0), (1, .ref a_1), (2, .ref a_2), (3, .int x9)] → W p l e rm_Ne_build s m args below meth c H locs 0 0 Q (F0 m 18 ls []) := by
    intro n
    induction n with
    | zero => intro x9 x10 f11 f12 f13 f14 f15 x16 f17 f18 f19 f20 f21 hm; simp [m_Ne_build_L18] at hm
    | succ n ih =>
      intro x9 x10 f11 f12 f13 f14 f15 x16 f17 f18 f19 f20 f21 hm KE H locs ls hP hD hS hl
      rw [m_Ne_build_L18] at hm
      refine lv_iload_n hx hb d_Ne_build_18 rfl (lv_at hl 3 rfl) ?_
      refine lv_aload_n hx hb d_Ne_build_19 rfl (lv_at hl 1 rfl) ?_
      refine va_get (D := (dC, dI)) (ci := 1) (v := .int v_1_count) (C := "SpaceCycles$Lines") (T := F_Li) (N := 9) hx hb hts (in_F i_Li) hown hK hP 11 rfl rfl 8 (by decide) (hts _ (in_c k_149)) (fun _ h9 => h9) rfl d_Ne_build_20 ?_
      refine lv_icmp_ge (tgt := 39) hx hb d_Ne_build_23 (by decide) (fun c23 => ?_) (fun c23 => ?_)
      · replace hm := if_t hm c23
        cases hm
        exact KE H locs ls hP hD hS (lv_sub hl [0] rfl)
      · replace hm := if_f hm c23
        refine lv_aload_n hx hb d_Ne_build_26 rfl (lv_at hl 0 rfl) ?_
        refine lv_aload_n hx hb d_Ne_build_27 rfl (lv_at hl 1 rfl) ?_
        refine lv_iload_n hx hb d_Ne_build_28 rfl (lv_at hl 3 rfl) ?_
        refine lv_aload_n hx hb d_Ne_build_29 rfl (lv_at hl 2 rfl) ?_
        obtain ⟨x24, f25, f26, f27, f28, f29, hb30, hm⟩ := bd6_e hm
        have hPc := hP.sub (ws' := (wl_Ne_cutIntoPieces a_0 a_0_sidesOut a_0_pieceLine a_0_begins a_0_directions a_0_leftSpaces a_0_pointAt a_1 a_1_lowX a_1_lowY a_1_highX a_1_highY a_2 a_2_xs a_2_xs_places a_2_ys a_2_ys_places a_2_cells a_0_pointX a_0_pointY a_0_looseSides a_0_weights b_1_thickness b_1_doors b_1_doorFrom b_1_doorTo cI x3 x10 v_0_looseEnds f11 f12 f13 f14 f15 f7 v_1_count f_1_lowX f_1_lowY f_1_highX f_1_highY v_2_spaces v_2_xs_count f_2_xs_places v_2_ys_count f_2_ys_places f_2_cells)) [0, 4, 5, 6, 7, 8, 10, 11, 12, 13, 14, 15, 16, 17, 18, 19, 20, 21] rfl
        have hDc := hD.sub (ws' := (wl_Ne_cutIntoPieces a_0 a_0_sidesOut a_0_pieceLine a_0_begins a_0_directions a_0_leftSpaces a_0_pointAt a_1 a_1_lowX a_1_lowY a_1_highX a_1_highY a_2 a_2_xs a_2_xs_places a_2_ys a_2_ys_places a_2_cells a_0_pointX a_0_pointY a_0_looseSides a_0_weights b_1_thickness b_1_doors b_1_doorFrom b_1_doorTo cI x3 x10 v_0_looseEnds f11 f12 f13 f14 f15 f7 v_1_count f_1_lowX f_1_lowY f_1_highX f_1_highY v_2_spaces v_2_xs_count f_2_xs_places v_2_ys_count f_2_ys_places f_2_cells)) [0, 4, 5, 6, 7, 8, 10, 11, 12, 13, 14, 15, 16, 17, 18, 19, 20, 21] (by decide) rfl
        refine cl_v (wc' := (wl_Ne_cutIntoPieces a_0 a_0_sidesOut a_0_pieceLine a_0_begins a_0_directions a_0_leftSpaces a_0_pointAt a_1 a_1_lowX a_1_lowY a_1_highX a_1_highY a_2 a_2_xs a_2_xs_places a_2_ys a_2_ys_places a_2_cells a_0_pointX a_0_pointY a_0_looseSides a_0_weights b_1_thickness b_1_doors b_1_doorFrom b_1_doorTo cI x3 x24 v_0_looseEnds f25 f26 f27 f28 f29 f7 v_1_count f_1_lowX f_1_lowY f_1_highX f_1_highY v_2_spaces v_2_xs_count f_2_xs_places v_2_ys_count f_2_ys_places f_2_cells)) (va_runV (As := [.ref a_1, .int x9, .ref a_2]) (rest := []) ⟨hx, hb, hml, hown, hts⟩ (c_Ne_cutIntoPieces l dC dI (cI := cI) (cZ := cZ) (cJ := cJ) a_0 a_0_sidesOut a_0_pieceLine a_0_begins a_0_directions a_0_leftSpaces a_0_pointAt a_1 a_1_lowX a_1_lowY a_1_highX a_1_highY a_2 a_2_xs a_2_xs_places a_2_ys a_2_ys_places a_2_cells a_0_pointX a_0_pointY a_0_looseSides a_0_weights b_1_thickness b_1_doors b_1_doorFrom b_1_doorTo H.size x3 x10 v_0_looseEnds f11 f12 f13 f14 f15 f7 v_1_count f_1_lowX f_1_lowY f_1_highX f_1_highY v_2_spaces v_2_xs_count f_2_xs_places v_2_ys_count f_2_ys_places f_2_cells x9 x24 f25 f26 f27 f28 f29 hb30) (cwV 3 hts (gl_V k_193 k_192 k_191 k_145 k_190) rfl rfl rfl (by decide +kernel) ⟨Nat.le_of_ble_eq_true rfl, Nat.le_of_ble_eq_true rfl⟩) ⟨PP_blind, va_recv hK hPc (ci := 3) (q0 := 0) rfl rfl, fun U hU hW => PP_at hK hN hPc hDc hU hW⟩ rfl rfl hl.1 rfl (lv_room (Nat.le_of_ble_eq_true rfl)) d_Ne_build_30 ⟨Nat.zero_le _, Nat.zero_le _⟩) hP hD hS hA [0, 4, 5, 6, 7, 8, 10, 11, 12, 13, 14, 15, 16, 17, 18, 19, 20, 21] [1, 2, 3, 9] rfl rfl (by decide) (by decide) (fun H locs hP hD hS => ?_)
        have hP : va_P (dC, dI) vwCl (wl_Ne_build a_0 a_0_pointX a_0_pointY a_0_looseSides a_0_sidesOut a_0_pieceLine a_0_begins a_0_directions a_0_leftSpaces a_0_weights a_0_pointAt a_1 a_1_lowX a_1_lowY a_1_highX a_1_highY a_2 a_2_xs a_2_xs_places a_2_ys a_2_ys_places a_2_cells b_1_thickness b_1_doors b_1_doorFrom b_1_doorTo cI x3 x24 v_0_looseEnds f4 f5 f_0_looseSides f25 f26 f27 f28 f29 f1 f7 v_1_count f_1_lowX f_1_lowY f_1_highX f_1_highY v_2_spaces v_2_xs_count f_2_xs_places v_2_ys_count f_2_ys_places f_2_cells) H := hP.sub [4, 0, 1, 2, 5, 6, 7, 8, 9, 3, 10, 11, 12, 13, 14, 15, 16, 17, 18, 19, 20, 21] rfl
        have hD : va_D A (wl_Ne_build a_0 a_0_pointX a_0_pointY a_0_looseSides a_0_sidesOut a_0_pieceLine a_0_begins a_0_directions a_0_leftSpaces a_0_weights a_0_pointAt a_1 a_1_lowX a_1_lowY a_1_highX a_1_highY a_2 a_2_xs a_2_xs_places a_2_ys a_2_ys_places a_2_cells b_1_thickness b_1_doors b_1_doorFrom b_1_doorTo cI x3 x24 v_0_looseEnds f4 f5 f_0_looseSides f25 f26 f27 f28 f29 f1 f7 v_1_count f_1_lowX f_1_lowY f_1_highX f_1_highY v_2_spaces v_2_xs_count f_2_xs_places v_2_ys_count f_2_ys_places f_2_cells) := hD.sub [4, 0, 1, 2, 5, 6, 7, 8, 9, 3, 10, 11, 12, 13, 14, 15, 16, 17, 18, 19, 20, 21] (by decide) rfl
        obtain ⟨x31, ex31⟩ : ∃ y : Int32, y = x9 + 1 := ⟨_, rfl⟩
        replace hm := lt_el hm ex31
        refine lv_iinc (v := x31) (lv' := [(3, .int x31), (0, .ref a_0), (1, .ref a_1), (2, .ref a_2)]) hx hb d_Ne_build_33 hl (k := 3) rfl (by rw [ex31]; rfl) (by decide) rfl (fun ls hl => ?_)
        refine lv_goto (tgt := 18) hx hb d_Ne_build_36 (by decide) ?_
        exact ih _ _ _ _ _ _ _ _ _ _ _ _ _ hm KE H locs ls hP hD hS (lv_sub hl [1, 2, 3, 0] rfl)
  obtain ⟨x16, f17, f18, f19, f20, f21, hb32, hm⟩ := bd6_e hm
  refine L18_22 fu _ _ _ _ _ _ _ _ _ _ _ _ _ hb32 (fun H locs ls hP hD hS hl => ?_) H locs ls hP hD hS (lv_sub hl [1, 2, 3, 0] rfl)
  refine lv_aload_n hx hb d_Ne_build_39 rfl (lv_at hl 0 rfl) ?_
  obtain ⟨x33, f34, hb35, hm⟩ := bd2_e hm
  have hPc := hP.sub (ws' := (wl_Ne_findLooseEnds a_0 a_0_looseSides a_0_sidesOut a_0_pointX a_0_pointY a_0_pieceLine a_0_begins a_0_directions a_0_leftSpaces a_0_weights a_0_pointAt cI x3 x16 v_0_looseEnds f_0_looseSides f17)) [0, 3, 4] rfl
  have hDc := hD.sub (ws' := (wl_Ne_findLooseEnds a_0 a_0_looseSides a_0_sidesOut a_0_pointX a_0_pointY a_0_pieceLine a_0_begins a_0_directions a_0_leftSpaces a_0_weights a_0_pointAt cI x3 x16 v_0_looseEnds f_0_looseSides f17)) [0, 3, 4] (by decide) rfl
  refine cl_v (wc' := (wl_Ne_findLooseEnds a_0 a_0_looseSides a_0_sidesOut a_0_pointX a_0_pointY a_0_pieceLine a_0_begins a_0_directions a_0_leftSpaces a_0_weights a_0_pointAt cI x3 x16 x33 f34 f17)) (va_runV (As := []) (rest := []) ⟨hx, hb, hml, hown, hts⟩ (c_Ne_findLooseEnds l dC dI (cI := cI) (cZ := cZ) (cJ := cJ) a_0 a_0_looseSides a_0_sidesOut a_0_pointX a_0_pointY a_0_pieceLine a_0_begins a_0_directions a_0_leftSpaces a_0_weights a_0_pointAt H.size x3 x16 v_0_looseEnds f_0_looseSides f17 x33 f34 hb35) (cwV 0 hts (gl_V k_197 k_196 k_195 k_145 k_194) rfl rfl rfl (by decide +kernel) ⟨Nat.le_of_ble_eq_true rfl, Nat.le_of_ble_eq_true rfl⟩) ⟨PP_blind, va_recv hK hPc (ci := 3) (q0 := 0) rfl rfl, fun U hU hW => PP_at hK hN hPc hDc hU hW⟩ rfl rfl hl.1 rfl (lv_room (Nat.le_of_ble_eq_true rfl)) d_Ne_build_40 ⟨Nat.zero_le _, Nat.zero_le _⟩) hP hD hS hA [0, 3, 4] [1, 2, 5, 6, 7, 8, 9, 10, 11, 12, 13, 14, 15, 16, 17, 18, 19, 20, 21] rfl rfl (by decide) (by decide) (fun H locs hP hD hS => ?_)
  have hP : va_P (dC, dI) vwCl (wl_Ne_build a_0 a_0_pointX a_0_pointY a_0_looseSides a_0_sidesOut a_0_pieceLine a_0_begins a_0_directions a_0_leftSpaces a_0_weights a_0_pointAt a_1 a_1_lowX a_1_lowY a_1_highX a_1_highY a_2 a_2_xs a_2_xs_places a_2_ys a_2_ys_places a_2_cells b_1_thickness b_1_doors b_1_doorFrom b_1_doorTo cI x3 x16 x33 f4 f5 f34 f17 f18 f19 f20 f21 f1 f7 v_1_count f_1_lowX f_1_lowY f_1_highX f_1_highY v_2_spaces v_2_xs_count f_2_xs_places v_2_ys_count f_2_ys_places f_2_cells) H := hP.sub [19, 0, 1, 20, 21, 2, 3, 4, 5, 6, 7, 8, 9, 10, 11, 12, 13, 14, 15, 16, 17, 18] rfl
  have hD : va_D A (wl_Ne_build a_0 a_0_pointX a_0_pointY a_0_looseSides a_0_sidesOut a_0_pieceLine a_0_begins a_0_directions a_0_leftSpaces a_0_weights a_0_pointAt a_1 a_1_lowX a_1_lowY a_1_highX a_1_highY a_2 a_2_xs a_2_xs_places a_2_ys a_2_ys_places a_2_cells b_1_thickness b_1_doors b_1_doorFrom b_1_doorTo cI x3 x16 x33 f4 f5 f34 f17 f18 f19 f20 f21 f1 f7 v_1_count f_1_lowX f_1_lowY f_1_highX f_1_highY v_2_spaces v_2_xs_count f_2_xs_places v_2_ys_count f_2_ys_places f_2_cells) := hD.sub [19, 0, 1, 20, 21, 2, 3, 4, 5, 6, 7, 8, 9, 10, 11, 12, 13, 14, 15, 16, 17, 18] (by decide) rfl
  cases hm
  exact hret _ H locs ls d_Ne_build_43 hP hD hS
set_option maxHeartbeats 4000000 in
set_option maxRecDepth 100000 in
theorem c_Ne_build (l : Launch) (dC : Nat → ClassId) (dI : Nat → Nat → Nat) {cI cZ cJ : ClassId} (a_0 a_0_pointX a_0_pointY a_0_looseSides a_0_sidesOut a_0_pieceLine a_0_begins a_0_directions a_0_leftSpaces a_0_weights a_0_pointAt a_1 a_1_lowX a_1_lowY a_1_highX a_1_highY a_2 a_2_xs a_2_xs_places a_2_ys a_2_ys_places a_2_cells b_1_thickness b_1_doors b_1_doorFrom b_1_doorTo : Nat) (sz : Nat) (v_0_points : Int32) (v_0_pieces : Int32) (v_0_looseEnds : Int32) (f_0_pointX : Nat → Int32) (f_0_pointY : Nat → Int32) (f_0_looseSides : Nat → Int32) (f_0_sidesOut : Nat → Int32) (f_0_pieceLine : Nat → Int32) (f_0_begins : Nat → Int32) (f_0_directions : Nat → Int32) (f_0_leftSpaces : Nat → Int32) (f_0_weights : Nat → Int32) (f_0_pointAt : Nat → Int32) (v_1_count : Int32) (f_1_lowX : Nat → Int32) (f_1_lowY : Nat → Int32) (f_1_highX : Nat → Int32) (f_1_highY : Nat → Int32) (v_2_spaces : Int32) (v_2_xs_count : Int32) (f_2_xs_places : Nat → Int32) (v_2_ys_count : Int32) (f_2_ys_places : Nat → Int32) (f_2_cells : Nat → Int32)  (ov_0_points : Int32) (ov_0_pieces : Int32) (ov_0_looseEnds : Int32) (of_0_pointX : Nat → Int32) (of_0_pointY : Nat → Int32) (of_0_looseSides : Nat → Int32) (of_0_sidesOut : Nat → Int32) (of_0_pieceLine : Nat → Int32) (of_0_begins : Nat → Int32) (of_0_directions : Nat → Int32) (of_0_leftSpaces : Nat → Int32) (of_0_weights : Nat → Int32) (of_0_pointAt : Nat → Int32) (hm : m_Ne_build v_0_points v_0_pieces v_0_looseEnds f_0_pointX f_0_pointY f_0_looseSides f_0_sidesOut f_0_pieceLine f_0_begins f_0_directions f_0_leftSpaces f_0_weights f_0_pointAt v_1_count f_1_lowX f_1_lowY f_1_highX f_1_highY v_2_xs_count f_2_xs_places v_2_ys_count f_2_ys_places f_2_cells = some (ov_0_points, ov_0_pieces, ov_0_looseEnds, of_0_pointX, of_0_pointY, of_0_looseSides, of_0_sidesOut, of_0_pieceLine, of_0_begins, of_0_directions, of_0_leftSpaces, of_0_weights, of_0_pointAt)) : Met l y_Ne_build w_Ne_build rm_Ne_build (PP dC dI [(cI, .int), (cZ, .boolean), (cJ, .long)] [.ref a_0, .ref a_1, .ref a_2] sz (wl_Ne_build a_0 a_0_pointX a_0_pointY a_0_looseSides a_0_sidesOut a_0_pieceLine a_0_begins a_0_directions a_0_leftSpaces a_0_weights a_0_pointAt a_1 a_1_lowX a_1_lowY a_1_highX a_1_highY a_2 a_2_xs a_2_xs_places a_2_ys a_2_ys_places a_2_cells b_1_thickness b_1_doors b_1_doorFrom b_1_doorTo cI v_0_points v_0_pieces v_0_looseEnds f_0_pointX f_0_pointY f_0_looseSides f_0_sidesOut f_0_pieceLine f_0_begins f_0_directions f_0_leftSpaces f_0_weights f_0_pointAt v_1_count f_1_lowX f_1_lowY f_1_highX f_1_highY v_2_spaces v_2_xs_count f_2_xs_places v_2_ys_count f_2_ys_places f_2_cells)) (QV dC dI [(cI, .int), (cZ, .boolean), (cJ, .long)] sz (wl_Ne_build a_0 a_0_pointX a_0_pointY a_0_looseSides a_0_sidesOut a_0_pieceLine a_0_begins a_0_directions a_0_leftSpaces a_0_weights a_0_pointAt a_1 a_1_lowX a_1_lowY a_1_highX a_1_highY a_2 a_2_xs a_2_xs_places a_2_ys a_2_ys_places a_2_cells b_1_thickness b_1_doors b_1_doorFrom b_1_doorTo cI v_0_points v_0_pieces v_0_looseEnds f_0_pointX f_0_pointY f_0_looseSides f_0_sidesOut f_0_pieceLine f_0_begins f_0_directions f_0_leftSpaces f_0_weights f_0_pointAt v_1_count f_1_lowX f_1_lowY f_1_highX f_1_highY v_2_spaces v_2_xs_count f_2_xs_places v_2_ys_count f_2_ys_places f_2_cells) (wl_Ne_build a_0 a_0_pointX a_0_pointY a_0_looseSides a_0_sidesOut a_0_pieceLine a_0_begins a_0_directions a_0_leftSpaces a_0_weights a_0_pointAt a_1 a_1_lowX a_1_lowY a_1_highX a_1_highY a_2 a_2_xs a_2_xs_places a_2_ys a_2_ys_places a_2_cells b_1_thickness b_1_doors b_1_doorFrom b_1_doorTo cI ov_0_points ov_0_pieces ov_0_looseEnds of_0_pointX of_0_pointY of_0_looseSides of_0_sidesOut of_0_pieceLine of_0_begins of_0_directions of_0_leftSpaces of_0_weights of_0_pointAt v_1_count f_1_lowX f_1_lowY f_1_highX f_1_highY v_2_spaces v_2_xs_count f_2_xs_places v_2_ys_count f_2_ys_places f_2_cells)) 0 0 (va_A (wl_Ne_build a_0 a_0_pointX a_0_pointY a_0_looseSides a_0_sidesOut a_0_pieceLine a_0_begins a_0_directions a_0_leftSpaces a_0_weights a_0_pointAt a_1 a_1_lowX a_1_lowY a_1_highX a_1_highY a_2 a_2_xs a_2_xs_places a_2_ys a_2_ys_places a_2_cells b_1_thickness b_1_doors b_1_doorFrom b_1_doorTo cI v_0_points v_0_pieces v_0_looseEnds f_0_pointX f_0_pointY f_0_looseSides f_0_sidesOut f_0_pieceLine f_0_begins f_0_directions f_0_leftSpaces f_0_weights f_0_pointAt v_1_count f_1_lowX f_1_lowY f_1_highX f_1_highY v_2_spaces v_2_xs_count f_2_xs_places v_2_ys_count f_2_ys_places f_2_cells) sz) := by
  refine Met.ofW (cc := b_Ne_build) (maxL := 4) (ret := none) (by decide) rfl ?_
  intro p e s m args below meth c s₁ B hml hv
  obtain ⟨rfl, hsz, hP, hK, hD0, hN⟩ := hv
  subst hsz
  have hl := lv_entry ([.ref a_0, .ref a_1, .ref a_2]) (n := 4) (Nat.le_of_ble_eq_true rfl)
  rw [lg_entry_eq]
  generalize (lg_sl ([.ref a_0, .ref a_1, .ref a_2]) ++ List.replicate (4 - (lg_sl ([.ref a_0, .ref a_1, .ref a_2])).length) Slot.unset).toArray = ls at hl ⊢
  exact t_Ne_build a_0 a_0_pointX a_0_pointY a_0_looseSides a_0_sidesOut a_0_pieceLine a_0_begins a_0_directions a_0_leftSpaces a_0_weights a_0_pointAt a_1 a_1_lowX a_1_lowY a_1_highX a_1_highY a_2 a_2_xs a_2_xs_places a_2_ys a_2_ys_places a_2_cells b_1_thickness b_1_doors b_1_doorFrom b_1_doorTo v_0_points v_0_pieces v_0_looseEnds f_0_pointX f_0_pointY f_0_looseSides f_0_sidesOut f_0_pieceLine f_0_begins f_0_directions f_0_leftSpaces f_0_weights f_0_pointAt v_1_count f_1_lowX f_1_lowY f_1_highX f_1_highY v_2_spaces v_2_xs_count f_2_xs_places v_2_ys_count f_2_ys_places f_2_cells ov_0_points ov_0_pieces ov_0_looseEnds of_0_pointX of_0_pointY of_0_looseSides of_0_sidesOut of_0_pieceLine of_0_begins of_0_directions of_0_leftSpaces of_0_weights of_0_pointAt B.exec B.bytes hml (findClass_of_methodNamed B.named) (atoms_spec (ws := w_Ne_build) B.pre) hK hN (fun q h => Or.inr h) (fun pc H locs ls hd hP9 hD9 hS => W.vret B.exec B.bytes B.returns (fun t ht hW => ⟨⟨(), rfl, trivial, by rw [ht]; exact hP9, va_K.moved hW.alike hK, hD9⟩, hS.F ht⟩) hS.2.2 hd) hm s.heap [] ls hP hD0.self va_S.rf hl

-- SpaceCycles$Net.lineOf(I)I
abbrev b_Ne_lineOf : ByteArray := prog_8_method_3_code
abbrev y_Ne_lineOf : MethodName := ⟨"SpaceCycles$Net", "lineOf", "(I)I"⟩
abbrev w_Ne_lineOf : List Cond := Cond.code y_Ne_lineOf b_Ne_lineOf 2 (some .int) :: gl
abbrev rm_Ne_lineOf : Room := { frames := 0, cells := 0, slots := 0, locals := 0 }
theorem d_Ne_lineOf_0 : decode b_Ne_lineOf 0 = .ok (.aload_n 0, 1) := by decide +kernel
theorem d_Ne_lineOf_1 : decode b_Ne_lineOf 1 = .ok (.getfield 34, 3) := by decide +kernel
theorem d_Ne_lineOf_4 : decode b_Ne_lineOf 4 = .ok (.iload_n 1, 1) := by decide +kernel
theorem d_Ne_lineOf_5 : decode b_Ne_lineOf 5 = .ok (.iconst 1, 1) := by decide +kernel
theorem d_Ne_lineOf_6 : decode b_Ne_lineOf 6 = .ok (.ishr, 1) := by decide +kernel
theorem d_Ne_lineOf_7 : decode b_Ne_lineOf 7 = .ok (.iaload, 1) := by decide +kernel
theorem d_Ne_lineOf_8 : decode b_Ne_lineOf 8 = .ok (.ireturn, 1) := by decide +kernel
abbrev wl_Ne_lineOf (a_0 : Nat) (a_0_pieceLine : Nat) (b_0_pointX : Nat) (b_0_pointY : Nat) (b_0_looseSides : Nat) (b_0_sidesOut : Nat) (b_0_begins : Nat) (b_0_directions : Nat) (b_0_leftSpaces : Nat) (b_0_weights : Nat) (b_0_pointAt : Nat) (cI : ClassId) (v_0_points : Int32) (v_0_pieces : Int32) (v_0_looseEnds : Int32) (f_0_pieceLine : Nat → Int32) : va_W := [(a_0, .inr (3, [.ref b_0_pointX, .ref b_0_pointY, .ref b_0_looseSides, .int v_0_points, .int v_0_pieces, .int v_0_looseEnds, .ref b_0_sidesOut, .ref a_0_pieceLine, .ref b_0_begins, .ref b_0_directions, .ref b_0_leftSpaces, .ref b_0_weights, .ref b_0_pointAt])), (a_0_pieceLine, .inl (cI, 220, .inl f_0_pieceLine))]
def m_Ne_lineOf (p1 : Int32) (f_0_pieceLine : Nat → Int32) : Option (Int32) :=
  gI (p1 >>> (1 &&& 31)) 220 <|
  some (f_0_pieceLine (p1 >>> (1 &&& 31)).toNatClampNeg)

set_option maxHeartbeats 4000000 in
set_option maxRecDepth 100000 in
theorem t_Ne_lineOf {p : Program} {l : Launch} {e : Env} {s : State} {m : MethodId} {args : Array Value} {below : List Frame} {meth : Method} {c : Code} {A : Nat → Prop} {Q : State → Prop} {dC : Nat → ClassId} {dI : Nat → Nat → Nat} {cI cZ cJ : ClassId} (a_0 a_0_pieceLine b_0_pointX b_0_pointY b_0_looseSides b_0_sidesOut b_0_begins b_0_directions b_0_leftSpaces b_0_weights b_0_pointAt : Nat) (v_0_points : Int32) (v_0_pieces : Int32) (v_0_looseEnds : Int32) (f_0_pieceLine : Nat → Int32) (p1 : Int32) (R0 : Int32) (hx : p.tables.exec = Jvm.exec) (hb : c.code = b_Ne_lineOf) (hml : c.maxLocals = 2) (hown : s.vm.findClass "SpaceCycles$Net" = some m.cls) (hts : ∀ w ∈ w_Ne_lineOf, w.before args s = true) (hK : va_K (dC, dI) vwCl [(cI, .int), (cZ, .boolean), (cJ, .long)] s) (hN : NX s) (hA : ∀ q : Nat, s.heap.size ≤ q → A q)
    (hret : ∀ (pc : Nat) (H : Heap) (locs : List Loc) (ls : Array Slot), decode b_Ne_lineOf pc = .ok (.ireturn, 1) → va_P (dC, dI) vwCl (wl_Ne_lineOf a_0 a_0_pieceLine b_0_pointX b_0_pointY b_0_looseSides b_0_sidesOut b_0_begins b_0_directions b_0_leftSpaces b_0_weights b_0_pointAt cI v_0_points v_0_pieces v_0_looseEnds f_0_pieceLine) H → va_D A (wl_Ne_lineOf a_0 a_0_pieceLine b_0_pointX b_0_pointY b_0_looseSides b_0_sidesOut b_0_begins b_0_directions b_0_leftSpaces b_0_weights b_0_pointAt cI v_0_points v_0_pieces v_0_looseEnds f_0_pieceLine) → va_S A s.heap H locs → W p l e rm_Ne_lineOf s m args below meth c H locs 0 0 Q (F0 m pc ls [.int R0]))
    (hm : m_Ne_lineOf p1 f_0_pieceLine = some R0) : ∀ (H : Heap) (locs : List Loc) (ls : Array Slot), va_P (dC, dI) vwCl (wl_Ne_lineOf a_0 a_0_pieceLine b_0_pointX b_0_pointY b_0_looseSides b_0_sidesOut b_0_begins b_0_directions b_0_leftSpaces b_0_weights b_0_pointAt cI v_0_points v_0_pieces v_0_looseEnds f_0_pieceLine) H → va_D A (wl_Ne_lineOf a_0 a_0_pieceLine b_0_pointX b_0_pointY b_0_looseSides b_0_sidesOut b_0_begins b_0_directions b_0_leftSpaces b_0_weights b_0_pointAt cI v_0_points v_0_pieces v_0_looseEnds f_0_pieceLine) → va_S A s.heap H locs → lv_has ls 2 [(0, .ref a_0), (1, .int p1)] → W p l e rm_Ne_lineOf s m args below meth c H locs 0 0 Q (F0 m 0 ls []) := by
  intro H locs ls hP hD hS hl
  unfold m_Ne_lineOf at hm
  refine lv_aload_n hx hb d_Ne_lineOf_0 rfl (lv_at hl 0 rfl) ?_
  refine va_get (D := (dC, dI)) (ci := 3) (v := .ref a_0_pieceLine) (C := "SpaceCycles$Net") (T := F_Ne) (N := 13) hx hb hts (in_F i_Ne) hown hK hP 0 rfl rfl 7 (by decide) (hts _ (in_c k_177)) (fun _ h9 => h9) rfl d_Ne_lineOf_1 ?_
  refine lv_iload_n hx hb d_Ne_lineOf_4 rfl (lv_at hl 1 rfl) ?_
  refine lv_iconst (v := 1) hx hb d_Ne_lineOf_5 (by decide) ?_
  refine lv_ishr hx hb d_Ne_lineOf_6 ?_
  obtain ⟨hi1, hm⟩ := gI_e hm
  refine va_iald hx hb hK hP 1 0 rfl rfl hi1 d_Ne_lineOf_7 ?_
  cases hm
  exact hret _ H locs ls d_Ne_lineOf_8 hP hD hS
set_option maxHeartbeats 4000000 in
set_option maxRecDepth 100000 in
theorem c_Ne_lineOf (l : Launch) (dC : Nat → ClassId) (dI : Nat → Nat → Nat) {cI cZ cJ : ClassId} (a_0 a_0_pieceLine b_0_pointX b_0_pointY b_0_looseSides b_0_sidesOut b_0_begins b_0_directions b_0_leftSpaces b_0_weights b_0_pointAt : Nat) (sz : Nat) (v_0_points : Int32) (v_0_pieces : Int32) (v_0_looseEnds : Int32) (f_0_pieceLine : Nat → Int32) (p1 : Int32) (R0 : Int32) (hm : m_Ne_lineOf p1 f_0_pieceLine = some R0) : Met l y_Ne_lineOf w_Ne_lineOf rm_Ne_lineOf (PP dC dI [(cI, .int), (cZ, .boolean), (cJ, .long)] [.ref a_0, .int p1] sz (wl_Ne_lineOf a_0 a_0_pieceLine b_0_pointX b_0_pointY b_0_looseSides b_0_sidesOut b_0_begins b_0_directions b_0_leftSpaces b_0_weights b_0_pointAt cI v_0_points v_0_pieces v_0_looseEnds f_0_pieceLine)) (QI dC dI [(cI, .int), (cZ, .boolean), (cJ, .long)] sz (wl_Ne_lineOf a_0 a_0_pieceLine b_0_pointX b_0_pointY b_0_looseSides b_0_sidesOut b_0_begins b_0_directions b_0_leftSpaces b_0_weights b_0_pointAt cI v_0_points v_0_pieces v_0_looseEnds f_0_pieceLine) (wl_Ne_lineOf a_0 a_0_pieceLine b_0_pointX b_0_pointY b_0_looseSides b_0_sidesOut b_0_begins b_0_directions b_0_leftSpaces b_0_weights b_0_pointAt cI v_0_points v_0_pieces v_0_looseEnds f_0_pieceLine) R0) 0 0 (va_A (wl_Ne_lineOf a_0 a_0_pieceLine b_0_pointX b_0_pointY b_0_looseSides b_0_sidesOut b_0_begins b_0_directions b_0_leftSpaces b_0_weights b_0_pointAt cI v_0_points v_0_pieces v_0_looseEnds f_0_pieceLine) sz) := by
  refine Met.ofW (cc := b_Ne_lineOf) (maxL := 2) (ret := (some .int)) (by decide) rfl ?_
  intro p e s m args below meth c s₁ B hml hv
  obtain ⟨rfl, hsz, hP, hK, hD0, hN⟩ := hv
  subst hsz
  have hl := lv_entry ([.ref a_0, .int p1]) (n := 2) (Nat.le_of_ble_eq_true rfl)
  rw [lg_entry_eq]
  generalize (lg_sl ([.ref a_0, .int p1]) ++ List.replicate (2 - (lg_sl ([.ref a_0, .int p1])).length) Slot.unset).toArray = ls at hl ⊢
  exact t_Ne_lineOf a_0 a_0_pieceLine b_0_pointX b_0_pointY b_0_looseSides b_0_sidesOut b_0_begins b_0_directions b_0_leftSpaces b_0_weights b_0_pointAt v_0_points v_0_pieces v_0_looseEnds f_0_pieceLine p1 R0 B.exec B.bytes hml (findClass_of_methodNamed B.named) (atoms_spec (ws := w_Ne_lineOf) B.pre) hK hN (fun q h => Or.inr h) (fun pc H locs ls hd hP9 hD9 hS => W.iret B.exec B.bytes B.returns (fun t ht hW => ⟨⟨_, (), rfl, rfl, by rw [ht]; exact hP9, va_K.moved hW.alike hK, hD9⟩, hS.F ht⟩) hS.2.2 hd) hm s.heap [] ls hP hD0.self va_S.rf hl

-- SpaceCycles$Net.beginningOf(I)I
abbrev b_Ne_beginningOf : ByteArray := prog_8_method_4_code
abbrev y_Ne_beginningOf : MethodName := ⟨"SpaceCycles$Net", "beginningOf", "(I)I"⟩
abbrev w_Ne_beginningOf : List Cond := Cond.code y_Ne_beginningOf b_Ne_beginningOf 2 (some .int) :: gl
abbrev rm_Ne_beginningOf : Room := { frames := 0, cells := 0, slots := 0, locals := 0 }
theorem d_Ne_beginningOf_0 : decode b_Ne_beginningOf 0 = .ok (.aload_n 0, 1) := by decide +kernel
theorem d_Ne_beginningOf_1 : decode b_Ne_beginningOf 1 = .ok (.getfield 37, 3) := by decide +kernel
theorem d_Ne_beginningOf_4 : decode b_Ne_beginningOf 4 = .ok (.iload_n 1, 1) := by decide +kernel
theorem d_Ne_beginningOf_5 : decode b_Ne_beginningOf 5 = .ok (.iaload, 1) := by decide +kernel
theorem d_Ne_beginningOf_6 : decode b_Ne_beginningOf 6 = .ok (.ireturn, 1) := by decide +kernel
abbrev wl_Ne_beginningOf (a_0 : Nat) (a_0_begins : Nat) (b_0_pointX : Nat) (b_0_pointY : Nat) (b_0_looseSides : Nat) (b_0_sidesOut : Nat) (b_0_pieceLine : Nat) (b_0_directions : Nat) (b_0_leftSpaces : Nat) (b_0_weights : Nat) (b_0_pointAt : Nat) (cI : ClassId) (v_0_points : Int32) (v_0_pieces : Int32) (v_0_looseEnds : Int32) (f_0_begins : Nat → Int32) : va_W := [(a_0, .inr (3, [.ref b_0_pointX, .ref b_0_pointY, .ref b_0_looseSides, .int v_0_points, .int v_0_pieces, .int v_0_looseEnds, .ref b_0_sidesOut, .ref b_0_pieceLine, .ref a_0_begins, .ref b_0_directions, .ref b_0_leftSpaces, .ref b_0_weights, .ref b_0_pointAt])), (a_0_begins, .inl (cI, 440, .inl f_0_begins))]
def m_Ne_beginningOf (p1 : Int32) (f_0_begins : Nat → Int32) : Option (Int32) :=
  gI p1 440 <|
  some (f_0_begins p1.toNatClampNeg)

set_option maxHeartbeats 4000000 in
set_option maxRecDepth 100000 in
theorem t_Ne_beginningOf {p : Program} {l : Launch} {e : Env} {s : State} {m : MethodId} {args : Array Value} {below : List Frame} {meth : Method} {c : Code} {A : Nat → Prop} {Q : State → Prop} {dC : Nat → ClassId} {dI : Nat → Nat → Nat} {cI cZ cJ : ClassId} (a_0 a_0_begins b_0_pointX b_0_pointY b_0_looseSides b_0_sidesOut b_0_pieceLine b_0_directions b_0_leftSpaces b_0_weights b_0_pointAt : Nat) (v_0_points : Int32) (v_0_pieces : Int32) (v_0_looseEnds : Int32) (f_0_begins : Nat → Int32) (p1 : Int32) (R0 : Int32) (hx : p.tables.exec = Jvm.exec) (hb : c.code = b_Ne_beginningOf) (hml : c.maxLocals = 2) (hown : s.vm.findClass "SpaceCycles$Net" = some m.cls) (hts : ∀ w ∈ w_Ne_beginningOf, w.before args s = true) (hK : va_K (dC, dI) vwCl [(cI, .int), (cZ, .boolean), (cJ, .long)] s) (hN : NX s) (hA : ∀ q : Nat, s.heap.size ≤ q → A q)
    (hret : ∀ (pc : Nat) (H : Heap) (locs : List Loc) (ls : Array Slot), decode b_Ne_beginningOf pc = .ok (.ireturn, 1) → va_P (dC, dI) vwCl (wl_Ne_beginningOf a_0 a_0_begins b_0_pointX b_0_pointY b_0_looseSides b_0_sidesOut b_0_pieceLine b_0_directions b_0_leftSpaces b_0_weights b_0_pointAt cI v_0_points v_0_pieces v_0_looseEnds f_0_begins) H → va_D A (wl_Ne_beginningOf a_0 a_0_begins b_0_pointX b_0_pointY b_0_looseSides b_0_sidesOut b_0_pieceLine b_0_directions b_0_leftSpaces b_0_weights b_0_pointAt cI v_0_points v_0_pieces v_0_looseEnds f_0_begins) → va_S A s.heap H locs → W p l e rm_Ne_beginningOf s m args below meth c H locs 0 0 Q (F0 m pc ls [.int R0]))
    (hm : m_Ne_beginningOf p1 f_0_begins = some R0) : ∀ (H : Heap) (locs : List Loc) (ls : Array Slot), va_P (dC, dI) vwCl (wl_Ne_beginningOf a_0 a_0_begins b_0_pointX b_0_pointY b_0_looseSides b_0_sidesOut b_0_pieceLine b_0_directions b_0_leftSpaces b_0_weights b_0_pointAt cI v_0_points v_0_pieces v_0_looseEnds f_0_begins) H → va_D A (wl_Ne_beginningOf a_0 a_0_begins b_0_pointX b_0_pointY b_0_looseSides b_0_sidesOut b_0_pieceLine b_0_directions b_0_leftSpaces b_0_weights b_0_pointAt cI v_0_points v_0_pieces v_0_looseEnds f_0_begins) → va_S A s.heap H locs → lv_has ls 2 [(0, .ref a_0), (1, .int p1)] → W p l e rm_Ne_beginningOf s m args below meth c H locs 0 0 Q (F0 m 0 ls []) := by
  intro H locs ls hP hD hS hl
  unfold m_Ne_beginningOf at hm
  refine lv_aload_n hx hb d_Ne_beginningOf_0 rfl (lv_at hl 0 rfl) ?_
  refine va_get (D := (dC, dI)) (ci := 3) (v := .ref a_0_begins) (C := "SpaceCycles$Net") (T := F_Ne) (N := 13) hx hb hts (in_F i_Ne) hown hK hP 0 rfl rfl 8 (by decide) (hts _ (in_c k_171)) (fun _ h9 => h9) rfl d_Ne_beginningOf_1 ?_
  refine lv_iload_n hx hb d_Ne_beginningOf_4 rfl (lv_at hl 1 rfl) ?_
  obtain ⟨hi1, hm⟩ := gI_e hm
  refine va_iald hx hb hK hP 1 0 rfl rfl hi1 d_Ne_beginningOf_5 ?_
  cases hm
  exact hret _ H locs ls d_Ne_beginningOf_6 hP hD hS
set_option maxHeartbeats 4000000 in
set_option maxRecDepth 100000 in
theorem c_Ne_beginningOf (l : Launch) (dC : Nat → ClassId) (dI : Nat → Nat → Nat) {cI cZ cJ : ClassId} (a_0 a_0_begins b_0_pointX b_0_pointY b_0_looseSides b_0_sidesOut b_0_pieceLine b_0_directions b_0_leftSpaces b_0_weights b_0_pointAt : Nat) (sz : Nat) (v_0_points : Int32) (v_0_pieces : Int32) (v_0_looseEnds : Int32) (f_0_begins : Nat → Int32) (p1 : Int32) (R0 : Int32) (hm : m_Ne_beginningOf p1 f_0_begins = some R0) : Met l y_Ne_beginningOf w_Ne_beginningOf rm_Ne_beginningOf (PP dC dI [(cI, .int), (cZ, .boolean), (cJ, .long)] [.ref a_0, .int p1] sz (wl_Ne_beginningOf a_0 a_0_begins b_0_pointX b_0_pointY b_0_looseSides b_0_sidesOut b_0_pieceLine b_0_directions b_0_leftSpaces b_0_weights b_0_pointAt cI v_0_points v_0_pieces v_0_looseEnds f_0_begins)) (QI dC dI [(cI, .int), (cZ, .boolean), (cJ, .long)] sz (wl_Ne_beginningOf a_0 a_0_begins b_0_pointX b_0_pointY b_0_looseSides b_0_sidesOut b_0_pieceLine b_0_directions b_0_leftSpaces b_0_weights b_0_pointAt cI v_0_points v_0_pieces v_0_looseEnds f_0_begins) (wl_Ne_beginningOf a_0 a_0_begins b_0_pointX b_0_pointY b_0_looseSides b_0_sidesOut b_0_pieceLine b_0_directions b_0_leftSpaces b_0_weights b_0_pointAt cI v_0_points v_0_pieces v_0_looseEnds f_0_begins) R0) 0 0 (va_A (wl_Ne_beginningOf a_0 a_0_begins b_0_pointX b_0_pointY b_0_looseSides b_0_sidesOut b_0_pieceLine b_0_directions b_0_leftSpaces b_0_weights b_0_pointAt cI v_0_points v_0_pieces v_0_looseEnds f_0_begins) sz) := by
  refine Met.ofW (cc := b_Ne_beginningOf) (maxL := 2) (ret := (some .int)) (by decide) rfl ?_
  intro p e s m args below meth c s₁ B hml hv
  obtain ⟨rfl, hsz, hP, hK, hD0, hN⟩ := hv
  subst hsz
  have hl := lv_entry ([.ref a_0, .int p1]) (n := 2) (Nat.le_of_ble_eq_true rfl)
  rw [lg_entry_eq]
  generalize (lg_sl ([.ref a_0, .int p1]) ++ List.replicate (2 - (lg_sl ([.ref a_0, .int p1])).length) Slot.unset).toArray = ls at hl ⊢
  exact t_Ne_beginningOf a_0 a_0_begins b_0_pointX b_0_pointY b_0_looseSides b_0_sidesOut b_0_pieceLine b_0_directions b_0_leftSpaces b_0_weights b_0_pointAt v_0_points v_0_pieces v_0_looseEnds f_0_begins p1 R0 B.exec B.bytes hml (findClass_of_methodNamed B.named) (atoms_spec (ws := w_Ne_beginningOf) B.pre) hK hN (fun q h => Or.inr h) (fun pc H locs ls hd hP9 hD9 hS => W.iret B.exec B.bytes B.returns (fun t ht hW => ⟨⟨_, (), rfl, rfl, by rw [ht]; exact hP9, va_K.moved hW.alike hK, hD9⟩, hS.F ht⟩) hS.2.2 hd) hm s.heap [] ls hP hD0.self va_S.rf hl

-- SpaceCycles$Net.endOf(I)I
abbrev b_Ne_endOf : ByteArray := prog_8_method_5_code
abbrev y_Ne_endOf : MethodName := ⟨"SpaceCycles$Net", "endOf", "(I)I"⟩
abbrev w_Ne_endOf : List Cond := Cond.code y_Ne_endOf b_Ne_endOf 2 (some .int) :: gl
abbrev rm_Ne_endOf : Room := { frames := 0, cells := 0, slots := 0, locals := 0 }
theorem d_Ne_endOf_0 : decode b_Ne_endOf 0 = .ok (.aload_n 0, 1) := by decide +kernel
theorem d_Ne_endOf_1 : decode b_Ne_endOf 1 = .ok (.getfield 37, 3) := by decide +kernel
theorem d_Ne_endOf_4 : decode b_Ne_endOf 4 = .ok (.iload_n 1, 1) := by decide +kernel
theorem d_Ne_endOf_5 : decode b_Ne_endOf 5 = .ok (.iconst 1, 1) := by decide +kernel
theorem d_Ne_endOf_6 : decode b_Ne_endOf 6 = .ok (.ixor, 1) := by decide +kernel
theorem d_Ne_endOf_7 : decode b_Ne_endOf 7 = .ok (.iaload, 1) := by decide +kernel
theorem d_Ne_endOf_8 : decode b_Ne_endOf 8 = .ok (.ireturn, 1) := by decide +kernel
abbrev wl_Ne_endOf (a_0 : Nat) (a_0_begins : Nat) (b_0_pointX : Nat) (b_0_pointY : Nat) (b_0_looseSides : Nat) (b_0_sidesOut : Nat) (b_0_pieceLine : Nat) (b_0_directions : Nat) (b_0_leftSpaces : Nat) (b_0_weights : Nat) (b_0_pointAt : Nat) (cI : ClassId) (v_0_points : Int32) (v_0_pieces : Int32) (v_0_looseEnds : Int32) (f_0_begins : Nat → Int32) : va_W := [(a_0, .inr (3, [.ref b_0_pointX, .ref b_0_pointY, .ref b_0_looseSides, .int v_0_points, .int v_0_pieces, .int v_0_looseEnds, .ref b_0_sidesOut, .ref b_0_pieceLine, .ref a_0_begins, .ref b_0_directions, .ref b_0_leftSpaces, .ref b_0_weights, .ref b_0_pointAt])), (a_0_begins, .inl (cI, 440, .inl f_0_begins))]
def m_Ne_endOf (p1 : Int32) (f_0_begins : Nat → Int32) : Option (Int32) :=
  gI (p1 ^^^ 1) 440 <|
  some (f_0_begins (p1 ^^^ 1).toNatClampNeg)

set_option maxHeartbeats 4000000 in
set_option maxRecDepth 100000 in
theorem t_Ne_endOf {p : Program} {l : Launch} {e : Env} {s : State} {m : MethodId} {args : Array Value} {below : List Frame} {meth : Method} {c : Code} {A : Nat → Prop} {Q : State → Prop} {dC : Nat → ClassId} {dI : Nat → Nat → Nat} {cI cZ cJ : ClassId} (a_0 a_0_begins b_0_pointX b_0_pointY b_0_looseSides b_0_sidesOut b_0_pieceLine b_0_directions b_0_leftSpaces b_0_weights b_0_pointAt : Nat) (v_0_points : Int32) (v_0_pieces : Int32) (v_0_looseEnds : Int32) (f_0_begins : Nat → Int32) (p1 : Int32) (R0 : Int32) (hx : p.tables.exec = Jvm.exec) (hb : c.code = b_Ne_endOf) (hml : c.maxLocals = 2) (hown : s.vm.findClass "SpaceCycles$Net" = some m.cls) (hts : ∀ w ∈ w_Ne_endOf, w.before args s = true) (hK : va_K (dC, dI) vwCl [(cI, .int), (cZ, .boolean), (cJ, .long)] s) (hN : NX s) (hA : ∀ q : Nat, s.heap.size ≤ q → A q)
    (hret : ∀ (pc : Nat) (H : Heap) (locs : List Loc) (ls : Array Slot), decode b_Ne_endOf pc = .ok (.ireturn, 1) → va_P (dC, dI) vwCl (wl_Ne_endOf a_0 a_0_begins b_0_pointX b_0_pointY b_0_looseSides b_0_sidesOut b_0_pieceLine b_0_directions b_0_leftSpaces b_0_weights b_0_pointAt cI v_0_points v_0_pieces v_0_looseEnds f_0_begins) H → va_D A (wl_Ne_endOf a_0 a_0_begins b_0_pointX b_0_pointY b_0_looseSides b_0_sidesOut b_0_pieceLine b_0_directions b_0_leftSpaces b_0_weights b_0_pointAt cI v_0_points v_0_pieces v_0_looseEnds f_0_begins) → va_S A s.heap H locs → W p l e rm_Ne_endOf s m args below meth c H locs 0 0 Q (F0 m pc ls [.int R0]))
    (hm : m_Ne_endOf p1 f_0_begins = some R0) : ∀ (H : Heap) (locs : List Loc) (ls : Array Slot), va_P (dC, dI) vwCl (wl_Ne_endOf a_0 a_0_begins b_0_pointX b_0_pointY b_0_looseSides b_0_sidesOut b_0_pieceLine b_0_directions b_0_leftSpaces b_0_weights b_0_pointAt cI v_0_points v_0_pieces v_0_looseEnds f_0_begins) H → va_D A (wl_Ne_endOf a_0 a_0_begins b_0_pointX b_0_pointY b_0_looseSides b_0_sidesOut b_0_pieceLine b_0_directions b_0_leftSpaces b_0_weights b_0_pointAt cI v_0_points v_0_pieces v_0_looseEnds f_0_begins) → va_S A s.heap H locs → lv_has ls 2 [(0, .ref a_0), (1, .int p1)] → W p l e rm_Ne_endOf s m args below meth c H locs 0 0 Q (F0 m 0 ls []) := by
  intro H locs ls hP hD hS hl
  unfold m_Ne_endOf at hm
  refine lv_aload_n hx hb d_Ne_endOf_0 rfl (lv_at hl 0 rfl) ?_
  refine va_get (D := (dC, dI)) (ci := 3) (v := .ref a_0_begins) (C := "SpaceCycles$Net") (T := F_Ne) (N := 13) hx hb hts (in_F i_Ne) hown hK hP 0 rfl rfl 8 (by decide) (hts _ (in_c k_171)) (fun _ h9 => h9) rfl d_Ne_endOf_1 ?_
  refine lv_iload_n hx hb d_Ne_endOf_4 rfl (lv_at hl 1 rfl) ?_
  refine lv_iconst (v := 1) hx hb d_Ne_endOf_5 (by decide) ?_
  refine lv_ixor hx hb d_Ne_endOf_6 ?_
  obtain ⟨hi1, hm⟩ := gI_e hm
  refine va_iald hx hb hK hP 1 0 rfl rfl hi1 d_Ne_endOf_7 ?_
  cases hm
  exact hret _ H locs ls d_Ne_endOf_8 hP hD hS
set_option maxHeartbeats 4000000 in
set_option maxRecDepth 100000 in
theorem c_Ne_endOf (l : Launch) (dC : Nat → ClassId) (dI : Nat → Nat → Nat) {cI cZ cJ : ClassId} (a_0 a_0_begins b_0_pointX b_0_pointY b_0_looseSides b_0_sidesOut b_0_pieceLine b_0_directions b_0_leftSpaces b_0_weights b_0_pointAt : Nat) (sz : Nat) (v_0_points : Int32) (v_0_pieces : Int32) (v_0_looseEnds : Int32) (f_0_begins : Nat → Int32) (p1 : Int32) (R0 : Int32) (hm : m_Ne_endOf p1 f_0_begins = some R0) : Met l y_Ne_endOf w_Ne_endOf rm_Ne_endOf (PP dC dI [(cI, .int), (cZ, .boolean), (cJ, .long)] [.ref a_0, .int p1] sz (wl_Ne_endOf a_0 a_0_begins b_0_pointX b_0_pointY b_0_looseSides b_0_sidesOut b_0_pieceLine b_0_directions b_0_leftSpaces b_0_weights b_0_pointAt cI v_0_points v_0_pieces v_0_looseEnds f_0_begins)) (QI dC dI [(cI, .int), (cZ, .boolean), (cJ, .long)] sz (wl_Ne_endOf a_0 a_0_begins b_0_pointX b_0_pointY b_0_looseSides b_0_sidesOut b_0_pieceLine b_0_directions b_0_leftSpaces b_0_weights b_0_pointAt cI v_0_points v_0_pieces v_0_looseEnds f_0_begins) (wl_Ne_endOf a_0 a_0_begins b_0_pointX b_0_pointY b_0_looseSides b_0_sidesOut b_0_pieceLine b_0_directions b_0_leftSpaces b_0_weights b_0_pointAt cI v_0_points v_0_pieces v_0_looseEnds f_0_begins) R0) 0 0 (va_A (wl_Ne_endOf a_0 a_0_begins b_0_pointX b_0_pointY b_0_looseSides b_0_sidesOut b_0_pieceLine b_0_directions b_0_leftSpaces b_0_weights b_0_pointAt cI v_0_points v_0_pieces v_0_looseEnds f_0_begins) sz) := by
  refine Met.ofW (cc := b_Ne_endOf) (maxL := 2) (ret := (some .int)) (by decide) rfl ?_
  intro p e s m args below meth c s₁ B hml hv
  obtain ⟨rfl, hsz, hP, hK, hD0, hN⟩ := hv
  subst hsz
  have hl := lv_entry ([.ref a_0, .int p1]) (n := 2) (Nat.le_of_ble_eq_true rfl)
  rw [lg_entry_eq]
  generalize (lg_sl ([.ref a_0, .int p1]) ++ List.replicate (2 - (lg_sl ([.ref a_0, .int p1])).length) Slot.unset).toArray = ls at hl ⊢
  exact t_Ne_endOf a_0 a_0_begins b_0_pointX b_0_pointY b_0_looseSides b_0_sidesOut b_0_pieceLine b_0_directions b_0_leftSpaces b_0_weights b_0_pointAt v_0_points v_0_pieces v_0_looseEnds f_0_begins p1 R0 B.exec B.bytes hml (findClass_of_methodNamed B.named) (atoms_spec (ws := w_Ne_endOf) B.pre) hK hN (fun q h => Or.inr h) (fun pc H locs ls hd hP9 hD9 hS => W.iret B.exec B.bytes B.returns (fun t ht hW => ⟨⟨_, (), rfl, rfl, by rw [ht]; exact hP9, va_K.moved hW.alike hK, hD9⟩, hS.F ht⟩) hS.2.2 hd) hm s.heap [] ls hP hD0.self va_S.rf hl

-- SpaceCycles$Net.directionOf(I)I
abbrev b_Ne_directionOf : ByteArray := prog_8_method_6_code
abbrev y_Ne_directionOf : MethodName := ⟨"SpaceCycles$Net", "directionOf", "(I)I"⟩
abbrev w_Ne_directionOf : List Cond := Cond.code y_Ne_directionOf b_Ne_directionOf 2 (some .int) :: gl
abbrev rm_Ne_directionOf : Room := { frames := 0, cells := 0, slots := 0, locals := 0 }
theorem d_Ne_directionOf_0 : decode b_Ne_directionOf 0 = .ok (.aload_n 0, 1) := by decide +kernel
theorem d_Ne_directionOf_1 : decode b_Ne_directionOf 1 = .ok (.getfield 40, 3) := by decide +kernel
theorem d_Ne_directionOf_4 : decode b_Ne_directionOf 4 = .ok (.iload_n 1, 1) := by decide +kernel
theorem d_Ne_directionOf_5 : decode b_Ne_directionOf 5 = .ok (.iaload, 1) := by decide +kernel
theorem d_Ne_directionOf_6 : decode b_Ne_directionOf 6 = .ok (.ireturn, 1) := by decide +kernel
abbrev wl_Ne_directionOf (a_0 : Nat) (a_0_directions : Nat) (b_0_pointX : Nat) (b_0_pointY : Nat) (b_0_looseSides : Nat) (b_0_sidesOut : Nat) (b_0_pieceLine : Nat) (b_0_begins : Nat) (b_0_leftSpaces : Nat) (b_0_weights : Nat) (b_0_pointAt : Nat) (cI : ClassId) (v_0_points : Int32) (v_0_pieces : Int32) (v_0_looseEnds : Int32) (f_0_directions : Nat → Int32) : va_W := [(a_0, .inr (3, [.ref b_0_pointX, .ref b_0_pointY, .ref b_0_looseSides, .int v_0_points, .int v_0_pieces, .int v_0_looseEnds, .ref b_0_sidesOut, .ref b_0_pieceLine, .ref b_0_begins, .ref a_0_directions, .ref b_0_leftSpaces, .ref b_0_weights, .ref b_0_pointAt])), (a_0_directions, .inl (cI, 440, .inl f_0_directions))]
def m_Ne_directionOf (p1 : Int32) (f_0_directions : Nat → Int32) : Option (Int32) :=
  gI p1 440 <|
  some (f_0_directions p1.toNatClampNeg)

set_option maxHeartbeats 4000000 in
set_option maxRecDepth 100000 in
theorem t_Ne_directionOf {p : Program} {l : Launch} {e : Env} {s : State} {m : MethodId} {args : Array Value} {below : List Frame} {meth : Method} {c : Code} {A : Nat → Prop} {Q : State → Prop} {dC : Nat → ClassId} {dI : Nat → Nat → Nat} {cI cZ cJ : ClassId} (a_0 a_0_directions b_0_pointX b_0_pointY b_0_looseSides b_0_sidesOut b_0_pieceLine b_0_begins b_0_leftSpaces b_0_weights b_0_pointAt : Nat) (v_0_points : Int32) (v_0_pieces : Int32) (v_0_looseEnds : Int32) (f_0_directions : Nat → Int32) (p1 : Int32) (R0 : Int32) (hx : p.tables.exec = Jvm.exec) (hb : c.code = b_Ne_directionOf) (hml : c.maxLocals = 2) (hown : s.vm.findClass "SpaceCycles$Net" = some m.cls) (hts : ∀ w ∈ w_Ne_directionOf, w.before args s = true) (hK : va_K (dC, dI) vwCl [(cI, .int), (cZ, .boolean), (cJ, .long)] s) (hN : NX s) (hA : ∀ q : Nat, s.heap.size ≤ q → A q)
    (hret : ∀ (pc : Nat) (H : Heap) (locs : List Loc) (ls : Array Slot), decode b_Ne_directionOf pc = .ok (.ireturn, 1) → va_P (dC, dI) vwCl (wl_Ne_directionOf a_0 a_0_directions b_0_pointX b_0_pointY b_0_looseSides b_0_sidesOut b_0_pieceLine b_0_begins b_0_leftSpaces b_0_weights b_0_pointAt cI v_0_points v_0_pieces v_0_looseEnds f_0_directions) H → va_D A (wl_Ne_directionOf a_0 a_0_directions b_0_pointX b_0_pointY b_0_looseSides b_0_sidesOut b_0_pieceLine b_0_begins b_0_leftSpaces b_0_weights b_0_pointAt cI v_0_points v_0_pieces v_0_looseEnds f_0_directions) → va_S A s.heap H locs → W p l e rm_Ne_directionOf s m args below meth c H locs 0 0 Q (F0 m pc ls [.int R0]))
    (hm : m_Ne_directionOf p1 f_0_directions = some R0) : ∀ (H : Heap) (locs : List Loc) (ls : Array Slot), va_P (dC, dI) vwCl (wl_Ne_directionOf a_0 a_0_directions b_0_pointX b_0_pointY b_0_looseSides b_0_sidesOut b_0_pieceLine b_0_begins b_0_leftSpaces b_0_weights b_0_pointAt cI v_0_points v_0_pieces v_0_looseEnds f_0_directions) H → va_D A (wl_Ne_directionOf a_0 a_0_directions b_0_pointX b_0_pointY b_0_looseSides b_0_sidesOut b_0_pieceLine b_0_begins b_0_leftSpaces b_0_weights b_0_pointAt cI v_0_points v_0_pieces v_0_looseEnds f_0_directions) → va_S A s.heap H locs → lv_has ls 2 [(0, .ref a_0), (1, .int p1)] → W p l e rm_Ne_directionOf s m args below meth c H locs 0 0 Q (F0 m 0 ls []) := by
  intro H locs ls hP hD hS hl
  unfold m_Ne_directionOf at hm
  refine lv_aload_n hx hb d_Ne_directionOf_0 rfl (lv_at hl 0 rfl) ?_
  refine va_get (D := (dC, dI)) (ci := 3) (v := .ref a_0_directions) (C := "SpaceCycles$Net") (T := F_Ne) (N := 13) hx hb hts (in_F i_Ne) hown hK hP 0 rfl rfl 9 (by decide) (hts _ (in_c k_172)) (fun _ h9 => h9) rfl d_Ne_directionOf_1 ?_
  refine lv_iload_n hx hb d_Ne_directionOf_4 rfl (lv_at hl 1 rfl) ?_
  obtain ⟨hi1, hm⟩ := gI_e hm
  refine va_iald hx hb hK hP 1 0 rfl rfl hi1 d_Ne_directionOf_5 ?_
  cases hm
  exact hret _ H locs ls d_Ne_directionOf_6 hP hD hS
set_option maxHeartbeats 4000000 in
set_option maxRecDepth 100000 in
theorem c_Ne_directionOf (l : Launch) (dC : Nat → ClassId) (dI : Nat → Nat → Nat) {cI cZ cJ : ClassId} (a_0 a_0_directions b_0_pointX b_0_pointY b_0_looseSides b_0_sidesOut b_0_pieceLine b_0_begins b_0_leftSpaces b_0_weights b_0_pointAt : Nat) (sz : Nat) (v_0_points : Int32) (v_0_pieces : Int32) (v_0_looseEnds : Int32) (f_0_directions : Nat → Int32) (p1 : Int32) (R0 : Int32) (hm : m_Ne_directionOf p1 f_0_directions = some R0) : Met l y_Ne_directionOf w_Ne_directionOf rm_Ne_directionOf (PP dC dI [(cI, .int), (cZ, .boolean), (cJ, .long)] [.ref a_0, .int p1] sz (wl_Ne_directionOf a_0 a_0_directions b_0_pointX b_0_pointY b_0_looseSides b_0_sidesOut b_0_pieceLine b_0_begins b_0_leftSpaces b_0_weights b_0_pointAt cI v_0_points v_0_pieces v_0_looseEnds f_0_directions)) (QI dC dI [(cI, .int), (cZ, .boolean), (cJ, .long)] sz (wl_Ne_directionOf a_0 a_0_directions b_0_pointX b_0_pointY b_0_looseSides b_0_sidesOut b_0_pieceLine b_0_begins b_0_leftSpaces b_0_weights b_0_pointAt cI v_0_points v_0_pieces v_0_looseEnds f_0_directions) (wl_Ne_directionOf a_0 a_0_directions b_0_pointX b_0_pointY b_0_looseSides b_0_sidesOut b_0_pieceLine b_0_begins b_0_leftSpaces b_0_weights b_0_pointAt cI v_0_points v_0_pieces v_0_looseEnds f_0_directions) R0) 0 0 (va_A (wl_Ne_directionOf a_0 a_0_directions b_0_pointX b_0_pointY b_0_looseSides b_0_sidesOut b_0_pieceLine b_0_begins b_0_leftSpaces b_0_weights b_0_pointAt cI v_0_points v_0_pieces v_0_looseEnds f_0_directions) sz) := by
  refine Met.ofW (cc := b_Ne_directionOf) (maxL := 2) (ret := (some .int)) (by decide) rfl ?_
  intro p e s m args below meth c s₁ B hml hv
  obtain ⟨rfl, hsz, hP, hK, hD0, hN⟩ := hv
  subst hsz
  have hl := lv_entry ([.ref a_0, .int p1]) (n := 2) (Nat.le_of_ble_eq_true rfl)
  rw [lg_entry_eq]
  generalize (lg_sl ([.ref a_0, .int p1]) ++ List.replicate (2 - (lg_sl ([.ref a_0, .int p1])).length) Slot.unset).toArray = ls at hl ⊢
  exact t_Ne_directionOf a_0 a_0_directions b_0_pointX b_0_pointY b_0_looseSides b_0_sidesOut b_0_pieceLine b_0_begins b_0_leftSpaces b_0_weights b_0_pointAt v_0_points v_0_pieces v_0_looseEnds f_0_directions p1 R0 B.exec B.bytes hml (findClass_of_methodNamed B.named) (atoms_spec (ws := w_Ne_directionOf) B.pre) hK hN (fun q h => Or.inr h) (fun pc H locs ls hd hP9 hD9 hS => W.iret B.exec B.bytes B.returns (fun t ht hW => ⟨⟨_, (), rfl, rfl, by rw [ht]; exact hP9, va_K.moved hW.alike hK, hD9⟩, hS.F ht⟩) hS.2.2 hd) hm s.heap [] ls hP hD0.self va_S.rf hl

-- SpaceCycles$Net.onTheLeft(I)I
abbrev b_Ne_onTheLeft : ByteArray := prog_8_method_7_code
abbrev y_Ne_onTheLeft : MethodName := ⟨"SpaceCycles$Net", "onTheLeft", "(I)I"⟩
abbrev w_Ne_onTheLeft : List Cond := Cond.code y_Ne_onTheLeft b_Ne_onTheLeft 2 (some .int) :: gl
abbrev rm_Ne_onTheLeft : Room := { frames := 0, cells := 0, slots := 0, locals := 0 }
theorem d_Ne_onTheLeft_0 : decode b_Ne_onTheLeft 0 = .ok (.aload_n 0, 1) := by decide +kernel
theorem d_Ne_onTheLeft_1 : decode b_Ne_onTheLeft 1 = .ok (.getfield 43, 3) := by decide +kernel
theorem d_Ne_onTheLeft_4 : decode b_Ne_onTheLeft 4 = .ok (.iload_n 1, 1) := by decide +kernel
theorem d_Ne_onTheLeft_5 : decode b_Ne_onTheLeft 5 = .ok (.iaload, 1) := by decide +kernel
theorem d_Ne_onTheLeft_6 : decode b_Ne_onTheLeft 6 = .ok (.ireturn, 1) := by decide +kernel
abbrev wl_Ne_onTheLeft (a_0 : Nat) (a_0_leftSpaces : Nat) (b_0_pointX : Nat) (b_0_pointY : Nat) (b_0_looseSides : Nat) (b_0_sidesOut : Nat) (b_0_pieceLine : Nat) (b_0_begins : Nat) (b_0_directions : Nat) (b_0_weights : Nat) (b_0_pointAt : Nat) (cI : ClassId) (v_0_points : Int32) (v_0_pieces : Int32) (v_0_looseEnds : Int32) (f_0_leftSpaces : Nat → Int32) : va_W := [(a_0, .inr (3, [.ref b_0_pointX, .ref b_0_pointY, .ref b_0_looseSides, .int v_0_points, .int v_0_pieces, .int v_0_looseEnds, .ref b_0_sidesOut, .ref b_0_pieceLine, .ref b_0_begins, .ref b_0_directions, .ref a_0_leftSpaces, .ref b_0_weights, .ref b_0_pointAt])), (a_0_leftSpaces, .inl (cI, 440, .inl f_0_leftSpaces))]
def m_Ne_onTheLeft (p1 : Int32) (f_0_leftSpaces : Nat → Int32) : Option (Int32) :=
  gI p1 440 <|
  some (f_0_leftSpaces p1.toNatClampNeg)

set_option maxHeartbeats 4000000 in
set_option maxRecDepth 100000 in
theorem t_Ne_onTheLeft {p : Program} {l : Launch} {e : Env} {s : State} {m : MethodId} {args : Array Value} {below : List Frame} {meth : Method} {c : Code} {A : Nat → Prop} {Q : State → Prop} {dC : Nat → ClassId} {dI : Nat → Nat → Nat} {cI cZ cJ : ClassId} (a_0 a_0_leftSpaces b_0_pointX b_0_pointY b_0_looseSides b_0_sidesOut b_0_pieceLine b_0_begins b_0_directions b_0_weights b_0_pointAt : Nat) (v_0_points : Int32) (v_0_pieces : Int32) (v_0_looseEnds : Int32) (f_0_leftSpaces : Nat → Int32) (p1 : Int32) (R0 : Int32) (hx : p.tables.exec = Jvm.exec) (hb : c.code = b_Ne_onTheLeft) (hml : c.maxLocals = 2) (hown : s.vm.findClass "SpaceCycles$Net" = some m.cls) (hts : ∀ w ∈ w_Ne_onTheLeft, w.before args s = true) (hK : va_K (dC, dI) vwCl [(cI, .int), (cZ, .boolean), (cJ, .long)] s) (hN : NX s) (hA : ∀ q : Nat, s.heap.size ≤ q → A q)
    (hret : ∀ (pc : Nat) (H : Heap) (locs : List Loc) (ls : Array Slot), decode b_Ne_onTheLeft pc = .ok (.ireturn, 1) → va_P (dC, dI) vwCl (wl_Ne_onTheLeft a_0 a_0_leftSpaces b_0_pointX b_0_pointY b_0_looseSides b_0_sidesOut b_0_pieceLine b_0_begins b_0_directions b_0_weights b_0_pointAt cI v_0_points v_0_pieces v_0_looseEnds f_0_leftSpaces) H → va_D A (wl_Ne_onTheLeft a_0 a_0_leftSpaces b_0_pointX b_0_pointY b_0_looseSides b_0_sidesOut b_0_pieceLine b_0_begins b_0_directions b_0_weights b_0_pointAt cI v_0_points v_0_pieces v_0_looseEnds f_0_leftSpaces) → va_S A s.heap H locs → W p l e rm_Ne_onTheLeft s m args below meth c H locs 0 0 Q (F0 m pc ls [.int R0]))
    (hm : m_Ne_onTheLeft p1 f_0_leftSpaces = some R0) : ∀ (H : Heap) (locs : List Loc) (ls : Array Slot), va_P (dC, dI) vwCl (wl_Ne_onTheLeft a_0 a_0_leftSpaces b_0_pointX b_0_pointY b_0_looseSides b_0_sidesOut b_0_pieceLine b_0_begins b_0_directions b_0_weights b_0_pointAt cI v_0_points v_0_pieces v_0_looseEnds f_0_leftSpaces) H → va_D A (wl_Ne_onTheLeft a_0 a_0_leftSpaces b_0_pointX b_0_pointY b_0_looseSides b_0_sidesOut b_0_pieceLine b_0_begins b_0_directions b_0_weights b_0_pointAt cI v_0_points v_0_pieces v_0_looseEnds f_0_leftSpaces) → va_S A s.heap H locs → lv_has ls 2 [(0, .ref a_0), (1, .int p1)] → W p l e rm_Ne_onTheLeft s m args below meth c H locs 0 0 Q (F0 m 0 ls []) := by
  intro H locs ls hP hD hS hl
  unfold m_Ne_onTheLeft at hm
  refine lv_aload_n hx hb d_Ne_onTheLeft_0 rfl (lv_at hl 0 rfl) ?_
  refine va_get (D := (dC, dI)) (ci := 3) (v := .ref a_0_leftSpaces) (C := "SpaceCycles$Net") (T := F_Ne) (N := 13) hx hb hts (in_F i_Ne) hown hK hP 0 rfl rfl 10 (by decide) (hts _ (in_c k_173)) (fun _ h9 => h9) rfl d_Ne_onTheLeft_1 ?_
  refine lv_iload_n hx hb d_Ne_onTheLeft_4 rfl (lv_at hl 1 rfl) ?_
  obtain ⟨hi1, hm⟩ := gI_e hm
  refine va_iald hx hb hK hP 1 0 rfl rfl hi1 d_Ne_onTheLeft_5 ?_
  cases hm
  exact hret _ H locs ls d_Ne_onTheLeft_6 hP hD hS
set_option maxHeartbeats 4000000 in
set_option maxRecDepth 100000 in
theorem c_Ne_onTheLeft (l : Launch) (dC : Nat → ClassId) (dI : Nat → Nat → Nat) {cI cZ cJ : ClassId} (a_0 a_0_leftSpaces b_0_pointX b_0_pointY b_0_looseSides b_0_sidesOut b_0_pieceLine b_0_begins b_0_directions b_0_weights b_0_pointAt : Nat) (sz : Nat) (v_0_points : Int32) (v_0_pieces : Int32) (v_0_looseEnds : Int32) (f_0_leftSpaces : Nat → Int32) (p1 : Int32) (R0 : Int32) (hm : m_Ne_onTheLeft p1 f_0_leftSpaces = some R0) : Met l y_Ne_onTheLeft w_Ne_onTheLeft rm_Ne_onTheLeft (PP dC dI [(cI, .int), (cZ, .boolean), (cJ, .long)] [.ref a_0, .int p1] sz (wl_Ne_onTheLeft a_0 a_0_leftSpaces b_0_pointX b_0_pointY b_0_looseSides b_0_sidesOut b_0_pieceLine b_0_begins b_0_directions b_0_weights b_0_pointAt cI v_0_points v_0_pieces v_0_looseEnds f_0_leftSpaces)) (QI dC dI [(cI, .int), (cZ, .boolean), (cJ, .long)] sz (wl_Ne_onTheLeft a_0 a_0_leftSpaces b_0_pointX b_0_pointY b_0_looseSides b_0_sidesOut b_0_pieceLine b_0_begins b_0_directions b_0_weights b_0_pointAt cI v_0_points v_0_pieces v_0_looseEnds f_0_leftSpaces) (wl_Ne_onTheLeft a_0 a_0_leftSpaces b_0_pointX b_0_pointY b_0_looseSides b_0_sidesOut b_0_pieceLine b_0_begins b_0_directions b_0_weights b_0_pointAt cI v_0_points v_0_pieces v_0_looseEnds f_0_leftSpaces) R0) 0 0 (va_A (wl_Ne_onTheLeft a_0 a_0_leftSpaces b_0_pointX b_0_pointY b_0_looseSides b_0_sidesOut b_0_pieceLine b_0_begins b_0_directions b_0_weights b_0_pointAt cI v_0_points v_0_pieces v_0_looseEnds f_0_leftSpaces) sz) := by
  refine Met.ofW (cc := b_Ne_onTheLeft) (maxL := 2) (ret := (some .int)) (by decide) rfl ?_
  intro p e s m args below meth c s₁ B hml hv
  obtain ⟨rfl, hsz, hP, hK, hD0, hN⟩ := hv
  subst hsz
  have hl := lv_entry ([.ref a_0, .int p1]) (n := 2) (Nat.le_of_ble_eq_true rfl)
  rw [lg_entry_eq]
  generalize (lg_sl ([.ref a_0, .int p1]) ++ List.replicate (2 - (lg_sl ([.ref a_0, .int p1])).length) Slot.unset).toArray = ls at hl ⊢
  exact t_Ne_onTheLeft a_0 a_0_leftSpaces b_0_pointX b_0_pointY b_0_looseSides b_0_sidesOut b_0_pieceLine b_0_begins b_0_directions b_0_weights b_0_pointAt v_0_points v_0_pieces v_0_looseEnds f_0_leftSpaces p1 R0 B.exec B.bytes hml (findClass_of_methodNamed B.named) (atoms_spec (ws := w_Ne_onTheLeft) B.pre) hK hN (fun q h => Or.inr h) (fun pc H locs ls hd hP9 hD9 hS => W.iret B.exec B.bytes B.returns (fun t ht hW => ⟨⟨_, (), rfl, rfl, by rw [ht]; exact hP9, va_K.moved hW.alike hK, hD9⟩, hS.F ht⟩) hS.2.2 hd) hm s.heap [] ls hP hD0.self va_S.rf hl

-- SpaceCycles$Net.onTheRight(I)I
abbrev b_Ne_onTheRight : ByteArray := prog_8_method_8_code
abbrev y_Ne_onTheRight : MethodName := ⟨"SpaceCycles$Net", "onTheRight", "(I)I"⟩
abbrev w_Ne_onTheRight : List Cond := Cond.code y_Ne_onTheRight b_Ne_onTheRight 2 (some .int) :: gl
abbrev rm_Ne_onTheRight : Room := { frames := 0, cells := 0, slots := 0, locals := 0 }
theorem d_Ne_onTheRight_0 : decode b_Ne_onTheRight 0 = .ok (.aload_n 0, 1) := by decide +kernel
theorem d_Ne_onTheRight_1 : decode b_Ne_onTheRight 1 = .ok (.getfield 43, 3) := by decide +kernel
theorem d_Ne_onTheRight_4 : decode b_Ne_onTheRight 4 = .ok (.iload_n 1, 1) := by decide +kernel
theorem d_Ne_onTheRight_5 : decode b_Ne_onTheRight 5 = .ok (.iconst 1, 1) := by decide +kernel
theorem d_Ne_onTheRight_6 : decode b_Ne_onTheRight 6 = .ok (.ixor, 1) := by decide +kernel
theorem d_Ne_onTheRight_7 : decode b_Ne_onTheRight 7 = .ok (.iaload, 1) := by decide +kernel
theorem d_Ne_onTheRight_8 : decode b_Ne_onTheRight 8 = .ok (.ireturn, 1) := by decide +kernel
abbrev wl_Ne_onTheRight (a_0 : Nat) (a_0_leftSpaces : Nat) (b_0_pointX : Nat) (b_0_pointY : Nat) (b_0_looseSides : Nat) (b_0_sidesOut : Nat) (b_0_pieceLine : Nat) (b_0_begins : Nat) (b_0_directions : Nat) (b_0_weights : Nat) (b_0_pointAt : Nat) (cI : ClassId) (v_0_points : Int32) (v_0_pieces : Int32) (v_0_looseEnds : Int32) (f_0_leftSpaces : Nat → Int32) : va_W := [(a_0, .inr (3, [.ref b_0_pointX, .ref b_0_pointY, .ref b_0_looseSides, .int v_0_points, .int v_0_pieces, .int v_0_looseEnds, .ref b_0_sidesOut, .ref b_0_pieceLine, .ref b_0_begins, .ref b_0_directions, .ref a_0_leftSpaces, .ref b_0_weights, .ref b_0_pointAt])), (a_0_leftSpaces, .inl (cI, 440, .inl f_0_leftSpaces))]
def m_Ne_onTheRight (p1 : Int32) (f_0_leftSpaces : Nat → Int32) : Option (Int32) :=
  gI (p1 ^^^ 1) 440 <|
  some (f_0_leftSpaces (p1 ^^^ 1).toNatClampNeg)

set_option maxHeartbeats 4000000 in
set_option maxRecDepth 100000 in
theorem t_Ne_onTheRight {p : Program} {l : Launch} {e : Env} {s : State} {m : MethodId} {args : Array Value} {below : List Frame} {meth : Method} {c : Code} {A : Nat → Prop} {Q : State → Prop} {dC : Nat → ClassId} {dI : Nat → Nat → Nat} {cI cZ cJ : ClassId} (a_0 a_0_leftSpaces b_0_pointX b_0_pointY b_0_looseSides b_0_sidesOut b_0_pieceLine b_0_begins b_0_directions b_0_weights b_0_pointAt : Nat) (v_0_points : Int32) (v_0_pieces : Int32) (v_0_looseEnds : Int32) (f_0_leftSpaces : Nat → Int32) (p1 : Int32) (R0 : Int32) (hx : p.tables.exec = Jvm.exec) (hb : c.code = b_Ne_onTheRight) (hml : c.maxLocals = 2) (hown : s.vm.findClass "SpaceCycles$Net" = some m.cls) (hts : ∀ w ∈ w_Ne_onTheRight, w.before args s = true) (hK : va_K (dC, dI) vwCl [(cI, .int), (cZ, .boolean), (cJ, .long)] s) (hN : NX s) (hA : ∀ q : Nat, s.heap.size ≤ q → A q)
    (hret : ∀ (pc : Nat) (H : Heap) (locs : List Loc) (ls : Array Slot), decode b_Ne_onTheRight pc = .ok (.ireturn, 1) → va_P (dC, dI) vwCl (wl_Ne_onTheRight a_0 a_0_leftSpaces b_0_pointX b_0_pointY b_0_looseSides b_0_sidesOut b_0_pieceLine b_0_begins b_0_directions b_0_weights b_0_pointAt cI v_0_points v_0_pieces v_0_looseEnds f_0_leftSpaces) H → va_D A (wl_Ne_onTheRight a_0 a_0_leftSpaces b_0_pointX b_0_pointY b_0_looseSides b_0_sidesOut b_0_pieceLine b_0_begins b_0_directions b_0_weights b_0_pointAt cI v_0_points v_0_pieces v_0_looseEnds f_0_leftSpaces) → va_S A s.heap H locs → W p l e rm_Ne_onTheRight s m args below meth c H locs 0 0 Q (F0 m pc ls [.int R0]))
    (hm : m_Ne_onTheRight p1 f_0_leftSpaces = some R0) : ∀ (H : Heap) (locs : List Loc) (ls : Array Slot), va_P (dC, dI) vwCl (wl_Ne_onTheRight a_0 a_0_leftSpaces b_0_pointX b_0_pointY b_0_looseSides b_0_sidesOut b_0_pieceLine b_0_begins b_0_directions b_0_weights b_0_pointAt cI v_0_points v_0_pieces v_0_looseEnds f_0_leftSpaces) H → va_D A (wl_Ne_onTheRight a_0 a_0_leftSpaces b_0_pointX b_0_pointY b_0_looseSides b_0_sidesOut b_0_pieceLine b_0_begins b_0_directions b_0_weights b_0_pointAt cI v_0_points v_0_pieces v_0_looseEnds f_0_leftSpaces) → va_S A s.heap H locs → lv_has ls 2 [(0, .ref a_0), (1, .int p1)] → W p l e rm_Ne_onTheRight s m args below meth c H locs 0 0 Q (F0 m 0 ls []) := by
  intro H locs ls hP hD hS hl
  unfold m_Ne_onTheRight at hm
  refine lv_aload_n hx hb d_Ne_onTheRight_0 rfl (lv_at hl 0 rfl) ?_
  refine va_get (D := (dC, dI)) (ci := 3) (v := .ref a_0_leftSpaces) (C := "SpaceCycles$Net") (T := F_Ne) (N := 13) hx hb hts (in_F i_Ne) hown hK hP 0 rfl rfl 10 (by decide) (hts _ (in_c k_173)) (fun _ h9 => h9) rfl d_Ne_onTheRight_1 ?_
  refine lv_iload_n hx hb d_Ne_onTheRight_4 rfl (lv_at hl 1 rfl) ?_
  refine lv_iconst (v := 1) hx hb d_Ne_onTheRight_5 (by decide) ?_
  refine lv_ixor hx hb d_Ne_onTheRight_6 ?_
  obtain ⟨hi1, hm⟩ := gI_e hm
  refine va_iald hx hb hK hP 1 0 rfl rfl hi1 d_Ne_onTheRight_7 ?_
  cases hm
  exact hret _ H locs ls d_Ne_onTheRight_8 hP hD hS
set_option maxHeartbeats 4000000 in
set_option maxRecDepth 100000 in
theorem c_Ne_onTheRight (l : Launch) (dC : Nat → ClassId) (dI : Nat → Nat → Nat) {cI cZ cJ : ClassId} (a_0 a_0_leftSpaces b_0_pointX b_0_pointY b_0_looseSides b_0_sidesOut b_0_pieceLine b_0_begins b_0_directions b_0_weights b_0_pointAt : Nat) (sz : Nat) (v_0_points : Int32) (v_0_pieces : Int32) (v_0_looseEnds : Int32) (f_0_leftSpaces : Nat → Int32) (p1 : Int32) (R0 : Int32) (hm : m_Ne_onTheRight p1 f_0_leftSpaces = some R0) : Met l y_Ne_onTheRight w_Ne_onTheRight rm_Ne_onTheRight (PP dC dI [(cI, .int), (cZ, .boolean), (cJ, .long)] [.ref a_0, .int p1] sz (wl_Ne_onTheRight a_0 a_0_leftSpaces b_0_pointX b_0_pointY b_0_looseSides b_0_sidesOut b_0_pieceLine b_0_begins b_0_directions b_0_weights b_0_pointAt cI v_0_points v_0_pieces v_0_looseEnds f_0_leftSpaces)) (QI dC dI [(cI, .int), (cZ, .boolean), (cJ, .long)] sz (wl_Ne_onTheRight a_0 a_0_leftSpaces b_0_pointX b_0_pointY b_0_looseSides b_0_sidesOut b_0_pieceLine b_0_begins b_0_directions b_0_weights b_0_pointAt cI v_0_points v_0_pieces v_0_looseEnds f_0_leftSpaces) (wl_Ne_onTheRight a_0 a_0_leftSpaces b_0_pointX b_0_pointY b_0_looseSides b_0_sidesOut b_0_pieceLine b_0_begins b_0_directions b_0_weights b_0_pointAt cI v_0_points v_0_pieces v_0_looseEnds f_0_leftSpaces) R0) 0 0 (va_A (wl_Ne_onTheRight a_0 a_0_leftSpaces b_0_pointX b_0_pointY b_0_looseSides b_0_sidesOut b_0_pieceLine b_0_begins b_0_directions b_0_weights b_0_pointAt cI v_0_points v_0_pieces v_0_looseEnds f_0_leftSpaces) sz) := by
  refine Met.ofW (cc := b_Ne_onTheRight) (maxL := 2) (ret := (some .int)) (by decide) rfl ?_
  intro p e s m args below meth c s₁ B hml hv
  obtain ⟨rfl, hsz, hP, hK, hD0, hN⟩ := hv
  subst hsz
  have hl := lv_entry ([.ref a_0, .int p1]) (n := 2) (Nat.le_of_ble_eq_true rfl)
  rw [lg_entry_eq]
  generalize (lg_sl ([.ref a_0, .int p1]) ++ List.replicate (2 - (lg_sl ([.ref a_0, .int p1])).length) Slot.unset).toArray = ls at hl ⊢
  exact t_Ne_onTheRight a_0 a_0_leftSpaces b_0_pointX b_0_pointY b_0_looseSides b_0_sidesOut b_0_pieceLine b_0_begins b_0_directions b_0_weights b_0_pointAt v_0_points v_0_pieces v_0_looseEnds f_0_leftSpaces p1 R0 B.exec B.bytes hml (findClass_of_methodNamed B.named) (atoms_spec (ws := w_Ne_onTheRight) B.pre) hK hN (fun q h => Or.inr h) (fun pc H locs ls hd hP9 hD9 hS => W.iret B.exec B.bytes B.returns (fun t ht hW => ⟨⟨_, (), rfl, rfl, by rw [ht]; exact hP9, va_K.moved hW.alike hK, hD9⟩, hS.F ht⟩) hS.2.2 hd) hm s.heap [] ls hP hD0.self va_S.rf hl

theorem k_198 : ((.methodLink "SpaceCycles$Net" 72 ⟨"java/lang/Math", "abs", "(I)I"⟩) : Cond) ∈ gl := gl_i 987 (by decide +kernel) (by decide +kernel)
theorem k_199 : ((.static ⟨"java/lang/Math", "abs", "(I)I"⟩) : Cond) ∈ gl := gl_i 988 (by decide +kernel) (by decide +kernel)
theorem k_200 : ((.code ⟨"java/lang/Math", "abs", "(I)I"⟩ prog_20_method_59_code 1 (some .int)) : Cond) ∈ gl := gl_i 989 (by decide +kernel) (by decide +kernel)
-- SpaceCycles$Net.lengthOf(I)I
abbrev b_Ne_lengthOf : ByteArray := prog_8_method_10_code
abbrev y_Ne_lengthOf : MethodName := ⟨"SpaceCycles$Net", "lengthOf", "(I)I"⟩
abbrev w_Ne_lengthOf : List Cond := Cond.code y_Ne_lengthOf b_Ne_lengthOf 4 (some .int) :: gl
abbrev rm_Ne_lengthOf : Room := { frames := 1, cells := 0, slots := 0, locals := 64 }
theorem d_Ne_lengthOf_0 : decode b_Ne_lengthOf 0 = .ok (.aload_n 0, 1) := by decide +kernel
theorem d_Ne_lengthOf_1 : decode b_Ne_lengthOf 1 = .ok (.getfield 37, 3) := by decide +kernel
theorem d_Ne_lengthOf_4 : decode b_Ne_lengthOf 4 = .ok (.iload_n 1, 1) := by decide +kernel
theorem d_Ne_lengthOf_5 : decode b_Ne_lengthOf 5 = .ok (.iaload, 1) := by decide +kernel
theorem d_Ne_lengthOf_6 : decode b_Ne_lengthOf 6 = .ok (.istore_n 2, 1) := by decide +kernel
theorem d_Ne_lengthOf_7 : decode b_Ne_lengthOf 7 = .ok (.aload_n 0, 1) := by decide +kernel
theorem d_Ne_lengthOf_8 : decode b_Ne_lengthOf 8 = .ok (.getfield 37, 3) := by decide +kernel
theorem d_Ne_lengthOf_11 : decode b_Ne_lengthOf 11 = .ok (.iload_n 1, 1) := by decide +kernel
theorem d_Ne_lengthOf_12 : decode b_Ne_lengthOf 12 = .ok (.iconst 1, 1) := by decide +kernel
theorem d_Ne_lengthOf_13 : decode b_Ne_lengthOf 13 = .ok (.ixor, 1) := by decide +kernel
theorem d_Ne_lengthOf_14 : decode b_Ne_lengthOf 14 = .ok (.iaload, 1) := by decide +kernel
theorem d_Ne_lengthOf_15 : decode b_Ne_lengthOf 15 = .ok (.istore_n 3, 1) := by decide +kernel
theorem d_Ne_lengthOf_16 : decode b_Ne_lengthOf 16 = .ok (.aload_n 0, 1) := by decide +kernel
theorem d_Ne_lengthOf_17 : decode b_Ne_lengthOf 17 = .ok (.getfield 9, 3) := by decide +kernel
theorem d_Ne_lengthOf_20 : decode b_Ne_lengthOf 20 = .ok (.iload_n 3, 1) := by decide +kernel
theorem d_Ne_lengthOf_21 : decode b_Ne_lengthOf 21 = .ok (.iaload, 1) := by decide +kernel
theorem d_Ne_lengthOf_22 : decode b_Ne_lengthOf 22 = .ok (.aload_n 0, 1) := by decide +kernel
theorem d_Ne_lengthOf_23 : decode b_Ne_lengthOf 23 = .ok (.getfield 9, 3) := by decide +kernel
theorem d_Ne_lengthOf_26 : decode b_Ne_lengthOf 26 = .ok (.iload_n 2, 1) := by decide +kernel
theorem d_Ne_lengthOf_27 : decode b_Ne_lengthOf 27 = .ok (.iaload, 1) := by decide +kernel
theorem d_Ne_lengthOf_28 : decode b_Ne_lengthOf 28 = .ok (.isub, 1) := by decide +kernel
theorem d_Ne_lengthOf_29 : decode b_Ne_lengthOf 29 = .ok (.invokestatic 72, 3) := by decide +kernel
theorem d_Ne_lengthOf_32 : decode b_Ne_lengthOf 32 = .ok (.aload_n 0, 1) := by decide +kernel
theorem d_Ne_lengthOf_33 : decode b_Ne_lengthOf 33 = .ok (.getfield 15, 3) := by decide +kernel
theorem d_Ne_lengthOf_36 : decode b_Ne_lengthOf 36 = .ok (.iload_n 3, 1) := by decide +kernel
theorem d_Ne_lengthOf_37 : decode b_Ne_lengthOf 37 = .ok (.iaload, 1) := by decide +kernel
theorem d_Ne_lengthOf_38 : decode b_Ne_lengthOf 38 = .ok (.aload_n 0, 1) := by decide +kernel
theorem d_Ne_lengthOf_39 : decode b_Ne_lengthOf 39 = .ok (.getfield 15, 3) := by decide +kernel
theorem d_Ne_lengthOf_42 : decode b_Ne_lengthOf 42 = .ok (.iload_n 2, 1) := by decide +kernel
theorem d_Ne_lengthOf_43 : decode b_Ne_lengthOf 43 = .ok (.iaload, 1) := by decide +kernel
theorem d_Ne_lengthOf_44 : decode b_Ne_lengthOf 44 = .ok (.isub, 1) := by decide +kernel
theorem d_Ne_lengthOf_45 : decode b_Ne_lengthOf 45 = .ok (.invokestatic 72, 3) := by decide +kernel
theorem d_Ne_lengthOf_48 : decode b_Ne_lengthOf 48 = .ok (.iadd, 1) := by decide +kernel
theorem d_Ne_lengthOf_49 : decode b_Ne_lengthOf 49 = .ok (.ireturn, 1) := by decide +kernel
abbrev wl_Ne_lengthOf (a_0 : Nat) (a_0_pointX : Nat) (a_0_pointY : Nat) (a_0_begins : Nat) (b_0_looseSides : Nat) (b_0_sidesOut : Nat) (b_0_pieceLine : Nat) (b_0_directions : Nat) (b_0_leftSpaces : Nat) (b_0_weights : Nat) (b_0_pointAt : Nat) (cI : ClassId) (v_0_points : Int32) (v_0_pieces : Int32) (v_0_looseEnds : Int32) (f_0_pointX : Nat → Int32) (f_0_pointY : Nat → Int32) (f_0_begins : Nat → Int32) : va_W := [(a_0, .inr (3, [.ref a_0_pointX, .ref a_0_pointY, .ref b_0_looseSides, .int v_0_points, .int v_0_pieces, .int v_0_looseEnds, .ref b_0_sidesOut, .ref b_0_pieceLine, .ref a_0_begins, .ref b_0_directions, .ref b_0_leftSpaces, .ref b_0_weights, .ref b_0_pointAt])), (a_0_pointX, .inl (cI, 140, .inl f_0_pointX)), (a_0_pointY, .inl (cI, 140, .inl f_0_pointY)), (a_0_begins, .inl (cI, 440, .inl f_0_begins))]
def m_Ne_lengthOf (p1 : Int32) (f_0_pointX : Nat → Int32) (f_0_pointY : Nat → Int32) (f_0_begins : Nat → Int32) : Option (Int32) :=
  gI p1 440 <|
  lt_ (f_0_begins p1.toNatClampNeg) fun x2 =>
  gI (p1 ^^^ 1) 440 <|
  lt_ (f_0_begins (p1 ^^^ 1).toNatClampNeg) fun x4 =>
  gI x4 140 <|
  gI x2 140 <|
  gI x4 140 <|
  gI x2 140 <|
  some ((jabs ((f_0_pointX x4.toNatClampNeg) - (f_0_pointX x2.toNatClampNeg))) + (jabs ((f_0_pointY x4.toNatClampNeg) - (f_0_pointY x2.toNatClampNeg))))

set_option maxHeartbeats 4000000 in
set_option maxRecDepth 100000 in
theorem t_Ne_lengthOf {p : Program} {l : Launch} {e : Env} {s : State} {m : MethodId} {args : Array Value} {below : List Frame} {meth : Method} {c : Code} {A : Nat → Prop} {Q : State → Prop} {dC : Nat → ClassId} {dI : Nat → Nat → Nat} {cI cZ cJ : ClassId} (a_0 a_0_pointX a_0_pointY a_0_begins b_0_looseSides b_0_sidesOut b_0_pieceLine b_0_directions b_0_leftSpaces b_0_weights b_0_pointAt : Nat) (v_0_points : Int32) (v_0_pieces : Int32) (v_0_looseEnds : Int32) (f_0_pointX : Nat → Int32) (f_0_pointY : Nat → Int32) (f_0_begins : Nat → Int32) (p1 : Int32) (R0 : Int32) (hx : p.tables.exec = Jvm.exec) (hb : c.code = b_Ne_lengthOf) (hml : c.maxLocals = 4) (hown : s.vm.findClass "SpaceCycles$Net" = some m.cls) (hts : ∀ w ∈ w_Ne_lengthOf, w.before args s = true) (hK : va_K (dC, dI) vwCl [(cI, .int), (cZ, .boolean), (cJ, .long)] s) (hN : NX s) (hA : ∀ q : Nat, s.heap.size ≤ q → A q)
    (hret : ∀ (pc : Nat) (H : Heap) (locs : List Loc) (ls : Array Slot), decode b_Ne_lengthOf pc = .ok (.ireturn, 1) → va_P (dC, dI) vwCl (wl_Ne_lengthOf a_0 a_0_pointX a_0_pointY a_0_begins b_0_looseSides b_0_sidesOut b_0_pieceLine b_0_directions b_0_leftSpaces b_0_weights b_0_pointAt cI v_0_points v_0_pieces v_0_looseEnds f_0_pointX f_0_pointY f_0_begins) H → va_D A (wl_Ne_lengthOf a_0 a_0_pointX a_0_pointY a_0_begins b_0_looseSides b_0_sidesOut b_0_pieceLine b_0_directions b_0_leftSpaces b_0_weights b_0_pointAt cI v_0_points v_0_pieces v_0_looseEnds f_0_pointX f_0_pointY f_0_begins) → va_S A s.heap H locs → W p l e rm_Ne_lengthOf s m args below meth c H locs 0 0 Q (F0 m pc ls [.int R0]))
    (hm : m_Ne_lengthOf p1 f_0_pointX f_0_pointY f_0_begins = some R0) : ∀ (H : Heap) (locs : List Loc) (ls : Array Slot), va_P (dC, dI) vwCl (wl_Ne_lengthOf a_0 a_0_pointX a_0_pointY a_0_begins b_0_looseSides b_0_sidesOut b_0_pieceLine b_0_directions b_0_leftSpaces b_0_weights b_0_pointAt cI v_0_points v_0_pieces v_0_looseEnds f_0_pointX f_0_pointY f_0_begins) H → va_D A (wl_Ne_lengthOf a_0 a_0_pointX a_0_pointY a_0_begins b_0_looseSides b_0_sidesOut b_0_pieceLine b_0_directions b_0_leftSpaces b_0_weights b_0_pointAt cI v_0_points v_0_pieces v_0_looseEnds f_0_pointX f_0_pointY f_0_begins) → va_S A s.heap H locs → lv_has ls 4 [(0, .ref a_0), (1, .int p1)] → W p l e rm_Ne_lengthOf s m args below meth c H locs 0 0 Q (F0 m 0 ls []) := by
  intro H locs ls hP hD hS hl
  unfold m_Ne_lengthOf at hm
  refine lv_aload_n hx hb d_Ne_lengthOf_0 rfl (lv_at hl 0 rfl) ?_
  refine va_get (D := (dC, dI)) (ci := 3) (v := .ref a_0_begins) (C := "SpaceCycles$Net") (T := F_Ne) (N := 13) hx hb hts (in_F i_Ne) hown hK hP 0 rfl rfl 8 (by decide) (hts _ (in_c k_171)) (fun _ h9 => h9) rfl d_Ne_lengthOf_1 ?_
  refine lv_iload_n hx hb d_Ne_lengthOf_4 rfl (lv_at hl 1 rfl) ?_
  obtain ⟨hi1, hm⟩ := gI_e hm
  refine va_iald hx hb hK hP 3 0 rfl rfl hi1 d_Ne_lengthOf_5 ?_
  refine lv_topi (fun x2 ex2 => ?_)
  replace hm := lt_el hm ex2
  refine lv_istore_n (lv' := [(2, .int x2), (0, .ref a_0), (1, .int p1)]) hx hb d_Ne_lengthOf_6 rfl hl (by decide) rfl (fun ls hl => ?_)
  refine lv_aload_n hx hb d_Ne_lengthOf_7 rfl (lv_at hl 1 rfl) ?_
  refine va_get (D := (dC, dI)) (ci := 3) (v := .ref a_0_begins) (C := "SpaceCycles$Net") (T := F_Ne) (N := 13) hx hb hts (in_F i_Ne) hown hK hP 0 rfl rfl 8 (by decide) (hts _ (in_c k_171)) (fun _ h9 => h9) rfl d_Ne_lengthOf_8 ?_
  refine lv_iload_n hx hb d_Ne_lengthOf_11 rfl (lv_at hl 2 rfl) ?_
  refine lv_iconst (v := 1) hx hb d_Ne_lengthOf_12 (by decide) ?_
  refine lv_ixor hx hb d_Ne_lengthOf_13 ?_
  obtain ⟨hi3, hm⟩ := gI_e hm
  refine va_iald hx hb hK hP 3 0 rfl rfl hi3 d_Ne_lengthOf_14 ?_
  refine lv_topi (fun x4 ex4 => ?_)
  replace hm := lt_el hm ex4
  refine lv_istore_n (lv' := [(3, .int x4), (2, .int x2), (0, .ref a_0), (1, .int p1)]) hx hb d_Ne_lengthOf_15 rfl hl (by decide) rfl (fun ls hl => ?_)
  refine lv_aload_n hx hb d_Ne_lengthOf_16 rfl (lv_at hl 2 rfl) ?_
  refine va_get (D := (dC, dI)) (ci := 3) (v := .ref a_0_pointX) (C := "SpaceCycles$Net") (T := F_Ne) (N := 13) hx hb hts (in_F i_Ne) hown hK hP 0 rfl rfl 0 (by decide) (hts _ (in_c k_161)) (fun _ h9 => h9) rfl d_Ne_lengthOf_17 ?_
  refine lv_iload_n hx hb d_Ne_lengthOf_20 rfl (lv_at hl 0 rfl) ?_
  obtain ⟨hi5, hm⟩ := gI_e hm
  refine va_iald hx hb hK hP 1 0 rfl rfl hi5 d_Ne_lengthOf_21 ?_
  refine lv_aload_n hx hb d_Ne_lengthOf_22 rfl (lv_at hl 2 rfl) ?_
  refine va_get (D := (dC, dI)) (ci := 3) (v := .ref a_0_pointX) (C := "SpaceCycles$Net") (T := F_Ne) (N := 13) hx hb hts (in_F i_Ne) hown hK hP 0 rfl rfl 0 (by decide) (hts _ (in_c k_161)) (fun _ h9 => h9) rfl d_Ne_lengthOf_23 ?_
  refine lv_iload_n hx hb d_Ne_lengthOf_26 rfl (lv_at hl 1 rfl) ?_
  obtain ⟨hi6, hm⟩ := gI_e hm
  refine va_iald hx hb hK hP 1 0 rfl rfl hi6 d_Ne_lengthOf_27 ?_
  refine lv_isub hx hb d_Ne_lengthOf_28 ?_
  refine va_mabs hx hb (by rw [hml]; exact hl.1.symm) hown (hts _ (in_c k_198)) (hts _ (in_c k_199)) (hts _ (in_c k_13)) (hts _ (in_c k_200)) (Nat.le_of_ble_eq_true rfl) (Nat.le_of_ble_eq_true rfl) (Nat.zero_le _) (Nat.zero_le _) d_Ne_lengthOf_29 ?_
  refine lv_aload_n hx hb d_Ne_lengthOf_32 rfl (lv_at hl 2 rfl) ?_
  refine va_get (D := (dC, dI)) (ci := 3) (v := .ref a_0_pointY) (C := "SpaceCycles$Net") (T := F_Ne) (N := 13) hx hb hts (in_F i_Ne) hown hK hP 0 rfl rfl 1 (by decide) (hts _ (in_c k_163)) (fun _ h9 => h9) rfl d_Ne_lengthOf_33 ?_
  refine lv_iload_n hx hb d_Ne_lengthOf_36 rfl (lv_at hl 0 rfl) ?_
  obtain ⟨hi7, hm⟩ := gI_e hm
  refine va_iald hx hb hK hP 2 0 rfl rfl hi7 d_Ne_lengthOf_37 ?_
  refine lv_aload_n hx hb d_Ne_lengthOf_38 rfl (lv_at hl 2 rfl) ?_
  refine va_get (D := (dC, dI)) (ci := 3) (v := .ref a_0_pointY) (C := "SpaceCycles$Net") (T := F_Ne) (N := 13) hx hb hts (in_F i_Ne) hown hK hP 0 rfl rfl 1 (by decide) (hts _ (in_c k_163)) (fun _ h9 => h9) rfl d_Ne_lengthOf_39 ?_
  refine lv_iload_n hx hb d_Ne_lengthOf_42 rfl (lv_at hl 1 rfl) ?_
  obtain ⟨hi8, hm⟩ := gI_e hm
  refine va_iald hx hb hK hP 2 0 rfl rfl hi8 d_Ne_lengthOf_43 ?_
  refine lv_isub hx hb d_Ne_lengthOf_44 ?_
  refine va_mabs hx hb (by rw [hml]; exact hl.1.symm) hown (hts _ (in_c k_198)) (hts _ (in_c k_199)) (hts _ (in_c k_13)) (hts _ (in_c k_200)) (Nat.le_of_ble_eq_true rfl) (Nat.le_of_ble_eq_true rfl) (Nat.zero_le _) (Nat.zero_le _) d_Ne_lengthOf_45 ?_
  refine lv_iadd hx hb d_Ne_lengthOf_48 ?_
  cases hm
  exact hret _ H locs ls d_Ne_lengthOf_49 hP hD hS
set_option maxHeartbeats 4000000 in
set_option maxRecDepth 100000 in
theorem c_Ne_lengthOf (l : Launch) (dC : Nat → ClassId) (dI : Nat → Nat → Nat) {cI cZ cJ : ClassId} (a_0 a_0_pointX a_0_pointY a_0_begins b_0_looseSides b_0_sidesOut b_0_pieceLine b_0_directions b_0_leftSpaces b_0_weights b_0_pointAt : Nat) (sz : Nat) (v_0_points : Int32) (v_0_pieces : Int32) (v_0_looseEnds : Int32) (f_0_pointX : Nat → Int32) (f_0_pointY : Nat → Int32) (f_0_begins : Nat → Int32) (p1 : Int32) (R0 : Int32) (hm : m_Ne_lengthOf p1 f_0_pointX f_0_pointY f_0_begins = some R0) : Met l y_Ne_lengthOf w_Ne_lengthOf rm_Ne_lengthOf (PP dC dI [(cI, .int), (cZ, .boolean), (cJ, .long)] [.ref a_0, .int p1] sz (wl_Ne_lengthOf a_0 a_0_pointX a_0_pointY a_0_begins b_0_looseSides b_0_sidesOut b_0_pieceLine b_0_directions b_0_leftSpaces b_0_weights b_0_pointAt cI v_0_points v_0_pieces v_0_looseEnds f_0_pointX f_0_pointY f_0_begins)) (QI dC dI [(cI, .int), (cZ, .boolean), (cJ, .long)] sz (wl_Ne_lengthOf a_0 a_0_pointX a_0_pointY a_0_begins b_0_looseSides b_0_sidesOut b_0_pieceLine b_0_directions b_0_leftSpaces b_0_weights b_0_pointAt cI v_0_points v_0_pieces v_0_looseEnds f_0_pointX f_0_pointY f_0_begins) (wl_Ne_lengthOf a_0 a_0_pointX a_0_pointY a_0_begins b_0_looseSides b_0_sidesOut b_0_pieceLine b_0_directions b_0_leftSpaces b_0_weights b_0_pointAt cI v_0_points v_0_pieces v_0_looseEnds f_0_pointX f_0_pointY f_0_begins) R0) 0 0 (va_A (wl_Ne_lengthOf a_0 a_0_pointX a_0_pointY a_0_begins b_0_looseSides b_0_sidesOut b_0_pieceLine b_0_directions b_0_leftSpaces b_0_weights b_0_pointAt cI v_0_points v_0_pieces v_0_looseEnds f_0_pointX f_0_pointY f_0_begins) sz) := by
  refine Met.ofW (cc := b_Ne_lengthOf) (maxL := 4) (ret := (some .int)) (by decide) rfl ?_
  intro p e s m args below meth c s₁ B hml hv
  obtain ⟨rfl, hsz, hP, hK, hD0, hN⟩ := hv
  subst hsz
  have hl := lv_entry ([.ref a_0, .int p1]) (n := 4) (Nat.le_of_ble_eq_true rfl)
  rw [lg_entry_eq]
  generalize (lg_sl ([.ref a_0, .int p1]) ++ List.replicate (4 - (lg_sl ([.ref a_0, .int p1])).length) Slot.unset).toArray = ls at hl ⊢
  exact t_Ne_lengthOf a_0 a_0_pointX a_0_pointY a_0_begins b_0_looseSides b_0_sidesOut b_0_pieceLine b_0_directions b_0_leftSpaces b_0_weights b_0_pointAt v_0_points v_0_pieces v_0_looseEnds f_0_pointX f_0_pointY f_0_begins p1 R0 B.exec B.bytes hml (findClass_of_methodNamed B.named) (atoms_spec (ws := w_Ne_lengthOf) B.pre) hK hN (fun q h => Or.inr h) (fun pc H locs ls hd hP9 hD9 hS => W.iret B.exec B.bytes B.returns (fun t ht hW => ⟨⟨_, (), rfl, rfl, by rw [ht]; exact hP9, va_K.moved hW.alike hK, hD9⟩, hS.F ht⟩) hS.2.2 hd) hm s.heap [] ls hP hD0.self va_S.rf hl

theorem k_201 : ((.code ⟨"SpaceCycles$Net", "endOf", "(I)I"⟩ prog_8_method_5_code 2 (some .int)) : Cond) ∈ gl := gl_i 856 (by decide +kernel) (by decide +kernel)
theorem k_202 : ((.selects "SpaceCycles$Net" ⟨"SpaceCycles$Net", "endOf", "(I)I"⟩ ⟨"SpaceCycles$Net", "endOf", "(I)I"⟩) : Cond) ∈ gl := gl_i 855 (by decide +kernel) (by decide +kernel)
theorem k_203 : ((.instanceMethod ⟨"SpaceCycles$Net", "endOf", "(I)I"⟩) : Cond) ∈ gl := gl_i 854 (by decide +kernel) (by decide +kernel)
theorem k_204 : ((.methodLink "SpaceCycles$Net" 78 ⟨"SpaceCycles$Net", "endOf", "(I)I"⟩) : Cond) ∈ gl := gl_i 853 (by decide +kernel) (by decide +kernel)
theorem k_205 : ((.code ⟨"SpaceCycles", "turned", "(II)I"⟩ prog_1_method_26_code 2 (some .int)) : Cond) ∈ gl := gl_i 859 (by decide +kernel) (by decide +kernel)
theorem k_206 : ((.static ⟨"SpaceCycles", "turned", "(II)I"⟩) : Cond) ∈ gl := gl_i 858 (by decide +kernel) (by decide +kernel)
theorem k_207 : ((.initialized "SpaceCycles") : Cond) ∈ gl := gl_i 1 (by decide +kernel) (by decide +kernel)
-- SpaceCycles$Net.next(I)I
abbrev b_Ne_next : ByteArray := prog_8_method_11_code
abbrev y_Ne_next : MethodName := ⟨"SpaceCycles$Net", "next", "(I)I"⟩
abbrev w_Ne_next : List Cond := Cond.code y_Ne_next b_Ne_next 6 (some .int) :: gl
abbrev rm_Ne_next : Room := { frames := 1, cells := 0, slots := 0, locals := 22 }
theorem d_Ne_next_0 : decode b_Ne_next 0 = .ok (.aload_n 0, 1) := by decide +kernel
theorem d_Ne_next_1 : decode b_Ne_next 1 = .ok (.iload_n 1, 1) := by decide +kernel
theorem d_Ne_next_2 : decode b_Ne_next 2 = .ok (.invokevirtual 78, 3) := by decide +kernel
theorem d_Ne_next_5 : decode b_Ne_next 5 = .ok (.istore_n 2, 1) := by decide +kernel
theorem d_Ne_next_6 : decode b_Ne_next 6 = .ok (.aload_n 0, 1) := by decide +kernel
theorem d_Ne_next_7 : decode b_Ne_next 7 = .ok (.iload_n 2, 1) := by decide +kernel
theorem d_Ne_next_8 : decode b_Ne_next 8 = .ok (.aload_n 0, 1) := by decide +kernel
theorem d_Ne_next_9 : decode b_Ne_next 9 = .ok (.getfield 40, 3) := by decide +kernel
theorem d_Ne_next_12 : decode b_Ne_next 12 = .ok (.iload_n 1, 1) := by decide +kernel
theorem d_Ne_next_13 : decode b_Ne_next 13 = .ok (.iaload, 1) := by decide +kernel
theorem d_Ne_next_14 : decode b_Ne_next 14 = .ok (.iconst 1, 1) := by decide +kernel
theorem d_Ne_next_15 : decode b_Ne_next 15 = .ok (.invokestatic 81, 3) := by decide +kernel
theorem d_Ne_next_18 : decode b_Ne_next 18 = .ok (.invokevirtual 85, 3) := by decide +kernel
theorem d_Ne_next_21 : decode b_Ne_next 21 = .ok (.istore_n 3, 1) := by decide +kernel
theorem d_Ne_next_22 : decode b_Ne_next 22 = .ok (.aload_n 0, 1) := by decide +kernel
theorem d_Ne_next_23 : decode b_Ne_next 23 = .ok (.iload_n 2, 1) := by decide +kernel
theorem d_Ne_next_24 : decode b_Ne_next 24 = .ok (.aload_n 0, 1) := by decide +kernel
theorem d_Ne_next_25 : decode b_Ne_next 25 = .ok (.getfield 40, 3) := by decide +kernel
theorem d_Ne_next_28 : decode b_Ne_next 28 = .ok (.iload_n 1, 1) := by decide +kernel
theorem d_Ne_next_29 : decode b_Ne_next 29 = .ok (.iaload, 1) := by decide +kernel
theorem d_Ne_next_30 : decode b_Ne_next 30 = .ok (.invokevirtual 85, 3) := by decide +kernel
theorem d_Ne_next_33 : decode b_Ne_next 33 = .ok (.istore 4, 2) := by decide +kernel
theorem d_Ne_next_35 : decode b_Ne_next 35 = .ok (.aload_n 0, 1) := by decide +kernel
theorem d_Ne_next_36 : decode b_Ne_next 36 = .ok (.iload_n 2, 1) := by decide +kernel
theorem d_Ne_next_37 : decode b_Ne_next 37 = .ok (.aload_n 0, 1) := by decide +kernel
theorem d_Ne_next_38 : decode b_Ne_next 38 = .ok (.getfield 40, 3) := by decide +kernel
theorem d_Ne_next_41 : decode b_Ne_next 41 = .ok (.iload_n 1, 1) := by decide +kernel
theorem d_Ne_next_42 : decode b_Ne_next 42 = .ok (.iaload, 1) := by decide +kernel
theorem d_Ne_next_43 : decode b_Ne_next 43 = .ok (.iconst 3, 1) := by decide +kernel
theorem d_Ne_next_44 : decode b_Ne_next 44 = .ok (.invokestatic 81, 3) := by decide +kernel
theorem d_Ne_next_47 : decode b_Ne_next 47 = .ok (.invokevirtual 85, 3) := by decide +kernel
theorem d_Ne_next_50 : decode b_Ne_next 50 = .ok (.istore 5, 2) := by decide +kernel
theorem d_Ne_next_52 : decode b_Ne_next 52 = .ok (.iload_n 3, 1) := by decide +kernel
theorem d_Ne_next_53 : decode b_Ne_next 53 = .ok (.iconst (-1), 1) := by decide +kernel
theorem d_Ne_next_54 : decode b_Ne_next 54 = .ok (.if_icmp .eq 5, 3) := by decide +kernel
theorem d_Ne_next_57 : decode b_Ne_next 57 = .ok (.iload_n 3, 1) := by decide +kernel
theorem d_Ne_next_58 : decode b_Ne_next 58 = .ok (.ireturn, 1) := by decide +kernel
theorem d_Ne_next_59 : decode b_Ne_next 59 = .ok (.iload 4, 2) := by decide +kernel
theorem d_Ne_next_61 : decode b_Ne_next 61 = .ok (.iconst (-1), 1) := by decide +kernel
theorem d_Ne_next_62 : decode b_Ne_next 62 = .ok (.if_icmp .eq 6, 3) := by decide +kernel
theorem d_Ne_next_65 : decode b_Ne_next 65 = .ok (.iload 4, 2) := by decide +kernel
theorem d_Ne_next_67 : decode b_Ne_next 67 = .ok (.ireturn, 1) := by decide +kernel
theorem d_Ne_next_68 : decode b_Ne_next 68 = .ok (.iload 5, 2) := by decide +kernel
theorem d_Ne_next_70 : decode b_Ne_next 70 = .ok (.iconst (-1), 1) := by decide +kernel
theorem d_Ne_next_71 : decode b_Ne_next 71 = .ok (.if_icmp .eq 8, 3) := by decide +kernel
theorem d_Ne_next_74 : decode b_Ne_next 74 = .ok (.iload 5, 2) := by decide +kernel
theorem d_Ne_next_76 : decode b_Ne_next 76 = .ok (.goto 6, 3) := by decide +kernel
theorem d_Ne_next_79 : decode b_Ne_next 79 = .ok (.iload_n 1, 1) := by decide +kernel
theorem d_Ne_next_80 : decode b_Ne_next 80 = .ok (.iconst 1, 1) := by decide +kernel
theorem d_Ne_next_81 : decode b_Ne_next 81 = .ok (.ixor, 1) := by decide +kernel
theorem d_Ne_next_82 : decode b_Ne_next 82 = .ok (.ireturn, 1) := by decide +kernel
abbrev wl_Ne_next (a_0 : Nat) (a_0_sidesOut : Nat) (a_0_begins : Nat) (a_0_directions : Nat) (b_0_pointX : Nat) (b_0_pointY : Nat) (b_0_looseSides : Nat) (b_0_pieceLine : Nat) (b_0_leftSpaces : Nat) (b_0_weights : Nat) (b_0_pointAt : Nat) (cI : ClassId) (v_0_points : Int32) (v_0_pieces : Int32) (v_0_looseEnds : Int32) (f_0_sidesOut : Nat → Int32) (f_0_begins : Nat → Int32) (f_0_directions : Nat → Int32) : va_W := [(a_0, .inr (3, [.ref b_0_pointX, .ref b_0_pointY, .ref b_0_looseSides, .int v_0_points, .int v_0_pieces, .int v_0_looseEnds, .ref a_0_sidesOut, .ref b_0_pieceLine, .ref a_0_begins, .ref a_0_directions, .ref b_0_leftSpaces, .ref b_0_weights, .ref b_0_pointAt])), (a_0_sidesOut, .inl (cI, 560, .inl f_0_sidesOut)), (a_0_begins, .inl (cI, 440, .inl f_0_begins)), (a_0_directions, .inl (cI, 440, .inl f_0_directions))]
def m_Ne_next (p1 : Int32) (f_0_sidesOut : Nat → Int32) (f_0_begins : Nat → Int32) (f_0_directions : Nat → Int32) : Option (Int32) :=
  bd1 (m_Ne_endOf p1 f_0_begins) fun r1 =>
  gI p1 440 <|
  bd1 (m_Sp_turned (f_0_directions p1.toNatClampNeg) 1) fun r4 =>
  bd1 (m_Ne_sideFrom r1 r4 f_0_sidesOut) fun r6 =>
  gI p1 440 <|
  bd1 (m_Ne_sideFrom r1 (f_0_directions p1.toNatClampNeg) f_0_sidesOut) fun r9 =>
  gI p1 440 <|
  bd1 (m_Sp_turned (f_0_directions p1.toNatClampNeg) 3) fun r12 =>
  bd1 (m_Ne_sideFrom r1 r12 f_0_sidesOut) fun r14 =>
  if r6 = (-1) then (
    if r9 = (-1) then (
      bd1 (
        if r14 = (-1) then (
        some (p1 ^^^ 1))
      else (
        some r14))
      fun (x21 : Int32) =>
      some x21)
    else (
      some r9))
  else (
    some r6)

set_option maxHeartbeats 4000000 in
set_option maxRecDepth 100000 in
theorem t_Ne_next {p : Program} {l : Launch} {e : Env} {s : State} {m : MethodId} {args : Array Value} {below : List Frame} {meth : Method} {c : Code} {A : Nat → Prop} {Q : State → Prop} {dC : Nat → ClassId} {dI : Nat → Nat → Nat} {cI cZ cJ : ClassId} (a_0 a_0_sidesOut a_0_begins a_0_directions b_0_pointX b_0_pointY b_0_looseSides b_0_pieceLine b_0_leftSpaces b_0_weights b_0_pointAt : Nat) (v_0_points : Int32) (v_0_pieces : Int32) (v_0_looseEnds : Int32) (f_0_sidesOut : Nat → Int32) (f_0_begins : Nat → Int32) (f_0_directions : Nat → Int32) (p1 : Int32) (R0 : Int32) (hx : p.tables.exec = Jvm.exec) (hb : c.code = b_Ne_next) (hml : c.maxLocals = 6) (hown : s.vm.findClass "SpaceCycles$Net" = some m.cls) (hts : ∀ w ∈ w_Ne_next, w.before args s = true) (hK : va_K (dC, dI) vwCl [(cI, .int), (cZ, .boolean), (cJ, .long)] s) (hN : NX s) (hA : ∀ q : Nat, s.heap.size ≤ q → A q)
    (hret : ∀ (pc : Nat) (H : Heap) (locs : List Loc) (ls : Array Slot), decode b_Ne_next pc = .ok (.ireturn, 1) → va_P (dC, dI) vwCl (wl_Ne_next a_0 a_0_sidesOut a_0_begins a_0_directions b_0_pointX b_0_pointY b_0_looseSides b_0_pieceLine b_0_leftSpaces b_0_weights b_0_pointAt cI v_0_points v_0_pieces v_0_looseEnds f_0_sidesOut f_0_begins f_0_directions) H → va_D A (wl_Ne_next a_0 a_0_sidesOut a_0_begins a_0_directions b_0_pointX b_0_pointY b_0_looseSides b_0_pieceLine b_0_leftSpaces b_0_weights b_0_pointAt cI v_0_points v_0_pieces v_0_looseEnds f_0_sidesOut f_0_begins f_0_directions) → va_S A s.heap H locs → W p l e rm_Ne_next s m args below meth c H locs 0 0 Q (F0 m pc ls [.int R0]))
    (hm : m_Ne_next p1 f_0_sidesOut f_0_begins f_0_directions = some R0) : ∀ (H : Heap) (locs : List Loc) (ls : Array Slot), va_P (dC, dI) vwCl (wl_Ne_next a_0 a_0_sidesOut a_0_begins a_0_directions b_0_pointX b_0_pointY b_0_looseSides b_0_pieceLine b_0_leftSpaces b_0_weights b_0_pointAt cI v_0_points v_0_pieces v_0_looseEnds f_0_sidesOut f_0_begins f_0_directions) H → va_D A (wl_Ne_next a_0 a_0_sidesOut a_0_begins a_0_directions b_0_pointX b_0_pointY b_0_looseSides b_0_pieceLine b_0_leftSpaces b_0_weights b_0_pointAt cI v_0_points v_0_pieces v_0_looseEnds f_0_sidesOut f_0_begins f_0_directions) → va_S A s.heap H locs → lv_has ls 6 [(0, .ref a_0), (1, .int p1)] → W p l e rm_Ne_next s m args below meth c H locs 0 0 Q (F0 m 0 ls []) := by
  intro H locs ls hP hD hS hl
  unfold m_Ne_next at hm
  refine lv_aload_n hx hb d_Ne_next_0 rfl (lv_at hl 0 rfl) ?_
  refine lv_iload_n hx hb d_Ne_next_1 rfl (lv_at hl 1 rfl) ?_
  obtain ⟨r1, hb2, hm⟩ := bd1_e hm
  have hPc := hP.sub (ws' := (wl_Ne_endOf a_0 a_0_begins b_0_pointX b_0_pointY b_0_looseSides a_0_sidesOut b_0_pieceLine a_0_directions b_0_leftSpaces b_0_weights b_0_pointAt cI v_0_points v_0_pieces v_0_looseEnds f_0_begins)) [0, 2] rfl
  have hDc := hD.sub (ws' := (wl_Ne_endOf a_0 a_0_begins b_0_pointX b_0_pointY b_0_looseSides a_0_sidesOut b_0_pieceLine a_0_directions b_0_leftSpaces b_0_weights b_0_pointAt cI v_0_points v_0_pieces v_0_looseEnds f_0_begins)) [0, 2] (by decide) rfl
  refine cl_i (wc' := (wl_Ne_endOf a_0 a_0_begins b_0_pointX b_0_pointY b_0_looseSides a_0_sidesOut b_0_pieceLine a_0_directions b_0_leftSpaces b_0_weights b_0_pointAt cI v_0_points v_0_pieces v_0_looseEnds f_0_begins)) (va_runV (As := [.int p1]) (rest := []) ⟨hx, hb, hml, hown, hts⟩ (c_Ne_endOf l dC dI (cI := cI) (cZ := cZ) (cJ := cJ) a_0 a_0_begins b_0_pointX b_0_pointY b_0_looseSides a_0_sidesOut b_0_pieceLine a_0_directions b_0_leftSpaces b_0_weights b_0_pointAt H.size v_0_points v_0_pieces v_0_looseEnds f_0_begins p1 r1 hb2) (cwV 1 hts (gl_V k_204 k_203 k_202 k_145 k_201) rfl rfl rfl (by decide +kernel) ⟨Nat.le_of_ble_eq_true rfl, Nat.le_of_ble_eq_true rfl⟩) ⟨PP_blind, va_recv hK hPc (ci := 3) (q0 := 0) rfl rfl, fun U hU hW => PP_at hK hN hPc hDc hU hW⟩ rfl rfl hl.1 rfl (lv_room (Nat.le_of_ble_eq_true rfl)) d_Ne_next_2 ⟨Nat.zero_le _, Nat.zero_le _⟩) hP hD hS hA [0, 2] [1, 3] rfl rfl (by decide) (by decide) (fun H locs hP hD hS => ?_)
  have hP : va_P (dC, dI) vwCl (wl_Ne_next a_0 a_0_sidesOut a_0_begins a_0_directions b_0_pointX b_0_pointY b_0_looseSides b_0_pieceLine b_0_leftSpaces b_0_weights b_0_pointAt cI v_0_points v_0_pieces v_0_looseEnds f_0_sidesOut f_0_begins f_0_directions) H := hP.sub [2, 0, 3, 1] rfl
  have hD : va_D A (wl_Ne_next a_0 a_0_sidesOut a_0_begins a_0_directions b_0_pointX b_0_pointY b_0_looseSides b_0_pieceLine b_0_leftSpaces b_0_weights b_0_pointAt cI v_0_points v_0_pieces v_0_looseEnds f_0_sidesOut f_0_begins f_0_directions) := hD.sub [2, 0, 3, 1] (by decide) rfl
  refine lv_istore_n (lv' := [(2, .int r1), (0, .ref a_0), (1, .int p1)]) hx hb d_Ne_next_5 rfl hl (by decide) rfl (fun ls hl => ?_)
  refine lv_aload_n hx hb d_Ne_next_6 rfl (lv_at hl 1 rfl) ?_
  refine lv_iload_n hx hb d_Ne_next_7 rfl (lv_at hl 0 rfl) ?_
  refine lv_aload_n hx hb d_Ne_next_8 rfl (lv_at hl 1 rfl) ?_
  refine va_get (D := (dC, dI)) (ci := 3) (v := .ref a_0_directions) (C := "SpaceCycles$Net") (T := F_Ne) (N := 13) hx hb hts (in_F i_Ne) hown hK hP 0 rfl rfl 9 (by decide) (hts _ (in_c k_172)) (fun _ h9 => h9) rfl d_Ne_next_9 ?_
  refine lv_iload_n hx hb d_Ne_next_12 rfl (lv_at hl 2 rfl) ?_
  obtain ⟨hi3, hm⟩ := gI_e hm
  refine va_iald hx hb hK hP 3 0 rfl rfl hi3 d_Ne_next_13 ?_
  refine lv_iconst (v := 1) hx hb d_Ne_next_14 (by decide) ?_
  obtain ⟨r4, hb5, hm⟩ := bd1_e hm
  have hPc := hP.sub (ws' := (wl_Sp_turned)) [] rfl
  have hDc := hD.sub (ws' := (wl_Sp_turned)) [] (by decide) rfl
  refine cl_i (wc' := (wl_Sp_turned)) (va_runSN (As := [.int (f_0_directions p1.toNatClampNeg), .int 1]) (rest := [.int r1, .ref a_0]) ⟨hx, hb, hml, hown, hts⟩ (c_Sp_turned l dC dI (cI := cI) (cZ := cZ) (cJ := cJ) H.size (f_0_directions p1.toNatClampNeg) 1 r4 hb5) ⟨va_cnB 2 hts (gl_C k_205) rfl rfl rfl (hN _ (List.mem_of_getElem? (i := 10) rfl)) (hts _ (in_c k_207)) (by decide +kernel) ⟨Nat.le_of_ble_eq_true rfl, Nat.le_of_ble_eq_true rfl⟩, (hts _ (in_c k_206)), trivial⟩ ⟨PP_blind, fun U hU hW => PP_at hK hN hPc hDc hU hW⟩ rfl rfl hl.1 rfl (lv_room (Nat.le_of_ble_eq_true rfl)) d_Ne_next_15 ⟨Nat.zero_le _, Nat.zero_le _⟩) hP hD hS hA [] [0, 1, 2, 3] rfl rfl (by decide) (by decide) (fun H locs hP hD hS => ?_)
  have hP : va_P (dC, dI) vwCl (wl_Ne_next a_0 a_0_sidesOut a_0_begins a_0_directions b_0_pointX b_0_pointY b_0_looseSides b_0_pieceLine b_0_leftSpaces b_0_weights b_0_pointAt cI v_0_points v_0_pieces v_0_looseEnds f_0_sidesOut f_0_begins f_0_directions) H := hP.sub [0, 1, 2, 3] rfl
  have hD : va_D A (wl_Ne_next a_0 a_0_sidesOut a_0_begins a_0_directions b_0_pointX b_0_pointY b_0_looseSides b_0_pieceLine b_0_leftSpaces b_0_weights b_0_pointAt cI v_0_points v_0_pieces v_0_looseEnds f_0_sidesOut f_0_begins f_0_directions) := hD.sub [0, 1, 2, 3] (by decide) rfl
  obtain ⟨r6, hb7, hm⟩ := bd1_e hm
  have hPc := hP.sub (ws' := (wl_Ne_sideFrom a_0 a_0_sidesOut b_0_pointX b_0_pointY b_0_looseSides b_0_pieceLine a_0_begins a_0_directions b_0_leftSpaces b_0_weights b_0_pointAt cI v_0_points v_0_pieces v_0_looseEnds f_0_sidesOut)) [0, 1] rfl
  have hDc := hD.sub (ws' := (wl_Ne_sideFrom a_0 a_0_sidesOut b_0_pointX b_0_pointY b_0_looseSides b_0_pieceLine a_0_begins a_0_directions b_0_leftSpaces b_0_weights b_0_pointAt cI v_0_points v_0_pieces v_0_looseEnds f_0_sidesOut)) [0, 1] (by decide) rfl
  refine cl_i (wc' := (wl_Ne_sideFrom a_0 a_0_sidesOut b_0_pointX b_0_pointY b_0_looseSides b_0_pieceLine a_0_begins a_0_directions b_0_leftSpaces b_0_weights b_0_pointAt cI v_0_points v_0_pieces v_0_looseEnds f_0_sidesOut)) (va_runV (As := [.int r1, .int r4]) (rest := []) ⟨hx, hb, hml, hown, hts⟩ (c_Ne_sideFrom l dC dI (cI := cI) (cZ := cZ) (cJ := cJ) a_0 a_0_sidesOut b_0_pointX b_0_pointY b_0_looseSides b_0_pieceLine a_0_begins a_0_directions b_0_leftSpaces b_0_weights b_0_pointAt H.size v_0_points v_0_pieces v_0_looseEnds f_0_sidesOut r1 r4 r6 hb7) (cwV 2 hts (gl_V k_169 k_168 k_167 k_145 k_166) rfl rfl rfl (by decide +kernel) ⟨Nat.le_of_ble_eq_true rfl, Nat.le_of_ble_eq_true rfl⟩) ⟨PP_blind, va_recv hK hPc (ci := 3) (q0 := 0) rfl rfl, fun U hU hW => PP_at hK hN hPc hDc hU hW⟩ rfl rfl hl.1 rfl (lv_room (Nat.le_of_ble_eq_true rfl)) d_Ne_next_18 ⟨Nat.zero_le _, Nat.zero_le _⟩) hP hD hS hA [0, 1] [2, 3] rfl rfl (by decide) (by decide) (fun H locs hP hD hS => ?_)
  have hP : va_P (dC, dI) vwCl (wl_Ne_next a_0 a_0_sidesOut a_0_begins a_0_directions b_0_pointX b_0_pointY b_0_looseSides b_0_pieceLine b_0_leftSpaces b_0_weights b_0_pointAt cI v_0_points v_0_pieces v_0_looseEnds f_0_sidesOut f_0_begins f_0_directions) H := hP.sub [2, 3, 0, 1] rfl
  have hD : va_D A (wl_Ne_next a_0 a_0_sidesOut a_0_begins a_0_directions b_0_pointX b_0_pointY b_0_looseSides b_0_pieceLine b_0_leftSpaces b_0_weights b_0_pointAt cI v_0_points v_0_pieces v_0_looseEnds f_0_sidesOut f_0_begins f_0_directions) := hD.sub [2, 3, 0, 1] (by decide) rfl
  refine lv_istore_n (lv' := [(3, .int r6), (2, .int r1), (0, .ref a_0), (1, .int p1)]) hx hb d_Ne_next_21 rfl hl (by decide) rfl (fun ls hl => ?_)
  refine lv_aload_n hx hb d_Ne_next_22 rfl (lv_at hl 2 rfl) ?_
  refine lv_iload_n hx hb d_Ne_next_23 rfl (lv_at hl 1 rfl) ?_
  refine lv_aload_n hx hb d_Ne_next_24 rfl (lv_at hl 2 rfl) ?_
  refine va_get (D := (dC, dI)) (ci := 3) (v := .ref a_0_directions) (C := "SpaceCycles$Net") (T := F_Ne) (N := 13) hx hb hts (in_F i_Ne) hown hK hP 0 rfl rfl 9 (by decide) (hts _ (in_c k_172)) (fun _ h9 => h9) rfl d_Ne_next_25 ?_
  refine lv_iload_n hx hb d_Ne_next_28 rfl (lv_at hl 3 rfl) ?_
  obtain ⟨hi8, hm⟩ := gI_e hm
  refine va_iald hx hb hK hP 3 0 rfl rfl hi8 d_Ne_next_29 ?_
  obtain ⟨r9, hb10, hm⟩ := bd1_e hm
  have hPc := hP.sub (ws' := (wl_Ne_sideFrom a_0 a_0_sidesOut b_0_pointX b_0_pointY b_0_looseSides b_0_pieceLine a_0_begins a_0_directions b_0_leftSpaces b_0_weights b_0_pointAt cI v_0_points v_0_pieces v_0_looseEnds f_0_sidesOut)) [0, 1] rfl
  have hDc := hD.sub (ws' := (wl_Ne_sideFrom a_0 a_0_sidesOut b_0_pointX b_0_pointY b_0_looseSides b_0_pieceLine a_0_begins a_0_directions b_0_leftSpaces b_0_weights b_0_pointAt cI v_0_points v_0_pieces v_0_looseEnds f_0_sidesOut)) [0, 1] (by decide) rfl
  refine cl_i (wc' := (wl_Ne_sideFrom a_0 a_0_sidesOut b_0_pointX b_0_pointY b_0_looseSides b_0_pieceLine a_0_begins a_0_directions b_0_leftSpaces b_0_weights b_0_pointAt cI v_0_points v_0_pieces v_0_looseEnds f_0_sidesOut)) (va_runV (As := [.int r1, .int (f_0_directions p1.toNatClampNeg)]) (rest := []) ⟨hx, hb, hml, hown, hts⟩ (c_Ne_sideFrom l dC dI (cI := cI) (cZ := cZ) (cJ := cJ) a_0 a_0_sidesOut b_0_pointX b_0_pointY b_0_looseSides b_0_pieceLine a_0_begins a_0_directions b_0_leftSpaces b_0_weights b_0_pointAt H.size v_0_points v_0_pieces v_0_looseEnds f_0_sidesOut r1 (f_0_directions p1.toNatClampNeg) r9 hb10) (cwV 2 hts (gl_V k_169 k_168 k_167 k_145 k_166) rfl rfl rfl (by decide +kernel) ⟨Nat.le_of_ble_eq_true rfl, Nat.le_of_ble_eq_true rfl⟩) ⟨PP_blind, va_recv hK hPc (ci := 3) (q0 := 0) rfl rfl, fun U hU hW => PP_at hK hN hPc hDc hU hW⟩ rfl rfl hl.1 rfl (lv_room (Nat.le_of_ble_eq_true rfl)) d_Ne_next_30 ⟨Nat.zero_le _, Nat.zero_le _⟩) hP hD hS hA [0, 1] [2, 3] rfl rfl (by decide) (by decide) (fun H locs hP hD hS => ?_)
  have hP : va_P (dC, dI) vwCl (wl_Ne_next a_0 a_0_sidesOut a_0_begins a_0_directions b_0_pointX b_0_pointY b_0_looseSides b_0_pieceLine b_0_leftSpaces b_0_weights b_0_pointAt cI v_0_points v_0_pieces v_0_looseEnds f_0_sidesOut f_0_begins f_0_directions) H := hP.sub [2, 3, 0, 1] rfl
  have hD : va_D A (wl_Ne_next a_0 a_0_sidesOut a_0_begins a_0_directions b_0_pointX b_0_pointY b_0_looseSides b_0_pieceLine b_0_leftSpaces b_0_weights b_0_pointAt cI v_0_points v_0_pieces v_0_looseEnds f_0_sidesOut f_0_begins f_0_directions) := hD.sub [2, 3, 0, 1] (by decide) rfl
  refine lv_istore (lv' := [(4, .int r9), (3, .int r6), (2, .int r1), (0, .ref a_0), (1, .int p1)]) hx hb d_Ne_next_33 hl (by decide) rfl (fun ls hl => ?_)
  refine lv_aload_n hx hb d_Ne_next_35 rfl (lv_at hl 3 rfl) ?_
  refine lv_iload_n hx hb d_Ne_next_36 rfl (lv_at hl 2 rfl) ?_
  refine lv_aload_n hx hb d_Ne_next_37 rfl (lv_at hl 3 rfl) ?_
  refine va_get (D := (dC, dI)) (ci := 3) (v := .ref a_0_directions) (C := "SpaceCycles$Net") (T := F_Ne) (N := 13) hx hb hts (in_F i_Ne) hown hK hP 0 rfl rfl 9 (by decide) (hts _ (in_c k_172)) (fun _ h9 => h9) rfl d_Ne_next_38 ?_
  refine lv_iload_n hx hb d_Ne_next_41 rfl (lv_at hl 4 rfl) ?_
  obtain ⟨hi11, hm⟩ := gI_e hm
  refine va_iald hx hb hK hP 3 0 rfl rfl hi11 d_Ne_next_42 ?_
  refine lv_iconst (v := 3) hx hb d_Ne_next_43 (by decide) ?_
  obtain ⟨r12, hb13, hm⟩ := bd1_e hm
  have hPc := hP.sub (ws' := (wl_Sp_turned)) [] rfl
  have hDc := hD.sub (ws' := (wl_Sp_turned)) [] (by decide) rfl
  refine cl_i (wc' := (wl_Sp_turned)) (va_runSN (As := [.int (f_0_directions p1.toNatClampNeg), .int 3]) (rest := [.int r1, .ref a_0]) ⟨hx, hb, hml, hown, hts⟩ (c_Sp_turned l dC dI (cI := cI) (cZ := cZ) (cJ := cJ) H.size (f_0_directions p1.toNatClampNeg) 3 r12 hb13) ⟨va_cnB 2 hts (gl_C k_205) rfl rfl rfl (hN _ (List.mem_of_getElem? (i := 10) rfl)) (hts _ (in_c k_207)) (by decide +kernel) ⟨Nat.le_of_ble_eq_true rfl, Nat.le_of_ble_eq_true rfl⟩, (hts _ (in_c k_206)), trivial⟩ ⟨PP_blind, fun U hU hW => PP_at hK hN hPc hDc hU hW⟩ rfl rfl hl.1 rfl (lv_room (Nat.le_of_ble_eq_true rfl)) d_Ne_next_44 ⟨Nat.zero_le _, Nat.zero_le _⟩) hP hD hS hA [] [0, 1, 2, 3] rfl rfl (by decide) (by decide) (fun H locs hP hD hS => ?_)
  have hP : va_P (dC, dI) vwCl (wl_Ne_next a_0 a_0_sidesOut a_0_begins a_0_directions b_0_pointX b_0_pointY b_0_looseSides b_0_pieceLine b_0_leftSpaces b_0_weights b_0_pointAt cI v_0_points v_0_pieces v_0_looseEnds f_0_sidesOut f_0_begins f_0_directions) H := hP.sub [0, 1, 2, 3] rfl
  have hD : va_D A (wl_Ne_next a_0 a_0_sidesOut a_0_begins a_0_directions b_0_pointX b_0_pointY b_0_looseSides b_0_pieceLine b_0_leftSpaces b_0_weights b_0_pointAt cI v_0_points v_0_pieces v_0_looseEnds f_0_sidesOut f_0_begins f_0_directions) := hD.sub [0, 1, 2, 3] (by decide) rfl
  obtain ⟨r14, hb15, hm⟩ := bd1_e hm
  have hPc := hP.sub (ws' := (wl_Ne_sideFrom a_0 a_0_sidesOut b_0_pointX b_0_pointY b_0_looseSides b_0_pieceLine a_0_begins a_0_directions b_0_leftSpaces b_0_weights b_0_pointAt cI v_0_points v_0_pieces v_0_looseEnds f_0_sidesOut)) [0, 1] rfl
  have hDc := hD.sub (ws' := (wl_Ne_sideFrom a_0 a_0_sidesOut b_0_pointX b_0_pointY b_0_looseSides b_0_pieceLine a_0_begins a_0_directions b_0_leftSpaces b_0_weights b_0_pointAt cI v_0_points v_0_pieces v_0_looseEnds f_0_sidesOut)) [0, 1] (by decide) rfl
  refine cl_i (wc' := (wl_Ne_sideFrom a_0 a_0_sidesOut b_0_pointX b_0_pointY b_0_looseSides b_0_pieceLine a_0_begins a_0_directions b_0_leftSpaces b_0_weights b_0_pointAt cI v_0_points v_0_pieces v_0_looseEnds f_0_sidesOut)) (va_runV (As := [.int r1, .int r12]) (rest := []) ⟨hx, hb, hml, hown, hts⟩ (c_Ne_sideFrom l dC dI (cI := cI) (cZ := cZ) (cJ := cJ) a_0 a_0_sidesOut b_0_pointX b_0_pointY b_0_looseSides b_0_pieceLine a_0_begins a_0_directions b_0_leftSpaces b_0_weights b_0_pointAt H.size v_0_points v_0_pieces v_0_looseEnds f_0_sidesOut r1 r12 r14 hb15) (cwV 2 hts (gl_V k_169 k_168 k_167 k_145 k_166) rfl rfl rfl (by decide +kernel) ⟨Nat.le_of_ble_eq_true rfl, Nat.le_of_ble_eq_true rfl⟩) ⟨PP_blind, va_recv hK hPc (ci := 3) (q0 := 0) rfl rfl, fun U hU hW => PP_at hK hN hPc hDc hU hW⟩ rfl rfl hl.1 rfl (lv_room (Nat.le_of_ble_eq_true rfl)) d_Ne_next_47 ⟨Nat.zero_le _, Nat.zero_le _⟩) hP hD hS hA [0, 1] [2, 3] rfl rfl (by decide) (by decide) (fun H locs hP hD hS => ?_)
  have hP : va_P (dC, dI) vwCl (wl_Ne_next a_0 a_0_sidesOut a_0_begins a_0_directions b_0_pointX b_0_pointY b_0_looseSides b_0_pieceLine b_0_leftSpaces b_0_weights b_0_pointAt cI v_0_points v_0_pieces v_0_looseEnds f_0_sidesOut f_0_begins f_0_directions) H := hP.sub [2, 3, 0, 1] rfl
  have hD : va_D A (wl_Ne_next a_0 a_0_sidesOut a_0_begins a_0_directions b_0_pointX b_0_pointY b_0_looseSides b_0_pieceLine b_0_leftSpaces b_0_weights b_0_pointAt cI v_0_points v_0_pieces v_0_looseEnds f_0_sidesOut f_0_begins f_0_directions) := hD.sub [2, 3, 0, 1] (by decide) rfl
  refine lv_istore (lv' := [(5, .int r14), (4, .int r9), (3, .int r6), (2, .int r1), (0, .ref a_0), (1, .int p1)]) hx hb d_Ne_next_50 hl (by decide) rfl (fun ls hl => ?_)
  refine lv_iload_n hx hb d_Ne_next_52 rfl (lv_at hl 2 rfl) ?_
  refine lv_iconst (v := (-1)) hx hb d_Ne_next_53 (by decide) ?_
  refine lv_icmp_eq (tgt := 59) hx hb d_Ne_next_54 (by decide) (fun c16 => ?_) (fun c16 => ?_)
  · replace hm := if_t hm c16
    refine lv_iload hx hb d_Ne_next_59 (lv_at hl 1 rfl) ?_
    refine lv_iconst (v := (-1)) hx hb d_Ne_next_61 (by decide) ?_
    refine lv_icmp_eq (tgt := 68) hx hb d_Ne_next_62 (by decide) (fun c17 => ?_) (fun c17 => ?_)
    · replace hm := if_t hm c17
      refine lv_iload hx hb d_Ne_next_68 (lv_at hl 0 rfl) ?_
      refine lv_iconst (v := (-1)) hx hb d_Ne_next_70 (by decide) ?_
      obtain ⟨x21, hb19, hm⟩ := bd1_e hm
      have K18 : ∀ (H : Heap) (locs : List Loc) (ls : Array Slot), va_P (dC, dI) vwCl (wl_Ne_next a_0 a_0_sidesOut a_0_begins a_0_directions b_0_pointX b_0_pointY b_0_looseSides b_0_pieceLine b_0_leftSpaces b_0_weights b_0_pointAt cI v_0_points v_0_pieces v_0_looseEnds f_0_sidesOut f_0_begins f_0_directions) H → va_D A (wl_Ne_next a_0 a_0_sidesOut a_0_begins a_0_directions b_0_pointX b_0_pointY b_0_looseSides b_0_pieceLine b_0_leftSpaces b_0_weights b_0_pointAt cI v_0_points v_0_pieces v_0_looseEnds f_0_sidesOut f_0_begins f_0_directions) → va_S A s.heap H locs → lv_has ls 6 [] → W p l e rm_Ne_next s m args below meth c H locs 0 0 Q (F0 m 82 ls [.int x21]) := by
        intro H locs ls hP hD hS hl
        cases hm
        exact hret _ H locs ls d_Ne_next_82 hP hD hS
      replace hm := hb19
      refine lv_icmp_eq (tgt := 79) hx hb d_Ne_next_71 (by decide) (fun c22 => ?_) (fun c22 => ?_)
      · replace hm := if_t hm c22
        refine lv_iload_n hx hb d_Ne_next_79 rfl (lv_at hl 5 rfl) ?_
        refine lv_iconst (v := 1) hx hb d_Ne_next_80 (by decide) ?_
        refine lv_ixor hx hb d_Ne_next_81 ?_
        cases hm
        exact K18 H locs ls hP hD hS (lv_sub hl [] rfl)
      · replace hm := if_f hm c22
        refine lv_iload hx hb d_Ne_next_74 (lv_at hl 0 rfl) ?_
        refine lv_goto (tgt := 82) hx hb d_Ne_next_76 (by decide) ?_
        cases hm
        exact K18 H locs ls hP hD hS (lv_sub hl [] rfl)
    · replace hm := if_f hm c17
      refine lv_iload hx hb d_Ne_next_65 (lv_at hl 1 rfl) ?_
      cases hm
      exact hret _ H locs ls d_Ne_next_67 hP hD hS
  · replace hm := if_f hm c16
    refine lv_iload_n hx hb d_Ne_next_57 rfl (lv_at hl 2 rfl) ?_
    cases hm
    exact hret _ H locs ls d_Ne_next_58 hP hD hS
set_option maxHeartbeats 4000000 in
set_option maxRecDepth 100000 in
theorem c_Ne_next (l : Launch) (dC : Nat → ClassId) (dI : Nat → Nat → Nat) {cI cZ cJ : ClassId} (a_0 a_0_sidesOut a_0_begins a_0_directions b_0_pointX b_0_pointY b_0_looseSides b_0_pieceLine b_0_leftSpaces b_0_weights b_0_pointAt : Nat) (sz : Nat) (v_0_points : Int32) (v_0_pieces : Int32) (v_0_looseEnds : Int32) (f_0_sidesOut : Nat → Int32) (f_0_begins : Nat → Int32) (f_0_directions : Nat → Int32) (p1 : Int32) (R0 : Int32) (hm : m_Ne_next p1 f_0_sidesOut f_0_begins f_0_directions = some R0) : Met l y_Ne_next w_Ne_next rm_Ne_next (PP dC dI [(cI, .int), (cZ, .boolean), (cJ, .long)] [.ref a_0, .int p1] sz (wl_Ne_next a_0 a_0_sidesOut a_0_begins a_0_directions b_0_pointX b_0_pointY b_0_looseSides b_0_pieceLine b_0_leftSpaces b_0_weights b_0_pointAt cI v_0_points v_0_pieces v_0_looseEnds f_0_sidesOut f_0_begins f_0_directions)) (QI dC dI [(cI, .int), (cZ, .boolean), (cJ, .long)] sz (wl_Ne_next a_0 a_0_sidesOut a_0_begins a_0_directions b_0_pointX b_0_pointY b_0_looseSides b_0_pieceLine b_0_leftSpaces b_0_weights b_0_pointAt cI v_0_points v_0_pieces v_0_looseEnds f_0_sidesOut f_0_begins f_0_directions) (wl_Ne_next a_0 a_0_sidesOut a_0_begins a_0_directions b_0_pointX b_0_pointY b_0_looseSides b_0_pieceLine b_0_leftSpaces b_0_weights b_0_pointAt cI v_0_points v_0_pieces v_0_looseEnds f_0_sidesOut f_0_begins f_0_directions) R0) 0 0 (va_A (wl_Ne_next a_0 a_0_sidesOut a_0_begins a_0_directions b_0_pointX b_0_pointY b_0_looseSides b_0_pieceLine b_0_leftSpaces b_0_weights b_0_pointAt cI v_0_points v_0_pieces v_0_looseEnds f_0_sidesOut f_0_begins f_0_directions) sz) := by
  refine Met.ofW (cc := b_Ne_next) (maxL := 6) (ret := (some .int)) (by decide) rfl ?_
  intro p e s m args below meth c s₁ B hml hv
  obtain ⟨rfl, hsz, hP, hK, hD0, hN⟩ := hv
  subst hsz
  have hl := lv_entry ([.ref a_0, .int p1]) (n := 6) (Nat.le_of_ble_eq_true rfl)
  rw [lg_entry_eq]
  generalize (lg_sl ([.ref a_0, .int p1]) ++ List.replicate (6 - (lg_sl ([.ref a_0, .int p1])).length) Slot.unset).toArray = ls at hl ⊢
  exact t_Ne_next a_0 a_0_sidesOut a_0_begins a_0_directions b_0_pointX b_0_pointY b_0_looseSides b_0_pieceLine b_0_leftSpaces b_0_weights b_0_pointAt v_0_points v_0_pieces v_0_looseEnds f_0_sidesOut f_0_begins f_0_directions p1 R0 B.exec B.bytes hml (findClass_of_methodNamed B.named) (atoms_spec (ws := w_Ne_next) B.pre) hK hN (fun q h => Or.inr h) (fun pc H locs ls hd hP9 hD9 hS => W.iret B.exec B.bytes B.returns (fun t ht hW => ⟨⟨_, (), rfl, rfl, by rw [ht]; exact hP9, va_K.moved hW.alike hK, hD9⟩, hS.F ht⟩) hS.2.2 hd) hm s.heap [] ls hP hD0.self va_S.rf hl

-- SpaceCycles$Net.sidesOf(I)I
abbrev b_Ne_sidesOf : ByteArray := prog_8_method_12_code
abbrev y_Ne_sidesOf : MethodName := ⟨"SpaceCycles$Net", "sidesOf", "(I)I"⟩
abbrev w_Ne_sidesOf : List Cond := Cond.code y_Ne_sidesOf b_Ne_sidesOf 4 (some .int) :: gl
abbrev rm_Ne_sidesOf : Room := { frames := 0, cells := 0, slots := 0, locals := 0 }
theorem d_Ne_sidesOf_0 : decode b_Ne_sidesOf 0 = .ok (.iconst 0, 1) := by decide +kernel
theorem d_Ne_sidesOf_1 : decode b_Ne_sidesOf 1 = .ok (.istore_n 2, 1) := by decide +kernel
theorem d_Ne_sidesOf_2 : decode b_Ne_sidesOf 2 = .ok (.iconst 0, 1) := by decide +kernel
theorem d_Ne_sidesOf_3 : decode b_Ne_sidesOf 3 = .ok (.istore_n 3, 1) := by decide +kernel
theorem d_Ne_sidesOf_4 : decode b_Ne_sidesOf 4 = .ok (.iload_n 3, 1) := by decide +kernel
theorem d_Ne_sidesOf_5 : decode b_Ne_sidesOf 5 = .ok (.iconst 2, 1) := by decide +kernel
theorem d_Ne_sidesOf_6 : decode b_Ne_sidesOf 6 = .ok (.aload_n 0, 1) := by decide +kernel
theorem d_Ne_sidesOf_7 : decode b_Ne_sidesOf 7 = .ok (.getfield 25, 3) := by decide +kernel
theorem d_Ne_sidesOf_10 : decode b_Ne_sidesOf 10 = .ok (.imul, 1) := by decide +kernel
theorem d_Ne_sidesOf_11 : decode b_Ne_sidesOf 11 = .ok (.if_icmp .ge 22, 3) := by decide +kernel
theorem d_Ne_sidesOf_14 : decode b_Ne_sidesOf 14 = .ok (.aload_n 0, 1) := by decide +kernel
theorem d_Ne_sidesOf_15 : decode b_Ne_sidesOf 15 = .ok (.getfield 43, 3) := by decide +kernel
theorem d_Ne_sidesOf_18 : decode b_Ne_sidesOf 18 = .ok (.iload_n 3, 1) := by decide +kernel
theorem d_Ne_sidesOf_19 : decode b_Ne_sidesOf 19 = .ok (.iaload, 1) := by decide +kernel
theorem d_Ne_sidesOf_20 : decode b_Ne_sidesOf 20 = .ok (.iload_n 1, 1) := by decide +kernel
theorem d_Ne_sidesOf_21 : decode b_Ne_sidesOf 21 = .ok (.if_icmp .ne 6, 3) := by decide +kernel
theorem d_Ne_sidesOf_24 : decode b_Ne_sidesOf 24 = .ok (.iinc 2 1, 3) := by decide +kernel
theorem d_Ne_sidesOf_27 : decode b_Ne_sidesOf 27 = .ok (.iinc 3 1, 3) := by decide +kernel
theorem d_Ne_sidesOf_30 : decode b_Ne_sidesOf 30 = .ok (.goto (-26), 3) := by decide +kernel
theorem d_Ne_sidesOf_33 : decode b_Ne_sidesOf 33 = .ok (.iload_n 2, 1) := by decide +kernel
theorem d_Ne_sidesOf_34 : decode b_Ne_sidesOf 34 = .ok (.ireturn, 1) := by decide +kernel
abbrev wl_Ne_sidesOf (a_0 : Nat) (a_0_leftSpaces : Nat) (b_0_pointX : Nat) (b_0_pointY : Nat) (b_0_looseSides : Nat) (b_0_sidesOut : Nat) (b_0_pieceLine : Nat) (b_0_begins : Nat) (b_0_directions : Nat) (b_0_weights : Nat) (b_0_pointAt : Nat) (cI : ClassId) (v_0_points : Int32) (v_0_pieces : Int32) (v_0_looseEnds : Int32) (f_0_leftSpaces : Nat → Int32) : va_W := [(a_0, .inr (3, [.ref b_0_pointX, .ref b_0_pointY, .ref b_0_looseSides, .int v_0_points, .int v_0_pieces, .int v_0_looseEnds, .ref b_0_sidesOut, .ref b_0_pieceLine, .ref b_0_begins, .ref b_0_directions, .ref a_0_leftSpaces, .ref b_0_weights, .ref b_0_pointAt])), (a_0_leftSpaces, .inl (cI, 440, .inl f_0_leftSpaces))]
def m_Ne_sidesOf_L4 (l1 : Int32) (v_0_pieces : Int32) (f_0_leftSpaces : Nat → Int32) : Nat → Int32 → Int32 → Option (Int32)
  | 0, _, _ => none
  | n + 1, l2, l3 =>
    if (2 * v_0_pieces) ≤ l3 then (
      some l2)
    else (
      gI l3 440 <|
      bd1 (
        if (f_0_leftSpaces l3.toNatClampNeg) = l1 then (
        lt_ (l2 + 1) fun x8 =>
        some x8)
      else (
        some l2))
      fun (x6 : Int32) =>
      lt_ (l3 + 1) fun x9 =>
        m_Ne_sidesOf_L4 l1 v_0_pieces f_0_leftSpaces n x6 x9)
def m_Ne_sidesOf (p1 : Int32) (v_0_pieces : Int32) (f_0_leftSpaces : Nat → Int32) : Option (Int32) :=
  bd1 (m_Ne_sidesOf_L4 p1 v_0_pieces f_0_leftSpaces fu 0 0) fun x3 =>
  some x3

set_option maxHeartbeats 4000000 in
set_option maxRecDepth 100000 in
theorem t_Ne_sidesOf {p : Program} {l : Launch} {e : Env} {s : State} {m : MethodId} {args : Array Value} {below : List Frame} {meth : Method} {c : Code} {A : Nat → Prop} {Q : State → Prop} {dC : Nat → ClassId} {dI : Nat → Nat → Nat} {cI cZ cJ : ClassId} (a_0 a_0_leftSpaces b_0_pointX b_0_pointY b_0_looseSides b_0_sidesOut b_0_pieceLine b_0_begins b_0_directions b_0_weights b_0_pointAt : Nat) (v_0_points : Int32) (v_0_pieces : Int32) (v_0_looseEnds : Int32) (f_0_leftSpaces : Nat → Int32) (p1 : Int32) (R0 : Int32) (hx : p.tables.exec = Jvm.exec) (hb : c.code = b_Ne_sidesOf) (hml : c.maxLocals = 4) (hown : s.vm.findClass "SpaceCycles$Net" = some m.cls) (hts : ∀ w ∈ w_Ne_sidesOf, w.before args s = true) (hK : va_K (dC, dI) vwCl [(cI, .int), (cZ, .boolean), (cJ, .long)] s) (hN : NX s) (hA : ∀ q : Nat, s.heap.size ≤ q → A q)
    (hret : ∀ (pc : Nat) (H : Heap) (locs : List Loc) (ls : Array Slot), decode b_Ne_sidesOf pc = .ok (.ireturn, 1) → va_P (dC, dI) vwCl (wl_Ne_sidesOf a_0 a_0_leftSpaces b_0_pointX b_0_pointY b_0_looseSides b_0_sidesOut b_0_pieceLine b_0_begins b_0_directions b_0_weights b_0_pointAt cI v_0_points v_0_pieces v_0_looseEnds f_0_leftSpaces) H → va_D A (wl_Ne_sidesOf a_0 a_0_leftSpaces b_0_pointX b_0_pointY b_0_looseSides b_0_sidesOut b_0_pieceLine b_0_begins b_0_directions b_0_weights b_0_pointAt cI v_0_points v_0_pieces v_0_looseEnds f_0_leftSpaces) → va_S A s.heap H locs → W p l e rm_Ne_sidesOf s m args below meth c H locs 0 0 Q (F0 m pc ls [.int R0]))
    (hm : m_Ne_sidesOf p1 v_0_pieces f_0_leftSpaces = some R0) : ∀ (H : Heap) (locs : List Loc) (ls : Array Slot), va_P (dC, dI) vwCl (wl_Ne_sidesOf a_0 a_0_leftSpaces b_0_pointX b_0_pointY b_0_looseSides b_0_sidesOut b_0_pieceLine b_0_begins b_0_directions b_0_weights b_0_pointAt cI v_0_points v_0_pieces v_0_looseEnds f_0_leftSpaces) H → va_D A (wl_Ne_sidesOf a_0 a_0_leftSpaces b_0_pointX b_0_pointY b_0_looseSides b_0_sidesOut b_0_pieceLine b_0_begins b_0_directions b_0_weights b_0_pointAt cI v_0_points v_0_pieces v_0_looseEnds f_0_leftSpaces) → va_S A s.heap H locs → lv_has ls 4 [(0, .ref a_0), (1, .int p1)] → W p l e rm_Ne_sidesOf s m args below meth c H locs 0 0 Q (F0 m 0 ls []) := by
  intro H locs ls hP hD hS hl
  unfold m_Ne_sidesOf at hm
  refine lv_iconst (v := 0) hx hb d_Ne_sidesOf_0 (by decide) ?_
  refine lv_istore_n (lv' := [(2, .int 0), (0, .ref a_0), (1, .int p1)]) hx hb d_Ne_sidesOf_1 rfl hl (by decide) rfl (fun ls hl => ?_)
  refine lv_iconst (v := 0) hx hb d_Ne_sidesOf_2 (by decide) ?_
  refine lv_istore_n (lv' := [(3, .int 0), (2, .int 0), (0, .ref a_0), (1, .int p1)]) hx hb d_Ne_sidesOf_3 rfl hl (by decide) rfl (fun ls hl => ?_)
  have L4_4 : ∀ (n : Nat) (x1 : Int32) (x2 : Int32) (x3 : Int32), m_Ne_sidesOf_L4 p1 v_0_pieces f_0_leftSpaces n x1 x2 = some x3 → (∀ (H : Heap) (locs : List Loc) (ls : Array Slot), va_P (dC, dI) vwCl (wl_Ne_sidesOf a_0 a_0_leftSpaces b_0_pointX b_0_pointY b_0_looseSides b_0_sidesOut b_0_pieceLine b_0_begins b_0_directions b_0_weights b_0_pointAt cI v_0_points v_0_pieces v_0_looseEnds f_0_leftSpaces) H → va_D A (wl_Ne_sidesOf a_0 a_0_leftSpaces b_0_pointX b_0_pointY b_0_looseSides b_0_sidesOut b_0_pieceLine b_0_begins b_0_directions b_0_weights b_0_pointAt cI v_0_points v_0_pieces v_0_looseEnds f_0_leftSpaces) → va_S A s.heap H locs → lv_has ls 4 [(2, .int x3)] → W p l e rm_Ne_sidesOf s m args below meth c H locs 0 0 Q (F0 m 33 ls [])) → ∀ (H : Heap) (locs : List Loc) (ls : Array Slot), va_P (dC, dI) vwCl (wl_Ne_sidesOf a_0 a_0_leftSpaces b_0_pointX b_0_pointY b_0_looseSides b_0_sidesOut b_0_pieceLine b_0_begins b_0_directions b_0_weights b_0_pointAt cI v_0_points v_0_pieces v_0_looseEnds f_0_leftSpaces) H → va_D A (wl_Ne_sidesOf a_0 a_0_leftSpaces b_0_pointX b_0_pointY b_0_looseSides b_0_sidesOut b_0_pieceLine b_0_begins b_0_directions b_0_weights b_0_pointAt cI v_0_points v_0_pieces v_0_looseEnds f_0_leftSpaces) → va_S A s.heap H locs → lv_has ls 4 [(0, .ref a_0), (1, .int p1), (2, .int x1), (3, .int x2)] → W p l e rm_Ne_sidesOf s m args below meth c H locs 0 0 Q (F0 m 4 ls []) := by
    intro n
    induction n with
    | zero => intro x1 x2 x3 hm; simp [m_Ne_sidesOf_L4] at hm
    | succ n ih =>
      intro x1 x2 x3 hm KE H locs ls hP hD hS hl
      rw [m_Ne_sidesOf_L4] at hm
      refine lv_iload_n hx hb d_Ne_sidesOf_4 rfl (lv_at hl 3 rfl) ?_
      refine lv_iconst (v := 2) hx hb d_Ne_sidesOf_5 (by decide) ?_
      refine lv_aload_n hx hb d_Ne_sidesOf_6 rfl (lv_at hl 0 rfl) ?_
      refine va_get (D := (dC, dI)) (ci := 3) (v := .int v_0_pieces) (C := "SpaceCycles$Net") (T := F_Ne) (N := 13) hx hb hts (in_F i_Ne) hown hK hP 0 rfl rfl 4 (by decide) (hts _ (in_c k_174)) (fun _ h9 => h9) rfl d_Ne_sidesOf_7 ?_
      refine lv_imul hx hb d_Ne_sidesOf_10 ?_
      refine lv_icmp_ge (tgt := 33) hx hb d_Ne_sidesOf_11 (by decide) (fun c5 => ?_) (fun c5 => ?_)
      · replace hm := if_t hm c5
        cases hm
        exact KE H locs ls hP hD hS (lv_sub hl [2] rfl)
      · replace hm := if_f hm c5
        refine lv_aload_n hx hb d_Ne_sidesOf_14 rfl (lv_at hl 0 rfl) ?_
        refine va_get (D := (dC, dI)) (ci := 3) (v := .ref a_0_leftSpaces) (C := "SpaceCycles$Net") (T := F_Ne) (N := 13) hx hb hts (in_F i_Ne) hown hK hP 0 rfl rfl 10 (by decide) (hts _ (in_c k_173)) (fun _ h9 => h9) rfl d_Ne_sidesOf_15 ?_
        refine lv_iload_n hx hb d_Ne_sidesOf_18 rfl (lv_at hl 3 rfl) ?_
        obtain ⟨hi6, hm⟩ := gI_e hm
        refine va_iald hx hb hK hP 1 0 rfl rfl hi6 d_Ne_sidesOf_19 ?_
        refine lv_iload_n hx hb d_Ne_sidesOf_20 rfl (lv_at hl 1 rfl) ?_
        obtain ⟨x10, hb8, hm⟩ := bd1_e hm
        have K7 : ∀ (H : Heap) (locs : List Loc) (ls : Array Slot), va_P (dC, dI) vwCl (wl_Ne_sidesOf a_0 a_0_leftSpaces b_0_pointX b_0_pointY b_0_looseSides b_0_sidesOut b_0_pieceLine b_0_begins b_0_directions b_0_weights b_0_pointAt cI v_0_points v_0_pieces v_0_looseEnds f_0_leftSpaces) H → va_D A (wl_Ne_sidesOf a_0 a_0_leftSpaces b_0_pointX b_0_pointY b_0_looseSides b_0_sidesOut b_0_pieceLine b_0_begins b_0_directions b_0_weights b_0_pointAt cI v_0_points v_0_pieces v_0_looseEnds f_0_leftSpaces) → va_S A s.heap H locs → lv_has ls 4 [(0, .ref a_0), (1, .int p1), (2, .int x10), (3, .int x2)] → W p l e rm_Ne_sidesOf s m args below meth c H locs 0 0 Q (F0 m 27 ls []) := by
          intro H locs ls hP hD hS hl
          obtain ⟨x13, ex13⟩ : ∃ y : Int32, y = x2 + 1 := ⟨_, rfl⟩
          replace hm := lt_el hm ex13
          refine lv_iinc (v := x13) (lv' := [(3, .int x13), (0, .ref a_0), (1, .int p1), (2, .int x10)]) hx hb d_Ne_sidesOf_27 hl (k := 3) rfl (by rw [ex13]; rfl) (by decide) rfl (fun ls hl => ?_)
          refine lv_goto (tgt := 4) hx hb d_Ne_sidesOf_30 (by decide) ?_
          exact ih _ _ _ hm KE H locs ls hP hD hS (lv_sub hl [1, 2, 3, 0] rfl)
        replace hm := hb8
        refine lv_icmp_ne (tgt := 27) hx hb d_Ne_sidesOf_21 (by decide) (fun c11 => ?_) (fun c11 => ?_)
        · replace hm := if_f hm c11
          cases hm
          exact K7 H locs ls hP hD hS (lv_sub hl [0, 1, 2, 3] rfl)
        · replace hm := if_t hm c11
          obtain ⟨x12, ex12⟩ : ∃ y : Int32, y = x1 + 1 := ⟨_, rfl⟩
          replace hm := lt_el hm ex12
          refine lv_iinc (v := x12) (lv' := [(2, .int x12), (0, .ref a_0), (1, .int p1), (3, .int x2)]) hx hb d_Ne_sidesOf_24 hl (k := 2) rfl (by rw [ex12]; rfl) (by decide) rfl (fun ls hl => ?_)
          cases hm
          exact K7 H locs ls hP hD hS (lv_sub hl [1, 2, 0, 3] rfl)
  obtain ⟨x3, hb14, hm⟩ := bd1_e hm
  refine L4_4 fu _ _ _ hb14 (fun H locs ls hP hD hS hl => ?_) H locs ls hP hD hS (lv_sub hl [2, 3, 1, 0] rfl)
  refine lv_iload_n hx hb d_Ne_sidesOf_33 rfl (lv_at hl 0 rfl) ?_
  cases hm
  exact hret _ H locs ls d_Ne_sidesOf_34 hP hD hS
set_option maxHeartbeats 4000000 in
set_option maxRecDepth 100000 in
theorem c_Ne_sidesOf (l : Launch) (dC : Nat → ClassId) (dI : Nat → Nat → Nat) {cI cZ cJ : ClassId} (a_0 a_0_leftSpaces b_0_pointX b_0_pointY b_0_looseSides b_0_sidesOut b_0_pieceLine b_0_begins b_0_directions b_0_weights b_0_pointAt : Nat) (sz : Nat) (v_0_points : Int32) (v_0_pieces : Int32) (v_0_looseEnds : Int32) (f_0_leftSpaces : Nat → Int32) (p1 : Int32) (R0 : Int32) (hm : m_Ne_sidesOf p1 v_0_pieces f_0_leftSpaces = some R0) : Met l y_Ne_sidesOf w_Ne_sidesOf rm_Ne_sidesOf (PP dC dI [(cI, .int), (cZ, .boolean), (cJ, .long)] [.ref a_0, .int p1] sz (wl_Ne_sidesOf a_0 a_0_leftSpaces b_0_pointX b_0_pointY b_0_looseSides b_0_sidesOut b_0_pieceLine b_0_begins b_0_directions b_0_weights b_0_pointAt cI v_0_points v_0_pieces v_0_looseEnds f_0_leftSpaces)) (QI dC dI [(cI, .int), (cZ, .boolean), (cJ, .long)] sz (wl_Ne_sidesOf a_0 a_0_leftSpaces b_0_pointX b_0_pointY b_0_looseSides b_0_sidesOut b_0_pieceLine b_0_begins b_0_directions b_0_weights b_0_pointAt cI v_0_points v_0_pieces v_0_looseEnds f_0_leftSpaces) (wl_Ne_sidesOf a_0 a_0_leftSpaces b_0_pointX b_0_pointY b_0_looseSides b_0_sidesOut b_0_pieceLine b_0_begins b_0_directions b_0_weights b_0_pointAt cI v_0_points v_0_pieces v_0_looseEnds f_0_leftSpaces) R0) 0 0 (va_A (wl_Ne_sidesOf a_0 a_0_leftSpaces b_0_pointX b_0_pointY b_0_looseSides b_0_sidesOut b_0_pieceLine b_0_begins b_0_directions b_0_weights b_0_pointAt cI v_0_points v_0_pieces v_0_looseEnds f_0_leftSpaces) sz) := by
  refine Met.ofW (cc := b_Ne_sidesOf) (maxL := 4) (ret := (some .int)) (by decide) rfl ?_
  intro p e s m args below meth c s₁ B hml hv
  obtain ⟨rfl, hsz, hP, hK, hD0, hN⟩ := hv
  subst hsz
  have hl := lv_entry ([.ref a_0, .int p1]) (n := 4) (Nat.le_of_ble_eq_true rfl)
  rw [lg_entry_eq]
  generalize (lg_sl ([.ref a_0, .int p1]) ++ List.replicate (4 - (lg_sl ([.ref a_0, .int p1])).length) Slot.unset).toArray = ls at hl ⊢
  exact t_Ne_sidesOf a_0 a_0_leftSpaces b_0_pointX b_0_pointY b_0_looseSides b_0_sidesOut b_0_pieceLine b_0_begins b_0_directions b_0_weights b_0_pointAt v_0_points v_0_pieces v_0_looseEnds f_0_leftSpaces p1 R0 B.exec B.bytes hml (findClass_of_methodNamed B.named) (atoms_spec (ws := w_Ne_sidesOf) B.pre) hK hN (fun q h => Or.inr h) (fun pc H locs ls hd hP9 hD9 hS => W.iret B.exec B.bytes B.returns (fun t ht hW => ⟨⟨_, (), rfl, rfl, by rw [ht]; exact hP9, va_K.moved hW.alike hK, hD9⟩, hS.F ht⟩) hS.2.2 hd) hm s.heap [] ls hP hD0.self va_S.rf hl

-- SpaceCycles$Net.areaOf(I)I
abbrev b_Ne_areaOf : ByteArray := prog_8_method_13_code
abbrev y_Ne_areaOf : MethodName := ⟨"SpaceCycles$Net", "areaOf", "(I)I"⟩
abbrev w_Ne_areaOf : List Cond := Cond.code y_Ne_areaOf b_Ne_areaOf 4 (some .int) :: gl
abbrev rm_Ne_areaOf : Room := { frames := 1, cells := 0, slots := 0, locals := 21 }
theorem d_Ne_areaOf_0 : decode b_Ne_areaOf 0 = .ok (.iconst 0, 1) := by decide +kernel
theorem d_Ne_areaOf_1 : decode b_Ne_areaOf 1 = .ok (.istore_n 2, 1) := by decide +kernel
theorem d_Ne_areaOf_2 : decode b_Ne_areaOf 2 = .ok (.iconst 0, 1) := by decide +kernel
theorem d_Ne_areaOf_3 : decode b_Ne_areaOf 3 = .ok (.istore_n 3, 1) := by decide +kernel
theorem d_Ne_areaOf_4 : decode b_Ne_areaOf 4 = .ok (.iload_n 3, 1) := by decide +kernel
theorem d_Ne_areaOf_5 : decode b_Ne_areaOf 5 = .ok (.iconst 2, 1) := by decide +kernel
theorem d_Ne_areaOf_6 : decode b_Ne_areaOf 6 = .ok (.aload_n 0, 1) := by decide +kernel
theorem d_Ne_areaOf_7 : decode b_Ne_areaOf 7 = .ok (.getfield 25, 3) := by decide +kernel
theorem d_Ne_areaOf_10 : decode b_Ne_areaOf 10 = .ok (.imul, 1) := by decide +kernel
theorem d_Ne_areaOf_11 : decode b_Ne_areaOf 11 = .ok (.if_icmp .ge 56, 3) := by decide +kernel
theorem d_Ne_areaOf_14 : decode b_Ne_areaOf 14 = .ok (.aload_n 0, 1) := by decide +kernel
theorem d_Ne_areaOf_15 : decode b_Ne_areaOf 15 = .ok (.getfield 43, 3) := by decide +kernel
theorem d_Ne_areaOf_18 : decode b_Ne_areaOf 18 = .ok (.iload_n 3, 1) := by decide +kernel
theorem d_Ne_areaOf_19 : decode b_Ne_areaOf 19 = .ok (.iaload, 1) := by decide +kernel
theorem d_Ne_areaOf_20 : decode b_Ne_areaOf 20 = .ok (.iload_n 1, 1) := by decide +kernel
theorem d_Ne_areaOf_21 : decode b_Ne_areaOf 21 = .ok (.if_icmp .ne 40, 3) := by decide +kernel
theorem d_Ne_areaOf_24 : decode b_Ne_areaOf 24 = .ok (.iload_n 2, 1) := by decide +kernel
theorem d_Ne_areaOf_25 : decode b_Ne_areaOf 25 = .ok (.aload_n 0, 1) := by decide +kernel
theorem d_Ne_areaOf_26 : decode b_Ne_areaOf 26 = .ok (.getfield 9, 3) := by decide +kernel
theorem d_Ne_areaOf_29 : decode b_Ne_areaOf 29 = .ok (.aload_n 0, 1) := by decide +kernel
theorem d_Ne_areaOf_30 : decode b_Ne_areaOf 30 = .ok (.getfield 37, 3) := by decide +kernel
theorem d_Ne_areaOf_33 : decode b_Ne_areaOf 33 = .ok (.iload_n 3, 1) := by decide +kernel
theorem d_Ne_areaOf_34 : decode b_Ne_areaOf 34 = .ok (.iaload, 1) := by decide +kernel
theorem d_Ne_areaOf_35 : decode b_Ne_areaOf 35 = .ok (.iaload, 1) := by decide +kernel
theorem d_Ne_areaOf_36 : decode b_Ne_areaOf 36 = .ok (.aload_n 0, 1) := by decide +kernel
theorem d_Ne_areaOf_37 : decode b_Ne_areaOf 37 = .ok (.getfield 15, 3) := by decide +kernel
theorem d_Ne_areaOf_40 : decode b_Ne_areaOf 40 = .ok (.aload_n 0, 1) := by decide +kernel
theorem d_Ne_areaOf_41 : decode b_Ne_areaOf 41 = .ok (.iload_n 3, 1) := by decide +kernel
theorem d_Ne_areaOf_42 : decode b_Ne_areaOf 42 = .ok (.invokevirtual 78, 3) := by decide +kernel
theorem d_Ne_areaOf_45 : decode b_Ne_areaOf 45 = .ok (.iaload, 1) := by decide +kernel
theorem d_Ne_areaOf_46 : decode b_Ne_areaOf 46 = .ok (.aload_n 0, 1) := by decide +kernel
theorem d_Ne_areaOf_47 : decode b_Ne_areaOf 47 = .ok (.getfield 15, 3) := by decide +kernel
theorem d_Ne_areaOf_50 : decode b_Ne_areaOf 50 = .ok (.aload_n 0, 1) := by decide +kernel
theorem d_Ne_areaOf_51 : decode b_Ne_areaOf 51 = .ok (.getfield 37, 3) := by decide +kernel
theorem d_Ne_areaOf_54 : decode b_Ne_areaOf 54 = .ok (.iload_n 3, 1) := by decide +kernel
theorem d_Ne_areaOf_55 : decode b_Ne_areaOf 55 = .ok (.iaload, 1) := by decide +kernel
theorem d_Ne_areaOf_56 : decode b_Ne_areaOf 56 = .ok (.iaload, 1) := by decide +kernel
theorem d_Ne_areaOf_57 : decode b_Ne_areaOf 57 = .ok (.isub, 1) := by decide +kernel
theorem d_Ne_areaOf_58 : decode b_Ne_areaOf 58 = .ok (.imul, 1) := by decide +kernel
theorem d_Ne_areaOf_59 : decode b_Ne_areaOf 59 = .ok (.iadd, 1) := by decide +kernel
theorem d_Ne_areaOf_60 : decode b_Ne_areaOf 60 = .ok (.istore_n 2, 1) := by decide +kernel
theorem d_Ne_areaOf_61 : decode b_Ne_areaOf 61 = .ok (.iinc 3 1, 3) := by decide +kernel
theorem d_Ne_areaOf_64 : decode b_Ne_areaOf 64 = .ok (.goto (-60), 3) := by decide +kernel
theorem d_Ne_areaOf_67 : decode b_Ne_areaOf 67 = .ok (.iload_n 2, 1) := by decide +kernel
theorem d_Ne_areaOf_68 : decode b_Ne_areaOf 68 = .ok (.ireturn, 1) := by decide +kernel
abbrev wl_Ne_areaOf (a_0 : Nat) (a_0_pointX : Nat) (a_0_pointY : Nat) (a_0_begins : Nat) (a_0_leftSpaces : Nat) (b_0_looseSides : Nat) (b_0_sidesOut : Nat) (b_0_pieceLine : Nat) (b_0_directions : Nat) (b_0_weights : Nat) (b_0_pointAt : Nat) (cI : ClassId) (v_0_points : Int32) (v_0_pieces : Int32) (v_0_looseEnds : Int32) (f_0_pointX : Nat → Int32) (f_0_pointY : Nat → Int32) (f_0_begins : Nat → Int32) (f_0_leftSpaces : Nat → Int32) : va_W := [(a_0, .inr (3, [.ref a_0_pointX, .ref a_0_pointY, .ref b_0_looseSides, .int v_0_points, .int v_0_pieces, .int v_0_looseEnds, .ref b_0_sidesOut, .ref b_0_pieceLine, .ref a_0_begins, .ref b_0_directions, .ref a_0_leftSpaces, .ref b_0_weights, .ref b_0_pointAt])), (a_0_pointX, .inl (cI, 140, .inl f_0_pointX)), (a_0_pointY, .inl (cI, 140, .inl f_0_pointY)), (a_0_begins, .inl (cI, 440, .inl f_0_begins)), (a_0_leftSpaces, .inl (cI, 440, .inl f_0_leftSpaces))]
def m_Ne_areaOf_L4 (l1 : Int32) (v_0_pieces : Int32) (f_0_pointX : Nat → Int32) (f_0_pointY : Nat → Int32) (f_0_begins : Nat → Int32) (f_0_leftSpaces : Nat → Int32) : Nat → Int32 → Int32 → Option (Int32)
  | 0, _, _ => none
  | n + 1, l2, l3 =>
    if (2 * v_0_pieces) ≤ l3 then (
      some l2)
    else (
      gI l3 440 <|
      bd1 (
        if (f_0_leftSpaces l3.toNatClampNeg) = l1 then (
        gI l3 440 <|
        gI (f_0_begins l3.toNatClampNeg) 140 <|
        bd1 (m_Ne_endOf l3 f_0_begins) fun r10 =>
        gI r10 140 <|
        gI l3 440 <|
        gI (f_0_begins l3.toNatClampNeg) 140 <|
        lt_ (l2 + ((f_0_pointX (f_0_begins l3.toNatClampNeg).toNatClampNeg) * ((f_0_pointY r10.toNatClampNeg) - (f_0_pointY (f_0_begins l3.toNatClampNeg).toNatClampNeg)))) fun x15 =>
        some x15)
      else (
        some l2))
      fun (x6 : Int32) =>
      lt_ (l3 + 1) fun x16 =>
        m_Ne_areaOf_L4 l1 v_0_pieces f_0_pointX f_0_pointY f_0_begins f_0_leftSpaces n x6 x16)
def m_Ne_areaOf (p1 : Int32) (v_0_pieces : Int32) (f_0_pointX : Nat → Int32) (f_0_pointY : Nat → Int32) (f_0_begins : Nat → Int32) (f_0_leftSpaces : Nat → Int32) : Option (Int32) :=
  bd1 (m_Ne_areaOf_L4 p1 v_0_pieces f_0_pointX f_0_pointY f_0_begins f_0_leftSpaces fu 0 0) fun x3 =>
  some x3

set_option maxHeartbeats 4000000 in
set_option maxRecDepth 100000 in
theorem t_Ne_areaOf {p : Program} {l : Launch} {e : Env} {s : State} {m : MethodId} {args : Array Value} {below : List Frame} {meth : Method} {c : Code} {A : Nat → Prop} {Q : State → Prop} {dC : Nat → ClassId} {dI : Nat → Nat → Nat} {cI cZ cJ : ClassId} (a_0 a_0_pointX a_0_pointY a_0_begins a_0_leftSpaces b_0_looseSides b_0_sidesOut b_0_pieceLine b_0_directions b_0_weights b_0_pointAt : Nat) (v_0_points : Int32) (v_0_pieces : Int32) (v_0_looseEnds : Int32) (f_0_pointX : Nat → Int32) (f_0_pointY : Nat → Int32) (f_0_begins : Nat → Int32) (f_0_leftSpaces : Nat → Int32) (p1 : Int32) (R0 : Int32) (hx : p.tables.exec = Jvm.exec) (hb : c.code = b_Ne_areaOf) (hml : c.maxLocals = 4) (hown : s.vm.findClass "SpaceCycles$Net" = some m.cls) (hts : ∀ w ∈ w_Ne_areaOf, w.before args s = true) (hK : va_K (dC, dI) vwCl [(cI, .int), (cZ, .boolean), (cJ, .long)] s) (hN : NX s) (hA : ∀ q : Nat, s.heap.size ≤ q → A q)
    (hret : ∀ (pc : Nat) (H : Heap) (locs : List Loc) (ls : Array Slot), decode b_Ne_areaOf pc = .ok (.ireturn, 1) → va_P (dC, dI) vwCl (wl_Ne_areaOf a_0 a_0_pointX a_0_pointY a_0_begins a_0_leftSpaces b_0_looseSides b_0_sidesOut b_0_pieceLine b_0_directions b_0_weights b_0_pointAt cI v_0_points v_0_pieces v_0_looseEnds f_0_pointX f_0_pointY f_0_begins f_0_leftSpaces) H → va_D A (wl_Ne_areaOf a_0 a_0_pointX a_0_pointY a_0_begins a_0_leftSpaces b_0_looseSides b_0_sidesOut b_0_pieceLine b_0_directions b_0_weights b_0_pointAt cI v_0_points v_0_pieces v_0_looseEnds f_0_pointX f_0_pointY f_0_begins f_0_leftSpaces) → va_S A s.heap H locs → W p l e rm_Ne_areaOf s m args below meth c H locs 0 0 Q (F0 m pc ls [.int R0]))
    (hm : m_Ne_areaOf p1 v_0_pieces f_0_pointX f_0_pointY f_0_begins f_0_leftSpaces = some R0) : ∀ (H : Heap) (locs : List Loc) (ls : Array Slot), va_P (dC, dI) vwCl (wl_Ne_areaOf a_0 a_0_pointX a_0_pointY a_0_begins a_0_leftSpaces b_0_looseSides b_0_sidesOut b_0_pieceLine b_0_directions b_0_weights b_0_pointAt cI v_0_points v_0_pieces v_0_looseEnds f_0_pointX f_0_pointY f_0_begins f_0_leftSpaces) H → va_D A (wl_Ne_areaOf a_0 a_0_pointX a_0_pointY a_0_begins a_0_leftSpaces b_0_looseSides b_0_sidesOut b_0_pieceLine b_0_directions b_0_weights b_0_pointAt cI v_0_points v_0_pieces v_0_looseEnds f_0_pointX f_0_pointY f_0_begins f_0_leftSpaces) → va_S A s.heap H locs → lv_has ls 4 [(0, .ref a_0), (1, .int p1)] → W p l e rm_Ne_areaOf s m args below meth c H locs 0 0 Q (F0 m 0 ls []) := by
  intro H locs ls hP hD hS hl
  unfold m_Ne_areaOf at hm
  refine lv_iconst (v := 0) hx hb d_Ne_areaOf_0 (by decide) ?_
  refine lv_istore_n (lv' := [(2, .int 0), (0, .ref a_0), (1, .int p1)]) hx hb d_Ne_areaOf_1 rfl hl (by decide) rfl (fun ls hl => ?_)
  refine lv_iconst (v := 0) hx hb d_Ne_areaOf_2 (by decide) ?_
  refine lv_istore_n (lv' := [(3, .int 0), (2, .int 0), (0, .ref a_0), (1, .int p1)]) hx hb d_Ne_areaOf_3 rfl hl (by decide) rfl (fun ls hl => ?_)
  have L4_4 : ∀ (n : Nat) (x1 : Int32) (x2 : Int32) (x3 : Int32), m_Ne_areaOf_L4 p1 v_0_pieces f_0_pointX f_0_pointY f_0_begins f_0_leftSpaces n x1 x2 = some x3 → (∀ (H : Heap) (locs : List Loc) (ls : Array Slot), va_P (dC, dI) vwCl (wl_Ne_areaOf a_0 a_0_pointX a_0_pointY a_0_begins a_0_leftSpaces b_0_looseSides b_0_sidesOut b_0_pieceLine b_0_directions b_0_weights b_0_pointAt cI v_0_points v_0_pieces v_0_looseEnds f_0_pointX f_0_pointY f_0_begins f_0_leftSpaces) H → va_D A (wl_Ne_areaOf a_0 a_0_pointX a_0_pointY a_0_begins a_0_leftSpaces b_0_looseSides b_0_sidesOut b_0_pieceLine b_0_directions b_0_weights b_0_pointAt cI v_0_points v_0_pieces v_0_looseEnds f_0_pointX f_0_pointY f_0_begins f_0_leftSpaces) → va_S A s.heap H locs → lv_has ls 4 [(2, .int x3)] → W p l e rm_Ne_areaOf s m args below meth c H locs 0 0 Q (F0 m 67 ls [])) → ∀ (H : Heap) (locs : List Loc) (ls : Array Slot), va_P (dC, dI) vwCl (wl_Ne_areaOf a_0 a_0_pointX a_0_pointY a_0_begins a_0_leftSpaces b_0_looseSides b_0_sidesOut b_0_pieceLine b_0_directions b_0_weights b_0_pointAt cI v_0_points v_0_pieces v_0_looseEnds f_0_pointX f_0_pointY f_0_begins f_0_leftSpaces) H → va_D A (wl_Ne_areaOf a_0 a_0_pointX a_0_pointY a_0_begins a_0_leftSpaces b_0_looseSides b_0_sidesOut b_0_pieceLine b_0_directions b_0_weights b_0_pointAt cI v_0_points v_0_pieces v_0_looseEnds f_0_pointX f_0_pointY f_0_begins f_0_leftSpaces) → va_S A s.heap H locs → lv_has ls 4 [(0, .ref a_0), (1, .int p1), (2, .int x1), (3, .int x2)] → W p l e rm_Ne_areaOf s m args below meth c H locs 0 0 Q (F0 m 4 ls []) := by
    intro n
    induction n with
    | zero => intro x1 x2 x3 hm; simp [m_Ne_areaOf_L4] at hm
    | succ n ih =>
      intro x1 x2 x3 hm KE H locs ls hP hD hS hl
      rw [m_Ne_areaOf_L4] at hm
      refine lv_iload_n hx hb d_Ne_areaOf_4 rfl (lv_at hl 3 rfl) ?_
      refine lv_iconst (v := 2) hx hb d_Ne_areaOf_5 (by decide) ?_
      refine lv_aload_n hx hb d_Ne_areaOf_6 rfl (lv_at hl 0 rfl) ?_
      refine va_get (D := (dC, dI)) (ci := 3) (v := .int v_0_pieces) (C := "SpaceCycles$Net") (T := F_Ne) (N := 13) hx hb hts (in_F i_Ne) hown hK hP 0 rfl rfl 4 (by decide) (hts _ (in_c k_174)) (fun _ h9 => h9) rfl d_Ne_areaOf_7 ?_
      refine lv_imul hx hb d_Ne_areaOf_10 ?_
      refine lv_icmp_ge (tgt := 67) hx hb d_Ne_areaOf_11 (by decide) (fun c5 => ?_) (fun c5 => ?_)
      · replace hm := if_t hm c5
        cases hm
        exact KE H locs ls hP hD hS (lv_sub hl [2] rfl)
      · replace hm := if_f hm c5
        refine lv_aload_n hx hb d_Ne_areaOf_14 rfl (lv_at hl 0 rfl) ?_
        refine va_get (D := (dC, dI)) (ci := 3) (v := .ref a_0_leftSpaces) (C := "SpaceCycles$Net") (T := F_Ne) (N := 13) hx hb hts (in_F i_Ne) hown hK hP 0 rfl rfl 10 (by decide) (hts _ (in_c k_173)) (fun _ h9 => h9) rfl d_Ne_areaOf_15 ?_
        refine lv_iload_n hx hb d_Ne_areaOf_18 rfl (lv_at hl 3 rfl) ?_
        obtain ⟨hi6, hm⟩ := gI_e hm
        refine va_iald hx hb hK hP 4 0 rfl rfl hi6 d_Ne_areaOf_19 ?_
        refine lv_iload_n hx hb d_Ne_areaOf_20 rfl (lv_at hl 1 rfl) ?_
        obtain ⟨x10, hb8, hm⟩ := bd1_e hm
        have K7 : ∀ (H : Heap) (locs : List Loc) (ls : Array Slot), va_P (dC, dI) vwCl (wl_Ne_areaOf a_0 a_0_pointX a_0_pointY a_0_begins a_0_leftSpaces b_0_looseSides b_0_sidesOut b_0_pieceLine b_0_directions b_0_weights b_0_pointAt cI v_0_points v_0_pieces v_0_looseEnds f_0_pointX f_0_pointY f_0_begins f_0_leftSpaces) H → va_D A (wl_Ne_areaOf a_0 a_0_pointX a_0_pointY a_0_begins a_0_leftSpaces b_0_looseSides b_0_sidesOut b_0_pieceLine b_0_directions b_0_weights b_0_pointAt cI v_0_points v_0_pieces v_0_looseEnds f_0_pointX f_0_pointY f_0_begins f_0_leftSpaces) → va_S A s.heap H locs → lv_has ls 4 [(0, .ref a_0), (1, .int p1), (2, .int x10), (3, .int x2)] → W p l e rm_Ne_areaOf s m args below meth c H locs 0 0 Q (F0 m 61 ls []) := by
          intro H locs ls hP hD hS hl
          obtain ⟨x20, ex20⟩ : ∃ y : Int32, y = x2 + 1 := ⟨_, rfl⟩
          replace hm := lt_el hm ex20
          refine lv_iinc (v := x20) (lv' := [(3, .int x20), (0, .ref a_0), (1, .int p1), (2, .int x10)]) hx hb d_Ne_areaOf_61 hl (k := 3) rfl (by rw [ex20]; rfl) (by decide) rfl (fun ls hl => ?_)
          refine lv_goto (tgt := 4) hx hb d_Ne_areaOf_64 (by decide) ?_
          exact ih _ _ _ hm KE H locs ls hP hD hS (lv_sub hl [1, 2, 3, 0] rfl)
        replace hm := hb8
        refine lv_icmp_ne (tgt := 61) hx hb d_Ne_areaOf_21 (by decide) (fun c11 => ?_) (fun c11 => ?_)
        · replace hm := if_f hm c11
          cases hm
          exact K7 H locs ls hP hD hS (lv_sub hl [0, 1, 2, 3] rfl)
        · replace hm := if_t hm c11
          refine lv_iload_n hx hb d_Ne_areaOf_24 rfl (lv_at hl 2 rfl) ?_
          refine lv_aload_n hx hb d_Ne_areaOf_25 rfl (lv_at hl 0 rfl) ?_
          refine va_get (D := (dC, dI)) (ci := 3) (v := .ref a_0_pointX) (C := "SpaceCycles$Net") (T := F_Ne) (N := 13) hx hb hts (in_F i_Ne) hown hK hP 0 rfl rfl 0 (by decide) (hts _ (in_c k_161)) (fun _ h9 => h9) rfl d_Ne_areaOf_26 ?_
          refine lv_aload_n hx hb d_Ne_areaOf_29 rfl (lv_at hl 0 rfl) ?_
          refine va_get (D := (dC, dI)) (ci := 3) (v := .ref a_0_begins) (C := "SpaceCycles$Net") (T := F_Ne) (N := 13) hx hb hts (in_F i_Ne) hown hK hP 0 rfl rfl 8 (by decide) (hts _ (in_c k_171)) (fun _ h9 => h9) rfl d_Ne_areaOf_30 ?_
          refine lv_iload_n hx hb d_Ne_areaOf_33 rfl (lv_at hl 3 rfl) ?_
          obtain ⟨hi12, hm⟩ := gI_e hm
          refine va_iald hx hb hK hP 3 0 rfl rfl hi12 d_Ne_areaOf_34 ?_
          obtain ⟨hi13, hm⟩ := gI_e hm
          refine va_iald hx hb hK hP 1 0 rfl rfl hi13 d_Ne_areaOf_35 ?_
          refine lv_aload_n hx hb d_Ne_areaOf_36 rfl (lv_at hl 0 rfl) ?_
          refine va_get (D := (dC, dI)) (ci := 3) (v := .ref a_0_pointY) (C := "SpaceCycles$Net") (T := F_Ne) (N := 13) hx hb hts (in_F i_Ne) hown hK hP 0 rfl rfl 1 (by decide) (hts _ (in_c k_163)) (fun _ h9 => h9) rfl d_Ne_areaOf_37 ?_
          refine lv_aload_n hx hb d_Ne_areaOf_40 rfl (lv_at hl 0 rfl) ?_
          refine lv_iload_n hx hb d_Ne_areaOf_41 rfl (lv_at hl 3 rfl) ?_
          obtain ⟨r14, hb15, hm⟩ := bd1_e hm
          have hPc := hP.sub (ws' := (wl_Ne_endOf a_0 a_0_begins a_0_pointX a_0_pointY b_0_looseSides b_0_sidesOut b_0_pieceLine b_0_directions a_0_leftSpaces b_0_weights b_0_pointAt cI v_0_points v_0_pieces v_0_looseEnds f_0_begins)) [0, 3] rfl
          have hDc := hD.sub (ws' := (wl_Ne_endOf a_0 a_0_begins a_0_pointX a_0_pointY b_0_looseSides b_0_sidesOut b_0_pieceLine b_0_directions a_0_leftSpaces b_0_weights b_0_pointAt cI v_0_points v_0_pieces v_0_looseEnds f_0_begins)) [0, 3] (by decide) rfl
          refine cl_i (wc' := (wl_Ne_endOf a_0 a_0_begins a_0_pointX a_0_pointY b_0_looseSides b_0_sidesOut b_0_pieceLine b_0_directions a_0_leftSpaces b_0_weights b_0_pointAt cI v_0_points v_0_pieces v_0_looseEnds f_0_begins)) (va_runV (As := [.int x2]) (rest := [.ref a_0_pointY, .int (f_0_pointX (f_0_begins x2.toNatClampNeg).toNatClampNeg), .int x1]) ⟨hx, hb, hml, hown, hts⟩ (c_Ne_endOf l dC dI (cI := cI) (cZ := cZ) (cJ := cJ) a_0 a_0_begins a_0_pointX a_0_pointY b_0_looseSides b_0_sidesOut b_0_pieceLine b_0_directions a_0_leftSpaces b_0_weights b_0_pointAt H.size v_0_points v_0_pieces v_0_looseEnds f_0_begins x2 r14 hb15) (cwV 1 hts (gl_V k_204 k_203 k_202 k_145 k_201) rfl rfl rfl (by decide +kernel) ⟨Nat.le_of_ble_eq_true rfl, Nat.le_of_ble_eq_true rfl⟩) ⟨PP_blind, va_recv hK hPc (ci := 3) (q0 := 0) rfl rfl, fun U hU hW => PP_at hK hN hPc hDc hU hW⟩ rfl rfl hl.1 rfl (lv_room (Nat.le_of_ble_eq_true rfl)) d_Ne_areaOf_42 ⟨Nat.zero_le _, Nat.zero_le _⟩) hP hD hS hA [0, 3] [1, 2, 4] rfl rfl (by decide) (by decide) (fun H locs hP hD hS => ?_)
          have hP : va_P (dC, dI) vwCl (wl_Ne_areaOf a_0 a_0_pointX a_0_pointY a_0_begins a_0_leftSpaces b_0_looseSides b_0_sidesOut b_0_pieceLine b_0_directions b_0_weights b_0_pointAt cI v_0_points v_0_pieces v_0_looseEnds f_0_pointX f_0_pointY f_0_begins f_0_leftSpaces) H := hP.sub [3, 0, 1, 4, 2] rfl
          have hD : va_D A (wl_Ne_areaOf a_0 a_0_pointX a_0_pointY a_0_begins a_0_leftSpaces b_0_looseSides b_0_sidesOut b_0_pieceLine b_0_directions b_0_weights b_0_pointAt cI v_0_points v_0_pieces v_0_looseEnds f_0_pointX f_0_pointY f_0_begins f_0_leftSpaces) := hD.sub [3, 0, 1, 4, 2] (by decide) rfl
          obtain ⟨hi16, hm⟩ := gI_e hm
          refine va_iald hx hb hK hP 2 0 rfl rfl hi16 d_Ne_areaOf_45 ?_
          refine lv_aload_n hx hb d_Ne_areaOf_46 rfl (lv_at hl 0 rfl) ?_
          refine va_get (D := (dC, dI)) (ci := 3) (v := .ref a_0_pointY) (C := "SpaceCycles$Net") (T := F_Ne) (N := 13) hx hb hts (in_F i_Ne) hown hK hP 0 rfl rfl 1 (by decide) (hts _ (in_c k_163)) (fun _ h9 => h9) rfl d_Ne_areaOf_47 ?_
          refine lv_aload_n hx hb d_Ne_areaOf_50 rfl (lv_at hl 0 rfl) ?_
          refine va_get (D := (dC, dI)) (ci := 3) (v := .ref a_0_begins) (C := "SpaceCycles$Net") (T := F_Ne) (N := 13) hx hb hts (in_F i_Ne) hown hK hP 0 rfl rfl 8 (by decide) (hts _ (in_c k_171)) (fun _ h9 => h9) rfl d_Ne_areaOf_51 ?_
          refine lv_iload_n hx hb d_Ne_areaOf_54 rfl (lv_at hl 3 rfl) ?_
          obtain ⟨hi17, hm⟩ := gI_e hm
          refine va_iald hx hb hK hP 3 0 rfl rfl hi17 d_Ne_areaOf_55 ?_
          obtain ⟨hi18, hm⟩ := gI_e hm
          refine va_iald hx hb hK hP 2 0 rfl rfl hi18 d_Ne_areaOf_56 ?_
          refine lv_isub hx hb d_Ne_areaOf_57 ?_
          refine lv_imul hx hb d_Ne_areaOf_58 ?_
          refine lv_iadd hx hb d_Ne_areaOf_59 ?_
          refine lv_topi (fun x19 ex19 => ?_)
          replace hm := lt_el hm ex19
          refine lv_istore_n (lv' := [(2, .int x19), (0, .ref a_0), (1, .int p1), (3, .int x2)]) hx hb d_Ne_areaOf_60 rfl hl (by decide) rfl (fun ls hl => ?_)
          cases hm
          exact K7 H locs ls hP hD hS (lv_sub hl [1, 2, 0, 3] rfl)
  obtain ⟨x3, hb21, hm⟩ := bd1_e hm
  refine L4_4 fu _ _ _ hb21 (fun H locs ls hP hD hS hl => ?_) H locs ls hP hD hS (lv_sub hl [2, 3, 1, 0] rfl)
  refine lv_iload_n hx hb d_Ne_areaOf_67 rfl (lv_at hl 0 rfl) ?_
  cases hm
  exact hret _ H locs ls d_Ne_areaOf_68 hP hD hS
set_option maxHeartbeats 4000000 in
set_option maxRecDepth 100000 in
theorem c_Ne_areaOf (l : Launch) (dC : Nat → ClassId) (dI : Nat → Nat → Nat) {cI cZ cJ : ClassId} (a_0 a_0_pointX a_0_pointY a_0_begins a_0_leftSpaces b_0_looseSides b_0_sidesOut b_0_pieceLine b_0_directions b_0_weights b_0_pointAt : Nat) (sz : Nat) (v_0_points : Int32) (v_0_pieces : Int32) (v_0_looseEnds : Int32) (f_0_pointX : Nat → Int32) (f_0_pointY : Nat → Int32) (f_0_begins : Nat → Int32) (f_0_leftSpaces : Nat → Int32) (p1 : Int32) (R0 : Int32) (hm : m_Ne_areaOf p1 v_0_pieces f_0_pointX f_0_pointY f_0_begins f_0_leftSpaces = some R0) : Met l y_Ne_areaOf w_Ne_areaOf rm_Ne_areaOf (PP dC dI [(cI, .int), (cZ, .boolean), (cJ, .long)] [.ref a_0, .int p1] sz (wl_Ne_areaOf a_0 a_0_pointX a_0_pointY a_0_begins a_0_leftSpaces b_0_looseSides b_0_sidesOut b_0_pieceLine b_0_directions b_0_weights b_0_pointAt cI v_0_points v_0_pieces v_0_looseEnds f_0_pointX f_0_pointY f_0_begins f_0_leftSpaces)) (QI dC dI [(cI, .int), (cZ, .boolean), (cJ, .long)] sz (wl_Ne_areaOf a_0 a_0_pointX a_0_pointY a_0_begins a_0_leftSpaces b_0_looseSides b_0_sidesOut b_0_pieceLine b_0_directions b_0_weights b_0_pointAt cI v_0_points v_0_pieces v_0_looseEnds f_0_pointX f_0_pointY f_0_begins f_0_leftSpaces) (wl_Ne_areaOf a_0 a_0_pointX a_0_pointY a_0_begins a_0_leftSpaces b_0_looseSides b_0_sidesOut b_0_pieceLine b_0_directions b_0_weights b_0_pointAt cI v_0_points v_0_pieces v_0_looseEnds f_0_pointX f_0_pointY f_0_begins f_0_leftSpaces) R0) 0 0 (va_A (wl_Ne_areaOf a_0 a_0_pointX a_0_pointY a_0_begins a_0_leftSpaces b_0_looseSides b_0_sidesOut b_0_pieceLine b_0_directions b_0_weights b_0_pointAt cI v_0_points v_0_pieces v_0_looseEnds f_0_pointX f_0_pointY f_0_begins f_0_leftSpaces) sz) := by
  refine Met.ofW (cc := b_Ne_areaOf) (maxL := 4) (ret := (some .int)) (by decide) rfl ?_
  intro p e s m args below meth c s₁ B hml hv
  obtain ⟨rfl, hsz, hP, hK, hD0, hN⟩ := hv
  subst hsz
  have hl := lv_entry ([.ref a_0, .int p1]) (n := 4) (Nat.le_of_ble_eq_true rfl)
  rw [lg_entry_eq]
  generalize (lg_sl ([.ref a_0, .int p1]) ++ List.replicate (4 - (lg_sl ([.ref a_0, .int p1])).length) Slot.unset).toArray = ls at hl ⊢
  exact t_Ne_areaOf a_0 a_0_pointX a_0_pointY a_0_begins a_0_leftSpaces b_0_looseSides b_0_sidesOut b_0_pieceLine b_0_directions b_0_weights b_0_pointAt v_0_points v_0_pieces v_0_looseEnds f_0_pointX f_0_pointY f_0_begins f_0_leftSpaces p1 R0 B.exec B.bytes hml (findClass_of_methodNamed B.named) (atoms_spec (ws := w_Ne_areaOf) B.pre) hK hN (fun q h => Or.inr h) (fun pc H locs ls hd hP9 hD9 hS => W.iret B.exec B.bytes B.returns (fun t ht hW => ⟨⟨_, (), rfl, rfl, by rw [ht]; exact hP9, va_K.moved hW.alike hK, hD9⟩, hS.F ht⟩) hS.2.2 hd) hm s.heap [] ls hP hD0.self va_S.rf hl

theorem k_208 : ((.code ⟨"SpaceCycles$Net", "lengthOf", "(I)I"⟩ prog_8_method_10_code 4 (some .int)) : Cond) ∈ gl := gl_i 986 (by decide +kernel) (by decide +kernel)
theorem k_209 : ((.selects "SpaceCycles$Net" ⟨"SpaceCycles$Net", "lengthOf", "(I)I"⟩ ⟨"SpaceCycles$Net", "lengthOf", "(I)I"⟩) : Cond) ∈ gl := gl_i 985 (by decide +kernel) (by decide +kernel)
theorem k_210 : ((.instanceMethod ⟨"SpaceCycles$Net", "lengthOf", "(I)I"⟩) : Cond) ∈ gl := gl_i 984 (by decide +kernel) (by decide +kernel)
theorem k_211 : ((.methodLink "SpaceCycles$Net" 88 ⟨"SpaceCycles$Net", "lengthOf", "(I)I"⟩) : Cond) ∈ gl := gl_i 983 (by decide +kernel) (by decide +kernel)
-- SpaceCycles$Net.edgeOf(I)I
abbrev b_Ne_edgeOf : ByteArray := prog_8_method_14_code
abbrev y_Ne_edgeOf : MethodName := ⟨"SpaceCycles$Net", "edgeOf", "(I)I"⟩
abbrev w_Ne_edgeOf : List Cond := Cond.code y_Ne_edgeOf b_Ne_edgeOf 4 (some .int) :: gl
abbrev rm_Ne_edgeOf : Room := { frames := 2, cells := 0, slots := 0, locals := 87 }
theorem d_Ne_edgeOf_0 : decode b_Ne_edgeOf 0 = .ok (.iconst 0, 1) := by decide +kernel
theorem d_Ne_edgeOf_1 : decode b_Ne_edgeOf 1 = .ok (.istore_n 2, 1) := by decide +kernel
theorem d_Ne_edgeOf_2 : decode b_Ne_edgeOf 2 = .ok (.iconst 0, 1) := by decide +kernel
theorem d_Ne_edgeOf_3 : decode b_Ne_edgeOf 3 = .ok (.istore_n 3, 1) := by decide +kernel
theorem d_Ne_edgeOf_4 : decode b_Ne_edgeOf 4 = .ok (.iload_n 3, 1) := by decide +kernel
theorem d_Ne_edgeOf_5 : decode b_Ne_edgeOf 5 = .ok (.iconst 2, 1) := by decide +kernel
theorem d_Ne_edgeOf_6 : decode b_Ne_edgeOf 6 = .ok (.aload_n 0, 1) := by decide +kernel
theorem d_Ne_edgeOf_7 : decode b_Ne_edgeOf 7 = .ok (.getfield 25, 3) := by decide +kernel
theorem d_Ne_edgeOf_10 : decode b_Ne_edgeOf 10 = .ok (.imul, 1) := by decide +kernel
theorem d_Ne_edgeOf_11 : decode b_Ne_edgeOf 11 = .ok (.if_icmp .ge 27, 3) := by decide +kernel
theorem d_Ne_edgeOf_14 : decode b_Ne_edgeOf 14 = .ok (.aload_n 0, 1) := by decide +kernel
theorem d_Ne_edgeOf_15 : decode b_Ne_edgeOf 15 = .ok (.getfield 43, 3) := by decide +kernel
theorem d_Ne_edgeOf_18 : decode b_Ne_edgeOf 18 = .ok (.iload_n 3, 1) := by decide +kernel
theorem d_Ne_edgeOf_19 : decode b_Ne_edgeOf 19 = .ok (.iaload, 1) := by decide +kernel
theorem d_Ne_edgeOf_20 : decode b_Ne_edgeOf 20 = .ok (.iload_n 1, 1) := by decide +kernel
theorem d_Ne_edgeOf_21 : decode b_Ne_edgeOf 21 = .ok (.if_icmp .ne 11, 3) := by decide +kernel
theorem d_Ne_edgeOf_24 : decode b_Ne_edgeOf 24 = .ok (.iload_n 2, 1) := by decide +kernel
theorem d_Ne_edgeOf_25 : decode b_Ne_edgeOf 25 = .ok (.aload_n 0, 1) := by decide +kernel
theorem d_Ne_edgeOf_26 : decode b_Ne_edgeOf 26 = .ok (.iload_n 3, 1) := by decide +kernel
theorem d_Ne_edgeOf_27 : decode b_Ne_edgeOf 27 = .ok (.invokevirtual 88, 3) := by decide +kernel
theorem d_Ne_edgeOf_30 : decode b_Ne_edgeOf 30 = .ok (.iadd, 1) := by decide +kernel
theorem d_Ne_edgeOf_31 : decode b_Ne_edgeOf 31 = .ok (.istore_n 2, 1) := by decide +kernel
theorem d_Ne_edgeOf_32 : decode b_Ne_edgeOf 32 = .ok (.iinc 3 1, 3) := by decide +kernel
theorem d_Ne_edgeOf_35 : decode b_Ne_edgeOf 35 = .ok (.goto (-31), 3) := by decide +kernel
theorem d_Ne_edgeOf_38 : decode b_Ne_edgeOf 38 = .ok (.iload_n 2, 1) := by decide +kernel
theorem d_Ne_edgeOf_39 : decode b_Ne_edgeOf 39 = .ok (.ireturn, 1) := by decide +kernel
abbrev wl_Ne_edgeOf (a_0 : Nat) (a_0_pointX : Nat) (a_0_pointY : Nat) (a_0_begins : Nat) (a_0_leftSpaces : Nat) (b_0_looseSides : Nat) (b_0_sidesOut : Nat) (b_0_pieceLine : Nat) (b_0_directions : Nat) (b_0_weights : Nat) (b_0_pointAt : Nat) (cI : ClassId) (v_0_points : Int32) (v_0_pieces : Int32) (v_0_looseEnds : Int32) (f_0_pointX : Nat → Int32) (f_0_pointY : Nat → Int32) (f_0_begins : Nat → Int32) (f_0_leftSpaces : Nat → Int32) : va_W := [(a_0, .inr (3, [.ref a_0_pointX, .ref a_0_pointY, .ref b_0_looseSides, .int v_0_points, .int v_0_pieces, .int v_0_looseEnds, .ref b_0_sidesOut, .ref b_0_pieceLine, .ref a_0_begins, .ref b_0_directions, .ref a_0_leftSpaces, .ref b_0_weights, .ref b_0_pointAt])), (a_0_pointX, .inl (cI, 140, .inl f_0_pointX)), (a_0_pointY, .inl (cI, 140, .inl f_0_pointY)), (a_0_begins, .inl (cI, 440, .inl f_0_begins)), (a_0_leftSpaces, .inl (cI, 440, .inl f_0_leftSpaces))]
def m_Ne_edgeOf_L4 (l1 : Int32) (v_0_pieces : Int32) (f_0_pointX : Nat → Int32) (f_0_pointY : Nat → Int32) (f_0_begins : Nat → Int32) (f_0_leftSpaces : Nat → Int32) : Nat → Int32 → Int32 → Option (Int32)
  | 0, _, _ => none
  | n + 1, l2, l3 =>
    if (2 * v_0_pieces) ≤ l3 then (
      some l2)
    else (
      gI l3 440 <|
      bd1 (
        if (f_0_leftSpaces l3.toNatClampNeg) = l1 then (
        bd1 (m_Ne_lengthOf l3 f_0_pointX f_0_pointY f_0_begins) fun r8 =>
        lt_ (l2 + r8) fun x10 =>
        some x10)
      else (
        some l2))
      fun (x6 : Int32) =>
      lt_ (l3 + 1) fun x11 =>
        m_Ne_edgeOf_L4 l1 v_0_pieces f_0_pointX f_0_pointY f_0_begins f_0_leftSpaces n x6 x11)
def m_Ne_edgeOf (p1 : Int32) (v_0_pieces : Int32) (f_0_pointX : Nat → Int32) (f_0_pointY : Nat → Int32) (f_0_begins : Nat → Int32) (f_0_leftSpaces : Nat → Int32) : Option (Int32) :=
  bd1 (m_Ne_edgeOf_L4 p1 v_0_pieces f_0_pointX f_0_pointY f_0_begins f_0_leftSpaces fu 0 0) fun x3 =>
  some x3

set_option maxHeartbeats 4000000 in
set_option maxRecDepth 100000 in
theorem t_Ne_edgeOf {p : Program} {l : Launch} {e : Env} {s : State} {m : MethodId} {args : Array Value} {below : List Frame} {meth : Method} {c : Code} {A : Nat → Prop} {Q : State → Prop} {dC : Nat → ClassId} {dI : Nat → Nat → Nat} {cI cZ cJ : ClassId} (a_0 a_0_pointX a_0_pointY a_0_begins a_0_leftSpaces b_0_looseSides b_0_sidesOut b_0_pieceLine b_0_directions b_0_weights b_0_pointAt : Nat) (v_0_points : Int32) (v_0_pieces : Int32) (v_0_looseEnds : Int32) (f_0_pointX : Nat → Int32) (f_0_pointY : Nat → Int32) (f_0_begins : Nat → Int32) (f_0_leftSpaces : Nat → Int32) (p1 : Int32) (R0 : Int32) (hx : p.tables.exec = Jvm.exec) (hb : c.code = b_Ne_edgeOf) (hml : c.maxLocals = 4) (hown : s.vm.findClass "SpaceCycles$Net" = some m.cls) (hts : ∀ w ∈ w_Ne_edgeOf, w.before args s = true) (hK : va_K (dC, dI) vwCl [(cI, .int), (cZ, .boolean), (cJ, .long)] s) (hN : NX s) (hA : ∀ q : Nat, s.heap.size ≤ q → A q)
    (hret : ∀ (pc : Nat) (H : Heap) (locs : List Loc) (ls : Array Slot), decode b_Ne_edgeOf pc = .ok (.ireturn, 1) → va_P (dC, dI) vwCl (wl_Ne_edgeOf a_0 a_0_pointX a_0_pointY a_0_begins a_0_leftSpaces b_0_looseSides b_0_sidesOut b_0_pieceLine b_0_directions b_0_weights b_0_pointAt cI v_0_points v_0_pieces v_0_looseEnds f_0_pointX f_0_pointY f_0_begins f_0_leftSpaces) H → va_D A (wl_Ne_edgeOf a_0 a_0_pointX a_0_pointY a_0_begins a_0_leftSpaces b_0_looseSides b_0_sidesOut b_0_pieceLine b_0_directions b_0_weights b_0_pointAt cI v_0_points v_0_pieces v_0_looseEnds f_0_pointX f_0_pointY f_0_begins f_0_leftSpaces) → va_S A s.heap H locs → W p l e rm_Ne_edgeOf s m args below meth c H locs 0 0 Q (F0 m pc ls [.int R0]))
    (hm : m_Ne_edgeOf p1 v_0_pieces f_0_pointX f_0_pointY f_0_begins f_0_leftSpaces = some R0) : ∀ (H : Heap) (locs : List Loc) (ls : Array Slot), va_P (dC, dI) vwCl (wl_Ne_edgeOf a_0 a_0_pointX a_0_pointY a_0_begins a_0_leftSpaces b_0_looseSides b_0_sidesOut b_0_pieceLine b_0_directions b_0_weights b_0_pointAt cI v_0_points v_0_pieces v_0_looseEnds f_0_pointX f_0_pointY f_0_begins f_0_leftSpaces) H → va_D A (wl_Ne_edgeOf a_0 a_0_pointX a_0_pointY a_0_begins a_0_leftSpaces b_0_looseSides b_0_sidesOut b_0_pieceLine b_0_directions b_0_weights b_0_pointAt cI v_0_points v_0_pieces v_0_looseEnds f_0_pointX f_0_pointY f_0_begins f_0_leftSpaces) → va_S A s.heap H locs → lv_has ls 4 [(0, .ref a_0), (1, .int p1)] → W p l e rm_Ne_edgeOf s m args below meth c H locs 0 0 Q (F0 m 0 ls []) := by
  intro H locs ls hP hD hS hl
  unfold m_Ne_edgeOf at hm
  refine lv_iconst (v := 0) hx hb d_Ne_edgeOf_0 (by decide) ?_
  refine lv_istore_n (lv' := [(2, .int 0), (0, .ref a_0), (1, .int p1)]) hx hb d_Ne_edgeOf_1 rfl hl (by decide) rfl (fun ls hl => ?_)
  refine lv_iconst (v := 0) hx hb d_Ne_edgeOf_2 (by decide) ?_
  refine lv_istore_n (lv' := [(3, .int 0), (2, .int 0), (0, .ref a_0), (1, .int p1)]) hx hb d_Ne_edgeOf_3 rfl hl (by decide) rfl (fun ls hl => ?_)
  have L4_4 : ∀ (n : Nat) (x1 : Int32) (x2 : Int32) (x3 : Int32), m_Ne_edgeOf_L4 p1 v_0_pieces f_0_pointX f_0_pointY f_0_begins f_0_leftSpaces n x1 x2 = some x3 → (∀ (H : Heap) (locs : List Loc) (ls : Array Slot), va_P (dC, dI) vwCl (wl_Ne_edgeOf a_0 a_0_pointX a_0_pointY a_0_begins a_0_leftSpaces b_0_looseSides b_0_sidesOut b_0_pieceLine b_0_directions b_0_weights b_0_pointAt cI v_0_points v_0_pieces v_0_looseEnds f_0_pointX f_0_pointY f_0_begins f_0_leftSpaces) H → va_D A (wl_Ne_edgeOf a_0 a_0_pointX a_0_pointY a_0_begins a_0_leftSpaces b_0_looseSides b_0_sidesOut b_0_pieceLine b_0_directions b_0_weights b_0_pointAt cI v_0_points v_0_pieces v_0_looseEnds f_0_pointX f_0_pointY f_0_begins f_0_leftSpaces) → va_S A s.heap H locs → lv_has ls 4 [(2, .int x3)] → W p l e rm_Ne_edgeOf s m args below meth c H locs 0 0 Q (F0 m 38 ls [])) → ∀ (H : Heap) (locs : List Loc) (ls : Array Slot), va_P (dC, dI) vwCl (wl_Ne_edgeOf a_0 a_0_pointX a_0_pointY a_0_begins a_0_leftSpaces b_0_looseSides b_0_sidesOut b_0_pieceLine b_0_directions b_0_weights b_0_pointAt cI v_0_points v_0_pieces v_0_looseEnds f_0_pointX f_0_pointY f_0_begins f_0_leftSpaces) H → va_D A (wl_Ne_edgeOf a_0 a_0_pointX a_0_pointY a_0_begins a_0_leftSpaces b_0_looseSides b_0_sidesOut b_0_pieceLine b_0_directions b_0_weights b_0_pointAt cI v_0_points v_0_pieces v_0_looseEnds f_0_pointX f_0_pointY f_0_begins f_0_leftSpaces) → va_S A s.heap H locs → lv_has ls 4 [(0, .ref a_0), (1, .int p1), (2, .int x1), (3, .int x2)] → W p l e rm_Ne_edgeOf s m args below meth c H locs 0 0 Q (F0 m 4 ls []) := by
    intro n
    induction n with
    | zero => intro x1 x2 x3 hm; simp [m_Ne_edgeOf_L4] at hm
    | succ n ih =>
      intro x1 x2 x3 hm KE H locs ls hP hD hS hl
      rw [m_Ne_edgeOf_L4] at hm
      refine lv_iload_n hx hb d_Ne_edgeOf_4 rfl (lv_at hl 3 rfl) ?_
      refine lv_iconst (v := 2) hx hb d_Ne_edgeOf_5 (by decide) ?_
      refine lv_aload_n hx hb d_Ne_edgeOf_6 rfl (lv_at hl 0 rfl) ?_
      refine va_get (D := (dC, dI)) (ci := 3) (v := .int v_0_pieces) (C := "SpaceCycles$Net") (T := F_Ne) (N := 13) hx hb hts (in_F i_Ne) hown hK hP 0 rfl rfl 4 (by decide) (hts _ (in_c k_174)) (fun _ h9 => h9) rfl d_Ne_edgeOf_7 ?_
      refine lv_imul hx hb d_Ne_edgeOf_10 ?_
      refine lv_icmp_ge (tgt := 38) hx hb d_Ne_edgeOf_11 (by decide) (fun c5 => ?_) (fun c5 => ?_)
      · replace hm := if_t hm c5
        cases hm
        exact KE H locs ls hP hD hS (lv_sub hl [2] rfl)
      · replace hm := if_f hm c5
        refine lv_aload_n hx hb d_Ne_edgeOf_14 rfl (lv_at hl 0 rfl) ?_
        refine va_get (D := (dC, dI)) (ci := 3) (v := .ref a_0_leftSpaces) (C := "SpaceCycles$Net") (T := F_Ne) (N := 13) hx hb hts (in_F i_Ne) hown hK hP 0 rfl rfl 10 (by decide) (hts _ (in_c k_173)) (fun _ h9 => h9) rfl d_Ne_edgeOf_15 ?_
        refine lv_iload_n hx hb d_Ne_edgeOf_18 rfl (lv_at hl 3 rfl) ?_
        obtain ⟨hi6, hm⟩ := gI_e hm
        refine va_iald hx hb hK hP 4 0 rfl rfl hi6 d_Ne_edgeOf_19 ?_
        refine lv_iload_n hx hb d_Ne_edgeOf_20 rfl (lv_at hl 1 rfl) ?_
        obtain ⟨x10, hb8, hm⟩ := bd1_e hm
        have K7 : ∀ (H : Heap) (locs : List Loc) (ls : Array Slot), va_P (dC, dI) vwCl (wl_Ne_edgeOf a_0 a_0_pointX a_0_pointY a_0_begins a_0_leftSpaces b_0_looseSides b_0_sidesOut b_0_pieceLine b_0_directions b_0_weights b_0_pointAt cI v_0_points v_0_pieces v_0_looseEnds f_0_pointX f_0_pointY f_0_begins f_0_leftSpaces) H → va_D A (wl_Ne_edgeOf a_0 a_0_pointX a_0_pointY a_0_begins a_0_leftSpaces b_0_looseSides b_0_sidesOut b_0_pieceLine b_0_directions b_0_weights b_0_pointAt cI v_0_points v_0_pieces v_0_looseEnds f_0_pointX f_0_pointY f_0_begins f_0_leftSpaces) → va_S A s.heap H locs → lv_has ls 4 [(0, .ref a_0), (1, .int p1), (2, .int x10), (3, .int x2)] → W p l e rm_Ne_edgeOf s m args below meth c H locs 0 0 Q (F0 m 32 ls []) := by
          intro H locs ls hP hD hS hl
          obtain ⟨x15, ex15⟩ : ∃ y : Int32, y = x2 + 1 := ⟨_, rfl⟩
          replace hm := lt_el hm ex15
          refine lv_iinc (v := x15) (lv' := [(3, .int x15), (0, .ref a_0), (1, .int p1), (2, .int x10)]) hx hb d_Ne_edgeOf_32 hl (k := 3) rfl (by rw [ex15]; rfl) (by decide) rfl (fun ls hl => ?_)
          refine lv_goto (tgt := 4) hx hb d_Ne_edgeOf_35 (by decide) ?_
          exact ih _ _ _ hm KE H locs ls hP hD hS (lv_sub hl [1, 2, 3, 0] rfl)
        replace hm := hb8
        refine lv_icmp_ne (tgt := 32) hx hb d_Ne_edgeOf_21 (by decide) (fun c11 => ?_) (fun c11 => ?_)
        · replace hm := if_f hm c11
          cases hm
          exact K7 H locs ls hP hD hS (lv_sub hl [0, 1, 2, 3] rfl)
        · replace hm := if_t hm c11
          refine lv_iload_n hx hb d_Ne_edgeOf_24 rfl (lv_at hl 2 rfl) ?_
          refine lv_aload_n hx hb d_Ne_edgeOf_25 rfl (lv_at hl 0 rfl) ?_
          refine lv_iload_n hx hb d_Ne_edgeOf_26 rfl (lv_at hl 3 rfl) ?_
          obtain ⟨r12, hb13, hm⟩ := bd1_e hm
          have hPc := hP.sub (ws' := (wl_Ne_lengthOf a_0 a_0_pointX a_0_pointY a_0_begins b_0_looseSides b_0_sidesOut b_0_pieceLine b_0_directions a_0_leftSpaces b_0_weights b_0_pointAt cI v_0_points v_0_pieces v_0_looseEnds f_0_pointX f_0_pointY f_0_begins)) [0, 1, 2, 3] rfl
          have hDc := hD.sub (ws' := (wl_Ne_lengthOf a_0 a_0_pointX a_0_pointY a_0_begins b_0_looseSides b_0_sidesOut b_0_pieceLine b_0_directions a_0_leftSpaces b_0_weights b_0_pointAt cI v_0_points v_0_pieces v_0_looseEnds f_0_pointX f_0_pointY f_0_begins)) [0, 1, 2, 3] (by decide) rfl
          refine cl_i (wc' := (wl_Ne_lengthOf a_0 a_0_pointX a_0_pointY a_0_begins b_0_looseSides b_0_sidesOut b_0_pieceLine b_0_directions a_0_leftSpaces b_0_weights b_0_pointAt cI v_0_points v_0_pieces v_0_looseEnds f_0_pointX f_0_pointY f_0_begins)) (va_runV (As := [.int x2]) (rest := [.int x1]) ⟨hx, hb, hml, hown, hts⟩ (c_Ne_lengthOf l dC dI (cI := cI) (cZ := cZ) (cJ := cJ) a_0 a_0_pointX a_0_pointY a_0_begins b_0_looseSides b_0_sidesOut b_0_pieceLine b_0_directions a_0_leftSpaces b_0_weights b_0_pointAt H.size v_0_points v_0_pieces v_0_looseEnds f_0_pointX f_0_pointY f_0_begins x2 r12 hb13) (cwV 1 hts (gl_V k_211 k_210 k_209 k_145 k_208) rfl rfl rfl (by decide +kernel) ⟨Nat.le_of_ble_eq_true rfl, Nat.le_of_ble_eq_true rfl⟩) ⟨PP_blind, va_recv hK hPc (ci := 3) (q0 := 0) rfl rfl, fun U hU hW => PP_at hK hN hPc hDc hU hW⟩ rfl rfl hl.1 rfl (lv_room (Nat.le_of_ble_eq_true rfl)) d_Ne_edgeOf_27 ⟨Nat.zero_le _, Nat.zero_le _⟩) hP hD hS hA [0, 1, 2, 3] [4] rfl rfl (by decide) (by decide) (fun H locs hP hD hS => ?_)
          have hP : va_P (dC, dI) vwCl (wl_Ne_edgeOf a_0 a_0_pointX a_0_pointY a_0_begins a_0_leftSpaces b_0_looseSides b_0_sidesOut b_0_pieceLine b_0_directions b_0_weights b_0_pointAt cI v_0_points v_0_pieces v_0_looseEnds f_0_pointX f_0_pointY f_0_begins f_0_leftSpaces) H := hP.sub [1, 2, 3, 4, 0] rfl
          have hD : va_D A (wl_Ne_edgeOf a_0 a_0_pointX a_0_pointY a_0_begins a_0_leftSpaces b_0_looseSides b_0_sidesOut b_0_pieceLine b_0_directions b_0_weights b_0_pointAt cI v_0_points v_0_pieces v_0_looseEnds f_0_pointX f_0_pointY f_0_begins f_0_leftSpaces) := hD.sub [1, 2, 3, 4, 0] (by decide) rfl
          refine lv_iadd hx hb d_Ne_edgeOf_30 ?_
          refine lv_topi (fun x14 ex14 => ?_)
          replace hm := lt_el hm ex14
          refine lv_istore_n (lv' := [(2, .int x14), (0, .ref a_0), (1, .int p1), (3, .int x2)]) hx hb d_Ne_edgeOf_31 rfl hl (by decide) rfl (fun ls hl => ?_)
          cases hm
          exact K7 H locs ls hP hD hS (lv_sub hl [1, 2, 0, 3] rfl)
  obtain ⟨x3, hb16, hm⟩ := bd1_e hm
  refine L4_4 fu _ _ _ hb16 (fun H locs ls hP hD hS hl => ?_) H locs ls hP hD hS (lv_sub hl [2, 3, 1, 0] rfl)
  refine lv_iload_n hx hb d_Ne_edgeOf_38 rfl (lv_at hl 0 rfl) ?_
  cases hm
  exact hret _ H locs ls d_Ne_edgeOf_39 hP hD hS
set_option maxHeartbeats 4000000 in
set_option maxRecDepth 100000 in
theorem c_Ne_edgeOf (l : Launch) (dC : Nat → ClassId) (dI : Nat → Nat → Nat) {cI cZ cJ : ClassId} (a_0 a_0_pointX a_0_pointY a_0_begins a_0_leftSpaces b_0_looseSides b_0_sidesOut b_0_pieceLine b_0_directions b_0_weights b_0_pointAt : Nat) (sz : Nat) (v_0_points : Int32) (v_0_pieces : Int32) (v_0_looseEnds : Int32) (f_0_pointX : Nat → Int32) (f_0_pointY : Nat → Int32) (f_0_begins : Nat → Int32) (f_0_leftSpaces : Nat → Int32) (p1 : Int32) (R0 : Int32) (hm : m_Ne_edgeOf p1 v_0_pieces f_0_pointX f_0_pointY f_0_begins f_0_leftSpaces = some R0) : Met l y_Ne_edgeOf w_Ne_edgeOf rm_Ne_edgeOf (PP dC dI [(cI, .int), (cZ, .boolean), (cJ, .long)] [.ref a_0, .int p1] sz (wl_Ne_edgeOf a_0 a_0_pointX a_0_pointY a_0_begins a_0_leftSpaces b_0_looseSides b_0_sidesOut b_0_pieceLine b_0_directions b_0_weights b_0_pointAt cI v_0_points v_0_pieces v_0_looseEnds f_0_pointX f_0_pointY f_0_begins f_0_leftSpaces)) (QI dC dI [(cI, .int), (cZ, .boolean), (cJ, .long)] sz (wl_Ne_edgeOf a_0 a_0_pointX a_0_pointY a_0_begins a_0_leftSpaces b_0_looseSides b_0_sidesOut b_0_pieceLine b_0_directions b_0_weights b_0_pointAt cI v_0_points v_0_pieces v_0_looseEnds f_0_pointX f_0_pointY f_0_begins f_0_leftSpaces) (wl_Ne_edgeOf a_0 a_0_pointX a_0_pointY a_0_begins a_0_leftSpaces b_0_looseSides b_0_sidesOut b_0_pieceLine b_0_directions b_0_weights b_0_pointAt cI v_0_points v_0_pieces v_0_looseEnds f_0_pointX f_0_pointY f_0_begins f_0_leftSpaces) R0) 0 0 (va_A (wl_Ne_edgeOf a_0 a_0_pointX a_0_pointY a_0_begins a_0_leftSpaces b_0_looseSides b_0_sidesOut b_0_pieceLine b_0_directions b_0_weights b_0_pointAt cI v_0_points v_0_pieces v_0_looseEnds f_0_pointX f_0_pointY f_0_begins f_0_leftSpaces) sz) := by
  refine Met.ofW (cc := b_Ne_edgeOf) (maxL := 4) (ret := (some .int)) (by decide) rfl ?_
  intro p e s m args below meth c s₁ B hml hv
  obtain ⟨rfl, hsz, hP, hK, hD0, hN⟩ := hv
  subst hsz
  have hl := lv_entry ([.ref a_0, .int p1]) (n := 4) (Nat.le_of_ble_eq_true rfl)
  rw [lg_entry_eq]
  generalize (lg_sl ([.ref a_0, .int p1]) ++ List.replicate (4 - (lg_sl ([.ref a_0, .int p1])).length) Slot.unset).toArray = ls at hl ⊢
  exact t_Ne_edgeOf a_0 a_0_pointX a_0_pointY a_0_begins a_0_leftSpaces b_0_looseSides b_0_sidesOut b_0_pieceLine b_0_directions b_0_weights b_0_pointAt v_0_points v_0_pieces v_0_looseEnds f_0_pointX f_0_pointY f_0_begins f_0_leftSpaces p1 R0 B.exec B.bytes hml (findClass_of_methodNamed B.named) (atoms_spec (ws := w_Ne_edgeOf) B.pre) hK hN (fun q h => Or.inr h) (fun pc H locs ls hd hP9 hD9 hS => W.iret B.exec B.bytes B.returns (fun t ht hW => ⟨⟨_, (), rfl, rfl, by rw [ht]; exact hP9, va_K.moved hW.alike hK, hD9⟩, hS.F ht⟩) hS.2.2 hd) hm s.heap [] ls hP hD0.self va_S.rf hl

theorem k_212 : ((.fieldLink "SpaceCycles$Net" 91 "SpaceCycles$Lines" "thickness" "[I") : Cond) ∈ gl := gl_i 67 (by decide +kernel) (by decide +kernel)
theorem k_213 : ((.code ⟨"SpaceCycles$Net", "lineOf", "(I)I"⟩ prog_8_method_3_code 2 (some .int)) : Cond) ∈ gl := gl_i 958 (by decide +kernel) (by decide +kernel)
theorem k_214 : ((.selects "SpaceCycles$Net" ⟨"SpaceCycles$Net", "lineOf", "(I)I"⟩ ⟨"SpaceCycles$Net", "lineOf", "(I)I"⟩) : Cond) ∈ gl := gl_i 957 (by decide +kernel) (by decide +kernel)
theorem k_215 : ((.instanceMethod ⟨"SpaceCycles$Net", "lineOf", "(I)I"⟩) : Cond) ∈ gl := gl_i 956 (by decide +kernel) (by decide +kernel)
theorem k_216 : ((.methodLink "SpaceCycles$Net" 94 ⟨"SpaceCycles$Net", "lineOf", "(I)I"⟩) : Cond) ∈ gl := gl_i 994 (by decide +kernel) (by decide +kernel)
-- SpaceCycles$Net.wallsIn(ILSpaceCycles$Lines;)I
abbrev b_Ne_wallsIn : ByteArray := prog_8_method_15_code
abbrev y_Ne_wallsIn : MethodName := ⟨"SpaceCycles$Net", "wallsIn", "(ILSpaceCycles$Lines;)I"⟩
abbrev w_Ne_wallsIn : List Cond := Cond.code y_Ne_wallsIn b_Ne_wallsIn 5 (some .int) :: gl
abbrev rm_Ne_wallsIn : Room := { frames := 2, cells := 0, slots := 0, locals := 87 }
theorem d_Ne_wallsIn_0 : decode b_Ne_wallsIn 0 = .ok (.iconst 0, 1) := by decide +kernel
theorem d_Ne_wallsIn_1 : decode b_Ne_wallsIn 1 = .ok (.istore_n 3, 1) := by decide +kernel
theorem d_Ne_wallsIn_2 : decode b_Ne_wallsIn 2 = .ok (.iconst 0, 1) := by decide +kernel
theorem d_Ne_wallsIn_3 : decode b_Ne_wallsIn 3 = .ok (.istore 4, 2) := by decide +kernel
theorem d_Ne_wallsIn_5 : decode b_Ne_wallsIn 5 = .ok (.iload 4, 2) := by decide +kernel
theorem d_Ne_wallsIn_7 : decode b_Ne_wallsIn 7 = .ok (.iconst 2, 1) := by decide +kernel
theorem d_Ne_wallsIn_8 : decode b_Ne_wallsIn 8 = .ok (.aload_n 0, 1) := by decide +kernel
theorem d_Ne_wallsIn_9 : decode b_Ne_wallsIn 9 = .ok (.getfield 25, 3) := by decide +kernel
theorem d_Ne_wallsIn_12 : decode b_Ne_wallsIn 12 = .ok (.imul, 1) := by decide +kernel
theorem d_Ne_wallsIn_13 : decode b_Ne_wallsIn 13 = .ok (.if_icmp .ge 43, 3) := by decide +kernel
theorem d_Ne_wallsIn_16 : decode b_Ne_wallsIn 16 = .ok (.aload_n 0, 1) := by decide +kernel
theorem d_Ne_wallsIn_17 : decode b_Ne_wallsIn 17 = .ok (.getfield 43, 3) := by decide +kernel
theorem d_Ne_wallsIn_20 : decode b_Ne_wallsIn 20 = .ok (.iload 4, 2) := by decide +kernel
theorem d_Ne_wallsIn_22 : decode b_Ne_wallsIn 22 = .ok (.iaload, 1) := by decide +kernel
theorem d_Ne_wallsIn_23 : decode b_Ne_wallsIn 23 = .ok (.iload_n 1, 1) := by decide +kernel
theorem d_Ne_wallsIn_24 : decode b_Ne_wallsIn 24 = .ok (.if_icmp .ne 26, 3) := by decide +kernel
theorem d_Ne_wallsIn_27 : decode b_Ne_wallsIn 27 = .ok (.iload_n 3, 1) := by decide +kernel
theorem d_Ne_wallsIn_28 : decode b_Ne_wallsIn 28 = .ok (.aload_n 0, 1) := by decide +kernel
theorem d_Ne_wallsIn_29 : decode b_Ne_wallsIn 29 = .ok (.iload 4, 2) := by decide +kernel
theorem d_Ne_wallsIn_31 : decode b_Ne_wallsIn 31 = .ok (.invokevirtual 88, 3) := by decide +kernel
theorem d_Ne_wallsIn_34 : decode b_Ne_wallsIn 34 = .ok (.aload_n 2, 1) := by decide +kernel
theorem d_Ne_wallsIn_35 : decode b_Ne_wallsIn 35 = .ok (.getfield 91, 3) := by decide +kernel
theorem d_Ne_wallsIn_38 : decode b_Ne_wallsIn 38 = .ok (.aload_n 0, 1) := by decide +kernel
theorem d_Ne_wallsIn_39 : decode b_Ne_wallsIn 39 = .ok (.iload 4, 2) := by decide +kernel
theorem d_Ne_wallsIn_41 : decode b_Ne_wallsIn 41 = .ok (.invokevirtual 94, 3) := by decide +kernel
theorem d_Ne_wallsIn_44 : decode b_Ne_wallsIn 44 = .ok (.iaload, 1) := by decide +kernel
theorem d_Ne_wallsIn_45 : decode b_Ne_wallsIn 45 = .ok (.iconst 2, 1) := by decide +kernel
theorem d_Ne_wallsIn_46 : decode b_Ne_wallsIn 46 = .ok (.idiv, 1) := by decide +kernel
theorem d_Ne_wallsIn_47 : decode b_Ne_wallsIn 47 = .ok (.imul, 1) := by decide +kernel
theorem d_Ne_wallsIn_48 : decode b_Ne_wallsIn 48 = .ok (.iadd, 1) := by decide +kernel
theorem d_Ne_wallsIn_49 : decode b_Ne_wallsIn 49 = .ok (.istore_n 3, 1) := by decide +kernel
theorem d_Ne_wallsIn_50 : decode b_Ne_wallsIn 50 = .ok (.iinc 4 1, 3) := by decide +kernel
theorem d_Ne_wallsIn_53 : decode b_Ne_wallsIn 53 = .ok (.goto (-48), 3) := by decide +kernel
theorem d_Ne_wallsIn_56 : decode b_Ne_wallsIn 56 = .ok (.iload_n 3, 1) := by decide +kernel
theorem d_Ne_wallsIn_57 : decode b_Ne_wallsIn 57 = .ok (.ireturn, 1) := by decide +kernel
abbrev wl_Ne_wallsIn (a_0 : Nat) (a_0_pointX : Nat) (a_0_pointY : Nat) (a_0_pieceLine : Nat) (a_0_begins : Nat) (a_0_leftSpaces : Nat) (a_2 : Nat) (a_2_thickness : Nat) (b_0_looseSides : Nat) (b_0_sidesOut : Nat) (b_0_directions : Nat) (b_0_weights : Nat) (b_0_pointAt : Nat) (b_2_lowX : Nat) (b_2_lowY : Nat) (b_2_highX : Nat) (b_2_highY : Nat) (b_2_doors : Nat) (b_2_doorFrom : Nat) (b_2_doorTo : Nat) (cI : ClassId) (v_0_points : Int32) (v_0_pieces : Int32) (v_0_looseEnds : Int32) (f_0_pointX : Nat → Int32) (f_0_pointY : Nat → Int32) (f_0_pieceLine : Nat → Int32) (f_0_begins : Nat → Int32) (f_0_leftSpaces : Nat → Int32) (v_2_count : Int32) (f_2_thickness : Nat → Int32) : va_W := [(a_0, .inr (3, [.ref a_0_pointX, .ref a_0_pointY, .ref b_0_looseSides, .int v_0_points, .int v_0_pieces, .int v_0_looseEnds, .ref b_0_sidesOut, .ref a_0_pieceLine, .ref a_0_begins, .ref b_0_directions, .ref a_0_leftSpaces, .ref b_0_weights, .ref b_0_pointAt])), (a_0_pointX, .inl (cI, 140, .inl f_0_pointX)), (a_0_pointY, .inl (cI, 140, .inl f_0_pointY)), (a_0_pieceLine, .inl (cI, 220, .inl f_0_pieceLine)), (a_0_begins, .inl (cI, 440, .inl f_0_begins)), (a_0_leftSpaces, .inl (cI, 440, .inl f_0_leftSpaces)), (a_2, .inr (1, [.ref b_2_lowX, .ref b_2_lowY, .ref b_2_highX, .ref b_2_highY, .ref a_2_thickness, .ref b_2_doors, .ref b_2_doorFrom, .ref b_2_doorTo, .int v_2_count])), (a_2_thickness, .inl (cI, 20, .inl f_2_thickness))]
def m_Ne_wallsIn_L5 (l1 : Int32) (v_0_pieces : Int32) (f_0_pointX : Nat → Int32) (f_0_pointY : Nat → Int32) (f_0_pieceLine : Nat → Int32) (f_0_begins : Nat → Int32) (f_0_leftSpaces : Nat → Int32) (f_2_thickness : Nat → Int32) : Nat → Int32 → Int32 → Option (Int32)
  | 0, _, _ => none
  | n + 1, l3, l4 =>
    if (2 * v_0_pieces) ≤ l4 then (
      some l3)
    else (
      gI l4 440 <|
      bd1 (
        if (f_0_leftSpaces l4.toNatClampNeg) = l1 then (
        bd1 (m_Ne_lengthOf l4 f_0_pointX f_0_pointY f_0_begins) fun r8 =>
        bd1 (m_Ne_lineOf l4 f_0_pieceLine) fun r10 =>
        gI r10 20 <|
        lt_ (l3 + (r8 * ((f_2_thickness r10.toNatClampNeg) / 2))) fun x13 =>
        some x13)
      else (
        some l3))
      fun (x6 : Int32) =>
      lt_ (l4 + 1) fun x14 =>
        m_Ne_wallsIn_L5 l1 v_0_pieces f_0_pointX f_0_pointY f_0_pieceLine f_0_begins f_0_leftSpaces f_2_thickness n x6 x14)
def m_Ne_wallsIn (p1 : Int32) (v_0_pieces : Int32) (f_0_pointX : Nat → Int32) (f_0_pointY : Nat → Int32) (f_0_pieceLine : Nat → Int32) (f_0_begins : Nat → Int32) (f_0_leftSpaces : Nat → Int32) (f_2_thickness : Nat → Int32) : Option (Int32) :=
  bd1 (m_Ne_wallsIn_L5 p1 v_0_pieces f_0_pointX f_0_pointY f_0_pieceLine f_0_begins f_0_leftSpaces f_2_thickness fu 0 0) fun x3 =>
  some x3

set_option maxHeartbeats 4000000 in
set_option maxRecDepth 100000 in
theorem t_Ne_wallsIn {p : Program} {l : Launch} {e : Env} {s : State} {m : MethodId} {args : Array Value} {below : List Frame} {meth : Method} {c : Code} {A : Nat → Prop} {Q : State → Prop} {dC : Nat → ClassId} {dI : Nat → Nat → Nat} {cI cZ cJ : ClassId} (a_0 a_0_pointX a_0_pointY a_0_pieceLine a_0_begins a_0_leftSpaces a_2 a_2_thickness b_0_looseSides b_0_sidesOut b_0_directions b_0_weights b_0_pointAt b_2_lowX b_2_lowY b_2_highX b_2_highY b_2_doors b_2_doorFrom b_2_doorTo : Nat) (v_0_points : Int32) (v_0_pieces : Int32) (v_0_looseEnds : Int32) (f_0_pointX : Nat → Int32) (f_0_pointY : Nat → Int32) (f_0_pieceLine : Nat → Int32) (f_0_begins : Nat → Int32) (f_0_leftSpaces : Nat → Int32) (v_2_count : Int32) (f_2_thickness : Nat → Int32) (p1 : Int32) (R0 : Int32) (hx : p.tables.exec = Jvm.exec) (hb : c.code = b_Ne_wallsIn) (hml : c.maxLocals = 5) (hown : s.vm.findClass "SpaceCycles$Net" = some m.cls) (hts : ∀ w ∈ w_Ne_wallsIn, w.before args s = true) (hK : va_K (dC, dI) vwCl [(cI, .int), (cZ, .boolean), (cJ, .long)] s) (hN : NX s) (hA : ∀ q : Nat, s.heap.size ≤ q → A q)
    (hret : ∀ (pc : Nat) (H : Heap) (locs : List Loc) (ls : Array Slot), decode b_Ne_wallsIn pc = .ok (.ireturn, 1) → va_P (dC, dI) vwCl (wl_Ne_wallsIn a_0 a_0_pointX a_0_pointY a_0_pieceLine a_0_begins a_0_leftSpaces a_2 a_2_thickness b_0_looseSides b_0_sidesOut b_0_directions b_0_weights b_0_pointAt b_2_lowX b_2_lowY b_2_highX b_2_highY b_2_doors b_2_doorFrom b_2_doorTo cI v_0_points v_0_pieces v_0_looseEnds f_0_pointX f_0_pointY f_0_pieceLine f_0_begins f_0_leftSpaces v_2_count f_2_thickness) H → va_D A (wl_Ne_wallsIn a_0 a_0_pointX a_0_pointY a_0_pieceLine a_0_begins a_0_leftSpaces a_2 a_2_thickness b_0_looseSides b_0_sidesOut b_0_directions b_0_weights b_0_pointAt b_2_lowX b_2_lowY b_2_highX b_2_highY b_2_doors b_2_doorFrom b_2_doorTo cI v_0_points v_0_pieces v_0_looseEnds f_0_pointX f_0_pointY f_0_pieceLine f_0_begins f_0_leftSpaces v_2_count f_2_thickness) → va_S A s.heap H locs → W p l e rm_Ne_wallsIn s m args below meth c H locs 0 0 Q (F0 m pc ls [.int R0]))
    (hm : m_Ne_wallsIn p1 v_0_pieces f_0_pointX f_0_pointY f_0_pieceLine f_0_begins f_0_leftSpaces f_2_thickness = some R0) : ∀ (H : Heap) (locs : List Loc) (ls : Array Slot), va_P (dC, dI) vwCl (wl_Ne_wallsIn a_0 a_0_pointX a_0_pointY a_0_pieceLine a_0_begins a_0_leftSpaces a_2 a_2_thickness b_0_looseSides b_0_sidesOut b_0_directions b_0_weights b_0_pointAt b_2_lowX b_2_lowY b_2_highX b_2_highY b_2_doors b_2_doorFrom b_2_doorTo cI v_0_points v_0_pieces v_0_looseEnds f_0_pointX f_0_pointY f_0_pieceLine f_0_begins f_0_leftSpaces v_2_count f_2_thickness) H → va_D A (wl_Ne_wallsIn a_0 a_0_pointX a_0_pointY a_0_pieceLine a_0_begins a_0_leftSpaces a_2 a_2_thickness b_0_looseSides b_0_sidesOut b_0_directions b_0_weights b_0_pointAt b_2_lowX b_2_lowY b_2_highX b_2_highY b_2_doors b_2_doorFrom b_2_doorTo cI v_0_points v_0_pieces v_0_looseEnds f_0_pointX f_0_pointY f_0_pieceLine f_0_begins f_0_leftSpaces v_2_count f_2_thickness) → va_S A s.heap H locs → lv_has ls 5 [(0, .ref a_0), (1, .int p1), (2, .ref a_2)] → W p l e rm_Ne_wallsIn s m args below meth c H locs 0 0 Q (F0 m 0 ls []) := by
  intro H locs ls hP hD hS hl
  unfold m_Ne_wallsIn at hm
  refine lv_iconst (v := 0) hx hb d_Ne_wallsIn_0 (by decide) ?_
  refine lv_istore_n (lv' := [(3, .int 0), (0, .ref a_0), (1, .int p1), (2, .ref a_2)]) hx hb d_Ne_wallsIn_1 rfl hl (by decide) rfl (fun ls hl => ?_)
  refine lv_iconst (v := 0) hx hb d_Ne_wallsIn_2 (by decide) ?_
  refine lv_istore (lv' := [(4, .int 0), (3, .int 0), (0, .ref a_0), (1, .int p1), (2, .ref a_2)]) hx hb d_Ne_wallsIn_3 hl (by decide) rfl (fun ls hl => ?_)
  have L5_4 : ∀ (n : Nat) (x1 : Int32) (x2 : Int32) (x3 : Int32), m_Ne_wallsIn_L5 p1 v_0_pieces f_0_pointX f_0_pointY f_0_pieceLine f_0_begins f_0_leftSpaces f_2_thickness n x1 x2 = some x3 → (∀ (H : Heap) (locs : List Loc) (ls : Array Slot), va_P (dC, dI) vwCl (wl_Ne_wallsIn a_0 a_0_pointX a_0_pointY a_0_pieceLine a_0_begins a_0_leftSpaces a_2 a_2_thickness b_0_looseSides b_0_sidesOut b_0_directions b_0_weights b_0_pointAt b_2_lowX b_2_lowY b_2_highX b_2_highY b_2_doors b_2_doorFrom b_2_doorTo cI v_0_points v_0_pieces v_0_looseEnds f_0_pointX f_0_pointY f_0_pieceLine f_0_begins f_0_leftSpaces v_2_count f_2_thickness) H → va_D A (wl_Ne_wallsIn a_0 a_0_pointX a_0_pointY a_0_pieceLine a_0_begins a_0_leftSpaces a_2 a_2_thickness b_0_looseSides b_0_sidesOut b_0_directions b_0_weights b_0_pointAt b_2_lowX b_2_lowY b_2_highX b_2_highY b_2_doors b_2_doorFrom b_2_doorTo cI v_0_points v_0_pieces v_0_looseEnds f_0_pointX f_0_pointY f_0_pieceLine f_0_begins f_0_leftSpaces v_2_count f_2_thickness) → va_S A s.heap H locs → lv_has ls 5 [(3, .int x3)] → W p l e rm_Ne_wallsIn s m args below meth c H locs 0 0 Q (F0 m 56 ls [])) → ∀ (H : Heap) (locs : List Loc) (ls : Array Slot), va_P (dC, dI) vwCl (wl_Ne_wallsIn a_0 a_0_pointX a_0_pointY a_0_pieceLine a_0_begins a_0_leftSpaces a_2 a_2_thickness b_0_looseSides b_0_sidesOut b_0_directions b_0_weights b_0_pointAt b_2_lowX b_2_lowY b_2_highX b_2_highY b_2_doors b_2_doorFrom b_2_doorTo cI v_0_points v_0_pieces v_0_looseEnds f_0_pointX f_0_pointY f_0_pieceLine f_0_begins f_0_leftSpaces v_2_count f_2_thickness) H → va_D A (wl_Ne_wallsIn a_0 a_0_pointX a_0_pointY a_0_pieceLine a_0_begins a_0_leftSpaces a_2 a_2_thickness b_0_looseSides b_0_sidesOut b_0_directions b_0_weights b_0_pointAt b_2_lowX b_2_lowY b_2_highX b_2_highY b_2_doors b_2_doorFrom b_2_doorTo cI v_0_points v_0_pieces v_0_looseEnds f_0_pointX f_0_pointY f_0_pieceLine f_0_begins f_0_leftSpaces v_2_count f_2_thickness) → va_S A s.heap H locs → lv_has ls 5 [(0, .ref a_0), (1, .int p1), (2, .ref a_2), (3, .int x1), (4, .int x2)] → W p l e rm_Ne_wallsIn s m args below meth c H locs 0 0 Q (F0 m 5 ls []) := by
    intro n
    induction n with
    | zero => intro x1 x2 x3 hm; simp [m_Ne_wallsIn_L5] at hm
    | succ n ih =>
      intro x1 x2 x3 hm KE H locs ls hP hD hS hl
      rw [m_Ne_wallsIn_L5] at hm
      refine lv_iload hx hb d_Ne_wallsIn_5 (lv_at hl 4 rfl) ?_
      refine lv_iconst (v := 2) hx hb d_Ne_wallsIn_7 (by decide) ?_
      refine lv_aload_n hx hb d_Ne_wallsIn_8 rfl (lv_at hl 0 rfl) ?_
      refine va_get (D := (dC, dI)) (ci := 3) (v := .int v_0_pieces) (C := "SpaceCycles$Net") (T := F_Ne) (N := 13) hx hb hts (in_F i_Ne) hown hK hP 0 rfl rfl 4 (by decide) (hts _ (in_c k_174)) (fun _ h9 => h9) rfl d_Ne_wallsIn_9 ?_
      refine lv_imul hx hb d_Ne_wallsIn_12 ?_
      refine lv_icmp_ge (tgt := 56) hx hb d_Ne_wallsIn_13 (by decide) (fun c5 => ?_) (fun c5 => ?_)
      · replace hm := if_t hm c5
        cases hm
        exact KE H locs ls hP hD hS (lv_sub hl [3] rfl)
      · replace hm := if_f hm c5
        refine lv_aload_n hx hb d_Ne_wallsIn_16 rfl (lv_at hl 0 rfl) ?_
        refine va_get (D := (dC, dI)) (ci := 3) (v := .ref a_0_leftSpaces) (C := "SpaceCycles$Net") (T := F_Ne) (N := 13) hx hb hts (in_F i_Ne) hown hK hP 0 rfl rfl 10 (by decide) (hts _ (in_c k_173)) (fun _ h9 => h9) rfl d_Ne_wallsIn_17 ?_
        refine lv_iload hx hb d_Ne_wallsIn_20 (lv_at hl 4 rfl) ?_
        obtain ⟨hi6, hm⟩ := gI_e hm
        refine va_iald hx hb hK hP 5 0 rfl rfl hi6 d_Ne_wallsIn_22 ?_
        refine lv_iload_n hx hb d_Ne_wallsIn_23 rfl (lv_at hl 1 rfl) ?_
        obtain ⟨x10, hb8, hm⟩ := bd1_e hm
        have K7 : ∀ (H : Heap) (locs : List Loc) (ls : Array Slot), va_P (dC, dI) vwCl (wl_Ne_wallsIn a_0 a_0_pointX a_0_pointY a_0_pieceLine a_0_begins a_0_leftSpaces a_2 a_2_thickness b_0_looseSides b_0_sidesOut b_0_directions b_0_weights b_0_pointAt b_2_lowX b_2_lowY b_2_highX b_2_highY b_2_doors b_2_doorFrom b_2_doorTo cI v_0_points v_0_pieces v_0_looseEnds f_0_pointX f_0_pointY f_0_pieceLine f_0_begins f_0_leftSpaces v_2_count f_2_thickness) H → va_D A (wl_Ne_wallsIn a_0 a_0_pointX a_0_pointY a_0_pieceLine a_0_begins a_0_leftSpaces a_2 a_2_thickness b_0_looseSides b_0_sidesOut b_0_directions b_0_weights b_0_pointAt b_2_lowX b_2_lowY b_2_highX b_2_highY b_2_doors b_2_doorFrom b_2_doorTo cI v_0_points v_0_pieces v_0_looseEnds f_0_pointX f_0_pointY f_0_pieceLine f_0_begins f_0_leftSpaces v_2_count f_2_thickness) → va_S A s.heap H locs → lv_has ls 5 [(0, .ref a_0), (1, .int p1), (2, .ref a_2), (3, .int x10), (4, .int x2)] → W p l e rm_Ne_wallsIn s m args below meth c H locs 0 0 Q (F0 m 50 ls []) := by
          intro H locs ls hP hD hS hl
          obtain ⟨x18, ex18⟩ : ∃ y : Int32, y = x2 + 1 := ⟨_, rfl⟩
          replace hm := lt_el hm ex18
          refine lv_iinc (v := x18) (lv' := [(4, .int x18), (0, .ref a_0), (1, .int p1), (2, .ref a_2), (3, .int x10)]) hx hb d_Ne_wallsIn_50 hl (k := 4) rfl (by rw [ex18]; rfl) (by decide) rfl (fun ls hl => ?_)
          refine lv_goto (tgt := 5) hx hb d_Ne_wallsIn_53 (by decide) ?_
          exact ih _ _ _ hm KE H locs ls hP hD hS (lv_sub hl [1, 2, 3, 4, 0] rfl)
        replace hm := hb8
        refine lv_icmp_ne (tgt := 50) hx hb d_Ne_wallsIn_24 (by decide) (fun c11 => ?_) (fun c11 => ?_)
        · replace hm := if_f hm c11
          cases hm
          exact K7 H locs ls hP hD hS (lv_sub hl [0, 1, 2, 3, 4] rfl)
        · replace hm := if_t hm c11
          refine lv_iload_n hx hb d_Ne_wallsIn_27 rfl (lv_at hl 3 rfl) ?_
          refine lv_aload_n hx hb d_Ne_wallsIn_28 rfl (lv_at hl 0 rfl) ?_
          refine lv_iload hx hb d_Ne_wallsIn_29 (lv_at hl 4 rfl) ?_
          obtain ⟨r12, hb13, hm⟩ := bd1_e hm
          have hPc := hP.sub (ws' := (wl_Ne_lengthOf a_0 a_0_pointX a_0_pointY a_0_begins b_0_looseSides b_0_sidesOut a_0_pieceLine b_0_directions a_0_leftSpaces b_0_weights b_0_pointAt cI v_0_points v_0_pieces v_0_looseEnds f_0_pointX f_0_pointY f_0_begins)) [0, 1, 2, 4] rfl
          have hDc := hD.sub (ws' := (wl_Ne_lengthOf a_0 a_0_pointX a_0_pointY a_0_begins b_0_looseSides b_0_sidesOut a_0_pieceLine b_0_directions a_0_leftSpaces b_0_weights b_0_pointAt cI v_0_points v_0_pieces v_0_looseEnds f_0_pointX f_0_pointY f_0_begins)) [0, 1, 2, 4] (by decide) rfl
          refine cl_i (wc' := (wl_Ne_lengthOf a_0 a_0_pointX a_0_pointY a_0_begins b_0_looseSides b_0_sidesOut a_0_pieceLine b_0_directions a_0_leftSpaces b_0_weights b_0_pointAt cI v_0_points v_0_pieces v_0_looseEnds f_0_pointX f_0_pointY f_0_begins)) (va_runV (As := [.int x2]) (rest := [.int x1]) ⟨hx, hb, hml, hown, hts⟩ (c_Ne_lengthOf l dC dI (cI := cI) (cZ := cZ) (cJ := cJ) a_0 a_0_pointX a_0_pointY a_0_begins b_0_looseSides b_0_sidesOut a_0_pieceLine b_0_directions a_0_leftSpaces b_0_weights b_0_pointAt H.size v_0_points v_0_pieces v_0_looseEnds f_0_pointX f_0_pointY f_0_begins x2 r12 hb13) (cwV 1 hts (gl_V k_211 k_210 k_209 k_145 k_208) rfl rfl rfl (by decide +kernel) ⟨Nat.le_of_ble_eq_true rfl, Nat.le_of_ble_eq_true rfl⟩) ⟨PP_blind, va_recv hK hPc (ci := 3) (q0 := 0) rfl rfl, fun U hU hW => PP_at hK hN hPc hDc hU hW⟩ rfl rfl hl.1 rfl (lv_room (Nat.le_of_ble_eq_true rfl)) d_Ne_wallsIn_31 ⟨Nat.zero_le _, Nat.zero_le _⟩) hP hD hS hA [0, 1, 2, 4] [3, 5, 6, 7] rfl rfl (by decide) (by decide) (fun H locs hP hD hS => ?_)
          have hP : va_P (dC, dI) vwCl (wl_Ne_wallsIn a_0 a_0_pointX a_0_pointY a_0_pieceLine a_0_begins a_0_leftSpaces a_2 a_2_thickness b_0_looseSides b_0_sidesOut b_0_directions b_0_weights b_0_pointAt b_2_lowX b_2_lowY b_2_highX b_2_highY b_2_doors b_2_doorFrom b_2_doorTo cI v_0_points v_0_pieces v_0_looseEnds f_0_pointX f_0_pointY f_0_pieceLine f_0_begins f_0_leftSpaces v_2_count f_2_thickness) H := hP.sub [4, 5, 6, 0, 7, 1, 2, 3] rfl
          have hD : va_D A (wl_Ne_wallsIn a_0 a_0_pointX a_0_pointY a_0_pieceLine a_0_begins a_0_leftSpaces a_2 a_2_thickness b_0_looseSides b_0_sidesOut b_0_directions b_0_weights b_0_pointAt b_2_lowX b_2_lowY b_2_highX b_2_highY b_2_doors b_2_doorFrom b_2_doorTo cI v_0_points v_0_pieces v_0_looseEnds f_0_pointX f_0_pointY f_0_pieceLine f_0_begins f_0_leftSpaces v_2_count f_2_thickness) := hD.sub [4, 5, 6, 0, 7, 1, 2, 3] (by decide) rfl
          refine lv_aload_n hx hb d_Ne_wallsIn_34 rfl (lv_at hl 2 rfl) ?_
          refine va_get (D := (dC, dI)) (ci := 1) (v := .ref a_2_thickness) (C := "SpaceCycles$Lines") (T := F_Li) (N := 9) hx hb hts (in_F i_Li) hown hK hP 6 rfl rfl 4 (by decide) (hts _ (in_c k_212)) (fun _ h9 => h9) rfl d_Ne_wallsIn_35 ?_
          refine lv_aload_n hx hb d_Ne_wallsIn_38 rfl (lv_at hl 0 rfl) ?_
          refine lv_iload hx hb d_Ne_wallsIn_39 (lv_at hl 4 rfl) ?_
          obtain ⟨r14, hb15, hm⟩ := bd1_e hm
          have hPc := hP.sub (ws' := (wl_Ne_lineOf a_0 a_0_pieceLine a_0_pointX a_0_pointY b_0_looseSides b_0_sidesOut a_0_begins b_0_directions a_0_leftSpaces b_0_weights b_0_pointAt cI v_0_points v_0_pieces v_0_looseEnds f_0_pieceLine)) [0, 3] rfl
          have hDc := hD.sub (ws' := (wl_Ne_lineOf a_0 a_0_pieceLine a_0_pointX a_0_pointY b_0_looseSides b_0_sidesOut a_0_begins b_0_directions a_0_leftSpaces b_0_weights b_0_pointAt cI v_0_points v_0_pieces v_0_looseEnds f_0_pieceLine)) [0, 3] (by decide) rfl
          refine cl_i (wc' := (wl_Ne_lineOf a_0 a_0_pieceLine a_0_pointX a_0_pointY b_0_looseSides b_0_sidesOut a_0_begins b_0_directions a_0_leftSpaces b_0_weights b_0_pointAt cI v_0_points v_0_pieces v_0_looseEnds f_0_pieceLine)) (va_runV (As := [.int x2]) (rest := [.ref a_2_thickness, .int r12, .int x1]) ⟨hx, hb, hml, hown, hts⟩ (c_Ne_lineOf l dC dI (cI := cI) (cZ := cZ) (cJ := cJ) a_0 a_0_pieceLine a_0_pointX a_0_pointY b_0_looseSides b_0_sidesOut a_0_begins b_0_directions a_0_leftSpaces b_0_weights b_0_pointAt H.size v_0_points v_0_pieces v_0_looseEnds f_0_pieceLine x2 r14 hb15) (cwV 1 hts (gl_V k_216 k_215 k_214 k_145 k_213) rfl rfl rfl (by decide +kernel) ⟨Nat.le_of_ble_eq_true rfl, Nat.le_of_ble_eq_true rfl⟩) ⟨PP_blind, va_recv hK hPc (ci := 3) (q0 := 0) rfl rfl, fun U hU hW => PP_at hK hN hPc hDc hU hW⟩ rfl rfl hl.1 rfl (lv_room (Nat.le_of_ble_eq_true rfl)) d_Ne_wallsIn_41 ⟨Nat.zero_le _, Nat.zero_le _⟩) hP hD hS hA [0, 3] [1, 2, 4, 5, 6, 7] rfl rfl (by decide) (by decide) (fun H locs hP hD hS => ?_)
          have hP : va_P (dC, dI) vwCl (wl_Ne_wallsIn a_0 a_0_pointX a_0_pointY a_0_pieceLine a_0_begins a_0_leftSpaces a_2 a_2_thickness b_0_looseSides b_0_sidesOut b_0_directions b_0_weights b_0_pointAt b_2_lowX b_2_lowY b_2_highX b_2_highY b_2_doors b_2_doorFrom b_2_doorTo cI v_0_points v_0_pieces v_0_looseEnds f_0_pointX f_0_pointY f_0_pieceLine f_0_begins f_0_leftSpaces v_2_count f_2_thickness) H := hP.sub [6, 0, 1, 7, 2, 3, 4, 5] rfl
          have hD : va_D A (wl_Ne_wallsIn a_0 a_0_pointX a_0_pointY a_0_pieceLine a_0_begins a_0_leftSpaces a_2 a_2_thickness b_0_looseSides b_0_sidesOut b_0_directions b_0_weights b_0_pointAt b_2_lowX b_2_lowY b_2_highX b_2_highY b_2_doors b_2_doorFrom b_2_doorTo cI v_0_points v_0_pieces v_0_looseEnds f_0_pointX f_0_pointY f_0_pieceLine f_0_begins f_0_leftSpaces v_2_count f_2_thickness) := hD.sub [6, 0, 1, 7, 2, 3, 4, 5] (by decide) rfl
          obtain ⟨hi16, hm⟩ := gI_e hm
          refine va_iald hx hb hK hP 7 0 rfl rfl hi16 d_Ne_wallsIn_44 ?_
          refine lv_iconst (v := 2) hx hb d_Ne_wallsIn_45 (by decide) ?_
          refine lv_idiv hx hb d_Ne_wallsIn_46 (by decide) ?_
          refine lv_imul hx hb d_Ne_wallsIn_47 ?_
          refine lv_iadd hx hb d_Ne_wallsIn_48 ?_
          refine lv_topi (fun x17 ex17 => ?_)
          replace hm := lt_el hm ex17
          refine lv_istore_n (lv' := [(3, .int x17), (0, .ref a_0), (1, .int p1), (2, .ref a_2), (4, .int x2)]) hx hb d_Ne_wallsIn_49 rfl hl (by decide) rfl (fun ls hl => ?_)
          cases hm
          exact K7 H locs ls hP hD hS (lv_sub hl [1, 2, 3, 0, 4] rfl)
  obtain ⟨x3, hb19, hm⟩ := bd1_e hm
  refine L5_4 fu _ _ _ hb19 (fun H locs ls hP hD hS hl => ?_) H locs ls hP hD hS (lv_sub hl [2, 3, 4, 1, 0] rfl)
  refine lv_iload_n hx hb d_Ne_wallsIn_56 rfl (lv_at hl 0 rfl) ?_
  cases hm
  exact hret _ H locs ls d_Ne_wallsIn_57 hP hD hS
set_option maxHeartbeats 4000000 in
set_option maxRecDepth 100000 in
theorem c_Ne_wallsIn (l : Launch) (dC : Nat → ClassId) (dI : Nat → Nat → Nat) {cI cZ cJ : ClassId} (a_0 a_0_pointX a_0_pointY a_0_pieceLine a_0_begins a_0_leftSpaces a_2 a_2_thickness b_0_looseSides b_0_sidesOut b_0_directions b_0_weights b_0_pointAt b_2_lowX b_2_lowY b_2_highX b_2_highY b_2_doors b_2_doorFrom b_2_doorTo : Nat) (sz : Nat) (v_0_points : Int32) (v_0_pieces : Int32) (v_0_looseEnds : Int32) (f_0_pointX : Nat → Int32) (f_0_pointY : Nat → Int32) (f_0_pieceLine : Nat → Int32) (f_0_begins : Nat → Int32) (f_0_leftSpaces : Nat → Int32) (v_2_count : Int32) (f_2_thickness : Nat → Int32) (p1 : Int32) (R0 : Int32) (hm : m_Ne_wallsIn p1 v_0_pieces f_0_pointX f_0_pointY f_0_pieceLine f_0_begins f_0_leftSpaces f_2_thickness = some R0) : Met l y_Ne_wallsIn w_Ne_wallsIn rm_Ne_wallsIn (PP dC dI [(cI, .int), (cZ, .boolean), (cJ, .long)] [.ref a_0, .int p1, .ref a_2] sz (wl_Ne_wallsIn a_0 a_0_pointX a_0_pointY a_0_pieceLine a_0_begins a_0_leftSpaces a_2 a_2_thickness b_0_looseSides b_0_sidesOut b_0_directions b_0_weights b_0_pointAt b_2_lowX b_2_lowY b_2_highX b_2_highY b_2_doors b_2_doorFrom b_2_doorTo cI v_0_points v_0_pieces v_0_looseEnds f_0_pointX f_0_pointY f_0_pieceLine f_0_begins f_0_leftSpaces v_2_count f_2_thickness)) (QI dC dI [(cI, .int), (cZ, .boolean), (cJ, .long)] sz (wl_Ne_wallsIn a_0 a_0_pointX a_0_pointY a_0_pieceLine a_0_begins a_0_leftSpaces a_2 a_2_thickness b_0_looseSides b_0_sidesOut b_0_directions b_0_weights b_0_pointAt b_2_lowX b_2_lowY b_2_highX b_2_highY b_2_doors b_2_doorFrom b_2_doorTo cI v_0_points v_0_pieces v_0_looseEnds f_0_pointX f_0_pointY f_0_pieceLine f_0_begins f_0_leftSpaces v_2_count f_2_thickness) (wl_Ne_wallsIn a_0 a_0_pointX a_0_pointY a_0_pieceLine a_0_begins a_0_leftSpaces a_2 a_2_thickness b_0_looseSides b_0_sidesOut b_0_directions b_0_weights b_0_pointAt b_2_lowX b_2_lowY b_2_highX b_2_highY b_2_doors b_2_doorFrom b_2_doorTo cI v_0_points v_0_pieces v_0_looseEnds f_0_pointX f_0_pointY f_0_pieceLine f_0_begins f_0_leftSpaces v_2_count f_2_thickness) R0) 0 0 (va_A (wl_Ne_wallsIn a_0 a_0_pointX a_0_pointY a_0_pieceLine a_0_begins a_0_leftSpaces a_2 a_2_thickness b_0_looseSides b_0_sidesOut b_0_directions b_0_weights b_0_pointAt b_2_lowX b_2_lowY b_2_highX b_2_highY b_2_doors b_2_doorFrom b_2_doorTo cI v_0_points v_0_pieces v_0_looseEnds f_0_pointX f_0_pointY f_0_pieceLine f_0_begins f_0_leftSpaces v_2_count f_2_thickness) sz) := by
  refine Met.ofW (cc := b_Ne_wallsIn) (maxL := 5) (ret := (some .int)) (by decide) rfl ?_
  intro p e s m args below meth c s₁ B hml hv
  obtain ⟨rfl, hsz, hP, hK, hD0, hN⟩ := hv
  subst hsz
  have hl := lv_entry ([.ref a_0, .int p1, .ref a_2]) (n := 5) (Nat.le_of_ble_eq_true rfl)
  rw [lg_entry_eq]
  generalize (lg_sl ([.ref a_0, .int p1, .ref a_2]) ++ List.replicate (5 - (lg_sl ([.ref a_0, .int p1, .ref a_2])).length) Slot.unset).toArray = ls at hl ⊢
  exact t_Ne_wallsIn a_0 a_0_pointX a_0_pointY a_0_pieceLine a_0_begins a_0_leftSpaces a_2 a_2_thickness b_0_looseSides b_0_sidesOut b_0_directions b_0_weights b_0_pointAt b_2_lowX b_2_lowY b_2_highX b_2_highY b_2_doors b_2_doorFrom b_2_doorTo v_0_points v_0_pieces v_0_looseEnds f_0_pointX f_0_pointY f_0_pieceLine f_0_begins f_0_leftSpaces v_2_count f_2_thickness p1 R0 B.exec B.bytes hml (findClass_of_methodNamed B.named) (atoms_spec (ws := w_Ne_wallsIn) B.pre) hK hN (fun q h => Or.inr h) (fun pc H locs ls hd hP9 hD9 hS => W.iret B.exec B.bytes B.returns (fun t ht hW => ⟨⟨_, (), rfl, rfl, by rw [ht]; exact hP9, va_K.moved hW.alike hK, hD9⟩, hS.F ht⟩) hS.2.2 hd) hm s.heap [] ls hP hD0.self va_S.rf hl

theorem k_217 : ((.code ⟨"SpaceCycles$Net", "onTheRight", "(I)I"⟩ prog_8_method_8_code 2 (some .int)) : Cond) ∈ gl := gl_i 967 (by decide +kernel) (by decide +kernel)
theorem k_218 : ((.selects "SpaceCycles$Net" ⟨"SpaceCycles$Net", "onTheRight", "(I)I"⟩ ⟨"SpaceCycles$Net", "onTheRight", "(I)I"⟩) : Cond) ∈ gl := gl_i 966 (by decide +kernel) (by decide +kernel)
theorem k_219 : ((.instanceMethod ⟨"SpaceCycles$Net", "onTheRight", "(I)I"⟩) : Cond) ∈ gl := gl_i 965 (by decide +kernel) (by decide +kernel)
theorem k_220 : ((.methodLink "SpaceCycles$Net" 97 ⟨"SpaceCycles$Net", "onTheRight", "(I)I"⟩) : Cond) ∈ gl := gl_i 1024 (by decide +kernel) (by decide +kernel)
-- SpaceCycles$Net.lengthBetween(II)I
abbrev b_Ne_lengthBetween : ByteArray := prog_8_method_16_code
abbrev y_Ne_lengthBetween : MethodName := ⟨"SpaceCycles$Net", "lengthBetween", "(II)I"⟩
abbrev w_Ne_lengthBetween : List Cond := Cond.code y_Ne_lengthBetween b_Ne_lengthBetween 6 (some .int) :: gl
abbrev rm_Ne_lengthBetween : Room := { frames := 2, cells := 0, slots := 0, locals := 87 }
theorem d_Ne_lengthBetween_0 : decode b_Ne_lengthBetween 0 = .ok (.iconst 0, 1) := by decide +kernel
theorem d_Ne_lengthBetween_1 : decode b_Ne_lengthBetween 1 = .ok (.istore_n 3, 1) := by decide +kernel
theorem d_Ne_lengthBetween_2 : decode b_Ne_lengthBetween 2 = .ok (.iconst 0, 1) := by decide +kernel
theorem d_Ne_lengthBetween_3 : decode b_Ne_lengthBetween 3 = .ok (.istore 4, 2) := by decide +kernel
theorem d_Ne_lengthBetween_5 : decode b_Ne_lengthBetween 5 = .ok (.iload 4, 2) := by decide +kernel
theorem d_Ne_lengthBetween_7 : decode b_Ne_lengthBetween 7 = .ok (.iconst 2, 1) := by decide +kernel
theorem d_Ne_lengthBetween_8 : decode b_Ne_lengthBetween 8 = .ok (.aload_n 0, 1) := by decide +kernel
theorem d_Ne_lengthBetween_9 : decode b_Ne_lengthBetween 9 = .ok (.getfield 25, 3) := by decide +kernel
theorem d_Ne_lengthBetween_12 : decode b_Ne_lengthBetween 12 = .ok (.imul, 1) := by decide +kernel
theorem d_Ne_lengthBetween_13 : decode b_Ne_lengthBetween 13 = .ok (.if_icmp .ge 63, 3) := by decide +kernel
theorem d_Ne_lengthBetween_16 : decode b_Ne_lengthBetween 16 = .ok (.iload_n 1, 1) := by decide +kernel
theorem d_Ne_lengthBetween_17 : decode b_Ne_lengthBetween 17 = .ok (.iload_n 2, 1) := by decide +kernel
theorem d_Ne_lengthBetween_18 : decode b_Ne_lengthBetween 18 = .ok (.if_icmp .ne 14, 3) := by decide +kernel
theorem d_Ne_lengthBetween_21 : decode b_Ne_lengthBetween 21 = .ok (.iload 4, 2) := by decide +kernel
theorem d_Ne_lengthBetween_23 : decode b_Ne_lengthBetween 23 = .ok (.iconst 1, 1) := by decide +kernel
theorem d_Ne_lengthBetween_24 : decode b_Ne_lengthBetween 24 = .ok (.iand, 1) := by decide +kernel
theorem d_Ne_lengthBetween_25 : decode b_Ne_lengthBetween 25 = .ok (.ifCond .eq 7, 3) := by decide +kernel
theorem d_Ne_lengthBetween_28 : decode b_Ne_lengthBetween 28 = .ok (.iconst 1, 1) := by decide +kernel
theorem d_Ne_lengthBetween_29 : decode b_Ne_lengthBetween 29 = .ok (.goto 4, 3) := by decide +kernel
theorem d_Ne_lengthBetween_32 : decode b_Ne_lengthBetween 32 = .ok (.iconst 0, 1) := by decide +kernel
theorem d_Ne_lengthBetween_33 : decode b_Ne_lengthBetween 33 = .ok (.istore 5, 2) := by decide +kernel
theorem d_Ne_lengthBetween_35 : decode b_Ne_lengthBetween 35 = .ok (.iload 5, 2) := by decide +kernel
theorem d_Ne_lengthBetween_37 : decode b_Ne_lengthBetween 37 = .ok (.ifCond .ne 33, 3) := by decide +kernel
theorem d_Ne_lengthBetween_40 : decode b_Ne_lengthBetween 40 = .ok (.aload_n 0, 1) := by decide +kernel
theorem d_Ne_lengthBetween_41 : decode b_Ne_lengthBetween 41 = .ok (.getfield 43, 3) := by decide +kernel
theorem d_Ne_lengthBetween_44 : decode b_Ne_lengthBetween 44 = .ok (.iload 4, 2) := by decide +kernel
theorem d_Ne_lengthBetween_46 : decode b_Ne_lengthBetween 46 = .ok (.iaload, 1) := by decide +kernel
theorem d_Ne_lengthBetween_47 : decode b_Ne_lengthBetween 47 = .ok (.iload_n 1, 1) := by decide +kernel
theorem d_Ne_lengthBetween_48 : decode b_Ne_lengthBetween 48 = .ok (.if_icmp .ne 22, 3) := by decide +kernel
theorem d_Ne_lengthBetween_51 : decode b_Ne_lengthBetween 51 = .ok (.aload_n 0, 1) := by decide +kernel
theorem d_Ne_lengthBetween_52 : decode b_Ne_lengthBetween 52 = .ok (.iload 4, 2) := by decide +kernel
theorem d_Ne_lengthBetween_54 : decode b_Ne_lengthBetween 54 = .ok (.invokevirtual 97, 3) := by decide +kernel
theorem d_Ne_lengthBetween_57 : decode b_Ne_lengthBetween 57 = .ok (.iload_n 2, 1) := by decide +kernel
theorem d_Ne_lengthBetween_58 : decode b_Ne_lengthBetween 58 = .ok (.if_icmp .ne 12, 3) := by decide +kernel
theorem d_Ne_lengthBetween_61 : decode b_Ne_lengthBetween 61 = .ok (.iload_n 3, 1) := by decide +kernel
theorem d_Ne_lengthBetween_62 : decode b_Ne_lengthBetween 62 = .ok (.aload_n 0, 1) := by decide +kernel
theorem d_Ne_lengthBetween_63 : decode b_Ne_lengthBetween 63 = .ok (.iload 4, 2) := by decide +kernel
theorem d_Ne_lengthBetween_65 : decode b_Ne_lengthBetween 65 = .ok (.invokevirtual 88, 3) := by decide +kernel
theorem d_Ne_lengthBetween_68 : decode b_Ne_lengthBetween 68 = .ok (.iadd, 1) := by decide +kernel
theorem d_Ne_lengthBetween_69 : decode b_Ne_lengthBetween 69 = .ok (.istore_n 3, 1) := by decide +kernel
theorem d_Ne_lengthBetween_70 : decode b_Ne_lengthBetween 70 = .ok (.iinc 4 1, 3) := by decide +kernel
theorem d_Ne_lengthBetween_73 : decode b_Ne_lengthBetween 73 = .ok (.goto (-68), 3) := by decide +kernel
theorem d_Ne_lengthBetween_76 : decode b_Ne_lengthBetween 76 = .ok (.iload_n 3, 1) := by decide +kernel
theorem d_Ne_lengthBetween_77 : decode b_Ne_lengthBetween 77 = .ok (.ireturn, 1) := by decide +kernel
abbrev wl_Ne_lengthBetween (a_0 : Nat) (a_0_pointX : Nat) (a_0_pointY : Nat) (a_0_begins : Nat) (a_0_leftSpaces : Nat) (b_0_looseSides : Nat) (b_0_sidesOut : Nat) (b_0_pieceLine : Nat) (b_0_directions : Nat) (b_0_weights : Nat) (b_0_pointAt : Nat) (cI : ClassId) (v_0_points : Int32) (v_0_pieces : Int32) (v_0_looseEnds : Int32) (f_0_pointX : Nat → Int32) (f_0_pointY : Nat → Int32) (f_0_begins : Nat → Int32) (f_0_leftSpaces : Nat → Int32) : va_W := [(a_0, .inr (3, [.ref a_0_pointX, .ref a_0_pointY, .ref b_0_looseSides, .int v_0_points, .int v_0_pieces, .int v_0_looseEnds, .ref b_0_sidesOut, .ref b_0_pieceLine, .ref a_0_begins, .ref b_0_directions, .ref a_0_leftSpaces, .ref b_0_weights, .ref b_0_pointAt])), (a_0_pointX, .inl (cI, 140, .inl f_0_pointX)), (a_0_pointY, .inl (cI, 140, .inl f_0_pointY)), (a_0_begins, .inl (cI, 440, .inl f_0_begins)), (a_0_leftSpaces, .inl (cI, 440, .inl f_0_leftSpaces))]
def m_Ne_lengthBetween_L5 (l1 : Int32) (l2 : Int32) (v_0_pieces : Int32) (f_0_pointX : Nat → Int32) (f_0_pointY : Nat → Int32) (f_0_begins : Nat → Int32) (f_0_leftSpaces : Nat → Int32) : Nat → Int32 → Int32 → Option (Int32)
  | 0, _, _ => none
  | n + 1, l3, l4 =>
    if (2 * v_0_pieces) ≤ l4 then (
      some l3)
    else (
      bd1 (
        if l1 = l2 then (
        if (l4 &&& 1) = 0 then (
          some 0)
        else (
          some 1))
      else (
        some 0))
      fun (x5 : Int32) =>
      bd1 (
          if x5 = 0 then (
          gI l4 440 <|
          if (f_0_leftSpaces l4.toNatClampNeg) = l1 then (
            bd1 (m_Ne_onTheRight l4 f_0_leftSpaces) fun r15 =>
            if r15 = l2 then (
              bd1 (m_Ne_lengthOf l4 f_0_pointX f_0_pointY f_0_begins) fun r18 =>
              lt_ (l3 + r18) fun x20 =>
              some x20)
            else (
              some l3))
          else (
            some l3))
        else (
          some l3))
        fun (x11 : Int32) =>
        lt_ (l4 + 1) fun x21 =>
          m_Ne_lengthBetween_L5 l1 l2 v_0_pieces f_0_pointX f_0_pointY f_0_begins f_0_leftSpaces n x11 x21)
def m_Ne_lengthBetween (p1 : Int32) (p2 : Int32) (v_0_pieces : Int32) (f_0_pointX : Nat → Int32) (f_0_pointY : Nat → Int32) (f_0_begins : Nat → Int32) (f_0_leftSpaces : Nat → Int32) : Option (Int32) :=
  bd1 (m_Ne_lengthBetween_L5 p1 p2 v_0_pieces f_0_pointX f_0_pointY f_0_begins f_0_leftSpaces fu 0 0) fun x3 =>
  some x3

set_option maxHeartbeats 4000000 in
set_option maxRecDepth 100000 in
theorem t_Ne_lengthBetween {p : Program} {l : Launch} {e : Env} {s : State} {m : MethodId} {args : Array Value} {below : List Frame} {meth : Method} {c : Code} {A : Nat → Prop} {Q : State → Prop} {dC : Nat → ClassId} {dI : Nat → Nat → Nat} {cI cZ cJ : ClassId} (a_0 a_0_pointX a_0_pointY a_0_begins a_0_leftSpaces b_0_looseSides b_0_sidesOut b_0_pieceLine b_0_directions b_0_weights b_0_pointAt : Nat) (v_0_points : Int32) (v_0_pieces : Int32) (v_0_looseEnds : Int32) (f_0_pointX : Nat → Int32) (f_0_pointY : Nat → Int32) (f_0_begins : Nat → Int32) (f_0_leftSpaces : Nat → Int32) (p1 : Int32) (p2 : Int32) (R0 : Int32) (hx : p.tables.exec = Jvm.exec) (hb : c.code = b_Ne_lengthBetween) (hml : c.maxLocals = 6) (hown : s.vm.findClass "SpaceCycles$Net" = some m.cls) (hts : ∀ w ∈ w_Ne_lengthBetween, w.before args s = true) (hK : va_K (dC, dI) vwCl [(cI, .int), (cZ, .boolean), (cJ, .long)] s) (hN : NX s) (hA : ∀ q : Nat, s.heap.size ≤ q → A q)
    (hret : ∀ (pc : Nat) (H : Heap) (locs : List Loc) (ls : Array Slot), decode b_Ne_lengthBetween pc = .ok (.ireturn, 1) → va_P (dC, dI) vwCl (wl_Ne_lengthBetween a_0 a_0_pointX a_0_pointY a_0_begins a_0_leftSpaces b_0_looseSides b_0_sidesOut b_0_pieceLine b_0_directions b_0_weights b_0_pointAt cI v_0_points v_0_pieces v_0_looseEnds f_0_pointX f_0_pointY f_0_begins f_0_leftSpaces) H → va_D A (wl_Ne_lengthBetween a_0 a_0_pointX a_0_pointY a_0_begins a_0_leftSpaces b_0_looseSides b_0_sidesOut b_0_pieceLine b_0_directions b_0_weights b_0_pointAt cI v_0_points v_0_pieces v_0_looseEnds f_0_pointX f_0_pointY f_0_begins f_0_leftSpaces) → va_S A s.heap H locs → W p l e rm_Ne_lengthBetween s m args below meth c H locs 0 0 Q (F0 m pc ls [.int R0]))
    (hm : m_Ne_lengthBetween p1 p2 v_0_pieces f_0_pointX f_0_pointY f_0_begins f_0_leftSpaces = some R0) : ∀ (H : Heap) (locs : List Loc) (ls : Array Slot), va_P (dC, dI) vwCl (wl_Ne_lengthBetween a_0 a_0_pointX a_0_pointY a_0_begins a_0_leftSpaces b_0_looseSides b_0_sidesOut b_0_pieceLine b_0_directions b_0_weights b_0_pointAt cI v_0_points v_0_pieces v_0_looseEnds f_0_pointX f_0_pointY f_0_begins f_0_leftSpaces) H → va_D A (wl_Ne_lengthBetween a_0 a_0_pointX a_0_pointY a_0_begins a_0_leftSpaces b_0_looseSides b_0_sidesOut b_0_pieceLine b_0_directions b_0_weights b_0_pointAt cI v_0_points v_0_pieces v_0_looseEnds f_0_pointX f_0_pointY f_0_begins f_0_leftSpaces) → va_S A s.heap H locs → lv_has ls 6 [(0, .ref a_0), (1, .int p1), (2, .int p2)] → W p l e rm_Ne_lengthBetween s m args below meth c H locs 0 0 Q (F0 m 0 ls []) := by
  intro H locs ls hP hD hS hl
  unfold m_Ne_lengthBetween at hm
  refine lv_iconst (v := 0) hx hb d_Ne_lengthBetween_0 (by decide) ?_
  refine lv_istore_n (lv' := [(3, .int 0), (0, .ref a_0), (1, .int p1), (2, .int p2)]) hx hb d_Ne_lengthBetween_1 rfl hl (by decide) rfl (fun ls hl => ?_)
  refine lv_iconst (v := 0) hx hb d_Ne_lengthBetween_2 (by decide) ?_
  refine lv_istore (lv' := [(4, .int 0), (3, .int 0), (0, .ref a_0), (1, .int p1), (2, .int p2)]) hx hb d_Ne_lengthBetween_3 hl (by decide) rfl (fun ls hl => ?_)
  have L5_4 : ∀ (n : Nat) (x1 : Int32) (x2 : Int32) (x3 : Int32), m_Ne_lengthBetween_L5 p1 p2 v_0_pieces f_0_pointX f_0_pointY f_0_begins f_0_leftSpaces n x1 x2 = some x3 → (∀ (H : Heap) (locs : List Loc) (ls : Array Slot), va_P (dC, dI) vwCl (wl_Ne_lengthBetween a_0 a_0_pointX a_0_pointY a_0_begins a_0_leftSpaces b_0_looseSides b_0_sidesOut b_0_pieceLine b_0_directions b_0_weights b_0_pointAt cI v_0_points v_0_pieces v_0_looseEnds f_0_pointX f_0_pointY f_0_begins f_0_leftSpaces) H → va_D A (wl_Ne_lengthBetween a_0 a_0_pointX a_0_pointY a_0_begins a_0_leftSpaces b_0_looseSides b_0_sidesOut b_0_pieceLine b_0_directions b_0_weights b_0_pointAt cI v_0_points v_0_pieces v_0_looseEnds f_0_pointX f_0_pointY f_0_begins f_0_leftSpaces) → va_S A s.heap H locs → lv_has ls 6 [(3, .int x3)] → W p l e rm_Ne_lengthBetween s m args below meth c H locs 0 0 Q (F0 m 76 ls [])) → ∀ (H : Heap) (locs : List Loc) (ls : Array Slot), va_P (dC, dI) vwCl (wl_Ne_lengthBetween a_0 a_0_pointX a_0_pointY a_0_begins a_0_leftSpaces b_0_looseSides b_0_sidesOut b_0_pieceLine b_0_directions b_0_weights b_0_pointAt cI v_0_points v_0_pieces v_0_looseEnds f_0_pointX f_0_pointY f_0_begins f_0_leftSpaces) H → va_D A (wl_Ne_lengthBetween a_0 a_0_pointX a_0_pointY a_0_begins a_0_leftSpaces b_0_looseSides b_0_sidesOut b_0_pieceLine b_0_directions b_0_weights b_0_pointAt cI v_0_points v_0_pieces v_0_looseEnds f_0_pointX f_0_pointY f_0_begins f_0_leftSpaces) → va_S A s.heap H locs → lv_has ls 6 [(0, .ref a_0), (1, .int p1), (2, .int p2), (3, .int x1), (4, .int x2)] → W p l e rm_Ne_lengthBetween s m args below meth c H locs 0 0 Q (F0 m 5 ls []) := by
    intro n
    induction n with
    | zero => intro x1 x2 x3 hm; simp [m_Ne_lengthBetween_L5] at hm
    | succ n ih =>
      intro x1 x2 x3 hm KE H locs ls hP hD hS hl
      rw [m_Ne_lengthBetween_L5] at hm
      refine lv_iload hx hb d_Ne_lengthBetween_5 (lv_at hl 4 rfl) ?_
      refine lv_iconst (v := 2) hx hb d_Ne_lengthBetween_7 (by decide) ?_
      refine lv_aload_n hx hb d_Ne_lengthBetween_8 rfl (lv_at hl 0 rfl) ?_
      refine va_get (D := (dC, dI)) (ci := 3) (v := .int v_0_pieces) (C := "SpaceCycles$Net") (T := F_Ne) (N := 13) hx hb hts (in_F i_Ne) hown hK hP 0 rfl rfl 4 (by decide) (hts _ (in_c k_174)) (fun _ h9 => h9) rfl d_Ne_lengthBetween_9 ?_
      refine lv_imul hx hb d_Ne_lengthBetween_12 ?_
      refine lv_icmp_ge (tgt := 76) hx hb d_Ne_lengthBetween_13 (by decide) (fun c5 => ?_) (fun c5 => ?_)
      · replace hm := if_t hm c5
        cases hm
        exact KE H locs ls hP hD hS (lv_sub hl [3] rfl)
      · replace hm := if_f hm c5
        refine lv_iload_n hx hb d_Ne_lengthBetween_16 rfl (lv_at hl 1 rfl) ?_
        refine lv_iload_n hx hb d_Ne_lengthBetween_17 rfl (lv_at hl 2 rfl) ?_
        obtain ⟨x9, hb7, hm⟩ := bd1_e hm
        have K6 : ∀ (H : Heap) (locs : List Loc) (ls : Array Slot), va_P (dC, dI) vwCl (wl_Ne_lengthBetween a_0 a_0_pointX a_0_pointY a_0_begins a_0_leftSpaces b_0_looseSides b_0_sidesOut b_0_pieceLine b_0_directions b_0_weights b_0_pointAt cI v_0_points v_0_pieces v_0_looseEnds f_0_pointX f_0_pointY f_0_begins f_0_leftSpaces) H → va_D A (wl_Ne_lengthBetween a_0 a_0_pointX a_0_pointY a_0_begins a_0_leftSpaces b_0_looseSides b_0_sidesOut b_0_pieceLine b_0_directions b_0_weights b_0_pointAt cI v_0_points v_0_pieces v_0_looseEnds f_0_pointX f_0_pointY f_0_begins f_0_leftSpaces) → va_S A s.heap H locs → lv_has ls 6 [(0, .ref a_0), (1, .int p1), (2, .int p2), (3, .int x1), (4, .int x2)] → W p l e rm_Ne_lengthBetween s m args below meth c H locs 0 0 Q (F0 m 33 ls [.int x9]) := by
          intro H locs ls hP hD hS hl
          refine lv_istore (lv' := [(5, .int x9), (0, .ref a_0), (1, .int p1), (2, .int p2), (3, .int x1), (4, .int x2)]) hx hb d_Ne_lengthBetween_33 hl (by decide) rfl (fun ls hl => ?_)
          refine lv_iload hx hb d_Ne_lengthBetween_35 (lv_at hl 0 rfl) ?_
          obtain ⟨x15, hb13, hm⟩ := bd1_e hm
          have K12 : ∀ (H : Heap) (locs : List Loc) (ls : Array Slot), va_P (dC, dI) vwCl (wl_Ne_lengthBetween a_0 a_0_pointX a_0_pointY a_0_begins a_0_leftSpaces b_0_looseSides b_0_sidesOut b_0_pieceLine b_0_directions b_0_weights b_0_pointAt cI v_0_points v_0_pieces v_0_looseEnds f_0_pointX f_0_pointY f_0_begins f_0_leftSpaces) H → va_D A (wl_Ne_lengthBetween a_0 a_0_pointX a_0_pointY a_0_begins a_0_leftSpaces b_0_looseSides b_0_sidesOut b_0_pieceLine b_0_directions b_0_weights b_0_pointAt cI v_0_points v_0_pieces v_0_looseEnds f_0_pointX f_0_pointY f_0_begins f_0_leftSpaces) → va_S A s.heap H locs → lv_has ls 6 [(0, .ref a_0), (1, .int p1), (2, .int p2), (3, .int x15), (4, .int x2)] → W p l e rm_Ne_lengthBetween s m args below meth c H locs 0 0 Q (F0 m 70 ls []) := by
            intro H locs ls hP hD hS hl
            obtain ⟨x25, ex25⟩ : ∃ y : Int32, y = x2 + 1 := ⟨_, rfl⟩
            replace hm := lt_el hm ex25
            refine lv_iinc (v := x25) (lv' := [(4, .int x25), (0, .ref a_0), (1, .int p1), (2, .int p2), (3, .int x15)]) hx hb d_Ne_lengthBetween_70 hl (k := 4) rfl (by rw [ex25]; rfl) (by decide) rfl (fun ls hl => ?_)
            refine lv_goto (tgt := 5) hx hb d_Ne_lengthBetween_73 (by decide) ?_
            exact ih _ _ _ hm KE H locs ls hP hD hS (lv_sub hl [1, 2, 3, 4, 0] rfl)
          replace hm := hb13
          refine lv_if_ne (tgt := 70) hx hb d_Ne_lengthBetween_37 (by decide) (fun c16 => ?_) (fun c16 => ?_)
          · replace hm := if_f hm c16
            cases hm
            exact K12 H locs ls hP hD hS (lv_sub hl [1, 2, 3, 4, 5] rfl)
          · replace hm := if_t hm c16
            refine lv_aload_n hx hb d_Ne_lengthBetween_40 rfl (lv_at hl 1 rfl) ?_
            refine va_get (D := (dC, dI)) (ci := 3) (v := .ref a_0_leftSpaces) (C := "SpaceCycles$Net") (T := F_Ne) (N := 13) hx hb hts (in_F i_Ne) hown hK hP 0 rfl rfl 10 (by decide) (hts _ (in_c k_173)) (fun _ h9 => h9) rfl d_Ne_lengthBetween_41 ?_
            refine lv_iload hx hb d_Ne_lengthBetween_44 (lv_at hl 5 rfl) ?_
            obtain ⟨hi17, hm⟩ := gI_e hm
            refine va_iald hx hb hK hP 4 0 rfl rfl hi17 d_Ne_lengthBetween_46 ?_
            refine lv_iload_n hx hb d_Ne_lengthBetween_47 rfl (lv_at hl 2 rfl) ?_
            refine lv_icmp_ne (tgt := 70) hx hb d_Ne_lengthBetween_48 (by decide) (fun c18 => ?_) (fun c18 => ?_)
            · replace hm := if_f hm c18
              cases hm
              exact K12 H locs ls hP hD hS (lv_sub hl [1, 2, 3, 4, 5] rfl)
            · replace hm := if_t hm c18
              refine lv_aload_n hx hb d_Ne_lengthBetween_51 rfl (lv_at hl 1 rfl) ?_
              refine lv_iload hx hb d_Ne_lengthBetween_52 (lv_at hl 5 rfl) ?_
              obtain ⟨r19, hb20, hm⟩ := bd1_e hm
              have hPc := hP.sub (ws' := (wl_Ne_onTheRight a_0 a_0_leftSpaces a_0_pointX a_0_pointY b_0_looseSides b_0_sidesOut b_0_pieceLine a_0_begins b_0_directions b_0_weights b_0_pointAt cI v_0_points v_0_pieces v_0_looseEnds f_0_leftSpaces)) [0, 4] rfl
              have hDc := hD.sub (ws' := (wl_Ne_onTheRight a_0 a_0_leftSpaces a_0_pointX a_0_pointY b_0_looseSides b_0_sidesOut b_0_pieceLine a_0_begins b_0_directions b_0_weights b_0_pointAt cI v_0_points v_0_pieces v_0_looseEnds f_0_leftSpaces)) [0, 4] (by decide) rfl
              refine cl_i (wc' := (wl_Ne_onTheRight a_0 a_0_leftSpaces a_0_pointX a_0_pointY b_0_looseSides b_0_sidesOut b_0_pieceLine a_0_begins b_0_directions b_0_weights b_0_pointAt cI v_0_points v_0_pieces v_0_looseEnds f_0_leftSpaces)) (va_runV (As := [.int x2]) (rest := []) ⟨hx, hb, hml, hown, hts⟩ (c_Ne_onTheRight l dC dI (cI := cI) (cZ := cZ) (cJ := cJ) a_0 a_0_leftSpaces a_0_pointX a_0_pointY b_0_looseSides b_0_sidesOut b_0_pieceLine a_0_begins b_0_directions b_0_weights b_0_pointAt H.size v_0_points v_0_pieces v_0_looseEnds f_0_leftSpaces x2 r19 hb20) (cwV 1 hts (gl_V k_220 k_219 k_218 k_145 k_217) rfl rfl rfl (by decide +kernel) ⟨Nat.le_of_ble_eq_true rfl, Nat.le_of_ble_eq_true rfl⟩) ⟨PP_blind, va_recv hK hPc (ci := 3) (q0 := 0) rfl rfl, fun U hU hW => PP_at hK hN hPc hDc hU hW⟩ rfl rfl hl.1 rfl (lv_room (Nat.le_of_ble_eq_true rfl)) d_Ne_lengthBetween_54 ⟨Nat.zero_le _, Nat.zero_le _⟩) hP hD hS hA [0, 4] [1, 2, 3] rfl rfl (by decide) (by decide) (fun H locs hP hD hS => ?_)
              have hP : va_P (dC, dI) vwCl (wl_Ne_lengthBetween a_0 a_0_pointX a_0_pointY a_0_begins a_0_leftSpaces b_0_looseSides b_0_sidesOut b_0_pieceLine b_0_directions b_0_weights b_0_pointAt cI v_0_points v_0_pieces v_0_looseEnds f_0_pointX f_0_pointY f_0_begins f_0_leftSpaces) H := hP.sub [3, 0, 1, 2, 4] rfl
              have hD : va_D A (wl_Ne_lengthBetween a_0 a_0_pointX a_0_pointY a_0_begins a_0_leftSpaces b_0_looseSides b_0_sidesOut b_0_pieceLine b_0_directions b_0_weights b_0_pointAt cI v_0_points v_0_pieces v_0_looseEnds f_0_pointX f_0_pointY f_0_begins f_0_leftSpaces) := hD.sub [3, 0, 1, 2, 4] (by decide) rfl
              refine lv_iload_n hx hb d_Ne_lengthBetween_57 rfl (lv_at hl 3 rfl) ?_
              refine lv_icmp_ne (tgt := 70) hx hb d_Ne_lengthBetween_58 (by decide) (fun c21 => ?_) (fun c21 => ?_)
              · replace hm := if_f hm c21
                cases hm
                exact K12 H locs ls hP hD hS (lv_sub hl [1, 2, 3, 4, 5] rfl)
              · replace hm := if_t hm c21
                refine lv_iload_n hx hb d_Ne_lengthBetween_61 rfl (lv_at hl 4 rfl) ?_
                refine lv_aload_n hx hb d_Ne_lengthBetween_62 rfl (lv_at hl 1 rfl) ?_
                refine lv_iload hx hb d_Ne_lengthBetween_63 (lv_at hl 5 rfl) ?_
                obtain ⟨r22, hb23, hm⟩ := bd1_e hm
                have hPc := hP.sub (ws' := (wl_Ne_lengthOf a_0 a_0_pointX a_0_pointY a_0_begins b_0_looseSides b_0_sidesOut b_0_pieceLine b_0_directions a_0_leftSpaces b_0_weights b_0_pointAt cI v_0_points v_0_pieces v_0_looseEnds f_0_pointX f_0_pointY f_0_begins)) [0, 1, 2, 3] rfl
                have hDc := hD.sub (ws' := (wl_Ne_lengthOf a_0 a_0_pointX a_0_pointY a_0_begins b_0_looseSides b_0_sidesOut b_0_pieceLine b_0_directions a_0_leftSpaces b_0_weights b_0_pointAt cI v_0_points v_0_pieces v_0_looseEnds f_0_pointX f_0_pointY f_0_begins)) [0, 1, 2, 3] (by decide) rfl
                refine cl_i (wc' := (wl_Ne_lengthOf a_0 a_0_pointX a_0_pointY a_0_begins b_0_looseSides b_0_sidesOut b_0_pieceLine b_0_directions a_0_leftSpaces b_0_weights b_0_pointAt cI v_0_points v_0_pieces v_0_looseEnds f_0_pointX f_0_pointY f_0_begins)) (va_runV (As := [.int x2]) (rest := [.int x1]) ⟨hx, hb, hml, hown, hts⟩ (c_Ne_lengthOf l dC dI (cI := cI) (cZ := cZ) (cJ := cJ) a_0 a_0_pointX a_0_pointY a_0_begins b_0_looseSides b_0_sidesOut b_0_pieceLine b_0_directions a_0_leftSpaces b_0_weights b_0_pointAt H.size v_0_points v_0_pieces v_0_looseEnds f_0_pointX f_0_pointY f_0_begins x2 r22 hb23) (cwV 1 hts (gl_V k_211 k_210 k_209 k_145 k_208) rfl rfl rfl (by decide +kernel) ⟨Nat.le_of_ble_eq_true rfl, Nat.le_of_ble_eq_true rfl⟩) ⟨PP_blind, va_recv hK hPc (ci := 3) (q0 := 0) rfl rfl, fun U hU hW => PP_at hK hN hPc hDc hU hW⟩ rfl rfl hl.1 rfl (lv_room (Nat.le_of_ble_eq_true rfl)) d_Ne_lengthBetween_65 ⟨Nat.zero_le _, Nat.zero_le _⟩) hP hD hS hA [0, 1, 2, 3] [4] rfl rfl (by decide) (by decide) (fun H locs hP hD hS => ?_)
                have hP : va_P (dC, dI) vwCl (wl_Ne_lengthBetween a_0 a_0_pointX a_0_pointY a_0_begins a_0_leftSpaces b_0_looseSides b_0_sidesOut b_0_pieceLine b_0_directions b_0_weights b_0_pointAt cI v_0_points v_0_pieces v_0_looseEnds f_0_pointX f_0_pointY f_0_begins f_0_leftSpaces) H := hP.sub [1, 2, 3, 4, 0] rfl
                have hD : va_D A (wl_Ne_lengthBetween a_0 a_0_pointX a_0_pointY a_0_begins a_0_leftSpaces b_0_looseSides b_0_sidesOut b_0_pieceLine b_0_directions b_0_weights b_0_pointAt cI v_0_points v_0_pieces v_0_looseEnds f_0_pointX f_0_pointY f_0_begins f_0_leftSpaces) := hD.sub [1, 2, 3, 4, 0] (by decide) rfl
                refine lv_iadd hx hb d_Ne_lengthBetween_68 ?_
                refine lv_topi (fun x24 ex24 => ?_)
                replace hm := lt_el hm ex24
                refine lv_istore_n (lv' := [(3, .int x24), (5, .int x9), (0, .ref a_0), (1, .int p1), (2, .int p2), (4, .int x2)]) hx hb d_Ne_lengthBetween_69 rfl hl (by decide) rfl (fun ls hl => ?_)
                cases hm
                exact K12 H locs ls hP hD hS (lv_sub hl [2, 3, 4, 0, 5] rfl)
        replace hm := hb7
        refine lv_icmp_ne (tgt := 32) hx hb d_Ne_lengthBetween_18 (by decide) (fun c10 => ?_) (fun c10 => ?_)
        · replace hm := if_f hm c10
          refine lv_iconst (v := 0) hx hb d_Ne_lengthBetween_32 (by decide) ?_
          cases hm
          exact K6 H locs ls hP hD hS (lv_sub hl [0, 1, 2, 3, 4] rfl)
        · replace hm := if_t hm c10
          refine lv_iload hx hb d_Ne_lengthBetween_21 (lv_at hl 4 rfl) ?_
          refine lv_iconst (v := 1) hx hb d_Ne_lengthBetween_23 (by decide) ?_
          refine lv_iand hx hb d_Ne_lengthBetween_24 ?_
          refine lv_if_eq (tgt := 32) hx hb d_Ne_lengthBetween_25 (by decide) (fun c11 => ?_) (fun c11 => ?_)
          · replace hm := if_t hm c11
            refine lv_iconst (v := 0) hx hb d_Ne_lengthBetween_32 (by decide) ?_
            cases hm
            exact K6 H locs ls hP hD hS (lv_sub hl [0, 1, 2, 3, 4] rfl)
          · replace hm := if_f hm c11
            refine lv_iconst (v := 1) hx hb d_Ne_lengthBetween_28 (by decide) ?_
            refine lv_goto (tgt := 33) hx hb d_Ne_lengthBetween_29 (by decide) ?_
            cases hm
            exact K6 H locs ls hP hD hS (lv_sub hl [0, 1, 2, 3, 4] rfl)
  obtain ⟨x3, hb26, hm⟩ := bd1_e hm
  refine L5_4 fu _ _ _ hb26 (fun H locs ls hP hD hS hl => ?_) H locs ls hP hD hS (lv_sub hl [2, 3, 4, 1, 0] rfl)
  refine lv_iload_n hx hb d_Ne_lengthBetween_76 rfl (lv_at hl 0 rfl) ?_
  cases hm
  exact hret _ H locs ls d_Ne_lengthBetween_77 hP hD hS
set_option maxHeartbeats 4000000 in
set_option maxRecDepth 100000 in
theorem c_Ne_lengthBetween (l : Launch) (dC : Nat → ClassId) (dI : Nat → Nat → Nat) {cI cZ cJ : ClassId} (a_0 a_0_pointX a_0_pointY a_0_begins a_0_leftSpaces b_0_looseSides b_0_sidesOut b_0_pieceLine b_0_directions b_0_weights b_0_pointAt : Nat) (sz : Nat) (v_0_points : Int32) (v_0_pieces : Int32) (v_0_looseEnds : Int32) (f_0_pointX : Nat → Int32) (f_0_pointY : Nat → Int32) (f_0_begins : Nat → Int32) (f_0_leftSpaces : Nat → Int32) (p1 : Int32) (p2 : Int32) (R0 : Int32) (hm : m_Ne_lengthBetween p1 p2 v_0_pieces f_0_pointX f_0_pointY f_0_begins f_0_leftSpaces = some R0) : Met l y_Ne_lengthBetween w_Ne_lengthBetween rm_Ne_lengthBetween (PP dC dI [(cI, .int), (cZ, .boolean), (cJ, .long)] [.ref a_0, .int p1, .int p2] sz (wl_Ne_lengthBetween a_0 a_0_pointX a_0_pointY a_0_begins a_0_leftSpaces b_0_looseSides b_0_sidesOut b_0_pieceLine b_0_directions b_0_weights b_0_pointAt cI v_0_points v_0_pieces v_0_looseEnds f_0_pointX f_0_pointY f_0_begins f_0_leftSpaces)) (QI dC dI [(cI, .int), (cZ, .boolean), (cJ, .long)] sz (wl_Ne_lengthBetween a_0 a_0_pointX a_0_pointY a_0_begins a_0_leftSpaces b_0_looseSides b_0_sidesOut b_0_pieceLine b_0_directions b_0_weights b_0_pointAt cI v_0_points v_0_pieces v_0_looseEnds f_0_pointX f_0_pointY f_0_begins f_0_leftSpaces) (wl_Ne_lengthBetween a_0 a_0_pointX a_0_pointY a_0_begins a_0_leftSpaces b_0_looseSides b_0_sidesOut b_0_pieceLine b_0_directions b_0_weights b_0_pointAt cI v_0_points v_0_pieces v_0_looseEnds f_0_pointX f_0_pointY f_0_begins f_0_leftSpaces) R0) 0 0 (va_A (wl_Ne_lengthBetween a_0 a_0_pointX a_0_pointY a_0_begins a_0_leftSpaces b_0_looseSides b_0_sidesOut b_0_pieceLine b_0_directions b_0_weights b_0_pointAt cI v_0_points v_0_pieces v_0_looseEnds f_0_pointX f_0_pointY f_0_begins f_0_leftSpaces) sz) := by
  refine Met.ofW (cc := b_Ne_lengthBetween) (maxL := 6) (ret := (some .int)) (by decide) rfl ?_
  intro p e s m args below meth c s₁ B hml hv
  obtain ⟨rfl, hsz, hP, hK, hD0, hN⟩ := hv
  subst hsz
  have hl := lv_entry ([.ref a_0, .int p1, .int p2]) (n := 6) (Nat.le_of_ble_eq_true rfl)
  rw [lg_entry_eq]
  generalize (lg_sl ([.ref a_0, .int p1, .int p2]) ++ List.replicate (6 - (lg_sl ([.ref a_0, .int p1, .int p2])).length) Slot.unset).toArray = ls at hl ⊢
  exact t_Ne_lengthBetween a_0 a_0_pointX a_0_pointY a_0_begins a_0_leftSpaces b_0_looseSides b_0_sidesOut b_0_pieceLine b_0_directions b_0_weights b_0_pointAt v_0_points v_0_pieces v_0_looseEnds f_0_pointX f_0_pointY f_0_begins f_0_leftSpaces p1 p2 R0 B.exec B.bytes hml (findClass_of_methodNamed B.named) (atoms_spec (ws := w_Ne_lengthBetween) B.pre) hK hN (fun q h => Or.inr h) (fun pc H locs ls hd hP9 hD9 hS => W.iret B.exec B.bytes B.returns (fun t ht hW => ⟨⟨_, (), rfl, rfl, by rw [ht]; exact hP9, va_K.moved hW.alike hK, hD9⟩, hS.F ht⟩) hS.2.2 hd) hm s.heap [] ls hP hD0.self va_S.rf hl

-- SpaceCycles$Net.markNeighbours(I[Z)V
abbrev b_Ne_markNeighbours : ByteArray := prog_8_method_17_code
abbrev y_Ne_markNeighbours : MethodName := ⟨"SpaceCycles$Net", "markNeighbours", "(I[Z)V"⟩
abbrev w_Ne_markNeighbours : List Cond := Cond.code y_Ne_markNeighbours b_Ne_markNeighbours 5 none :: gl
abbrev rm_Ne_markNeighbours : Room := { frames := 1, cells := 0, slots := 0, locals := 21 }
theorem d_Ne_markNeighbours_0 : decode b_Ne_markNeighbours 0 = .ok (.iconst 0, 1) := by decide +kernel
theorem d_Ne_markNeighbours_1 : decode b_Ne_markNeighbours 1 = .ok (.istore_n 3, 1) := by decide +kernel
theorem d_Ne_markNeighbours_2 : decode b_Ne_markNeighbours 2 = .ok (.iload_n 3, 1) := by decide +kernel
theorem d_Ne_markNeighbours_3 : decode b_Ne_markNeighbours 3 = .ok (.aload_n 2, 1) := by decide +kernel
theorem d_Ne_markNeighbours_4 : decode b_Ne_markNeighbours 4 = .ok (.arraylength, 1) := by decide +kernel
theorem d_Ne_markNeighbours_5 : decode b_Ne_markNeighbours 5 = .ok (.if_icmp .ge 13, 3) := by decide +kernel
theorem d_Ne_markNeighbours_8 : decode b_Ne_markNeighbours 8 = .ok (.aload_n 2, 1) := by decide +kernel
theorem d_Ne_markNeighbours_9 : decode b_Ne_markNeighbours 9 = .ok (.iload_n 3, 1) := by decide +kernel
theorem d_Ne_markNeighbours_10 : decode b_Ne_markNeighbours 10 = .ok (.iconst 0, 1) := by decide +kernel
theorem d_Ne_markNeighbours_11 : decode b_Ne_markNeighbours 11 = .ok (.bastore, 1) := by decide +kernel
theorem d_Ne_markNeighbours_12 : decode b_Ne_markNeighbours 12 = .ok (.iinc 3 1, 3) := by decide +kernel
theorem d_Ne_markNeighbours_15 : decode b_Ne_markNeighbours 15 = .ok (.goto (-13), 3) := by decide +kernel
theorem d_Ne_markNeighbours_18 : decode b_Ne_markNeighbours 18 = .ok (.iconst 0, 1) := by decide +kernel
theorem d_Ne_markNeighbours_19 : decode b_Ne_markNeighbours 19 = .ok (.istore_n 3, 1) := by decide +kernel
theorem d_Ne_markNeighbours_20 : decode b_Ne_markNeighbours 20 = .ok (.iload_n 3, 1) := by decide +kernel
theorem d_Ne_markNeighbours_21 : decode b_Ne_markNeighbours 21 = .ok (.iconst 2, 1) := by decide +kernel
theorem d_Ne_markNeighbours_22 : decode b_Ne_markNeighbours 22 = .ok (.aload_n 0, 1) := by decide +kernel
theorem d_Ne_markNeighbours_23 : decode b_Ne_markNeighbours 23 = .ok (.getfield 25, 3) := by decide +kernel
theorem d_Ne_markNeighbours_26 : decode b_Ne_markNeighbours 26 = .ok (.imul, 1) := by decide +kernel
theorem d_Ne_markNeighbours_27 : decode b_Ne_markNeighbours 27 = .ok (.if_icmp .ge 48, 3) := by decide +kernel
theorem d_Ne_markNeighbours_30 : decode b_Ne_markNeighbours 30 = .ok (.aload_n 0, 1) := by decide +kernel
theorem d_Ne_markNeighbours_31 : decode b_Ne_markNeighbours 31 = .ok (.iload_n 3, 1) := by decide +kernel
theorem d_Ne_markNeighbours_32 : decode b_Ne_markNeighbours 32 = .ok (.invokevirtual 97, 3) := by decide +kernel
theorem d_Ne_markNeighbours_35 : decode b_Ne_markNeighbours 35 = .ok (.istore 4, 2) := by decide +kernel
theorem d_Ne_markNeighbours_37 : decode b_Ne_markNeighbours 37 = .ok (.aload_n 0, 1) := by decide +kernel
theorem d_Ne_markNeighbours_38 : decode b_Ne_markNeighbours 38 = .ok (.getfield 43, 3) := by decide +kernel
theorem d_Ne_markNeighbours_41 : decode b_Ne_markNeighbours 41 = .ok (.iload_n 3, 1) := by decide +kernel
theorem d_Ne_markNeighbours_42 : decode b_Ne_markNeighbours 42 = .ok (.iaload, 1) := by decide +kernel
theorem d_Ne_markNeighbours_43 : decode b_Ne_markNeighbours 43 = .ok (.iload_n 1, 1) := by decide +kernel
theorem d_Ne_markNeighbours_44 : decode b_Ne_markNeighbours 44 = .ok (.if_icmp .ne 25, 3) := by decide +kernel
theorem d_Ne_markNeighbours_47 : decode b_Ne_markNeighbours 47 = .ok (.iload 4, 2) := by decide +kernel
theorem d_Ne_markNeighbours_49 : decode b_Ne_markNeighbours 49 = .ok (.iload_n 1, 1) := by decide +kernel
theorem d_Ne_markNeighbours_50 : decode b_Ne_markNeighbours 50 = .ok (.if_icmp .eq 19, 3) := by decide +kernel
theorem d_Ne_markNeighbours_53 : decode b_Ne_markNeighbours 53 = .ok (.iload 4, 2) := by decide +kernel
theorem d_Ne_markNeighbours_55 : decode b_Ne_markNeighbours 55 = .ok (.iconst 1, 1) := by decide +kernel
theorem d_Ne_markNeighbours_56 : decode b_Ne_markNeighbours 56 = .ok (.iadd, 1) := by decide +kernel
theorem d_Ne_markNeighbours_57 : decode b_Ne_markNeighbours 57 = .ok (.aload_n 2, 1) := by decide +kernel
theorem d_Ne_markNeighbours_58 : decode b_Ne_markNeighbours 58 = .ok (.arraylength, 1) := by decide +kernel
theorem d_Ne_markNeighbours_59 : decode b_Ne_markNeighbours 59 = .ok (.if_icmp .ge 10, 3) := by decide +kernel
theorem d_Ne_markNeighbours_62 : decode b_Ne_markNeighbours 62 = .ok (.aload_n 2, 1) := by decide +kernel
theorem d_Ne_markNeighbours_63 : decode b_Ne_markNeighbours 63 = .ok (.iload 4, 2) := by decide +kernel
theorem d_Ne_markNeighbours_65 : decode b_Ne_markNeighbours 65 = .ok (.iconst 1, 1) := by decide +kernel
theorem d_Ne_markNeighbours_66 : decode b_Ne_markNeighbours 66 = .ok (.iadd, 1) := by decide +kernel
theorem d_Ne_markNeighbours_67 : decode b_Ne_markNeighbours 67 = .ok (.iconst 1, 1) := by decide +kernel
theorem d_Ne_markNeighbours_68 : decode b_Ne_markNeighbours 68 = .ok (.bastore, 1) := by decide +kernel
theorem d_Ne_markNeighbours_69 : decode b_Ne_markNeighbours 69 = .ok (.iinc 3 1, 3) := by decide +kernel
theorem d_Ne_markNeighbours_72 : decode b_Ne_markNeighbours 72 = .ok (.goto (-52), 3) := by decide +kernel
theorem d_Ne_markNeighbours_75 : decode b_Ne_markNeighbours 75 = .ok (.return_, 1) := by decide +kernel
abbrev wl_Ne_markNeighbours (a_0 : Nat) (a_0_leftSpaces : Nat) (a_2 : Nat) (b_0_pointX : Nat) (b_0_pointY : Nat) (b_0_looseSides : Nat) (b_0_sidesOut : Nat) (b_0_pieceLine : Nat) (b_0_begins : Nat) (b_0_directions : Nat) (b_0_weights : Nat) (b_0_pointAt : Nat) (cI : ClassId) (cZ : ClassId) (n2 : Nat) (v_0_points : Int32) (v_0_pieces : Int32) (v_0_looseEnds : Int32) (f_0_leftSpaces : Nat → Int32) (f_2 : Nat → Int32) : va_W := [(a_0, .inr (3, [.ref b_0_pointX, .ref b_0_pointY, .ref b_0_looseSides, .int v_0_points, .int v_0_pieces, .int v_0_looseEnds, .ref b_0_sidesOut, .ref b_0_pieceLine, .ref b_0_begins, .ref b_0_directions, .ref a_0_leftSpaces, .ref b_0_weights, .ref b_0_pointAt])), (a_0_leftSpaces, .inl (cI, 440, .inl f_0_leftSpaces)), (a_2, .inl (cZ, n2, .inl f_2))]
def m_Ne_markNeighbours_L2 (n2 : Nat) : Nat → Int32 → (Nat → Int32) → Option ((Nat → Int32))
  | 0, _, _ => none
  | n + 1, l3, f_2 =>
    if (Int32.ofNat n2) ≤ l3 then (
      some f_2)
    else (
      gI l3 n2 <|
      lt_ (upd f_2 l3.toNatClampNeg (vp_nar .boolean 0)) fun f3 =>
      lt_ (l3 + 1) fun x4 =>
      m_Ne_markNeighbours_L2 n2 n x4 f3)

def m_Ne_markNeighbours_L20 (l1 : Int32) (n2 : Nat) (v_0_pieces : Int32) (f_0_leftSpaces : Nat → Int32) : Nat → Int32 → (Nat → Int32) → Option ((Nat → Int32))
  | 0, _, _ => none
  | n + 1, l3, f_2 =>
    if (2 * v_0_pieces) ≤ l3 then (
      some f_2)
    else (
      bd1 (m_Ne_onTheRight l3 f_0_leftSpaces) fun r11 =>
      gI l3 440 <|
      bd1 (
        if (f_0_leftSpaces l3.toNatClampNeg) = l1 then (
        if r11 = l1 then (
          some f_2)
        else (
          if (Int32.ofNat n2) ≤ (r11 + 1) then (
            some f_2)
          else (
            gI (r11 + 1) n2 <|
            lt_ (upd f_2 (r11 + 1).toNatClampNeg (vp_nar .boolean 1)) fun f22 =>
            some f22)))
      else (
        some f_2))
      fun (f17 : Nat → Int32) =>
      lt_ (l3 + 1) fun x23 =>
        m_Ne_markNeighbours_L20 l1 n2 v_0_pieces f_0_leftSpaces n x23 f17)
def m_Ne_markNeighbours (n2 : Nat) (p1 : Int32) (v_0_pieces : Int32) (f_0_leftSpaces : Nat → Int32) (f_2 : Nat → Int32) : Option ((Nat → Int32)) :=
  bd1 (m_Ne_markNeighbours_L2 n2 fu 0 f_2) fun f3 =>
  bd1 (m_Ne_markNeighbours_L20 p1 n2 v_0_pieces f_0_leftSpaces fu 0 f3) fun f12 =>
  some f12

set_option maxHeartbeats 4000000 in
set_option maxRecDepth 100000 in
theorem t_Ne_markNeighbours {p : Program} {l : Launch} {e : Env} {s : State} {m : MethodId} {args : Array Value} {below : List Frame} {meth : Method} {c : Code} {A : Nat → Prop} {Q : State → Prop} {dC : Nat → ClassId} {dI : Nat → Nat → Nat} {cI cZ cJ : ClassId} (a_0 a_0_leftSpaces a_2 b_0_pointX b_0_pointY b_0_looseSides b_0_sidesOut b_0_pieceLine b_0_begins b_0_directions b_0_weights b_0_pointAt : Nat) (n2 : Nat) (v_0_points : Int32) (v_0_pieces : Int32) (v_0_looseEnds : Int32) (f_0_leftSpaces : Nat → Int32) (f_2 : Nat → Int32) (p1 : Int32) (of_2 : Nat → Int32) (hx : p.tables.exec = Jvm.exec) (hb : c.code = b_Ne_markNeighbours) (hml : c.maxLocals = 5) (hown : s.vm.findClass "SpaceCycles$Net" = some m.cls) (hts : ∀ w ∈ w_Ne_markNeighbours, w.before args s = true) (hK : va_K (dC, dI) vwCl [(cI, .int), (cZ, .boolean), (cJ, .long)] s) (hN : NX s) (hA : ∀ q : Nat, s.heap.size ≤ q → A q)
    (hret : ∀ (pc : Nat) (H : Heap) (locs : List Loc) (ls : Array Slot), decode b_Ne_markNeighbours pc = .ok (.return_, 1) → va_P (dC, dI) vwCl (wl_Ne_markNeighbours a_0 a_0_leftSpaces a_2 b_0_pointX b_0_pointY b_0_looseSides b_0_sidesOut b_0_pieceLine b_0_begins b_0_directions b_0_weights b_0_pointAt cI cZ n2 v_0_points v_0_pieces v_0_looseEnds f_0_leftSpaces of_2) H → va_D A (wl_Ne_markNeighbours a_0 a_0_leftSpaces a_2 b_0_pointX b_0_pointY b_0_looseSides b_0_sidesOut b_0_pieceLine b_0_begins b_0_directions b_0_weights b_0_pointAt cI cZ n2 v_0_points v_0_pieces v_0_looseEnds f_0_leftSpaces of_2) → va_S A s.heap H locs → W p l e rm_Ne_markNeighbours s m args below meth c H locs 0 0 Q (F0 m pc ls []))
    (hm : m_Ne_markNeighbours n2 p1 v_0_pieces f_0_leftSpaces f_2 = some of_2) : ∀ (H : Heap) (locs : List Loc) (ls : Array Slot), va_P (dC, dI) vwCl (wl_Ne_markNeighbours a_0 a_0_leftSpaces a_2 b_0_pointX b_0_pointY b_0_looseSides b_0_sidesOut b_0_pieceLine b_0_begins b_0_directions b_0_weights b_0_pointAt cI cZ n2 v_0_points v_0_pieces v_0_looseEnds f_0_leftSpaces f_2) H → va_D A (wl_Ne_markNeighbours a_0 a_0_leftSpaces a_2 b_0_pointX b_0_pointY b_0_looseSides b_0_sidesOut b_0_pieceLine b_0_begins b_0_directions b_0_weights b_0_pointAt cI cZ n2 v_0_points v_0_pieces v_0_looseEnds f_0_leftSpaces f_2) → va_S A s.heap H locs → lv_has ls 5 [(0, .ref a_0), (1, .int p1), (2, .ref a_2)] → W p l e rm_Ne_markNeighbours s m args below meth c H locs 0 0 Q (F0 m 0 ls []) := by
  intro H locs ls hP hD hS hl
  unfold m_Ne_markNeighbours at hm
  refine lv_iconst (v := 0) hx hb d_Ne_markNeighbours_0 (by decide) ?_
  refine lv_istore_n (lv' := [(3, .int 0), (0, .ref a_0), (1, .int p1), (2, .ref a_2)]) hx hb d_Ne_markNeighbours_1 rfl hl (by decide) rfl (fun ls hl => ?_)
  have L2_4 : ∀ (n : Nat) (x1 : Int32) (f2 : Nat → Int32) (f3 : Nat → Int32), m_Ne_markNeighbours_L2 n2 n x1 f2 = some f3 → (∀ (H : Heap) (locs : List Loc) (ls : Array Slot), va_P (dC, dI) vwCl (wl_Ne_markNeighbours a_0 a_0_leftSpaces a_2 b_0_pointX b_0_pointY b_0_looseSides b_0_sidesOut b_0_pieceLine b_0_begins b_0_directions b_0_weights b_0_pointAt cI cZ n2 v_0_points v_0_pieces v_0_looseEnds f_0_leftSpaces f3) H → va_D A (wl_Ne_markNeighbours a_0 a_0_leftSpaces a_2 b_0_pointX b_0_pointY b_0_looseSides b_0_sidesOut b_0_pieceLine b_0_begins b_0_directions b_0_weights b_0_pointAt cI cZ n2 v_0_points v_0_pieces v_0_looseEnds f_0_leftSpaces f3) → va_S A s.heap H locs → lv_has ls 5 [(0, .ref a_0), (1, .int p1), (2, .ref a_2)] → W p l e rm_Ne_markNeighbours s m args below meth c H locs 0 0 Q (F0 m 18 ls [])) → ∀ (H : Heap) (locs : List Loc) (ls : Array Slot), va_P (dC, dI) vwCl (wl_Ne_markNeighbours a_0 a_0_leftSpaces a_2 b_0_pointX b_0_pointY b_0_looseSides b_0_sidesOut b_0_pieceLine b_0_begins b_0_directions b_0_weights b_0_pointAt cI cZ n2 v_0_points v_0_pieces v_0_looseEnds f_0_leftSpaces f2) H → va_D A (wl_Ne_markNeighbours a_0 a_0_leftSpaces a_2 b_0_pointX b_0_pointY b_0_looseSides b_0_sidesOut b_0_pieceLine b_0_begins b_0_directions b_0_weights b_0_pointAt cI cZ n2 v_0_points v_0_pieces v_0_looseEnds f_0_leftSpaces f2) → va_S A s.heap H locs → lv_has ls 5 [(0, .ref a_0), (1, .int p1), (2, .ref a_2), (3, .int x1)] → W p l e rm_Ne_markNeighbours s m args below meth c H locs 0 0 Q (F0 m 2 ls []) := by
    intro n
    induction n with
    | zero => intro x1 f2 f3 hm; simp [m_Ne_markNeighbours_L2] at hm
    | succ n ih =>
      intro x1 f2 f3 hm KE H locs ls hP hD hS hl
      rw [m_Ne_markNeighbours_L2] at hm
      refine lv_iload_n hx hb d_Ne_markNeighbours_2 rfl (lv_at hl 3 rfl) ?_
      refine lv_aload_n hx hb d_Ne_markNeighbours_3 rfl (lv_at hl 2 rfl) ?_
      refine va_alen (v := (Int32.ofNat n2)) hx hb hK hP 2 1 rfl rfl rfl d_Ne_markNeighbours_4 ?_
      refine lv_icmp_ge (tgt := 18) hx hb d_Ne_markNeighbours_5 (by decide) (fun c5 => ?_) (fun c5 => ?_)
      · replace hm := if_t hm c5
        cases hm
        exact KE H locs ls hP hD hS (lv_sub hl [0, 1, 2] rfl)
      · replace hm := if_f hm c5
        refine lv_aload_n hx hb d_Ne_markNeighbours_8 rfl (lv_at hl 2 rfl) ?_
        refine lv_iload_n hx hb d_Ne_markNeighbours_9 rfl (lv_at hl 3 rfl) ?_
        refine lv_iconst (v := 0) hx hb d_Ne_markNeighbours_10 (by decide) ?_
        obtain ⟨hi6, hm⟩ := gI_e hm
        obtain ⟨f7, ef7⟩ : ∃ y : Nat → Int32, y = upd f2 x1.toNatClampNeg (vp_nar .boolean 0) := ⟨_, rfl⟩
        replace hm := lt_el hm ef7
        refine va_zast hx hb hK hP hD hS 2 1 rfl rfl hi6 d_Ne_markNeighbours_11 (fun H locs hP hD hS => ?_)
        rw [← ef7] at hP hD
        have hP : va_P (dC, dI) vwCl (wl_Ne_markNeighbours a_0 a_0_leftSpaces a_2 b_0_pointX b_0_pointY b_0_looseSides b_0_sidesOut b_0_pieceLine b_0_begins b_0_directions b_0_weights b_0_pointAt cI cZ n2 v_0_points v_0_pieces v_0_looseEnds f_0_leftSpaces f7) H := hP
        have hD : va_D A (wl_Ne_markNeighbours a_0 a_0_leftSpaces a_2 b_0_pointX b_0_pointY b_0_looseSides b_0_sidesOut b_0_pieceLine b_0_begins b_0_directions b_0_weights b_0_pointAt cI cZ n2 v_0_points v_0_pieces v_0_looseEnds f_0_leftSpaces f7) := hD
        obtain ⟨x8, ex8⟩ : ∃ y : Int32, y = x1 + 1 := ⟨_, rfl⟩
        replace hm := lt_el hm ex8
        refine lv_iinc (v := x8) (lv' := [(3, .int x8), (0, .ref a_0), (1, .int p1), (2, .ref a_2)]) hx hb d_Ne_markNeighbours_12 hl (k := 3) rfl (by rw [ex8]; rfl) (by decide) rfl (fun ls hl => ?_)
        refine lv_goto (tgt := 2) hx hb d_Ne_markNeighbours_15 (by decide) ?_
        exact ih _ _ _ hm KE H locs ls hP hD hS (lv_sub hl [1, 2, 3, 0] rfl)
  obtain ⟨f3, hb9, hm⟩ := bd1_e hm
  refine L2_4 fu _ _ _ hb9 (fun H locs ls hP hD hS hl => ?_) H locs ls hP hD hS (lv_sub hl [1, 2, 3, 0] rfl)
  refine lv_iconst (v := 0) hx hb d_Ne_markNeighbours_18 (by decide) ?_
  refine lv_istore_n (lv' := [(3, .int 0), (0, .ref a_0), (1, .int p1), (2, .ref a_2)]) hx hb d_Ne_markNeighbours_19 rfl hl (by decide) rfl (fun ls hl => ?_)
  have L20_13 : ∀ (n : Nat) (x10 : Int32) (f11 : Nat → Int32) (f12 : Nat → Int32), m_Ne_markNeighbours_L20 p1 n2 v_0_pieces f_0_leftSpaces n x10 f11 = some f12 → (∀ (H : Heap) (locs : List Loc) (ls : Array Slot), va_P (dC, dI) vwCl (wl_Ne_markNeighbours a_0 a_0_leftSpaces a_2 b_0_pointX b_0_pointY b_0_looseSides b_0_sidesOut b_0_pieceLine b_0_begins b_0_directions b_0_weights b_0_pointAt cI cZ n2 v_0_points v_0_pieces v_0_looseEnds f_0_leftSpaces f12) H → va_D A (wl_Ne_markNeighbours a_0 a_0_leftSpaces a_2 b_0_pointX b_0_pointY b_0_looseSides b_0_sidesOut b_0_pieceLine b_0_begins b_0_directions b_0_weights b_0_pointAt cI cZ n2 v_0_points v_0_pieces v_0_looseEnds f_0_leftSpaces f12) → va_S A s.heap H locs → lv_has ls 5 [] → W p l e rm_Ne_markNeighbours s m args below meth c H locs 0 0 Q (F0 m 75 ls [])) → ∀ (H : Heap) (locs : List Loc) (ls : Array Slot), va_P (dC, dI) vwCl (wl_Ne_markNeighbours a_0 a_0_leftSpaces a_2 b_0_pointX b_0_pointY b_0_looseSides b_0_sidesOut b_0_pieceLine b_0_begins b_0_directions b_0_weights b_0_pointAt cI cZ n2 v_0_points v_0_pieces v_0_looseEnds f_0_leftSpaces f11) H → va_D A (wl_Ne_markNeighbours a_0 a_0_leftSpaces a_2 b_0_pointX b_0_pointY b_0_looseSides b_0_sidesOut b_0_pieceLine b_0_begins b_0_directions b_0_weights b_0_pointAt cI cZ n2 v_0_points v_0_pieces v_0_looseEnds f_0_leftSpaces f11) → va_S A s.heap H locs → lv_has ls 5 [(0, .ref a_0), (1, .int p1), (2, .ref a_2), (3, .int x10)] → W p l e rm_Ne_markNeighbours s m args below meth c H locs 0 0 Q (F0 m 20 ls []) := by
    intro n
    induction n with
    | zero => intro x10 f11 f12 hm; simp [m_Ne_markNeighbours_L20] at hm
    | succ n ih =>
      intro x10 f11 f12 hm KE H locs ls hP hD hS hl
      rw [m_Ne_markNeighbours_L20] at hm
      refine lv_iload_n hx hb d_Ne_markNeighbours_20 rfl (lv_at hl 3 rfl) ?_
      refine lv_iconst (v := 2) hx hb d_Ne_markNeighbours_21 (by decide) ?_
      refine lv_aload_n hx hb d_Ne_markNeighbours_22 rfl (lv_at hl 0 rfl) ?_
      refine va_get (D := (dC, dI)) (ci := 3) (v := .int v_0_pieces) (C := "SpaceCycles$Net") (T := F_Ne) (N := 13) hx hb hts (in_F i_Ne) hown hK hP 0 rfl rfl 4 (by decide) (hts _ (in_c k_174)) (fun _ h9 => h9) rfl d_Ne_markNeighbours_23 ?_
      refine lv_imul hx hb d_Ne_markNeighbours_26 ?_
      refine lv_icmp_ge (tgt := 75) hx hb d_Ne_markNeighbours_27 (by decide) (fun c14 => ?_) (fun c14 => ?_)
      · replace hm := if_t hm c14
        cases hm
        exact KE H locs ls hP hD hS (lv_sub hl [] rfl)
      · replace hm := if_f hm c14
        refine lv_aload_n hx hb d_Ne_markNeighbours_30 rfl (lv_at hl 0 rfl) ?_
        refine lv_iload_n hx hb d_Ne_markNeighbours_31 rfl (lv_at hl 3 rfl) ?_
        obtain ⟨r15, hb16, hm⟩ := bd1_e hm
        have hPc := hP.sub (ws' := (wl_Ne_onTheRight a_0 a_0_leftSpaces b_0_pointX b_0_pointY b_0_looseSides b_0_sidesOut b_0_pieceLine b_0_begins b_0_directions b_0_weights b_0_pointAt cI v_0_points v_0_pieces v_0_looseEnds f_0_leftSpaces)) [0, 1] rfl
        have hDc := hD.sub (ws' := (wl_Ne_onTheRight a_0 a_0_leftSpaces b_0_pointX b_0_pointY b_0_looseSides b_0_sidesOut b_0_pieceLine b_0_begins b_0_directions b_0_weights b_0_pointAt cI v_0_points v_0_pieces v_0_looseEnds f_0_leftSpaces)) [0, 1] (by decide) rfl
        refine cl_i (wc' := (wl_Ne_onTheRight a_0 a_0_leftSpaces b_0_pointX b_0_pointY b_0_looseSides b_0_sidesOut b_0_pieceLine b_0_begins b_0_directions b_0_weights b_0_pointAt cI v_0_points v_0_pieces v_0_looseEnds f_0_leftSpaces)) (va_runV (As := [.int x10]) (rest := []) ⟨hx, hb, hml, hown, hts⟩ (c_Ne_onTheRight l dC dI (cI := cI) (cZ := cZ) (cJ := cJ) a_0 a_0_leftSpaces b_0_pointX b_0_pointY b_0_looseSides b_0_sidesOut b_0_pieceLine b_0_begins b_0_directions b_0_weights b_0_pointAt H.size v_0_points v_0_pieces v_0_looseEnds f_0_leftSpaces x10 r15 hb16) (cwV 1 hts (gl_V k_220 k_219 k_218 k_145 k_217) rfl rfl rfl (by decide +kernel) ⟨Nat.le_of_ble_eq_true rfl, Nat.le_of_ble_eq_true rfl⟩) ⟨PP_blind, va_recv hK hPc (ci := 3) (q0 := 0) rfl rfl, fun U hU hW => PP_at hK hN hPc hDc hU hW⟩ rfl rfl hl.1 rfl (lv_room (Nat.le_of_ble_eq_true rfl)) d_Ne_markNeighbours_32 ⟨Nat.zero_le _, Nat.zero_le _⟩) hP hD hS hA [0, 1] [2] rfl rfl (by decide) (by decide) (fun H locs hP hD hS => ?_)
        have hP : va_P (dC, dI) vwCl (wl_Ne_markNeighbours a_0 a_0_leftSpaces a_2 b_0_pointX b_0_pointY b_0_looseSides b_0_sidesOut b_0_pieceLine b_0_begins b_0_directions b_0_weights b_0_pointAt cI cZ n2 v_0_points v_0_pieces v_0_looseEnds f_0_leftSpaces f11) H := hP.sub [1, 2, 0] rfl
        have hD : va_D A (wl_Ne_markNeighbours a_0 a_0_leftSpaces a_2 b_0_pointX b_0_pointY b_0_looseSides b_0_sidesOut b_0_pieceLine b_0_begins b_0_directions b_0_weights b_0_pointAt cI cZ n2 v_0_points v_0_pieces v_0_looseEnds f_0_leftSpaces f11) := hD.sub [1, 2, 0] (by decide) rfl
        refine lv_istore (lv' := [(4, .int r15), (0, .ref a_0), (1, .int p1), (2, .ref a_2), (3, .int x10)]) hx hb d_Ne_markNeighbours_35 hl (by decide) rfl (fun ls hl => ?_)
        refine lv_aload_n hx hb d_Ne_markNeighbours_37 rfl (lv_at hl 1 rfl) ?_
        refine va_get (D := (dC, dI)) (ci := 3) (v := .ref a_0_leftSpaces) (C := "SpaceCycles$Net") (T := F_Ne) (N := 13) hx hb hts (in_F i_Ne) hown hK hP 0 rfl rfl 10 (by decide) (hts _ (in_c k_173)) (fun _ h9 => h9) rfl d_Ne_markNeighbours_38 ?_
        refine lv_iload_n hx hb d_Ne_markNeighbours_41 rfl (lv_at hl 4 rfl) ?_
        obtain ⟨hi17, hm⟩ := gI_e hm
        refine va_iald hx hb hK hP 1 0 rfl rfl hi17 d_Ne_markNeighbours_42 ?_
        refine lv_iload_n hx hb d_Ne_markNeighbours_43 rfl (lv_at hl 2 rfl) ?_
        obtain ⟨f21, hb19, hm⟩ := bd1_e hm
        have K18 : ∀ (H : Heap) (locs : List Loc) (ls : Array Slot), va_P (dC, dI) vwCl (wl_Ne_markNeighbours a_0 a_0_leftSpaces a_2 b_0_pointX b_0_pointY b_0_looseSides b_0_sidesOut b_0_pieceLine b_0_begins b_0_directions b_0_weights b_0_pointAt cI cZ n2 v_0_points v_0_pieces v_0_looseEnds f_0_leftSpaces f21) H → va_D A (wl_Ne_markNeighbours a_0 a_0_leftSpaces a_2 b_0_pointX b_0_pointY b_0_looseSides b_0_sidesOut b_0_pieceLine b_0_begins b_0_directions b_0_weights b_0_pointAt cI cZ n2 v_0_points v_0_pieces v_0_looseEnds f_0_leftSpaces f21) → va_S A s.heap H locs → lv_has ls 5 [(0, .ref a_0), (1, .int p1), (2, .ref a_2), (3, .int x10)] → W p l e rm_Ne_markNeighbours s m args below meth c H locs 0 0 Q (F0 m 69 ls []) := by
          intro H locs ls hP hD hS hl
          obtain ⟨x27, ex27⟩ : ∃ y : Int32, y = x10 + 1 := ⟨_, rfl⟩
          replace hm := lt_el hm ex27
          refine lv_iinc (v := x27) (lv' := [(3, .int x27), (0, .ref a_0), (1, .int p1), (2, .ref a_2)]) hx hb d_Ne_markNeighbours_69 hl (k := 3) rfl (by rw [ex27]; rfl) (by decide) rfl (fun ls hl => ?_)
          refine lv_goto (tgt := 20) hx hb d_Ne_markNeighbours_72 (by decide) ?_
          exact ih _ _ _ hm KE H locs ls hP hD hS (lv_sub hl [1, 2, 3, 0] rfl)
        replace hm := hb19
        refine lv_icmp_ne (tgt := 69) hx hb d_Ne_markNeighbours_44 (by decide) (fun c22 => ?_) (fun c22 => ?_)
        · replace hm := if_f hm c22
          cases hm
          exact K18 H locs ls hP hD hS (lv_sub hl [1, 2, 3, 4] rfl)
        · replace hm := if_t hm c22
          refine lv_iload hx hb d_Ne_markNeighbours_47 (lv_at hl 0 rfl) ?_
          refine lv_iload_n hx hb d_Ne_markNeighbours_49 rfl (lv_at hl 2 rfl) ?_
          refine lv_icmp_eq (tgt := 69) hx hb d_Ne_markNeighbours_50 (by decide) (fun c23 => ?_) (fun c23 => ?_)
          · replace hm := if_t hm c23
            cases hm
            exact K18 H locs ls hP hD hS (lv_sub hl [1, 2, 3, 4] rfl)
          · replace hm := if_f hm c23
            refine lv_iload hx hb d_Ne_markNeighbours_53 (lv_at hl 0 rfl) ?_
            refine lv_iconst (v := 1) hx hb d_Ne_markNeighbours_55 (by decide) ?_
            refine lv_iadd hx hb d_Ne_markNeighbours_56 ?_
            refine lv_aload_n hx hb d_Ne_markNeighbours_57 rfl (lv_at hl 3 rfl) ?_
            refine va_alen (v := (Int32.ofNat n2)) hx hb hK hP 2 1 rfl rfl rfl d_Ne_markNeighbours_58 ?_
            refine lv_icmp_ge (tgt := 69) hx hb d_Ne_markNeighbours_59 (by decide) (fun c24 => ?_) (fun c24 => ?_)
            · replace hm := if_t hm c24
              cases hm
              exact K18 H locs ls hP hD hS (lv_sub hl [1, 2, 3, 4] rfl)
            · replace hm := if_f hm c24
              refine lv_aload_n hx hb d_Ne_markNeighbours_62 rfl (lv_at hl 3 rfl) ?_
              refine lv_iload hx hb d_Ne_markNeighbours_63 (lv_at hl 0 rfl) ?_
              refine lv_iconst (v := 1) hx hb d_Ne_markNeighbours_65 (by decide) ?_
              refine lv_iadd hx hb d_Ne_markNeighbours_66 ?_
              refine lv_iconst (v := 1) hx hb d_Ne_markNeighbours_67 (by decide) ?_
              obtain ⟨hi25, hm⟩ := gI_e hm
              obtain ⟨f26, ef26⟩ : ∃ y : Nat → Int32, y = upd f11 (r15 + 1).toNatClampNeg (vp_nar .boolean 1) := ⟨_, rfl⟩
              replace hm := lt_el hm ef26
              refine va_zast hx hb hK hP hD hS 2 1 rfl rfl hi25 d_Ne_markNeighbours_68 (fun H locs hP hD hS => ?_)
              rw [← ef26] at hP hD
              have hP : va_P (dC, dI) vwCl (wl_Ne_markNeighbours a_0 a_0_leftSpaces a_2 b_0_pointX b_0_pointY b_0_looseSides b_0_sidesOut b_0_pieceLine b_0_begins b_0_directions b_0_weights b_0_pointAt cI cZ n2 v_0_points v_0_pieces v_0_looseEnds f_0_leftSpaces f26) H := hP
              have hD : va_D A (wl_Ne_markNeighbours a_0 a_0_leftSpaces a_2 b_0_pointX b_0_pointY b_0_looseSides b_0_sidesOut b_0_pieceLine b_0_begins b_0_directions b_0_weights b_0_pointAt cI cZ n2 v_0_points v_0_pieces v_0_looseEnds f_0_leftSpaces f26) := hD
              cases hm
              exact K18 H locs ls hP hD hS (lv_sub hl [1, 2, 3, 4] rfl)
  obtain ⟨f12, hb28, hm⟩ := bd1_e hm
  refine L20_13 fu _ _ _ hb28 (fun H locs ls hP hD hS hl => ?_) H locs ls hP hD hS (lv_sub hl [1, 2, 3, 0] rfl)
  cases hm
  exact hret _ H locs ls d_Ne_markNeighbours_75 hP hD hS
set_option maxHeartbeats 4000000 in
set_option maxRecDepth 100000 in
theorem c_Ne_markNeighbours (l : Launch) (dC : Nat → ClassId) (dI : Nat → Nat → Nat) {cI cZ cJ : ClassId} (a_0 a_0_leftSpaces a_2 b_0_pointX b_0_pointY b_0_looseSides b_0_sidesOut b_0_pieceLine b_0_begins b_0_directions b_0_weights b_0_pointAt : Nat) (sz : Nat) (n2 : Nat) (v_0_points : Int32) (v_0_pieces : Int32) (v_0_looseEnds : Int32) (f_0_leftSpaces : Nat → Int32) (f_2 : Nat → Int32) (p1 : Int32) (of_2 : Nat → Int32) (hm : m_Ne_markNeighbours n2 p1 v_0_pieces f_0_leftSpaces f_2 = some of_2) : Met l y_Ne_markNeighbours w_Ne_markNeighbours rm_Ne_markNeighbours (PP dC dI [(cI, .int), (cZ, .boolean), (cJ, .long)] [.ref a_0, .int p1, .ref a_2] sz (wl_Ne_markNeighbours a_0 a_0_leftSpaces a_2 b_0_pointX b_0_pointY b_0_looseSides b_0_sidesOut b_0_pieceLine b_0_begins b_0_directions b_0_weights b_0_pointAt cI cZ n2 v_0_points v_0_pieces v_0_looseEnds f_0_leftSpaces f_2)) (QV dC dI [(cI, .int), (cZ, .boolean), (cJ, .long)] sz (wl_Ne_markNeighbours a_0 a_0_leftSpaces a_2 b_0_pointX b_0_pointY b_0_looseSides b_0_sidesOut b_0_pieceLine b_0_begins b_0_directions b_0_weights b_0_pointAt cI cZ n2 v_0_points v_0_pieces v_0_looseEnds f_0_leftSpaces f_2) (wl_Ne_markNeighbours a_0 a_0_leftSpaces a_2 b_0_pointX b_0_pointY b_0_looseSides b_0_sidesOut b_0_pieceLine b_0_begins b_0_directions b_0_weights b_0_pointAt cI cZ n2 v_0_points v_0_pieces v_0_looseEnds f_0_leftSpaces of_2)) 0 0 (va_A (wl_Ne_markNeighbours a_0 a_0_leftSpaces a_2 b_0_pointX b_0_pointY b_0_looseSides b_0_sidesOut b_0_pieceLine b_0_begins b_0_directions b_0_weights b_0_pointAt cI cZ n2 v_0_points v_0_pieces v_0_looseEnds f_0_leftSpaces f_2) sz) := by
  refine Met.ofW (cc := b_Ne_markNeighbours) (maxL := 5) (ret := none) (by decide) rfl ?_
  intro p e s m args below meth c s₁ B hml hv
  obtain ⟨rfl, hsz, hP, hK, hD0, hN⟩ := hv
  subst hsz
  have hl := lv_entry ([.ref a_0, .int p1, .ref a_2]) (n := 5) (Nat.le_of_ble_eq_true rfl)
  rw [lg_entry_eq]
  generalize (lg_sl ([.ref a_0, .int p1, .ref a_2]) ++ List.replicate (5 - (lg_sl ([.ref a_0, .int p1, .ref a_2])).length) Slot.unset).toArray = ls at hl ⊢
  exact t_Ne_markNeighbours a_0 a_0_leftSpaces a_2 b_0_pointX b_0_pointY b_0_looseSides b_0_sidesOut b_0_pieceLine b_0_begins b_0_directions b_0_weights b_0_pointAt n2 v_0_points v_0_pieces v_0_looseEnds f_0_leftSpaces f_2 p1 of_2 B.exec B.bytes hml (findClass_of_methodNamed B.named) (atoms_spec (ws := w_Ne_markNeighbours) B.pre) hK hN (fun q h => Or.inr h) (fun pc H locs ls hd hP9 hD9 hS => W.vret B.exec B.bytes B.returns (fun t ht hW => ⟨⟨(), rfl, trivial, by rw [ht]; exact hP9, va_K.moved hW.alike hK, hD9⟩, hS.F ht⟩) hS.2.2 hd) hm s.heap [] ls hP hD0.self va_S.rf hl
