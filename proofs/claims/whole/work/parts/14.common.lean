theorem k_58 : ((.fieldLink "SpaceCycles$Common" 25 "SpaceCycles$Common" "known" "Z") : Cond) ∈ gl := gl_i 228 (by decide +kernel) (by decide +kernel)
-- SpaceCycles$Common.forget()V
abbrev b_Co_forget : ByteArray := prog_2_method_2_code
abbrev y_Co_forget : MethodName := ⟨"SpaceCycles$Common", "forget", "()V"⟩
abbrev w_Co_forget : List Cond := Cond.code y_Co_forget b_Co_forget 1 none :: gl
abbrev rm_Co_forget : Room := { frames := 0, cells := 0, slots := 0, locals := 0 }
theorem d_Co_forget_0 : decode b_Co_forget 0 = .ok (.aload_n 0, 1) := by decide +kernel
theorem d_Co_forget_1 : decode b_Co_forget 1 = .ok (.iconst 0, 1) := by decide +kernel
theorem d_Co_forget_2 : decode b_Co_forget 2 = .ok (.putfield 25, 3) := by decide +kernel
theorem d_Co_forget_5 : decode b_Co_forget 5 = .ok (.return_, 1) := by decide +kernel
abbrev wl_Co_forget (a_0 : Nat) (b_0_columns : Nat) (b_0_rows : Nat) (b_0_areas : Nat) (v_0_known : Int32) : va_W := [(a_0, .inr (5, [.ref b_0_columns, .ref b_0_rows, .ref b_0_areas, .int v_0_known]))]
def m_Co_forget (v_0_known : Int32) : Option ((Int32)) :=
  some 0

set_option maxHeartbeats 4000000 in
set_option maxRecDepth 100000 in
theorem t_Co_forget {p : Program} {l : Launch} {e : Env} {s : State} {m : MethodId} {args : Array Value} {below : List Frame} {meth : Method} {c : Code} {A : Nat → Prop} {Q : State → Prop} {dC : Nat → ClassId} {dI : Nat → Nat → Nat} {cI cZ cJ : ClassId} (a_0 b_0_columns b_0_rows b_0_areas : Nat) (v_0_known : Int32)  (ov_0_known : Int32) (hx : p.tables.exec = Jvm.exec) (hb : c.code = b_Co_forget) (hml : c.maxLocals = 1) (hown : s.vm.findClass "SpaceCycles$Common" = some m.cls) (hts : ∀ w ∈ w_Co_forget, w.before args s = true) (hK : va_K (dC, dI) vwCl [(cI, .int), (cZ, .boolean), (cJ, .long)] s) (hN : NX s) (hA : ∀ q : Nat, s.heap.size ≤ q → A q)
    (hret : ∀ (pc : Nat) (H : Heap) (locs : List Loc) (ls : Array Slot), decode b_Co_forget pc = .ok (.return_, 1) → va_P (dC, dI) vwCl (wl_Co_forget a_0 b_0_columns b_0_rows b_0_areas ov_0_known) H → va_D A (wl_Co_forget a_0 b_0_columns b_0_rows b_0_areas ov_0_known) → va_S A s.heap H locs → W p l e rm_Co_forget s m args below meth c H locs 0 0 Q (F0 m pc ls []))
    (hm : m_Co_forget v_0_known = some ov_0_known) : ∀ (H : Heap) (locs : List Loc) (ls : Array Slot), va_P (dC, dI) vwCl (wl_Co_forget a_0 b_0_columns b_0_rows b_0_areas v_0_known) H → va_D A (wl_Co_forget a_0 b_0_columns b_0_rows b_0_areas v_0_known) → va_S A s.heap H locs → lv_has ls 1 [(0, .ref a_0)] → W p l e rm_Co_forget s m args below meth c H locs 0 0 Q (F0 m 0 ls []) := by
  intro H locs ls hP hD hS hl
  unfold m_Co_forget at hm
  refine lv_aload_n hx hb d_Co_forget_0 rfl (lv_at hl 0 rfl) ?_
  refine lv_iconst (v := 0) hx hb d_Co_forget_1 (by decide) ?_
  refine va_put (D := (dC, dI)) (ci := 5) (v := .int 0) (ty := .boolean) (C := "SpaceCycles$Common") (T := F_Co) (N := 4) hx hb hts (in_F i_Co) t_Co t_Co_ok n_Co hown hK hP hD hS 0 rfl rfl 3 (by decide) (hts _ (in_c k_58)) (fun _ h9 => h9) rfl (by decide +kernel) rfl rfl (Nat.le_of_ble_eq_true rfl) d_Co_forget_2 (fun H locs hP hD hS => ?_)
  have hP : va_P (dC, dI) vwCl (wl_Co_forget a_0 b_0_columns b_0_rows b_0_areas 0) H := hP
  have hD : va_D A (wl_Co_forget a_0 b_0_columns b_0_rows b_0_areas 0) := hD
  cases hm
  exact hret _ H locs ls d_Co_forget_5 hP hD hS
set_option maxHeartbeats 4000000 in
set_option maxRecDepth 100000 in
theorem c_Co_forget (l : Launch) (dC : Nat → ClassId) (dI : Nat → Nat → Nat) {cI cZ cJ : ClassId} (a_0 b_0_columns b_0_rows b_0_areas : Nat) (sz : Nat) (v_0_known : Int32)  (ov_0_known : Int32) (hm : m_Co_forget v_0_known = some ov_0_known) : Met l y_Co_forget w_Co_forget rm_Co_forget (PP dC dI [(cI, .int), (cZ, .boolean), (cJ, .long)] [.ref a_0] sz (wl_Co_forget a_0 b_0_columns b_0_rows b_0_areas v_0_known)) (QV dC dI [(cI, .int), (cZ, .boolean), (cJ, .long)] sz (wl_Co_forget a_0 b_0_columns b_0_rows b_0_areas v_0_known) (wl_Co_forget a_0 b_0_columns b_0_rows b_0_areas ov_0_known)) 0 0 (va_A (wl_Co_forget a_0 b_0_columns b_0_rows b_0_areas v_0_known) sz) := by
  refine Met.ofW (cc := b_Co_forget) (maxL := 1) (ret := none) (by decide) rfl ?_
  intro p e s m args below meth c s₁ B hml hv
  obtain ⟨rfl, hsz, hP, hK, hD0, hN⟩ := hv
  subst hsz
  have hl := lv_entry ([.ref a_0]) (n := 1) (Nat.le_of_ble_eq_true rfl)
  rw [lg_entry_eq]
  generalize (lg_sl ([.ref a_0]) ++ List.replicate (1 - (lg_sl ([.ref a_0])).length) Slot.unset).toArray = ls at hl ⊢
  exact t_Co_forget a_0 b_0_columns b_0_rows b_0_areas v_0_known ov_0_known B.exec B.bytes hml (findClass_of_methodNamed B.named) (atoms_spec (ws := w_Co_forget) B.pre) hK hN (fun q h => Or.inr h) (fun pc H locs ls hd hP9 hD9 hS => W.vret B.exec B.bytes B.returns (fun t ht hW => ⟨⟨(), rfl, trivial, by rw [ht]; exact hP9, va_K.moved hW.alike hK, hD9⟩, hS.F ht⟩) hS.2.2 hd) hm s.heap [] ls hP hD0.self va_S.rf hl

theorem k_59 : ((.fieldLink "SpaceCycles$Common" 21 "SpaceCycles$Common" "areas" "[I") : Cond) ∈ gl := gl_i 227 (by decide +kernel) (by decide +kernel)
theorem k_60 : ((.fieldLink "SpaceCycles$Common" 29 "SpaceCycles$Grid" "spaces" "I") : Cond) ∈ gl := gl_i 311 (by decide +kernel) (by decide +kernel)
theorem k_61 : ((.code ⟨"java/util/Arrays", "fill", "([IIII)V"⟩ prog_28_method_104_code 5 none) : Cond) ∈ gl := gl_i 539 (by decide +kernel) (by decide +kernel)
theorem k_62 : ((.static ⟨"java/util/Arrays", "fill", "([IIII)V"⟩) : Cond) ∈ gl := gl_i 538 (by decide +kernel) (by decide +kernel)
theorem k_63 : ((.methodLink "SpaceCycles$Common" 35 ⟨"java/util/Arrays", "fill", "([IIII)V"⟩) : Cond) ∈ gl := gl_i 875 (by decide +kernel) (by decide +kernel)
theorem k_64 : ((.fieldLink "SpaceCycles$Common" 12 "SpaceCycles$Common" "columns" "LSpaceCycles$Strips;") : Cond) ∈ gl := gl_i 225 (by decide +kernel) (by decide +kernel)
theorem k_65 : ((.fieldLink "SpaceCycles$Common" 41 "SpaceCycles$Grid" "xs" "LSpaceCycles$Cuts;") : Cond) ∈ gl := gl_i 298 (by decide +kernel) (by decide +kernel)
theorem k_66 : ((.code ⟨"SpaceCycles$Strips", "find", "(LSpaceCycles$Cuts;LSpaceCycles$Cuts;)V"⟩ prog_10_method_2_code 7 none) : Cond) ∈ gl := gl_i 879 (by decide +kernel) (by decide +kernel)
theorem k_67 : ((.selects "SpaceCycles$Strips" ⟨"SpaceCycles$Strips", "find", "(LSpaceCycles$Cuts;LSpaceCycles$Cuts;)V"⟩ ⟨"SpaceCycles$Strips", "find", "(LSpaceCycles$Cuts;LSpaceCycles$Cuts;)V"⟩) : Cond) ∈ gl := gl_i 878 (by decide +kernel) (by decide +kernel)
theorem k_68 : ((.instanceMethod ⟨"SpaceCycles$Strips", "find", "(LSpaceCycles$Cuts;LSpaceCycles$Cuts;)V"⟩) : Cond) ∈ gl := gl_i 877 (by decide +kernel) (by decide +kernel)
theorem k_69 : ((.initialized "SpaceCycles$Strips") : Cond) ∈ gl := gl_i 7 (by decide +kernel) (by decide +kernel)
theorem k_70 : ((.methodLink "SpaceCycles$Common" 45 ⟨"SpaceCycles$Strips", "find", "(LSpaceCycles$Cuts;LSpaceCycles$Cuts;)V"⟩) : Cond) ∈ gl := gl_i 876 (by decide +kernel) (by decide +kernel)
theorem k_71 : ((.fieldLink "SpaceCycles$Common" 18 "SpaceCycles$Common" "rows" "LSpaceCycles$Strips;") : Cond) ∈ gl := gl_i 226 (by decide +kernel) (by decide +kernel)
theorem k_72 : ((.fieldLink "SpaceCycles$Common" 49 "SpaceCycles$Grid" "ys" "LSpaceCycles$Cuts;") : Cond) ∈ gl := gl_i 302 (by decide +kernel) (by decide +kernel)
theorem k_73 : ((.fieldLink "SpaceCycles$Common" 52 "SpaceCycles$Strips" "count" "I") : Cond) ∈ gl := gl_i 215 (by decide +kernel) (by decide +kernel)
theorem k_74 : ((.fieldLink "SpaceCycles$Common" 55 "SpaceCycles$Grid" "cells" "[I") : Cond) ∈ gl := gl_i 306 (by decide +kernel) (by decide +kernel)
theorem k_75 : ((.fieldLink "SpaceCycles$Common" 58 "SpaceCycles$Strips" "oldGap" "[I") : Cond) ∈ gl := gl_i 211 (by decide +kernel) (by decide +kernel)
theorem k_76 : ((.methodLink "SpaceCycles$Common" 61 ⟨"SpaceCycles$Grid", "cell", "(II)I"⟩) : Cond) ∈ gl := gl_i 882 (by decide +kernel) (by decide +kernel)
theorem k_77 : ((.fieldLink "SpaceCycles$Common" 65 "SpaceCycles$Strips" "newGap" "[I") : Cond) ∈ gl := gl_i 213 (by decide +kernel) (by decide +kernel)
theorem k_78 : ((.fieldLink "SpaceCycles$Common" 68 "SpaceCycles$Strips" "width" "[I") : Cond) ∈ gl := gl_i 209 (by decide +kernel) (by decide +kernel)
-- SpaceCycles$Common.find(LSpaceCycles$Grid;LSpaceCycles$Grid;)V
abbrev b_Co_find : ByteArray := prog_2_method_3_code
abbrev y_Co_find : MethodName := ⟨"SpaceCycles$Common", "find", "(LSpaceCycles$Grid;LSpaceCycles$Grid;)V"⟩
abbrev w_Co_find : List Cond := Cond.code y_Co_find b_Co_find 7 none :: gl
abbrev rm_Co_find : Room := { frames := 2, cells := 0, slots := 0, locals := 90 }
theorem d_Co_find_0 : decode b_Co_find 0 = .ok (.aload_n 0, 1) := by decide +kernel
theorem d_Co_find_1 : decode b_Co_find 1 = .ok (.getfield 25, 3) := by decide +kernel
theorem d_Co_find_4 : decode b_Co_find 4 = .ok (.ifCond .eq 4, 3) := by decide +kernel
theorem d_Co_find_7 : decode b_Co_find 7 = .ok (.return_, 1) := by decide +kernel
theorem d_Co_find_8 : decode b_Co_find 8 = .ok (.aload_n 0, 1) := by decide +kernel
theorem d_Co_find_9 : decode b_Co_find 9 = .ok (.iconst 1, 1) := by decide +kernel
theorem d_Co_find_10 : decode b_Co_find 10 = .ok (.putfield 25, 3) := by decide +kernel
theorem d_Co_find_13 : decode b_Co_find 13 = .ok (.aload_n 0, 1) := by decide +kernel
theorem d_Co_find_14 : decode b_Co_find 14 = .ok (.getfield 21, 3) := by decide +kernel
theorem d_Co_find_17 : decode b_Co_find 17 = .ok (.iconst 0, 1) := by decide +kernel
theorem d_Co_find_18 : decode b_Co_find 18 = .ok (.aload_n 1, 1) := by decide +kernel
theorem d_Co_find_19 : decode b_Co_find 19 = .ok (.getfield 29, 3) := by decide +kernel
theorem d_Co_find_22 : decode b_Co_find 22 = .ok (.bipush 81, 2) := by decide +kernel
theorem d_Co_find_24 : decode b_Co_find 24 = .ok (.imul, 1) := by decide +kernel
theorem d_Co_find_25 : decode b_Co_find 25 = .ok (.iconst 0, 1) := by decide +kernel
theorem d_Co_find_26 : decode b_Co_find 26 = .ok (.invokestatic 35, 3) := by decide +kernel
theorem d_Co_find_29 : decode b_Co_find 29 = .ok (.aload_n 0, 1) := by decide +kernel
theorem d_Co_find_30 : decode b_Co_find 30 = .ok (.getfield 12, 3) := by decide +kernel
theorem d_Co_find_33 : decode b_Co_find 33 = .ok (.aload_n 1, 1) := by decide +kernel
theorem d_Co_find_34 : decode b_Co_find 34 = .ok (.getfield 41, 3) := by decide +kernel
theorem d_Co_find_37 : decode b_Co_find 37 = .ok (.aload_n 2, 1) := by decide +kernel
theorem d_Co_find_38 : decode b_Co_find 38 = .ok (.getfield 41, 3) := by decide +kernel
theorem d_Co_find_41 : decode b_Co_find 41 = .ok (.invokevirtual 45, 3) := by decide +kernel
theorem d_Co_find_44 : decode b_Co_find 44 = .ok (.aload_n 0, 1) := by decide +kernel
theorem d_Co_find_45 : decode b_Co_find 45 = .ok (.getfield 18, 3) := by decide +kernel
theorem d_Co_find_48 : decode b_Co_find 48 = .ok (.aload_n 1, 1) := by decide +kernel
theorem d_Co_find_49 : decode b_Co_find 49 = .ok (.getfield 49, 3) := by decide +kernel
theorem d_Co_find_52 : decode b_Co_find 52 = .ok (.aload_n 2, 1) := by decide +kernel
theorem d_Co_find_53 : decode b_Co_find 53 = .ok (.getfield 49, 3) := by decide +kernel
theorem d_Co_find_56 : decode b_Co_find 56 = .ok (.invokevirtual 45, 3) := by decide +kernel
theorem d_Co_find_59 : decode b_Co_find 59 = .ok (.iconst 0, 1) := by decide +kernel
theorem d_Co_find_60 : decode b_Co_find 60 = .ok (.istore_n 3, 1) := by decide +kernel
theorem d_Co_find_61 : decode b_Co_find 61 = .ok (.iload_n 3, 1) := by decide +kernel
theorem d_Co_find_62 : decode b_Co_find 62 = .ok (.aload_n 0, 1) := by decide +kernel
theorem d_Co_find_63 : decode b_Co_find 63 = .ok (.getfield 12, 3) := by decide +kernel
theorem d_Co_find_66 : decode b_Co_find 66 = .ok (.getfield 52, 3) := by decide +kernel
theorem d_Co_find_69 : decode b_Co_find 69 = .ok (.if_icmp .ge 134, 3) := by decide +kernel
theorem d_Co_find_72 : decode b_Co_find 72 = .ok (.iconst 0, 1) := by decide +kernel
theorem d_Co_find_73 : decode b_Co_find 73 = .ok (.istore 4, 2) := by decide +kernel
theorem d_Co_find_75 : decode b_Co_find 75 = .ok (.iload 4, 2) := by decide +kernel
theorem d_Co_find_77 : decode b_Co_find 77 = .ok (.aload_n 0, 1) := by decide +kernel
theorem d_Co_find_78 : decode b_Co_find 78 = .ok (.getfield 18, 3) := by decide +kernel
theorem d_Co_find_81 : decode b_Co_find 81 = .ok (.getfield 52, 3) := by decide +kernel
theorem d_Co_find_84 : decode b_Co_find 84 = .ok (.if_icmp .ge 113, 3) := by decide +kernel
theorem d_Co_find_87 : decode b_Co_find 87 = .ok (.aload_n 1, 1) := by decide +kernel
theorem d_Co_find_88 : decode b_Co_find 88 = .ok (.getfield 55, 3) := by decide +kernel
theorem d_Co_find_91 : decode b_Co_find 91 = .ok (.aload_n 0, 1) := by decide +kernel
theorem d_Co_find_92 : decode b_Co_find 92 = .ok (.getfield 12, 3) := by decide +kernel
theorem d_Co_find_95 : decode b_Co_find 95 = .ok (.getfield 58, 3) := by decide +kernel
theorem d_Co_find_98 : decode b_Co_find 98 = .ok (.iload_n 3, 1) := by decide +kernel
theorem d_Co_find_99 : decode b_Co_find 99 = .ok (.iaload, 1) := by decide +kernel
theorem d_Co_find_100 : decode b_Co_find 100 = .ok (.aload_n 0, 1) := by decide +kernel
theorem d_Co_find_101 : decode b_Co_find 101 = .ok (.getfield 18, 3) := by decide +kernel
theorem d_Co_find_104 : decode b_Co_find 104 = .ok (.getfield 58, 3) := by decide +kernel
theorem d_Co_find_107 : decode b_Co_find 107 = .ok (.iload 4, 2) := by decide +kernel
theorem d_Co_find_109 : decode b_Co_find 109 = .ok (.iaload, 1) := by decide +kernel
theorem d_Co_find_110 : decode b_Co_find 110 = .ok (.invokestatic 61, 3) := by decide +kernel
theorem d_Co_find_113 : decode b_Co_find 113 = .ok (.iaload, 1) := by decide +kernel
theorem d_Co_find_114 : decode b_Co_find 114 = .ok (.istore 5, 2) := by decide +kernel
theorem d_Co_find_116 : decode b_Co_find 116 = .ok (.aload_n 2, 1) := by decide +kernel
theorem d_Co_find_117 : decode b_Co_find 117 = .ok (.getfield 55, 3) := by decide +kernel
theorem d_Co_find_120 : decode b_Co_find 120 = .ok (.aload_n 0, 1) := by decide +kernel
theorem d_Co_find_121 : decode b_Co_find 121 = .ok (.getfield 12, 3) := by decide +kernel
theorem d_Co_find_124 : decode b_Co_find 124 = .ok (.getfield 65, 3) := by decide +kernel
theorem d_Co_find_127 : decode b_Co_find 127 = .ok (.iload_n 3, 1) := by decide +kernel
theorem d_Co_find_128 : decode b_Co_find 128 = .ok (.iaload, 1) := by decide +kernel
theorem d_Co_find_129 : decode b_Co_find 129 = .ok (.aload_n 0, 1) := by decide +kernel
theorem d_Co_find_130 : decode b_Co_find 130 = .ok (.getfield 18, 3) := by decide +kernel
theorem d_Co_find_133 : decode b_Co_find 133 = .ok (.getfield 65, 3) := by decide +kernel
theorem d_Co_find_136 : decode b_Co_find 136 = .ok (.iload 4, 2) := by decide +kernel
theorem d_Co_find_138 : decode b_Co_find 138 = .ok (.iaload, 1) := by decide +kernel
theorem d_Co_find_139 : decode b_Co_find 139 = .ok (.invokestatic 61, 3) := by decide +kernel
theorem d_Co_find_142 : decode b_Co_find 142 = .ok (.iaload, 1) := by decide +kernel
theorem d_Co_find_143 : decode b_Co_find 143 = .ok (.istore 6, 2) := by decide +kernel
theorem d_Co_find_145 : decode b_Co_find 145 = .ok (.iload 5, 2) := by decide +kernel
theorem d_Co_find_147 : decode b_Co_find 147 = .ok (.ifCond .lt 44, 3) := by decide +kernel
theorem d_Co_find_150 : decode b_Co_find 150 = .ok (.iload 6, 2) := by decide +kernel
theorem d_Co_find_152 : decode b_Co_find 152 = .ok (.ifCond .lt 39, 3) := by decide +kernel
theorem d_Co_find_155 : decode b_Co_find 155 = .ok (.aload_n 0, 1) := by decide +kernel
theorem d_Co_find_156 : decode b_Co_find 156 = .ok (.getfield 21, 3) := by decide +kernel
theorem d_Co_find_159 : decode b_Co_find 159 = .ok (.iload 5, 2) := by decide +kernel
theorem d_Co_find_161 : decode b_Co_find 161 = .ok (.bipush 81, 2) := by decide +kernel
theorem d_Co_find_163 : decode b_Co_find 163 = .ok (.imul, 1) := by decide +kernel
theorem d_Co_find_164 : decode b_Co_find 164 = .ok (.iload 6, 2) := by decide +kernel
theorem d_Co_find_166 : decode b_Co_find 166 = .ok (.iadd, 1) := by decide +kernel
theorem d_Co_find_167 : decode b_Co_find 167 = .ok (.dup2, 1) := by decide +kernel
theorem d_Co_find_168 : decode b_Co_find 168 = .ok (.iaload, 1) := by decide +kernel
theorem d_Co_find_169 : decode b_Co_find 169 = .ok (.aload_n 0, 1) := by decide +kernel
theorem d_Co_find_170 : decode b_Co_find 170 = .ok (.getfield 12, 3) := by decide +kernel
theorem d_Co_find_173 : decode b_Co_find 173 = .ok (.getfield 68, 3) := by decide +kernel
theorem d_Co_find_176 : decode b_Co_find 176 = .ok (.iload_n 3, 1) := by decide +kernel
theorem d_Co_find_177 : decode b_Co_find 177 = .ok (.iaload, 1) := by decide +kernel
theorem d_Co_find_178 : decode b_Co_find 178 = .ok (.aload_n 0, 1) := by decide +kernel
theorem d_Co_find_179 : decode b_Co_find 179 = .ok (.getfield 18, 3) := by decide +kernel
theorem d_Co_find_182 : decode b_Co_find 182 = .ok (.getfield 68, 3) := by decide +kernel
theorem d_Co_find_185 : decode b_Co_find 185 = .ok (.iload 4, 2) := by decide +kernel
theorem d_Co_find_187 : decode b_Co_find 187 = .ok (.iaload, 1) := by decide +kernel
theorem d_Co_find_188 : decode b_Co_find 188 = .ok (.imul, 1) := by decide +kernel
theorem d_Co_find_189 : decode b_Co_find 189 = .ok (.iadd, 1) := by decide +kernel
theorem d_Co_find_190 : decode b_Co_find 190 = .ok (.iastore, 1) := by decide +kernel
theorem d_Co_find_191 : decode b_Co_find 191 = .ok (.iinc 4 1, 3) := by decide +kernel
theorem d_Co_find_194 : decode b_Co_find 194 = .ok (.goto (-119), 3) := by decide +kernel
theorem d_Co_find_197 : decode b_Co_find 197 = .ok (.iinc 3 1, 3) := by decide +kernel
theorem d_Co_find_200 : decode b_Co_find 200 = .ok (.goto (-139), 3) := by decide +kernel
theorem d_Co_find_203 : decode b_Co_find 203 = .ok (.return_, 1) := by decide +kernel
abbrev wl_Co_find (a_0 : Nat) (a_0_columns : Nat) (a_0_columns_width : Nat) (a_0_columns_oldGap : Nat) (a_0_columns_newGap : Nat) (a_0_rows : Nat) (a_0_rows_width : Nat) (a_0_rows_oldGap : Nat) (a_0_rows_newGap : Nat) (a_0_areas : Nat) (a_1 : Nat) (a_1_xs : Nat) (a_1_xs_places : Nat) (a_1_ys : Nat) (a_1_ys_places : Nat) (a_1_cells : Nat) (a_2 : Nat) (a_2_xs : Nat) (a_2_xs_places : Nat) (a_2_ys : Nat) (a_2_ys_places : Nat) (a_2_cells : Nat) (cI : ClassId) (v_0_known : Int32) (v_0_columns_count : Int32) (f_0_columns_width : Nat → Int32) (f_0_columns_oldGap : Nat → Int32) (f_0_columns_newGap : Nat → Int32) (v_0_rows_count : Int32) (f_0_rows_width : Nat → Int32) (f_0_rows_oldGap : Nat → Int32) (f_0_rows_newGap : Nat → Int32) (f_0_areas : Nat → Int32) (v_1_spaces : Int32) (v_1_xs_count : Int32) (f_1_xs_places : Nat → Int32) (v_1_ys_count : Int32) (f_1_ys_places : Nat → Int32) (f_1_cells : Nat → Int32) (v_2_spaces : Int32) (v_2_xs_count : Int32) (f_2_xs_places : Nat → Int32) (v_2_ys_count : Int32) (f_2_ys_places : Nat → Int32) (f_2_cells : Nat → Int32) : va_W := [(a_0, .inr (5, [.ref a_0_columns, .ref a_0_rows, .ref a_0_areas, .int v_0_known])), (a_0_columns, .inr (10, [.ref a_0_columns_width, .ref a_0_columns_oldGap, .ref a_0_columns_newGap, .int v_0_columns_count])), (a_0_columns_width, .inl (cI, 80, .inl f_0_columns_width)), (a_0_columns_oldGap, .inl (cI, 80, .inl f_0_columns_oldGap)), (a_0_columns_newGap, .inl (cI, 80, .inl f_0_columns_newGap)), (a_0_rows, .inr (10, [.ref a_0_rows_width, .ref a_0_rows_oldGap, .ref a_0_rows_newGap, .int v_0_rows_count])), (a_0_rows_width, .inl (cI, 80, .inl f_0_rows_width)), (a_0_rows_oldGap, .inl (cI, 80, .inl f_0_rows_oldGap)), (a_0_rows_newGap, .inl (cI, 80, .inl f_0_rows_newGap)), (a_0_areas, .inl (cI, 6561, .inl f_0_areas)), (a_1, .inr (8, [.ref a_1_xs, .ref a_1_ys, .ref a_1_cells, .int v_1_spaces])), (a_1_xs, .inr (9, [.ref a_1_xs_places, .int v_1_xs_count])), (a_1_xs_places, .inl (cI, 40, .inl f_1_xs_places)), (a_1_ys, .inr (9, [.ref a_1_ys_places, .int v_1_ys_count])), (a_1_ys_places, .inl (cI, 40, .inl f_1_ys_places)), (a_1_cells, .inl (cI, 1681, .inl f_1_cells)), (a_2, .inr (8, [.ref a_2_xs, .ref a_2_ys, .ref a_2_cells, .int v_2_spaces])), (a_2_xs, .inr (9, [.ref a_2_xs_places, .int v_2_xs_count])), (a_2_xs_places, .inl (cI, 40, .inl f_2_xs_places)), (a_2_ys, .inr (9, [.ref a_2_ys_places, .int v_2_ys_count])), (a_2_ys_places, .inl (cI, 40, .inl f_2_ys_places)), (a_2_cells, .inl (cI, 1681, .inl f_2_cells))]
def m_Co_find_L75 (l3 : Int32) (f_0_columns_width : Nat → Int32) (f_0_columns_oldGap : Nat → Int32) (f_0_columns_newGap : Nat → Int32) (v_0_rows_count : Int32) (f_0_rows_width : Nat → Int32) (f_0_rows_oldGap : Nat → Int32) (f_0_rows_newGap : Nat → Int32) (f_1_cells : Nat → Int32) (f_2_cells : Nat → Int32) : Nat → Int32 → (Nat → Int32) → Option ((Nat → Int32))
  | 0, _, _ => none
  | n + 1, l4, f_0_areas =>
    if v_0_rows_count ≤ l4 then (
      some f_0_areas)
    else (
      gI l3 80 <|
      gI l4 80 <|
      bd1 (m_Gr_cell (f_0_columns_oldGap l3.toNatClampNeg) (f_0_rows_oldGap l4.toNatClampNeg)) fun r18 =>
      gI r18 1681 <|
      lt_ (f_1_cells r18.toNatClampNeg) fun x21 =>
      gI l3 80 <|
      gI l4 80 <|
      bd1 (m_Gr_cell (f_0_columns_newGap l3.toNatClampNeg) (f_0_rows_newGap l4.toNatClampNeg)) fun r24 =>
      gI r24 1681 <|
      lt_ (f_2_cells r24.toNatClampNeg) fun x27 =>
      bd1 (
        if x21 < 0 then (
        some f_0_areas)
      else (
        if x27 < 0 then (
          some f_0_areas)
        else (
          gI ((x21 * 81) + x27) 6561 <|
          gI l3 80 <|
          gI l4 80 <|
          gI ((x21 * 81) + x27) 6561 <|
          lt_ (upd f_0_areas ((x21 * 81) + x27).toNatClampNeg ((f_0_areas ((x21 * 81) + x27).toNatClampNeg) + ((f_0_columns_width l3.toNatClampNeg) * (f_0_rows_width l4.toNatClampNeg)))) fun f38 =>
          some f38)))
      fun (f31 : Nat → Int32) =>
      lt_ (l4 + 1) fun x39 =>
        m_Co_find_L75 l3 f_0_columns_width f_0_columns_oldGap f_0_columns_newGap v_0_rows_count f_0_rows_width f_0_rows_oldGap f_0_rows_newGap f_1_cells f_2_cells n x39 f31)

def m_Co_find_L61 (v_0_columns_count : Int32) (f_0_columns_width : Nat → Int32) (f_0_columns_oldGap : Nat → Int32) (f_0_columns_newGap : Nat → Int32) (v_0_rows_count : Int32) (f_0_rows_width : Nat → Int32) (f_0_rows_oldGap : Nat → Int32) (f_0_rows_newGap : Nat → Int32) (f_1_cells : Nat → Int32) (f_2_cells : Nat → Int32) : Nat → Int32 → (Nat → Int32) → Option ((Nat → Int32))
  | 0, _, _ => none
  | n + 1, l3, f_0_areas =>
    if v_0_columns_count ≤ l3 then (
      some f_0_areas)
    else (
      bd1 (m_Co_find_L75 l3 f_0_columns_width f_0_columns_oldGap f_0_columns_newGap v_0_rows_count f_0_rows_width f_0_rows_oldGap f_0_rows_newGap f_1_cells f_2_cells fu 0 f_0_areas) fun f17 =>
      lt_ (l3 + 1) fun x45 =>
      m_Co_find_L61 v_0_columns_count f_0_columns_width f_0_columns_oldGap f_0_columns_newGap v_0_rows_count f_0_rows_width f_0_rows_oldGap f_0_rows_newGap f_1_cells f_2_cells n x45 f17)
def m_Co_find (v_0_known : Int32) (v_0_columns_count : Int32) (f_0_columns_width : Nat → Int32) (f_0_columns_oldGap : Nat → Int32) (f_0_columns_newGap : Nat → Int32) (v_0_rows_count : Int32) (f_0_rows_width : Nat → Int32) (f_0_rows_oldGap : Nat → Int32) (f_0_rows_newGap : Nat → Int32) (f_0_areas : Nat → Int32) (v_1_spaces : Int32) (v_1_xs_count : Int32) (f_1_xs_places : Nat → Int32) (v_1_ys_count : Int32) (f_1_ys_places : Nat → Int32) (f_1_cells : Nat → Int32) (v_2_xs_count : Int32) (f_2_xs_places : Nat → Int32) (v_2_ys_count : Int32) (f_2_ys_places : Nat → Int32) (f_2_cells : Nat → Int32) : Option ((Int32) × (Int32) × (Nat → Int32) × (Nat → Int32) × (Nat → Int32) × (Int32) × (Nat → Int32) × (Nat → Int32) × (Nat → Int32) × (Nat → Int32)) :=
  if v_0_known = 0 then (
    bd1 (m_Ar_fill1 6561 0 (v_1_spaces * 81) 0 f_0_areas) fun f2 =>
    bd4 (m_St_find v_0_columns_count f_0_columns_width f_0_columns_oldGap f_0_columns_newGap v_1_xs_count f_1_xs_places v_2_xs_count f_2_xs_places) fun x4 f5 f6 f7 =>
    bd4 (m_St_find v_0_rows_count f_0_rows_width f_0_rows_oldGap f_0_rows_newGap v_1_ys_count f_1_ys_places v_2_ys_count f_2_ys_places) fun x9 f10 f11 f12 =>
    bd1 (m_Co_find_L61 x4 f5 f6 f7 x9 f10 f11 f12 f_1_cells f_2_cells fu 0 f2) fun f16 =>
    some (1, x4, f5, f6, f7, x9, f10, f11, f12, f16))
  else (
    some (v_0_known, v_0_columns_count, f_0_columns_width, f_0_columns_oldGap, f_0_columns_newGap, v_0_rows_count, f_0_rows_width, f_0_rows_oldGap, f_0_rows_newGap, f_0_areas))

set_option maxHeartbeats 4000000 in
set_option maxRecDepth 100000 in
theorem t_Co_find {p : Program} {l : Launch} {e : Env} {s : State} {m : MethodId} {args : Array Value} {below : List Frame} {meth : Method} {c : Code} {A : Nat → Prop} {Q : State → Prop} {dC : Nat → ClassId} {dI : Nat → Nat → Nat} {cI cZ cJ : ClassId} (a_0 a_0_columns a_0_columns_width a_0_columns_oldGap a_0_columns_newGap a_0_rows a_0_rows_width a_0_rows_oldGap a_0_rows_newGap a_0_areas a_1 a_1_xs a_1_xs_places a_1_ys a_1_ys_places a_1_cells a_2 a_2_xs a_2_xs_places a_2_ys a_2_ys_places a_2_cells : Nat) (v_0_known : Int32) (v_0_columns_count : Int32) (f_0_columns_width : Nat → Int32) (f_0_columns_oldGap : Nat → Int32) (f_0_columns_newGap : Nat → Int32) (v_0_rows_count : Int32) (f_0_rows_width : Nat → Int32) (f_0_rows_oldGap : Nat → Int32) (f_0_rows_newGap : Nat → Int32) (f_0_areas : Nat → Int32) (v_1_spaces : Int32) (v_1_xs_count : Int32) (f_1_xs_places : Nat → Int32) (v_1_ys_count : Int32) (f_1_ys_places : Nat → Int32) (f_1_cells : Nat → Int32) (v_2_spaces : Int32) (v_2_xs_count : Int32) (f_2_xs_places : Nat → Int32) (v_2_ys_count : Int32) (f_2_ys_places : Nat → Int32) (f_2_cells : Nat → Int32)  (ov_0_known : Int32) (ov_0_columns_count : Int32) (of_0_columns_width : Nat → Int32) (of_0_columns_oldGap : Nat → Int32) (of_0_columns_newGap : Nat → Int32) (ov_0_rows_count : Int32) (of_0_rows_width : Nat → Int32) (of_0_rows_oldGap : Nat → Int32) (of_0_rows_newGap : Nat → Int32) (of_0_areas : Nat → Int32) (hx : p.tables.exec = Jvm.exec) (hb : c.code = b_Co_find) (hml : c.maxLocals = 7) (hown : s.vm.findClass "SpaceCycles$Common" = some m.cls) (hts : ∀ w ∈ w_Co_find, w.before args s = true) (hK : va_K (dC, dI) vwCl [(cI, .int), (cZ, .boolean), (cJ, .long)] s) (hN : NX s) (hA : ∀ q : Nat, s.heap.size ≤ q → A q)
    (hret : ∀ (pc : Nat) (H : Heap) (locs : List Loc) (ls : Array Slot), decode b_Co_find pc = .ok (.return_, 1) → va_P (dC, dI) vwCl (wl_Co_find a_0 a_0_columns a_0_columns_width a_0_columns_oldGap a_0_columns_newGap a_0_rows a_0_rows_width a_0_rows_oldGap a_0_rows_newGap a_0_areas a_1 a_1_xs a_1_xs_places a_1_ys a_1_ys_places a_1_cells a_2 a_2_xs a_2_xs_places a_2_ys a_2_ys_places a_2_cells cI ov_0_known ov_0_columns_count of_0_columns_width of_0_columns_oldGap of_0_columns_newGap ov_0_rows_count of_0_rows_width of_0_rows_oldGap of_0_rows_newGap of_0_areas v_1_spaces v_1_xs_count f_1_xs_places v_1_ys_count f_1_ys_places f_1_cells v_2_spaces v_2_xs_count f_2_xs_places v_2_ys_count f_2_ys_places f_2_cells) H → va_D A (wl_Co_find a_0 a_0_columns a_0_columns_width a_0_columns_oldGap a_0_columns_newGap a_0_rows a_0_rows_width a_0_rows_oldGap a_0_rows_newGap a_0_areas a_1 a_1_xs a_1_xs_places a_1_ys a_1_ys_places a_1_cells a_2 a_2_xs a_2_xs_places a_2_ys a_2_ys_places a_2_cells cI ov_0_known ov_0_columns_count of_0_columns_width of_0_columns_oldGap of_0_columns_newGap ov_0_rows_count of_0_rows_width of_0_rows_oldGap of_0_rows_newGap of_0_areas v_1_spaces v_1_xs_count f_1_xs_places v_1_ys_count f_1_ys_places f_1_cells v_2_spaces v_2_xs_count f_2_xs_places v_2_ys_count f_2_ys_places f_2_cells) → va_S A s.heap H locs → W p l e rm_Co_find s m args below meth c H locs 0 0 Q (F0 m pc ls []))
    (hm : m_Co_find v_0_known v_0_columns_count f_0_columns_width f_0_columns_oldGap f_0_columns_newGap v_0_rows_count f_0_rows_width f_0_rows_oldGap f_0_rows_newGap f_0_areas v_1_spaces v_1_xs_count f_1_xs_places v_1_ys_count f_1_ys_places f_1_cells v_2_xs_count f_2_xs_places v_2_ys_count f_2_ys_places f_2_cells = some (ov_0_known, ov_0_columns_count, of_0_columns_width, of_0_columns_oldGap, of_0_columns_newGap, ov_0_rows_count, of_0_rows_width, of_0_rows_oldGap, of_0_rows_newGap, of_0_areas)) : ∀ (H : Heap) (locs : List Loc) (ls : Array Slot), va_P (dC, dI) vwCl (wl_Co_find a_0 a_0_columns a_0_columns_width a_0_columns_oldGap a_0_columns_newGap a_0_rows a_0_rows_width a_0_rows_oldGap a_0_rows_newGap a_0_areas a_1 a_1_xs a_1_xs_places a_1_ys a_1_ys_places a_1_cells a_2 a_2_xs a_2_xs_places a_2_ys a_2_ys_places a_2_cells cI v_0_known v_0_columns_count f_0_columns_width f_0_columns_oldGap f_0_columns_newGap v_0_rows_count f_0_rows_width f_0_rows_oldGap f_0_rows_newGap f_0_areas v_1_spaces v_1_xs_count f_1_xs_places v_1_ys_count f_1_ys_places f_1_cells v_2_spaces v_2_xs_count f_2_xs_places v_2_ys_count f_2_ys_places f_2_cells) H → va_D A (wl_Co_find a_0 a_0_columns a_0_columns_width a_0_columns_oldGap a_0_columns_newGap a_0_rows a_0_rows_width a_0_rows_oldGap a_0_rows_newGap a_0_areas a_1 a_1_xs a_1_xs_places a_1_ys a_1_ys_places a_1_cells a_2 a_2_xs a_2_xs_places a_2_ys a_2_ys_places a_2_cells cI v_0_known v_0_columns_count f_0_columns_width f_0_columns_oldGap f_0_columns_newGap v_0_rows_count f_0_rows_width f_0_rows_oldGap f_0_rows_newGap f_0_areas v_1_spaces v_1_xs_count f_1_xs_places v_1_ys_count f_1_ys_places f_1_cells v_2_spaces v_2_xs_count f_2_xs_places v_2_ys_count f_2_ys_places f_2_cells) → va_S A s.heap H locs → lv_has ls 7 [(0, .ref a_0), (1, .ref a_1), (2, .ref a_2)] → W p l e rm_Co_find s m args below meth c H locs 0 0 Q (F0 m 0 ls []) := by
  intro H locs ls hP hD hS hl
  unfold m_Co_find at hm
  refine lv_aload_n hx hb d_Co_find_0 rfl (lv_at hl 0 rfl) ?_
  refine va_get (D := (dC, dI)) (ci := 5) (v := .int v_0_known) (C := "SpaceCycles$Common") (T := F_Co) (N := 4) hx hb hts (in_F i_Co) hown hK hP 0 rfl rfl 3 (by decide) (hts _ (in_c k_58)) (fun _ h9 => h9) rfl d_Co_find_1 ?_
  refine lv_if_eq (tgt := 8) hx hb d_Co_find_4 (by decide) (fun c1 => ?_) (fun c1 => ?_)
  · replace hm := if_t hm c1
    refine lv_aload_n hx hb d_Co_find_8 rfl (lv_at hl 0 rfl) ?_
    refine lv_iconst (v := 1) hx hb d_Co_find_9 (by decide) ?_
    refine va_put (D := (dC, dI)) (ci := 5) (v := .int 1) (ty := .boolean) (C := "SpaceCycles$Common") (T := F_Co) (N := 4) hx hb hts (in_F i_Co) t_Co t_Co_ok n_Co hown hK hP hD hS 0 rfl rfl 3 (by decide) (hts _ (in_c k_58)) (fun _ h9 => h9) rfl (by decide +kernel) rfl rfl (Nat.le_of_ble_eq_true rfl) d_Co_find_10 (fun H locs hP hD hS => ?_)
    have hP : va_P (dC, dI) vwCl (wl_Co_find a_0 a_0_columns a_0_columns_width a_0_columns_oldGap a_0_columns_newGap a_0_rows a_0_rows_width a_0_rows_oldGap a_0_rows_newGap a_0_areas a_1 a_1_xs a_1_xs_places a_1_ys a_1_ys_places a_1_cells a_2 a_2_xs a_2_xs_places a_2_ys a_2_ys_places a_2_cells cI 1 v_0_columns_count f_0_columns_width f_0_columns_oldGap f_0_columns_newGap v_0_rows_count f_0_rows_width f_0_rows_oldGap f_0_rows_newGap f_0_areas v_1_spaces v_1_xs_count f_1_xs_places v_1_ys_count f_1_ys_places f_1_cells v_2_spaces v_2_xs_count f_2_xs_places v_2_ys_count f_2_ys_places f_2_cells) H := hP
    have hD : va_D A (wl_Co_find a_0 a_0_columns a_0_columns_width a_0_columns_oldGap a_0_columns_newGap a_0_rows a_0_rows_width a_0_rows_oldGap a_0_rows_newGap a_0_areas a_1 a_1_xs a_1_xs_places a_1_ys a_1_ys_places a_1_cells a_2 a_2_xs a_2_xs_places a_2_ys a_2_ys_places a_2_cells cI 1 v_0_columns_count f_0_columns_width f_0_columns_oldGap f_0_columns_newGap v_0_rows_count f_0_rows_width f_0_rows_oldGap f_0_rows_newGap f_0_areas v_1_spaces v_1_xs_count f_1_xs_places v_1_ys_count f_1_ys_places f_1_cells v_2_spaces v_2_xs_count f_2_xs_places v_2_ys_count f_2_ys_places f_2_cells) := hD
    refine lv_aload_n hx hb d_Co_find_13 rfl (lv_at hl 0 rfl) ?_
    refine va_get (D := (dC, dI)) (ci := 5) (v := .ref a_0_areas) (C := "SpaceCycles$Common") (T := F_Co) (N := 4) hx hb hts (in_F i_Co) hown hK hP 0 rfl rfl 2 (by decide) (hts _ (in_c k_59)) (fun _ h9 => h9) rfl d_Co_find_14 ?_
    refine lv_iconst (v := 0) hx hb d_Co_find_17 (by decide) ?_
    refine lv_aload_n hx hb d_Co_find_18 rfl (lv_at hl 1 rfl) ?_
    refine va_get (D := (dC, dI)) (ci := 8) (v := .int v_1_spaces) (C := "SpaceCycles$Grid") (T := F_Gr) (N := 4) hx hb hts (in_F i_Gr) hown hK hP 10 rfl rfl 3 (by decide) (hts _ (in_c k_60)) (fun _ h9 => h9) rfl d_Co_find_19 ?_
    refine lv_bipush (v := 81) hx hb d_Co_find_22 (by decide) ?_
    refine lv_imul hx hb d_Co_find_24 ?_
    refine lv_iconst (v := 0) hx hb d_Co_find_25 (by decide) ?_
    obtain ⟨f2, hb3, hm⟩ := bd1_e hm
    have hPc := hP.sub (ws' := (wl_Ar_fill1 a_0_areas cI 6561 f_0_areas)) [9] rfl
    have hDc := hD.sub (ws' := (wl_Ar_fill1 a_0_areas cI 6561 f_0_areas)) [9] (by decide) rfl
    refine cl_v (wc' := (wl_Ar_fill1 a_0_areas cI 6561 f2)) (va_runS (As := [.ref a_0_areas, .int 0, .int (v_1_spaces * 81), .int 0]) (rest := []) ⟨hx, hb, hml, hown, hts⟩ (c_Ar_fill1 l dC dI (cI := cI) (cZ := cZ) (cJ := cJ) a_0_areas H.size 6561 f_0_areas 0 (v_1_spaces * 81) 0 f2 hb3) (va_cwS 4 hts (gl_S k_63 k_62 k_2 k_61) rfl rfl rfl (by decide +kernel) ⟨Nat.le_of_ble_eq_true rfl, Nat.le_of_ble_eq_true rfl⟩) ⟨PP_blind, fun U hU hW => PP_at hK hN hPc hDc hU hW⟩ rfl rfl hl.1 rfl (lv_room (Nat.le_of_ble_eq_true rfl)) d_Co_find_26 ⟨Nat.zero_le _, Nat.zero_le _⟩) hP hD hS hA [9] [0, 1, 2, 3, 4, 5, 6, 7, 8, 10, 11, 12, 13, 14, 15, 16, 17, 18, 19, 20, 21] rfl rfl (by decide) (by decide) (fun H locs hP hD hS => ?_)
    have hP : va_P (dC, dI) vwCl (wl_Co_find a_0 a_0_columns a_0_columns_width a_0_columns_oldGap a_0_columns_newGap a_0_rows a_0_rows_width a_0_rows_oldGap a_0_rows_newGap a_0_areas a_1 a_1_xs a_1_xs_places a_1_ys a_1_ys_places a_1_cells a_2 a_2_xs a_2_xs_places a_2_ys a_2_ys_places a_2_cells cI 1 v_0_columns_count f_0_columns_width f_0_columns_oldGap f_0_columns_newGap v_0_rows_count f_0_rows_width f_0_rows_oldGap f_0_rows_newGap f2 v_1_spaces v_1_xs_count f_1_xs_places v_1_ys_count f_1_ys_places f_1_cells v_2_spaces v_2_xs_count f_2_xs_places v_2_ys_count f_2_ys_places f_2_cells) H := hP.sub [0, 1, 2, 3, 4, 5, 6, 7, 8, 21, 9, 10, 11, 12, 13, 14, 15, 16, 17, 18, 19, 20] rfl
    have hD : va_D A (wl_Co_find a_0 a_0_columns a_0_columns_width a_0_columns_oldGap a_0_columns_newGap a_0_rows a_0_rows_width a_0_rows_oldGap a_0_rows_newGap a_0_areas a_1 a_1_xs a_1_xs_places a_1_ys a_1_ys_places a_1_cells a_2 a_2_xs a_2_xs_places a_2_ys a_2_ys_places a_2_cells cI 1 v_0_columns_count f_0_columns_width f_0_columns_oldGap f_0_columns_newGap v_0_rows_count f_0_rows_width f_0_rows_oldGap f_0_rows_newGap f2 v_1_spaces v_1_xs_count f_1_xs_places v_1_ys_count f_1_ys_places f_1_cells v_2_spaces v_2_xs_count f_2_xs_places v_2_ys_count f_2_ys_places f_2_cells) := hD.sub [0, 1, 2, 3, 4, 5, 6, 7, 8, 21, 9, 10, 11, 12, 13, 14, 15, 16, 17, 18, 19, 20] (by decide) rfl
    refine lv_aload_n hx hb d_Co_find_29 rfl (lv_at hl 0 rfl) ?_
    refine va_get (D := (dC, dI)) (ci := 5) (v := .ref a_0_columns) (C := "SpaceCycles$Common") (T := F_Co) (N := 4) hx hb hts (in_F i_Co) hown hK hP 0 rfl rfl 0 (by decide) (hts _ (in_c k_64)) (fun _ h9 => h9) rfl d_Co_find_30 ?_
    refine lv_aload_n hx hb d_Co_find_33 rfl (lv_at hl 1 rfl) ?_
    refine va_get (D := (dC, dI)) (ci := 8) (v := .ref a_1_xs) (C := "SpaceCycles$Grid") (T := F_Gr) (N := 4) hx hb hts (in_F i_Gr) hown hK hP 10 rfl rfl 0 (by decide) (hts _ (in_c k_65)) (fun _ h9 => h9) rfl d_Co_find_34 ?_
    refine lv_aload_n hx hb d_Co_find_37 rfl (lv_at hl 2 rfl) ?_
    refine va_get (D := (dC, dI)) (ci := 8) (v := .ref a_2_xs) (C := "SpaceCycles$Grid") (T := F_Gr) (N := 4) hx hb hts (in_F i_Gr) hown hK hP 16 rfl rfl 0 (by decide) (hts _ (in_c k_65)) (fun _ h9 => h9) rfl d_Co_find_38 ?_
    obtain ⟨x4, f5, f6, f7, hb8, hm⟩ := bd4_e hm
    have hPc := hP.sub (ws' := (wl_St_find a_0_columns a_0_columns_width a_0_columns_oldGap a_0_columns_newGap a_1_xs a_1_xs_places a_2_xs a_2_xs_places cI v_0_columns_count f_0_columns_width f_0_columns_oldGap f_0_columns_newGap v_1_xs_count f_1_xs_places v_2_xs_count f_2_xs_places)) [1, 2, 3, 4, 11, 12, 17, 18] rfl
    have hDc := hD.sub (ws' := (wl_St_find a_0_columns a_0_columns_width a_0_columns_oldGap a_0_columns_newGap a_1_xs a_1_xs_places a_2_xs a_2_xs_places cI v_0_columns_count f_0_columns_width f_0_columns_oldGap f_0_columns_newGap v_1_xs_count f_1_xs_places v_2_xs_count f_2_xs_places)) [1, 2, 3, 4, 11, 12, 17, 18] (by decide) rfl
    refine cl_v (wc' := (wl_St_find a_0_columns a_0_columns_width a_0_columns_oldGap a_0_columns_newGap a_1_xs a_1_xs_places a_2_xs a_2_xs_places cI x4 f5 f6 f7 v_1_xs_count f_1_xs_places v_2_xs_count f_2_xs_places)) (va_runV (As := [.ref a_1_xs, .ref a_2_xs]) (rest := []) ⟨hx, hb, hml, hown, hts⟩ (c_St_find l dC dI (cI := cI) (cZ := cZ) (cJ := cJ) a_0_columns a_0_columns_width a_0_columns_oldGap a_0_columns_newGap a_1_xs a_1_xs_places a_2_xs a_2_xs_places H.size v_0_columns_count f_0_columns_width f_0_columns_oldGap f_0_columns_newGap v_1_xs_count f_1_xs_places v_2_xs_count f_2_xs_places x4 f5 f6 f7 hb8) (cwV 2 hts (gl_V k_70 k_68 k_67 k_69 k_66) rfl rfl rfl (by decide +kernel) ⟨Nat.le_of_ble_eq_true rfl, Nat.le_of_ble_eq_true rfl⟩) ⟨PP_blind, va_recv hK hPc (ci := 10) (q0 := 0) rfl rfl, fun U hU hW => PP_at hK hN hPc hDc hU hW⟩ rfl rfl hl.1 rfl (lv_room (Nat.le_of_ble_eq_true rfl)) d_Co_find_41 ⟨Nat.zero_le _, Nat.zero_le _⟩) hP hD hS hA [1, 2, 3, 4, 11, 12, 17, 18] [0, 5, 6, 7, 8, 9, 10, 13, 14, 15, 16, 19, 20, 21] rfl rfl (by decide) (by decide) (fun H locs hP hD hS => ?_)
    have hP : va_P (dC, dI) vwCl (wl_Co_find a_0 a_0_columns a_0_columns_width a_0_columns_oldGap a_0_columns_newGap a_0_rows a_0_rows_width a_0_rows_oldGap a_0_rows_newGap a_0_areas a_1 a_1_xs a_1_xs_places a_1_ys a_1_ys_places a_1_cells a_2 a_2_xs a_2_xs_places a_2_ys a_2_ys_places a_2_cells cI 1 x4 f5 f6 f7 v_0_rows_count f_0_rows_width f_0_rows_oldGap f_0_rows_newGap f2 v_1_spaces v_1_xs_count f_1_xs_places v_1_ys_count f_1_ys_places f_1_cells v_2_spaces v_2_xs_count f_2_xs_places v_2_ys_count f_2_ys_places f_2_cells) H := hP.sub [0, 14, 15, 16, 17, 1, 2, 3, 4, 5, 6, 18, 19, 7, 8, 9, 10, 20, 21, 11, 12, 13] rfl
    have hD : va_D A (wl_Co_find a_0 a_0_columns a_0_columns_width a_0_columns_oldGap a_0_columns_newGap a_0_rows a_0_rows_width a_0_rows_oldGap a_0_rows_newGap a_0_areas a_1 a_1_xs a_1_xs_places a_1_ys a_1_ys_places a_1_cells a_2 a_2_xs a_2_xs_places a_2_ys a_2_ys_places a_2_cells cI 1 x4 f5 f6 f7 v_0_rows_count f_0_rows_width f_0_rows_oldGap f_0_rows_newGap f2 v_1_spaces v_1_xs_count f_1_xs_places v_1_ys_count f_1_ys_places f_1_cells v_2_spaces v_2_xs_count f_2_xs_places v_2_ys_count f_2_ys_places f_2_cells) := hD.sub [0, 14, 15, 16, 17, 1, 2, 3, 4, 5, 6, 18, 19, 7, 8, 9, 10, 20, 21, 11, 12, 13] (by decide) rfl
    refine lv_aload_n hx hb d_Co_find_44 rfl (lv_at hl 0 rfl) ?_
    refine va_get (D := (dC, dI)) (ci := 5) (v := .ref a_0_rows) (C := "SpaceCycles$Common") (T := F_Co) (N := 4) hx hb hts (in_F i_Co) hown hK hP 0 rfl rfl 1 (by decide) (hts _ (in_c k_71)) (fun _ h9 => h9) rfl d_Co_find_45 ?_
    refine lv_aload_n hx hb d_Co_find_48 rfl (lv_at hl 1 rfl) ?_
    refine va_get (D := (dC, dI)) (ci := 8) (v := .ref a_1_ys) (C := "SpaceCycles$Grid") (T := F_Gr) (N := 4) hx hb hts (in_F i_Gr) hown hK hP 10 rfl rfl 1 (by decide) (hts _ (in_c k_72)) (fun _ h9 => h9) rfl d_Co_find_49 ?_
    refine lv_aload_n hx hb d_Co_find_52 rfl (lv_at hl 2 rfl) ?_
    refine va_get (D := (dC, dI)) (ci := 8) (v := .ref a_2_ys) (C := "SpaceCycles$Grid") (T := F_Gr) (N := 4) hx hb hts (in_F i_Gr) hown hK hP 16 rfl rfl 1 (by decide) (hts _ (in_c k_72)) (fun _ h9 => h9) rfl d_Co_find_53 ?_
    obtain ⟨x9, f10, f11, f12, hb13, hm⟩ := bd4_e hm
    have hPc := hP.sub (ws' := (wl_St_find a_0_rows a_0_rows_width a_0_rows_oldGap a_0_rows_newGap a_1_ys a_1_ys_places a_2_ys a_2_ys_places cI v_0_rows_count f_0_rows_width f_0_rows_oldGap f_0_rows_newGap v_1_ys_count f_1_ys_places v_2_ys_count f_2_ys_places)) [5, 6, 7, 8, 13, 14, 19, 20] rfl
    have hDc := hD.sub (ws' := (wl_St_find a_0_rows a_0_rows_width a_0_rows_oldGap a_0_rows_newGap a_1_ys a_1_ys_places a_2_ys a_2_ys_places cI v_0_rows_count f_0_rows_width f_0_rows_oldGap f_0_rows_newGap v_1_ys_count f_1_ys_places v_2_ys_count f_2_ys_places)) [5, 6, 7, 8, 13, 14, 19, 20] (by decide) rfl
    refine cl_v (wc' := (wl_St_find a_0_rows a_0_rows_width a_0_rows_oldGap a_0_rows_newGap a_1_ys a_1_ys_places a_2_ys a_2_ys_places cI x9 f10 f11 f12 v_1_ys_count f_1_ys_places v_2_ys_count f_2_ys_places)) (va_runV (As := [.ref a_1_ys, .ref a_2_ys]) (rest := []) ⟨hx, hb, hml, hown, hts⟩ (c_St_find l dC dI (cI := cI) (cZ := cZ) (cJ := cJ) a_0_rows a_0_rows_width a_0_rows_oldGap a_0_rows_newGap a_1_ys a_1_ys_places a_2_ys a_2_ys_places H.size v_0_rows_count f_0_rows_width f_0_rows_oldGap f_0_rows_newGap v_1_ys_count f_1_ys_places v_2_ys_count f_2_ys_places x9 f10 f11 f12 hb13) (cwV 2 hts (gl_V k_70 k_68 k_67 k_69 k_66) rfl rfl rfl (by decide +kernel) ⟨Nat.le_of_ble_eq_true rfl, Nat.le_of_ble_eq_true rfl⟩) ⟨PP_blind, va_recv hK hPc (ci := 10) (q0 := 0) rfl rfl, fun U hU hW => PP_at hK hN hPc hDc hU hW⟩ rfl rfl hl.1 rfl (lv_room (Nat.le_of_ble_eq_true rfl)) d_Co_find_56 ⟨Nat.zero_le _, Nat.zero_le _⟩) hP hD hS hA [5, 6, 7, 8, 13, 14, 19, 20] [0, 1, 2, 3, 4, 9, 10, 11, 12, 15, 16, 17, 18, 21] rfl rfl (by decide) (by decide) (fun H locs hP hD hS => ?_)
    have hP : va_P (dC, dI) vwCl (wl_Co_find a_0 a_0_columns a_0_columns_width a_0_columns_oldGap a_0_columns_newGap a_0_rows a_0_rows_width a_0_rows_oldGap a_0_rows_newGap a_0_areas a_1 a_1_xs a_1_xs_places a_1_ys a_1_ys_places a_1_cells a_2 a_2_xs a_2_xs_places a_2_ys a_2_ys_places a_2_cells cI 1 x4 f5 f6 f7 x9 f10 f11 f12 f2 v_1_spaces v_1_xs_count f_1_xs_places v_1_ys_count f_1_ys_places f_1_cells v_2_spaces v_2_xs_count f_2_xs_places v_2_ys_count f_2_ys_places f_2_cells) H := hP.sub [0, 1, 2, 3, 4, 14, 15, 16, 17, 5, 6, 7, 8, 18, 19, 9, 10, 11, 12, 20, 21, 13] rfl
    have hD : va_D A (wl_Co_find a_0 a_0_columns a_0_columns_width a_0_columns_oldGap a_0_columns_newGap a_0_rows a_0_rows_width a_0_rows_oldGap a_0_rows_newGap a_0_areas a_1 a_1_xs a_1_xs_places a_1_ys a_1_ys_places a_1_cells a_2 a_2_xs a_2_xs_places a_2_ys a_2_ys_places a_2_cells cI 1 x4 f5 f6 f7 x9 f10 f11 f12 f2 v_1_spaces v_1_xs_count f_1_xs_places v_1_ys_count f_1_ys_places f_1_cells v_2_spaces v_2_xs_count f_2_xs_places v_2_ys_count f_2_ys_places f_2_cells) := hD.sub [0, 1, 2, 3, 4, 14, 15, 16, 17, 5, 6, 7, 8, 18, 19, 9, 10, 11, 12, 20, 21, 13] (by decide) rfl
    refine lv_iconst (v := 0) hx hb d_Co_find_59 (by decide) ?_
    refine lv_istore_n (lv' := [(3, .int 0), (0, .ref a_0), (1, .ref a_1), (2, .ref a_2)]) hx hb d_Co_find_60 rfl hl (by decide) rfl (fun ls hl => ?_)
    have L61_17 : ∀ (n : Nat) (x14 : Int32) (f15 : Nat → Int32) (f16 : Nat → Int32), m_Co_find_L61 x4 f5 f6 f7 x9 f10 f11 f12 f_1_cells f_2_cells n x14 f15 = some f16 → (∀ (H : Heap) (locs : List Loc) (ls : Array Slot), va_P (dC, dI) vwCl (wl_Co_find a_0 a_0_columns a_0_columns_width a_0_columns_oldGap a_0_columns_newGap a_0_rows a_0_rows_width a_0_rows_oldGap a_0_rows_newGap a_0_areas a_1 a_1_xs a_1_xs_places a_1_ys a_1_ys_places a_1_cells a_2 a_2_xs a_2_xs_places a_2_ys a_2_ys_places a_2_cells cI 1 x4 f5 f6 f7 x9 f10 f11 f12 f16 v_1_spaces v_1_xs_count f_1_xs_places v_1_ys_count f_1_ys_places f_1_cells v_2_spaces v_2_xs_count f_2_xs_places v_2_ys_count f_2_ys_places f_2_cells) H → va_D A (wl_Co_find a_0 a_0_columns a_0_columns_width a_0_columns_oldGap a_0_columns_newGap a_0_rows a_0_rows_width a_0_rows_oldGap a_0_rows_newGap a_0_areas a_1 a_1_xs a_1_xs_places a_1_ys a_1_ys_places a_1_cells a_2 a_2_xs a_2_xs_places a_2_ys a_2_ys_places a_2_cells cI 1 x4 f5 f6 f7 x9 f10 f11 f12 f16 v_1_spaces v_1_xs_count f_1_xs_places v_1_ys_count f_1_ys_places f_1_cells v_2_spaces v_2_xs_count f_2_xs_places v_2_ys_count f_2_ys_places f_2_cells) → va_S A s.heap H locs → lv_has ls 7 [] → W p l e rm_Co_find s m args below meth c H locs 0 0 Q (F0 m 203 ls [])) → ∀ (H : Heap) (locs : List Loc) (ls : Array Slot), va_P (dC, dI) vwCl (wl_Co_find a_0 a_0_columns a_0_columns_width a_0_columns_oldGap a_0_columns_newGap a_0_rows a_0_rows_width a_0_rows_oldGap a_0_rows_newGap a_0_areas a_1 a_1_xs a_1_xs_places a_1_ys a_1_ys_places a_1_cells a_2 a_2_xs a_2_xs_places a_2_ys a_2_ys_places a_2_cells cI 1 x4 f5 f6 f7 x9 f10 f11 f12 f15 v_1_spaces v_1_xs_count f_1_xs_places v_1_ys_count f_1_ys_places f_1_cells v_2_spaces v_2_xs_count f_2_xs_places v_2_ys_count f_2_ys_places f_2_cells) H → va_D A (wl_Co_find a_0 a_0_columns a_0_columns_width a_0_columns_oldGap a_0_columns_newGap a_0_rows a_0_rows_width a_0_rows_oldGap a_0_rows_newGap a_0_areas a_1 a_1_xs a_1_xs_places a_1_ys a_1_ys_places a_1_cells a_2 a_2_xs a_2_xs_places a_2_ys a_2_ys_places a_2_cells cI 1 x4 f5 f6 f7 x9 f10 f11 f12 f15 v_1_spaces v_1_xs_count f_1_xs_places v_1_ys_count f_1_ys_places f_1_cells v_2_spaces v_2_xs_count f_2_xs_places v_2_ys_count f_2_ys_places f_2_cells) → va_S A s.heap H locs → lv_has ls 7 [(0, .ref a_0), (1, .ref a_1), (2, .ref a_2), (3, .int x14)] → W p l e rm_Co_find s m args below meth c H locs 0 0 Q (F0 m 61 ls []) := by
      intro n
      induction n with
      | zero => intro x14 f15 f16 hm; simp [m_Co_find_L61] at hm
      | succ n ih =>
        intro x14 f15 f16 hm KE H locs ls hP hD hS hl
        rw [m_Co_find_L61] at hm
        refine lv_iload_n hx hb d_Co_find_61 rfl (lv_at hl 3 rfl) ?_
        refine lv_aload_n hx hb d_Co_find_62 rfl (lv_at hl 0 rfl) ?_
        refine va_get (D := (dC, dI)) (ci := 5) (v := .ref a_0_columns) (C := "SpaceCycles$Common") (T := F_Co) (N := 4) hx hb hts (in_F i_Co) hown hK hP 0 rfl rfl 0 (by decide) (hts _ (in_c k_64)) (fun _ h9 => h9) rfl d_Co_find_63 ?_
        refine va_get (D := (dC, dI)) (ci := 10) (v := .int x4) (C := "SpaceCycles$Strips") (T := F_St) (N := 4) hx hb hts (in_F i_St) hown hK hP 1 rfl rfl 3 (by decide) (hts _ (in_c k_73)) (fun _ h9 => h9) rfl d_Co_find_66 ?_
        refine lv_icmp_ge (tgt := 203) hx hb d_Co_find_69 (by decide) (fun c18 => ?_) (fun c18 => ?_)
        · replace hm := if_t hm c18
          cases hm
          exact KE H locs ls hP hD hS (lv_sub hl [] rfl)
        · replace hm := if_f hm c18
          refine lv_iconst (v := 0) hx hb d_Co_find_72 (by decide) ?_
          refine lv_istore (lv' := [(4, .int 0), (0, .ref a_0), (1, .ref a_1), (2, .ref a_2), (3, .int x14)]) hx hb d_Co_find_73 hl (by decide) rfl (fun ls hl => ?_)
          have L75_22 : ∀ (n : Nat) (x19 : Int32) (f20 : Nat → Int32) (f21 : Nat → Int32), m_Co_find_L75 x14 f5 f6 f7 x9 f10 f11 f12 f_1_cells f_2_cells n x19 f20 = some f21 → (∀ (H : Heap) (locs : List Loc) (ls : Array Slot), va_P (dC, dI) vwCl (wl_Co_find a_0 a_0_columns a_0_columns_width a_0_columns_oldGap a_0_columns_newGap a_0_rows a_0_rows_width a_0_rows_oldGap a_0_rows_newGap a_0_areas a_1 a_1_xs a_1_xs_places a_1_ys a_1_ys_places a_1_cells a_2 a_2_xs a_2_xs_places a_2_ys a_2_ys_places a_2_cells cI 1 x4 f5 f6 f7 x9 f10 f11 f12 f21 v_1_spaces v_1_xs_count f_1_xs_places v_1_ys_count f_1_ys_places f_1_cells v_2_spaces v_2_xs_count f_2_xs_places v_2_ys_count f_2_ys_places f_2_cells) H → va_D A (wl_Co_find a_0 a_0_columns a_0_columns_width a_0_columns_oldGap a_0_columns_newGap a_0_rows a_0_rows_width a_0_rows_oldGap a_0_rows_newGap a_0_areas a_1 a_1_xs a_1_xs_places a_1_ys a_1_ys_places a_1_cells a_2 a_2_xs a_2_xs_places a_2_ys a_2_ys_places a_2_cells cI 1 x4 f5 f6 f7 x9 f10 f11 f12 f21 v_1_spaces v_1_xs_count f_1_xs_places v_1_ys_count f_1_ys_places f_1_cells v_2_spaces v_2_xs_count f_2_xs_places v_2_ys_count f_2_ys_places f_2_cells) → va_S A s.heap H locs → lv_has ls 7 [(0, .ref a_0), (1, .ref a_1), (2, .ref a_2), (3, .int x14)] → W p l e rm_Co_find s m args below meth c H locs 0 0 Q (F0 m 197 ls [])) → ∀ (H : Heap) (locs : List Loc) (ls : Array Slot), va_P (dC, dI) vwCl (wl_Co_find a_0 a_0_columns a_0_columns_width a_0_columns_oldGap a_0_columns_newGap a_0_rows a_0_rows_width a_0_rows_oldGap a_0_rows_newGap a_0_areas a_1 a_1_xs a_1_xs_places a_1_ys a_1_ys_places a_1_cells a_2 a_2_xs a_2_xs_places a_2_ys a_2_ys_places a_2_cells cI 1 x4 f5 f6 f7 x9 f10 f11 f12 f20 v_1_spaces v_1_xs_count f_1_xs_places v_1_ys_count f_1_ys_places f_1_cells v_2_spaces v_2_xs_count f_2_xs_places v_2_ys_count f_2_ys_places f_2_cells) H → va_D A (wl_Co_find a_0 a_0_columns a_0_columns_width a_0_columns_oldGap a_0_columns_newGap a_0_rows a_0_rows_width a_0_rows_oldGap a_0_rows_newGap a_0_areas a_1 a_1_xs a_1_xs_places a_1_ys a_1_ys_places a_1_cells a_2 a_2_xs a_2_xs_places a_2_ys a_2_ys_places a_2_cells cI 1 x4 f5 f6 f7 x9 f10 f11 f12 f20 v_1_spaces v_1_xs_count f_1_xs_places v_1_ys_count f_1_ys_places f_1_cells v_2_spaces v_2_xs_count f_2_xs_places v_2_ys_count f_2_ys_places f_2_cells) → va_S A s.heap H locs → lv_has ls 7 [(0, .ref a_0), (1, .ref a_1), (2, .ref a_2), (3, .int x14), (4, .int x19)] → W p l e rm_Co_find s m args below meth c H locs 0 0 Q (F0 m 75 ls []) := by
            intro n
            induction n with
            | zero => intro x19 f20 f21 hm; simp [m_Co_find_L75] at hm
            | succ n ih =>
              intro x19 f20 f21 hm KE H locs ls hP hD hS hl
              rw [m_Co_find_L75] at hm
              refine lv_iload hx hb d_Co_find_75 (lv_at hl 4 rfl) ?_
              refine lv_aload_n hx hb d_Co_find_77 rfl (lv_at hl 0 rfl) ?_
              refine va_get (D := (dC, dI)) (ci := 5) (v := .ref a_0_rows) (C := "SpaceCycles$Common") (T := F_Co) (N := 4) hx hb hts (in_F i_Co) hown hK hP 0 rfl rfl 1 (by decide) (hts _ (in_c k_71)) (fun _ h9 => h9) rfl d_Co_find_78 ?_
              refine va_get (D := (dC, dI)) (ci := 10) (v := .int x9) (C := "SpaceCycles$Strips") (T := F_St) (N := 4) hx hb hts (in_F i_St) hown hK hP 5 rfl rfl 3 (by decide) (hts _ (in_c k_73)) (fun _ h9 => h9) rfl d_Co_find_81 ?_
              refine lv_icmp_ge (tgt := 197) hx hb d_Co_find_84 (by decide) (fun c23 => ?_) (fun c23 => ?_)
              · replace hm := if_t hm c23
                cases hm
                exact KE H locs ls hP hD hS (lv_sub hl [0, 1, 2, 3] rfl)
              · replace hm := if_f hm c23
                refine lv_aload_n hx hb d_Co_find_87 rfl (lv_at hl 1 rfl) ?_
                refine va_get (D := (dC, dI)) (ci := 8) (v := .ref a_1_cells) (C := "SpaceCycles$Grid") (T := F_Gr) (N := 4) hx hb hts (in_F i_Gr) hown hK hP 10 rfl rfl 2 (by decide) (hts _ (in_c k_74)) (fun _ h9 => h9) rfl d_Co_find_88 ?_
                refine lv_aload_n hx hb d_Co_find_91 rfl (lv_at hl 0 rfl) ?_
                refine va_get (D := (dC, dI)) (ci := 5) (v := .ref a_0_columns) (C := "SpaceCycles$Common") (T := F_Co) (N := 4) hx hb hts (in_F i_Co) hown hK hP 0 rfl rfl 0 (by decide) (hts _ (in_c k_64)) (fun _ h9 => h9) rfl d_Co_find_92 ?_
                refine va_get (D := (dC, dI)) (ci := 10) (v := .ref a_0_columns_oldGap) (C := "SpaceCycles$Strips") (T := F_St) (N := 4) hx hb hts (in_F i_St) hown hK hP 1 rfl rfl 1 (by decide) (hts _ (in_c k_75)) (fun _ h9 => h9) rfl d_Co_find_95 ?_
                refine lv_iload_n hx hb d_Co_find_98 rfl (lv_at hl 3 rfl) ?_
                obtain ⟨hi24, hm⟩ := gI_e hm
                refine va_iald hx hb hK hP 3 0 rfl rfl hi24 d_Co_find_99 ?_
                refine lv_aload_n hx hb d_Co_find_100 rfl (lv_at hl 0 rfl) ?_
                refine va_get (D := (dC, dI)) (ci := 5) (v := .ref a_0_rows) (C := "SpaceCycles$Common") (T := F_Co) (N := 4) hx hb hts (in_F i_Co) hown hK hP 0 rfl rfl 1 (by decide) (hts _ (in_c k_71)) (fun _ h9 => h9) rfl d_Co_find_101 ?_
                refine va_get (D := (dC, dI)) (ci := 10) (v := .ref a_0_rows_oldGap) (C := "SpaceCycles$Strips") (T := F_St) (N := 4) hx hb hts (in_F i_St) hown hK hP 5 rfl rfl 1 (by decide) (hts _ (in_c k_75)) (fun _ h9 => h9) rfl d_Co_find_104 ?_
                refine lv_iload hx hb d_Co_find_107 (lv_at hl 4 rfl) ?_
                obtain ⟨hi25, hm⟩ := gI_e hm
                refine va_iald hx hb hK hP 7 0 rfl rfl hi25 d_Co_find_109 ?_
                obtain ⟨r26, hb27, hm⟩ := bd1_e hm
                have hPc := hP.sub (ws' := (wl_Gr_cell)) [] rfl
                have hDc := hD.sub (ws' := (wl_Gr_cell)) [] (by decide) rfl
                refine cl_i (wc' := (wl_Gr_cell)) (va_runS (As := [.int (f6 x14.toNatClampNeg), .int (f11 x19.toNatClampNeg)]) (rest := [.ref a_1_cells]) ⟨hx, hb, hml, hown, hts⟩ (c_Gr_cell l dC dI (cI := cI) (cZ := cZ) (cJ := cJ) H.size (f6 x14.toNatClampNeg) (f11 x19.toNatClampNeg) r26 hb27) (va_cwS 2 hts (gl_S k_76 k_55 k_56 k_54) rfl rfl rfl (by decide +kernel) ⟨Nat.le_of_ble_eq_true rfl, Nat.le_of_ble_eq_true rfl⟩) ⟨PP_blind, fun U hU hW => PP_at hK hN hPc hDc hU hW⟩ rfl rfl hl.1 rfl (lv_room (Nat.le_of_ble_eq_true rfl)) d_Co_find_110 ⟨Nat.zero_le _, Nat.zero_le _⟩) hP hD hS hA [] [0, 1, 2, 3, 4, 5, 6, 7, 8, 9, 10, 11, 12, 13, 14, 15, 16, 17, 18, 19, 20, 21] rfl rfl (by decide) (by decide) (fun H locs hP hD hS => ?_)
                have hP : va_P (dC, dI) vwCl (wl_Co_find a_0 a_0_columns a_0_columns_width a_0_columns_oldGap a_0_columns_newGap a_0_rows a_0_rows_width a_0_rows_oldGap a_0_rows_newGap a_0_areas a_1 a_1_xs a_1_xs_places a_1_ys a_1_ys_places a_1_cells a_2 a_2_xs a_2_xs_places a_2_ys a_2_ys_places a_2_cells cI 1 x4 f5 f6 f7 x9 f10 f11 f12 f20 v_1_spaces v_1_xs_count f_1_xs_places v_1_ys_count f_1_ys_places f_1_cells v_2_spaces v_2_xs_count f_2_xs_places v_2_ys_count f_2_ys_places f_2_cells) H := hP.sub [0, 1, 2, 3, 4, 5, 6, 7, 8, 9, 10, 11, 12, 13, 14, 15, 16, 17, 18, 19, 20, 21] rfl
                have hD : va_D A (wl_Co_find a_0 a_0_columns a_0_columns_width a_0_columns_oldGap a_0_columns_newGap a_0_rows a_0_rows_width a_0_rows_oldGap a_0_rows_newGap a_0_areas a_1 a_1_xs a_1_xs_places a_1_ys a_1_ys_places a_1_cells a_2 a_2_xs a_2_xs_places a_2_ys a_2_ys_places a_2_cells cI 1 x4 f5 f6 f7 x9 f10 f11 f12 f20 v_1_spaces v_1_xs_count f_1_xs_places v_1_ys_count f_1_ys_places f_1_cells v_2_spaces v_2_xs_count f_2_xs_places v_2_ys_count f_2_ys_places f_2_cells) := hD.sub [0, 1, 2, 3, 4, 5, 6, 7, 8, 9, 10, 11, 12, 13, 14, 15, 16, 17, 18, 19, 20, 21] (by decide) rfl
                obtain ⟨hi28, hm⟩ := gI_e hm
                refine va_iald hx hb hK hP 15 0 rfl rfl hi28 d_Co_find_113 ?_
                refine lv_topi (fun x29 ex29 => ?_)
                replace hm := lt_el hm ex29
                refine lv_istore (lv' := [(5, .int x29), (0, .ref a_0), (1, .ref a_1), (2, .ref a_2), (3, .int x14), (4, .int x19)]) hx hb d_Co_find_114 hl (by decide) rfl (fun ls hl => ?_)
                refine lv_aload_n hx hb d_Co_find_116 rfl (lv_at hl 3 rfl) ?_
                refine va_get (D := (dC, dI)) (ci := 8) (v := .ref a_2_cells) (C := "SpaceCycles$Grid") (T := F_Gr) (N := 4) hx hb hts (in_F i_Gr) hown hK hP 16 rfl rfl 2 (by decide) (hts _ (in_c k_74)) (fun _ h9 => h9) rfl d_Co_find_117 ?_
                refine lv_aload_n hx hb d_Co_find_120 rfl (lv_at hl 1 rfl) ?_
                refine va_get (D := (dC, dI)) (ci := 5) (v := .ref a_0_columns) (C := "SpaceCycles$Common") (T := F_Co) (N := 4) hx hb hts (in_F i_Co) hown hK hP 0 rfl rfl 0 (by decide) (hts _ (in_c k_64)) (fun _ h9 => h9) rfl d_Co_find_121 ?_
                refine va_get (D := (dC, dI)) (ci := 10) (v := .ref a_0_columns_newGap) (C := "SpaceCycles$Strips") (T := F_St) (N := 4) hx hb hts (in_F i_St) hown hK hP 1 rfl rfl 2 (by decide) (hts _ (in_c k_77)) (fun _ h9 => h9) rfl d_Co_find_124 ?_
                refine lv_iload_n hx hb d_Co_find_127 rfl (lv_at hl 4 rfl) ?_
                obtain ⟨hi30, hm⟩ := gI_e hm
                refine va_iald hx hb hK hP 4 0 rfl rfl hi30 d_Co_find_128 ?_
                refine lv_aload_n hx hb d_Co_find_129 rfl (lv_at hl 1 rfl) ?_
                refine va_get (D := (dC, dI)) (ci := 5) (v := .ref a_0_rows) (C := "SpaceCycles$Common") (T := F_Co) (N := 4) hx hb hts (in_F i_Co) hown hK hP 0 rfl rfl 1 (by decide) (hts _ (in_c k_71)) (fun _ h9 => h9) rfl d_Co_find_130 ?_
                refine va_get (D := (dC, dI)) (ci := 10) (v := .ref a_0_rows_newGap) (C := "SpaceCycles$Strips") (T := F_St) (N := 4) hx hb hts (in_F i_St) hown hK hP 5 rfl rfl 2 (by decide) (hts _ (in_c k_77)) (fun _ h9 => h9) rfl d_Co_find_133 ?_
                refine lv_iload hx hb d_Co_find_136 (lv_at hl 5 rfl) ?_
                obtain ⟨hi31, hm⟩ := gI_e hm
                refine va_iald hx hb hK hP 8 0 rfl rfl hi31 d_Co_find_138 ?_
                obtain ⟨r32, hb33, hm⟩ := bd1_e hm
                have hPc := hP.sub (ws' := (wl_Gr_cell)) [] rfl
                have hDc := hD.sub (ws' := (wl_Gr_cell)) [] (by decide) rfl
                refine cl_i (wc' := (wl_Gr_cell)) (va_runS (As := [.int (f7 x14.toNatClampNeg), .int (f12 x19.toNatClampNeg)]) (rest := [.ref a_2_cells]) ⟨hx, hb, hml, hown, hts⟩ (c_Gr_cell l dC dI (cI := cI) (cZ := cZ) (cJ := cJ) H.size (f7 x14.toNatClampNeg) (f12 x19.toNatClampNeg) r32 hb33) (va_cwS 2 hts (gl_S k_76 k_55 k_56 k_54) rfl rfl rfl (by decide +kernel) ⟨Nat.le_of_ble_eq_true rfl, Nat.le_of_ble_eq_true rfl⟩) ⟨PP_blind, fun U hU hW => PP_at hK hN hPc hDc hU hW⟩ rfl rfl hl.1 rfl (lv_room (Nat.le_of_ble_eq_true rfl)) d_Co_find_139 ⟨Nat.zero_le _, Nat.zero_le _⟩) hP hD hS hA [] [0, 1, 2, 3, 4, 5, 6, 7, 8, 9, 10, 11, 12, 13, 14, 15, 16, 17, 18, 19, 20, 21] rfl rfl (by decide) (by decide) (fun H locs hP hD hS => ?_)
                have hP : va_P (dC, dI) vwCl (wl_Co_find a_0 a_0_columns a_0_columns_width a_0_columns_oldGap a_0_columns_newGap a_0_rows a_0_rows_width a_0_rows_oldGap a_0_rows_newGap a_0_areas a_1 a_1_xs a_1_xs_places a_1_ys a_1_ys_places a_1_cells a_2 a_2_xs a_2_xs_places a_2_ys a_2_ys_places a_2_cells cI 1 x4 f5 f6 f7 x9 f10 f11 f12 f20 v_1_spaces v_1_xs_count f_1_xs_places v_1_ys_count f_1_ys_places f_1_cells v_2_spaces v_2_xs_count f_2_xs_places v_2_ys_count f_2_ys_places f_2_cells) H := hP.sub [0, 1, 2, 3, 4, 5, 6, 7, 8, 9, 10, 11, 12, 13, 14, 15, 16, 17, 18, 19, 20, 21] rfl
                have hD : va_D A (wl_Co_find a_0 a_0_columns a_0_columns_width a_0_columns_oldGap a_0_columns_newGap a_0_rows a_0_rows_width a_0_rows_oldGap a_0_rows_newGap a_0_areas a_1 a_1_xs a_1_xs_places a_1_ys a_1_ys_places a_1_cells a_2 a_2_xs a_2_xs_places a_2_ys a_2_ys_places a_2_cells cI 1 x4 f5 f6 f7 x9 f10 f11 f12 f20 v_1_spaces v_1_xs_count f_1_xs_places v_1_ys_count f_1_ys_places f_1_cells v_2_spaces v_2_xs_count f_2_xs_places v_2_ys_count f_2_ys_places f_2_cells) := hD.sub [0, 1, 2, 3, 4, 5, 6, 7, 8, 9, 10, 11, 12, 13, 14, 15, 16, 17, 18, 19, 20, 21] (by decide) rfl
                obtain ⟨hi34, hm⟩ := gI_e hm
                refine va_iald hx hb hK hP 21 0 rfl rfl hi34 d_Co_find_142 ?_
                refine lv_topi (fun x35 ex35 => ?_)
                replace hm := lt_el hm ex35
                refine lv_istore (lv' := [(6, .int x35), (5, .int x29), (0, .ref a_0), (1, .ref a_1), (2, .ref a_2), (3, .int x14), (4, .int x19)]) hx hb d_Co_find_143 hl (by decide) rfl (fun ls hl => ?_)
                refine lv_iload hx hb d_Co_find_145 (lv_at hl 1 rfl) ?_
                obtain ⟨f39, hb37, hm⟩ := bd1_e hm
                have K36 : ∀ (H : Heap) (locs : List Loc) (ls : Array Slot), va_P (dC, dI) vwCl (wl_Co_find a_0 a_0_columns a_0_columns_width a_0_columns_oldGap a_0_columns_newGap a_0_rows a_0_rows_width a_0_rows_oldGap a_0_rows_newGap a_0_areas a_1 a_1_xs a_1_xs_places a_1_ys a_1_ys_places a_1_cells a_2 a_2_xs a_2_xs_places a_2_ys a_2_ys_places a_2_cells cI 1 x4 f5 f6 f7 x9 f10 f11 f12 f39 v_1_spaces v_1_xs_count f_1_xs_places v_1_ys_count f_1_ys_places f_1_cells v_2_spaces v_2_xs_count f_2_xs_places v_2_ys_count f_2_ys_places f_2_cells) H → va_D A (wl_Co_find a_0 a_0_columns a_0_columns_width a_0_columns_oldGap a_0_columns_newGap a_0_rows a_0_rows_width a_0_rows_oldGap a_0_rows_newGap a_0_areas a_1 a_1_xs a_1_xs_places a_1_ys a_1_ys_places a_1_cells a_2 a_2_xs a_2_xs_places a_2_ys a_2_ys_places a_2_cells cI 1 x4 f5 f6 f7 x9 f10 f11 f12 f39 v_1_spaces v_1_xs_count f_1_xs_places v_1_ys_count f_1_ys_places f_1_cells v_2_spaces v_2_xs_count f_2_xs_places v_2_ys_count f_2_ys_places f_2_cells) → va_S A s.heap H locs → lv_has ls 7 [(0, .ref a_0), (1, .ref a_1), (2, .ref a_2), (3, .int x14), (4, .int x19)] → W p l e rm_Co_find s m args below meth c H locs 0 0 Q (F0 m 191 ls []) := by
                  intro H locs ls hP hD hS hl
                  obtain ⟨x47, ex47⟩ : ∃ y : Int32, y = x19 + 1 := ⟨_, rfl⟩
                  replace hm := lt_el hm ex47
                  refine lv_iinc (v := x47) (lv' := [(4, .int x47), (0, .ref a_0), (1, .ref a_1), (2, .ref a_2), (3, .int x14)]) hx hb d_Co_find_191 hl (k := 4) rfl (by rw [ex47]; rfl) (by decide) rfl (fun ls hl => ?_)
                  refine lv_goto (tgt := 75) hx hb d_Co_find_194 (by decide) ?_
                  exact ih _ _ _ hm KE H locs ls hP hD hS (lv_sub hl [1, 2, 3, 4, 0] rfl)
                replace hm := hb37
                refine lv_if_lt (tgt := 191) hx hb d_Co_find_147 (by decide) (fun c40 => ?_) (fun c40 => ?_)
                · replace hm := if_t hm c40
                  cases hm
                  exact K36 H locs ls hP hD hS (lv_sub hl [2, 3, 4, 5, 6] rfl)
                · replace hm := if_f hm c40
                  refine lv_iload hx hb d_Co_find_150 (lv_at hl 0 rfl) ?_
                  refine lv_if_lt (tgt := 191) hx hb d_Co_find_152 (by decide) (fun c41 => ?_) (fun c41 => ?_)
                  · replace hm := if_t hm c41
                    cases hm
                    exact K36 H locs ls hP hD hS (lv_sub hl [2, 3, 4, 5, 6] rfl)
                  · replace hm := if_f hm c41
                    refine lv_aload_n hx hb d_Co_find_155 rfl (lv_at hl 2 rfl) ?_
                    refine va_get (D := (dC, dI)) (ci := 5) (v := .ref a_0_areas) (C := "SpaceCycles$Common") (T := F_Co) (N := 4) hx hb hts (in_F i_Co) hown hK hP 0 rfl rfl 2 (by decide) (hts _ (in_c k_59)) (fun _ h9 => h9) rfl d_Co_find_156 ?_
                    refine lv_iload hx hb d_Co_find_159 (lv_at hl 1 rfl) ?_
                    refine lv_bipush (v := 81) hx hb d_Co_find_161 (by decide) ?_
                    refine lv_imul hx hb d_Co_find_163 ?_
                    refine lv_iload hx hb d_Co_find_164 (lv_at hl 0 rfl) ?_
                    refine lv_iadd hx hb d_Co_find_166 ?_
                    refine lv_dup2_11 hx hb d_Co_find_167 rfl rfl ?_
                    obtain ⟨hi42, hm⟩ := gI_e hm
                    refine va_iald hx hb hK hP 9 0 rfl rfl hi42 d_Co_find_168 ?_
                    refine lv_aload_n hx hb d_Co_find_169 rfl (lv_at hl 2 rfl) ?_
                    refine va_get (D := (dC, dI)) (ci := 5) (v := .ref a_0_columns) (C := "SpaceCycles$Common") (T := F_Co) (N := 4) hx hb hts (in_F i_Co) hown hK hP 0 rfl rfl 0 (by decide) (hts _ (in_c k_64)) (fun _ h9 => h9) rfl d_Co_find_170 ?_
                    refine va_get (D := (dC, dI)) (ci := 10) (v := .ref a_0_columns_width) (C := "SpaceCycles$Strips") (T := F_St) (N := 4) hx hb hts (in_F i_St) hown hK hP 1 rfl rfl 0 (by decide) (hts _ (in_c k_78)) (fun _ h9 => h9) rfl d_Co_find_173 ?_
                    refine lv_iload_n hx hb d_Co_find_176 rfl (lv_at hl 5 rfl) ?_
                    obtain ⟨hi43, hm⟩ := gI_e hm
                    refine va_iald hx hb hK hP 2 0 rfl rfl hi43 d_Co_find_177 ?_
                    refine lv_aload_n hx hb d_Co_find_178 rfl (lv_at hl 2 rfl) ?_
                    refine va_get (D := (dC, dI)) (ci := 5) (v := .ref a_0_rows) (C := "SpaceCycles$Common") (T := F_Co) (N := 4) hx hb hts (in_F i_Co) hown hK hP 0 rfl rfl 1 (by decide) (hts _ (in_c k_71)) (fun _ h9 => h9) rfl d_Co_find_179 ?_
                    refine va_get (D := (dC, dI)) (ci := 10) (v := .ref a_0_rows_width) (C := "SpaceCycles$Strips") (T := F_St) (N := 4) hx hb hts (in_F i_St) hown hK hP 5 rfl rfl 0 (by decide) (hts _ (in_c k_78)) (fun _ h9 => h9) rfl d_Co_find_182 ?_
                    refine lv_iload hx hb d_Co_find_185 (lv_at hl 6 rfl) ?_
                    obtain ⟨hi44, hm⟩ := gI_e hm
                    refine va_iald hx hb hK hP 6 0 rfl rfl hi44 d_Co_find_187 ?_
                    refine lv_imul hx hb d_Co_find_188 ?_
                    refine lv_iadd hx hb d_Co_find_189 ?_
                    obtain ⟨hi45, hm⟩ := gI_e hm
                    obtain ⟨f46, ef46⟩ : ∃ y : Nat → Int32, y = upd f20 ((x29 * 81) + x35).toNatClampNeg ((f20 ((x29 * 81) + x35).toNatClampNeg) + ((f5 x14.toNatClampNeg) * (f10 x19.toNatClampNeg))) := ⟨_, rfl⟩
                    replace hm := lt_el hm ef46
                    refine va_iast hx hb hK hP hD hS 9 0 rfl rfl hi45 d_Co_find_190 (fun H locs hP hD hS => ?_)
                    rw [← ef46] at hP hD
                    have hP : va_P (dC, dI) vwCl (wl_Co_find a_0 a_0_columns a_0_columns_width a_0_columns_oldGap a_0_columns_newGap a_0_rows a_0_rows_width a_0_rows_oldGap a_0_rows_newGap a_0_areas a_1 a_1_xs a_1_xs_places a_1_ys a_1_ys_places a_1_cells a_2 a_2_xs a_2_xs_places a_2_ys a_2_ys_places a_2_cells cI 1 x4 f5 f6 f7 x9 f10 f11 f12 f46 v_1_spaces v_1_xs_count f_1_xs_places v_1_ys_count f_1_ys_places f_1_cells v_2_spaces v_2_xs_count f_2_xs_places v_2_ys_count f_2_ys_places f_2_cells) H := hP
                    have hD : va_D A (wl_Co_find a_0 a_0_columns a_0_columns_width a_0_columns_oldGap a_0_columns_newGap a_0_rows a_0_rows_width a_0_rows_oldGap a_0_rows_newGap a_0_areas a_1 a_1_xs a_1_xs_places a_1_ys a_1_ys_places a_1_cells a_2 a_2_xs a_2_xs_places a_2_ys a_2_ys_places a_2_cells cI 1 x4 f5 f6 f7 x9 f10 f11 f12 f46 v_1_spaces v_1_xs_count f_1_xs_places v_1_ys_count f_1_ys_places f_1_cells v_2_spaces v_2_xs_count f_2_xs_places v_2_ys_count f_2_ys_places f_2_cells) := hD
                    cases hm
                    exact K36 H locs ls hP hD hS (lv_sub hl [2, 3, 4, 5, 6] rfl)
          obtain ⟨f21, hb48, hm⟩ := bd1_e hm
          refine L75_22 fu _ _ _ hb48 (fun H locs ls hP hD hS hl => ?_) H locs ls hP hD hS (lv_sub hl [1, 2, 3, 4, 0] rfl)
          obtain ⟨x49, ex49⟩ : ∃ y : Int32, y = x14 + 1 := ⟨_, rfl⟩
          replace hm := lt_el hm ex49
          refine lv_iinc (v := x49) (lv' := [(3, .int x49), (0, .ref a_0), (1, .ref a_1), (2, .ref a_2)]) hx hb d_Co_find_197 hl (k := 3) rfl (by rw [ex49]; rfl) (by decide) rfl (fun ls hl => ?_)
          refine lv_goto (tgt := 61) hx hb d_Co_find_200 (by decide) ?_
          exact ih _ _ _ hm KE H locs ls hP hD hS (lv_sub hl [1, 2, 3, 0] rfl)
    obtain ⟨f16, hb50, hm⟩ := bd1_e hm
    refine L61_17 fu _ _ _ hb50 (fun H locs ls hP hD hS hl => ?_) H locs ls hP hD hS (lv_sub hl [1, 2, 3, 0] rfl)
    cases hm
    exact hret _ H locs ls d_Co_find_203 hP hD hS
  · replace hm := if_f hm c1
    cases hm
    exact hret _ H locs ls d_Co_find_7 hP hD hS
set_option maxHeartbeats 4000000 in
set_option maxRecDepth 100000 in
theorem c_Co_find (l : Launch) (dC : Nat → ClassId) (dI : Nat → Nat → Nat) {cI cZ cJ : ClassId} (a_0 a_0_columns a_0_columns_width a_0_columns_oldGap a_0_columns_newGap a_0_rows a_0_rows_width a_0_rows_oldGap a_0_rows_newGap a_0_areas a_1 a_1_xs a_1_xs_places a_1_ys a_1_ys_places a_1_cells a_2 a_2_xs a_2_xs_places a_2_ys a_2_ys_places a_2_cells : Nat) (sz : Nat) (v_0_known : Int32) (v_0_columns_count : Int32) (f_0_columns_width : Nat → Int32) (f_0_columns_oldGap : Nat → Int32) (f_0_columns_newGap : Nat → Int32) (v_0_rows_count : Int32) (f_0_rows_width : Nat → Int32) (f_0_rows_oldGap : Nat → Int32) (f_0_rows_newGap : Nat → Int32) (f_0_areas : Nat → Int32) (v_1_spaces : Int32) (v_1_xs_count : Int32) (f_1_xs_places : Nat → Int32) (v_1_ys_count : Int32) (f_1_ys_places : Nat → Int32) (f_1_cells : Nat → Int32) (v_2_spaces : Int32) (v_2_xs_count : Int32) (f_2_xs_places : Nat → Int32) (v_2_ys_count : Int32) (f_2_ys_places : Nat → Int32) (f_2_cells : Nat → Int32)  (ov_0_known : Int32) (ov_0_columns_count : Int32) (of_0_columns_width : Nat → Int32) (of_0_columns_oldGap : Nat → Int32) (of_0_columns_newGap : Nat → Int32) (ov_0_rows_count : Int32) (of_0_rows_width : Nat → Int32) (of_0_rows_oldGap : Nat → Int32) (of_0_rows_newGap : Nat → Int32) (of_0_areas : Nat → Int32) (hm : m_Co_find v_0_known v_0_columns_count f_0_columns_width f_0_columns_oldGap f_0_columns_newGap v_0_rows_count f_0_rows_width f_0_rows_oldGap f_0_rows_newGap f_0_areas v_1_spaces v_1_xs_count f_1_xs_places v_1_ys_count f_1_ys_places f_1_cells v_2_xs_count f_2_xs_places v_2_ys_count f_2_ys_places f_2_cells = some (ov_0_known, ov_0_columns_count, of_0_columns_width, of_0_columns_oldGap, of_0_columns_newGap, ov_0_rows_count, of_0_rows_width, of_0_rows_oldGap, of_0_rows_newGap, of_0_areas)) : Met l y_Co_find w_Co_find rm_Co_find (PP dC dI [(cI, .int), (cZ, .boolean), (cJ, .long)] [.ref a_0, .ref a_1, .ref a_2] sz (wl_Co_find a_0 a_0_columns a_0_columns_width a_0_columns_oldGap a_0_columns_newGap a_0_rows a_0_rows_width a_0_rows_oldGap a_0_rows_newGap a_0_areas a_1 a_1_xs a_1_xs_places a_1_ys a_1_ys_places a_1_cells a_2 a_2_xs a_2_xs_places a_2_ys a_2_ys_places a_2_cells cI v_0_known v_0_columns_count f_0_columns_width f_0_columns_oldGap f_0_columns_newGap v_0_rows_count f_0_rows_width f_0_rows_oldGap f_0_rows_newGap f_0_areas v_1_spaces v_1_xs_count f_1_xs_places v_1_ys_count f_1_ys_places f_1_cells v_2_spaces v_2_xs_count f_2_xs_places v_2_ys_count f_2_ys_places f_2_cells)) (QV dC dI [(cI, .int), (cZ, .boolean), (cJ, .long)] sz (wl_Co_find a_0 a_0_columns a_0_columns_width a_0_columns_oldGap a_0_columns_newGap a_0_rows a_0_rows_width a_0_rows_oldGap a_0_rows_newGap a_0_areas a_1 a_1_xs a_1_xs_places a_1_ys a_1_ys_places a_1_cells a_2 a_2_xs a_2_xs_places a_2_ys a_2_ys_places a_2_cells cI v_0_known v_0_columns_count f_0_columns_width f_0_columns_oldGap f_0_columns_newGap v_0_rows_count f_0_rows_width f_0_rows_oldGap f_0_rows_newGap f_0_areas v_1_spaces v_1_xs_count f_1_xs_places v_1_ys_count f_1_ys_places f_1_cells v_2_spaces v_2_xs_count f_2_xs_places v_2_ys_count f_2_ys_places f_2_cells) (wl_Co_find a_0 a_0_columns a_0_columns_width a_0_columns_oldGap a_0_columns_newGap a_0_rows a_0_rows_width a_0_rows_oldGap a_0_rows_newGap a_0_areas a_1 a_1_xs a_1_xs_places a_1_ys a_1_ys_places a_1_cells a_2 a_2_xs a_2_xs_places a_2_ys a_2_ys_places a_2_cells cI ov_0_known ov_0_columns_count of_0_columns_width of_0_columns_oldGap of_0_columns_newGap ov_0_rows_count of_0_rows_width of_0_rows_oldGap of_0_rows_newGap of_0_areas v_1_spaces v_1_xs_count f_1_xs_places v_1_ys_count f_1_ys_places f_1_cells v_2_spaces v_2_xs_count f_2_xs_places v_2_ys_count f_2_ys_places f_2_cells)) 0 0 (va_A (wl_Co_find a_0 a_0_columns a_0_columns_width a_0_columns_oldGap a_0_columns_newGap a_0_rows a_0_rows_width a_0_rows_oldGap a_0_rows_newGap a_0_areas a_1 a_1_xs a_1_xs_places a_1_ys a_1_ys_places a_1_cells a_2 a_2_xs a_2_xs_places a_2_ys a_2_ys_places a_2_cells cI v_0_known v_0_columns_count f_0_columns_width f_0_columns_oldGap f_0_columns_newGap v_0_rows_count f_0_rows_width f_0_rows_oldGap f_0_rows_newGap f_0_areas v_1_spaces v_1_xs_count f_1_xs_places v_1_ys_count f_1_ys_places f_1_cells v_2_spaces v_2_xs_count f_2_xs_places v_2_ys_count f_2_ys_places f_2_cells) sz) := by
  refine Met.ofW (cc := b_Co_find) (maxL := 7) (ret := none) (by decide) rfl ?_
  intro p e s m args below meth c s₁ B hml hv
  obtain ⟨rfl, hsz, hP, hK, hD0, hN⟩ := hv
  subst hsz
  have hl := lv_entry ([.ref a_0, .ref a_1, .ref a_2]) (n := 7) (Nat.le_of_ble_eq_true rfl)
  rw [lg_entry_eq]
  generalize (lg_sl ([.ref a_0, .ref a_1, .ref a_2]) ++ List.replicate (7 - (lg_sl ([.ref a_0, .ref a_1, .ref a_2])).length) Slot.unset).toArray = ls at hl ⊢
  exact t_Co_find a_0 a_0_columns a_0_columns_width a_0_columns_oldGap a_0_columns_newGap a_0_rows a_0_rows_width a_0_rows_oldGap a_0_rows_newGap a_0_areas a_1 a_1_xs a_1_xs_places a_1_ys a_1_ys_places a_1_cells a_2 a_2_xs a_2_xs_places a_2_ys a_2_ys_places a_2_cells v_0_known v_0_columns_count f_0_columns_width f_0_columns_oldGap f_0_columns_newGap v_0_rows_count f_0_rows_width f_0_rows_oldGap f_0_rows_newGap f_0_areas v_1_spaces v_1_xs_count f_1_xs_places v_1_ys_count f_1_ys_places f_1_cells v_2_spaces v_2_xs_count f_2_xs_places v_2_ys_count f_2_ys_places f_2_cells ov_0_known ov_0_columns_count of_0_columns_width of_0_columns_oldGap of_0_columns_newGap ov_0_rows_count of_0_rows_width of_0_rows_oldGap of_0_rows_newGap of_0_areas B.exec B.bytes hml (findClass_of_methodNamed B.named) (atoms_spec (ws := w_Co_find) B.pre) hK hN (fun q h => Or.inr h) (fun pc H locs ls hd hP9 hD9 hS => W.vret B.exec B.bytes B.returns (fun t ht hW => ⟨⟨(), rfl, trivial, by rw [ht]; exact hP9, va_K.moved hW.alike hK, hD9⟩, hS.F ht⟩) hS.2.2 hd) hm s.heap [] ls hP hD0.self va_S.rf hl

-- SpaceCycles$Common.areaOf(II)I
abbrev b_Co_areaOf : ByteArray := prog_2_method_4_code
abbrev y_Co_areaOf : MethodName := ⟨"SpaceCycles$Common", "areaOf", "(II)I"⟩
abbrev w_Co_areaOf : List Cond := Cond.code y_Co_areaOf b_Co_areaOf 3 (some .int) :: gl
abbrev rm_Co_areaOf : Room := { frames := 0, cells := 0, slots := 0, locals := 0 }
theorem d_Co_areaOf_0 : decode b_Co_areaOf 0 = .ok (.aload_n 0, 1) := by decide +kernel
theorem d_Co_areaOf_1 : decode b_Co_areaOf 1 = .ok (.getfield 21, 3) := by decide +kernel
theorem d_Co_areaOf_4 : decode b_Co_areaOf 4 = .ok (.iload_n 1, 1) := by decide +kernel
theorem d_Co_areaOf_5 : decode b_Co_areaOf 5 = .ok (.bipush 81, 2) := by decide +kernel
theorem d_Co_areaOf_7 : decode b_Co_areaOf 7 = .ok (.imul, 1) := by decide +kernel
theorem d_Co_areaOf_8 : decode b_Co_areaOf 8 = .ok (.iload_n 2, 1) := by decide +kernel
theorem d_Co_areaOf_9 : decode b_Co_areaOf 9 = .ok (.iadd, 1) := by decide +kernel
theorem d_Co_areaOf_10 : decode b_Co_areaOf 10 = .ok (.iaload, 1) := by decide +kernel
theorem d_Co_areaOf_11 : decode b_Co_areaOf 11 = .ok (.ireturn, 1) := by decide +kernel
abbrev wl_Co_areaOf (a_0 : Nat) (a_0_areas : Nat) (b_0_columns : Nat) (b_0_rows : Nat) (cI : ClassId) (v_0_known : Int32) (f_0_areas : Nat → Int32) : va_W := [(a_0, .inr (5, [.ref b_0_columns, .ref b_0_rows, .ref a_0_areas, .int v_0_known])), (a_0_areas, .inl (cI, 6561, .inl f_0_areas))]
def m_Co_areaOf (p1 : Int32) (p2 : Int32) (f_0_areas : Nat → Int32) : Option (Int32) :=
  gI ((p1 * 81) + p2) 6561 <|
  some (f_0_areas ((p1 * 81) + p2).toNatClampNeg)

set_option maxHeartbeats 4000000 in
set_option maxRecDepth 100000 in
theorem t_Co_areaOf {p : Program} {l : Launch} {e : Env} {s : State} {m : MethodId} {args : Array Value} {below : List Frame} {meth : Method} {c : Code} {A : Nat → Prop} {Q : State → Prop} {dC : Nat → ClassId} {dI : Nat → Nat → Nat} {cI cZ cJ : ClassId} (a_0 a_0_areas b_0_columns b_0_rows : Nat) (v_0_known : Int32) (f_0_areas : Nat → Int32) (p1 : Int32) (p2 : Int32) (R0 : Int32) (hx : p.tables.exec = Jvm.exec) (hb : c.code = b_Co_areaOf) (hml : c.maxLocals = 3) (hown : s.vm.findClass "SpaceCycles$Common" = some m.cls) (hts : ∀ w ∈ w_Co_areaOf, w.before args s = true) (hK : va_K (dC, dI) vwCl [(cI, .int), (cZ, .boolean), (cJ, .long)] s) (hN : NX s) (hA : ∀ q : Nat, s.heap.size ≤ q → A q)
    (hret : ∀ (pc : Nat) (H : Heap) (locs : List Loc) (ls : Array Slot), decode b_Co_areaOf pc = .ok (.ireturn, 1) → va_P (dC, dI) vwCl (wl_Co_areaOf a_0 a_0_areas b_0_columns b_0_rows cI v_0_known f_0_areas) H → va_D A (wl_Co_areaOf a_0 a_0_areas b_0_columns b_0_rows cI v_0_known f_0_areas) → va_S A s.heap H locs → W p l e rm_Co_areaOf s m args below meth c H locs 0 0 Q (F0 m pc ls [.int R0]))
    (hm : m_Co_areaOf p1 p2 f_0_areas = some R0) : ∀ (H : Heap) (locs : List Loc) (ls : Array Slot), va_P (dC, dI) vwCl (wl_Co_areaOf a_0 a_0_areas b_0_columns b_0_rows cI v_0_known f_0_areas) H → va_D A (wl_Co_areaOf a_0 a_0_areas b_0_columns b_0_rows cI v_0_known f_0_areas) → va_S A s.heap H locs → lv_has ls 3 [(0, .ref a_0), (1, .int p1), (2, .int p2)] → W p l e rm_Co_areaOf s m args below meth c H locs 0 0 Q (F0 m 0 ls []) := by
  intro H locs ls hP hD hS hl
  unfold m_Co_areaOf at hm
  refine lv_aload_n hx hb d_Co_areaOf_0 rfl (lv_at hl 0 rfl) ?_
  refine va_get (D := (dC, dI)) (ci := 5) (v := .ref a_0_areas) (C := "SpaceCycles$Common") (T := F_Co) (N := 4) hx hb hts (in_F i_Co) hown hK hP 0 rfl rfl 2 (by decide) (hts _ (in_c k_59)) (fun _ h9 => h9) rfl d_Co_areaOf_1 ?_
  refine lv_iload_n hx hb d_Co_areaOf_4 rfl (lv_at hl 1 rfl) ?_
  refine lv_bipush (v := 81) hx hb d_Co_areaOf_5 (by decide) ?_
  refine lv_imul hx hb d_Co_areaOf_7 ?_
  refine lv_iload_n hx hb d_Co_areaOf_8 rfl (lv_at hl 2 rfl) ?_
  refine lv_iadd hx hb d_Co_areaOf_9 ?_
  obtain ⟨hi1, hm⟩ := gI_e hm
  refine va_iald hx hb hK hP 1 0 rfl rfl hi1 d_Co_areaOf_10 ?_
  cases hm
  exact hret _ H locs ls d_Co_areaOf_11 hP hD hS
set_option maxHeartbeats 4000000 in
set_option maxRecDepth 100000 in
theorem c_Co_areaOf (l : Launch) (dC : Nat → ClassId) (dI : Nat → Nat → Nat) {cI cZ cJ : ClassId} (a_0 a_0_areas b_0_columns b_0_rows : Nat) (sz : Nat) (v_0_known : Int32) (f_0_areas : Nat → Int32) (p1 : Int32) (p2 : Int32) (R0 : Int32) (hm : m_Co_areaOf p1 p2 f_0_areas = some R0) : Met l y_Co_areaOf w_Co_areaOf rm_Co_areaOf (PP dC dI [(cI, .int), (cZ, .boolean), (cJ, .long)] [.ref a_0, .int p1, .int p2] sz (wl_Co_areaOf a_0 a_0_areas b_0_columns b_0_rows cI v_0_known f_0_areas)) (QI dC dI [(cI, .int), (cZ, .boolean), (cJ, .long)] sz (wl_Co_areaOf a_0 a_0_areas b_0_columns b_0_rows cI v_0_known f_0_areas) (wl_Co_areaOf a_0 a_0_areas b_0_columns b_0_rows cI v_0_known f_0_areas) R0) 0 0 (va_A (wl_Co_areaOf a_0 a_0_areas b_0_columns b_0_rows cI v_0_known f_0_areas) sz) := by
  refine Met.ofW (cc := b_Co_areaOf) (maxL := 3) (ret := (some .int)) (by decide) rfl ?_
  intro p e s m args below meth c s₁ B hml hv
  obtain ⟨rfl, hsz, hP, hK, hD0, hN⟩ := hv
  subst hsz
  have hl := lv_entry ([.ref a_0, .int p1, .int p2]) (n := 3) (Nat.le_of_ble_eq_true rfl)
  rw [lg_entry_eq]
  generalize (lg_sl ([.ref a_0, .int p1, .int p2]) ++ List.replicate (3 - (lg_sl ([.ref a_0, .int p1, .int p2])).length) Slot.unset).toArray = ls at hl ⊢
  exact t_Co_areaOf a_0 a_0_areas b_0_columns b_0_rows v_0_known f_0_areas p1 p2 R0 B.exec B.bytes hml (findClass_of_methodNamed B.named) (atoms_spec (ws := w_Co_areaOf) B.pre) hK hN (fun q h => Or.inr h) (fun pc H locs ls hd hP9 hD9 hS => W.iret B.exec B.bytes B.returns (fun t ht hW => ⟨⟨_, (), rfl, rfl, by rw [ht]; exact hP9, va_K.moved hW.alike hK, hD9⟩, hS.F ht⟩) hS.2.2 hd) hm s.heap [] ls hP hD0.self va_S.rf hl
