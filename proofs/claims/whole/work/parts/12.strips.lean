theorem k_32 : ((.fieldLink "SpaceCycles$Strips" 21 "SpaceCycles$Strips" "count" "I") : Cond) ∈ gl := gl_i 214 (by decide +kernel) (by decide +kernel)
theorem k_33 : ((.fieldLink "SpaceCycles$Strips" 25 "SpaceCycles$Cuts" "count" "I") : Cond) ∈ gl := gl_i 288 (by decide +kernel) (by decide +kernel)
theorem k_34 : ((.fieldLink "SpaceCycles$Strips" 28 "SpaceCycles$Cuts" "places" "[I") : Cond) ∈ gl := gl_i 284 (by decide +kernel) (by decide +kernel)
theorem k_35 : ((.methodLink "SpaceCycles$Strips" 31 ⟨"java/lang/Math", "max", "(II)I"⟩) : Cond) ∈ gl := gl_i 880 (by decide +kernel) (by decide +kernel)
theorem k_36 : ((.methodLink "SpaceCycles$Strips" 37 ⟨"java/lang/Math", "min", "(II)I"⟩) : Cond) ∈ gl := gl_i 881 (by decide +kernel) (by decide +kernel)
theorem k_37 : ((.fieldLink "SpaceCycles$Strips" 11 "SpaceCycles$Strips" "width" "[I") : Cond) ∈ gl := gl_i 208 (by decide +kernel) (by decide +kernel)
theorem k_38 : ((.fieldLink "SpaceCycles$Strips" 15 "SpaceCycles$Strips" "oldGap" "[I") : Cond) ∈ gl := gl_i 210 (by decide +kernel) (by decide +kernel)
theorem k_39 : ((.fieldLink "SpaceCycles$Strips" 18 "SpaceCycles$Strips" "newGap" "[I") : Cond) ∈ gl := gl_i 212 (by decide +kernel) (by decide +kernel)
-- SpaceCycles$Strips.find(LSpaceCycles$Cuts;LSpaceCycles$Cuts;)V
abbrev b_St_find : ByteArray := prog_10_method_2_code
abbrev y_St_find : MethodName := ⟨"SpaceCycles$Strips", "find", "(LSpaceCycles$Cuts;LSpaceCycles$Cuts;)V"⟩
abbrev w_St_find : List Cond := Cond.code y_St_find b_St_find 7 none :: gl
abbrev rm_St_find : Room := { frames := 1, cells := 0, slots := 0, locals := 64 }
theorem d_St_find_0 : decode b_St_find 0 = .ok (.aload_n 0, 1) := by decide +kernel
theorem d_St_find_1 : decode b_St_find 1 = .ok (.iconst 0, 1) := by decide +kernel
theorem d_St_find_2 : decode b_St_find 2 = .ok (.putfield 21, 3) := by decide +kernel
theorem d_St_find_5 : decode b_St_find 5 = .ok (.iconst 1, 1) := by decide +kernel
theorem d_St_find_6 : decode b_St_find 6 = .ok (.istore_n 3, 1) := by decide +kernel
theorem d_St_find_7 : decode b_St_find 7 = .ok (.iload_n 3, 1) := by decide +kernel
theorem d_St_find_8 : decode b_St_find 8 = .ok (.aload_n 1, 1) := by decide +kernel
theorem d_St_find_9 : decode b_St_find 9 = .ok (.getfield 25, 3) := by decide +kernel
theorem d_St_find_12 : decode b_St_find 12 = .ok (.if_icmp .ge 128, 3) := by decide +kernel
theorem d_St_find_15 : decode b_St_find 15 = .ok (.iconst 1, 1) := by decide +kernel
theorem d_St_find_16 : decode b_St_find 16 = .ok (.istore 4, 2) := by decide +kernel
theorem d_St_find_18 : decode b_St_find 18 = .ok (.iload 4, 2) := by decide +kernel
theorem d_St_find_20 : decode b_St_find 20 = .ok (.aload_n 2, 1) := by decide +kernel
theorem d_St_find_21 : decode b_St_find 21 = .ok (.getfield 25, 3) := by decide +kernel
theorem d_St_find_24 : decode b_St_find 24 = .ok (.if_icmp .ge 110, 3) := by decide +kernel
theorem d_St_find_27 : decode b_St_find 27 = .ok (.aload_n 1, 1) := by decide +kernel
theorem d_St_find_28 : decode b_St_find 28 = .ok (.getfield 28, 3) := by decide +kernel
theorem d_St_find_31 : decode b_St_find 31 = .ok (.iload_n 3, 1) := by decide +kernel
theorem d_St_find_32 : decode b_St_find 32 = .ok (.iconst 1, 1) := by decide +kernel
theorem d_St_find_33 : decode b_St_find 33 = .ok (.isub, 1) := by decide +kernel
theorem d_St_find_34 : decode b_St_find 34 = .ok (.iaload, 1) := by decide +kernel
theorem d_St_find_35 : decode b_St_find 35 = .ok (.aload_n 2, 1) := by decide +kernel
theorem d_St_find_36 : decode b_St_find 36 = .ok (.getfield 28, 3) := by decide +kernel
theorem d_St_find_39 : decode b_St_find 39 = .ok (.iload 4, 2) := by decide +kernel
theorem d_St_find_41 : decode b_St_find 41 = .ok (.iconst 1, 1) := by decide +kernel
theorem d_St_find_42 : decode b_St_find 42 = .ok (.isub, 1) := by decide +kernel
theorem d_St_find_43 : decode b_St_find 43 = .ok (.iaload, 1) := by decide +kernel
theorem d_St_find_44 : decode b_St_find 44 = .ok (.invokestatic 31, 3) := by decide +kernel
theorem d_St_find_47 : decode b_St_find 47 = .ok (.istore 5, 2) := by decide +kernel
theorem d_St_find_49 : decode b_St_find 49 = .ok (.aload_n 1, 1) := by decide +kernel
theorem d_St_find_50 : decode b_St_find 50 = .ok (.getfield 28, 3) := by decide +kernel
theorem d_St_find_53 : decode b_St_find 53 = .ok (.iload_n 3, 1) := by decide +kernel
theorem d_St_find_54 : decode b_St_find 54 = .ok (.iaload, 1) := by decide +kernel
theorem d_St_find_55 : decode b_St_find 55 = .ok (.aload_n 2, 1) := by decide +kernel
theorem d_St_find_56 : decode b_St_find 56 = .ok (.getfield 28, 3) := by decide +kernel
theorem d_St_find_59 : decode b_St_find 59 = .ok (.iload 4, 2) := by decide +kernel
theorem d_St_find_61 : decode b_St_find 61 = .ok (.iaload, 1) := by decide +kernel
theorem d_St_find_62 : decode b_St_find 62 = .ok (.invokestatic 37, 3) := by decide +kernel
theorem d_St_find_65 : decode b_St_find 65 = .ok (.istore 6, 2) := by decide +kernel
theorem d_St_find_67 : decode b_St_find 67 = .ok (.iload 5, 2) := by decide +kernel
theorem d_St_find_69 : decode b_St_find 69 = .ok (.iload 6, 2) := by decide +kernel
theorem d_St_find_71 : decode b_St_find 71 = .ok (.if_icmp .ge 57, 3) := by decide +kernel
theorem d_St_find_74 : decode b_St_find 74 = .ok (.aload_n 0, 1) := by decide +kernel
theorem d_St_find_75 : decode b_St_find 75 = .ok (.getfield 21, 3) := by decide +kernel
theorem d_St_find_78 : decode b_St_find 78 = .ok (.bipush 80, 2) := by decide +kernel
theorem d_St_find_80 : decode b_St_find 80 = .ok (.if_icmp .ge 48, 3) := by decide +kernel
theorem d_St_find_83 : decode b_St_find 83 = .ok (.aload_n 0, 1) := by decide +kernel
theorem d_St_find_84 : decode b_St_find 84 = .ok (.getfield 11, 3) := by decide +kernel
theorem d_St_find_87 : decode b_St_find 87 = .ok (.aload_n 0, 1) := by decide +kernel
theorem d_St_find_88 : decode b_St_find 88 = .ok (.getfield 21, 3) := by decide +kernel
theorem d_St_find_91 : decode b_St_find 91 = .ok (.iload 6, 2) := by decide +kernel
theorem d_St_find_93 : decode b_St_find 93 = .ok (.iload 5, 2) := by decide +kernel
theorem d_St_find_95 : decode b_St_find 95 = .ok (.isub, 1) := by decide +kernel
theorem d_St_find_96 : decode b_St_find 96 = .ok (.iastore, 1) := by decide +kernel
theorem d_St_find_97 : decode b_St_find 97 = .ok (.aload_n 0, 1) := by decide +kernel
theorem d_St_find_98 : decode b_St_find 98 = .ok (.getfield 15, 3) := by decide +kernel
theorem d_St_find_101 : decode b_St_find 101 = .ok (.aload_n 0, 1) := by decide +kernel
theorem d_St_find_102 : decode b_St_find 102 = .ok (.getfield 21, 3) := by decide +kernel
theorem d_St_find_105 : decode b_St_find 105 = .ok (.iload_n 3, 1) := by decide +kernel
theorem d_St_find_106 : decode b_St_find 106 = .ok (.iastore, 1) := by decide +kernel
theorem d_St_find_107 : decode b_St_find 107 = .ok (.aload_n 0, 1) := by decide +kernel
theorem d_St_find_108 : decode b_St_find 108 = .ok (.getfield 18, 3) := by decide +kernel
theorem d_St_find_111 : decode b_St_find 111 = .ok (.aload_n 0, 1) := by decide +kernel
theorem d_St_find_112 : decode b_St_find 112 = .ok (.getfield 21, 3) := by decide +kernel
theorem d_St_find_115 : decode b_St_find 115 = .ok (.iload 4, 2) := by decide +kernel
theorem d_St_find_117 : decode b_St_find 117 = .ok (.iastore, 1) := by decide +kernel
theorem d_St_find_118 : decode b_St_find 118 = .ok (.aload_n 0, 1) := by decide +kernel
theorem d_St_find_119 : decode b_St_find 119 = .ok (.dup, 1) := by decide +kernel
theorem d_St_find_120 : decode b_St_find 120 = .ok (.getfield 21, 3) := by decide +kernel
theorem d_St_find_123 : decode b_St_find 123 = .ok (.iconst 1, 1) := by decide +kernel
theorem d_St_find_124 : decode b_St_find 124 = .ok (.iadd, 1) := by decide +kernel
theorem d_St_find_125 : decode b_St_find 125 = .ok (.putfield 21, 3) := by decide +kernel
theorem d_St_find_128 : decode b_St_find 128 = .ok (.iinc 4 1, 3) := by decide +kernel
theorem d_St_find_131 : decode b_St_find 131 = .ok (.goto (-113), 3) := by decide +kernel
theorem d_St_find_134 : decode b_St_find 134 = .ok (.iinc 3 1, 3) := by decide +kernel
theorem d_St_find_137 : decode b_St_find 137 = .ok (.goto (-130), 3) := by decide +kernel
theorem d_St_find_140 : decode b_St_find 140 = .ok (.return_, 1) := by decide +kernel
abbrev wl_St_find (a_0 : Nat) (a_0_width : Nat) (a_0_oldGap : Nat) (a_0_newGap : Nat) (a_1 : Nat) (a_1_places : Nat) (a_2 : Nat) (a_2_places : Nat) (cI : ClassId) (v_0_count : Int32) (f_0_width : Nat → Int32) (f_0_oldGap : Nat → Int32) (f_0_newGap : Nat → Int32) (v_1_count : Int32) (f_1_places : Nat → Int32) (v_2_count : Int32) (f_2_places : Nat → Int32) : va_W := [(a_0, .inr (10, [.ref a_0_width, .ref a_0_oldGap, .ref a_0_newGap, .int v_0_count])), (a_0_width, .inl (cI, 80, .inl f_0_width)), (a_0_oldGap, .inl (cI, 80, .inl f_0_oldGap)), (a_0_newGap, .inl (cI, 80, .inl f_0_newGap)), (a_1, .inr (9, [.ref a_1_places, .int v_1_count])), (a_1_places, .inl (cI, 40, .inl f_1_places)), (a_2, .inr (9, [.ref a_2_places, .int v_2_count])), (a_2_places, .inl (cI, 40, .inl f_2_places))]
def m_St_find_L18 (l3 : Int32) (f_1_places : Nat → Int32) (v_2_count : Int32) (f_2_places : Nat → Int32) : Nat → Int32 → Int32 → (Nat → Int32) → (Nat → Int32) → (Nat → Int32) → Option ((Int32) × (Nat → Int32) × (Nat → Int32) × (Nat → Int32))
  | 0, _, _, _, _, _ => none
  | n + 1, l4, v_0_count, f_0_width, f_0_oldGap, f_0_newGap =>
    if v_2_count ≤ l4 then (
      some (v_0_count, f_0_width, f_0_oldGap, f_0_newGap))
    else (
      gI (l3 - 1) 40 <|
      gI (l4 - 1) 40 <|
      lt_ (jmax (f_1_places (l3 - 1).toNatClampNeg) (f_2_places (l4 - 1).toNatClampNeg)) fun x5 =>
      gI l3 40 <|
      gI l4 40 <|
      lt_ (jmin (f_1_places l3.toNatClampNeg) (f_2_places l4.toNatClampNeg)) fun x8 =>
      bd4 (
        if x8 ≤ x5 then (
        some (v_0_count, f_0_width, f_0_oldGap, f_0_newGap))
      else (
        if 80 ≤ v_0_count then (
          some (v_0_count, f_0_width, f_0_oldGap, f_0_newGap))
        else (
          gI v_0_count 80 <|
          lt_ (upd f_0_width v_0_count.toNatClampNeg (x8 - x5)) fun f19 =>
          gI v_0_count 80 <|
          lt_ (upd f_0_oldGap v_0_count.toNatClampNeg l3) fun f21 =>
          gI v_0_count 80 <|
          lt_ (upd f_0_newGap v_0_count.toNatClampNeg l4) fun f23 =>
          lt_ (v_0_count + 1) fun x24 =>
          some (x24, f19, f21, f23))))
      fun (x12 : Int32) (f13 : Nat → Int32) (f14 : Nat → Int32) (f15 : Nat → Int32) =>
      lt_ (l4 + 1) fun x25 =>
        m_St_find_L18 l3 f_1_places v_2_count f_2_places n x25 x12 f13 f14 f15)

def m_St_find_L7 (v_1_count : Int32) (f_1_places : Nat → Int32) (v_2_count : Int32) (f_2_places : Nat → Int32) : Nat → Int32 → Int32 → (Nat → Int32) → (Nat → Int32) → (Nat → Int32) → Option ((Int32) × (Nat → Int32) × (Nat → Int32) × (Nat → Int32))
  | 0, _, _, _, _, _ => none
  | n + 1, l3, v_0_count, f_0_width, f_0_oldGap, f_0_newGap =>
    if v_1_count ≤ l3 then (
      some (v_0_count, f_0_width, f_0_oldGap, f_0_newGap))
    else (
      bd4 (m_St_find_L18 l3 f_1_places v_2_count f_2_places fu 1 v_0_count f_0_width f_0_oldGap f_0_newGap) fun x7 f8 f9 f10 =>
      lt_ (l3 + 1) fun x37 =>
      m_St_find_L7 v_1_count f_1_places v_2_count f_2_places n x37 x7 f8 f9 f10)
def m_St_find (v_0_count : Int32) (f_0_width : Nat → Int32) (f_0_oldGap : Nat → Int32) (f_0_newGap : Nat → Int32) (v_1_count : Int32) (f_1_places : Nat → Int32) (v_2_count : Int32) (f_2_places : Nat → Int32) : Option ((Int32) × (Nat → Int32) × (Nat → Int32) × (Nat → Int32)) :=
  bd4 (m_St_find_L7 v_1_count f_1_places v_2_count f_2_places fu 1 0 f_0_width f_0_oldGap f_0_newGap) fun x6 f7 f8 f9 =>
  some (x6, f7, f8, f9)

set_option maxHeartbeats 4000000 in
set_option maxRecDepth 100000 in
theorem t_St_find {p : Program} {l : Launch} {e : Env} {s : State} {m : MethodId} {args : Array Value} {below : List Frame} {meth : Method} {c : Code} {A : Nat → Prop} {Q : State → Prop} {dC : Nat → ClassId} {dI : Nat → Nat → Nat} {cI cZ cJ : ClassId} (a_0 a_0_width a_0_oldGap a_0_newGap a_1 a_1_places a_2 a_2_places : Nat) (v_0_count : Int32) (f_0_width : Nat → Int32) (f_0_oldGap : Nat → Int32) (f_0_newGap : Nat → Int32) (v_1_count : Int32) (f_1_places : Nat → Int32) (v_2_count : Int32) (f_2_places : Nat → Int32)  (ov_0_count : Int32) (of_0_width : Nat → Int32) (of_0_oldGap : Nat → Int32) (of_0_newGap : Nat → Int32) (hx : p.tables.exec = Jvm.exec) (hb : c.code = b_St_find) (hml : c.maxLocals = 7) (hown : s.vm.findClass "SpaceCycles$Strips" = some m.cls) (hts : ∀ w ∈ w_St_find, w.before args s = true) (hK : va_K (dC, dI) vwCl [(cI, .int), (cZ, .boolean), (cJ, .long)] s) (hN : NX s) (hA : ∀ q : Nat, s.heap.size ≤ q → A q)
    (hret : ∀ (pc : Nat) (H : Heap) (locs : List Loc) (ls : Array Slot), decode b_St_find pc = .ok (.return_, 1) → va_P (dC, dI) vwCl (wl_St_find a_0 a_0_width a_0_oldGap a_0_newGap a_1 a_1_places a_2 a_2_places cI ov_0_count of_0_width of_0_oldGap of_0_newGap v_1_count f_1_places v_2_count f_2_places) H → va_D A (wl_St_find a_0 a_0_width a_0_oldGap a_0_newGap a_1 a_1_places a_2 a_2_places cI ov_0_count of_0_width of_0_oldGap of_0_newGap v_1_count f_1_places v_2_count f_2_places) → va_S A s.heap H locs → W p l e rm_St_find s m args below meth c H locs 0 0 Q (F0 m pc ls []))
    (hm : m_St_find v_0_count f_0_width f_0_oldGap f_0_newGap v_1_count f_1_places v_2_count f_2_places = some (ov_0_count, of_0_width, of_0_oldGap, of_0_newGap)) : ∀ (H : Heap) (locs : List Loc) (ls : Array Slot), va_P (dC, dI) vwCl (wl_St_find a_0 a_0_width a_0_oldGap a_0_newGap a_1 a_1_places a_2 a_2_places cI v_0_count f_0_width f_0_oldGap f_0_newGap v_1_count f_1_places v_2_count f_2_places) H → va_D A (wl_St_find a_0 a_0_width a_0_oldGap a_0_newGap a_1 a_1_places a_2 a_2_places cI v_0_count f_0_width f_0_oldGap f_0_newGap v_1_count f_1_places v_2_count f_2_places) → va_S A s.heap H locs → lv_has ls 7 [(0, .ref a_0), (1, .ref a_1), (2, .ref a_2)] → W p l e rm_St_find s m args below meth c H locs 0 0 Q (F0 m 0 ls []) := by
  intro H locs ls hP hD hS hl
  unfold m_St_find at hm
  refine lv_aload_n hx hb d_St_find_0 rfl (lv_at hl 0 rfl) ?_
  refine lv_iconst (v := 0) hx hb d_St_find_1 (by decide) ?_
  refine va_put (D := (dC, dI)) (ci := 10) (v := .int 0) (ty := .int) (C := "SpaceCycles$Strips") (T := F_St) (N := 4) hx hb hts (in_F i_St) t_St t_St_ok n_St hown hK hP hD hS 0 rfl rfl 3 (by decide) (hts _ (in_c k_32)) (fun _ h9 => h9) rfl (by decide +kernel) rfl rfl (Nat.le_of_ble_eq_true rfl) d_St_find_2 (fun H locs hP hD hS => ?_)
  have hP : va_P (dC, dI) vwCl (wl_St_find a_0 a_0_width a_0_oldGap a_0_newGap a_1 a_1_places a_2 a_2_places cI 0 f_0_width f_0_oldGap f_0_newGap v_1_count f_1_places v_2_count f_2_places) H := hP
  have hD : va_D A (wl_St_find a_0 a_0_width a_0_oldGap a_0_newGap a_1 a_1_places a_2 a_2_places cI 0 f_0_width f_0_oldGap f_0_newGap v_1_count f_1_places v_2_count f_2_places) := hD
  refine lv_iconst (v := 1) hx hb d_St_find_5 (by decide) ?_
  refine lv_istore_n (lv' := [(3, .int 1), (0, .ref a_0), (1, .ref a_1), (2, .ref a_2)]) hx hb d_St_find_6 rfl hl (by decide) rfl (fun ls hl => ?_)
  have L7_10 : ∀ (n : Nat) (x1 : Int32) (x2 : Int32) (f3 : Nat → Int32) (f4 : Nat → Int32) (f5 : Nat → Int32) (x6 : Int32) (f7 : Nat → Int32) (f8 : Nat → Int32) (f9 : Nat → Int32), m_St_find_L7 v_1_count f_1_places v_2_count f_2_places n x1 x2 f3 f4 f5 = some (x6, f7, f8, f9) → (∀ (H : Heap) (locs : List Loc) (ls : Array Slot), va_P (dC, dI) vwCl (wl_St_find a_0 a_0_width a_0_oldGap a_0_newGap a_1 a_1_places a_2 a_2_places cI x6 f7 f8 f9 v_1_count f_1_places v_2_count f_2_places) H → va_D A (wl_St_find a_0 a_0_width a_0_oldGap a_0_newGap a_1 a_1_places a_2 a_2_places cI x6 f7 f8 f9 v_1_count f_1_places v_2_count f_2_places) → va_S A s.heap H locs → lv_has ls 7 [] → W p l e rm_St_find s m args below meth c H locs 0 0 Q (F0 m 140 ls [])) → ∀ (H : Heap) (locs : List Loc) (ls : Array Slot), va_P (dC, dI) vwCl (wl_St_find a_0 a_0_width a_0_oldGap a_0_newGap a_1 a_1_places a_2 a_2_places cI x2 f3 f4 f5 v_1_count f_1_places v_2_count f_2_places) H → va_D A (wl_St_find a_0 a_0_width a_0_oldGap a_0_newGap a_1 a_1_places a_2 a_2_places cI x2 f3 f4 f5 v_1_count f_1_places v_2_count f_2_places) → va_S A s.heap H locs → lv_has ls 7 [(0, .ref a_0), (1, .ref a_1), (2, .ref a_2), (3, .int x1)] → W p l e rm_St_find s m args below meth c H locs 0 0 Q (F0 m 7 ls []) := by
    intro n
    induction n with
    | zero => intro x1 x2 f3 f4 f5 x6 f7 f8 f9 hm; simp [m_St_find_L7] at hm
    | succ n ih =>
      intro x1 x2 f3 f4 f5 x6 f7 f8 f9 hm KE H locs ls hP hD hS hl
      rw [m_St_find_L7] at hm
      refine lv_iload_n hx hb d_St_find_7 rfl (lv_at hl 3 rfl) ?_
      refine lv_aload_n hx hb d_St_find_8 rfl (lv_at hl 1 rfl) ?_
      refine va_get (D := (dC, dI)) (ci := 9) (v := .int v_1_count) (C := "SpaceCycles$Cuts") (T := F_Cu) (N := 2) hx hb hts (in_F i_Cu) hown hK hP 4 rfl rfl 1 (by decide) (hts _ (in_c k_33)) (fun _ h9 => h9) rfl d_St_find_9 ?_
      refine lv_icmp_ge (tgt := 140) hx hb d_St_find_12 (by decide) (fun c11 => ?_) (fun c11 => ?_)
      · replace hm := if_t hm c11
        cases hm
        exact KE H locs ls hP hD hS (lv_sub hl [] rfl)
      · replace hm := if_f hm c11
        refine lv_iconst (v := 1) hx hb d_St_find_15 (by decide) ?_
        refine lv_istore (lv' := [(4, .int 1), (0, .ref a_0), (1, .ref a_1), (2, .ref a_2), (3, .int x1)]) hx hb d_St_find_16 hl (by decide) rfl (fun ls hl => ?_)
        have L18_21 : ∀ (n : Nat) (x12 : Int32) (x13 : Int32) (f14 : Nat → Int32) (f15 : Nat → Int32) (f16 : Nat → Int32) (x17 : Int32) (f18 : Nat → Int32) (f19 : Nat → Int32) (f20 : Nat → Int32), m_St_find_L18 x1 f_1_places v_2_count f_2_places n x12 x13 f14 f15 f16 = some (x17, f18, f19, f20) → (∀ (H : Heap) (locs : List Loc) (ls : Array Slot), va_P (dC, dI) vwCl (wl_St_find a_0 a_0_width a_0_oldGap a_0_newGap a_1 a_1_places a_2 a_2_places cI x17 f18 f19 f20 v_1_count f_1_places v_2_count f_2_places) H → va_D A (wl_St_find a_0 a_0_width a_0_oldGap a_0_newGap a_1 a_1_places a_2 a_2_places cI x17 f18 f19 f20 v_1_count f_1_places v_2_count f_2_places) → va_S A s.heap H locs → lv_has ls 7 [(0, .ref a_0), (1, .ref a_1), (2, .ref a_2), (3, .int x1)] → W p l e rm_St_find s m args below meth c H locs 0 0 Q (F0 m 134 ls [])) → ∀ (H : Heap) (locs : List Loc) (ls : Array Slot), va_P (dC, dI) vwCl (wl_St_find a_0 a_0_width a_0_oldGap a_0_newGap a_1 a_1_places a_2 a_2_places cI x13 f14 f15 f16 v_1_count f_1_places v_2_count f_2_places) H → va_D A (wl_St_find a_0 a_0_width a_0_oldGap a_0_newGap a_1 a_1_places a_2 a_2_places cI x13 f14 f15 f16 v_1_count f_1_places v_2_count f_2_places) → va_S A s.heap H locs → lv_has ls 7 [(0, .ref a_0), (1, .ref a_1), (2, .ref a_2), (3, .int x1), (4, .int x12)] → W p l e rm_St_find s m args below meth c H locs 0 0 Q (F0 m 18 ls []) := by
          intro n
          induction n with
          | zero => intro x12 x13 f14 f15 f16 x17 f18 f19 f20 hm; simp [m_St_find_L18] at hm
          | succ n ih =>
            intro x12 x13 f14 f15 f16 x17 f18 f19 f20 hm KE H locs ls hP hD hS hl
            rw [m_St_find_L18] at hm
            refine lv_iload hx hb d_St_find_18 (lv_at hl 4 rfl) ?_
            refine lv_aload_n hx hb d_St_find_20 rfl (lv_at hl 2 rfl) ?_
            refine va_get (D := (dC, dI)) (ci := 9) (v := .int v_2_count) (C := "SpaceCycles$Cuts") (T := F_Cu) (N := 2) hx hb hts (in_F i_Cu) hown hK hP 6 rfl rfl 1 (by decide) (hts _ (in_c k_33)) (fun _ h9 => h9) rfl d_St_find_21 ?_
            refine lv_icmp_ge (tgt := 134) hx hb d_St_find_24 (by decide) (fun c22 => ?_) (fun c22 => ?_)
            · replace hm := if_t hm c22
              cases hm
              exact KE H locs ls hP hD hS (lv_sub hl [0, 1, 2, 3] rfl)
            · replace hm := if_f hm c22
              refine lv_aload_n hx hb d_St_find_27 rfl (lv_at hl 1 rfl) ?_
              refine va_get (D := (dC, dI)) (ci := 9) (v := .ref a_1_places) (C := "SpaceCycles$Cuts") (T := F_Cu) (N := 2) hx hb hts (in_F i_Cu) hown hK hP 4 rfl rfl 0 (by decide) (hts _ (in_c k_34)) (fun _ h9 => h9) rfl d_St_find_28 ?_
              refine lv_iload_n hx hb d_St_find_31 rfl (lv_at hl 3 rfl) ?_
              refine lv_iconst (v := 1) hx hb d_St_find_32 (by decide) ?_
              refine lv_isub hx hb d_St_find_33 ?_
              obtain ⟨hi23, hm⟩ := gI_e hm
              refine va_iald hx hb hK hP 5 0 rfl rfl hi23 d_St_find_34 ?_
              refine lv_aload_n hx hb d_St_find_35 rfl (lv_at hl 2 rfl) ?_
              refine va_get (D := (dC, dI)) (ci := 9) (v := .ref a_2_places) (C := "SpaceCycles$Cuts") (T := F_Cu) (N := 2) hx hb hts (in_F i_Cu) hown hK hP 6 rfl rfl 0 (by decide) (hts _ (in_c k_34)) (fun _ h9 => h9) rfl d_St_find_36 ?_
              refine lv_iload hx hb d_St_find_39 (lv_at hl 4 rfl) ?_
              refine lv_iconst (v := 1) hx hb d_St_find_41 (by decide) ?_
              refine lv_isub hx hb d_St_find_42 ?_
              obtain ⟨hi24, hm⟩ := gI_e hm
              refine va_iald hx hb hK hP 7 0 rfl rfl hi24 d_St_find_43 ?_
              refine va_mmax hx hb (by rw [hml]; exact hl.1.symm) hown (hts _ (in_c k_35)) (hts _ (in_c k_12)) (hts _ (in_c k_13)) (hts _ (in_c k_14)) (Nat.le_of_ble_eq_true rfl) (Nat.le_of_ble_eq_true rfl) (Nat.zero_le _) (Nat.zero_le _) d_St_find_44 ?_
              refine lv_topi (fun x25 ex25 => ?_)
              replace hm := lt_el hm ex25
              refine lv_istore (lv' := [(5, .int x25), (0, .ref a_0), (1, .ref a_1), (2, .ref a_2), (3, .int x1), (4, .int x12)]) hx hb d_St_find_47 hl (by decide) rfl (fun ls hl => ?_)
              refine lv_aload_n hx hb d_St_find_49 rfl (lv_at hl 2 rfl) ?_
              refine va_get (D := (dC, dI)) (ci := 9) (v := .ref a_1_places) (C := "SpaceCycles$Cuts") (T := F_Cu) (N := 2) hx hb hts (in_F i_Cu) hown hK hP 4 rfl rfl 0 (by decide) (hts _ (in_c k_34)) (fun _ h9 => h9) rfl d_St_find_50 ?_
              refine lv_iload_n hx hb d_St_find_53 rfl (lv_at hl 4 rfl) ?_
              obtain ⟨hi26, hm⟩ := gI_e hm
              refine va_iald hx hb hK hP 5 0 rfl rfl hi26 d_St_find_54 ?_
              refine lv_aload_n hx hb d_St_find_55 rfl (lv_at hl 3 rfl) ?_
              refine va_get (D := (dC, dI)) (ci := 9) (v := .ref a_2_places) (C := "SpaceCycles$Cuts") (T := F_Cu) (N := 2) hx hb hts (in_F i_Cu) hown hK hP 6 rfl rfl 0 (by decide) (hts _ (in_c k_34)) (fun _ h9 => h9) rfl d_St_find_56 ?_
              refine lv_iload hx hb d_St_find_59 (lv_at hl 5 rfl) ?_
              obtain ⟨hi27, hm⟩ := gI_e hm
              refine va_iald hx hb hK hP 7 0 rfl rfl hi27 d_St_find_61 ?_
              refine va_mmin hx hb (by rw [hml]; exact hl.1.symm) hown (hts _ (in_c k_36)) (hts _ (in_c k_21)) (hts _ (in_c k_13)) (hts _ (in_c k_22)) (Nat.le_of_ble_eq_true rfl) (Nat.le_of_ble_eq_true rfl) (Nat.zero_le _) (Nat.zero_le _) d_St_find_62 ?_
              refine lv_topi (fun x28 ex28 => ?_)
              replace hm := lt_el hm ex28
              refine lv_istore (lv' := [(6, .int x28), (5, .int x25), (0, .ref a_0), (1, .ref a_1), (2, .ref a_2), (3, .int x1), (4, .int x12)]) hx hb d_St_find_65 hl (by decide) rfl (fun ls hl => ?_)
              refine lv_iload hx hb d_St_find_67 (lv_at hl 1 rfl) ?_
              refine lv_iload hx hb d_St_find_69 (lv_at hl 0 rfl) ?_
              obtain ⟨x32, f33, f34, f35, hb30, hm⟩ := bd4_e hm
              have K29 : ∀ (H : Heap) (locs : List Loc) (ls : Array Slot), va_P (dC, dI) vwCl (wl_St_find a_0 a_0_width a_0_oldGap a_0_newGap a_1 a_1_places a_2 a_2_places cI x32 f33 f34 f35 v_1_count f_1_places v_2_count f_2_places) H → va_D A (wl_St_find a_0 a_0_width a_0_oldGap a_0_newGap a_1 a_1_places a_2 a_2_places cI x32 f33 f34 f35 v_1_count f_1_places v_2_count f_2_places) → va_S A s.heap H locs → lv_has ls 7 [(0, .ref a_0), (1, .ref a_1), (2, .ref a_2), (3, .int x1), (4, .int x12)] → W p l e rm_St_find s m args below meth c H locs 0 0 Q (F0 m 128 ls []) := by
                intro H locs ls hP hD hS hl
                obtain ⟨x45, ex45⟩ : ∃ y : Int32, y = x12 + 1 := ⟨_, rfl⟩
                replace hm := lt_el hm ex45
                refine lv_iinc (v := x45) (lv' := [(4, .int x45), (0, .ref a_0), (1, .ref a_1), (2, .ref a_2), (3, .int x1)]) hx hb d_St_find_128 hl (k := 4) rfl (by rw [ex45]; rfl) (by decide) rfl (fun ls hl => ?_)
                refine lv_goto (tgt := 18) hx hb d_St_find_131 (by decide) ?_
                exact ih _ _ _ _ _ _ _ _ _ hm KE H locs ls hP hD hS (lv_sub hl [1, 2, 3, 4, 0] rfl)
              replace hm := hb30
              refine lv_icmp_ge (tgt := 128) hx hb d_St_find_71 (by decide) (fun c36 => ?_) (fun c36 => ?_)
              · replace hm := if_t hm c36
                cases hm
                exact K29 H locs ls hP hD hS (lv_sub hl [2, 3, 4, 5, 6] rfl)
              · replace hm := if_f hm c36
                refine lv_aload_n hx hb d_St_find_74 rfl (lv_at hl 2 rfl) ?_
                refine va_get (D := (dC, dI)) (ci := 10) (v := .int x13) (C := "SpaceCycles$Strips") (T := F_St) (N := 4) hx hb hts (in_F i_St) hown hK hP 0 rfl rfl 3 (by decide) (hts _ (in_c k_32)) (fun _ h9 => h9) rfl d_St_find_75 ?_
                refine lv_bipush (v := 80) hx hb d_St_find_78 (by decide) ?_
                refine lv_icmp_ge (tgt := 128) hx hb d_St_find_80 (by decide) (fun c37 => ?_) (fun c37 => ?_)
                · replace hm := if_t hm c37
                  cases hm
                  exact K29 H locs ls hP hD hS (lv_sub hl [2, 3, 4, 5, 6] rfl)
                · replace hm := if_f hm c37
                  refine lv_aload_n hx hb d_St_find_83 rfl (lv_at hl 2 rfl) ?_
                  refine va_get (D := (dC, dI)) (ci := 10) (v := .ref a_0_width) (C := "SpaceCycles$Strips") (T := F_St) (N := 4) hx hb hts (in_F i_St) hown hK hP 0 rfl rfl 0 (by decide) (hts _ (in_c k_37)) (fun _ h9 => h9) rfl d_St_find_84 ?_
                  refine lv_aload_n hx hb d_St_find_87 rfl (lv_at hl 2 rfl) ?_
                  refine va_get (D := (dC, dI)) (ci := 10) (v := .int x13) (C := "SpaceCycles$Strips") (T := F_St) (N := 4) hx hb hts (in_F i_St) hown hK hP 0 rfl rfl 3 (by decide) (hts _ (in_c k_32)) (fun _ h9 => h9) rfl d_St_find_88 ?_
                  refine lv_iload hx hb d_St_find_91 (lv_at hl 0 rfl) ?_
                  refine lv_iload hx hb d_St_find_93 (lv_at hl 1 rfl) ?_
                  refine lv_isub hx hb d_St_find_95 ?_
                  obtain ⟨hi38, hm⟩ := gI_e hm
                  obtain ⟨f39, ef39⟩ : ∃ y : Nat → Int32, y = upd f14 x13.toNatClampNeg (x28 - x25) := ⟨_, rfl⟩
                  replace hm := lt_el hm ef39
                  refine va_iast hx hb hK hP hD hS 1 0 rfl rfl hi38 d_St_find_96 (fun H locs hP hD hS => ?_)
                  rw [← ef39] at hP hD
                  have hP : va_P (dC, dI) vwCl (wl_St_find a_0 a_0_width a_0_oldGap a_0_newGap a_1 a_1_places a_2 a_2_places cI x13 f39 f15 f16 v_1_count f_1_places v_2_count f_2_places) H := hP
                  have hD : va_D A (wl_St_find a_0 a_0_width a_0_oldGap a_0_newGap a_1 a_1_places a_2 a_2_places cI x13 f39 f15 f16 v_1_count f_1_places v_2_count f_2_places) := hD
                  refine lv_aload_n hx hb d_St_find_97 rfl (lv_at hl 2 rfl) ?_
                  refine va_get (D := (dC, dI)) (ci := 10) (v := .ref a_0_oldGap) (C := "SpaceCycles$Strips") (T := F_St) (N := 4) hx hb hts (in_F i_St) hown hK hP 0 rfl rfl 1 (by decide) (hts _ (in_c k_38)) (fun _ h9 => h9) rfl d_St_find_98 ?_
                  refine lv_aload_n hx hb d_St_find_101 rfl (lv_at hl 2 rfl) ?_
                  refine va_get (D := (dC, dI)) (ci := 10) (v := .int x13) (C := "SpaceCycles$Strips") (T := F_St) (N := 4) hx hb hts (in_F i_St) hown hK hP 0 rfl rfl 3 (by decide) (hts _ (in_c k_32)) (fun _ h9 => h9) rfl d_St_find_102 ?_
                  refine lv_iload_n hx hb d_St_find_105 rfl (lv_at hl 5 rfl) ?_
                  obtain ⟨hi40, hm⟩ := gI_e hm
                  obtain ⟨f41, ef41⟩ : ∃ y : Nat → Int32, y = upd f15 x13.toNatClampNeg x1 := ⟨_, rfl⟩
                  replace hm := lt_el hm ef41
                  refine va_iast hx hb hK hP hD hS 2 0 rfl rfl hi40 d_St_find_106 (fun H locs hP hD hS => ?_)
                  rw [← ef41] at hP hD
                  have hP : va_P (dC, dI) vwCl (wl_St_find a_0 a_0_width a_0_oldGap a_0_newGap a_1 a_1_places a_2 a_2_places cI x13 f39 f41 f16 v_1_count f_1_places v_2_count f_2_places) H := hP
                  have hD : va_D A (wl_St_find a_0 a_0_width a_0_oldGap a_0_newGap a_1 a_1_places a_2 a_2_places cI x13 f39 f41 f16 v_1_count f_1_places v_2_count f_2_places) := hD
                  refine lv_aload_n hx hb d_St_find_107 rfl (lv_at hl 2 rfl) ?_
                  refine va_get (D := (dC, dI)) (ci := 10) (v := .ref a_0_newGap) (C := "SpaceCycles$Strips") (T := F_St) (N := 4) hx hb hts (in_F i_St) hown hK hP 0 rfl rfl 2 (by decide) (hts _ (in_c k_39)) (fun _ h9 => h9) rfl d_St_find_108 ?_
                  refine lv_aload_n hx hb d_St_find_111 rfl (lv_at hl 2 rfl) ?_
                  refine va_get (D := (dC, dI)) (ci := 10) (v := .int x13) (C := "SpaceCycles$Strips") (T := F_St) (N := 4) hx hb hts (in_F i_St) hown hK hP 0 rfl rfl 3 (by decide) (hts _ (in_c k_32)) (fun _ h9 => h9) rfl d_St_find_112 ?_
                  refine lv_iload hx hb d_St_find_115 (lv_at hl 6 rfl) ?_
                  obtain ⟨hi42, hm⟩ := gI_e hm
                  obtain ⟨f43, ef43⟩ : ∃ y : Nat → Int32, y = upd f16 x13.toNatClampNeg x12 := ⟨_, rfl⟩
                  replace hm := lt_el hm ef43
                  refine va_iast hx hb hK hP hD hS 3 0 rfl rfl hi42 d_St_find_117 (fun H locs hP hD hS => ?_)
                  rw [← ef43] at hP hD
                  have hP : va_P (dC, dI) vwCl (wl_St_find a_0 a_0_width a_0_oldGap a_0_newGap a_1 a_1_places a_2 a_2_places cI x13 f39 f41 f43 v_1_count f_1_places v_2_count f_2_places) H := hP
                  have hD : va_D A (wl_St_find a_0 a_0_width a_0_oldGap a_0_newGap a_1 a_1_places a_2 a_2_places cI x13 f39 f41 f43 v_1_count f_1_places v_2_count f_2_places) := hD
                  refine lv_aload_n hx hb d_St_find_118 rfl (lv_at hl 2 rfl) ?_
                  refine lv_dup hx hb d_St_find_119 rfl ?_
                  refine va_get (D := (dC, dI)) (ci := 10) (v := .int x13) (C := "SpaceCycles$Strips") (T := F_St) (N := 4) hx hb hts (in_F i_St) hown hK hP 0 rfl rfl 3 (by decide) (hts _ (in_c k_32)) (fun _ h9 => h9) rfl d_St_find_120 ?_
                  refine lv_iconst (v := 1) hx hb d_St_find_123 (by decide) ?_
                  refine lv_iadd hx hb d_St_find_124 ?_
                  refine lv_topi (fun x44 ex44 => ?_)
                  replace hm := lt_el hm ex44
                  refine va_put (D := (dC, dI)) (ci := 10) (v := .int x44) (ty := .int) (C := "SpaceCycles$Strips") (T := F_St) (N := 4) hx hb hts (in_F i_St) t_St t_St_ok n_St hown hK hP hD hS 0 rfl rfl 3 (by decide) (hts _ (in_c k_32)) (fun _ h9 => h9) rfl (by decide +kernel) rfl rfl (Nat.le_of_ble_eq_true rfl) d_St_find_125 (fun H locs hP hD hS => ?_)
                  have hP : va_P (dC, dI) vwCl (wl_St_find a_0 a_0_width a_0_oldGap a_0_newGap a_1 a_1_places a_2 a_2_places cI x44 f39 f41 f43 v_1_count f_1_places v_2_count f_2_places) H := hP
                  have hD : va_D A (wl_St_find a_0 a_0_width a_0_oldGap a_0_newGap a_1 a_1_places a_2 a_2_places cI x44 f39 f41 f43 v_1_count f_1_places v_2_count f_2_places) := hD
                  cases hm
                  exact K29 H locs ls hP hD hS (lv_sub hl [2, 3, 4, 5, 6] rfl)
        obtain ⟨x17, f18, f19, f20, hb46, hm⟩ := bd4_e hm
        refine L18_21 fu _ _ _ _ _ _ _ _ _ hb46 (fun H locs ls hP hD hS hl => ?_) H locs ls hP hD hS (lv_sub hl [1, 2, 3, 4, 0] rfl)
        obtain ⟨x47, ex47⟩ : ∃ y : Int32, y = x1 + 1 := ⟨_, rfl⟩
        replace hm := lt_el hm ex47
        refine lv_iinc (v := x47) (lv' := [(3, .int x47), (0, .ref a_0), (1, .ref a_1), (2, .ref a_2)]) hx hb d_St_find_134 hl (k := 3) rfl (by rw [ex47]; rfl) (by decide) rfl (fun ls hl => ?_)
        refine lv_goto (tgt := 7) hx hb d_St_find_137 (by decide) ?_
        exact ih _ _ _ _ _ _ _ _ _ hm KE H locs ls hP hD hS (lv_sub hl [1, 2, 3, 0] rfl)
  obtain ⟨x6, f7, f8, f9, hb48, hm⟩ := bd4_e hm
  refine L7_10 fu _ _ _ _ _ _ _ _ _ hb48 (fun H locs ls hP hD hS hl => ?_) H locs ls hP hD hS (lv_sub hl [1, 2, 3, 0] rfl)
  cases hm
  exact hret _ H locs ls d_St_find_140 hP hD hS
set_option maxHeartbeats 4000000 in
set_option maxRecDepth 100000 in
theorem c_St_find (l : Launch) (dC : Nat → ClassId) (dI : Nat → Nat → Nat) {cI cZ cJ : ClassId} (a_0 a_0_width a_0_oldGap a_0_newGap a_1 a_1_places a_2 a_2_places : Nat) (sz : Nat) (v_0_count : Int32) (f_0_width : Nat → Int32) (f_0_oldGap : Nat → Int32) (f_0_newGap : Nat → Int32) (v_1_count : Int32) (f_1_places : Nat → Int32) (v_2_count : Int32) (f_2_places : Nat → Int32)  (ov_0_count : Int32) (of_0_width : Nat → Int32) (of_0_oldGap : Nat → Int32) (of_0_newGap : Nat → Int32) (hm : m_St_find v_0_count f_0_width f_0_oldGap f_0_newGap v_1_count f_1_places v_2_count f_2_places = some (ov_0_count, of_0_width, of_0_oldGap, of_0_newGap)) : Met l y_St_find w_St_find rm_St_find (PP dC dI [(cI, .int), (cZ, .boolean), (cJ, .long)] [.ref a_0, .ref a_1, .ref a_2] sz (wl_St_find a_0 a_0_width a_0_oldGap a_0_newGap a_1 a_1_places a_2 a_2_places cI v_0_count f_0_width f_0_oldGap f_0_newGap v_1_count f_1_places v_2_count f_2_places)) (QV dC dI [(cI, .int), (cZ, .boolean), (cJ, .long)] sz (wl_St_find a_0 a_0_width a_0_oldGap a_0_newGap a_1 a_1_places a_2 a_2_places cI v_0_count f_0_width f_0_oldGap f_0_newGap v_1_count f_1_places v_2_count f_2_places) (wl_St_find a_0 a_0_width a_0_oldGap a_0_newGap a_1 a_1_places a_2 a_2_places cI ov_0_count of_0_width of_0_oldGap of_0_newGap v_1_count f_1_places v_2_count f_2_places)) 0 0 (va_A (wl_St_find a_0 a_0_width a_0_oldGap a_0_newGap a_1 a_1_places a_2 a_2_places cI v_0_count f_0_width f_0_oldGap f_0_newGap v_1_count f_1_places v_2_count f_2_places) sz) := by
  refine Met.ofW (cc := b_St_find) (maxL := 7) (ret := none) (by decide) rfl ?_
  intro p e s m args below meth c s₁ B hml hv
  obtain ⟨rfl, hsz, hP, hK, hD0, hN⟩ := hv
  subst hsz
  have hl := lv_entry ([.ref a_0, .ref a_1, .ref a_2]) (n := 7) (Nat.le_of_ble_eq_true rfl)
  rw [lg_entry_eq]
  generalize (lg_sl ([.ref a_0, .ref a_1, .ref a_2]) ++ List.replicate (7 - (lg_sl ([.ref a_0, .ref a_1, .ref a_2])).length) Slot.unset).toArray = ls at hl ⊢
  exact t_St_find a_0 a_0_width a_0_oldGap a_0_newGap a_1 a_1_places a_2 a_2_places v_0_count f_0_width f_0_oldGap f_0_newGap v_1_count f_1_places v_2_count f_2_places ov_0_count of_0_width of_0_oldGap of_0_newGap B.exec B.bytes hml (findClass_of_methodNamed B.named) (atoms_spec (ws := w_St_find) B.pre) hK hN (fun q h => Or.inr h) (fun pc H locs ls hd hP9 hD9 hS => W.vret B.exec B.bytes B.returns (fun t ht hW => ⟨⟨(), rfl, trivial, by rw [ht]; exact hP9, va_K.moved hW.alike hK, hD9⟩, hS.F ht⟩) hS.2.2 hd) hm s.heap [] ls hP hD0.self va_S.rf hl
