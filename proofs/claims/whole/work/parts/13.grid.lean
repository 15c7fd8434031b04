theorem k_40 : ((.fieldLink "SpaceCycles$Grid" 14 "SpaceCycles$Grid" "xs" "LSpaceCycles$Cuts;") : Cond) ∈ gl := gl_i 296 (by decide +kernel) (by decide +kernel)
theorem k_41 : ((.fieldLink "SpaceCycles$Grid" 29 "SpaceCycles$Cuts" "count" "I") : Cond) ∈ gl := gl_i 287 (by decide +kernel) (by decide +kernel)
theorem k_42 : ((.fieldLink "SpaceCycles$Grid" 18 "SpaceCycles$Grid" "ys" "LSpaceCycles$Cuts;") : Cond) ∈ gl := gl_i 300 (by decide +kernel) (by decide +kernel)
theorem k_43 : ((.fieldLink "SpaceCycles$Grid" 32 "SpaceCycles$Lines" "count" "I") : Cond) ∈ gl := gl_i 74 (by decide +kernel) (by decide +kernel)
theorem k_44 : ((.fieldLink "SpaceCycles$Grid" 35 "SpaceCycles$Lines" "lowX" "[I") : Cond) ∈ gl := gl_i 44 (by decide +kernel) (by decide +kernel)
theorem k_45 : ((.code ⟨"SpaceCycles$Cuts", "add", "(I)V"⟩ prog_3_method_2_code 5 none) : Cond) ∈ gl := gl_i 521 (by decide +kernel) (by decide +kernel)
theorem k_46 : ((.selects "SpaceCycles$Cuts" ⟨"SpaceCycles$Cuts", "add", "(I)V"⟩ ⟨"SpaceCycles$Cuts", "add", "(I)V"⟩) : Cond) ∈ gl := gl_i 520 (by decide +kernel) (by decide +kernel)
theorem k_47 : ((.instanceMethod ⟨"SpaceCycles$Cuts", "add", "(I)V"⟩) : Cond) ∈ gl := gl_i 519 (by decide +kernel) (by decide +kernel)
theorem k_48 : ((.methodLink "SpaceCycles$Grid" 38 ⟨"SpaceCycles$Cuts", "add", "(I)V"⟩) : Cond) ∈ gl := gl_i 518 (by decide +kernel) (by decide +kernel)
theorem k_49 : ((.fieldLink "SpaceCycles$Grid" 42 "SpaceCycles$Lines" "highX" "[I") : Cond) ∈ gl := gl_i 56 (by decide +kernel) (by decide +kernel)
theorem k_50 : ((.fieldLink "SpaceCycles$Grid" 45 "SpaceCycles$Lines" "lowY" "[I") : Cond) ∈ gl := gl_i 50 (by decide +kernel) (by decide +kernel)
theorem k_51 : ((.fieldLink "SpaceCycles$Grid" 48 "SpaceCycles$Lines" "highY" "[I") : Cond) ∈ gl := gl_i 61 (by decide +kernel) (by decide +kernel)
-- SpaceCycles$Grid.cut(LSpaceCycles$Lines;)V
abbrev b_Gr_cut : ByteArray := prog_5_method_2_code
abbrev y_Gr_cut : MethodName := ⟨"SpaceCycles$Grid", "cut", "(LSpaceCycles$Lines;)V"⟩
abbrev w_Gr_cut : List Cond := Cond.code y_Gr_cut b_Gr_cut 3 none :: gl
abbrev rm_Gr_cut : Room := { frames := 2, cells := 0, slots := 0, locals := 46 }
theorem d_Gr_cut_0 : decode b_Gr_cut 0 = .ok (.aload_n 0, 1) := by decide +kernel
theorem d_Gr_cut_1 : decode b_Gr_cut 1 = .ok (.getfield 14, 3) := by decide +kernel
theorem d_Gr_cut_4 : decode b_Gr_cut 4 = .ok (.iconst 0, 1) := by decide +kernel
theorem d_Gr_cut_5 : decode b_Gr_cut 5 = .ok (.putfield 29, 3) := by decide +kernel
theorem d_Gr_cut_8 : decode b_Gr_cut 8 = .ok (.aload_n 0, 1) := by decide +kernel
theorem d_Gr_cut_9 : decode b_Gr_cut 9 = .ok (.getfield 18, 3) := by decide +kernel
theorem d_Gr_cut_12 : decode b_Gr_cut 12 = .ok (.iconst 0, 1) := by decide +kernel
theorem d_Gr_cut_13 : decode b_Gr_cut 13 = .ok (.putfield 29, 3) := by decide +kernel
theorem d_Gr_cut_16 : decode b_Gr_cut 16 = .ok (.iconst 0, 1) := by decide +kernel
theorem d_Gr_cut_17 : decode b_Gr_cut 17 = .ok (.istore_n 2, 1) := by decide +kernel
theorem d_Gr_cut_18 : decode b_Gr_cut 18 = .ok (.iload_n 2, 1) := by decide +kernel
theorem d_Gr_cut_19 : decode b_Gr_cut 19 = .ok (.aload_n 1, 1) := by decide +kernel
theorem d_Gr_cut_20 : decode b_Gr_cut 20 = .ok (.getfield 32, 3) := by decide +kernel
theorem d_Gr_cut_23 : decode b_Gr_cut 23 = .ok (.if_icmp .ge 61, 3) := by decide +kernel
theorem d_Gr_cut_26 : decode b_Gr_cut 26 = .ok (.aload_n 0, 1) := by decide +kernel
theorem d_Gr_cut_27 : decode b_Gr_cut 27 = .ok (.getfield 14, 3) := by decide +kernel
theorem d_Gr_cut_30 : decode b_Gr_cut 30 = .ok (.aload_n 1, 1) := by decide +kernel
theorem d_Gr_cut_31 : decode b_Gr_cut 31 = .ok (.getfield 35, 3) := by decide +kernel
theorem d_Gr_cut_34 : decode b_Gr_cut 34 = .ok (.iload_n 2, 1) := by decide +kernel
theorem d_Gr_cut_35 : decode b_Gr_cut 35 = .ok (.iaload, 1) := by decide +kernel
theorem d_Gr_cut_36 : decode b_Gr_cut 36 = .ok (.invokevirtual 38, 3) := by decide +kernel
theorem d_Gr_cut_39 : decode b_Gr_cut 39 = .ok (.aload_n 0, 1) := by decide +kernel
theorem d_Gr_cut_40 : decode b_Gr_cut 40 = .ok (.getfield 14, 3) := by decide +kernel
theorem d_Gr_cut_43 : decode b_Gr_cut 43 = .ok (.aload_n 1, 1) := by decide +kernel
theorem d_Gr_cut_44 : decode b_Gr_cut 44 = .ok (.getfield 42, 3) := by decide +kernel
theorem d_Gr_cut_47 : decode b_Gr_cut 47 = .ok (.iload_n 2, 1) := by decide +kernel
theorem d_Gr_cut_48 : decode b_Gr_cut 48 = .ok (.iaload, 1) := by decide +kernel
theorem d_Gr_cut_49 : decode b_Gr_cut 49 = .ok (.invokevirtual 38, 3) := by decide +kernel
theorem d_Gr_cut_52 : decode b_Gr_cut 52 = .ok (.aload_n 0, 1) := by decide +kernel
theorem d_Gr_cut_53 : decode b_Gr_cut 53 = .ok (.getfield 18, 3) := by decide +kernel
theorem d_Gr_cut_56 : decode b_Gr_cut 56 = .ok (.aload_n 1, 1) := by decide +kernel
theorem d_Gr_cut_57 : decode b_Gr_cut 57 = .ok (.getfield 45, 3) := by decide +kernel
theorem d_Gr_cut_60 : decode b_Gr_cut 60 = .ok (.iload_n 2, 1) := by decide +kernel
theorem d_Gr_cut_61 : decode b_Gr_cut 61 = .ok (.iaload, 1) := by decide +kernel
theorem d_Gr_cut_62 : decode b_Gr_cut 62 = .ok (.invokevirtual 38, 3) := by decide +kernel
theorem d_Gr_cut_65 : decode b_Gr_cut 65 = .ok (.aload_n 0, 1) := by decide +kernel
theorem d_Gr_cut_66 : decode b_Gr_cut 66 = .ok (.getfield 18, 3) := by decide +kernel
theorem d_Gr_cut_69 : decode b_Gr_cut 69 = .ok (.aload_n 1, 1) := by decide +kernel
theorem d_Gr_cut_70 : decode b_Gr_cut 70 = .ok (.getfield 48, 3) := by decide +kernel
theorem d_Gr_cut_73 : decode b_Gr_cut 73 = .ok (.iload_n 2, 1) := by decide +kernel
theorem d_Gr_cut_74 : decode b_Gr_cut 74 = .ok (.iaload, 1) := by decide +kernel
theorem d_Gr_cut_75 : decode b_Gr_cut 75 = .ok (.invokevirtual 38, 3) := by decide +kernel
theorem d_Gr_cut_78 : decode b_Gr_cut 78 = .ok (.iinc 2 1, 3) := by decide +kernel
theorem d_Gr_cut_81 : decode b_Gr_cut 81 = .ok (.goto (-63), 3) := by decide +kernel
theorem d_Gr_cut_84 : decode b_Gr_cut 84 = .ok (.return_, 1) := by decide +kernel
abbrev wl_Gr_cut (a_0 : Nat) (a_0_xs : Nat) (a_0_xs_places : Nat) (a_0_ys : Nat) (a_0_ys_places : Nat) (a_1 : Nat) (a_1_lowX : Nat) (a_1_lowY : Nat) (a_1_highX : Nat) (a_1_highY : Nat) (b_0_cells : Nat) (b_1_thickness : Nat) (b_1_doors : Nat) (b_1_doorFrom : Nat) (b_1_doorTo : Nat) (cI : ClassId) (v_0_spaces : Int32) (v_0_xs_count : Int32) (f_0_xs_places : Nat → Int32) (v_0_ys_count : Int32) (f_0_ys_places : Nat → Int32) (v_1_count : Int32) (f_1_lowX : Nat → Int32) (f_1_lowY : Nat → Int32) (f_1_highX : Nat → Int32) (f_1_highY : Nat → Int32) : va_W := [(a_0, .inr (8, [.ref a_0_xs, .ref a_0_ys, .ref b_0_cells, .int v_0_spaces])), (a_0_xs, .inr (9, [.ref a_0_xs_places, .int v_0_xs_count])), (a_0_xs_places, .inl (cI, 40, .inl f_0_xs_places)), (a_0_ys, .inr (9, [.ref a_0_ys_places, .int v_0_ys_count])), (a_0_ys_places, .inl (cI, 40, .inl f_0_ys_places)), (a_1, .inr (1, [.ref a_1_lowX, .ref a_1_lowY, .ref a_1_highX, .ref a_1_highY, .ref b_1_thickness, .ref b_1_doors, .ref b_1_doorFrom, .ref b_1_doorTo, .int v_1_count])), (a_1_lowX, .inl (cI, 20, .inl f_1_lowX)), (a_1_lowY, .inl (cI, 20, .inl f_1_lowY)), (a_1_highX, .inl (cI, 20, .inl f_1_highX)), (a_1_highY, .inl (cI, 20, .inl f_1_highY))]
def m_Gr_cut_L18 (v_1_count : Int32) (f_1_lowX : Nat → Int32) (f_1_lowY : Nat → Int32) (f_1_highX : Nat → Int32) (f_1_highY : Nat → Int32) : Nat → Int32 → Int32 → (Nat → Int32) → Int32 → (Nat → Int32) → Option ((Int32) × (Nat → Int32) × (Int32) × (Nat → Int32))
  | 0, _, _, _, _, _ => none
  | n + 1, l2, v_0_xs_count, f_0_xs_places, v_0_ys_count, f_0_ys_places =>
    if v_1_count ≤ l2 then (
      some (v_0_xs_count, f_0_xs_places, v_0_ys_count, f_0_ys_places))
    else (
      gI l2 20 <|
      bd2 (m_Cu_add (f_1_lowX l2.toNatClampNeg) v_0_xs_count f_0_xs_places) fun x3 f4 =>
      gI l2 20 <|
      bd2 (m_Cu_add (f_1_highX l2.toNatClampNeg) x3 f4) fun x7 f8 =>
      gI l2 20 <|
      bd2 (m_Cu_add (f_1_lowY l2.toNatClampNeg) v_0_ys_count f_0_ys_places) fun x11 f12 =>
      gI l2 20 <|
      bd2 (m_Cu_add (f_1_highY l2.toNatClampNeg) x11 f12) fun x15 f16 =>
      lt_ (l2 + 1) fun x18 =>
      m_Gr_cut_L18 v_1_count f_1_lowX f_1_lowY f_1_highX f_1_highY n x18 x7 f8 x15 f16)
def m_Gr_cut (v_0_xs_count : Int32) (f_0_xs_places : Nat → Int32) (v_0_ys_count : Int32) (f_0_ys_places : Nat → Int32) (v_1_count : Int32) (f_1_lowX : Nat → Int32) (f_1_lowY : Nat → Int32) (f_1_highX : Nat → Int32) (f_1_highY : Nat → Int32) : Option ((Int32) × (Nat → Int32) × (Int32) × (Nat → Int32)) :=
  bd4 (m_Gr_cut_L18 v_1_count f_1_lowX f_1_lowY f_1_highX f_1_highY fu 0 0 f_0_xs_places 0 f_0_ys_places) fun x6 f7 x8 f9 =>
  some (x6, f7, x8, f9)

set_option maxHeartbeats 4000000 in
set_option maxRecDepth 100000 in
theorem t_Gr_cut {p : Program} {l : Launch} {e : Env} {s : State} {m : MethodId} {args : Array Value} {below : List Frame} {meth : Method} {c : Code} {A : Nat → Prop} {Q : State → Prop} {dC : Nat → ClassId} {dI : Nat → Nat → Nat} {cI cZ cJ : ClassId} (a_0 a_0_xs a_0_xs_places a_0_ys a_0_ys_places a_1 a_1_lowX a_1_lowY a_1_highX a_1_highY b_0_cells b_1_thickness b_1_doors b_1_doorFrom b_1_doorTo : Nat) (v_0_spaces : Int32) (v_0_xs_count : Int32) (f_0_xs_places : Nat → Int32) (v_0_ys_count : Int32) (f_0_ys_places : Nat → Int32) (v_1_count : Int32) (f_1_lowX : Nat → Int32) (f_1_lowY : Nat → Int32) (f_1_highX : Nat → Int32) (f_1_highY : Nat → Int32)  (ov_0_xs_count : Int32) (of_0_xs_places : Nat → Int32) (ov_0_ys_count : Int32) (of_0_ys_places : Nat → Int32) (hx : p.tables.exec = Jvm.exec) (hb : c.code = b_Gr_cut) (hml : c.maxLocals = 3) (hown : s.vm.findClass "SpaceCycles$Grid" = some m.cls) (hts : ∀ w ∈ w_Gr_cut, w.before args s = true) (hK : va_K (dC, dI) vwCl [(cI, .int), (cZ, .boolean), (cJ, .long)] s) (hN : NX s) (hA : ∀ q : Nat, s.heap.size ≤ q → A q)
    (hret : ∀ (pc : Nat) (H : Heap) (locs : List Loc) (ls : Array Slot), decode b_Gr_cut pc = .ok (.return_, 1) → va_P (dC, dI) vwCl (wl_Gr_cut a_0 a_0_xs a_0_xs_places a_0_ys a_0_ys_places a_1 a_1_lowX a_1_lowY a_1_highX a_1_highY b_0_cells b_1_thickness b_1_doors b_1_doorFrom b_1_doorTo cI v_0_spaces ov_0_xs_count of_0_xs_places ov_0_ys_count of_0_ys_places v_1_count f_1_lowX f_1_lowY f_1_highX f_1_highY) H → va_D A (wl_Gr_cut a_0 a_0_xs a_0_xs_places a_0_ys a_0_ys_places a_1 a_1_lowX a_1_lowY a_1_highX a_1_highY b_0_cells b_1_thickness b_1_doors b_1_doorFrom b_1_doorTo cI v_0_spaces ov_0_xs_count of_0_xs_places ov_0_ys_count of_0_ys_places v_1_count f_1_lowX f_1_lowY f_1_highX f_1_highY) → va_S A s.heap H locs → W p l e rm_Gr_cut s m args below meth c H locs 0 0 Q (F0 m pc ls []))
    (hm : m_Gr_cut v_0_xs_count f_0_xs_places v_0_ys_count f_0_ys_places v_1_count f_1_lowX f_1_lowY f_1_highX f_1_highY = some (ov_0_xs_count, of_0_xs_places, ov_0_ys_count, of_0_ys_places)) : ∀ (H : Heap) (locs : List Loc) (ls : Array Slot), va_P (dC, dI) vwCl (wl_Gr_cut a_0 a_0_xs a_0_xs_places a_0_ys a_0_ys_places a_1 a_1_lowX a_1_lowY a_1_highX a_1_highY b_0_cells b_1_thickness b_1_doors b_1_doorFrom b_1_doorTo cI v_0_spaces v_0_xs_count f_0_xs_places v_0_ys_count f_0_ys_places v_1_count f_1_lowX f_1_lowY f_1_highX f_1_highY) H → va_D A (wl_Gr_cut a_0 a_0_xs a_0_xs_places a_0_ys a_0_ys_places a_1 a_1_lowX a_1_lowY a_1_highX a_1_highY b_0_cells b_1_thickness b_1_doors b_1_doorFrom b_1_doorTo cI v_0_spaces v_0_xs_count f_0_xs_places v_0_ys_count f_0_ys_places v_1_count f_1_lowX f_1_lowY f_1_highX f_1_highY) → va_S A s.heap H locs → lv_has ls 3 [(0, .ref a_0), (1, .ref a_1)] → W p l e rm_Gr_cut s m args below meth c H locs 0 0 Q (F0 m 0 ls []) := by
  intro H locs ls hP hD hS hl
  unfold m_Gr_cut at hm
  refine lv_aload_n hx hb d_Gr_cut_0 rfl (lv_at hl 0 rfl) ?_
  refine va_get (D := (dC, dI)) (ci := 8) (v := .ref a_0_xs) (C := "SpaceCycles$Grid") (T := F_Gr) (N := 4) hx hb hts (in_F i_Gr) hown hK hP 0 rfl rfl 0 (by decide) (hts _ (in_c k_40)) (fun _ h9 => h9) rfl d_Gr_cut_1 ?_
  refine lv_iconst (v := 0) hx hb d_Gr_cut_4 (by decide) ?_
  refine va_put (D := (dC, dI)) (ci := 9) (v := .int 0) (ty := .int) (C := "SpaceCycles$Cuts") (T := F_Cu) (N := 2) hx hb hts (in_F i_Cu) t_Cu t_Cu_ok n_Cu hown hK hP hD hS 1 rfl rfl 1 (by decide) (hts _ (in_c k_41)) (fun _ h9 => h9) rfl (by decide +kernel) rfl rfl (Nat.le_of_ble_eq_true rfl) d_Gr_cut_5 (fun H locs hP hD hS => ?_)
  have hP : va_P (dC, dI) vwCl (wl_Gr_cut a_0 a_0_xs a_0_xs_places a_0_ys a_0_ys_places a_1 a_1_lowX a_1_lowY a_1_highX a_1_highY b_0_cells b_1_thickness b_1_doors b_1_doorFrom b_1_doorTo cI v_0_spaces 0 f_0_xs_places v_0_ys_count f_0_ys_places v_1_count f_1_lowX f_1_lowY f_1_highX f_1_highY) H := hP
  have hD : va_D A (wl_Gr_cut a_0 a_0_xs a_0_xs_places a_0_ys a_0_ys_places a_1 a_1_lowX a_1_lowY a_1_highX a_1_highY b_0_cells b_1_thickness b_1_doors b_1_doorFrom b_1_doorTo cI v_0_spaces 0 f_0_xs_places v_0_ys_count f_0_ys_places v_1_count f_1_lowX f_1_lowY f_1_highX f_1_highY) := hD
  refine lv_aload_n hx hb d_Gr_cut_8 rfl (lv_at hl 0 rfl) ?_
  refine va_get (D := (dC, dI)) (ci := 8) (v := .ref a_0_ys) (C := "SpaceCycles$Grid") (T := F_Gr) (N := 4) hx hb hts (in_F i_Gr) hown hK hP 0 rfl rfl 1 (by decide) (hts _ (in_c k_42)) (fun _ h9 => h9) rfl d_Gr_cut_9 ?_
  refine lv_iconst (v := 0) hx hb d_Gr_cut_12 (by decide) ?_
  refine va_put (D := (dC, dI)) (ci := 9) (v := .int 0) (ty := .int) (C := "SpaceCycles$Cuts") (T := F_Cu) (N := 2) hx hb hts (in_F i_Cu) t_Cu t_Cu_ok n_Cu hown hK hP hD hS 3 rfl rfl 1 (by decide) (hts _ (in_c k_41)) (fun _ h9 => h9) rfl (by decide +kernel) rfl rfl (Nat.le_of_ble_eq_true rfl) d_Gr_cut_13 (fun H locs hP hD hS => ?_)
  have hP : va_P (dC, dI) vwCl (wl_Gr_cut a_0 a_0_xs a_0_xs_places a_0_ys a_0_ys_places a_1 a_1_lowX a_1_lowY a_1_highX a_1_highY b_0_cells b_1_thickness b_1_doors b_1_doorFrom b_1_doorTo cI v_0_spaces 0 f_0_xs_places 0 f_0_ys_places v_1_count f_1_lowX f_1_lowY f_1_highX f_1_highY) H := hP
  have hD : va_D A (wl_Gr_cut a_0 a_0_xs a_0_xs_places a_0_ys a_0_ys_places a_1 a_1_lowX a_1_lowY a_1_highX a_1_highY b_0_cells b_1_thickness b_1_doors b_1_doorFrom b_1_doorTo cI v_0_spaces 0 f_0_xs_places 0 f_0_ys_places v_1_count f_1_lowX f_1_lowY f_1_highX f_1_highY) := hD
  refine lv_iconst (v := 0) hx hb d_Gr_cut_16 (by decide) ?_
  refine lv_istore_n (lv' := [(2, .int 0), (0, .ref a_0), (1, .ref a_1)]) hx hb d_Gr_cut_17 rfl hl (by decide) rfl (fun ls hl => ?_)
  have L18_10 : ∀ (n : Nat) (x1 : Int32) (x2 : Int32) (f3 : Nat → Int32) (x4 : Int32) (f5 : Nat → Int32) (x6 : Int32) (f7 : Nat → Int32) (x8 : Int32) (f9 : Nat → Int32), m_Gr_cut_L18 v_1_count f_1_lowX f_1_lowY f_1_highX f_1_highY n x1 x2 f3 x4 f5 = some (x6, f7, x8, f9) → (∀ (H : Heap) (locs : List Loc) (ls : Array Slot), va_P (dC, dI) vwCl (wl_Gr_cut a_0 a_0_xs a_0_xs_places a_0_ys a_0_ys_places a_1 a_1_lowX a_1_lowY a_1_highX a_1_highY b_0_cells b_1_thickness b_1_doors b_1_doorFrom b_1_doorTo cI v_0_spaces x6 f7 x8 f9 v_1_count f_1_lowX f_1_lowY f_1_highX f_1_highY) H → va_D A (wl_Gr_cut a_0 a_0_xs a_0_xs_places a_0_ys a_0_ys_places a_1 a_1_lowX a_1_lowY a_1_highX a_1_highY b_0_cells b_1_thickness b_1_doors b_1_doorFrom b_1_doorTo cI v_0_spaces x6 f7 x8 f9 v_1_count f_1_lowX f_1_lowY f_1_highX f_1_highY) → va_S A s.heap H locs → lv_has ls 3 [] → W p l e rm_Gr_cut s m args below meth c H locs 0 0 Q (F0 m 84 ls [])) → ∀ (H : Heap) (locs : List Loc) (ls : Array Slot), va_P (dC, dI) vwCl (wl_Gr_cut a_0 a_0_xs a_0_xs_places a_0_ys a_0_ys_places a_1 a_1_lowX a_1_lowY a_1_highX a_1_highY b_0_cells b_1_thickness b_1_doors b_1_doorFrom b_1_doorTo cI v_0_spaces x2 f3 x4 f5 v_1_count f_1_lowX f_1_lowY f_1_highX f_1_highY) H → va_D A (wl_Gr_cut a_0 a_0_xs a_0_xs_places a_0_ys a_0_ys_places a_1 a_1_lowX a_1_lowY a_1_highX a_1_highY b_0_cells b_1_thickness b_1_doors b_1_doorFrom b_1_doorTo cI v_0_spaces x2 f3 x4 f5 v_1_count f_1_lowX f_1_lowY f_1_highX f_1_highY) → va_S A s.heap H locs → lv_has ls 3 [(0, .ref a_0), (1, .ref a_1), (2, .int x1)] → W p l e rm_Gr_cut s m args below meth c H locs 0 0 Q (F0 m 18 ls []) := by
    intro n
    induction n with
    | zero => intro x1 x2 f3 x4 f5 x6 f7 x8 f9 hm; simp [m_Gr_cut_L18] at hm
    | succ n ih =>
      intro x1 x2 f3 x4 f5 x6 f7 x8 f9 hm KE H locs ls hP hD hS hl
      rw [m_Gr_cut_L18] at hm
      refine lv_iload_n hx hb d_Gr_cut_18 rfl (lv_at hl 2 rfl) ?_
      refine lv_aload_n hx hb d_Gr_cut_19 rfl (lv_at hl 1 rfl) ?_
      refine va_get (D := (dC, dI)) (ci := 1) (v := .int v_1_count) (C := "SpaceCycles$Lines") (T := F_Li) (N := 9) hx hb hts (in_F i_Li) hown hK hP 5 rfl rfl 8 (by decide) (hts _ (in_c k_43)) (fun _ h9 => h9) rfl d_Gr_cut_20 ?_
      refine lv_icmp_ge (tgt := 84) hx hb d_Gr_cut_23 (by decide) (fun c11 => ?_) (fun c11 => ?_)
      · replace hm := if_t hm c11
        cases hm
        exact KE H locs ls hP hD hS (lv_sub hl [] rfl)
      · replace hm := if_f hm c11
        refine lv_aload_n hx hb d_Gr_cut_26 rfl (lv_at hl 0 rfl) ?_
        refine va_get (D := (dC, dI)) (ci := 8) (v := .ref a_0_xs) (C := "SpaceCycles$Grid") (T := F_Gr) (N := 4) hx hb hts (in_F i_Gr) hown hK hP 0 rfl rfl 0 (by decide) (hts _ (in_c k_40)) (fun _ h9 => h9) rfl d_Gr_cut_27 ?_
        refine lv_aload_n hx hb d_Gr_cut_30 rfl (lv_at hl 1 rfl) ?_
        refine va_get (D := (dC, dI)) (ci := 1) (v := .ref a_1_lowX) (C := "SpaceCycles$Lines") (T := F_Li) (N := 9) hx hb hts (in_F i_Li) hown hK hP 5 rfl rfl 0 (by decide) (hts _ (in_c k_44)) (fun _ h9 => h9) rfl d_Gr_cut_31 ?_
        refine lv_iload_n hx hb d_Gr_cut_34 rfl (lv_at hl 2 rfl) ?_
        obtain ⟨hi12, hm⟩ := gI_e hm
        refine va_iald hx hb hK hP 6 0 rfl rfl hi12 d_Gr_cut_35 ?_
        obtain ⟨x13, f14, hb15, hm⟩ := bd2_e hm
        have hPc := hP.sub (ws' := (wl_Cu_add a_0_xs a_0_xs_places cI x2 f3)) [1, 2] rfl
        have hDc := hD.sub (ws' := (wl_Cu_add a_0_xs a_0_xs_places cI x2 f3)) [1, 2] (by decide) rfl
        refine cl_v (wc' := (wl_Cu_add a_0_xs a_0_xs_places cI x13 f14)) (va_runV (As := [.int (f_1_lowX x1.toNatClampNeg)]) (rest := []) ⟨hx, hb, hml, hown, hts⟩ (c_Cu_add l dC dI (cI := cI) (cZ := cZ) (cJ := cJ) a_0_xs a_0_xs_places H.size x2 f3 (f_1_lowX x1.toNatClampNeg) x13 f14 hb15) (cwV 1 hts (gl_V k_48 k_47 k_46 k_9 k_45) rfl rfl rfl (by decide +kernel) ⟨Nat.le_of_ble_eq_true rfl, Nat.le_of_ble_eq_true rfl⟩) ⟨PP_blind, va_recv hK hPc (ci := 9) (q0 := 0) rfl rfl, fun U hU hW => PP_at hK hN hPc hDc hU hW⟩ rfl rfl hl.1 rfl (lv_room (Nat.le_of_ble_eq_true rfl)) d_Gr_cut_36 ⟨Nat.zero_le _, Nat.zero_le _⟩) hP hD hS hA [1, 2] [0, 3, 4, 5, 6, 7, 8, 9] rfl rfl (by decide) (by decide) (fun H locs hP hD hS => ?_)
        have hP : va_P (dC, dI) vwCl (wl_Gr_cut a_0 a_0_xs a_0_xs_places a_0_ys a_0_ys_places a_1 a_1_lowX a_1_lowY a_1_highX a_1_highY b_0_cells b_1_thickness b_1_doors b_1_doorFrom b_1_doorTo cI v_0_spaces x13 f14 x4 f5 v_1_count f_1_lowX f_1_lowY f_1_highX f_1_highY) H := hP.sub [0, 8, 9, 1, 2, 3, 4, 5, 6, 7] rfl
        have hD : va_D A (wl_Gr_cut a_0 a_0_xs a_0_xs_places a_0_ys a_0_ys_places a_1 a_1_lowX a_1_lowY a_1_highX a_1_highY b_0_cells b_1_thickness b_1_doors b_1_doorFrom b_1_doorTo cI v_0_spaces x13 f14 x4 f5 v_1_count f_1_lowX f_1_lowY f_1_highX f_1_highY) := hD.sub [0, 8, 9, 1, 2, 3, 4, 5, 6, 7] (by decide) rfl
        refine lv_aload_n hx hb d_Gr_cut_39 rfl (lv_at hl 0 rfl) ?_
        refine va_get (D := (dC, dI)) (ci := 8) (v := .ref a_0_xs) (C := "SpaceCycles$Grid") (T := F_Gr) (N := 4) hx hb hts (in_F i_Gr) hown hK hP 0 rfl rfl 0 (by decide) (hts _ (in_c k_40)) (fun _ h9 => h9) rfl d_Gr_cut_40 ?_
        refine lv_aload_n hx hb d_Gr_cut_43 rfl (lv_at hl 1 rfl) ?_
        refine va_get (D := (dC, dI)) (ci := 1) (v := .ref a_1_highX) (C := "SpaceCycles$Lines") (T := F_Li) (N := 9) hx hb hts (in_F i_Li) hown hK hP 5 rfl rfl 2 (by decide) (hts _ (in_c k_49)) (fun _ h9 => h9) rfl d_Gr_cut_44 ?_
        refine lv_iload_n hx hb d_Gr_cut_47 rfl (lv_at hl 2 rfl) ?_
        obtain ⟨hi16, hm⟩ := gI_e hm
        refine va_iald hx hb hK hP 8 0 rfl rfl hi16 d_Gr_cut_48 ?_
        obtain ⟨x17, f18, hb19, hm⟩ := bd2_e hm
        have hPc := hP.sub (ws' := (wl_Cu_add a_0_xs a_0_xs_places cI x13 f14)) [1, 2] rfl
        have hDc := hD.sub (ws' := (wl_Cu_add a_0_xs a_0_xs_places cI x13 f14)) [1, 2] (by decide) rfl
        refine cl_v (wc' := (wl_Cu_add a_0_xs a_0_xs_places cI x17 f18)) (va_runV (As := [.int (f_1_highX x1.toNatClampNeg)]) (rest := []) ⟨hx, hb, hml, hown, hts⟩ (c_Cu_add l dC dI (cI := cI) (cZ := cZ) (cJ := cJ) a_0_xs a_0_xs_places H.size x13 f14 (f_1_highX x1.toNatClampNeg) x17 f18 hb19) (cwV 1 hts (gl_V k_48 k_47 k_46 k_9 k_45) rfl rfl rfl (by decide +kernel) ⟨Nat.le_of_ble_eq_true rfl, Nat.le_of_ble_eq_true rfl⟩) ⟨PP_blind, va_recv hK hPc (ci := 9) (q0 := 0) rfl rfl, fun U hU hW => PP_at hK hN hPc hDc hU hW⟩ rfl rfl hl.1 rfl (lv_room (Nat.le_of_ble_eq_true rfl)) d_Gr_cut_49 ⟨Nat.zero_le _, Nat.zero_le _⟩) hP hD hS hA [1, 2] [0, 3, 4, 5, 6, 7, 8, 9] rfl rfl (by decide) (by decide) (fun H locs hP hD hS => ?_)
        have hP : va_P (dC, dI) vwCl (wl_Gr_cut a_0 a_0_xs a_0_xs_places a_0_ys a_0_ys_places a_1 a_1_lowX a_1_lowY a_1_highX a_1_highY b_0_cells b_1_thickness b_1_doors b_1_doorFrom b_1_doorTo cI v_0_spaces x17 f18 x4 f5 v_1_count f_1_lowX f_1_lowY f_1_highX f_1_highY) H := hP.sub [0, 8, 9, 1, 2, 3, 4, 5, 6, 7] rfl
        have hD : va_D A (wl_Gr_cut a_0 a_0_xs a_0_xs_places a_0_ys a_0_ys_places a_1 a_1_lowX a_1_lowY a_1_highX a_1_highY b_0_cells b_1_thickness b_1_doors b_1_doorFrom b_1_doorTo cI v_0_spaces x17 f18 x4 f5 v_1_count f_1_lowX f_1_lowY f_1_highX f_1_highY) := hD.sub [0, 8, 9, 1, 2, 3, 4, 5, 6, 7] (by decide) rfl
        refine lv_aload_n hx hb d_Gr_cut_52 rfl (lv_at hl 0 rfl) ?_
        refine va_get (D := (dC, dI)) (ci := 8) (v := .ref a_0_ys) (C := "SpaceCycles$Grid") (T := F_Gr) (N := 4) hx hb hts (in_F i_Gr) hown hK hP 0 rfl rfl 1 (by decide) (hts _ (in_c k_42)) (fun _ h9 => h9) rfl d_Gr_cut_53 ?_
        refine lv_aload_n hx hb d_Gr_cut_56 rfl (lv_at hl 1 rfl) ?_
        refine va_get (D := (dC, dI)) (ci := 1) (v := .ref a_1_lowY) (C := "SpaceCycles$Lines") (T := F_Li) (N := 9) hx hb hts (in_F i_Li) hown hK hP 5 rfl rfl 1 (by decide) (hts _ (in_c k_50)) (fun _ h9 => h9) rfl d_Gr_cut_57 ?_
        refine lv_iload_n hx hb d_Gr_cut_60 rfl (lv_at hl 2 rfl) ?_
        obtain ⟨hi20, hm⟩ := gI_e hm
        refine va_iald hx hb hK hP 7 0 rfl rfl hi20 d_Gr_cut_61 ?_
        obtain ⟨x21, f22, hb23, hm⟩ := bd2_e hm
        have hPc := hP.sub (ws' := (wl_Cu_add a_0_ys a_0_ys_places cI x4 f5)) [3, 4] rfl
        have hDc := hD.sub (ws' := (wl_Cu_add a_0_ys a_0_ys_places cI x4 f5)) [3, 4] (by decide) rfl
        refine cl_v (wc' := (wl_Cu_add a_0_ys a_0_ys_places cI x21 f22)) (va_runV (As := [.int (f_1_lowY x1.toNatClampNeg)]) (rest := []) ⟨hx, hb, hml, hown, hts⟩ (c_Cu_add l dC dI (cI := cI) (cZ := cZ) (cJ := cJ) a_0_ys a_0_ys_places H.size x4 f5 (f_1_lowY x1.toNatClampNeg) x21 f22 hb23) (cwV 1 hts (gl_V k_48 k_47 k_46 k_9 k_45) rfl rfl rfl (by decide +kernel) ⟨Nat.le_of_ble_eq_true rfl, Nat.le_of_ble_eq_true rfl⟩) ⟨PP_blind, va_recv hK hPc (ci := 9) (q0 := 0) rfl rfl, fun U hU hW => PP_at hK hN hPc hDc hU hW⟩ rfl rfl hl.1 rfl (lv_room (Nat.le_of_ble_eq_true rfl)) d_Gr_cut_62 ⟨Nat.zero_le _, Nat.zero_le _⟩) hP hD hS hA [3, 4] [0, 1, 2, 5, 6, 7, 8, 9] rfl rfl (by decide) (by decide) (fun H locs hP hD hS => ?_)
        have hP : va_P (dC, dI) vwCl (wl_Gr_cut a_0 a_0_xs a_0_xs_places a_0_ys a_0_ys_places a_1 a_1_lowX a_1_lowY a_1_highX a_1_highY b_0_cells b_1_thickness b_1_doors b_1_doorFrom b_1_doorTo cI v_0_spaces x17 f18 x21 f22 v_1_count f_1_lowX f_1_lowY f_1_highX f_1_highY) H := hP.sub [0, 1, 2, 8, 9, 3, 4, 5, 6, 7] rfl
        have hD : va_D A (wl_Gr_cut a_0 a_0_xs a_0_xs_places a_0_ys a_0_ys_places a_1 a_1_lowX a_1_lowY a_1_highX a_1_highY b_0_cells b_1_thickness b_1_doors b_1_doorFrom b_1_doorTo cI v_0_spaces x17 f18 x21 f22 v_1_count f_1_lowX f_1_lowY f_1_highX f_1_highY) := hD.sub [0, 1, 2, 8, 9, 3, 4, 5, 6, 7] (by decide) rfl
        refine lv_aload_n hx hb d_Gr_cut_65 rfl (lv_at hl 0 rfl) ?_
        refine va_get (D := (dC, dI)) (ci := 8) (v := .ref a_0_ys) (C := "SpaceCycles$Grid") (T := F_Gr) (N := 4) hx hb hts (in_F i_Gr) hown hK hP 0 rfl rfl 1 (by decide) (hts _ (in_c k_42)) (fun _ h9 => h9) rfl d_Gr_cut_66 ?_
        refine lv_aload_n hx hb d_Gr_cut_69 rfl (lv_at hl 1 rfl) ?_
        refine va_get (D := (dC, dI)) (ci := 1) (v := .ref a_1_highY) (C := "SpaceCycles$Lines") (T := F_Li) (N := 9) hx hb hts (in_F i_Li) hown hK hP 5 rfl rfl 3 (by decide) (hts _ (in_c k_51)) (fun _ h9 => h9) rfl d_Gr_cut_70 ?_
        refine lv_iload_n hx hb d_Gr_cut_73 rfl (lv_at hl 2 rfl) ?_
        obtain ⟨hi24, hm⟩ := gI_e hm
        refine va_iald hx hb hK hP 9 0 rfl rfl hi24 d_Gr_cut_74 ?_
        obtain ⟨x25, f26, hb27, hm⟩ := bd2_e hm
        have hPc := hP.sub (ws' := (wl_Cu_add a_0_ys a_0_ys_places cI x21 f22)) [3, 4] rfl
        have hDc := hD.sub (ws' := (wl_Cu_add a_0_ys a_0_ys_places cI x21 f22)) [3, 4] (by decide) rfl
        refine cl_v (wc' := (wl_Cu_add a_0_ys a_0_ys_places cI x25 f26)) (va_runV (As := [.int (f_1_highY x1.toNatClampNeg)]) (rest := []) ⟨hx, hb, hml, hown, hts⟩ (c_Cu_add l dC dI (cI := cI) (cZ := cZ) (cJ := cJ) a_0_ys a_0_ys_places H.size x21 f22 (f_1_highY x1.toNatClampNeg) x25 f26 hb27) (cwV 1 hts (gl_V k_48 k_47 k_46 k_9 k_45) rfl rfl rfl (by decide +kernel) ⟨Nat.le_of_ble_eq_true rfl, Nat.le_of_ble_eq_true rfl⟩) ⟨PP_blind, va_recv hK hPc (ci := 9) (q0 := 0) rfl rfl, fun U hU hW => PP_at hK hN hPc hDc hU hW⟩ rfl rfl hl.1 rfl (lv_room (Nat.le_of_ble_eq_true rfl)) d_Gr_cut_75 ⟨Nat.zero_le _, Nat.zero_le _⟩) hP hD hS hA [3, 4] [0, 1, 2, 5, 6, 7, 8, 9] rfl rfl (by decide) (by decide) (fun H locs hP hD hS => ?_)
        have hP : va_P (dC, dI) vwCl (wl_Gr_cut a_0 a_0_xs a_0_xs_places a_0_ys a_0_ys_places a_1 a_1_lowX a_1_lowY a_1_highX a_1_highY b_0_cells b_1_thickness b_1_doors b_1_doorFrom b_1_doorTo cI v_0_spaces x17 f18 x25 f26 v_1_count f_1_lowX f_1_lowY f_1_highX f_1_highY) H := hP.sub [0, 1, 2, 8, 9, 3, 4, 5, 6, 7] rfl
        have hD : va_D A (wl_Gr_cut a_0 a_0_xs a_0_xs_places a_0_ys a_0_ys_places a_1 a_1_lowX a_1_lowY a_1_highX a_1_highY b_0_cells b_1_thickness b_1_doors b_1_doorFrom b_1_doorTo cI v_0_spaces x17 f18 x25 f26 v_1_count f_1_lowX f_1_lowY f_1_highX f_1_highY) := hD.sub [0, 1, 2, 8, 9, 3, 4, 5, 6, 7] (by decide) rfl
        obtain ⟨x28, ex28⟩ : ∃ y : Int32, y = x1 + 1 := ⟨_, rfl⟩
        replace hm := lt_el hm ex28
        refine lv_iinc (v := x28) (lv' := [(2, .int x28), (0, .ref a_0), (1, .ref a_1)]) hx hb d_Gr_cut_78 hl (k := 2) rfl (by rw [ex28]; rfl) (by decide) rfl (fun ls hl => ?_)
        refine lv_goto (tgt := 18) hx hb d_Gr_cut_81 (by decide) ?_
        exact ih _ _ _ _ _ _ _ _ _ hm KE H locs ls hP hD hS (lv_sub hl [1, 2, 0] rfl)
  obtain ⟨x6, f7, x8, f9, hb29, hm⟩ := bd4_e hm
  refine L18_10 fu _ _ _ _ _ _ _ _ _ hb29 (fun H locs ls hP hD hS hl => ?_) H locs ls hP hD hS (lv_sub hl [1, 2, 0] rfl)
  cases hm
  exact hret _ H locs ls d_Gr_cut_84 hP hD hS
set_option maxHeartbeats 4000000 in
set_option maxRecDepth 100000 in
theorem c_Gr_cut (l : Launch) (dC : Nat → ClassId) (dI : Nat → Nat → Nat) {cI cZ cJ : ClassId} (a_0 a_0_xs a_0_xs_places a_0_ys a_0_ys_places a_1 a_1_lowX a_1_lowY a_1_highX a_1_highY b_0_cells b_1_thickness b_1_doors b_1_doorFrom b_1_doorTo : Nat) (sz : Nat) (v_0_spaces : Int32) (v_0_xs_count : Int32) (f_0_xs_places : Nat → Int32) (v_0_ys_count : Int32) (f_0_ys_places : Nat → Int32) (v_1_count : Int32) (f_1_lowX : Nat → Int32) (f_1_lowY : Nat → Int32) (f_1_highX : Nat → Int32) (f_1_highY : Nat → Int32)  (ov_0_xs_count : Int32) (of_0_xs_places : Nat → Int32) (ov_0_ys_count : Int32) (of_0_ys_places : Nat → Int32) (hm : m_Gr_cut v_0_xs_count f_0_xs_places v_0_ys_count f_0_ys_places v_1_count f_1_lowX f_1_lowY f_1_highX f_1_highY = some (ov_0_xs_count, of_0_xs_places, ov_0_ys_count, of_0_ys_places)) : Met l y_Gr_cut w_Gr_cut rm_Gr_cut (PP dC dI [(cI, .int), (cZ, .boolean), (cJ, .long)] [.ref a_0, .ref a_1] sz (wl_Gr_cut a_0 a_0_xs a_0_xs_places a_0_ys a_0_ys_places a_1 a_1_lowX a_1_lowY a_1_highX a_1_highY b_0_cells b_1_thickness b_1_doors b_1_doorFrom b_1_doorTo cI v_0_spaces v_0_xs_count f_0_xs_places v_0_ys_count f_0_ys_places v_1_count f_1_lowX f_1_lowY f_1_highX f_1_highY)) (QV dC dI [(cI, .int), (cZ, .boolean), (cJ, .long)] sz (wl_Gr_cut a_0 a_0_xs a_0_xs_places a_0_ys a_0_ys_places a_1 a_1_lowX a_1_lowY a_1_highX a_1_highY b_0_cells b_1_thickness b_1_doors b_1_doorFrom b_1_doorTo cI v_0_spaces v_0_xs_count f_0_xs_places v_0_ys_count f_0_ys_places v_1_count f_1_lowX f_1_lowY f_1_highX f_1_highY) (wl_Gr_cut a_0 a_0_xs a_0_xs_places a_0_ys a_0_ys_places a_1 a_1_lowX a_1_lowY a_1_highX a_1_highY b_0_cells b_1_thickness b_1_doors b_1_doorFrom b_1_doorTo cI v_0_spaces ov_0_xs_count of_0_xs_places ov_0_ys_count of_0_ys_places v_1_count f_1_lowX f_1_lowY f_1_highX f_1_highY)) 0 0 (va_A (wl_Gr_cut a_0 a_0_xs a_0_xs_places a_0_ys a_0_ys_places a_1 a_1_lowX a_1_lowY a_1_highX a_1_highY b_0_cells b_1_thickness b_1_doors b_1_doorFrom b_1_doorTo cI v_0_spaces v_0_xs_count f_0_xs_places v_0_ys_count f_0_ys_places v_1_count f_1_lowX f_1_lowY f_1_highX f_1_highY) sz) := by
  refine Met.ofW (cc := b_Gr_cut) (maxL := 3) (ret := none) (by decide) rfl ?_
  intro p e s m args below meth c s₁ B hml hv
  obtain ⟨rfl, hsz, hP, hK, hD0, hN⟩ := hv
  subst hsz
  have hl := lv_entry ([.ref a_0, .ref a_1]) (n := 3) (Nat.le_of_ble_eq_true rfl)
  rw [lg_entry_eq]
  generalize (lg_sl ([.ref a_0, .ref a_1]) ++ List.replicate (3 - (lg_sl ([.ref a_0, .ref a_1])).length) Slot.unset).toArray = ls at hl ⊢
  exact t_Gr_cut a_0 a_0_xs a_0_xs_places a_0_ys a_0_ys_places a_1 a_1_lowX a_1_lowY a_1_highX a_1_highY b_0_cells b_1_thickness b_1_doors b_1_doorFrom b_1_doorTo v_0_spaces v_0_xs_count f_0_xs_places v_0_ys_count f_0_ys_places v_1_count f_1_lowX f_1_lowY f_1_highX f_1_highY ov_0_xs_count of_0_xs_places ov_0_ys_count of_0_ys_places B.exec B.bytes hml (findClass_of_methodNamed B.named) (atoms_spec (ws := w_Gr_cut) B.pre) hK hN (fun q h => Or.inr h) (fun pc H locs ls hd hP9 hD9 hS => W.vret B.exec B.bytes B.returns (fun t ht hW => ⟨⟨(), rfl, trivial, by rw [ht]; exact hP9, va_K.moved hW.alike hK, hD9⟩, hS.F ht⟩) hS.2.2 hd) hm s.heap [] ls hP hD0.self va_S.rf hl

-- SpaceCycles$Grid.cell(II)I
abbrev b_Gr_cell : ByteArray := prog_5_method_3_code
abbrev y_Gr_cell : MethodName := ⟨"SpaceCycles$Grid", "cell", "(II)I"⟩
abbrev w_Gr_cell : List Cond := Cond.code y_Gr_cell b_Gr_cell 2 (some .int) :: gl
abbrev rm_Gr_cell : Room := { frames := 0, cells := 0, slots := 0, locals := 0 }
theorem d_Gr_cell_0 : decode b_Gr_cell 0 = .ok (.iload_n 0, 1) := by decide +kernel
theorem d_Gr_cell_1 : decode b_Gr_cell 1 = .ok (.bipush 41, 2) := by decide +kernel
theorem d_Gr_cell_3 : decode b_Gr_cell 3 = .ok (.imul, 1) := by decide +kernel
theorem d_Gr_cell_4 : decode b_Gr_cell 4 = .ok (.iload_n 1, 1) := by decide +kernel
theorem d_Gr_cell_5 : decode b_Gr_cell 5 = .ok (.iadd, 1) := by decide +kernel
theorem d_Gr_cell_6 : decode b_Gr_cell 6 = .ok (.ireturn, 1) := by decide +kernel
abbrev wl_Gr_cell : va_W := []
def m_Gr_cell (p0 : Int32) (p1 : Int32) : Option (Int32) :=
  some ((p0 * 41) + p1)

set_option maxHeartbeats 4000000 in
set_option maxRecDepth 100000 in
theorem t_Gr_cell {p : Program} {l : Launch} {e : Env} {s : State} {m : MethodId} {args : Array Value} {below : List Frame} {meth : Method} {c : Code} {A : Nat → Prop} {Q : State → Prop} {dC : Nat → ClassId} {dI : Nat → Nat → Nat} {cI cZ cJ : ClassId}  (p0 : Int32) (p1 : Int32) (R0 : Int32) (hx : p.tables.exec = Jvm.exec) (hb : c.code = b_Gr_cell) (hml : c.maxLocals = 2) (hown : s.vm.findClass "SpaceCycles$Grid" = some m.cls) (hts : ∀ w ∈ w_Gr_cell, w.before args s = true) (hK : va_K (dC, dI) vwCl [(cI, .int), (cZ, .boolean), (cJ, .long)] s) (hN : NX s) (hA : ∀ q : Nat, s.heap.size ≤ q → A q)
    (hret : ∀ (pc : Nat) (H : Heap) (locs : List Loc) (ls : Array Slot), decode b_Gr_cell pc = .ok (.ireturn, 1) → va_P (dC, dI) vwCl (wl_Gr_cell) H → va_D A (wl_Gr_cell) → va_S A s.heap H locs → W p l e rm_Gr_cell s m args below meth c H locs 0 0 Q (F0 m pc ls [.int R0]))
    (hm : m_Gr_cell p0 p1 = some R0) : ∀ (H : Heap) (locs : List Loc) (ls : Array Slot), va_P (dC, dI) vwCl (wl_Gr_cell) H → va_D A (wl_Gr_cell) → va_S A s.heap H locs → lv_has ls 2 [(0, .int p0), (1, .int p1)] → W p l e rm_Gr_cell s m args below meth c H locs 0 0 Q (F0 m 0 ls []) := by
  intro H locs ls hP hD hS hl
  unfold m_Gr_cell at hm
  refine lv_iload_n hx hb d_Gr_cell_0 rfl (lv_at hl 0 rfl) ?_
  refine lv_bipush (v := 41) hx hb d_Gr_cell_1 (by decide) ?_
  refine lv_imul hx hb d_Gr_cell_3 ?_
  refine lv_iload_n hx hb d_Gr_cell_4 rfl (lv_at hl 1 rfl) ?_
  refine lv_iadd hx hb d_Gr_cell_5 ?_
  cases hm
  exact hret _ H locs ls d_Gr_cell_6 hP hD hS
set_option maxHeartbeats 4000000 in
set_option maxRecDepth 100000 in
theorem c_Gr_cell (l : Launch) (dC : Nat → ClassId) (dI : Nat → Nat → Nat) {cI cZ cJ : ClassId} (sz : Nat)  (p0 : Int32) (p1 : Int32) (R0 : Int32) (hm : m_Gr_cell p0 p1 = some R0) : Met l y_Gr_cell w_Gr_cell rm_Gr_cell (PP dC dI [(cI, .int), (cZ, .boolean), (cJ, .long)] [.int p0, .int p1] sz (wl_Gr_cell)) (QI dC dI [(cI, .int), (cZ, .boolean), (cJ, .long)] sz (wl_Gr_cell) (wl_Gr_cell) R0) 0 0 (va_A (wl_Gr_cell) sz) := by
  refine Met.ofW (cc := b_Gr_cell) (maxL := 2) (ret := (some .int)) (by decide) rfl ?_
  intro p e s m args below meth c s₁ B hml hv
  obtain ⟨rfl, hsz, hP, hK, hD0, hN⟩ := hv
  subst hsz
  have hl := lv_entry ([.int p0, .int p1]) (n := 2) (Nat.le_of_ble_eq_true rfl)
  rw [lg_entry_eq]
  generalize (lg_sl ([.int p0, .int p1]) ++ List.replicate (2 - (lg_sl ([.int p0, .int p1])).length) Slot.unset).toArray = ls at hl ⊢
  exact t_Gr_cell p0 p1 R0 B.exec B.bytes hml (findClass_of_methodNamed B.named) (atoms_spec (ws := w_Gr_cell) B.pre) hK hN (fun q h => Or.inr h) (fun pc H locs ls hd hP9 hD9 hS => W.iret B.exec B.bytes B.returns (fun t ht hW => ⟨⟨_, (), rfl, rfl, by rw [ht]; exact hP9, va_K.moved hW.alike hK, hD9⟩, hS.F ht⟩) hS.2.2 hd) hm s.heap [] ls hP hD0.self va_S.rf hl

theorem k_52 : ((.fieldLink "SpaceCycles$Grid" 21 "SpaceCycles$Grid" "cells" "[I") : Cond) ∈ gl := gl_i 304 (by decide +kernel) (by decide +kernel)
theorem k_53 : ((.methodLink "SpaceCycles$Grid" 51 ⟨"SpaceCycles$Cuts", "upTo", "(I)I"⟩) : Cond) ∈ gl := gl_i 1010 (by decide +kernel) (by decide +kernel)
theorem k_54 : ((.code ⟨"SpaceCycles$Grid", "cell", "(II)I"⟩ prog_5_method_3_code 2 (some .int)) : Cond) ∈ gl := gl_i 536 (by decide +kernel) (by decide +kernel)
theorem k_55 : ((.static ⟨"SpaceCycles$Grid", "cell", "(II)I"⟩) : Cond) ∈ gl := gl_i 535 (by decide +kernel) (by decide +kernel)
theorem k_56 : ((.initialized "SpaceCycles$Grid") : Cond) ∈ gl := gl_i 10 (by decide +kernel) (by decide +kernel)
theorem k_57 : ((.methodLink "SpaceCycles$Grid" 55 ⟨"SpaceCycles$Grid", "cell", "(II)I"⟩) : Cond) ∈ gl := gl_i 1011 (by decide +kernel) (by decide +kernel)
-- SpaceCycles$Grid.spaceAt(II)I
abbrev b_Gr_spaceAt : ByteArray := prog_5_method_4_code
abbrev y_Gr_spaceAt : MethodName := ⟨"SpaceCycles$Grid", "spaceAt", "(II)I"⟩
abbrev w_Gr_spaceAt : List Cond := Cond.code y_Gr_spaceAt b_Gr_spaceAt 3 (some .int) :: gl
abbrev rm_Gr_spaceAt : Room := { frames := 1, cells := 0, slots := 0, locals := 22 }
theorem d_Gr_spaceAt_0 : decode b_Gr_spaceAt 0 = .ok (.aload_n 0, 1) := by decide +kernel
theorem d_Gr_spaceAt_1 : decode b_Gr_spaceAt 1 = .ok (.getfield 21, 3) := by decide +kernel
theorem d_Gr_spaceAt_4 : decode b_Gr_spaceAt 4 = .ok (.aload_n 0, 1) := by decide +kernel
theorem d_Gr_spaceAt_5 : decode b_Gr_spaceAt 5 = .ok (.getfield 14, 3) := by decide +kernel
theorem d_Gr_spaceAt_8 : decode b_Gr_spaceAt 8 = .ok (.iload_n 1, 1) := by decide +kernel
theorem d_Gr_spaceAt_9 : decode b_Gr_spaceAt 9 = .ok (.invokevirtual 51, 3) := by decide +kernel
theorem d_Gr_spaceAt_12 : decode b_Gr_spaceAt 12 = .ok (.aload_n 0, 1) := by decide +kernel
theorem d_Gr_spaceAt_13 : decode b_Gr_spaceAt 13 = .ok (.getfield 18, 3) := by decide +kernel
theorem d_Gr_spaceAt_16 : decode b_Gr_spaceAt 16 = .ok (.iload_n 2, 1) := by decide +kernel
theorem d_Gr_spaceAt_17 : decode b_Gr_spaceAt 17 = .ok (.invokevirtual 51, 3) := by decide +kernel
theorem d_Gr_spaceAt_20 : decode b_Gr_spaceAt 20 = .ok (.invokestatic 55, 3) := by decide +kernel
theorem d_Gr_spaceAt_23 : decode b_Gr_spaceAt 23 = .ok (.iaload, 1) := by decide +kernel
theorem d_Gr_spaceAt_24 : decode b_Gr_spaceAt 24 = .ok (.ireturn, 1) := by decide +kernel
abbrev wl_Gr_spaceAt (a_0 : Nat) (a_0_xs : Nat) (a_0_xs_places : Nat) (a_0_ys : Nat) (a_0_ys_places : Nat) (a_0_cells : Nat) (cI : ClassId) (v_0_spaces : Int32) (v_0_xs_count : Int32) (f_0_xs_places : Nat → Int32) (v_0_ys_count : Int32) (f_0_ys_places : Nat → Int32) (f_0_cells : Nat → Int32) : va_W := [(a_0, .inr (8, [.ref a_0_xs, .ref a_0_ys, .ref a_0_cells, .int v_0_spaces])), (a_0_xs, .inr (9, [.ref a_0_xs_places, .int v_0_xs_count])), (a_0_xs_places, .inl (cI, 40, .inl f_0_xs_places)), (a_0_ys, .inr (9, [.ref a_0_ys_places, .int v_0_ys_count])), (a_0_ys_places, .inl (cI, 40, .inl f_0_ys_places)), (a_0_cells, .inl (cI, 1681, .inl f_0_cells))]
def m_Gr_spaceAt (p1 : Int32) (p2 : Int32) (v_0_xs_count : Int32) (f_0_xs_places : Nat → Int32) (v_0_ys_count : Int32) (f_0_ys_places : Nat → Int32) (f_0_cells : Nat → Int32) : Option (Int32) :=
  bd1 (m_Cu_upTo p1 v_0_xs_count f_0_xs_places) fun r1 =>
  bd1 (m_Cu_upTo p2 v_0_ys_count f_0_ys_places) fun r3 =>
  bd1 (m_Gr_cell r1 r3) fun r5 =>
  gI r5 1681 <|
  some (f_0_cells r5.toNatClampNeg)

set_option maxHeartbeats 4000000 in
set_option maxRecDepth 100000 in
theorem t_Gr_spaceAt {p : Program} {l : Launch} {e : Env} {s : State} {m : MethodId} {args : Array Value} {below : List Frame} {meth : Method} {c : Code} {A : Nat → Prop} {Q : State → Prop} {dC : Nat → ClassId} {dI : Nat → Nat → Nat} {cI cZ cJ : ClassId} (a_0 a_0_xs a_0_xs_places a_0_ys a_0_ys_places a_0_cells : Nat) (v_0_spaces : Int32) (v_0_xs_count : Int32) (f_0_xs_places : Nat → Int32) (v_0_ys_count : Int32) (f_0_ys_places : Nat → Int32) (f_0_cells : Nat → Int32) (p1 : Int32) (p2 : Int32) (R0 : Int32) (hx : p.tables.exec = Jvm.exec) (hb : c.code = b_Gr_spaceAt) (hml : c.maxLocals = 3) (hown : s.vm.findClass "SpaceCycles$Grid" = some m.cls) (hts : ∀ w ∈ w_Gr_spaceAt, w.before args s = true) (hK : va_K (dC, dI) vwCl [(cI, .int), (cZ, .boolean), (cJ, .long)] s) (hN : NX s) (hA : ∀ q : Nat, s.heap.size ≤ q → A q)
    (hret : ∀ (pc : Nat) (H : Heap) (locs : List Loc) (ls : Array Slot), decode b_Gr_spaceAt pc = .ok (.ireturn, 1) → va_P (dC, dI) vwCl (wl_Gr_spaceAt a_0 a_0_xs a_0_xs_places a_0_ys a_0_ys_places a_0_cells cI v_0_spaces v_0_xs_count f_0_xs_places v_0_ys_count f_0_ys_places f_0_cells) H → va_D A (wl_Gr_spaceAt a_0 a_0_xs a_0_xs_places a_0_ys a_0_ys_places a_0_cells cI v_0_spaces v_0_xs_count f_0_xs_places v_0_ys_count f_0_ys_places f_0_cells) → va_S A s.heap H locs → W p l e rm_Gr_spaceAt s m args below meth c H locs 0 0 Q (F0 m pc ls [.int R0]))
    (hm : m_Gr_spaceAt p1 p2 v_0_xs_count f_0_xs_places v_0_ys_count f_0_ys_places f_0_cells = some R0) : ∀ (H : Heap) (locs : List Loc) (ls : Array Slot), va_P (dC, dI) vwCl (wl_Gr_spaceAt a_0 a_0_xs a_0_xs_places a_0_ys a_0_ys_places a_0_cells cI v_0_spaces v_0_xs_count f_0_xs_places v_0_ys_count f_0_ys_places f_0_cells) H → va_D A (wl_Gr_spaceAt a_0 a_0_xs a_0_xs_places a_0_ys a_0_ys_places a_0_cells cI v_0_spaces v_0_xs_count f_0_xs_places v_0_ys_count f_0_ys_places f_0_cells) → va_S A s.heap H locs → lv_has ls 3 [(0, .ref a_0), (1, .int p1), (2, .int p2)] → W p l e rm_Gr_spaceAt s m args below meth c H locs 0 0 Q (F0 m 0 ls []) := by
  intro H locs ls hP hD hS hl
  unfold m_Gr_spaceAt at hm
  refine lv_aload_n hx hb d_Gr_spaceAt_0 rfl (lv_at hl 0 rfl) ?_
  refine va_get (D := (dC, dI)) (ci := 8) (v := .ref a_0_cells) (C := "SpaceCycles$Grid") (T := F_Gr) (N := 4) hx hb hts (in_F i_Gr) hown hK hP 0 rfl rfl 2 (by decide) (hts _ (in_c k_52)) (fun _ h9 => h9) rfl d_Gr_spaceAt_1 ?_
  refine lv_aload_n hx hb d_Gr_spaceAt_4 rfl (lv_at hl 0 rfl) ?_
  refine va_get (D := (dC, dI)) (ci := 8) (v := .ref a_0_xs) (C := "SpaceCycles$Grid") (T := F_Gr) (N := 4) hx hb hts (in_F i_Gr) hown hK hP 0 rfl rfl 0 (by decide) (hts _ (in_c k_40)) (fun _ h9 => h9) rfl d_Gr_spaceAt_5 ?_
  refine lv_iload_n hx hb d_Gr_spaceAt_8 rfl (lv_at hl 1 rfl) ?_
  obtain ⟨r1, hb2, hm⟩ := bd1_e hm
  have hPc := hP.sub (ws' := (wl_Cu_upTo a_0_xs a_0_xs_places cI v_0_xs_count f_0_xs_places)) [1, 2] rfl
  have hDc := hD.sub (ws' := (wl_Cu_upTo a_0_xs a_0_xs_places cI v_0_xs_count f_0_xs_places)) [1, 2] (by decide) rfl
  refine cl_i (wc' := (wl_Cu_upTo a_0_xs a_0_xs_places cI v_0_xs_count f_0_xs_places)) (va_runV (As := [.int p1]) (rest := [.ref a_0_cells]) ⟨hx, hb, hml, hown, hts⟩ (c_Cu_upTo l dC dI (cI := cI) (cZ := cZ) (cJ := cJ) a_0_xs a_0_xs_places H.size v_0_xs_count f_0_xs_places p1 r1 hb2) (cwV 1 hts (gl_V k_53 k_8 k_7 k_9 k_6) rfl rfl rfl (by decide +kernel) ⟨Nat.le_of_ble_eq_true rfl, Nat.le_of_ble_eq_true rfl⟩) ⟨PP_blind, va_recv hK hPc (ci := 9) (q0 := 0) rfl rfl, fun U hU hW => PP_at hK hN hPc hDc hU hW⟩ rfl rfl hl.1 rfl (lv_room (Nat.le_of_ble_eq_true rfl)) d_Gr_spaceAt_9 ⟨Nat.zero_le _, Nat.zero_le _⟩) hP hD hS hA [1, 2] [0, 3, 4, 5] rfl rfl (by decide) (by decide) (fun H locs hP hD hS => ?_)
  have hP : va_P (dC, dI) vwCl (wl_Gr_spaceAt a_0 a_0_xs a_0_xs_places a_0_ys a_0_ys_places a_0_cells cI v_0_spaces v_0_xs_count f_0_xs_places v_0_ys_count f_0_ys_places f_0_cells) H := hP.sub [0, 4, 5, 1, 2, 3] rfl
  have hD : va_D A (wl_Gr_spaceAt a_0 a_0_xs a_0_xs_places a_0_ys a_0_ys_places a_0_cells cI v_0_spaces v_0_xs_count f_0_xs_places v_0_ys_count f_0_ys_places f_0_cells) := hD.sub [0, 4, 5, 1, 2, 3] (by decide) rfl
  refine lv_aload_n hx hb d_Gr_spaceAt_12 rfl (lv_at hl 0 rfl) ?_
  refine va_get (D := (dC, dI)) (ci := 8) (v := .ref a_0_ys) (C := "SpaceCycles$Grid") (T := F_Gr) (N := 4) hx hb hts (in_F i_Gr) hown hK hP 0 rfl rfl 1 (by decide) (hts _ (in_c k_42)) (fun _ h9 => h9) rfl d_Gr_spaceAt_13 ?_
  refine lv_iload_n hx hb d_Gr_spaceAt_16 rfl (lv_at hl 2 rfl) ?_
  obtain ⟨r3, hb4, hm⟩ := bd1_e hm
  have hPc := hP.sub (ws' := (wl_Cu_upTo a_0_ys a_0_ys_places cI v_0_ys_count f_0_ys_places)) [3, 4] rfl
  have hDc := hD.sub (ws' := (wl_Cu_upTo a_0_ys a_0_ys_places cI v_0_ys_count f_0_ys_places)) [3, 4] (by decide) rfl
  refine cl_i (wc' := (wl_Cu_upTo a_0_ys a_0_ys_places cI v_0_ys_count f_0_ys_places)) (va_runV (As := [.int p2]) (rest := [.int r1, .ref a_0_cells]) ⟨hx, hb, hml, hown, hts⟩ (c_Cu_upTo l dC dI (cI := cI) (cZ := cZ) (cJ := cJ) a_0_ys a_0_ys_places H.size v_0_ys_count f_0_ys_places p2 r3 hb4) (cwV 1 hts (gl_V k_53 k_8 k_7 k_9 k_6) rfl rfl rfl (by decide +kernel) ⟨Nat.le_of_ble_eq_true rfl, Nat.le_of_ble_eq_true rfl⟩) ⟨PP_blind, va_recv hK hPc (ci := 9) (q0 := 0) rfl rfl, fun U hU hW => PP_at hK hN hPc hDc hU hW⟩ rfl rfl hl.1 rfl (lv_room (Nat.le_of_ble_eq_true rfl)) d_Gr_spaceAt_17 ⟨Nat.zero_le _, Nat.zero_le _⟩) hP hD hS hA [3, 4] [0, 1, 2, 5] rfl rfl (by decide) (by decide) (fun H locs hP hD hS => ?_)
  have hP : va_P (dC, dI) vwCl (wl_Gr_spaceAt a_0 a_0_xs a_0_xs_places a_0_ys a_0_ys_places a_0_cells cI v_0_spaces v_0_xs_count f_0_xs_places v_0_ys_count f_0_ys_places f_0_cells) H := hP.sub [0, 1, 2, 4, 5, 3] rfl
  have hD : va_D A (wl_Gr_spaceAt a_0 a_0_xs a_0_xs_places a_0_ys a_0_ys_places a_0_cells cI v_0_spaces v_0_xs_count f_0_xs_places v_0_ys_count f_0_ys_places f_0_cells) := hD.sub [0, 1, 2, 4, 5, 3] (by decide) rfl
  obtain ⟨r5, hb6, hm⟩ := bd1_e hm
  have hPc := hP.sub (ws' := (wl_Gr_cell)) [] rfl
  have hDc := hD.sub (ws' := (wl_Gr_cell)) [] (by decide) rfl
  refine cl_i (wc' := (wl_Gr_cell)) (va_runS (As := [.int r1, .int r3]) (rest := [.ref a_0_cells]) ⟨hx, hb, hml, hown, hts⟩ (c_Gr_cell l dC dI (cI := cI) (cZ := cZ) (cJ := cJ) H.size r1 r3 r5 hb6) (va_cwS 2 hts (gl_S k_57 k_55 k_56 k_54) rfl rfl rfl (by decide +kernel) ⟨Nat.le_of_ble_eq_true rfl, Nat.le_of_ble_eq_true rfl⟩) ⟨PP_blind, fun U hU hW => PP_at hK hN hPc hDc hU hW⟩ rfl rfl hl.1 rfl (lv_room (Nat.le_of_ble_eq_true rfl)) d_Gr_spaceAt_20 ⟨Nat.zero_le _, Nat.zero_le _⟩) hP hD hS hA [] [0, 1, 2, 3, 4, 5] rfl rfl (by decide) (by decide) (fun H locs hP hD hS => ?_)
  have hP : va_P (dC, dI) vwCl (wl_Gr_spaceAt a_0 a_0_xs a_0_xs_places a_0_ys a_0_ys_places a_0_cells cI v_0_spaces v_0_xs_count f_0_xs_places v_0_ys_count f_0_ys_places f_0_cells) H := hP.sub [0, 1, 2, 3, 4, 5] rfl
  have hD : va_D A (wl_Gr_spaceAt a_0 a_0_xs a_0_xs_places a_0_ys a_0_ys_places a_0_cells cI v_0_spaces v_0_xs_count f_0_xs_places v_0_ys_count f_0_ys_places f_0_cells) := hD.sub [0, 1, 2, 3, 4, 5] (by decide) rfl
  obtain ⟨hi7, hm⟩ := gI_e hm
  refine va_iald hx hb hK hP 5 0 rfl rfl hi7 d_Gr_spaceAt_23 ?_
  cases hm
  exact hret _ H locs ls d_Gr_spaceAt_24 hP hD hS
set_option maxHeartbeats 4000000 in
set_option maxRecDepth 100000 in
theorem c_Gr_spaceAt (l : Launch) (dC : Nat → ClassId) (dI : Nat → Nat → Nat) {cI cZ cJ : ClassId} (a_0 a_0_xs a_0_xs_places a_0_ys a_0_ys_places a_0_cells : Nat) (sz : Nat) (v_0_spaces : Int32) (v_0_xs_count : Int32) (f_0_xs_places : Nat → Int32) (v_0_ys_count : Int32) (f_0_ys_places : Nat → Int32) (f_0_cells : Nat → Int32) (p1 : Int32) (p2 : Int32) (R0 : Int32) (hm : m_Gr_spaceAt p1 p2 v_0_xs_count f_0_xs_places v_0_ys_count f_0_ys_places f_0_cells = some R0) : Met l y_Gr_spaceAt w_Gr_spaceAt rm_Gr_spaceAt (PP dC dI [(cI, .int), (cZ, .boolean), (cJ, .long)] [.ref a_0, .int p1, .int p2] sz (wl_Gr_spaceAt a_0 a_0_xs a_0_xs_places a_0_ys a_0_ys_places a_0_cells cI v_0_spaces v_0_xs_count f_0_xs_places v_0_ys_count f_0_ys_places f_0_cells)) (QI dC dI [(cI, .int), (cZ, .boolean), (cJ, .long)] sz (wl_Gr_spaceAt a_0 a_0_xs a_0_xs_places a_0_ys a_0_ys_places a_0_cells cI v_0_spaces v_0_xs_count f_0_xs_places v_0_ys_count f_0_ys_places f_0_cells) (wl_Gr_spaceAt a_0 a_0_xs a_0_xs_places a_0_ys a_0_ys_places a_0_cells cI v_0_spaces v_0_xs_count f_0_xs_places v_0_ys_count f_0_ys_places f_0_cells) R0) 0 0 (va_A (wl_Gr_spaceAt a_0 a_0_xs a_0_xs_places a_0_ys a_0_ys_places a_0_cells cI v_0_spaces v_0_xs_count f_0_xs_places v_0_ys_count f_0_ys_places f_0_cells) sz) := by
  refine Met.ofW (cc := b_Gr_spaceAt) (maxL := 3) (ret := (some .int)) (by decide) rfl ?_
  intro p e s m args below meth c s₁ B hml hv
  obtain ⟨rfl, hsz, hP, hK, hD0, hN⟩ := hv
  subst hsz
  have hl := lv_entry ([.ref a_0, .int p1, .int p2]) (n := 3) (Nat.le_of_ble_eq_true rfl)
  rw [lg_entry_eq]
  generalize (lg_sl ([.ref a_0, .int p1, .int p2]) ++ List.replicate (3 - (lg_sl ([.ref a_0, .int p1, .int p2])).length) Slot.unset).toArray = ls at hl ⊢
  exact t_Gr_spaceAt a_0 a_0_xs a_0_xs_places a_0_ys a_0_ys_places a_0_cells v_0_spaces v_0_xs_count f_0_xs_places v_0_ys_count f_0_ys_places f_0_cells p1 p2 R0 B.exec B.bytes hml (findClass_of_methodNamed B.named) (atoms_spec (ws := w_Gr_spaceAt) B.pre) hK hN (fun q h => Or.inr h) (fun pc H locs ls hd hP9 hD9 hS => W.iret B.exec B.bytes B.returns (fun t ht hW => ⟨⟨_, (), rfl, rfl, by rw [ht]; exact hP9, va_K.moved hW.alike hK, hD9⟩, hS.F ht⟩) hS.2.2 hd) hm s.heap [] ls hP hD0.self va_S.rf hl
