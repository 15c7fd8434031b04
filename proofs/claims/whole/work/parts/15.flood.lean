theorem k_79 : ((.fieldLink "SpaceCycles$Flood" 44 "SpaceCycles$Grid" "xs" "LSpaceCycles$Cuts;") : Cond) ∈ gl := gl_i 297 (by decide +kernel) (by decide +kernel)
theorem k_80 : ((.fieldLink "SpaceCycles$Flood" 48 "SpaceCycles$Cuts" "count" "I") : Cond) ∈ gl := gl_i 289 (by decide +kernel) (by decide +kernel)
theorem k_81 : ((.methodLink "SpaceCycles$Flood" 54 ⟨"SpaceCycles$Grid", "cell", "(II)I"⟩) : Cond) ∈ gl := gl_i 534 (by decide +kernel) (by decide +kernel)
theorem k_82 : ((.fieldLink "SpaceCycles$Flood" 51 "SpaceCycles$Grid" "ys" "LSpaceCycles$Cuts;") : Cond) ∈ gl := gl_i 301 (by decide +kernel) (by decide +kernel)
theorem k_83 : ((.fieldLink "SpaceCycles$Flood" 58 "SpaceCycles$Grid" "cells" "[I") : Cond) ∈ gl := gl_i 305 (by decide +kernel) (by decide +kernel)
theorem k_84 : ((.methodLink "SpaceCycles$Flood" 61 ⟨"java/util/Arrays", "fill", "([IIII)V"⟩) : Cond) ∈ gl := gl_i 537 (by decide +kernel) (by decide +kernel)
theorem k_85 : ((.fieldLink "SpaceCycles$Flood" 11 "SpaceCycles$Flood" "walls" "[I") : Cond) ∈ gl := gl_i 103 (by decide +kernel) (by decide +kernel)
-- SpaceCycles$Flood.dry(LSpaceCycles$Grid;)V
abbrev b_Fl_dry : ByteArray := prog_4_method_3_code
abbrev y_Fl_dry : MethodName := ⟨"SpaceCycles$Flood", "dry", "(LSpaceCycles$Grid;)V"⟩
abbrev w_Fl_dry : List Cond := Cond.code y_Fl_dry b_Fl_dry 5 none :: gl
abbrev rm_Fl_dry : Room := { frames := 2, cells := 0, slots := 0, locals := 46 }
theorem d_Fl_dry_0 : decode b_Fl_dry 0 = .ok (.iconst 0, 1) := by decide +kernel
theorem d_Fl_dry_1 : decode b_Fl_dry 1 = .ok (.istore_n 2, 1) := by decide +kernel
theorem d_Fl_dry_2 : decode b_Fl_dry 2 = .ok (.iload_n 2, 1) := by decide +kernel
theorem d_Fl_dry_3 : decode b_Fl_dry 3 = .ok (.aload_n 1, 1) := by decide +kernel
theorem d_Fl_dry_4 : decode b_Fl_dry 4 = .ok (.getfield 44, 3) := by decide +kernel
theorem d_Fl_dry_7 : decode b_Fl_dry 7 = .ok (.getfield 48, 3) := by decide +kernel
theorem d_Fl_dry_10 : decode b_Fl_dry 10 = .ok (.if_icmp .gt 53, 3) := by decide +kernel
theorem d_Fl_dry_13 : decode b_Fl_dry 13 = .ok (.iload_n 2, 1) := by decide +kernel
theorem d_Fl_dry_14 : decode b_Fl_dry 14 = .ok (.iconst 0, 1) := by decide +kernel
theorem d_Fl_dry_15 : decode b_Fl_dry 15 = .ok (.invokestatic 54, 3) := by decide +kernel
theorem d_Fl_dry_18 : decode b_Fl_dry 18 = .ok (.istore_n 3, 1) := by decide +kernel
theorem d_Fl_dry_19 : decode b_Fl_dry 19 = .ok (.iload_n 2, 1) := by decide +kernel
theorem d_Fl_dry_20 : decode b_Fl_dry 20 = .ok (.aload_n 1, 1) := by decide +kernel
theorem d_Fl_dry_21 : decode b_Fl_dry 21 = .ok (.getfield 51, 3) := by decide +kernel
theorem d_Fl_dry_24 : decode b_Fl_dry 24 = .ok (.getfield 48, 3) := by decide +kernel
theorem d_Fl_dry_27 : decode b_Fl_dry 27 = .ok (.invokestatic 54, 3) := by decide +kernel
theorem d_Fl_dry_30 : decode b_Fl_dry 30 = .ok (.iconst 1, 1) := by decide +kernel
theorem d_Fl_dry_31 : decode b_Fl_dry 31 = .ok (.iadd, 1) := by decide +kernel
theorem d_Fl_dry_32 : decode b_Fl_dry 32 = .ok (.istore 4, 2) := by decide +kernel
theorem d_Fl_dry_34 : decode b_Fl_dry 34 = .ok (.aload_n 1, 1) := by decide +kernel
theorem d_Fl_dry_35 : decode b_Fl_dry 35 = .ok (.getfield 58, 3) := by decide +kernel
theorem d_Fl_dry_38 : decode b_Fl_dry 38 = .ok (.iload_n 3, 1) := by decide +kernel
theorem d_Fl_dry_39 : decode b_Fl_dry 39 = .ok (.iload 4, 2) := by decide +kernel
theorem d_Fl_dry_41 : decode b_Fl_dry 41 = .ok (.bipush (-2), 2) := by decide +kernel
theorem d_Fl_dry_43 : decode b_Fl_dry 43 = .ok (.invokestatic 61, 3) := by decide +kernel
theorem d_Fl_dry_46 : decode b_Fl_dry 46 = .ok (.aload_n 0, 1) := by decide +kernel
theorem d_Fl_dry_47 : decode b_Fl_dry 47 = .ok (.getfield 11, 3) := by decide +kernel
theorem d_Fl_dry_50 : decode b_Fl_dry 50 = .ok (.iload_n 3, 1) := by decide +kernel
theorem d_Fl_dry_51 : decode b_Fl_dry 51 = .ok (.iload 4, 2) := by decide +kernel
theorem d_Fl_dry_53 : decode b_Fl_dry 53 = .ok (.iconst 0, 1) := by decide +kernel
theorem d_Fl_dry_54 : decode b_Fl_dry 54 = .ok (.invokestatic 61, 3) := by decide +kernel
theorem d_Fl_dry_57 : decode b_Fl_dry 57 = .ok (.iinc 2 1, 3) := by decide +kernel
theorem d_Fl_dry_60 : decode b_Fl_dry 60 = .ok (.goto (-58), 3) := by decide +kernel
theorem d_Fl_dry_63 : decode b_Fl_dry 63 = .ok (.return_, 1) := by decide +kernel
abbrev wl_Fl_dry (a_0 : Nat) (a_0_walls : Nat) (a_1 : Nat) (a_1_xs : Nat) (a_1_ys : Nat) (a_1_cells : Nat) (b_0_waiting : Nat) (b_1_xs_places : Nat) (b_1_ys_places : Nat) (cI : ClassId) (v_0_waits : Int32) (f_0_walls : Nat → Int32) (v_1_spaces : Int32) (v_1_xs_count : Int32) (v_1_ys_count : Int32) (f_1_cells : Nat → Int32) : va_W := [(a_0, .inr (2, [.ref a_0_walls, .ref b_0_waiting, .int v_0_waits])), (a_0_walls, .inl (cI, 1681, .inl f_0_walls)), (a_1, .inr (8, [.ref a_1_xs, .ref a_1_ys, .ref a_1_cells, .int v_1_spaces])), (a_1_xs, .inr (9, [.ref b_1_xs_places, .int v_1_xs_count])), (a_1_ys, .inr (9, [.ref b_1_ys_places, .int v_1_ys_count])), (a_1_cells, .inl (cI, 1681, .inl f_1_cells))]
def m_Fl_dry_L2 (v_1_xs_count : Int32) (v_1_ys_count : Int32) : Nat → Int32 → (Nat → Int32) → (Nat → Int32) → Option ((Nat → Int32) × (Nat → Int32))
  | 0, _, _, _ => none
  | n + 1, l2, f_0_walls, f_1_cells =>
    if v_1_xs_count < l2 then (
      some (f_0_walls, f_1_cells))
    else (
      bd1 (m_Gr_cell l2 0) fun r2 =>
      bd1 (m_Gr_cell l2 v_1_ys_count) fun r4 =>
      lt_ (r4 + 1) fun x6 =>
      bd1 (m_Ar_fill1 1681 r2 x6 (-2) f_1_cells) fun f7 =>
      bd1 (m_Ar_fill1 1681 r2 x6 0 f_0_walls) fun f9 =>
      lt_ (l2 + 1) fun x11 =>
      m_Fl_dry_L2 v_1_xs_count v_1_ys_count n x11 f9 f7)
def m_Fl_dry (f_0_walls : Nat → Int32) (v_1_xs_count : Int32) (v_1_ys_count : Int32) (f_1_cells : Nat → Int32) : Option ((Nat → Int32) × (Nat → Int32)) :=
  bd2 (m_Fl_dry_L2 v_1_xs_count v_1_ys_count fu 0 f_0_walls f_1_cells) fun f4 f5 =>
  some (f4, f5)

set_option maxHeartbeats 4000000 in
set_option maxRecDepth 100000 in
theorem t_Fl_dry {p : Program} {l : Launch} {e : Env} {s : State} {m : MethodId} {args : Array Value} {below : List Frame} {meth : Method} {c : Code} {A : Nat → Prop} {Q : State → Prop} {dC : Nat → ClassId} {dI : Nat → Nat → Nat} {cI cZ cJ : ClassId} (a_0 a_0_walls a_1 a_1_xs a_1_ys a_1_cells b_0_waiting b_1_xs_places b_1_ys_places : Nat) (v_0_waits : Int32) (f_0_walls : Nat → Int32) (v_1_spaces : Int32) (v_1_xs_count : Int32) (v_1_ys_count : Int32) (f_1_cells : Nat → Int32)  (of_0_walls : Nat → Int32) (of_1_cells : Nat → Int32) (hx : p.tables.exec = Jvm.exec) (hb : c.code = b_Fl_dry) (hml : c.maxLocals = 5) (hown : s.vm.findClass "SpaceCycles$Flood" = some m.cls) (hts : ∀ w ∈ w_Fl_dry, w.before args s = true) (hK : va_K (dC, dI) vwCl [(cI, .int), (cZ, .boolean), (cJ, .long)] s) (hN : NX s) (hA : ∀ q : Nat, s.heap.size ≤ q → A q)
    (hret : ∀ (pc : Nat) (H : Heap) (locs : List Loc) (ls : Array Slot), decode b_Fl_dry pc = .ok (.return_, 1) → va_P (dC, dI) vwCl (wl_Fl_dry a_0 a_0_walls a_1 a_1_xs a_1_ys a_1_cells b_0_waiting b_1_xs_places b_1_ys_places cI v_0_waits of_0_walls v_1_spaces v_1_xs_count v_1_ys_count of_1_cells) H → va_D A (wl_Fl_dry a_0 a_0_walls a_1 a_1_xs a_1_ys a_1_cells b_0_waiting b_1_xs_places b_1_ys_places cI v_0_waits of_0_walls v_1_spaces v_1_xs_count v_1_ys_count of_1_cells) → va_S A s.heap H locs → W p l e rm_Fl_dry s m args below meth c H locs 0 0 Q (F0 m pc ls []))
    (hm : m_Fl_dry f_0_walls v_1_xs_count v_1_ys_count f_1_cells = some (of_0_walls, of_1_cells)) : ∀ (H : Heap) (locs : List Loc) (ls : Array Slot), va_P (dC, dI) vwCl (wl_Fl_dry a_0 a_0_walls a_1 a_1_xs a_1_ys a_1_cells b_0_waiting b_1_xs_places b_1_ys_places cI v_0_waits f_0_walls v_1_spaces v_1_xs_count v_1_ys_count f_1_cells) H → va_D A (wl_Fl_dry a_0 a_0_walls a_1 a_1_xs a_1_ys a_1_cells b_0_waiting b_1_xs_places b_1_ys_places cI v_0_waits f_0_walls v_1_spaces v_1_xs_count v_1_ys_count f_1_cells) → va_S A s.heap H locs → lv_has ls 5 [(0, .ref a_0), (1, .ref a_1)] → W p l e rm_Fl_dry s m args below meth c H locs 0 0 Q (F0 m 0 ls []) := by
  intro H locs ls hP hD hS hl
  unfold m_Fl_dry at hm
  refine lv_iconst (v := 0) hx hb d_Fl_dry_0 (by decide) ?_
  refine lv_istore_n (lv' := [(2, .int 0), (0, .ref a_0), (1, .ref a_1)]) hx hb d_Fl_dry_1 rfl hl (by decide) rfl (fun ls hl => ?_)
  have L2_6 : ∀ (n : Nat) (x1 : Int32) (f2 : Nat → Int32) (f3 : Nat → Int32) (f4 : Nat → Int32) (f5 : Nat → Int32), m_Fl_dry_L2 v_1_xs_count v_1_ys_count n x1 f2 f3 = some (f4, f5) → (∀ (H : Heap) (locs : List Loc) (ls : Array Slot), va_P (dC, dI) vwCl (wl_Fl_dry a_0 a_0_walls a_1 a_1_xs a_1_ys a_1_cells b_0_waiting b_1_xs_places b_1_ys_places cI v_0_waits f4 v_1_spaces v_1_xs_count v_1_ys_count f5) H → va_D A (wl_Fl_dry a_0 a_0_walls a_1 a_1_xs a_1_ys a_1_cells b_0_waiting b_1_xs_places b_1_ys_places cI v_0_waits f4 v_1_spaces v_1_xs_count v_1_ys_count f5) → va_S A s.heap H locs → lv_has ls 5 [] → W p l e rm_Fl_dry s m args below meth c H locs 0 0 Q (F0 m 63 ls [])) → ∀ (H : Heap) (locs : List Loc) (ls : Array Slot), va_P (dC, dI) vwCl (wl_Fl_dry a_0 a_0_walls a_1 a_1_xs a_1_ys a_1_cells b_0_waiting b_1_xs_places b_1_ys_places cI v_0_waits f2 v_1_spaces v_1_xs_count v_1_ys_count f3) H → va_D A (wl_Fl_dry a_0 a_0_walls a_1 a_1_xs a_1_ys a_1_cells b_0_waiting b_1_xs_places b_1_ys_places cI v_0_waits f2 v_1_spaces v_1_xs_count v_1_ys_count f3) → va_S A s.heap H locs → lv_has ls 5 [(0, .ref a_0), (1, .ref a_1), (2, .int x1)] → W p l e rm_Fl_dry s m args below meth c H locs 0 0 Q (F0 m 2 ls []) := by
    intro n
    induction n with
    | zero => intro x1 f2 f3 f4 f5 hm; simp [m_Fl_dry_L2] at hm
    | succ n ih =>
      intro x1 f2 f3 f4 f5 hm KE H locs ls hP hD hS hl
      rw [m_Fl_dry_L2] at hm
      refine lv_iload_n hx hb d_Fl_dry_2 rfl (lv_at hl 2 rfl) ?_
      refine lv_aload_n hx hb d_Fl_dry_3 rfl (lv_at hl 1 rfl) ?_
      refine va_get (D := (dC, dI)) (ci := 8) (v := .ref a_1_xs) (C := "SpaceCycles$Grid") (T := F_Gr) (N := 4) hx hb hts (in_F i_Gr) hown hK hP 2 rfl rfl 0 (by decide) (hts _ (in_c k_79)) (fun _ h9 => h9) rfl d_Fl_dry_4 ?_
      refine va_get (D := (dC, dI)) (ci := 9) (v := .int v_1_xs_count) (C := "SpaceCycles$Cuts") (T := F_Cu) (N := 2) hx hb hts (in_F i_Cu) hown hK hP 3 rfl rfl 1 (by decide) (hts _ (in_c k_80)) (fun _ h9 => h9) rfl d_Fl_dry_7 ?_
      refine lv_icmp_gt (tgt := 63) hx hb d_Fl_dry_10 (by decide) (fun c7 => ?_) (fun c7 => ?_)
      · replace hm := if_t hm c7
        cases hm
        exact KE H locs ls hP hD hS (lv_sub hl [] rfl)
      · replace hm := if_f hm c7
        refine lv_iload_n hx hb d_Fl_dry_13 rfl (lv_at hl 2 rfl) ?_
        refine lv_iconst (v := 0) hx hb d_Fl_dry_14 (by decide) ?_
        obtain ⟨r8, hb9, hm⟩ := bd1_e hm
        have hPc := hP.sub (ws' := (wl_Gr_cell)) [] rfl
        have hDc := hD.sub (ws' := (wl_Gr_cell)) [] (by decide) rfl
        refine cl_i (wc' := (wl_Gr_cell)) (va_runS (As := [.int x1, .int 0]) (rest := []) ⟨hx, hb, hml, hown, hts⟩ (c_Gr_cell l dC dI (cI := cI) (cZ := cZ) (cJ := cJ) H.size x1 0 r8 hb9) (va_cwS 2 hts (gl_S k_81 k_55 k_56 k_54) rfl rfl rfl (by decide +kernel) ⟨Nat.le_of_ble_eq_true rfl, Nat.le_of_ble_eq_true rfl⟩) ⟨PP_blind, fun U hU hW => PP_at hK hN hPc hDc hU hW⟩ rfl rfl hl.1 rfl (lv_room (Nat.le_of_ble_eq_true rfl)) d_Fl_dry_15 ⟨Nat.zero_le _, Nat.zero_le _⟩) hP hD hS hA [] [0, 1, 2, 3, 4, 5] rfl rfl (by decide) (by decide) (fun H locs hP hD hS => ?_)
        have hP : va_P (dC, dI) vwCl (wl_Fl_dry a_0 a_0_walls a_1 a_1_xs a_1_ys a_1_cells b_0_waiting b_1_xs_places b_1_ys_places cI v_0_waits f2 v_1_spaces v_1_xs_count v_1_ys_count f3) H := hP.sub [0, 1, 2, 3, 4, 5] rfl
        have hD : va_D A (wl_Fl_dry a_0 a_0_walls a_1 a_1_xs a_1_ys a_1_cells b_0_waiting b_1_xs_places b_1_ys_places cI v_0_waits f2 v_1_spaces v_1_xs_count v_1_ys_count f3) := hD.sub [0, 1, 2, 3, 4, 5] (by decide) rfl
        refine lv_istore_n (lv' := [(3, .int r8), (0, .ref a_0), (1, .ref a_1), (2, .int x1)]) hx hb d_Fl_dry_18 rfl hl (by decide) rfl (fun ls hl => ?_)
        refine lv_iload_n hx hb d_Fl_dry_19 rfl (lv_at hl 3 rfl) ?_
        refine lv_aload_n hx hb d_Fl_dry_20 rfl (lv_at hl 2 rfl) ?_
        refine va_get (D := (dC, dI)) (ci := 8) (v := .ref a_1_ys) (C := "SpaceCycles$Grid") (T := F_Gr) (N := 4) hx hb hts (in_F i_Gr) hown hK hP 2 rfl rfl 1 (by decide) (hts _ (in_c k_82)) (fun _ h9 => h9) rfl d_Fl_dry_21 ?_
        refine va_get (D := (dC, dI)) (ci := 9) (v := .int v_1_ys_count) (C := "SpaceCycles$Cuts") (T := F_Cu) (N := 2) hx hb hts (in_F i_Cu) hown hK hP 4 rfl rfl 1 (by decide) (hts _ (in_c k_80)) (fun _ h9 => h9) rfl d_Fl_dry_24 ?_
        obtain ⟨r10, hb11, hm⟩ := bd1_e hm
        have hPc := hP.sub (ws' := (wl_Gr_cell)) [] rfl
        have hDc := hD.sub (ws' := (wl_Gr_cell)) [] (by decide) rfl
        refine cl_i (wc' := (wl_Gr_cell)) (va_runS (As := [.int x1, .int v_1_ys_count]) (rest := []) ⟨hx, hb, hml, hown, hts⟩ (c_Gr_cell l dC dI (cI := cI) (cZ := cZ) (cJ := cJ) H.size x1 v_1_ys_count r10 hb11) (va_cwS 2 hts (gl_S k_81 k_55 k_56 k_54) rfl rfl rfl (by decide +kernel) ⟨Nat.le_of_ble_eq_true rfl, Nat.le_of_ble_eq_true rfl⟩) ⟨PP_blind, fun U hU hW => PP_at hK hN hPc hDc hU hW⟩ rfl rfl hl.1 rfl (lv_room (Nat.le_of_ble_eq_true rfl)) d_Fl_dry_27 ⟨Nat.zero_le _, Nat.zero_le _⟩) hP hD hS hA [] [0, 1, 2, 3, 4, 5] rfl rfl (by decide) (by decide) (fun H locs hP hD hS => ?_)
        have hP : va_P (dC, dI) vwCl (wl_Fl_dry a_0 a_0_walls a_1 a_1_xs a_1_ys a_1_cells b_0_waiting b_1_xs_places b_1_ys_places cI v_0_waits f2 v_1_spaces v_1_xs_count v_1_ys_count f3) H := hP.sub [0, 1, 2, 3, 4, 5] rfl
        have hD : va_D A (wl_Fl_dry a_0 a_0_walls a_1 a_1_xs a_1_ys a_1_cells b_0_waiting b_1_xs_places b_1_ys_places cI v_0_waits f2 v_1_spaces v_1_xs_count v_1_ys_count f3) := hD.sub [0, 1, 2, 3, 4, 5] (by decide) rfl
        refine lv_iconst (v := 1) hx hb d_Fl_dry_30 (by decide) ?_
        refine lv_iadd hx hb d_Fl_dry_31 ?_
        refine lv_topi (fun x12 ex12 => ?_)
        replace hm := lt_el hm ex12
        refine lv_istore (lv' := [(4, .int x12), (3, .int r8), (0, .ref a_0), (1, .ref a_1), (2, .int x1)]) hx hb d_Fl_dry_32 hl (by decide) rfl (fun ls hl => ?_)
        refine lv_aload_n hx hb d_Fl_dry_34 rfl (lv_at hl 3 rfl) ?_
        refine va_get (D := (dC, dI)) (ci := 8) (v := .ref a_1_cells) (C := "SpaceCycles$Grid") (T := F_Gr) (N := 4) hx hb hts (in_F i_Gr) hown hK hP 2 rfl rfl 2 (by decide) (hts _ (in_c k_83)) (fun _ h9 => h9) rfl d_Fl_dry_35 ?_
        refine lv_iload_n hx hb d_Fl_dry_38 rfl (lv_at hl 1 rfl) ?_
        refine lv_iload hx hb d_Fl_dry_39 (lv_at hl 0 rfl) ?_
        refine lv_bipush (v := (-2)) hx hb d_Fl_dry_41 (by decide) ?_
        obtain ⟨f13, hb14, hm⟩ := bd1_e hm
        have hPc := hP.sub (ws' := (wl_Ar_fill1 a_1_cells cI 1681 f3)) [5] rfl
        have hDc := hD.sub (ws' := (wl_Ar_fill1 a_1_cells cI 1681 f3)) [5] (by decide) rfl
        refine cl_v (wc' := (wl_Ar_fill1 a_1_cells cI 1681 f13)) (va_runS (As := [.ref a_1_cells, .int r8, .int x12, .int (-2)]) (rest := []) ⟨hx, hb, hml, hown, hts⟩ (c_Ar_fill1 l dC dI (cI := cI) (cZ := cZ) (cJ := cJ) a_1_cells H.size 1681 f3 r8 x12 (-2) f13 hb14) (va_cwS 4 hts (gl_S k_84 k_62 k_2 k_61) rfl rfl rfl (by decide +kernel) ⟨Nat.le_of_ble_eq_true rfl, Nat.le_of_ble_eq_true rfl⟩) ⟨PP_blind, fun U hU hW => PP_at hK hN hPc hDc hU hW⟩ rfl rfl hl.1 rfl (lv_room (Nat.le_of_ble_eq_true rfl)) d_Fl_dry_43 ⟨Nat.zero_le _, Nat.zero_le _⟩) hP hD hS hA [5] [0, 1, 2, 3, 4] rfl rfl (by decide) (by decide) (fun H locs hP hD hS => ?_)
        have hP : va_P (dC, dI) vwCl (wl_Fl_dry a_0 a_0_walls a_1 a_1_xs a_1_ys a_1_cells b_0_waiting b_1_xs_places b_1_ys_places cI v_0_waits f2 v_1_spaces v_1_xs_count v_1_ys_count f13) H := hP.sub [0, 1, 2, 3, 4, 5] rfl
        have hD : va_D A (wl_Fl_dry a_0 a_0_walls a_1 a_1_xs a_1_ys a_1_cells b_0_waiting b_1_xs_places b_1_ys_places cI v_0_waits f2 v_1_spaces v_1_xs_count v_1_ys_count f13) := hD.sub [0, 1, 2, 3, 4, 5] (by decide) rfl
        refine lv_aload_n hx hb d_Fl_dry_46 rfl (lv_at hl 2 rfl) ?_
        refine va_get (D := (dC, dI)) (ci := 2) (v := .ref a_0_walls) (C := "SpaceCycles$Flood") (T := F_Fl) (N := 3) hx hb hts (in_F i_Fl) hown hK hP 0 rfl rfl 0 (by decide) (hts _ (in_c k_85)) (fun _ h9 => h9) rfl d_Fl_dry_47 ?_
        refine lv_iload_n hx hb d_Fl_dry_50 rfl (lv_at hl 1 rfl) ?_
        refine lv_iload hx hb d_Fl_dry_51 (lv_at hl 0 rfl) ?_
        refine lv_iconst (v := 0) hx hb d_Fl_dry_53 (by decide) ?_
        obtain ⟨f15, hb16, hm⟩ := bd1_e hm
        have hPc := hP.sub (ws' := (wl_Ar_fill1 a_0_walls cI 1681 f2)) [1] rfl
        have hDc := hD.sub (ws' := (wl_Ar_fill1 a_0_walls cI 1681 f2)) [1] (by decide) rfl
        refine cl_v (wc' := (wl_Ar_fill1 a_0_walls cI 1681 f15)) (va_runS (As := [.ref a_0_walls, .int r8, .int x12, .int 0]) (rest := []) ⟨hx, hb, hml, hown, hts⟩ (c_Ar_fill1 l dC dI (cI := cI) (cZ := cZ) (cJ := cJ) a_0_walls H.size 1681 f2 r8 x12 0 f15 hb16) (va_cwS 4 hts (gl_S k_84 k_62 k_2 k_61) rfl rfl rfl (by decide +kernel) ⟨Nat.le_of_ble_eq_true rfl, Nat.le_of_ble_eq_true rfl⟩) ⟨PP_blind, fun U hU hW => PP_at hK hN hPc hDc hU hW⟩ rfl rfl hl.1 rfl (lv_room (Nat.le_of_ble_eq_true rfl)) d_Fl_dry_54 ⟨Nat.zero_le _, Nat.zero_le _⟩) hP hD hS hA [1] [0, 2, 3, 4, 5] rfl rfl (by decide) (by decide) (fun H locs hP hD hS => ?_)
        have hP : va_P (dC, dI) vwCl (wl_Fl_dry a_0 a_0_walls a_1 a_1_xs a_1_ys a_1_cells b_0_waiting b_1_xs_places b_1_ys_places cI v_0_waits f15 v_1_spaces v_1_xs_count v_1_ys_count f13) H := hP.sub [0, 5, 1, 2, 3, 4] rfl
        have hD : va_D A (wl_Fl_dry a_0 a_0_walls a_1 a_1_xs a_1_ys a_1_cells b_0_waiting b_1_xs_places b_1_ys_places cI v_0_waits f15 v_1_spaces v_1_xs_count v_1_ys_count f13) := hD.sub [0, 5, 1, 2, 3, 4] (by decide) rfl
        obtain ⟨x17, ex17⟩ : ∃ y : Int32, y = x1 + 1 := ⟨_, rfl⟩
        replace hm := lt_el hm ex17
        refine lv_iinc (v := x17) (lv' := [(2, .int x17), (4, .int x12), (3, .int r8), (0, .ref a_0), (1, .ref a_1)]) hx hb d_Fl_dry_57 hl (k := 4) rfl (by rw [ex17]; rfl) (by decide) rfl (fun ls hl => ?_)
        refine lv_goto (tgt := 2) hx hb d_Fl_dry_60 (by decide) ?_
        exact ih _ _ _ _ _ hm KE H locs ls hP hD hS (lv_sub hl [3, 4, 0] rfl)
  obtain ⟨f4, f5, hb18, hm⟩ := bd2_e hm
  refine L2_6 fu _ _ _ _ _ hb18 (fun H locs ls hP hD hS hl => ?_) H locs ls hP hD hS (lv_sub hl [1, 2, 0] rfl)
  cases hm
  exact hret _ H locs ls d_Fl_dry_63 hP hD hS
set_option maxHeartbeats 4000000 in
set_option maxRecDepth 100000 in
theorem c_Fl_dry (l : Launch) (dC : Nat → ClassId) (dI : Nat → Nat → Nat) {cI cZ cJ : ClassId} (a_0 a_0_walls a_1 a_1_xs a_1_ys a_1_cells b_0_waiting b_1_xs_places b_1_ys_places : Nat) (sz : Nat) (v_0_waits : Int32) (f_0_walls : Nat → Int32) (v_1_spaces : Int32) (v_1_xs_count : Int32) (v_1_ys_count : Int32) (f_1_cells : Nat → Int32)  (of_0_walls : Nat → Int32) (of_1_cells : Nat → Int32) (hm : m_Fl_dry f_0_walls v_1_xs_count v_1_ys_count f_1_cells = some (of_0_walls, of_1_cells)) : Met l y_Fl_dry w_Fl_dry rm_Fl_dry (PP dC dI [(cI, .int), (cZ, .boolean), (cJ, .long)] [.ref a_0, .ref a_1] sz (wl_Fl_dry a_0 a_0_walls a_1 a_1_xs a_1_ys a_1_cells b_0_waiting b_1_xs_places b_1_ys_places cI v_0_waits f_0_walls v_1_spaces v_1_xs_count v_1_ys_count f_1_cells)) (QV dC dI [(cI, .int), (cZ, .boolean), (cJ, .long)] sz (wl_Fl_dry a_0 a_0_walls a_1 a_1_xs a_1_ys a_1_cells b_0_waiting b_1_xs_places b_1_ys_places cI v_0_waits f_0_walls v_1_spaces v_1_xs_count v_1_ys_count f_1_cells) (wl_Fl_dry a_0 a_0_walls a_1 a_1_xs a_1_ys a_1_cells b_0_waiting b_1_xs_places b_1_ys_places cI v_0_waits of_0_walls v_1_spaces v_1_xs_count v_1_ys_count of_1_cells)) 0 0 (va_A (wl_Fl_dry a_0 a_0_walls a_1 a_1_xs a_1_ys a_1_cells b_0_waiting b_1_xs_places b_1_ys_places cI v_0_waits f_0_walls v_1_spaces v_1_xs_count v_1_ys_count f_1_cells) sz) := by
  refine Met.ofW (cc := b_Fl_dry) (maxL := 5) (ret := none) (by decide) rfl ?_
  intro p e s m args below meth c s₁ B hml hv
  obtain ⟨rfl, hsz, hP, hK, hD0, hN⟩ := hv
  subst hsz
  have hl := lv_entry ([.ref a_0, .ref a_1]) (n := 5) (Nat.le_of_ble_eq_true rfl)
  rw [lg_entry_eq]
  generalize (lg_sl ([.ref a_0, .ref a_1]) ++ List.replicate (5 - (lg_sl ([.ref a_0, .ref a_1])).length) Slot.unset).toArray = ls at hl ⊢
  exact t_Fl_dry a_0 a_0_walls a_1 a_1_xs a_1_ys a_1_cells b_0_waiting b_1_xs_places b_1_ys_places v_0_waits f_0_walls v_1_spaces v_1_xs_count v_1_ys_count f_1_cells of_0_walls of_1_cells B.exec B.bytes hml (findClass_of_methodNamed B.named) (atoms_spec (ws := w_Fl_dry) B.pre) hK hN (fun q h => Or.inr h) (fun pc H locs ls hd hP9 hD9 hS => W.vret B.exec B.bytes B.returns (fun t ht hW => ⟨⟨(), rfl, trivial, by rw [ht]; exact hP9, va_K.moved hW.alike hK, hD9⟩, hS.F ht⟩) hS.2.2 hd) hm s.heap [] ls hP hD0.self va_S.rf hl

theorem k_86 : ((.fieldLink "SpaceCycles$Flood" 20 "SpaceCycles$Flood" "waits" "I") : Cond) ∈ gl := gl_i 105 (by decide +kernel) (by decide +kernel)
theorem k_87 : ((.fieldLink "SpaceCycles$Flood" 17 "SpaceCycles$Flood" "waiting" "[I") : Cond) ∈ gl := gl_i 104 (by decide +kernel) (by decide +kernel)
-- SpaceCycles$Flood.wet(LSpaceCycles$Grid;II)V
abbrev b_Fl_wet : ByteArray := prog_4_method_6_code
abbrev y_Fl_wet : MethodName := ⟨"SpaceCycles$Flood", "wet", "(LSpaceCycles$Grid;II)V"⟩
abbrev w_Fl_wet : List Cond := Cond.code y_Fl_wet b_Fl_wet 4 none :: gl
abbrev rm_Fl_wet : Room := { frames := 0, cells := 0, slots := 0, locals := 0 }
theorem d_Fl_wet_0 : decode b_Fl_wet 0 = .ok (.aload_n 1, 1) := by decide +kernel
theorem d_Fl_wet_1 : decode b_Fl_wet 1 = .ok (.getfield 58, 3) := by decide +kernel
theorem d_Fl_wet_4 : decode b_Fl_wet 4 = .ok (.iload_n 2, 1) := by decide +kernel
theorem d_Fl_wet_5 : decode b_Fl_wet 5 = .ok (.iaload, 1) := by decide +kernel
theorem d_Fl_wet_6 : decode b_Fl_wet 6 = .ok (.bipush (-2), 2) := by decide +kernel
theorem d_Fl_wet_8 : decode b_Fl_wet 8 = .ok (.if_icmp .ne 40, 3) := by decide +kernel
theorem d_Fl_wet_11 : decode b_Fl_wet 11 = .ok (.aload_n 0, 1) := by decide +kernel
theorem d_Fl_wet_12 : decode b_Fl_wet 12 = .ok (.getfield 20, 3) := by decide +kernel
theorem d_Fl_wet_15 : decode b_Fl_wet 15 = .ok (.sipush 1681, 3) := by decide +kernel
theorem d_Fl_wet_18 : decode b_Fl_wet 18 = .ok (.if_icmp .ge 30, 3) := by decide +kernel
theorem d_Fl_wet_21 : decode b_Fl_wet 21 = .ok (.aload_n 1, 1) := by decide +kernel
theorem d_Fl_wet_22 : decode b_Fl_wet 22 = .ok (.getfield 58, 3) := by decide +kernel
theorem d_Fl_wet_25 : decode b_Fl_wet 25 = .ok (.iload_n 2, 1) := by decide +kernel
theorem d_Fl_wet_26 : decode b_Fl_wet 26 = .ok (.iload_n 3, 1) := by decide +kernel
theorem d_Fl_wet_27 : decode b_Fl_wet 27 = .ok (.iastore, 1) := by decide +kernel
theorem d_Fl_wet_28 : decode b_Fl_wet 28 = .ok (.aload_n 0, 1) := by decide +kernel
theorem d_Fl_wet_29 : decode b_Fl_wet 29 = .ok (.getfield 17, 3) := by decide +kernel
theorem d_Fl_wet_32 : decode b_Fl_wet 32 = .ok (.aload_n 0, 1) := by decide +kernel
theorem d_Fl_wet_33 : decode b_Fl_wet 33 = .ok (.getfield 20, 3) := by decide +kernel
theorem d_Fl_wet_36 : decode b_Fl_wet 36 = .ok (.iload_n 2, 1) := by decide +kernel
theorem d_Fl_wet_37 : decode b_Fl_wet 37 = .ok (.iastore, 1) := by decide +kernel
theorem d_Fl_wet_38 : decode b_Fl_wet 38 = .ok (.aload_n 0, 1) := by decide +kernel
theorem d_Fl_wet_39 : decode b_Fl_wet 39 = .ok (.dup, 1) := by decide +kernel
theorem d_Fl_wet_40 : decode b_Fl_wet 40 = .ok (.getfield 20, 3) := by decide +kernel
theorem d_Fl_wet_43 : decode b_Fl_wet 43 = .ok (.iconst 1, 1) := by decide +kernel
theorem d_Fl_wet_44 : decode b_Fl_wet 44 = .ok (.iadd, 1) := by decide +kernel
theorem d_Fl_wet_45 : decode b_Fl_wet 45 = .ok (.putfield 20, 3) := by decide +kernel
theorem d_Fl_wet_48 : decode b_Fl_wet 48 = .ok (.return_, 1) := by decide +kernel
abbrev wl_Fl_wet (a_0 : Nat) (a_0_waiting : Nat) (a_1 : Nat) (a_1_cells : Nat) (b_0_walls : Nat) (b_1_xs : Nat) (b_1_ys : Nat) (cI : ClassId) (v_0_waits : Int32) (f_0_waiting : Nat → Int32) (v_1_spaces : Int32) (f_1_cells : Nat → Int32) : va_W := [(a_0, .inr (2, [.ref b_0_walls, .ref a_0_waiting, .int v_0_waits])), (a_0_waiting, .inl (cI, 1681, .inl f_0_waiting)), (a_1, .inr (8, [.ref b_1_xs, .ref b_1_ys, .ref a_1_cells, .int v_1_spaces])), (a_1_cells, .inl (cI, 1681, .inl f_1_cells))]
def m_Fl_wet (p2 : Int32) (p3 : Int32) (v_0_waits : Int32) (f_0_waiting : Nat → Int32) (f_1_cells : Nat → Int32) : Option ((Int32) × (Nat → Int32) × (Nat → Int32)) :=
  gI p2 1681 <|
  bd3 (
    if (f_1_cells p2.toNatClampNeg) = (-2) then (
    if 1681 ≤ v_0_waits then (
      some (v_0_waits, f_0_waiting, f_1_cells))
    else (
      gI p2 1681 <|
      lt_ (upd f_1_cells p2.toNatClampNeg p3) fun f11 =>
      gI v_0_waits 1681 <|
      lt_ (upd f_0_waiting v_0_waits.toNatClampNeg p2) fun f13 =>
      lt_ (v_0_waits + 1) fun x14 =>
      some (x14, f13, f11)))
  else (
    some (v_0_waits, f_0_waiting, f_1_cells)))
  fun (x5 : Int32) (f6 : Nat → Int32) (f7 : Nat → Int32) =>
  some (x5, f6, f7)

set_option maxHeartbeats 4000000 in
set_option maxRecDepth 100000 in
theorem t_Fl_wet {p : Program} {l : Launch} {e : Env} {s : State} {m : MethodId} {args : Array Value} {below : List Frame} {meth : Method} {c : Code} {A : Nat → Prop} {Q : State → Prop} {dC : Nat → ClassId} {dI : Nat → Nat → Nat} {cI cZ cJ : ClassId} (a_0 a_0_waiting a_1 a_1_cells b_0_walls b_1_xs b_1_ys : Nat) (v_0_waits : Int32) (f_0_waiting : Nat → Int32) (v_1_spaces : Int32) (f_1_cells : Nat → Int32) (p2 : Int32) (p3 : Int32) (ov_0_waits : Int32) (of_0_waiting : Nat → Int32) (of_1_cells : Nat → Int32) (hx : p.tables.exec = Jvm.exec) (hb : c.code = b_Fl_wet) (hml : c.maxLocals = 4) (hown : s.vm.findClass "SpaceCycles$Flood" = some m.cls) (hts : ∀ w ∈ w_Fl_wet, w.before args s = true) (hK : va_K (dC, dI) vwCl [(cI, .int), (cZ, .boolean), (cJ, .long)] s) (hN : NX s) (hA : ∀ q : Nat, s.heap.size ≤ q → A q)
    (hret : ∀ (pc : Nat) (H : Heap) (locs : List Loc) (ls : Array Slot), decode b_Fl_wet pc = .ok (.return_, 1) → va_P (dC, dI) vwCl (wl_Fl_wet a_0 a_0_waiting a_1 a_1_cells b_0_walls b_1_xs b_1_ys cI ov_0_waits of_0_waiting v_1_spaces of_1_cells) H → va_D A (wl_Fl_wet a_0 a_0_waiting a_1 a_1_cells b_0_walls b_1_xs b_1_ys cI ov_0_waits of_0_waiting v_1_spaces of_1_cells) → va_S A s.heap H locs → W p l e rm_Fl_wet s m args below meth c H locs 0 0 Q (F0 m pc ls []))
    (hm : m_Fl_wet p2 p3 v_0_waits f_0_waiting f_1_cells = some (ov_0_waits, of_0_waiting, of_1_cells)) : ∀ (H : Heap) (locs : List Loc) (ls : Array Slot), va_P (dC, dI) vwCl (wl_Fl_wet a_0 a_0_waiting a_1 a_1_cells b_0_walls b_1_xs b_1_ys cI v_0_waits f_0_waiting v_1_spaces f_1_cells) H → va_D A (wl_Fl_wet a_0 a_0_waiting a_1 a_1_cells b_0_walls b_1_xs b_1_ys cI v_0_waits f_0_waiting v_1_spaces f_1_cells) → va_S A s.heap H locs → lv_has ls 4 [(0, .ref a_0), (1, .ref a_1), (2, .int p2), (3, .int p3)] → W p l e rm_Fl_wet s m args below meth c H locs 0 0 Q (F0 m 0 ls []) := by
  intro H locs ls hP hD hS hl
  unfold m_Fl_wet at hm
  refine lv_aload_n hx hb d_Fl_wet_0 rfl (lv_at hl 1 rfl) ?_
  refine va_get (D := (dC, dI)) (ci := 8) (v := .ref a_1_cells) (C := "SpaceCycles$Grid") (T := F_Gr) (N := 4) hx hb hts (in_F i_Gr) hown hK hP 2 rfl rfl 2 (by decide) (hts _ (in_c k_83)) (fun _ h9 => h9) rfl d_Fl_wet_1 ?_
  refine lv_iload_n hx hb d_Fl_wet_4 rfl (lv_at hl 2 rfl) ?_
  obtain ⟨hi1, hm⟩ := gI_e hm
  refine va_iald hx hb hK hP 3 0 rfl rfl hi1 d_Fl_wet_5 ?_
  refine lv_bipush (v := (-2)) hx hb d_Fl_wet_6 (by decide) ?_
  obtain ⟨x5, f6, f7, hb3, hm⟩ := bd3_e hm
  have K2 : ∀ (H : Heap) (locs : List Loc) (ls : Array Slot), va_P (dC, dI) vwCl (wl_Fl_wet a_0 a_0_waiting a_1 a_1_cells b_0_walls b_1_xs b_1_ys cI x5 f6 v_1_spaces f7) H → va_D A (wl_Fl_wet a_0 a_0_waiting a_1 a_1_cells b_0_walls b_1_xs b_1_ys cI x5 f6 v_1_spaces f7) → va_S A s.heap H locs → lv_has ls 4 [] → W p l e rm_Fl_wet s m args below meth c H locs 0 0 Q (F0 m 48 ls []) := by
    intro H locs ls hP hD hS hl
    cases hm
    exact hret _ H locs ls d_Fl_wet_48 hP hD hS
  replace hm := hb3
  refine lv_icmp_ne (tgt := 48) hx hb d_Fl_wet_8 (by decide) (fun c8 => ?_) (fun c8 => ?_)
  · replace hm := if_f hm c8
    cases hm
    exact K2 H locs ls hP hD hS (lv_sub hl [] rfl)
  · replace hm := if_t hm c8
    refine lv_aload_n hx hb d_Fl_wet_11 rfl (lv_at hl 0 rfl) ?_
    refine va_get (D := (dC, dI)) (ci := 2) (v := .int v_0_waits) (C := "SpaceCycles$Flood") (T := F_Fl) (N := 3) hx hb hts (in_F i_Fl) hown hK hP 0 rfl rfl 2 (by decide) (hts _ (in_c k_86)) (fun _ h9 => h9) rfl d_Fl_wet_12 ?_
    refine lv_sipush (v := 1681) hx hb d_Fl_wet_15 (by decide) ?_
    refine lv_icmp_ge (tgt := 48) hx hb d_Fl_wet_18 (by decide) (fun c9 => ?_) (fun c9 => ?_)
    · replace hm := if_t hm c9
      cases hm
      exact K2 H locs ls hP hD hS (lv_sub hl [] rfl)
    · replace hm := if_f hm c9
      refine lv_aload_n hx hb d_Fl_wet_21 rfl (lv_at hl 1 rfl) ?_
      refine va_get (D := (dC, dI)) (ci := 8) (v := .ref a_1_cells) (C := "SpaceCycles$Grid") (T := F_Gr) (N := 4) hx hb hts (in_F i_Gr) hown hK hP 2 rfl rfl 2 (by decide) (hts _ (in_c k_83)) (fun _ h9 => h9) rfl d_Fl_wet_22 ?_
      refine lv_iload_n hx hb d_Fl_wet_25 rfl (lv_at hl 2 rfl) ?_
      refine lv_iload_n hx hb d_Fl_wet_26 rfl (lv_at hl 3 rfl) ?_
      obtain ⟨hi10, hm⟩ := gI_e hm
      obtain ⟨f11, ef11⟩ : ∃ y : Nat → Int32, y = upd f_1_cells p2.toNatClampNeg p3 := ⟨_, rfl⟩
      replace hm := lt_el hm ef11
      refine va_iast hx hb hK hP hD hS 3 0 rfl rfl hi10 d_Fl_wet_27 (fun H locs hP hD hS => ?_)
      rw [← ef11] at hP hD
      have hP : va_P (dC, dI) vwCl (wl_Fl_wet a_0 a_0_waiting a_1 a_1_cells b_0_walls b_1_xs b_1_ys cI v_0_waits f_0_waiting v_1_spaces f11) H := hP
      have hD : va_D A (wl_Fl_wet a_0 a_0_waiting a_1 a_1_cells b_0_walls b_1_xs b_1_ys cI v_0_waits f_0_waiting v_1_spaces f11) := hD
      refine lv_aload_n hx hb d_Fl_wet_28 rfl (lv_at hl 0 rfl) ?_
      refine va_get (D := (dC, dI)) (ci := 2) (v := .ref a_0_waiting) (C := "SpaceCycles$Flood") (T := F_Fl) (N := 3) hx hb hts (in_F i_Fl) hown hK hP 0 rfl rfl 1 (by decide) (hts _ (in_c k_87)) (fun _ h9 => h9) rfl d_Fl_wet_29 ?_
      refine lv_aload_n hx hb d_Fl_wet_32 rfl (lv_at hl 0 rfl) ?_
      refine va_get (D := (dC, dI)) (ci := 2) (v := .int v_0_waits) (C := "SpaceCycles$Flood") (T := F_Fl) (N := 3) hx hb hts (in_F i_Fl) hown hK hP 0 rfl rfl 2 (by decide) (hts _ (in_c k_86)) (fun _ h9 => h9) rfl d_Fl_wet_33 ?_
      refine lv_iload_n hx hb d_Fl_wet_36 rfl (lv_at hl 2 rfl) ?_
      obtain ⟨hi12, hm⟩ := gI_e hm
      obtain ⟨f13, ef13⟩ : ∃ y : Nat → Int32, y = upd f_0_waiting v_0_waits.toNatClampNeg p2 := ⟨_, rfl⟩
      replace hm := lt_el hm ef13
      refine va_iast hx hb hK hP hD hS 1 0 rfl rfl hi12 d_Fl_wet_37 (fun H locs hP hD hS => ?_)
      rw [← ef13] at hP hD
      have hP : va_P (dC, dI) vwCl (wl_Fl_wet a_0 a_0_waiting a_1 a_1_cells b_0_walls b_1_xs b_1_ys cI v_0_waits f13 v_1_spaces f11) H := hP
      have hD : va_D A (wl_Fl_wet a_0 a_0_waiting a_1 a_1_cells b_0_walls b_1_xs b_1_ys cI v_0_waits f13 v_1_spaces f11) := hD
      refine lv_aload_n hx hb d_Fl_wet_38 rfl (lv_at hl 0 rfl) ?_
      refine lv_dup hx hb d_Fl_wet_39 rfl ?_
      refine va_get (D := (dC, dI)) (ci := 2) (v := .int v_0_waits) (C := "SpaceCycles$Flood") (T := F_Fl) (N := 3) hx hb hts (in_F i_Fl) hown hK hP 0 rfl rfl 2 (by decide) (hts _ (in_c k_86)) (fun _ h9 => h9) rfl d_Fl_wet_40 ?_
      refine lv_iconst (v := 1) hx hb d_Fl_wet_43 (by decide) ?_
      refine lv_iadd hx hb d_Fl_wet_44 ?_
      refine lv_topi (fun x14 ex14 => ?_)
      replace hm := lt_el hm ex14
      refine va_put (D := (dC, dI)) (ci := 2) (v := .int x14) (ty := .int) (C := "SpaceCycles$Flood") (T := F_Fl) (N := 3) hx hb hts (in_F i_Fl) t_Fl t_Fl_ok n_Fl hown hK hP hD hS 0 rfl rfl 2 (by decide) (hts _ (in_c k_86)) (fun _ h9 => h9) rfl (by decide +kernel) rfl rfl (Nat.le_of_ble_eq_true rfl) d_Fl_wet_45 (fun H locs hP hD hS => ?_)
      have hP : va_P (dC, dI) vwCl (wl_Fl_wet a_0 a_0_waiting a_1 a_1_cells b_0_walls b_1_xs b_1_ys cI x14 f13 v_1_spaces f11) H := hP
      have hD : va_D A (wl_Fl_wet a_0 a_0_waiting a_1 a_1_cells b_0_walls b_1_xs b_1_ys cI x14 f13 v_1_spaces f11) := hD
      cases hm
      exact K2 H locs ls hP hD hS (lv_sub hl [] rfl)
set_option maxHeartbeats 4000000 in
set_option maxRecDepth 100000 in
theorem c_Fl_wet (l : Launch) (dC : Nat → ClassId) (dI : Nat → Nat → Nat) {cI cZ cJ : ClassId} (a_0 a_0_waiting a_1 a_1_cells b_0_walls b_1_xs b_1_ys : Nat) (sz : Nat) (v_0_waits : Int32) (f_0_waiting : Nat → Int32) (v_1_spaces : Int32) (f_1_cells : Nat → Int32) (p2 : Int32) (p3 : Int32) (ov_0_waits : Int32) (of_0_waiting : Nat → Int32) (of_1_cells : Nat → Int32) (hm : m_Fl_wet p2 p3 v_0_waits f_0_waiting f_1_cells = some (ov_0_waits, of_0_waiting, of_1_cells)) : Met l y_Fl_wet w_Fl_wet rm_Fl_wet (PP dC dI [(cI, .int), (cZ, .boolean), (cJ, .long)] [.ref a_0, .ref a_1, .int p2, .int p3] sz (wl_Fl_wet a_0 a_0_waiting a_1 a_1_cells b_0_walls b_1_xs b_1_ys cI v_0_waits f_0_waiting v_1_spaces f_1_cells)) (QV dC dI [(cI, .int), (cZ, .boolean), (cJ, .long)] sz (wl_Fl_wet a_0 a_0_waiting a_1 a_1_cells b_0_walls b_1_xs b_1_ys cI v_0_waits f_0_waiting v_1_spaces f_1_cells) (wl_Fl_wet a_0 a_0_waiting a_1 a_1_cells b_0_walls b_1_xs b_1_ys cI ov_0_waits of_0_waiting v_1_spaces of_1_cells)) 0 0 (va_A (wl_Fl_wet a_0 a_0_waiting a_1 a_1_cells b_0_walls b_1_xs b_1_ys cI v_0_waits f_0_waiting v_1_spaces f_1_cells) sz) := by
  refine Met.ofW (cc := b_Fl_wet) (maxL := 4) (ret := none) (by decide) rfl ?_
  intro p e s m args below meth c s₁ B hml hv
  obtain ⟨rfl, hsz, hP, hK, hD0, hN⟩ := hv
  subst hsz
  have hl := lv_entry ([.ref a_0, .ref a_1, .int p2, .int p3]) (n := 4) (Nat.le_of_ble_eq_true rfl)
  rw [lg_entry_eq]
  generalize (lg_sl ([.ref a_0, .ref a_1, .int p2, .int p3]) ++ List.replicate (4 - (lg_sl ([.ref a_0, .ref a_1, .int p2, .int p3])).length) Slot.unset).toArray = ls at hl ⊢
  exact t_Fl_wet a_0 a_0_waiting a_1 a_1_cells b_0_walls b_1_xs b_1_ys v_0_waits f_0_waiting v_1_spaces f_1_cells p2 p3 ov_0_waits of_0_waiting of_1_cells B.exec B.bytes hml (findClass_of_methodNamed B.named) (atoms_spec (ws := w_Fl_wet) B.pre) hK hN (fun q h => Or.inr h) (fun pc H locs ls hd hP9 hD9 hS => W.vret B.exec B.bytes B.returns (fun t ht hW => ⟨⟨(), rfl, trivial, by rw [ht]; exact hP9, va_K.moved hW.alike hK, hD9⟩, hS.F ht⟩) hS.2.2 hd) hm s.heap [] ls hP hD0.self va_S.rf hl

theorem k_88 : ((.code ⟨"SpaceCycles$Flood", "wet", "(LSpaceCycles$Grid;II)V"⟩ prog_4_method_6_code 4 none) : Cond) ∈ gl := gl_i 797 (by decide +kernel) (by decide +kernel)
theorem k_89 : ((.selects "SpaceCycles$Flood" ⟨"SpaceCycles$Flood", "wet", "(LSpaceCycles$Grid;II)V"⟩ ⟨"SpaceCycles$Flood", "wet", "(LSpaceCycles$Grid;II)V"⟩) : Cond) ∈ gl := gl_s (by decide +kernel) (by decide +kernel)
theorem k_90 : ((.instanceMethod ⟨"SpaceCycles$Flood", "wet", "(LSpaceCycles$Grid;II)V"⟩) : Cond) ∈ gl := gl_i 796 (by decide +kernel) (by decide +kernel)
theorem k_91 : ((.initialized "SpaceCycles$Flood") : Cond) ∈ gl := gl_i 3 (by decide +kernel) (by decide +kernel)
theorem k_92 : ((.methodLink "SpaceCycles$Flood" 83 ⟨"SpaceCycles$Flood", "wet", "(LSpaceCycles$Grid;II)V"⟩) : Cond) ∈ gl := gl_i 794 (by decide +kernel) (by decide +kernel)
-- SpaceCycles$Flood.spread(LSpaceCycles$Grid;II)V
abbrev b_Fl_spread : ByteArray := prog_4_method_5_code
abbrev y_Fl_spread : MethodName := ⟨"SpaceCycles$Flood", "spread", "(LSpaceCycles$Grid;II)V"⟩
abbrev w_Fl_spread : List Cond := Cond.code y_Fl_spread b_Fl_spread 8 none :: gl
abbrev rm_Fl_spread : Room := { frames := 1, cells := 0, slots := 0, locals := 23 }
theorem d_Fl_spread_0 : decode b_Fl_spread 0 = .ok (.aload_n 0, 1) := by decide +kernel
theorem d_Fl_spread_1 : decode b_Fl_spread 1 = .ok (.iconst 0, 1) := by decide +kernel
theorem d_Fl_spread_2 : decode b_Fl_spread 2 = .ok (.putfield 20, 3) := by decide +kernel
theorem d_Fl_spread_5 : decode b_Fl_spread 5 = .ok (.aload_n 0, 1) := by decide +kernel
theorem d_Fl_spread_6 : decode b_Fl_spread 6 = .ok (.aload_n 1, 1) := by decide +kernel
theorem d_Fl_spread_7 : decode b_Fl_spread 7 = .ok (.iload_n 2, 1) := by decide +kernel
theorem d_Fl_spread_8 : decode b_Fl_spread 8 = .ok (.iload_n 3, 1) := by decide +kernel
theorem d_Fl_spread_9 : decode b_Fl_spread 9 = .ok (.invokevirtual 83, 3) := by decide +kernel
theorem d_Fl_spread_12 : decode b_Fl_spread 12 = .ok (.iconst 0, 1) := by decide +kernel
theorem d_Fl_spread_13 : decode b_Fl_spread 13 = .ok (.istore 4, 2) := by decide +kernel
theorem d_Fl_spread_15 : decode b_Fl_spread 15 = .ok (.iload 4, 2) := by decide +kernel
theorem d_Fl_spread_17 : decode b_Fl_spread 17 = .ok (.sipush 1681, 3) := by decide +kernel
theorem d_Fl_spread_20 : decode b_Fl_spread 20 = .ok (.if_icmp .ge 180, 3) := by decide +kernel
theorem d_Fl_spread_23 : decode b_Fl_spread 23 = .ok (.aload_n 0, 1) := by decide +kernel
theorem d_Fl_spread_24 : decode b_Fl_spread 24 = .ok (.getfield 20, 3) := by decide +kernel
theorem d_Fl_spread_27 : decode b_Fl_spread 27 = .ok (.ifCond .le 173, 3) := by decide +kernel
theorem d_Fl_spread_30 : decode b_Fl_spread 30 = .ok (.aload_n 0, 1) := by decide +kernel
theorem d_Fl_spread_31 : decode b_Fl_spread 31 = .ok (.dup, 1) := by decide +kernel
theorem d_Fl_spread_32 : decode b_Fl_spread 32 = .ok (.getfield 20, 3) := by decide +kernel
theorem d_Fl_spread_35 : decode b_Fl_spread 35 = .ok (.iconst 1, 1) := by decide +kernel
theorem d_Fl_spread_36 : decode b_Fl_spread 36 = .ok (.isub, 1) := by decide +kernel
theorem d_Fl_spread_37 : decode b_Fl_spread 37 = .ok (.putfield 20, 3) := by decide +kernel
theorem d_Fl_spread_40 : decode b_Fl_spread 40 = .ok (.aload_n 0, 1) := by decide +kernel
theorem d_Fl_spread_41 : decode b_Fl_spread 41 = .ok (.getfield 17, 3) := by decide +kernel
theorem d_Fl_spread_44 : decode b_Fl_spread 44 = .ok (.aload_n 0, 1) := by decide +kernel
theorem d_Fl_spread_45 : decode b_Fl_spread 45 = .ok (.getfield 20, 3) := by decide +kernel
theorem d_Fl_spread_48 : decode b_Fl_spread 48 = .ok (.iaload, 1) := by decide +kernel
theorem d_Fl_spread_49 : decode b_Fl_spread 49 = .ok (.istore 5, 2) := by decide +kernel
theorem d_Fl_spread_51 : decode b_Fl_spread 51 = .ok (.iload 5, 2) := by decide +kernel
theorem d_Fl_spread_53 : decode b_Fl_spread 53 = .ok (.bipush 41, 2) := by decide +kernel
theorem d_Fl_spread_55 : decode b_Fl_spread 55 = .ok (.idiv, 1) := by decide +kernel
theorem d_Fl_spread_56 : decode b_Fl_spread 56 = .ok (.istore 6, 2) := by decide +kernel
theorem d_Fl_spread_58 : decode b_Fl_spread 58 = .ok (.iload 5, 2) := by decide +kernel
theorem d_Fl_spread_60 : decode b_Fl_spread 60 = .ok (.bipush 41, 2) := by decide +kernel
theorem d_Fl_spread_62 : decode b_Fl_spread 62 = .ok (.irem, 1) := by decide +kernel
theorem d_Fl_spread_63 : decode b_Fl_spread 63 = .ok (.istore 7, 2) := by decide +kernel
theorem d_Fl_spread_65 : decode b_Fl_spread 65 = .ok (.iload 6, 2) := by decide +kernel
theorem d_Fl_spread_67 : decode b_Fl_spread 67 = .ok (.aload_n 1, 1) := by decide +kernel
theorem d_Fl_spread_68 : decode b_Fl_spread 68 = .ok (.getfield 44, 3) := by decide +kernel
theorem d_Fl_spread_71 : decode b_Fl_spread 71 = .ok (.getfield 48, 3) := by decide +kernel
theorem d_Fl_spread_74 : decode b_Fl_spread 74 = .ok (.if_icmp .ge 26, 3) := by decide +kernel
theorem d_Fl_spread_77 : decode b_Fl_spread 77 = .ok (.aload_n 0, 1) := by decide +kernel
theorem d_Fl_spread_78 : decode b_Fl_spread 78 = .ok (.getfield 11, 3) := by decide +kernel
theorem d_Fl_spread_81 : decode b_Fl_spread 81 = .ok (.iload 5, 2) := by decide +kernel
theorem d_Fl_spread_83 : decode b_Fl_spread 83 = .ok (.iaload, 1) := by decide +kernel
theorem d_Fl_spread_84 : decode b_Fl_spread 84 = .ok (.iconst 1, 1) := by decide +kernel
theorem d_Fl_spread_85 : decode b_Fl_spread 85 = .ok (.iand, 1) := by decide +kernel
theorem d_Fl_spread_86 : decode b_Fl_spread 86 = .ok (.ifCond .ne 14, 3) := by decide +kernel
theorem d_Fl_spread_89 : decode b_Fl_spread 89 = .ok (.aload_n 0, 1) := by decide +kernel
theorem d_Fl_spread_90 : decode b_Fl_spread 90 = .ok (.aload_n 1, 1) := by decide +kernel
theorem d_Fl_spread_91 : decode b_Fl_spread 91 = .ok (.iload 5, 2) := by decide +kernel
theorem d_Fl_spread_93 : decode b_Fl_spread 93 = .ok (.bipush 41, 2) := by decide +kernel
theorem d_Fl_spread_95 : decode b_Fl_spread 95 = .ok (.iadd, 1) := by decide +kernel
theorem d_Fl_spread_96 : decode b_Fl_spread 96 = .ok (.iload_n 3, 1) := by decide +kernel
theorem d_Fl_spread_97 : decode b_Fl_spread 97 = .ok (.invokevirtual 83, 3) := by decide +kernel
theorem d_Fl_spread_100 : decode b_Fl_spread 100 = .ok (.iload 6, 2) := by decide +kernel
theorem d_Fl_spread_102 : decode b_Fl_spread 102 = .ok (.ifCond .le 29, 3) := by decide +kernel
theorem d_Fl_spread_105 : decode b_Fl_spread 105 = .ok (.aload_n 0, 1) := by decide +kernel
theorem d_Fl_spread_106 : decode b_Fl_spread 106 = .ok (.getfield 11, 3) := by decide +kernel
theorem d_Fl_spread_109 : decode b_Fl_spread 109 = .ok (.iload 5, 2) := by decide +kernel
theorem d_Fl_spread_111 : decode b_Fl_spread 111 = .ok (.bipush 41, 2) := by decide +kernel
theorem d_Fl_spread_113 : decode b_Fl_spread 113 = .ok (.isub, 1) := by decide +kernel
theorem d_Fl_spread_114 : decode b_Fl_spread 114 = .ok (.iaload, 1) := by decide +kernel
theorem d_Fl_spread_115 : decode b_Fl_spread 115 = .ok (.iconst 1, 1) := by decide +kernel
theorem d_Fl_spread_116 : decode b_Fl_spread 116 = .ok (.iand, 1) := by decide +kernel
theorem d_Fl_spread_117 : decode b_Fl_spread 117 = .ok (.ifCond .ne 14, 3) := by decide +kernel
theorem d_Fl_spread_120 : decode b_Fl_spread 120 = .ok (.aload_n 0, 1) := by decide +kernel
theorem d_Fl_spread_121 : decode b_Fl_spread 121 = .ok (.aload_n 1, 1) := by decide +kernel
theorem d_Fl_spread_122 : decode b_Fl_spread 122 = .ok (.iload 5, 2) := by decide +kernel
theorem d_Fl_spread_124 : decode b_Fl_spread 124 = .ok (.bipush 41, 2) := by decide +kernel
theorem d_Fl_spread_126 : decode b_Fl_spread 126 = .ok (.isub, 1) := by decide +kernel
theorem d_Fl_spread_127 : decode b_Fl_spread 127 = .ok (.iload_n 3, 1) := by decide +kernel
theorem d_Fl_spread_128 : decode b_Fl_spread 128 = .ok (.invokevirtual 83, 3) := by decide +kernel
theorem d_Fl_spread_131 : decode b_Fl_spread 131 = .ok (.iload 7, 2) := by decide +kernel
theorem d_Fl_spread_133 : decode b_Fl_spread 133 = .ok (.aload_n 1, 1) := by decide +kernel
theorem d_Fl_spread_134 : decode b_Fl_spread 134 = .ok (.getfield 51, 3) := by decide +kernel
theorem d_Fl_spread_137 : decode b_Fl_spread 137 = .ok (.getfield 48, 3) := by decide +kernel
theorem d_Fl_spread_140 : decode b_Fl_spread 140 = .ok (.if_icmp .ge 25, 3) := by decide +kernel
theorem d_Fl_spread_143 : decode b_Fl_spread 143 = .ok (.aload_n 0, 1) := by decide +kernel
theorem d_Fl_spread_144 : decode b_Fl_spread 144 = .ok (.getfield 11, 3) := by decide +kernel
theorem d_Fl_spread_147 : decode b_Fl_spread 147 = .ok (.iload 5, 2) := by decide +kernel
theorem d_Fl_spread_149 : decode b_Fl_spread 149 = .ok (.iaload, 1) := by decide +kernel
theorem d_Fl_spread_150 : decode b_Fl_spread 150 = .ok (.iconst 2, 1) := by decide +kernel
theorem d_Fl_spread_151 : decode b_Fl_spread 151 = .ok (.iand, 1) := by decide +kernel
theorem d_Fl_spread_152 : decode b_Fl_spread 152 = .ok (.ifCond .ne 13, 3) := by decide +kernel
theorem d_Fl_spread_155 : decode b_Fl_spread 155 = .ok (.aload_n 0, 1) := by decide +kernel
theorem d_Fl_spread_156 : decode b_Fl_spread 156 = .ok (.aload_n 1, 1) := by decide +kernel
theorem d_Fl_spread_157 : decode b_Fl_spread 157 = .ok (.iload 5, 2) := by decide +kernel
theorem d_Fl_spread_159 : decode b_Fl_spread 159 = .ok (.iconst 1, 1) := by decide +kernel
theorem d_Fl_spread_160 : decode b_Fl_spread 160 = .ok (.iadd, 1) := by decide +kernel
theorem d_Fl_spread_161 : decode b_Fl_spread 161 = .ok (.iload_n 3, 1) := by decide +kernel
theorem d_Fl_spread_162 : decode b_Fl_spread 162 = .ok (.invokevirtual 83, 3) := by decide +kernel
theorem d_Fl_spread_165 : decode b_Fl_spread 165 = .ok (.iload 7, 2) := by decide +kernel
theorem d_Fl_spread_167 : decode b_Fl_spread 167 = .ok (.ifCond .le 27, 3) := by decide +kernel
theorem d_Fl_spread_170 : decode b_Fl_spread 170 = .ok (.aload_n 0, 1) := by decide +kernel
theorem d_Fl_spread_171 : decode b_Fl_spread 171 = .ok (.getfield 11, 3) := by decide +kernel
theorem d_Fl_spread_174 : decode b_Fl_spread 174 = .ok (.iload 5, 2) := by decide +kernel
theorem d_Fl_spread_176 : decode b_Fl_spread 176 = .ok (.iconst 1, 1) := by decide +kernel
theorem d_Fl_spread_177 : decode b_Fl_spread 177 = .ok (.isub, 1) := by decide +kernel
theorem d_Fl_spread_178 : decode b_Fl_spread 178 = .ok (.iaload, 1) := by decide +kernel
theorem d_Fl_spread_179 : decode b_Fl_spread 179 = .ok (.iconst 2, 1) := by decide +kernel
theorem d_Fl_spread_180 : decode b_Fl_spread 180 = .ok (.iand, 1) := by decide +kernel
theorem d_Fl_spread_181 : decode b_Fl_spread 181 = .ok (.ifCond .ne 13, 3) := by decide +kernel
theorem d_Fl_spread_184 : decode b_Fl_spread 184 = .ok (.aload_n 0, 1) := by decide +kernel
theorem d_Fl_spread_185 : decode b_Fl_spread 185 = .ok (.aload_n 1, 1) := by decide +kernel
theorem d_Fl_spread_186 : decode b_Fl_spread 186 = .ok (.iload 5, 2) := by decide +kernel
theorem d_Fl_spread_188 : decode b_Fl_spread 188 = .ok (.iconst 1, 1) := by decide +kernel
theorem d_Fl_spread_189 : decode b_Fl_spread 189 = .ok (.isub, 1) := by decide +kernel
theorem d_Fl_spread_190 : decode b_Fl_spread 190 = .ok (.iload_n 3, 1) := by decide +kernel
theorem d_Fl_spread_191 : decode b_Fl_spread 191 = .ok (.invokevirtual 83, 3) := by decide +kernel
theorem d_Fl_spread_194 : decode b_Fl_spread 194 = .ok (.iinc 4 1, 3) := by decide +kernel
theorem d_Fl_spread_197 : decode b_Fl_spread 197 = .ok (.goto (-182), 3) := by decide +kernel
theorem d_Fl_spread_200 : decode b_Fl_spread 200 = .ok (.return_, 1) := by decide +kernel
abbrev wl_Fl_spread (a_0 : Nat) (a_0_walls : Nat) (a_0_waiting : Nat) (a_1 : Nat) (a_1_xs : Nat) (a_1_ys : Nat) (a_1_cells : Nat) (b_1_xs_places : Nat) (b_1_ys_places : Nat) (cI : ClassId) (v_0_waits : Int32) (f_0_walls : Nat → Int32) (f_0_waiting : Nat → Int32) (v_1_spaces : Int32) (v_1_xs_count : Int32) (v_1_ys_count : Int32) (f_1_cells : Nat → Int32) : va_W := [(a_0, .inr (2, [.ref a_0_walls, .ref a_0_waiting, .int v_0_waits])), (a_0_walls, .inl (cI, 1681, .inl f_0_walls)), (a_0_waiting, .inl (cI, 1681, .inl f_0_waiting)), (a_1, .inr (8, [.ref a_1_xs, .ref a_1_ys, .ref a_1_cells, .int v_1_spaces])), (a_1_xs, .inr (9, [.ref b_1_xs_places, .int v_1_xs_count])), (a_1_ys, .inr (9, [.ref b_1_ys_places, .int v_1_ys_count])), (a_1_cells, .inl (cI, 1681, .inl f_1_cells))]
def m_Fl_spread_L15 (l3 : Int32) (f_0_walls : Nat → Int32) (v_1_xs_count : Int32) (v_1_ys_count : Int32) : Nat → Int32 → Int32 → (Nat → Int32) → (Nat → Int32) → Option ((Int32) × (Nat → Int32) × (Nat → Int32))
  | 0, _, _, _, _ => none
  | n + 1, l4, v_0_waits, f_0_waiting, f_1_cells =>
    if 1681 ≤ l4 then (
      some (v_0_waits, f_0_waiting, f_1_cells))
    else (
      if v_0_waits ≤ 0 then (
        some (v_0_waits, f_0_waiting, f_1_cells))
      else (
        lt_ (v_0_waits - 1) fun x7 =>
        gI x7 1681 <|
        lt_ (f_0_waiting x7.toNatClampNeg) fun x9 =>
        lt_ (x9 / 41) fun x10 =>
        lt_ (x9 - x9 / 41 * 41) fun x11 =>
        bd3 (
          if v_1_xs_count ≤ x10 then (
          some (x7, f_0_waiting, f_1_cells))
        else (
          gI x9 1681 <|
          if ((f_0_walls x9.toNatClampNeg) &&& 1) = 0 then (
            bd3 (m_Fl_wet (x9 + 41) l3 x7 f_0_waiting f_1_cells) fun x21 f22 f23 =>
            some (x21, f22, f23))
          else (
            some (x7, f_0_waiting, f_1_cells))))
        fun (x15 : Int32) (f16 : Nat → Int32) (f17 : Nat → Int32) =>
        bd3 (
            if x10 ≤ 0 then (
            some (x15, f16, f17))
          else (
            gI (x9 - 41) 1681 <|
            if ((f_0_walls (x9 - 41).toNatClampNeg) &&& 1) = 0 then (
              bd3 (m_Fl_wet (x9 - 41) l3 x15 f16 f17) fun x34 f35 f36 =>
              some (x34, f35, f36))
            else (
              some (x15, f16, f17))))
          fun (x28 : Int32) (f29 : Nat → Int32) (f30 : Nat → Int32) =>
          bd3 (
              if v_1_ys_count ≤ x11 then (
              some (x28, f29, f30))
            else (
              gI x9 1681 <|
              if ((f_0_walls x9.toNatClampNeg) &&& 2) = 0 then (
                bd3 (m_Fl_wet (x9 + 1) l3 x28 f29 f30) fun x47 f48 f49 =>
                some (x47, f48, f49))
              else (
                some (x28, f29, f30))))
            fun (x41 : Int32) (f42 : Nat → Int32) (f43 : Nat → Int32) =>
            bd3 (
                if x11 ≤ 0 then (
                some (x41, f42, f43))
              else (
                gI (x9 - 1) 1681 <|
                if ((f_0_walls (x9 - 1).toNatClampNeg) &&& 2) = 0 then (
                  bd3 (m_Fl_wet (x9 - 1) l3 x41 f42 f43) fun x60 f61 f62 =>
                  some (x60, f61, f62))
                else (
                  some (x41, f42, f43))))
              fun (x54 : Int32) (f55 : Nat → Int32) (f56 : Nat → Int32) =>
              lt_ (l4 + 1) fun x64 =>
                m_Fl_spread_L15 l3 f_0_walls v_1_xs_count v_1_ys_count n x64 x54 f55 f56))
def m_Fl_spread (p2 : Int32) (p3 : Int32) (v_0_waits : Int32) (f_0_walls : Nat → Int32) (f_0_waiting : Nat → Int32) (v_1_xs_count : Int32) (v_1_ys_count : Int32) (f_1_cells : Nat → Int32) : Option ((Int32) × (Nat → Int32) × (Nat → Int32)) :=
  bd3 (m_Fl_wet p2 p3 0 f_0_waiting f_1_cells) fun x1 f2 f3 =>
  bd3 (m_Fl_spread_L15 p3 f_0_walls v_1_xs_count v_1_ys_count fu 0 x1 f2 f3) fun x9 f10 f11 =>
  some (x9, f10, f11)

set_option maxHeartbeats 4000000 in
set_option maxRecDepth 100000 in
theorem t_Fl_spread {p : Program} {l : Launch} {e : Env} {s : State} {m : MethodId} {args : Array Value} {below : List Frame} {meth : Method} {c : Code} {A : Nat → Prop} {Q : State → Prop} {dC : Nat → ClassId} {dI : Nat → Nat → Nat} {cI cZ cJ : ClassId} (a_0 a_0_walls a_0_waiting a_1 a_1_xs a_1_ys a_1_cells b_1_xs_places b_1_ys_places : Nat) (v_0_waits : Int32) (f_0_walls : Nat → Int32) (f_0_waiting : Nat → Int32) (v_1_spaces : Int32) (v_1_xs_count : Int32) (v_1_ys_count : Int32) (f_1_cells : Nat → Int32) (p2 : Int32) (p3 : Int32) (ov_0_waits : Int32) (of_0_waiting : Nat → Int32) (of_1_cells : Nat → Int32) (hx : p.tables.exec = Jvm.exec) (hb : c.code = b_Fl_spread) (hml : c.maxLocals = 8) (hown : s.vm.findClass "SpaceCycles$Flood" = some m.cls) (hts : ∀ w ∈ w_Fl_spread, w.before args s = true) (hK : va_K (dC, dI) vwCl [(cI, .int), (cZ, .boolean), (cJ, .long)] s) (hN : NX s) (hA : ∀ q : Nat, s.heap.size ≤ q → A q)
    (hret : ∀ (pc : Nat) (H : Heap) (locs : List Loc) (ls : Array Slot), decode b_Fl_spread pc = .ok (.return_, 1) → va_P (dC, dI) vwCl (wl_Fl_spread a_0 a_0_walls a_0_waiting a_1 a_1_xs a_1_ys a_1_cells b_1_xs_places b_1_ys_places cI ov_0_waits f_0_walls of_0_waiting v_1_spaces v_1_xs_count v_1_ys_count of_1_cells) H → va_D A (wl_Fl_spread a_0 a_0_walls a_0_waiting a_1 a_1_xs a_1_ys a_1_cells b_1_xs_places b_1_ys_places cI ov_0_waits f_0_walls of_0_waiting v_1_spaces v_1_xs_count v_1_ys_count of_1_cells) → va_S A s.heap H locs → W p l e rm_Fl_spread s m args below meth c H locs 0 0 Q (F0 m pc ls []))
    (hm : m_Fl_spread p2 p3 v_0_waits f_0_walls f_0_waiting v_1_xs_count v_1_ys_count f_1_cells = some (ov_0_waits, of_0_waiting, of_1_cells)) : ∀ (H : Heap) (locs : List Loc) (ls : Array Slot), va_P (dC, dI) vwCl (wl_Fl_spread a_0 a_0_walls a_0_waiting a_1 a_1_xs a_1_ys a_1_cells b_1_xs_places b_1_ys_places cI v_0_waits f_0_walls f_0_waiting v_1_spaces v_1_xs_count v_1_ys_count f_1_cells) H → va_D A (wl_Fl_spread a_0 a_0_walls a_0_waiting a_1 a_1_xs a_1_ys a_1_cells b_1_xs_places b_1_ys_places cI v_0_waits f_0_walls f_0_waiting v_1_spaces v_1_xs_count v_1_ys_count f_1_cells) → va_S A s.heap H locs → lv_has ls 8 [(0, .ref a_0), (1, .ref a_1), (2, .int p2), (3, .int p3)] → W p l e rm_Fl_spread s m args below meth c H locs 0 0 Q (F0 m 0 ls []) := by
  intro H locs ls hP hD hS hl
  unfold m_Fl_spread at hm
  refine lv_aload_n hx hb d_Fl_spread_0 rfl (lv_at hl 0 rfl) ?_
  refine lv_iconst (v := 0) hx hb d_Fl_spread_1 (by decide) ?_
  refine va_put (D := (dC, dI)) (ci := 2) (v := .int 0) (ty := .int) (C := "SpaceCycles$Flood") (T := F_Fl) (N := 3) hx hb hts (in_F i_Fl) t_Fl t_Fl_ok n_Fl hown hK hP hD hS 0 rfl rfl 2 (by decide) (hts _ (in_c k_86)) (fun _ h9 => h9) rfl (by decide +kernel) rfl rfl (Nat.le_of_ble_eq_true rfl) d_Fl_spread_2 (fun H locs hP hD hS => ?_)
  have hP : va_P (dC, dI) vwCl (wl_Fl_spread a_0 a_0_walls a_0_waiting a_1 a_1_xs a_1_ys a_1_cells b_1_xs_places b_1_ys_places cI 0 f_0_walls f_0_waiting v_1_spaces v_1_xs_count v_1_ys_count f_1_cells) H := hP
  have hD : va_D A (wl_Fl_spread a_0 a_0_walls a_0_waiting a_1 a_1_xs a_1_ys a_1_cells b_1_xs_places b_1_ys_places cI 0 f_0_walls f_0_waiting v_1_spaces v_1_xs_count v_1_ys_count f_1_cells) := hD
  refine lv_aload_n hx hb d_Fl_spread_5 rfl (lv_at hl 0 rfl) ?_
  refine lv_aload_n hx hb d_Fl_spread_6 rfl (lv_at hl 1 rfl) ?_
  refine lv_iload_n hx hb d_Fl_spread_7 rfl (lv_at hl 2 rfl) ?_
  refine lv_iload_n hx hb d_Fl_spread_8 rfl (lv_at hl 3 rfl) ?_
  obtain ⟨x1, f2, f3, hb4, hm⟩ := bd3_e hm
  have hPc := hP.sub (ws' := (wl_Fl_wet a_0 a_0_waiting a_1 a_1_cells a_0_walls a_1_xs a_1_ys cI 0 f_0_waiting v_1_spaces f_1_cells)) [0, 2, 3, 6] rfl
  have hDc := hD.sub (ws' := (wl_Fl_wet a_0 a_0_waiting a_1 a_1_cells a_0_walls a_1_xs a_1_ys cI 0 f_0_waiting v_1_spaces f_1_cells)) [0, 2, 3, 6] (by decide) rfl
  refine cl_v (wc' := (wl_Fl_wet a_0 a_0_waiting a_1 a_1_cells a_0_walls a_1_xs a_1_ys cI x1 f2 v_1_spaces f3)) (va_runV (As := [.ref a_1, .int p2, .int p3]) (rest := []) ⟨hx, hb, hml, hown, hts⟩ (c_Fl_wet l dC dI (cI := cI) (cZ := cZ) (cJ := cJ) a_0 a_0_waiting a_1 a_1_cells a_0_walls a_1_xs a_1_ys H.size 0 f_0_waiting v_1_spaces f_1_cells p2 p3 x1 f2 f3 hb4) (cwV 3 hts (gl_V k_92 k_90 k_89 k_91 k_88) rfl rfl rfl (by decide +kernel) ⟨Nat.le_of_ble_eq_true rfl, Nat.le_of_ble_eq_true rfl⟩) ⟨PP_blind, va_recv hK hPc (ci := 2) (q0 := 0) rfl rfl, fun U hU hW => PP_at hK hN hPc hDc hU hW⟩ rfl rfl hl.1 rfl (lv_room (Nat.le_of_ble_eq_true rfl)) d_Fl_spread_9 ⟨Nat.zero_le _, Nat.zero_le _⟩) hP hD hS hA [0, 2, 3, 6] [1, 4, 5] rfl rfl (by decide) (by decide) (fun H locs hP hD hS => ?_)
  have hP : va_P (dC, dI) vwCl (wl_Fl_spread a_0 a_0_walls a_0_waiting a_1 a_1_xs a_1_ys a_1_cells b_1_xs_places b_1_ys_places cI x1 f_0_walls f2 v_1_spaces v_1_xs_count v_1_ys_count f3) H := hP.sub [3, 0, 4, 5, 1, 2, 6] rfl
  have hD : va_D A (wl_Fl_spread a_0 a_0_walls a_0_waiting a_1 a_1_xs a_1_ys a_1_cells b_1_xs_places b_1_ys_places cI x1 f_0_walls f2 v_1_spaces v_1_xs_count v_1_ys_count f3) := hD.sub [3, 0, 4, 5, 1, 2, 6] (by decide) rfl
  refine lv_iconst (v := 0) hx hb d_Fl_spread_12 (by decide) ?_
  refine lv_istore (lv' := [(4, .int 0), (0, .ref a_0), (1, .ref a_1), (2, .int p2), (3, .int p3)]) hx hb d_Fl_spread_13 hl (by decide) rfl (fun ls hl => ?_)
  have L15_12 : ∀ (n : Nat) (x5 : Int32) (x6 : Int32) (f7 : Nat → Int32) (f8 : Nat → Int32) (x9 : Int32) (f10 : Nat → Int32) (f11 : Nat → Int32), m_Fl_spread_L15 p3 f_0_walls v_1_xs_count v_1_ys_count n x5 x6 f7 f8 = some (x9, f10, f11) → (∀ (H : Heap) (locs : List Loc) (ls : Array Slot), va_P (dC, dI) vwCl (wl_Fl_spread a_0 a_0_walls a_0_waiting a_1 a_1_xs a_1_ys a_1_cells b_1_xs_places b_1_ys_places cI x9 f_0_walls f10 v_1_spaces v_1_xs_count v_1_ys_count f11) H → va_D A (wl_Fl_spread a_0 a_0_walls a_0_waiting a_1 a_1_xs a_1_ys a_1_cells b_1_xs_places b_1_ys_places cI x9 f_0_walls f10 v_1_spaces v_1_xs_count v_1_ys_count f11) → va_S A s.heap H locs → lv_has ls 8 [] → W p l e rm_Fl_spread s m args below meth c H locs 0 0 Q (F0 m 200 ls [])) → ∀ (H : Heap) (locs : List Loc) (ls : Array Slot), va_P (dC, dI) vwCl (wl_Fl_spread a_0 a_0_walls a_0_waiting a_1 a_1_xs a_1_ys a_1_cells b_1_xs_places b_1_ys_places cI x6 f_0_walls f7 v_1_spaces v_1_xs_count v_1_ys_count f8) H → va_D A (wl_Fl_spread a_0 a_0_walls a_0_waiting a_1 a_1_xs a_1_ys a_1_cells b_1_xs_places b_1_ys_places cI x6 f_0_walls f7 v_1_spaces v_1_xs_count v_1_ys_count f8) → va_S A s.heap H locs → lv_has ls 8 [(0, .ref a_0), (1, .ref a_1), (3, .int p3), (4, .int x5)] → W p l e rm_Fl_spread s m args below meth c H locs 0 0 Q (F0 m 15 ls []) := by
    intro n
    induction n with
    | zero => intro x5 x6 f7 f8 x9 f10 f11 hm; simp [m_Fl_spread_L15] at hm
    | succ n ih =>
      intro x5 x6 f7 f8 x9 f10 f11 hm KE H locs ls hP hD hS hl
      rw [m_Fl_spread_L15] at hm
      refine lv_iload hx hb d_Fl_spread_15 (lv_at hl 3 rfl) ?_
      refine lv_sipush (v := 1681) hx hb d_Fl_spread_17 (by decide) ?_
      refine lv_icmp_ge (tgt := 200) hx hb d_Fl_spread_20 (by decide) (fun c13 => ?_) (fun c13 => ?_)
      · replace hm := if_t hm c13
        cases hm
        exact KE H locs ls hP hD hS (lv_sub hl [] rfl)
      · replace hm := if_f hm c13
        refine lv_aload_n hx hb d_Fl_spread_23 rfl (lv_at hl 0 rfl) ?_
        refine va_get (D := (dC, dI)) (ci := 2) (v := .int x6) (C := "SpaceCycles$Flood") (T := F_Fl) (N := 3) hx hb hts (in_F i_Fl) hown hK hP 0 rfl rfl 2 (by decide) (hts _ (in_c k_86)) (fun _ h9 => h9) rfl d_Fl_spread_24 ?_
        refine lv_if_le (tgt := 200) hx hb d_Fl_spread_27 (by decide) (fun c14 => ?_) (fun c14 => ?_)
        · replace hm := if_t hm c14
          cases hm
          exact KE H locs ls hP hD hS (lv_sub hl [] rfl)
        · replace hm := if_f hm c14
          refine lv_aload_n hx hb d_Fl_spread_30 rfl (lv_at hl 0 rfl) ?_
          refine lv_dup hx hb d_Fl_spread_31 rfl ?_
          refine va_get (D := (dC, dI)) (ci := 2) (v := .int x6) (C := "SpaceCycles$Flood") (T := F_Fl) (N := 3) hx hb hts (in_F i_Fl) hown hK hP 0 rfl rfl 2 (by decide) (hts _ (in_c k_86)) (fun _ h9 => h9) rfl d_Fl_spread_32 ?_
          refine lv_iconst (v := 1) hx hb d_Fl_spread_35 (by decide) ?_
          refine lv_isub hx hb d_Fl_spread_36 ?_
          refine lv_topi (fun x15 ex15 => ?_)
          replace hm := lt_el hm ex15
          refine va_put (D := (dC, dI)) (ci := 2) (v := .int x15) (ty := .int) (C := "SpaceCycles$Flood") (T := F_Fl) (N := 3) hx hb hts (in_F i_Fl) t_Fl t_Fl_ok n_Fl hown hK hP hD hS 0 rfl rfl 2 (by decide) (hts _ (in_c k_86)) (fun _ h9 => h9) rfl (by decide +kernel) rfl rfl (Nat.le_of_ble_eq_true rfl) d_Fl_spread_37 (fun H locs hP hD hS => ?_)
          have hP : va_P (dC, dI) vwCl (wl_Fl_spread a_0 a_0_walls a_0_waiting a_1 a_1_xs a_1_ys a_1_cells b_1_xs_places b_1_ys_places cI x15 f_0_walls f7 v_1_spaces v_1_xs_count v_1_ys_count f8) H := hP
          have hD : va_D A (wl_Fl_spread a_0 a_0_walls a_0_waiting a_1 a_1_xs a_1_ys a_1_cells b_1_xs_places b_1_ys_places cI x15 f_0_walls f7 v_1_spaces v_1_xs_count v_1_ys_count f8) := hD
          refine lv_aload_n hx hb d_Fl_spread_40 rfl (lv_at hl 0 rfl) ?_
          refine va_get (D := (dC, dI)) (ci := 2) (v := .ref a_0_waiting) (C := "SpaceCycles$Flood") (T := F_Fl) (N := 3) hx hb hts (in_F i_Fl) hown hK hP 0 rfl rfl 1 (by decide) (hts _ (in_c k_87)) (fun _ h9 => h9) rfl d_Fl_spread_41 ?_
          refine lv_aload_n hx hb d_Fl_spread_44 rfl (lv_at hl 0 rfl) ?_
          refine va_get (D := (dC, dI)) (ci := 2) (v := .int x15) (C := "SpaceCycles$Flood") (T := F_Fl) (N := 3) hx hb hts (in_F i_Fl) hown hK hP 0 rfl rfl 2 (by decide) (hts _ (in_c k_86)) (fun _ h9 => h9) rfl d_Fl_spread_45 ?_
          obtain ⟨hi16, hm⟩ := gI_e hm
          refine va_iald hx hb hK hP 2 0 rfl rfl hi16 d_Fl_spread_48 ?_
          refine lv_topi (fun x17 ex17 => ?_)
          replace hm := lt_el hm ex17
          refine lv_istore (lv' := [(5, .int x17), (0, .ref a_0), (1, .ref a_1), (3, .int p3), (4, .int x5)]) hx hb d_Fl_spread_49 hl (by decide) rfl (fun ls hl => ?_)
          refine lv_iload hx hb d_Fl_spread_51 (lv_at hl 0 rfl) ?_
          refine lv_bipush (v := 41) hx hb d_Fl_spread_53 (by decide) ?_
          refine lv_idiv hx hb d_Fl_spread_55 (by decide) ?_
          refine lv_topi (fun x18 ex18 => ?_)
          replace hm := lt_el hm ex18
          refine lv_istore (lv' := [(6, .int x18), (5, .int x17), (0, .ref a_0), (1, .ref a_1), (3, .int p3), (4, .int x5)]) hx hb d_Fl_spread_56 hl (by decide) rfl (fun ls hl => ?_)
          refine lv_iload hx hb d_Fl_spread_58 (lv_at hl 1 rfl) ?_
          refine lv_bipush (v := 41) hx hb d_Fl_spread_60 (by decide) ?_
          refine lv_irem hx hb d_Fl_spread_62 (by decide) ?_
          refine lv_topi (fun x19 ex19 => ?_)
          replace hm := lt_el hm ex19
          refine lv_istore (lv' := [(7, .int x19), (6, .int x18), (5, .int x17), (0, .ref a_0), (1, .ref a_1), (3, .int p3), (4, .int x5)]) hx hb d_Fl_spread_63 hl (by decide) rfl (fun ls hl => ?_)
          refine lv_iload hx hb d_Fl_spread_65 (lv_at hl 1 rfl) ?_
          refine lv_aload_n hx hb d_Fl_spread_67 rfl (lv_at hl 4 rfl) ?_
          refine va_get (D := (dC, dI)) (ci := 8) (v := .ref a_1_xs) (C := "SpaceCycles$Grid") (T := F_Gr) (N := 4) hx hb hts (in_F i_Gr) hown hK hP 3 rfl rfl 0 (by decide) (hts _ (in_c k_79)) (fun _ h9 => h9) rfl d_Fl_spread_68 ?_
          refine va_get (D := (dC, dI)) (ci := 9) (v := .int v_1_xs_count) (C := "SpaceCycles$Cuts") (T := F_Cu) (N := 2) hx hb hts (in_F i_Cu) hown hK hP 4 rfl rfl 1 (by decide) (hts _ (in_c k_80)) (fun _ h9 => h9) rfl d_Fl_spread_71 ?_
          obtain ⟨x23, f24, f25, hb21, hm⟩ := bd3_e hm
          have K20 : ∀ (H : Heap) (locs : List Loc) (ls : Array Slot), va_P (dC, dI) vwCl (wl_Fl_spread a_0 a_0_walls a_0_waiting a_1 a_1_xs a_1_ys a_1_cells b_1_xs_places b_1_ys_places cI x23 f_0_walls f24 v_1_spaces v_1_xs_count v_1_ys_count f25) H → va_D A (wl_Fl_spread a_0 a_0_walls a_0_waiting a_1 a_1_xs a_1_ys a_1_cells b_1_xs_places b_1_ys_places cI x23 f_0_walls f24 v_1_spaces v_1_xs_count v_1_ys_count f25) → va_S A s.heap H locs → lv_has ls 8 [(0, .ref a_0), (1, .ref a_1), (3, .int p3), (4, .int x5), (5, .int x17), (6, .int x18), (7, .int x19)] → W p l e rm_Fl_spread s m args below meth c H locs 0 0 Q (F0 m 100 ls []) := by
            intro H locs ls hP hD hS hl
            refine lv_iload hx hb d_Fl_spread_100 (lv_at hl 5 rfl) ?_
            obtain ⟨x36, f37, f38, hb34, hm⟩ := bd3_e hm
            have K33 : ∀ (H : Heap) (locs : List Loc) (ls : Array Slot), va_P (dC, dI) vwCl (wl_Fl_spread a_0 a_0_walls a_0_waiting a_1 a_1_xs a_1_ys a_1_cells b_1_xs_places b_1_ys_places cI x36 f_0_walls f37 v_1_spaces v_1_xs_count v_1_ys_count f38) H → va_D A (wl_Fl_spread a_0 a_0_walls a_0_waiting a_1 a_1_xs a_1_ys a_1_cells b_1_xs_places b_1_ys_places cI x36 f_0_walls f37 v_1_spaces v_1_xs_count v_1_ys_count f38) → va_S A s.heap H locs → lv_has ls 8 [(0, .ref a_0), (1, .ref a_1), (3, .int p3), (4, .int x5), (5, .int x17), (7, .int x19)] → W p l e rm_Fl_spread s m args below meth c H locs 0 0 Q (F0 m 131 ls []) := by
              intro H locs ls hP hD hS hl
              refine lv_iload hx hb d_Fl_spread_131 (lv_at hl 5 rfl) ?_
              refine lv_aload_n hx hb d_Fl_spread_133 rfl (lv_at hl 1 rfl) ?_
              refine va_get (D := (dC, dI)) (ci := 8) (v := .ref a_1_ys) (C := "SpaceCycles$Grid") (T := F_Gr) (N := 4) hx hb hts (in_F i_Gr) hown hK hP 3 rfl rfl 1 (by decide) (hts _ (in_c k_82)) (fun _ h9 => h9) rfl d_Fl_spread_134 ?_
              refine va_get (D := (dC, dI)) (ci := 9) (v := .int v_1_ys_count) (C := "SpaceCycles$Cuts") (T := F_Cu) (N := 2) hx hb hts (in_F i_Cu) hown hK hP 5 rfl rfl 1 (by decide) (hts _ (in_c k_80)) (fun _ h9 => h9) rfl d_Fl_spread_137 ?_
              obtain ⟨x49, f50, f51, hb47, hm⟩ := bd3_e hm
              have K46 : ∀ (H : Heap) (locs : List Loc) (ls : Array Slot), va_P (dC, dI) vwCl (wl_Fl_spread a_0 a_0_walls a_0_waiting a_1 a_1_xs a_1_ys a_1_cells b_1_xs_places b_1_ys_places cI x49 f_0_walls f50 v_1_spaces v_1_xs_count v_1_ys_count f51) H → va_D A (wl_Fl_spread a_0 a_0_walls a_0_waiting a_1 a_1_xs a_1_ys a_1_cells b_1_xs_places b_1_ys_places cI x49 f_0_walls f50 v_1_spaces v_1_xs_count v_1_ys_count f51) → va_S A s.heap H locs → lv_has ls 8 [(0, .ref a_0), (1, .ref a_1), (3, .int p3), (4, .int x5), (5, .int x17), (7, .int x19)] → W p l e rm_Fl_spread s m args below meth c H locs 0 0 Q (F0 m 165 ls []) := by
                intro H locs ls hP hD hS hl
                refine lv_iload hx hb d_Fl_spread_165 (lv_at hl 5 rfl) ?_
                obtain ⟨x62, f63, f64, hb60, hm⟩ := bd3_e hm
                have K59 : ∀ (H : Heap) (locs : List Loc) (ls : Array Slot), va_P (dC, dI) vwCl (wl_Fl_spread a_0 a_0_walls a_0_waiting a_1 a_1_xs a_1_ys a_1_cells b_1_xs_places b_1_ys_places cI x62 f_0_walls f63 v_1_spaces v_1_xs_count v_1_ys_count f64) H → va_D A (wl_Fl_spread a_0 a_0_walls a_0_waiting a_1 a_1_xs a_1_ys a_1_cells b_1_xs_places b_1_ys_places cI x62 f_0_walls f63 v_1_spaces v_1_xs_count v_1_ys_count f64) → va_S A s.heap H locs → lv_has ls 8 [(0, .ref a_0), (1, .ref a_1), (3, .int p3), (4, .int x5)] → W p l e rm_Fl_spread s m args below meth c H locs 0 0 Q (F0 m 194 ls []) := by
                  intro H locs ls hP hD hS hl
                  obtain ⟨x72, ex72⟩ : ∃ y : Int32, y = x5 + 1 := ⟨_, rfl⟩
                  replace hm := lt_el hm ex72
                  refine lv_iinc (v := x72) (lv' := [(4, .int x72), (0, .ref a_0), (1, .ref a_1), (3, .int p3)]) hx hb d_Fl_spread_194 hl (k := 3) rfl (by rw [ex72]; rfl) (by decide) rfl (fun ls hl => ?_)
                  refine lv_goto (tgt := 15) hx hb d_Fl_spread_197 (by decide) ?_
                  exact ih _ _ _ _ _ _ _ hm KE H locs ls hP hD hS (lv_sub hl [1, 2, 3, 0] rfl)
                replace hm := hb60
                refine lv_if_le (tgt := 194) hx hb d_Fl_spread_167 (by decide) (fun c65 => ?_) (fun c65 => ?_)
                · replace hm := if_t hm c65
                  cases hm
                  exact K59 H locs ls hP hD hS (lv_sub hl [0, 1, 2, 3] rfl)
                · replace hm := if_f hm c65
                  refine lv_aload_n hx hb d_Fl_spread_170 rfl (lv_at hl 0 rfl) ?_
                  refine va_get (D := (dC, dI)) (ci := 2) (v := .ref a_0_walls) (C := "SpaceCycles$Flood") (T := F_Fl) (N := 3) hx hb hts (in_F i_Fl) hown hK hP 0 rfl rfl 0 (by decide) (hts _ (in_c k_85)) (fun _ h9 => h9) rfl d_Fl_spread_171 ?_
                  refine lv_iload hx hb d_Fl_spread_174 (lv_at hl 4 rfl) ?_
                  refine lv_iconst (v := 1) hx hb d_Fl_spread_176 (by decide) ?_
                  refine lv_isub hx hb d_Fl_spread_177 ?_
                  obtain ⟨hi66, hm⟩ := gI_e hm
                  refine va_iald hx hb hK hP 1 0 rfl rfl hi66 d_Fl_spread_178 ?_
                  refine lv_iconst (v := 2) hx hb d_Fl_spread_179 (by decide) ?_
                  refine lv_iand hx hb d_Fl_spread_180 ?_
                  refine lv_if_ne (tgt := 194) hx hb d_Fl_spread_181 (by decide) (fun c67 => ?_) (fun c67 => ?_)
                  · replace hm := if_f hm c67
                    cases hm
                    exact K59 H locs ls hP hD hS (lv_sub hl [0, 1, 2, 3] rfl)
                  · replace hm := if_t hm c67
                    refine lv_aload_n hx hb d_Fl_spread_184 rfl (lv_at hl 0 rfl) ?_
                    refine lv_aload_n hx hb d_Fl_spread_185 rfl (lv_at hl 1 rfl) ?_
                    refine lv_iload hx hb d_Fl_spread_186 (lv_at hl 4 rfl) ?_
                    refine lv_iconst (v := 1) hx hb d_Fl_spread_188 (by decide) ?_
                    refine lv_isub hx hb d_Fl_spread_189 ?_
                    refine lv_iload_n hx hb d_Fl_spread_190 rfl (lv_at hl 2 rfl) ?_
                    obtain ⟨x68, f69, f70, hb71, hm⟩ := bd3_e hm
                    have hPc := hP.sub (ws' := (wl_Fl_wet a_0 a_0_waiting a_1 a_1_cells a_0_walls a_1_xs a_1_ys cI x49 f50 v_1_spaces f51)) [0, 2, 3, 6] rfl
                    have hDc := hD.sub (ws' := (wl_Fl_wet a_0 a_0_waiting a_1 a_1_cells a_0_walls a_1_xs a_1_ys cI x49 f50 v_1_spaces f51)) [0, 2, 3, 6] (by decide) rfl
                    refine cl_v (wc' := (wl_Fl_wet a_0 a_0_waiting a_1 a_1_cells a_0_walls a_1_xs a_1_ys cI x68 f69 v_1_spaces f70)) (va_runV (As := [.ref a_1, .int (x17 - 1), .int p3]) (rest := []) ⟨hx, hb, hml, hown, hts⟩ (c_Fl_wet l dC dI (cI := cI) (cZ := cZ) (cJ := cJ) a_0 a_0_waiting a_1 a_1_cells a_0_walls a_1_xs a_1_ys H.size x49 f50 v_1_spaces f51 (x17 - 1) p3 x68 f69 f70 hb71) (cwV 3 hts (gl_V k_92 k_90 k_89 k_91 k_88) rfl rfl rfl (by decide +kernel) ⟨Nat.le_of_ble_eq_true rfl, Nat.le_of_ble_eq_true rfl⟩) ⟨PP_blind, va_recv hK hPc (ci := 2) (q0 := 0) rfl rfl, fun U hU hW => PP_at hK hN hPc hDc hU hW⟩ rfl rfl hl.1 rfl (lv_room (Nat.le_of_ble_eq_true rfl)) d_Fl_spread_191 ⟨Nat.zero_le _, Nat.zero_le _⟩) hP hD hS hA [0, 2, 3, 6] [1, 4, 5] rfl rfl (by decide) (by decide) (fun H locs hP hD hS => ?_)
                    have hP : va_P (dC, dI) vwCl (wl_Fl_spread a_0 a_0_walls a_0_waiting a_1 a_1_xs a_1_ys a_1_cells b_1_xs_places b_1_ys_places cI x68 f_0_walls f69 v_1_spaces v_1_xs_count v_1_ys_count f70) H := hP.sub [3, 0, 4, 5, 1, 2, 6] rfl
                    have hD : va_D A (wl_Fl_spread a_0 a_0_walls a_0_waiting a_1 a_1_xs a_1_ys a_1_cells b_1_xs_places b_1_ys_places cI x68 f_0_walls f69 v_1_spaces v_1_xs_count v_1_ys_count f70) := hD.sub [3, 0, 4, 5, 1, 2, 6] (by decide) rfl
                    cases hm
                    exact K59 H locs ls hP hD hS (lv_sub hl [0, 1, 2, 3] rfl)
              replace hm := hb47
              refine lv_icmp_ge (tgt := 165) hx hb d_Fl_spread_140 (by decide) (fun c52 => ?_) (fun c52 => ?_)
              · replace hm := if_t hm c52
                cases hm
                exact K46 H locs ls hP hD hS (lv_sub hl [0, 1, 2, 3, 4, 5] rfl)
              · replace hm := if_f hm c52
                refine lv_aload_n hx hb d_Fl_spread_143 rfl (lv_at hl 0 rfl) ?_
                refine va_get (D := (dC, dI)) (ci := 2) (v := .ref a_0_walls) (C := "SpaceCycles$Flood") (T := F_Fl) (N := 3) hx hb hts (in_F i_Fl) hown hK hP 0 rfl rfl 0 (by decide) (hts _ (in_c k_85)) (fun _ h9 => h9) rfl d_Fl_spread_144 ?_
                refine lv_iload hx hb d_Fl_spread_147 (lv_at hl 4 rfl) ?_
                obtain ⟨hi53, hm⟩ := gI_e hm
                refine va_iald hx hb hK hP 1 0 rfl rfl hi53 d_Fl_spread_149 ?_
                refine lv_iconst (v := 2) hx hb d_Fl_spread_150 (by decide) ?_
                refine lv_iand hx hb d_Fl_spread_151 ?_
                refine lv_if_ne (tgt := 165) hx hb d_Fl_spread_152 (by decide) (fun c54 => ?_) (fun c54 => ?_)
                · replace hm := if_f hm c54
                  cases hm
                  exact K46 H locs ls hP hD hS (lv_sub hl [0, 1, 2, 3, 4, 5] rfl)
                · replace hm := if_t hm c54
                  refine lv_aload_n hx hb d_Fl_spread_155 rfl (lv_at hl 0 rfl) ?_
                  refine lv_aload_n hx hb d_Fl_spread_156 rfl (lv_at hl 1 rfl) ?_
                  refine lv_iload hx hb d_Fl_spread_157 (lv_at hl 4 rfl) ?_
                  refine lv_iconst (v := 1) hx hb d_Fl_spread_159 (by decide) ?_
                  refine lv_iadd hx hb d_Fl_spread_160 ?_
                  refine lv_iload_n hx hb d_Fl_spread_161 rfl (lv_at hl 2 rfl) ?_
                  obtain ⟨x55, f56, f57, hb58, hm⟩ := bd3_e hm
                  have hPc := hP.sub (ws' := (wl_Fl_wet a_0 a_0_waiting a_1 a_1_cells a_0_walls a_1_xs a_1_ys cI x36 f37 v_1_spaces f38)) [0, 2, 3, 6] rfl
                  have hDc := hD.sub (ws' := (wl_Fl_wet a_0 a_0_waiting a_1 a_1_cells a_0_walls a_1_xs a_1_ys cI x36 f37 v_1_spaces f38)) [0, 2, 3, 6] (by decide) rfl
                  refine cl_v (wc' := (wl_Fl_wet a_0 a_0_waiting a_1 a_1_cells a_0_walls a_1_xs a_1_ys cI x55 f56 v_1_spaces f57)) (va_runV (As := [.ref a_1, .int (x17 + 1), .int p3]) (rest := []) ⟨hx, hb, hml, hown, hts⟩ (c_Fl_wet l dC dI (cI := cI) (cZ := cZ) (cJ := cJ) a_0 a_0_waiting a_1 a_1_cells a_0_walls a_1_xs a_1_ys H.size x36 f37 v_1_spaces f38 (x17 + 1) p3 x55 f56 f57 hb58) (cwV 3 hts (gl_V k_92 k_90 k_89 k_91 k_88) rfl rfl rfl (by decide +kernel) ⟨Nat.le_of_ble_eq_true rfl, Nat.le_of_ble_eq_true rfl⟩) ⟨PP_blind, va_recv hK hPc (ci := 2) (q0 := 0) rfl rfl, fun U hU hW => PP_at hK hN hPc hDc hU hW⟩ rfl rfl hl.1 rfl (lv_room (Nat.le_of_ble_eq_true rfl)) d_Fl_spread_162 ⟨Nat.zero_le _, Nat.zero_le _⟩) hP hD hS hA [0, 2, 3, 6] [1, 4, 5] rfl rfl (by decide) (by decide) (fun H locs hP hD hS => ?_)
                  have hP : va_P (dC, dI) vwCl (wl_Fl_spread a_0 a_0_walls a_0_waiting a_1 a_1_xs a_1_ys a_1_cells b_1_xs_places b_1_ys_places cI x55 f_0_walls f56 v_1_spaces v_1_xs_count v_1_ys_count f57) H := hP.sub [3, 0, 4, 5, 1, 2, 6] rfl
                  have hD : va_D A (wl_Fl_spread a_0 a_0_walls a_0_waiting a_1 a_1_xs a_1_ys a_1_cells b_1_xs_places b_1_ys_places cI x55 f_0_walls f56 v_1_spaces v_1_xs_count v_1_ys_count f57) := hD.sub [3, 0, 4, 5, 1, 2, 6] (by decide) rfl
                  cases hm
                  exact K46 H locs ls hP hD hS (lv_sub hl [0, 1, 2, 3, 4, 5] rfl)
            replace hm := hb34
            refine lv_if_le (tgt := 131) hx hb d_Fl_spread_102 (by decide) (fun c39 => ?_) (fun c39 => ?_)
            · replace hm := if_t hm c39
              cases hm
              exact K33 H locs ls hP hD hS (lv_sub hl [0, 1, 2, 3, 4, 6] rfl)
            · replace hm := if_f hm c39
              refine lv_aload_n hx hb d_Fl_spread_105 rfl (lv_at hl 0 rfl) ?_
              refine va_get (D := (dC, dI)) (ci := 2) (v := .ref a_0_walls) (C := "SpaceCycles$Flood") (T := F_Fl) (N := 3) hx hb hts (in_F i_Fl) hown hK hP 0 rfl rfl 0 (by decide) (hts _ (in_c k_85)) (fun _ h9 => h9) rfl d_Fl_spread_106 ?_
              refine lv_iload hx hb d_Fl_spread_109 (lv_at hl 4 rfl) ?_
              refine lv_bipush (v := 41) hx hb d_Fl_spread_111 (by decide) ?_
              refine lv_isub hx hb d_Fl_spread_113 ?_
              obtain ⟨hi40, hm⟩ := gI_e hm
              refine va_iald hx hb hK hP 1 0 rfl rfl hi40 d_Fl_spread_114 ?_
              refine lv_iconst (v := 1) hx hb d_Fl_spread_115 (by decide) ?_
              refine lv_iand hx hb d_Fl_spread_116 ?_
              refine lv_if_ne (tgt := 131) hx hb d_Fl_spread_117 (by decide) (fun c41 => ?_) (fun c41 => ?_)
              · replace hm := if_f hm c41
                cases hm
                exact K33 H locs ls hP hD hS (lv_sub hl [0, 1, 2, 3, 4, 6] rfl)
              · replace hm := if_t hm c41
                refine lv_aload_n hx hb d_Fl_spread_120 rfl (lv_at hl 0 rfl) ?_
                refine lv_aload_n hx hb d_Fl_spread_121 rfl (lv_at hl 1 rfl) ?_
                refine lv_iload hx hb d_Fl_spread_122 (lv_at hl 4 rfl) ?_
                refine lv_bipush (v := 41) hx hb d_Fl_spread_124 (by decide) ?_
                refine lv_isub hx hb d_Fl_spread_126 ?_
                refine lv_iload_n hx hb d_Fl_spread_127 rfl (lv_at hl 2 rfl) ?_
                obtain ⟨x42, f43, f44, hb45, hm⟩ := bd3_e hm
                have hPc := hP.sub (ws' := (wl_Fl_wet a_0 a_0_waiting a_1 a_1_cells a_0_walls a_1_xs a_1_ys cI x23 f24 v_1_spaces f25)) [0, 2, 3, 6] rfl
                have hDc := hD.sub (ws' := (wl_Fl_wet a_0 a_0_waiting a_1 a_1_cells a_0_walls a_1_xs a_1_ys cI x23 f24 v_1_spaces f25)) [0, 2, 3, 6] (by decide) rfl
                refine cl_v (wc' := (wl_Fl_wet a_0 a_0_waiting a_1 a_1_cells a_0_walls a_1_xs a_1_ys cI x42 f43 v_1_spaces f44)) (va_runV (As := [.ref a_1, .int (x17 - 41), .int p3]) (rest := []) ⟨hx, hb, hml, hown, hts⟩ (c_Fl_wet l dC dI (cI := cI) (cZ := cZ) (cJ := cJ) a_0 a_0_waiting a_1 a_1_cells a_0_walls a_1_xs a_1_ys H.size x23 f24 v_1_spaces f25 (x17 - 41) p3 x42 f43 f44 hb45) (cwV 3 hts (gl_V k_92 k_90 k_89 k_91 k_88) rfl rfl rfl (by decide +kernel) ⟨Nat.le_of_ble_eq_true rfl, Nat.le_of_ble_eq_true rfl⟩) ⟨PP_blind, va_recv hK hPc (ci := 2) (q0 := 0) rfl rfl, fun U hU hW => PP_at hK hN hPc hDc hU hW⟩ rfl rfl hl.1 rfl (lv_room (Nat.le_of_ble_eq_true rfl)) d_Fl_spread_128 ⟨Nat.zero_le _, Nat.zero_le _⟩) hP hD hS hA [0, 2, 3, 6] [1, 4, 5] rfl rfl (by decide) (by decide) (fun H locs hP hD hS => ?_)
                have hP : va_P (dC, dI) vwCl (wl_Fl_spread a_0 a_0_walls a_0_waiting a_1 a_1_xs a_1_ys a_1_cells b_1_xs_places b_1_ys_places cI x42 f_0_walls f43 v_1_spaces v_1_xs_count v_1_ys_count f44) H := hP.sub [3, 0, 4, 5, 1, 2, 6] rfl
                have hD : va_D A (wl_Fl_spread a_0 a_0_walls a_0_waiting a_1 a_1_xs a_1_ys a_1_cells b_1_xs_places b_1_ys_places cI x42 f_0_walls f43 v_1_spaces v_1_xs_count v_1_ys_count f44) := hD.sub [3, 0, 4, 5, 1, 2, 6] (by decide) rfl
                cases hm
                exact K33 H locs ls hP hD hS (lv_sub hl [0, 1, 2, 3, 4, 6] rfl)
          replace hm := hb21
          refine lv_icmp_ge (tgt := 100) hx hb d_Fl_spread_74 (by decide) (fun c26 => ?_) (fun c26 => ?_)
          · replace hm := if_t hm c26
            cases hm
            exact K20 H locs ls hP hD hS (lv_sub hl [3, 4, 5, 6, 2, 1, 0] rfl)
          · replace hm := if_f hm c26
            refine lv_aload_n hx hb d_Fl_spread_77 rfl (lv_at hl 3 rfl) ?_
            refine va_get (D := (dC, dI)) (ci := 2) (v := .ref a_0_walls) (C := "SpaceCycles$Flood") (T := F_Fl) (N := 3) hx hb hts (in_F i_Fl) hown hK hP 0 rfl rfl 0 (by decide) (hts _ (in_c k_85)) (fun _ h9 => h9) rfl d_Fl_spread_78 ?_
            refine lv_iload hx hb d_Fl_spread_81 (lv_at hl 2 rfl) ?_
            obtain ⟨hi27, hm⟩ := gI_e hm
            refine va_iald hx hb hK hP 1 0 rfl rfl hi27 d_Fl_spread_83 ?_
            refine lv_iconst (v := 1) hx hb d_Fl_spread_84 (by decide) ?_
            refine lv_iand hx hb d_Fl_spread_85 ?_
            refine lv_if_ne (tgt := 100) hx hb d_Fl_spread_86 (by decide) (fun c28 => ?_) (fun c28 => ?_)
            · replace hm := if_f hm c28
              cases hm
              exact K20 H locs ls hP hD hS (lv_sub hl [3, 4, 5, 6, 2, 1, 0] rfl)
            · replace hm := if_t hm c28
              refine lv_aload_n hx hb d_Fl_spread_89 rfl (lv_at hl 3 rfl) ?_
              refine lv_aload_n hx hb d_Fl_spread_90 rfl (lv_at hl 4 rfl) ?_
              refine lv_iload hx hb d_Fl_spread_91 (lv_at hl 2 rfl) ?_
              refine lv_bipush (v := 41) hx hb d_Fl_spread_93 (by decide) ?_
              refine lv_iadd hx hb d_Fl_spread_95 ?_
              refine lv_iload_n hx hb d_Fl_spread_96 rfl (lv_at hl 5 rfl) ?_
              obtain ⟨x29, f30, f31, hb32, hm⟩ := bd3_e hm
              have hPc := hP.sub (ws' := (wl_Fl_wet a_0 a_0_waiting a_1 a_1_cells a_0_walls a_1_xs a_1_ys cI x15 f7 v_1_spaces f8)) [0, 2, 3, 6] rfl
              have hDc := hD.sub (ws' := (wl_Fl_wet a_0 a_0_waiting a_1 a_1_cells a_0_walls a_1_xs a_1_ys cI x15 f7 v_1_spaces f8)) [0, 2, 3, 6] (by decide) rfl
              refine cl_v (wc' := (wl_Fl_wet a_0 a_0_waiting a_1 a_1_cells a_0_walls a_1_xs a_1_ys cI x29 f30 v_1_spaces f31)) (va_runV (As := [.ref a_1, .int (x17 + 41), .int p3]) (rest := []) ⟨hx, hb, hml, hown, hts⟩ (c_Fl_wet l dC dI (cI := cI) (cZ := cZ) (cJ := cJ) a_0 a_0_waiting a_1 a_1_cells a_0_walls a_1_xs a_1_ys H.size x15 f7 v_1_spaces f8 (x17 + 41) p3 x29 f30 f31 hb32) (cwV 3 hts (gl_V k_92 k_90 k_89 k_91 k_88) rfl rfl rfl (by decide +kernel) ⟨Nat.le_of_ble_eq_true rfl, Nat.le_of_ble_eq_true rfl⟩) ⟨PP_blind, va_recv hK hPc (ci := 2) (q0 := 0) rfl rfl, fun U hU hW => PP_at hK hN hPc hDc hU hW⟩ rfl rfl hl.1 rfl (lv_room (Nat.le_of_ble_eq_true rfl)) d_Fl_spread_97 ⟨Nat.zero_le _, Nat.zero_le _⟩) hP hD hS hA [0, 2, 3, 6] [1, 4, 5] rfl rfl (by decide) (by decide) (fun H locs hP hD hS => ?_)
              have hP : va_P (dC, dI) vwCl (wl_Fl_spread a_0 a_0_walls a_0_waiting a_1 a_1_xs a_1_ys a_1_cells b_1_xs_places b_1_ys_places cI x29 f_0_walls f30 v_1_spaces v_1_xs_count v_1_ys_count f31) H := hP.sub [3, 0, 4, 5, 1, 2, 6] rfl
              have hD : va_D A (wl_Fl_spread a_0 a_0_walls a_0_waiting a_1 a_1_xs a_1_ys a_1_cells b_1_xs_places b_1_ys_places cI x29 f_0_walls f30 v_1_spaces v_1_xs_count v_1_ys_count f31) := hD.sub [3, 0, 4, 5, 1, 2, 6] (by decide) rfl
              cases hm
              exact K20 H locs ls hP hD hS (lv_sub hl [3, 4, 5, 6, 2, 1, 0] rfl)
  obtain ⟨x9, f10, f11, hb73, hm⟩ := bd3_e hm
  refine L15_12 fu _ _ _ _ _ _ _ hb73 (fun H locs ls hP hD hS hl => ?_) H locs ls hP hD hS (lv_sub hl [1, 2, 4, 0] rfl)
  cases hm
  exact hret _ H locs ls d_Fl_spread_200 hP hD hS
set_option maxHeartbeats 4000000 in
set_option maxRecDepth 100000 in
theorem c_Fl_spread (l : Launch) (dC : Nat → ClassId) (dI : Nat → Nat → Nat) {cI cZ cJ : ClassId} (a_0 a_0_walls a_0_waiting a_1 a_1_xs a_1_ys a_1_cells b_1_xs_places b_1_ys_places : Nat) (sz : Nat) (v_0_waits : Int32) (f_0_walls : Nat → Int32) (f_0_waiting : Nat → Int32) (v_1_spaces : Int32) (v_1_xs_count : Int32) (v_1_ys_count : Int32) (f_1_cells : Nat → Int32) (p2 : Int32) (p3 : Int32) (ov_0_waits : Int32) (of_0_waiting : Nat → Int32) (of_1_cells : Nat → Int32) (hm : m_Fl_spread p2 p3 v_0_waits f_0_walls f_0_waiting v_1_xs_count v_1_ys_count f_1_cells = some (ov_0_waits, of_0_waiting, of_1_cells)) : Met l y_Fl_spread w_Fl_spread rm_Fl_spread (PP dC dI [(cI, .int), (cZ, .boolean), (cJ, .long)] [.ref a_0, .ref a_1, .int p2, .int p3] sz (wl_Fl_spread a_0 a_0_walls a_0_waiting a_1 a_1_xs a_1_ys a_1_cells b_1_xs_places b_1_ys_places cI v_0_waits f_0_walls f_0_waiting v_1_spaces v_1_xs_count v_1_ys_count f_1_cells)) (QV dC dI [(cI, .int), (cZ, .boolean), (cJ, .long)] sz (wl_Fl_spread a_0 a_0_walls a_0_waiting a_1 a_1_xs a_1_ys a_1_cells b_1_xs_places b_1_ys_places cI v_0_waits f_0_walls f_0_waiting v_1_spaces v_1_xs_count v_1_ys_count f_1_cells) (wl_Fl_spread a_0 a_0_walls a_0_waiting a_1 a_1_xs a_1_ys a_1_cells b_1_xs_places b_1_ys_places cI ov_0_waits f_0_walls of_0_waiting v_1_spaces v_1_xs_count v_1_ys_count of_1_cells)) 0 0 (va_A (wl_Fl_spread a_0 a_0_walls a_0_waiting a_1 a_1_xs a_1_ys a_1_cells b_1_xs_places b_1_ys_places cI v_0_waits f_0_walls f_0_waiting v_1_spaces v_1_xs_count v_1_ys_count f_1_cells) sz) := by
  refine Met.ofW (cc := b_Fl_spread) (maxL := 8) (ret := none) (by decide) rfl ?_
  intro p e s m args below meth c s₁ B hml hv
  obtain ⟨rfl, hsz, hP, hK, hD0, hN⟩ := hv
  subst hsz
  have hl := lv_entry ([.ref a_0, .ref a_1, .int p2, .int p3]) (n := 8) (Nat.le_of_ble_eq_true rfl)
  rw [lg_entry_eq]
  generalize (lg_sl ([.ref a_0, .ref a_1, .int p2, .int p3]) ++ List.replicate (8 - (lg_sl ([.ref a_0, .ref a_1, .int p2, .int p3])).length) Slot.unset).toArray = ls at hl ⊢
  exact t_Fl_spread a_0 a_0_walls a_0_waiting a_1 a_1_xs a_1_ys a_1_cells b_1_xs_places b_1_ys_places v_0_waits f_0_walls f_0_waiting v_1_spaces v_1_xs_count v_1_ys_count f_1_cells p2 p3 ov_0_waits of_0_waiting of_1_cells B.exec B.bytes hml (findClass_of_methodNamed B.named) (atoms_spec (ws := w_Fl_spread) B.pre) hK hN (fun q h => Or.inr h) (fun pc H locs ls hd hP9 hD9 hS => W.vret B.exec B.bytes B.returns (fun t ht hW => ⟨⟨(), rfl, trivial, by rw [ht]; exact hP9, va_K.moved hW.alike hK, hD9⟩, hS.F ht⟩) hS.2.2 hd) hm s.heap [] ls hP hD0.self va_S.rf hl

theorem k_93 : ((.fieldLink "SpaceCycles$Flood" 67 "SpaceCycles$Lines" "lowX" "[I") : Cond) ∈ gl := gl_i 47 (by decide +kernel) (by decide +kernel)
theorem k_94 : ((.code ⟨"SpaceCycles$Cuts", "indexOf", "(I)I"⟩ prog_3_method_4_code 2 (some .int)) : Cond) ∈ gl := gl_i 788 (by decide +kernel) (by decide +kernel)
theorem k_95 : ((.selects "SpaceCycles$Cuts" ⟨"SpaceCycles$Cuts", "indexOf", "(I)I"⟩ ⟨"SpaceCycles$Cuts", "indexOf", "(I)I"⟩) : Cond) ∈ gl := gl_i 787 (by decide +kernel) (by decide +kernel)
theorem k_96 : ((.instanceMethod ⟨"SpaceCycles$Cuts", "indexOf", "(I)I"⟩) : Cond) ∈ gl := gl_i 786 (by decide +kernel) (by decide +kernel)
theorem k_97 : ((.methodLink "SpaceCycles$Flood" 70 ⟨"SpaceCycles$Cuts", "indexOf", "(I)I"⟩) : Cond) ∈ gl := gl_i 785 (by decide +kernel) (by decide +kernel)
theorem k_98 : ((.fieldLink "SpaceCycles$Flood" 74 "SpaceCycles$Lines" "lowY" "[I") : Cond) ∈ gl := gl_i 53 (by decide +kernel) (by decide +kernel)
theorem k_99 : ((.fieldLink "SpaceCycles$Flood" 77 "SpaceCycles$Lines" "highX" "[I") : Cond) ∈ gl := gl_i 58 (by decide +kernel) (by decide +kernel)
theorem k_100 : ((.fieldLink "SpaceCycles$Flood" 80 "SpaceCycles$Lines" "highY" "[I") : Cond) ∈ gl := gl_i 63 (by decide +kernel) (by decide +kernel)
-- SpaceCycles$Flood.raise(LSpaceCycles$Lines;ILSpaceCycles$Grid;)V
abbrev b_Fl_raise : ByteArray := prog_4_method_4_code
abbrev y_Fl_raise : MethodName := ⟨"SpaceCycles$Flood", "raise", "(LSpaceCycles$Lines;ILSpaceCycles$Grid;)V"⟩
abbrev w_Fl_raise : List Cond := Cond.code y_Fl_raise b_Fl_raise 9 none :: gl
abbrev rm_Fl_raise : Room := { frames := 2, cells := 0, slots := 0, locals := 85 }
theorem d_Fl_raise_0 : decode b_Fl_raise 0 = .ok (.aload_n 3, 1) := by decide +kernel
theorem d_Fl_raise_1 : decode b_Fl_raise 1 = .ok (.getfield 44, 3) := by decide +kernel
theorem d_Fl_raise_4 : decode b_Fl_raise 4 = .ok (.aload_n 1, 1) := by decide +kernel
theorem d_Fl_raise_5 : decode b_Fl_raise 5 = .ok (.getfield 67, 3) := by decide +kernel
theorem d_Fl_raise_8 : decode b_Fl_raise 8 = .ok (.iload_n 2, 1) := by decide +kernel
theorem d_Fl_raise_9 : decode b_Fl_raise 9 = .ok (.iaload, 1) := by decide +kernel
theorem d_Fl_raise_10 : decode b_Fl_raise 10 = .ok (.invokevirtual 70, 3) := by decide +kernel
theorem d_Fl_raise_13 : decode b_Fl_raise 13 = .ok (.istore 4, 2) := by decide +kernel
theorem d_Fl_raise_15 : decode b_Fl_raise 15 = .ok (.aload_n 3, 1) := by decide +kernel
theorem d_Fl_raise_16 : decode b_Fl_raise 16 = .ok (.getfield 51, 3) := by decide +kernel
theorem d_Fl_raise_19 : decode b_Fl_raise 19 = .ok (.aload_n 1, 1) := by decide +kernel
theorem d_Fl_raise_20 : decode b_Fl_raise 20 = .ok (.getfield 74, 3) := by decide +kernel
theorem d_Fl_raise_23 : decode b_Fl_raise 23 = .ok (.iload_n 2, 1) := by decide +kernel
theorem d_Fl_raise_24 : decode b_Fl_raise 24 = .ok (.iaload, 1) := by decide +kernel
theorem d_Fl_raise_25 : decode b_Fl_raise 25 = .ok (.invokevirtual 70, 3) := by decide +kernel
theorem d_Fl_raise_28 : decode b_Fl_raise 28 = .ok (.istore 5, 2) := by decide +kernel
theorem d_Fl_raise_30 : decode b_Fl_raise 30 = .ok (.aload_n 3, 1) := by decide +kernel
theorem d_Fl_raise_31 : decode b_Fl_raise 31 = .ok (.getfield 44, 3) := by decide +kernel
theorem d_Fl_raise_34 : decode b_Fl_raise 34 = .ok (.aload_n 1, 1) := by decide +kernel
theorem d_Fl_raise_35 : decode b_Fl_raise 35 = .ok (.getfield 77, 3) := by decide +kernel
theorem d_Fl_raise_38 : decode b_Fl_raise 38 = .ok (.iload_n 2, 1) := by decide +kernel
theorem d_Fl_raise_39 : decode b_Fl_raise 39 = .ok (.iaload, 1) := by decide +kernel
theorem d_Fl_raise_40 : decode b_Fl_raise 40 = .ok (.invokevirtual 70, 3) := by decide +kernel
theorem d_Fl_raise_43 : decode b_Fl_raise 43 = .ok (.istore 6, 2) := by decide +kernel
theorem d_Fl_raise_45 : decode b_Fl_raise 45 = .ok (.aload_n 3, 1) := by decide +kernel
theorem d_Fl_raise_46 : decode b_Fl_raise 46 = .ok (.getfield 51, 3) := by decide +kernel
theorem d_Fl_raise_49 : decode b_Fl_raise 49 = .ok (.aload_n 1, 1) := by decide +kernel
theorem d_Fl_raise_50 : decode b_Fl_raise 50 = .ok (.getfield 80, 3) := by decide +kernel
theorem d_Fl_raise_53 : decode b_Fl_raise 53 = .ok (.iload_n 2, 1) := by decide +kernel
theorem d_Fl_raise_54 : decode b_Fl_raise 54 = .ok (.iaload, 1) := by decide +kernel
theorem d_Fl_raise_55 : decode b_Fl_raise 55 = .ok (.invokevirtual 70, 3) := by decide +kernel
theorem d_Fl_raise_58 : decode b_Fl_raise 58 = .ok (.istore 7, 2) := by decide +kernel
theorem d_Fl_raise_60 : decode b_Fl_raise 60 = .ok (.iload 4, 2) := by decide +kernel
theorem d_Fl_raise_62 : decode b_Fl_raise 62 = .ok (.iconst 1, 1) := by decide +kernel
theorem d_Fl_raise_63 : decode b_Fl_raise 63 = .ok (.iadd, 1) := by decide +kernel
theorem d_Fl_raise_64 : decode b_Fl_raise 64 = .ok (.istore 8, 2) := by decide +kernel
theorem d_Fl_raise_66 : decode b_Fl_raise 66 = .ok (.iload 8, 2) := by decide +kernel
theorem d_Fl_raise_68 : decode b_Fl_raise 68 = .ok (.iload 6, 2) := by decide +kernel
theorem d_Fl_raise_70 : decode b_Fl_raise 70 = .ok (.if_icmp .gt 25, 3) := by decide +kernel
theorem d_Fl_raise_73 : decode b_Fl_raise 73 = .ok (.aload_n 0, 1) := by decide +kernel
theorem d_Fl_raise_74 : decode b_Fl_raise 74 = .ok (.getfield 11, 3) := by decide +kernel
theorem d_Fl_raise_77 : decode b_Fl_raise 77 = .ok (.iload 8, 2) := by decide +kernel
theorem d_Fl_raise_79 : decode b_Fl_raise 79 = .ok (.iload 5, 2) := by decide +kernel
theorem d_Fl_raise_81 : decode b_Fl_raise 81 = .ok (.invokestatic 54, 3) := by decide +kernel
theorem d_Fl_raise_84 : decode b_Fl_raise 84 = .ok (.dup2, 1) := by decide +kernel
theorem d_Fl_raise_85 : decode b_Fl_raise 85 = .ok (.iaload, 1) := by decide +kernel
theorem d_Fl_raise_86 : decode b_Fl_raise 86 = .ok (.iconst 2, 1) := by decide +kernel
theorem d_Fl_raise_87 : decode b_Fl_raise 87 = .ok (.ior, 1) := by decide +kernel
theorem d_Fl_raise_88 : decode b_Fl_raise 88 = .ok (.iastore, 1) := by decide +kernel
theorem d_Fl_raise_89 : decode b_Fl_raise 89 = .ok (.iinc 8 1, 3) := by decide +kernel
theorem d_Fl_raise_92 : decode b_Fl_raise 92 = .ok (.goto (-26), 3) := by decide +kernel
theorem d_Fl_raise_95 : decode b_Fl_raise 95 = .ok (.iload 5, 2) := by decide +kernel
theorem d_Fl_raise_97 : decode b_Fl_raise 97 = .ok (.iconst 1, 1) := by decide +kernel
theorem d_Fl_raise_98 : decode b_Fl_raise 98 = .ok (.iadd, 1) := by decide +kernel
theorem d_Fl_raise_99 : decode b_Fl_raise 99 = .ok (.istore 8, 2) := by decide +kernel
theorem d_Fl_raise_101 : decode b_Fl_raise 101 = .ok (.iload 8, 2) := by decide +kernel
theorem d_Fl_raise_103 : decode b_Fl_raise 103 = .ok (.iload 7, 2) := by decide +kernel
theorem d_Fl_raise_105 : decode b_Fl_raise 105 = .ok (.if_icmp .gt 25, 3) := by decide +kernel
theorem d_Fl_raise_108 : decode b_Fl_raise 108 = .ok (.aload_n 0, 1) := by decide +kernel
theorem d_Fl_raise_109 : decode b_Fl_raise 109 = .ok (.getfield 11, 3) := by decide +kernel
theorem d_Fl_raise_112 : decode b_Fl_raise 112 = .ok (.iload 4, 2) := by decide +kernel
theorem d_Fl_raise_114 : decode b_Fl_raise 114 = .ok (.iload 8, 2) := by decide +kernel
theorem d_Fl_raise_116 : decode b_Fl_raise 116 = .ok (.invokestatic 54, 3) := by decide +kernel
theorem d_Fl_raise_119 : decode b_Fl_raise 119 = .ok (.dup2, 1) := by decide +kernel
theorem d_Fl_raise_120 : decode b_Fl_raise 120 = .ok (.iaload, 1) := by decide +kernel
theorem d_Fl_raise_121 : decode b_Fl_raise 121 = .ok (.iconst 1, 1) := by decide +kernel
theorem d_Fl_raise_122 : decode b_Fl_raise 122 = .ok (.ior, 1) := by decide +kernel
theorem d_Fl_raise_123 : decode b_Fl_raise 123 = .ok (.iastore, 1) := by decide +kernel
theorem d_Fl_raise_124 : decode b_Fl_raise 124 = .ok (.iinc 8 1, 3) := by decide +kernel
theorem d_Fl_raise_127 : decode b_Fl_raise 127 = .ok (.goto (-26), 3) := by decide +kernel
theorem d_Fl_raise_130 : decode b_Fl_raise 130 = .ok (.return_, 1) := by decide +kernel
abbrev wl_Fl_raise (a_0 : Nat) (a_0_walls : Nat) (a_1 : Nat) (a_1_lowX : Nat) (a_1_lowY : Nat) (a_1_highX : Nat) (a_1_highY : Nat) (a_3 : Nat) (a_3_xs : Nat) (a_3_xs_places : Nat) (a_3_ys : Nat) (a_3_ys_places : Nat) (b_0_waiting : Nat) (b_1_thickness : Nat) (b_1_doors : Nat) (b_1_doorFrom : Nat) (b_1_doorTo : Nat) (b_3_cells : Nat) (cI : ClassId) (v_0_waits : Int32) (f_0_walls : Nat → Int32) (v_1_count : Int32) (f_1_lowX : Nat → Int32) (f_1_lowY : Nat → Int32) (f_1_highX : Nat → Int32) (f_1_highY : Nat → Int32) (v_3_spaces : Int32) (v_3_xs_count : Int32) (f_3_xs_places : Nat → Int32) (v_3_ys_count : Int32) (f_3_ys_places : Nat → Int32) : va_W := [(a_0, .inr (2, [.ref a_0_walls, .ref b_0_waiting, .int v_0_waits])), (a_0_walls, .inl (cI, 1681, .inl f_0_walls)), (a_1, .inr (1, [.ref a_1_lowX, .ref a_1_lowY, .ref a_1_highX, .ref a_1_highY, .ref b_1_thickness, .ref b_1_doors, .ref b_1_doorFrom, .ref b_1_doorTo, .int v_1_count])), (a_1_lowX, .inl (cI, 20, .inl f_1_lowX)), (a_1_lowY, .inl (cI, 20, .inl f_1_lowY)), (a_1_highX, .inl (cI, 20, .inl f_1_highX)), (a_1_highY, .inl (cI, 20, .inl f_1_highY)), (a_3, .inr (8, [.ref a_3_xs, .ref a_3_ys, .ref b_3_cells, .int v_3_spaces])), (a_3_xs, .inr (9, [.ref a_3_xs_places, .int v_3_xs_count])), (a_3_xs_places, .inl (cI, 40, .inl f_3_xs_places)), (a_3_ys, .inr (9, [.ref a_3_ys_places, .int v_3_ys_count])), (a_3_ys_places, .inl (cI, 40, .inl f_3_ys_places))]
def m_Fl_raise_L66 (l5 : Int32) (l6 : Int32) : Nat → Int32 → (Nat → Int32) → Option ((Nat → Int32))
  | 0, _, _ => none
  | n + 1, l8, f_0_walls =>
    if l6 < l8 then (
      some f_0_walls)
    else (
      bd1 (m_Gr_cell l8 l5) fun r15 =>
      gI r15 1681 <|
      gI r15 1681 <|
      lt_ (upd f_0_walls r15.toNatClampNeg ((f_0_walls r15.toNatClampNeg) ||| 2)) fun f19 =>
      lt_ (l8 + 1) fun x20 =>
      m_Fl_raise_L66 l5 l6 n x20 f19)

def m_Fl_raise_L101 (l7 : Int32) (l4 : Int32) : Nat → Int32 → (Nat → Int32) → Option ((Nat → Int32))
  | 0, _, _ => none
  | n + 1, l8, f_0_walls =>
    if l7 < l8 then (
      some f_0_walls)
    else (
      bd1 (m_Gr_cell l4 l8) fun r28 =>
      gI r28 1681 <|
      gI r28 1681 <|
      lt_ (upd f_0_walls r28.toNatClampNeg ((f_0_walls r28.toNatClampNeg) ||| 1)) fun f32 =>
      lt_ (l8 + 1) fun x33 =>
      m_Fl_raise_L101 l7 l4 n x33 f32)
def m_Fl_raise (p2 : Int32) (f_0_walls : Nat → Int32) (f_1_lowX : Nat → Int32) (f_1_lowY : Nat → Int32) (f_1_highX : Nat → Int32) (f_1_highY : Nat → Int32) (v_3_xs_count : Int32) (f_3_xs_places : Nat → Int32) (v_3_ys_count : Int32) (f_3_ys_places : Nat → Int32) : Option ((Nat → Int32)) :=
  gI p2 20 <|
  bd1 (m_Cu_indexOf (f_1_lowX p2.toNatClampNeg) v_3_xs_count f_3_xs_places) fun r2 =>
  gI p2 20 <|
  bd1 (m_Cu_indexOf (f_1_lowY p2.toNatClampNeg) v_3_ys_count f_3_ys_places) fun r5 =>
  gI p2 20 <|
  bd1 (m_Cu_indexOf (f_1_highX p2.toNatClampNeg) v_3_xs_count f_3_xs_places) fun r8 =>
  gI p2 20 <|
  bd1 (m_Cu_indexOf (f_1_highY p2.toNatClampNeg) v_3_ys_count f_3_ys_places) fun r11 =>
  lt_ (r2 + 1) fun x13 =>
  bd1 (m_Fl_raise_L66 r5 r8 fu x13 f_0_walls) fun f16 =>
  lt_ (r5 + 1) fun x26 =>
  bd1 (m_Fl_raise_L101 r11 r2 fu x26 f16) fun f29 =>
  some f29

set_option maxHeartbeats 4000000 in
set_option maxRecDepth 100000 in
theorem t_Fl_raise {p : Program} {l : Launch} {e : Env} {s : State} {m : MethodId} {args : Array Value} {below : List Frame} {meth : Method} {c : Code} {A : Nat → Prop} {Q : State → Prop} {dC : Nat → ClassId} {dI : Nat → Nat → Nat} {cI cZ cJ : ClassId} (a_0 a_0_walls a_1 a_1_lowX a_1_lowY a_1_highX a_1_highY a_3 a_3_xs a_3_xs_places a_3_ys a_3_ys_places b_0_waiting b_1_thickness b_1_doors b_1_doorFrom b_1_doorTo b_3_cells : Nat) (v_0_waits : Int32) (f_0_walls : Nat → Int32) (v_1_count : Int32) (f_1_lowX : Nat → Int32) (f_1_lowY : Nat → Int32) (f_1_highX : Nat → Int32) (f_1_highY : Nat → Int32) (v_3_spaces : Int32) (v_3_xs_count : Int32) (f_3_xs_places : Nat → Int32) (v_3_ys_count : Int32) (f_3_ys_places : Nat → Int32) (p2 : Int32) (of_0_walls : Nat → Int32) (hx : p.tables.exec = Jvm.exec) (hb : c.code = b_Fl_raise) (hml : c.maxLocals = 9) (hown : s.vm.findClass "SpaceCycles$Flood" = some m.cls) (hts : ∀ w ∈ w_Fl_raise, w.before args s = true) (hK : va_K (dC, dI) vwCl [(cI, .int), (cZ, .boolean), (cJ, .long)] s) (hN : NX s) (hA : ∀ q : Nat, s.heap.size ≤ q → A q)
    (hret : ∀ (pc : Nat) (H : Heap) (locs : List Loc) (ls : Array Slot), decode b_Fl_raise pc = .ok (.return_, 1) → va_P (dC, dI) vwCl (wl_Fl_raise a_0 a_0_walls a_1 a_1_lowX a_1_lowY a_1_highX a_1_highY a_3 a_3_xs a_3_xs_places a_3_ys a_3_ys_places b_0_waiting b_1_thickness b_1_doors b_1_doorFrom b_1_doorTo b_3_cells cI v_0_waits of_0_walls v_1_count f_1_lowX f_1_lowY f_1_highX f_1_highY v_3_spaces v_3_xs_count f_3_xs_places v_3_ys_count f_3_ys_places) H → va_D A (wl_Fl_raise a_0 a_0_walls a_1 a_1_lowX a_1_lowY a_1_highX a_1_highY a_3 a_3_xs a_3_xs_places a_3_ys a_3_ys_places b_0_waiting b_1_thickness b_1_doors b_1_doorFrom b_1_doorTo b_3_cells cI v_0_waits of_0_walls v_1_count f_1_lowX f_1_lowY f_1_highX f_1_highY v_3_spaces v_3_xs_count f_3_xs_places v_3_ys_count f_3_ys_places) → va_S A s.heap H locs → W p l e rm_Fl_raise s m args below meth c H locs 0 0 Q (F0 m pc ls []))
    (hm : m_Fl_raise p2 f_0_walls f_1_lowX f_1_lowY f_1_highX f_1_highY v_3_xs_count f_3_xs_places v_3_ys_count f_3_ys_places = some of_0_walls) : ∀ (H : Heap) (locs : List Loc) (ls : Array Slot), va_P (dC, dI) vwCl (wl_Fl_raise a_0 a_0_walls a_1 a_1_lowX a_1_lowY a_1_highX a_1_highY a_3 a_3_xs a_3_xs_places a_3_ys a_3_ys_places b_0_waiting b_1_thickness b_1_doors b_1_doorFrom b_1_doorTo b_3_cells cI v_0_waits f_0_walls v_1_count f_1_lowX f_1_lowY f_1_highX f_1_highY v_3_spaces v_3_xs_count f_3_xs_places v_3_ys_count f_3_ys_places) H → va_D A (wl_Fl_raise a_0 a_0_walls a_1 a_1_lowX a_1_lowY a_1_highX a_1_highY a_3 a_3_xs a_3_xs_places a_3_ys a_3_ys_places b_0_waiting b_1_thickness b_1_doors b_1_doorFrom b_1_doorTo b_3_cells cI v_0_waits f_0_walls v_1_count f_1_lowX f_1_lowY f_1_highX f_1_highY v_3_spaces v_3_xs_count f_3_xs_places v_3_ys_count f_3_ys_places) → va_S A s.heap H locs → lv_has ls 9 [(0, .ref a_0), (1, .ref a_1), (2, .int p2), (3, .ref a_3)] → W p l e rm_Fl_raise s m args below meth c H locs 0 0 Q (F0 m 0 ls []) := by
  intro H locs ls hP hD hS hl
  unfold m_Fl_raise at hm
  refine lv_aload_n hx hb d_Fl_raise_0 rfl (lv_at hl 3 rfl) ?_
  refine va_get (D := (dC, dI)) (ci := 8) (v := .ref a_3_xs) (C := "SpaceCycles$Grid") (T := F_Gr) (N := 4) hx hb hts (in_F i_Gr) hown hK hP 7 rfl rfl 0 (by decide) (hts _ (in_c k_79)) (fun _ h9 => h9) rfl d_Fl_raise_1 ?_
  refine lv_aload_n hx hb d_Fl_raise_4 rfl (lv_at hl 1 rfl) ?_
  refine va_get (D := (dC, dI)) (ci := 1) (v := .ref a_1_lowX) (C := "SpaceCycles$Lines") (T := F_Li) (N := 9) hx hb hts (in_F i_Li) hown hK hP 2 rfl rfl 0 (by decide) (hts _ (in_c k_93)) (fun _ h9 => h9) rfl d_Fl_raise_5 ?_
  refine lv_iload_n hx hb d_Fl_raise_8 rfl (lv_at hl 2 rfl) ?_
  obtain ⟨hi1, hm⟩ := gI_e hm
  refine va_iald hx hb hK hP 3 0 rfl rfl hi1 d_Fl_raise_9 ?_
  obtain ⟨r2, hb3, hm⟩ := bd1_e hm
  have hPc := hP.sub (ws' := (wl_Cu_indexOf a_3_xs a_3_xs_places cI v_3_xs_count f_3_xs_places)) [8, 9] rfl
  have hDc := hD.sub (ws' := (wl_Cu_indexOf a_3_xs a_3_xs_places cI v_3_xs_count f_3_xs_places)) [8, 9] (by decide) rfl
  refine cl_i (wc' := (wl_Cu_indexOf a_3_xs a_3_xs_places cI v_3_xs_count f_3_xs_places)) (va_runV (As := [.int (f_1_lowX p2.toNatClampNeg)]) (rest := []) ⟨hx, hb, hml, hown, hts⟩ (c_Cu_indexOf l dC dI (cI := cI) (cZ := cZ) (cJ := cJ) a_3_xs a_3_xs_places H.size v_3_xs_count f_3_xs_places (f_1_lowX p2.toNatClampNeg) r2 hb3) (cwV 1 hts (gl_V k_97 k_96 k_95 k_9 k_94) rfl rfl rfl (by decide +kernel) ⟨Nat.le_of_ble_eq_true rfl, Nat.le_of_ble_eq_true rfl⟩) ⟨PP_blind, va_recv hK hPc (ci := 9) (q0 := 0) rfl rfl, fun U hU hW => PP_at hK hN hPc hDc hU hW⟩ rfl rfl hl.1 rfl (lv_room (Nat.le_of_ble_eq_true rfl)) d_Fl_raise_10 ⟨Nat.zero_le _, Nat.zero_le _⟩) hP hD hS hA [8, 9] [0, 1, 2, 3, 4, 5, 6, 7, 10, 11] rfl rfl (by decide) (by decide) (fun H locs hP hD hS => ?_)
  have hP : va_P (dC, dI) vwCl (wl_Fl_raise a_0 a_0_walls a_1 a_1_lowX a_1_lowY a_1_highX a_1_highY a_3 a_3_xs a_3_xs_places a_3_ys a_3_ys_places b_0_waiting b_1_thickness b_1_doors b_1_doorFrom b_1_doorTo b_3_cells cI v_0_waits f_0_walls v_1_count f_1_lowX f_1_lowY f_1_highX f_1_highY v_3_spaces v_3_xs_count f_3_xs_places v_3_ys_count f_3_ys_places) H := hP.sub [0, 1, 2, 3, 4, 5, 6, 7, 10, 11, 8, 9] rfl
  have hD : va_D A (wl_Fl_raise a_0 a_0_walls a_1 a_1_lowX a_1_lowY a_1_highX a_1_highY a_3 a_3_xs a_3_xs_places a_3_ys a_3_ys_places b_0_waiting b_1_thickness b_1_doors b_1_doorFrom b_1_doorTo b_3_cells cI v_0_waits f_0_walls v_1_count f_1_lowX f_1_lowY f_1_highX f_1_highY v_3_spaces v_3_xs_count f_3_xs_places v_3_ys_count f_3_ys_places) := hD.sub [0, 1, 2, 3, 4, 5, 6, 7, 10, 11, 8, 9] (by decide) rfl
  refine lv_istore (lv' := [(4, .int r2), (0, .ref a_0), (1, .ref a_1), (2, .int p2), (3, .ref a_3)]) hx hb d_Fl_raise_13 hl (by decide) rfl (fun ls hl => ?_)
  refine lv_aload_n hx hb d_Fl_raise_15 rfl (lv_at hl 4 rfl) ?_
  refine va_get (D := (dC, dI)) (ci := 8) (v := .ref a_3_ys) (C := "SpaceCycles$Grid") (T := F_Gr) (N := 4) hx hb hts (in_F i_Gr) hown hK hP 7 rfl rfl 1 (by decide) (hts _ (in_c k_82)) (fun _ h9 => h9) rfl d_Fl_raise_16 ?_
  refine lv_aload_n hx hb d_Fl_raise_19 rfl (lv_at hl 2 rfl) ?_
  refine va_get (D := (dC, dI)) (ci := 1) (v := .ref a_1_lowY) (C := "SpaceCycles$Lines") (T := F_Li) (N := 9) hx hb hts (in_F i_Li) hown hK hP 2 rfl rfl 1 (by decide) (hts _ (in_c k_98)) (fun _ h9 => h9) rfl d_Fl_raise_20 ?_
  refine lv_iload_n hx hb d_Fl_raise_23 rfl (lv_at hl 3 rfl) ?_
  obtain ⟨hi4, hm⟩ := gI_e hm
  refine va_iald hx hb hK hP 4 0 rfl rfl hi4 d_Fl_raise_24 ?_
  obtain ⟨r5, hb6, hm⟩ := bd1_e hm
  have hPc := hP.sub (ws' := (wl_Cu_indexOf a_3_ys a_3_ys_places cI v_3_ys_count f_3_ys_places)) [10, 11] rfl
  have hDc := hD.sub (ws' := (wl_Cu_indexOf a_3_ys a_3_ys_places cI v_3_ys_count f_3_ys_places)) [10, 11] (by decide) rfl
  refine cl_i (wc' := (wl_Cu_indexOf a_3_ys a_3_ys_places cI v_3_ys_count f_3_ys_places)) (va_runV (As := [.int (f_1_lowY p2.toNatClampNeg)]) (rest := []) ⟨hx, hb, hml, hown, hts⟩ (c_Cu_indexOf l dC dI (cI := cI) (cZ := cZ) (cJ := cJ) a_3_ys a_3_ys_places H.size v_3_ys_count f_3_ys_places (f_1_lowY p2.toNatClampNeg) r5 hb6) (cwV 1 hts (gl_V k_97 k_96 k_95 k_9 k_94) rfl rfl rfl (by decide +kernel) ⟨Nat.le_of_ble_eq_true rfl, Nat.le_of_ble_eq_true rfl⟩) ⟨PP_blind, va_recv hK hPc (ci := 9) (q0 := 0) rfl rfl, fun U hU hW => PP_at hK hN hPc hDc hU hW⟩ rfl rfl hl.1 rfl (lv_room (Nat.le_of_ble_eq_true rfl)) d_Fl_raise_25 ⟨Nat.zero_le _, Nat.zero_le _⟩) hP hD hS hA [10, 11] [0, 1, 2, 3, 4, 5, 6, 7, 8, 9] rfl rfl (by decide) (by decide) (fun H locs hP hD hS => ?_)
  have hP : va_P (dC, dI) vwCl (wl_Fl_raise a_0 a_0_walls a_1 a_1_lowX a_1_lowY a_1_highX a_1_highY a_3 a_3_xs a_3_xs_places a_3_ys a_3_ys_places b_0_waiting b_1_thickness b_1_doors b_1_doorFrom b_1_doorTo b_3_cells cI v_0_waits f_0_walls v_1_count f_1_lowX f_1_lowY f_1_highX f_1_highY v_3_spaces v_3_xs_count f_3_xs_places v_3_ys_count f_3_ys_places) H := hP.sub [0, 1, 2, 3, 4, 5, 6, 7, 8, 9, 10, 11] rfl
  have hD : va_D A (wl_Fl_raise a_0 a_0_walls a_1 a_1_lowX a_1_lowY a_1_highX a_1_highY a_3 a_3_xs a_3_xs_places a_3_ys a_3_ys_places b_0_waiting b_1_thickness b_1_doors b_1_doorFrom b_1_doorTo b_3_cells cI v_0_waits f_0_walls v_1_count f_1_lowX f_1_lowY f_1_highX f_1_highY v_3_spaces v_3_xs_count f_3_xs_places v_3_ys_count f_3_ys_places) := hD.sub [0, 1, 2, 3, 4, 5, 6, 7, 8, 9, 10, 11] (by decide) rfl
  refine lv_istore (lv' := [(5, .int r5), (4, .int r2), (0, .ref a_0), (1, .ref a_1), (2, .int p2), (3, .ref a_3)]) hx hb d_Fl_raise_28 hl (by decide) rfl (fun ls hl => ?_)
  refine lv_aload_n hx hb d_Fl_raise_30 rfl (lv_at hl 5 rfl) ?_
  refine va_get (D := (dC, dI)) (ci := 8) (v := .ref a_3_xs) (C := "SpaceCycles$Grid") (T := F_Gr) (N := 4) hx hb hts (in_F i_Gr) hown hK hP 7 rfl rfl 0 (by decide) (hts _ (in_c k_79)) (fun _ h9 => h9) rfl d_Fl_raise_31 ?_
  refine lv_aload_n hx hb d_Fl_raise_34 rfl (lv_at hl 3 rfl) ?_
  refine va_get (D := (dC, dI)) (ci := 1) (v := .ref a_1_highX) (C := "SpaceCycles$Lines") (T := F_Li) (N := 9) hx hb hts (in_F i_Li) hown hK hP 2 rfl rfl 2 (by decide) (hts _ (in_c k_99)) (fun _ h9 => h9) rfl d_Fl_raise_35 ?_
  refine lv_iload_n hx hb d_Fl_raise_38 rfl (lv_at hl 4 rfl) ?_
  obtain ⟨hi7, hm⟩ := gI_e hm
  refine va_iald hx hb hK hP 5 0 rfl rfl hi7 d_Fl_raise_39 ?_
  obtain ⟨r8, hb9, hm⟩ := bd1_e hm
  have hPc := hP.sub (ws' := (wl_Cu_indexOf a_3_xs a_3_xs_places cI v_3_xs_count f_3_xs_places)) [8, 9] rfl
  have hDc := hD.sub (ws' := (wl_Cu_indexOf a_3_xs a_3_xs_places cI v_3_xs_count f_3_xs_places)) [8, 9] (by decide) rfl
  refine cl_i (wc' := (wl_Cu_indexOf a_3_xs a_3_xs_places cI v_3_xs_count f_3_xs_places)) (va_runV (As := [.int (f_1_highX p2.toNatClampNeg)]) (rest := []) ⟨hx, hb, hml, hown, hts⟩ (c_Cu_indexOf l dC dI (cI := cI) (cZ := cZ) (cJ := cJ) a_3_xs a_3_xs_places H.size v_3_xs_count f_3_xs_places (f_1_highX p2.toNatClampNeg) r8 hb9) (cwV 1 hts (gl_V k_97 k_96 k_95 k_9 k_94) rfl rfl rfl (by decide +kernel) ⟨Nat.le_of_ble_eq_true rfl, Nat.le_of_ble_eq_true rfl⟩) ⟨PP_blind, va_recv hK hPc (ci := 9) (q0 := 0) rfl rfl, fun U hU hW => PP_at hK hN hPc hDc hU hW⟩ rfl rfl hl.1 rfl (lv_room (Nat.le_of_ble_eq_true rfl)) d_Fl_raise_40 ⟨Nat.zero_le _, Nat.zero_le _⟩) hP hD hS hA [8, 9] [0, 1, 2, 3, 4, 5, 6, 7, 10, 11] rfl rfl (by decide) (by decide) (fun H locs hP hD hS => ?_)
  have hP : va_P (dC, dI) vwCl (wl_Fl_raise a_0 a_0_walls a_1 a_1_lowX a_1_lowY a_1_highX a_1_highY a_3 a_3_xs a_3_xs_places a_3_ys a_3_ys_places b_0_waiting b_1_thickness b_1_doors b_1_doorFrom b_1_doorTo b_3_cells cI v_0_waits f_0_walls v_1_count f_1_lowX f_1_lowY f_1_highX f_1_highY v_3_spaces v_3_xs_count f_3_xs_places v_3_ys_count f_3_ys_places) H := hP.sub [0, 1, 2, 3, 4, 5, 6, 7, 10, 11, 8, 9] rfl
  have hD : va_D A (wl_Fl_raise a_0 a_0_walls a_1 a_1_lowX a_1_lowY a_1_highX a_1_highY a_3 a_3_xs a_3_xs_places a_3_ys a_3_ys_places b_0_waiting b_1_thickness b_1_doors b_1_doorFrom b_1_doorTo b_3_cells cI v_0_waits f_0_walls v_1_count f_1_lowX f_1_lowY f_1_highX f_1_highY v_3_spaces v_3_xs_count f_3_xs_places v_3_ys_count f_3_ys_places) := hD.sub [0, 1, 2, 3, 4, 5, 6, 7, 10, 11, 8, 9] (by decide) rfl
  refine lv_istore (lv' := [(6, .int r8), (5, .int r5), (4, .int r2), (0, .ref a_0), (1, .ref a_1), (2, .int p2), (3, .ref a_3)]) hx hb d_Fl_raise_43 hl (by decide) rfl (fun ls hl => ?_)
  refine lv_aload_n hx hb d_Fl_raise_45 rfl (lv_at hl 6 rfl) ?_
  refine va_get (D := (dC, dI)) (ci := 8) (v := .ref a_3_ys) (C := "SpaceCycles$Grid") (T := F_Gr) (N := 4) hx hb hts (in_F i_Gr) hown hK hP 7 rfl rfl 1 (by decide) (hts _ (in_c k_82)) (fun _ h9 => h9) rfl d_Fl_raise_46 ?_
  refine lv_aload_n hx hb d_Fl_raise_49 rfl (lv_at hl 4 rfl) ?_
  refine va_get (D := (dC, dI)) (ci := 1) (v := .ref a_1_highY) (C := "SpaceCycles$Lines") (T := F_Li) (N := 9) hx hb hts (in_F i_Li) hown hK hP 2 rfl rfl 3 (by decide) (hts _ (in_c k_100)) (fun _ h9 => h9) rfl d_Fl_raise_50 ?_
  refine lv_iload_n hx hb d_Fl_raise_53 rfl (lv_at hl 5 rfl) ?_
  obtain ⟨hi10, hm⟩ := gI_e hm
  refine va_iald hx hb hK hP 6 0 rfl rfl hi10 d_Fl_raise_54 ?_
  obtain ⟨r11, hb12, hm⟩ := bd1_e hm
  have hPc := hP.sub (ws' := (wl_Cu_indexOf a_3_ys a_3_ys_places cI v_3_ys_count f_3_ys_places)) [10, 11] rfl
  have hDc := hD.sub (ws' := (wl_Cu_indexOf a_3_ys a_3_ys_places cI v_3_ys_count f_3_ys_places)) [10, 11] (by decide) rfl
  refine cl_i (wc' := (wl_Cu_indexOf a_3_ys a_3_ys_places cI v_3_ys_count f_3_ys_places)) (va_runV (As := [.int (f_1_highY p2.toNatClampNeg)]) (rest := []) ⟨hx, hb, hml, hown, hts⟩ (c_Cu_indexOf l dC dI (cI := cI) (cZ := cZ) (cJ := cJ) a_3_ys a_3_ys_places H.size v_3_ys_count f_3_ys_places (f_1_highY p2.toNatClampNeg) r11 hb12) (cwV 1 hts (gl_V k_97 k_96 k_95 k_9 k_94) rfl rfl rfl (by decide +kernel) ⟨Nat.le_of_ble_eq_true rfl, Nat.le_of_ble_eq_true rfl⟩) ⟨PP_blind, va_recv hK hPc (ci := 9) (q0 := 0) rfl rfl, fun U hU hW => PP_at hK hN hPc hDc hU hW⟩ rfl rfl hl.1 rfl (lv_room (Nat.le_of_ble_eq_true rfl)) d_Fl_raise_55 ⟨Nat.zero_le _, Nat.zero_le _⟩) hP hD hS hA [10, 11] [0, 1, 2, 3, 4, 5, 6, 7, 8, 9] rfl rfl (by decide) (by decide) (fun H locs hP hD hS => ?_)
  have hP : va_P (dC, dI) vwCl (wl_Fl_raise a_0 a_0_walls a_1 a_1_lowX a_1_lowY a_1_highX a_1_highY a_3 a_3_xs a_3_xs_places a_3_ys a_3_ys_places b_0_waiting b_1_thickness b_1_doors b_1_doorFrom b_1_doorTo b_3_cells cI v_0_waits f_0_walls v_1_count f_1_lowX f_1_lowY f_1_highX f_1_highY v_3_spaces v_3_xs_count f_3_xs_places v_3_ys_count f_3_ys_places) H := hP.sub [0, 1, 2, 3, 4, 5, 6, 7, 8, 9, 10, 11] rfl
  have hD : va_D A (wl_Fl_raise a_0 a_0_walls a_1 a_1_lowX a_1_lowY a_1_highX a_1_highY a_3 a_3_xs a_3_xs_places a_3_ys a_3_ys_places b_0_waiting b_1_thickness b_1_doors b_1_doorFrom b_1_doorTo b_3_cells cI v_0_waits f_0_walls v_1_count f_1_lowX f_1_lowY f_1_highX f_1_highY v_3_spaces v_3_xs_count f_3_xs_places v_3_ys_count f_3_ys_places) := hD.sub [0, 1, 2, 3, 4, 5, 6, 7, 8, 9, 10, 11] (by decide) rfl
  refine lv_istore (lv' := [(7, .int r11), (6, .int r8), (5, .int r5), (4, .int r2), (0, .ref a_0), (1, .ref a_1), (2, .int p2), (3, .ref a_3)]) hx hb d_Fl_raise_58 hl (by decide) rfl (fun ls hl => ?_)
  refine lv_iload hx hb d_Fl_raise_60 (lv_at hl 3 rfl) ?_
  refine lv_iconst (v := 1) hx hb d_Fl_raise_62 (by decide) ?_
  refine lv_iadd hx hb d_Fl_raise_63 ?_
  refine lv_topi (fun x13 ex13 => ?_)
  replace hm := lt_el hm ex13
  refine lv_istore (lv' := [(8, .int x13), (7, .int r11), (6, .int r8), (5, .int r5), (4, .int r2), (0, .ref a_0), (1, .ref a_1), (2, .int p2), (3, .ref a_3)]) hx hb d_Fl_raise_64 hl (by decide) rfl (fun ls hl => ?_)
  have L66_17 : ∀ (n : Nat) (x14 : Int32) (f15 : Nat → Int32) (f16 : Nat → Int32), m_Fl_raise_L66 r5 r8 n x14 f15 = some f16 → (∀ (H : Heap) (locs : List Loc) (ls : Array Slot), va_P (dC, dI) vwCl (wl_Fl_raise a_0 a_0_walls a_1 a_1_lowX a_1_lowY a_1_highX a_1_highY a_3 a_3_xs a_3_xs_places a_3_ys a_3_ys_places b_0_waiting b_1_thickness b_1_doors b_1_doorFrom b_1_doorTo b_3_cells cI v_0_waits f16 v_1_count f_1_lowX f_1_lowY f_1_highX f_1_highY v_3_spaces v_3_xs_count f_3_xs_places v_3_ys_count f_3_ys_places) H → va_D A (wl_Fl_raise a_0 a_0_walls a_1 a_1_lowX a_1_lowY a_1_highX a_1_highY a_3 a_3_xs a_3_xs_places a_3_ys a_3_ys_places b_0_waiting b_1_thickness b_1_doors b_1_doorFrom b_1_doorTo b_3_cells cI v_0_waits f16 v_1_count f_1_lowX f_1_lowY f_1_highX f_1_highY v_3_spaces v_3_xs_count f_3_xs_places v_3_ys_count f_3_ys_places) → va_S A s.heap H locs → lv_has ls 9 [(0, .ref a_0), (4, .int r2), (5, .int r5), (7, .int r11)] → W p l e rm_Fl_raise s m args below meth c H locs 0 0 Q (F0 m 95 ls [])) → ∀ (H : Heap) (locs : List Loc) (ls : Array Slot), va_P (dC, dI) vwCl (wl_Fl_raise a_0 a_0_walls a_1 a_1_lowX a_1_lowY a_1_highX a_1_highY a_3 a_3_xs a_3_xs_places a_3_ys a_3_ys_places b_0_waiting b_1_thickness b_1_doors b_1_doorFrom b_1_doorTo b_3_cells cI v_0_waits f15 v_1_count f_1_lowX f_1_lowY f_1_highX f_1_highY v_3_spaces v_3_xs_count f_3_xs_places v_3_ys_count f_3_ys_places) H → va_D A (wl_Fl_raise a_0 a_0_walls a_1 a_1_lowX a_1_lowY a_1_highX a_1_highY a_3 a_3_xs a_3_xs_places a_3_ys a_3_ys_places b_0_waiting b_1_thickness b_1_doors b_1_doorFrom b_1_doorTo b_3_cells cI v_0_waits f15 v_1_count f_1_lowX f_1_lowY f_1_highX f_1_highY v_3_spaces v_3_xs_count f_3_xs_places v_3_ys_count f_3_ys_places) → va_S A s.heap H locs → lv_has ls 9 [(0, .ref a_0), (4, .int r2), (5, .int r5), (6, .int r8), (7, .int r11), (8, .int x14)] → W p l e rm_Fl_raise s m args below meth c H locs 0 0 Q (F0 m 66 ls []) := by
    intro n
    induction n with
    | zero => intro x14 f15 f16 hm; simp [m_Fl_raise_L66] at hm
    | succ n ih =>
      intro x14 f15 f16 hm KE H locs ls hP hD hS hl
      rw [m_Fl_raise_L66] at hm
      refine lv_iload hx hb d_Fl_raise_66 (lv_at hl 5 rfl) ?_
      refine lv_iload hx hb d_Fl_raise_68 (lv_at hl 3 rfl) ?_
      refine lv_icmp_gt (tgt := 95) hx hb d_Fl_raise_70 (by decide) (fun c18 => ?_) (fun c18 => ?_)
      · replace hm := if_t hm c18
        cases hm
        exact KE H locs ls hP hD hS (lv_sub hl [0, 1, 2, 4] rfl)
      · replace hm := if_f hm c18
        refine lv_aload_n hx hb d_Fl_raise_73 rfl (lv_at hl 0 rfl) ?_
        refine va_get (D := (dC, dI)) (ci := 2) (v := .ref a_0_walls) (C := "SpaceCycles$Flood") (T := F_Fl) (N := 3) hx hb hts (in_F i_Fl) hown hK hP 0 rfl rfl 0 (by decide) (hts _ (in_c k_85)) (fun _ h9 => h9) rfl d_Fl_raise_74 ?_
        refine lv_iload hx hb d_Fl_raise_77 (lv_at hl 5 rfl) ?_
        refine lv_iload hx hb d_Fl_raise_79 (lv_at hl 2 rfl) ?_
        obtain ⟨r19, hb20, hm⟩ := bd1_e hm
        have hPc := hP.sub (ws' := (wl_Gr_cell)) [] rfl
        have hDc := hD.sub (ws' := (wl_Gr_cell)) [] (by decide) rfl
        refine cl_i (wc' := (wl_Gr_cell)) (va_runS (As := [.int x14, .int r5]) (rest := [.ref a_0_walls]) ⟨hx, hb, hml, hown, hts⟩ (c_Gr_cell l dC dI (cI := cI) (cZ := cZ) (cJ := cJ) H.size x14 r5 r19 hb20) (va_cwS 2 hts (gl_S k_81 k_55 k_56 k_54) rfl rfl rfl (by decide +kernel) ⟨Nat.le_of_ble_eq_true rfl, Nat.le_of_ble_eq_true rfl⟩) ⟨PP_blind, fun U hU hW => PP_at hK hN hPc hDc hU hW⟩ rfl rfl hl.1 rfl (lv_room (Nat.le_of_ble_eq_true rfl)) d_Fl_raise_81 ⟨Nat.zero_le _, Nat.zero_le _⟩) hP hD hS hA [] [0, 1, 2, 3, 4, 5, 6, 7, 8, 9, 10, 11] rfl rfl (by decide) (by decide) (fun H locs hP hD hS => ?_)
        have hP : va_P (dC, dI) vwCl (wl_Fl_raise a_0 a_0_walls a_1 a_1_lowX a_1_lowY a_1_highX a_1_highY a_3 a_3_xs a_3_xs_places a_3_ys a_3_ys_places b_0_waiting b_1_thickness b_1_doors b_1_doorFrom b_1_doorTo b_3_cells cI v_0_waits f15 v_1_count f_1_lowX f_1_lowY f_1_highX f_1_highY v_3_spaces v_3_xs_count f_3_xs_places v_3_ys_count f_3_ys_places) H := hP.sub [0, 1, 2, 3, 4, 5, 6, 7, 8, 9, 10, 11] rfl
        have hD : va_D A (wl_Fl_raise a_0 a_0_walls a_1 a_1_lowX a_1_lowY a_1_highX a_1_highY a_3 a_3_xs a_3_xs_places a_3_ys a_3_ys_places b_0_waiting b_1_thickness b_1_doors b_1_doorFrom b_1_doorTo b_3_cells cI v_0_waits f15 v_1_count f_1_lowX f_1_lowY f_1_highX f_1_highY v_3_spaces v_3_xs_count f_3_xs_places v_3_ys_count f_3_ys_places) := hD.sub [0, 1, 2, 3, 4, 5, 6, 7, 8, 9, 10, 11] (by decide) rfl
        refine lv_dup2_11 hx hb d_Fl_raise_84 rfl rfl ?_
        obtain ⟨hi21, hm⟩ := gI_e hm
        refine va_iald hx hb hK hP 1 0 rfl rfl hi21 d_Fl_raise_85 ?_
        refine lv_iconst (v := 2) hx hb d_Fl_raise_86 (by decide) ?_
        refine lv_ior hx hb d_Fl_raise_87 ?_
        obtain ⟨hi22, hm⟩ := gI_e hm
        obtain ⟨f23, ef23⟩ : ∃ y : Nat → Int32, y = upd f15 r19.toNatClampNeg ((f15 r19.toNatClampNeg) ||| 2) := ⟨_, rfl⟩
        replace hm := lt_el hm ef23
        refine va_iast hx hb hK hP hD hS 1 0 rfl rfl hi22 d_Fl_raise_88 (fun H locs hP hD hS => ?_)
        rw [← ef23] at hP hD
        have hP : va_P (dC, dI) vwCl (wl_Fl_raise a_0 a_0_walls a_1 a_1_lowX a_1_lowY a_1_highX a_1_highY a_3 a_3_xs a_3_xs_places a_3_ys a_3_ys_places b_0_waiting b_1_thickness b_1_doors b_1_doorFrom b_1_doorTo b_3_cells cI v_0_waits f23 v_1_count f_1_lowX f_1_lowY f_1_highX f_1_highY v_3_spaces v_3_xs_count f_3_xs_places v_3_ys_count f_3_ys_places) H := hP
        have hD : va_D A (wl_Fl_raise a_0 a_0_walls a_1 a_1_lowX a_1_lowY a_1_highX a_1_highY a_3 a_3_xs a_3_xs_places a_3_ys a_3_ys_places b_0_waiting b_1_thickness b_1_doors b_1_doorFrom b_1_doorTo b_3_cells cI v_0_waits f23 v_1_count f_1_lowX f_1_lowY f_1_highX f_1_highY v_3_spaces v_3_xs_count f_3_xs_places v_3_ys_count f_3_ys_places) := hD
        obtain ⟨x24, ex24⟩ : ∃ y : Int32, y = x14 + 1 := ⟨_, rfl⟩
        replace hm := lt_el hm ex24
        refine lv_iinc (v := x24) (lv' := [(8, .int x24), (0, .ref a_0), (4, .int r2), (5, .int r5), (6, .int r8), (7, .int r11)]) hx hb d_Fl_raise_89 hl (k := 5) rfl (by rw [ex24]; rfl) (by decide) rfl (fun ls hl => ?_)
        refine lv_goto (tgt := 66) hx hb d_Fl_raise_92 (by decide) ?_
        exact ih _ _ _ hm KE H locs ls hP hD hS (lv_sub hl [1, 2, 3, 4, 5, 0] rfl)
  obtain ⟨f16, hb25, hm⟩ := bd1_e hm
  refine L66_17 fu _ _ _ hb25 (fun H locs ls hP hD hS hl => ?_) H locs ls hP hD hS (lv_sub hl [5, 4, 3, 2, 1, 0] rfl)
  refine lv_iload hx hb d_Fl_raise_95 (lv_at hl 2 rfl) ?_
  refine lv_iconst (v := 1) hx hb d_Fl_raise_97 (by decide) ?_
  refine lv_iadd hx hb d_Fl_raise_98 ?_
  refine lv_topi (fun x26 ex26 => ?_)
  replace hm := lt_el hm ex26
  refine lv_istore (lv' := [(8, .int x26), (0, .ref a_0), (4, .int r2), (5, .int r5), (7, .int r11)]) hx hb d_Fl_raise_99 hl (by decide) rfl (fun ls hl => ?_)
  have L101_30 : ∀ (n : Nat) (x27 : Int32) (f28 : Nat → Int32) (f29 : Nat → Int32), m_Fl_raise_L101 r11 r2 n x27 f28 = some f29 → (∀ (H : Heap) (locs : List Loc) (ls : Array Slot), va_P (dC, dI) vwCl (wl_Fl_raise a_0 a_0_walls a_1 a_1_lowX a_1_lowY a_1_highX a_1_highY a_3 a_3_xs a_3_xs_places a_3_ys a_3_ys_places b_0_waiting b_1_thickness b_1_doors b_1_doorFrom b_1_doorTo b_3_cells cI v_0_waits f29 v_1_count f_1_lowX f_1_lowY f_1_highX f_1_highY v_3_spaces v_3_xs_count f_3_xs_places v_3_ys_count f_3_ys_places) H → va_D A (wl_Fl_raise a_0 a_0_walls a_1 a_1_lowX a_1_lowY a_1_highX a_1_highY a_3 a_3_xs a_3_xs_places a_3_ys a_3_ys_places b_0_waiting b_1_thickness b_1_doors b_1_doorFrom b_1_doorTo b_3_cells cI v_0_waits f29 v_1_count f_1_lowX f_1_lowY f_1_highX f_1_highY v_3_spaces v_3_xs_count f_3_xs_places v_3_ys_count f_3_ys_places) → va_S A s.heap H locs → lv_has ls 9 [] → W p l e rm_Fl_raise s m args below meth c H locs 0 0 Q (F0 m 130 ls [])) → ∀ (H : Heap) (locs : List Loc) (ls : Array Slot), va_P (dC, dI) vwCl (wl_Fl_raise a_0 a_0_walls a_1 a_1_lowX a_1_lowY a_1_highX a_1_highY a_3 a_3_xs a_3_xs_places a_3_ys a_3_ys_places b_0_waiting b_1_thickness b_1_doors b_1_doorFrom b_1_doorTo b_3_cells cI v_0_waits f28 v_1_count f_1_lowX f_1_lowY f_1_highX f_1_highY v_3_spaces v_3_xs_count f_3_xs_places v_3_ys_count f_3_ys_places) H → va_D A (wl_Fl_raise a_0 a_0_walls a_1 a_1_lowX a_1_lowY a_1_highX a_1_highY a_3 a_3_xs a_3_xs_places a_3_ys a_3_ys_places b_0_waiting b_1_thickness b_1_doors b_1_doorFrom b_1_doorTo b_3_cells cI v_0_waits f28 v_1_count f_1_lowX f_1_lowY f_1_highX f_1_highY v_3_spaces v_3_xs_count f_3_xs_places v_3_ys_count f_3_ys_places) → va_S A s.heap H locs → lv_has ls 9 [(0, .ref a_0), (4, .int r2), (7, .int r11), (8, .int x27)] → W p l e rm_Fl_raise s m args below meth c H locs 0 0 Q (F0 m 101 ls []) := by
    intro n
    induction n with
    | zero => intro x27 f28 f29 hm; simp [m_Fl_raise_L101] at hm
    | succ n ih =>
      intro x27 f28 f29 hm KE H locs ls hP hD hS hl
      rw [m_Fl_raise_L101] at hm
      refine lv_iload hx hb d_Fl_raise_101 (lv_at hl 3 rfl) ?_
      refine lv_iload hx hb d_Fl_raise_103 (lv_at hl 2 rfl) ?_
      refine lv_icmp_gt (tgt := 130) hx hb d_Fl_raise_105 (by decide) (fun c31 => ?_) (fun c31 => ?_)
      · replace hm := if_t hm c31
        cases hm
        exact KE H locs ls hP hD hS (lv_sub hl [] rfl)
      · replace hm := if_f hm c31
        refine lv_aload_n hx hb d_Fl_raise_108 rfl (lv_at hl 0 rfl) ?_
        refine va_get (D := (dC, dI)) (ci := 2) (v := .ref a_0_walls) (C := "SpaceCycles$Flood") (T := F_Fl) (N := 3) hx hb hts (in_F i_Fl) hown hK hP 0 rfl rfl 0 (by decide) (hts _ (in_c k_85)) (fun _ h9 => h9) rfl d_Fl_raise_109 ?_
        refine lv_iload hx hb d_Fl_raise_112 (lv_at hl 1 rfl) ?_
        refine lv_iload hx hb d_Fl_raise_114 (lv_at hl 3 rfl) ?_
        obtain ⟨r32, hb33, hm⟩ := bd1_e hm
        have hPc := hP.sub (ws' := (wl_Gr_cell)) [] rfl
        have hDc := hD.sub (ws' := (wl_Gr_cell)) [] (by decide) rfl
        refine cl_i (wc' := (wl_Gr_cell)) (va_runS (As := [.int r2, .int x27]) (rest := [.ref a_0_walls]) ⟨hx, hb, hml, hown, hts⟩ (c_Gr_cell l dC dI (cI := cI) (cZ := cZ) (cJ := cJ) H.size r2 x27 r32 hb33) (va_cwS 2 hts (gl_S k_81 k_55 k_56 k_54) rfl rfl rfl (by decide +kernel) ⟨Nat.le_of_ble_eq_true rfl, Nat.le_of_ble_eq_true rfl⟩) ⟨PP_blind, fun U hU hW => PP_at hK hN hPc hDc hU hW⟩ rfl rfl hl.1 rfl (lv_room (Nat.le_of_ble_eq_true rfl)) d_Fl_raise_116 ⟨Nat.zero_le _, Nat.zero_le _⟩) hP hD hS hA [] [0, 1, 2, 3, 4, 5, 6, 7, 8, 9, 10, 11] rfl rfl (by decide) (by decide) (fun H locs hP hD hS => ?_)
        have hP : va_P (dC, dI) vwCl (wl_Fl_raise a_0 a_0_walls a_1 a_1_lowX a_1_lowY a_1_highX a_1_highY a_3 a_3_xs a_3_xs_places a_3_ys a_3_ys_places b_0_waiting b_1_thickness b_1_doors b_1_doorFrom b_1_doorTo b_3_cells cI v_0_waits f28 v_1_count f_1_lowX f_1_lowY f_1_highX f_1_highY v_3_spaces v_3_xs_count f_3_xs_places v_3_ys_count f_3_ys_places) H := hP.sub [0, 1, 2, 3, 4, 5, 6, 7, 8, 9, 10, 11] rfl
        have hD : va_D A (wl_Fl_raise a_0 a_0_walls a_1 a_1_lowX a_1_lowY a_1_highX a_1_highY a_3 a_3_xs a_3_xs_places a_3_ys a_3_ys_places b_0_waiting b_1_thickness b_1_doors b_1_doorFrom b_1_doorTo b_3_cells cI v_0_waits f28 v_1_count f_1_lowX f_1_lowY f_1_highX f_1_highY v_3_spaces v_3_xs_count f_3_xs_places v_3_ys_count f_3_ys_places) := hD.sub [0, 1, 2, 3, 4, 5, 6, 7, 8, 9, 10, 11] (by decide) rfl
        refine lv_dup2_11 hx hb d_Fl_raise_119 rfl rfl ?_
        obtain ⟨hi34, hm⟩ := gI_e hm
        refine va_iald hx hb hK hP 1 0 rfl rfl hi34 d_Fl_raise_120 ?_
        refine lv_iconst (v := 1) hx hb d_Fl_raise_121 (by decide) ?_
        refine lv_ior hx hb d_Fl_raise_122 ?_
        obtain ⟨hi35, hm⟩ := gI_e hm
        obtain ⟨f36, ef36⟩ : ∃ y : Nat → Int32, y = upd f28 r32.toNatClampNeg ((f28 r32.toNatClampNeg) ||| 1) := ⟨_, rfl⟩
        replace hm := lt_el hm ef36
        refine va_iast hx hb hK hP hD hS 1 0 rfl rfl hi35 d_Fl_raise_123 (fun H locs hP hD hS => ?_)
        rw [← ef36] at hP hD
        have hP : va_P (dC, dI) vwCl (wl_Fl_raise a_0 a_0_walls a_1 a_1_lowX a_1_lowY a_1_highX a_1_highY a_3 a_3_xs a_3_xs_places a_3_ys a_3_ys_places b_0_waiting b_1_thickness b_1_doors b_1_doorFrom b_1_doorTo b_3_cells cI v_0_waits f36 v_1_count f_1_lowX f_1_lowY f_1_highX f_1_highY v_3_spaces v_3_xs_count f_3_xs_places v_3_ys_count f_3_ys_places) H := hP
        have hD : va_D A (wl_Fl_raise a_0 a_0_walls a_1 a_1_lowX a_1_lowY a_1_highX a_1_highY a_3 a_3_xs a_3_xs_places a_3_ys a_3_ys_places b_0_waiting b_1_thickness b_1_doors b_1_doorFrom b_1_doorTo b_3_cells cI v_0_waits f36 v_1_count f_1_lowX f_1_lowY f_1_highX f_1_highY v_3_spaces v_3_xs_count f_3_xs_places v_3_ys_count f_3_ys_places) := hD
        obtain ⟨x37, ex37⟩ : ∃ y : Int32, y = x27 + 1 := ⟨_, rfl⟩
        replace hm := lt_el hm ex37
        refine lv_iinc (v := x37) (lv' := [(8, .int x37), (0, .ref a_0), (4, .int r2), (7, .int r11)]) hx hb d_Fl_raise_124 hl (k := 3) rfl (by rw [ex37]; rfl) (by decide) rfl (fun ls hl => ?_)
        refine lv_goto (tgt := 101) hx hb d_Fl_raise_127 (by decide) ?_
        exact ih _ _ _ hm KE H locs ls hP hD hS (lv_sub hl [1, 2, 3, 0] rfl)
  obtain ⟨f29, hb38, hm⟩ := bd1_e hm
  refine L101_30 fu _ _ _ hb38 (fun H locs ls hP hD hS hl => ?_) H locs ls hP hD hS (lv_sub hl [1, 2, 4, 0] rfl)
  cases hm
  exact hret _ H locs ls d_Fl_raise_130 hP hD hS
set_option maxHeartbeats 4000000 in
set_option maxRecDepth 100000 in
theorem c_Fl_raise (l : Launch) (dC : Nat → ClassId) (dI : Nat → Nat → Nat) {cI cZ cJ : ClassId} (a_0 a_0_walls a_1 a_1_lowX a_1_lowY a_1_highX a_1_highY a_3 a_3_xs a_3_xs_places a_3_ys a_3_ys_places b_0_waiting b_1_thickness b_1_doors b_1_doorFrom b_1_doorTo b_3_cells : Nat) (sz : Nat) (v_0_waits : Int32) (f_0_walls : Nat → Int32) (v_1_count : Int32) (f_1_lowX : Nat → Int32) (f_1_lowY : Nat → Int32) (f_1_highX : Nat → Int32) (f_1_highY : Nat → Int32) (v_3_spaces : Int32) (v_3_xs_count : Int32) (f_3_xs_places : Nat → Int32) (v_3_ys_count : Int32) (f_3_ys_places : Nat → Int32) (p2 : Int32) (of_0_walls : Nat → Int32) (hm : m_Fl_raise p2 f_0_walls f_1_lowX f_1_lowY f_1_highX f_1_highY v_3_xs_count f_3_xs_places v_3_ys_count f_3_ys_places = some of_0_walls) : Met l y_Fl_raise w_Fl_raise rm_Fl_raise (PP dC dI [(cI, .int), (cZ, .boolean), (cJ, .long)] [.ref a_0, .ref a_1, .int p2, .ref a_3] sz (wl_Fl_raise a_0 a_0_walls a_1 a_1_lowX a_1_lowY a_1_highX a_1_highY a_3 a_3_xs a_3_xs_places a_3_ys a_3_ys_places b_0_waiting b_1_thickness b_1_doors b_1_doorFrom b_1_doorTo b_3_cells cI v_0_waits f_0_walls v_1_count f_1_lowX f_1_lowY f_1_highX f_1_highY v_3_spaces v_3_xs_count f_3_xs_places v_3_ys_count f_3_ys_places)) (QV dC dI [(cI, .int), (cZ, .boolean), (cJ, .long)] sz (wl_Fl_raise a_0 a_0_walls a_1 a_1_lowX a_1_lowY a_1_highX a_1_highY a_3 a_3_xs a_3_xs_places a_3_ys a_3_ys_places b_0_waiting b_1_thickness b_1_doors b_1_doorFrom b_1_doorTo b_3_cells cI v_0_waits f_0_walls v_1_count f_1_lowX f_1_lowY f_1_highX f_1_highY v_3_spaces v_3_xs_count f_3_xs_places v_3_ys_count f_3_ys_places) (wl_Fl_raise a_0 a_0_walls a_1 a_1_lowX a_1_lowY a_1_highX a_1_highY a_3 a_3_xs a_3_xs_places a_3_ys a_3_ys_places b_0_waiting b_1_thickness b_1_doors b_1_doorFrom b_1_doorTo b_3_cells cI v_0_waits of_0_walls v_1_count f_1_lowX f_1_lowY f_1_highX f_1_highY v_3_spaces v_3_xs_count f_3_xs_places v_3_ys_count f_3_ys_places)) 0 0 (va_A (wl_Fl_raise a_0 a_0_walls a_1 a_1_lowX a_1_lowY a_1_highX a_1_highY a_3 a_3_xs a_3_xs_places a_3_ys a_3_ys_places b_0_waiting b_1_thickness b_1_doors b_1_doorFrom b_1_doorTo b_3_cells cI v_0_waits f_0_walls v_1_count f_1_lowX f_1_lowY f_1_highX f_1_highY v_3_spaces v_3_xs_count f_3_xs_places v_3_ys_count f_3_ys_places) sz) := by
  refine Met.ofW (cc := b_Fl_raise) (maxL := 9) (ret := none) (by decide) rfl ?_
  intro p e s m args below meth c s₁ B hml hv
  obtain ⟨rfl, hsz, hP, hK, hD0, hN⟩ := hv
  subst hsz
  have hl := lv_entry ([.ref a_0, .ref a_1, .int p2, .ref a_3]) (n := 9) (Nat.le_of_ble_eq_true rfl)
  rw [lg_entry_eq]
  generalize (lg_sl ([.ref a_0, .ref a_1, .int p2, .ref a_3]) ++ List.replicate (9 - (lg_sl ([.ref a_0, .ref a_1, .int p2, .ref a_3])).length) Slot.unset).toArray = ls at hl ⊢
  exact t_Fl_raise a_0 a_0_walls a_1 a_1_lowX a_1_lowY a_1_highX a_1_highY a_3 a_3_xs a_3_xs_places a_3_ys a_3_ys_places b_0_waiting b_1_thickness b_1_doors b_1_doorFrom b_1_doorTo b_3_cells v_0_waits f_0_walls v_1_count f_1_lowX f_1_lowY f_1_highX f_1_highY v_3_spaces v_3_xs_count f_3_xs_places v_3_ys_count f_3_ys_places p2 of_0_walls B.exec B.bytes hml (findClass_of_methodNamed B.named) (atoms_spec (ws := w_Fl_raise) B.pre) hK hN (fun q h => Or.inr h) (fun pc H locs ls hd hP9 hD9 hS => W.vret B.exec B.bytes B.returns (fun t ht hW => ⟨⟨(), rfl, trivial, by rw [ht]; exact hP9, va_K.moved hW.alike hK, hD9⟩, hS.F ht⟩) hS.2.2 hd) hm s.heap [] ls hP hD0.self va_S.rf hl

theorem k_101 : ((.code ⟨"SpaceCycles$Flood", "dry", "(LSpaceCycles$Grid;)V"⟩ prog_4_method_3_code 5 none) : Cond) ∈ gl := gl_i 533 (by decide +kernel) (by decide +kernel)
theorem k_102 : ((.selects "SpaceCycles$Flood" ⟨"SpaceCycles$Flood", "dry", "(LSpaceCycles$Grid;)V"⟩ ⟨"SpaceCycles$Flood", "dry", "(LSpaceCycles$Grid;)V"⟩) : Cond) ∈ gl := gl_s (by decide +kernel) (by decide +kernel)
theorem k_103 : ((.instanceMethod ⟨"SpaceCycles$Flood", "dry", "(LSpaceCycles$Grid;)V"⟩) : Cond) ∈ gl := gl_i 532 (by decide +kernel) (by decide +kernel)
theorem k_104 : ((.methodLink "SpaceCycles$Flood" 24 ⟨"SpaceCycles$Flood", "dry", "(LSpaceCycles$Grid;)V"⟩) : Cond) ∈ gl := gl_i 530 (by decide +kernel) (by decide +kernel)
theorem k_105 : ((.fieldLink "SpaceCycles$Flood" 28 "SpaceCycles$Lines" "count" "I") : Cond) ∈ gl := gl_i 73 (by decide +kernel) (by decide +kernel)
theorem k_106 : ((.code ⟨"SpaceCycles$Flood", "raise", "(LSpaceCycles$Lines;ILSpaceCycles$Grid;)V"⟩ prog_4_method_4_code 9 none) : Cond) ∈ gl := gl_i 784 (by decide +kernel) (by decide +kernel)
theorem k_107 : ((.selects "SpaceCycles$Flood" ⟨"SpaceCycles$Flood", "raise", "(LSpaceCycles$Lines;ILSpaceCycles$Grid;)V"⟩ ⟨"SpaceCycles$Flood", "raise", "(LSpaceCycles$Lines;ILSpaceCycles$Grid;)V"⟩) : Cond) ∈ gl := gl_s (by decide +kernel) (by decide +kernel)
theorem k_108 : ((.instanceMethod ⟨"SpaceCycles$Flood", "raise", "(LSpaceCycles$Lines;ILSpaceCycles$Grid;)V"⟩) : Cond) ∈ gl := gl_i 783 (by decide +kernel) (by decide +kernel)
theorem k_109 : ((.methodLink "SpaceCycles$Flood" 33 ⟨"SpaceCycles$Flood", "raise", "(LSpaceCycles$Lines;ILSpaceCycles$Grid;)V"⟩) : Cond) ∈ gl := gl_i 781 (by decide +kernel) (by decide +kernel)
theorem k_110 : ((.code ⟨"SpaceCycles$Flood", "spread", "(LSpaceCycles$Grid;II)V"⟩ prog_4_method_5_code 8 none) : Cond) ∈ gl := gl_i 793 (by decide +kernel) (by decide +kernel)
theorem k_111 : ((.selects "SpaceCycles$Flood" ⟨"SpaceCycles$Flood", "spread", "(LSpaceCycles$Grid;II)V"⟩ ⟨"SpaceCycles$Flood", "spread", "(LSpaceCycles$Grid;II)V"⟩) : Cond) ∈ gl := gl_s (by decide +kernel) (by decide +kernel)
theorem k_112 : ((.instanceMethod ⟨"SpaceCycles$Flood", "spread", "(LSpaceCycles$Grid;II)V"⟩) : Cond) ∈ gl := gl_i 792 (by decide +kernel) (by decide +kernel)
theorem k_113 : ((.methodLink "SpaceCycles$Flood" 37 ⟨"SpaceCycles$Flood", "spread", "(LSpaceCycles$Grid;II)V"⟩) : Cond) ∈ gl := gl_i 790 (by decide +kernel) (by decide +kernel)
theorem k_114 : ((.fieldLink "SpaceCycles$Flood" 41 "SpaceCycles$Grid" "spaces" "I") : Cond) ∈ gl := gl_i 310 (by decide +kernel) (by decide +kernel)
-- SpaceCycles$Flood.numberSpaces(LSpaceCycles$Lines;LSpaceCycles$Grid;)V
abbrev b_Fl_numberSpaces : ByteArray := prog_4_method_2_code
abbrev y_Fl_numberSpaces : MethodName := ⟨"SpaceCycles$Flood", "numberSpaces", "(LSpaceCycles$Lines;LSpaceCycles$Grid;)V"⟩
abbrev w_Fl_numberSpaces : List Cond := Cond.code y_Fl_numberSpaces b_Fl_numberSpaces 6 none :: gl
abbrev rm_Fl_numberSpaces : Room := { frames := 3, cells := 0, slots := 0, locals := 113 }
theorem d_Fl_numberSpaces_0 : decode b_Fl_numberSpaces 0 = .ok (.aload_n 0, 1) := by decide +kernel
theorem d_Fl_numberSpaces_1 : decode b_Fl_numberSpaces 1 = .ok (.aload_n 2, 1) := by decide +kernel
theorem d_Fl_numberSpaces_2 : decode b_Fl_numberSpaces 2 = .ok (.invokevirtual 24, 3) := by decide +kernel
theorem d_Fl_numberSpaces_5 : decode b_Fl_numberSpaces 5 = .ok (.iconst 0, 1) := by decide +kernel
theorem d_Fl_numberSpaces_6 : decode b_Fl_numberSpaces 6 = .ok (.istore_n 3, 1) := by decide +kernel
theorem d_Fl_numberSpaces_7 : decode b_Fl_numberSpaces 7 = .ok (.iload_n 3, 1) := by decide +kernel
theorem d_Fl_numberSpaces_8 : decode b_Fl_numberSpaces 8 = .ok (.aload_n 1, 1) := by decide +kernel
theorem d_Fl_numberSpaces_9 : decode b_Fl_numberSpaces 9 = .ok (.getfield 28, 3) := by decide +kernel
theorem d_Fl_numberSpaces_12 : decode b_Fl_numberSpaces 12 = .ok (.if_icmp .ge 16, 3) := by decide +kernel
theorem d_Fl_numberSpaces_15 : decode b_Fl_numberSpaces 15 = .ok (.aload_n 0, 1) := by decide +kernel
theorem d_Fl_numberSpaces_16 : decode b_Fl_numberSpaces 16 = .ok (.aload_n 1, 1) := by decide +kernel
theorem d_Fl_numberSpaces_17 : decode b_Fl_numberSpaces 17 = .ok (.iload_n 3, 1) := by decide +kernel
theorem d_Fl_numberSpaces_18 : decode b_Fl_numberSpaces 18 = .ok (.aload_n 2, 1) := by decide +kernel
theorem d_Fl_numberSpaces_19 : decode b_Fl_numberSpaces 19 = .ok (.invokevirtual 33, 3) := by decide +kernel
theorem d_Fl_numberSpaces_22 : decode b_Fl_numberSpaces 22 = .ok (.iinc 3 1, 3) := by decide +kernel
theorem d_Fl_numberSpaces_25 : decode b_Fl_numberSpaces 25 = .ok (.goto (-18), 3) := by decide +kernel
theorem d_Fl_numberSpaces_28 : decode b_Fl_numberSpaces 28 = .ok (.aload_n 0, 1) := by decide +kernel
theorem d_Fl_numberSpaces_29 : decode b_Fl_numberSpaces 29 = .ok (.aload_n 2, 1) := by decide +kernel
theorem d_Fl_numberSpaces_30 : decode b_Fl_numberSpaces 30 = .ok (.iconst 0, 1) := by decide +kernel
theorem d_Fl_numberSpaces_31 : decode b_Fl_numberSpaces 31 = .ok (.iconst (-1), 1) := by decide +kernel
theorem d_Fl_numberSpaces_32 : decode b_Fl_numberSpaces 32 = .ok (.invokevirtual 37, 3) := by decide +kernel
theorem d_Fl_numberSpaces_35 : decode b_Fl_numberSpaces 35 = .ok (.aload_n 2, 1) := by decide +kernel
theorem d_Fl_numberSpaces_36 : decode b_Fl_numberSpaces 36 = .ok (.iconst 0, 1) := by decide +kernel
theorem d_Fl_numberSpaces_37 : decode b_Fl_numberSpaces 37 = .ok (.putfield 41, 3) := by decide +kernel
theorem d_Fl_numberSpaces_40 : decode b_Fl_numberSpaces 40 = .ok (.iconst 1, 1) := by decide +kernel
theorem d_Fl_numberSpaces_41 : decode b_Fl_numberSpaces 41 = .ok (.istore_n 3, 1) := by decide +kernel
theorem d_Fl_numberSpaces_42 : decode b_Fl_numberSpaces 42 = .ok (.iload_n 3, 1) := by decide +kernel
theorem d_Fl_numberSpaces_43 : decode b_Fl_numberSpaces 43 = .ok (.aload_n 2, 1) := by decide +kernel
theorem d_Fl_numberSpaces_44 : decode b_Fl_numberSpaces 44 = .ok (.getfield 44, 3) := by decide +kernel
theorem d_Fl_numberSpaces_47 : decode b_Fl_numberSpaces 47 = .ok (.getfield 48, 3) := by decide +kernel
theorem d_Fl_numberSpaces_50 : decode b_Fl_numberSpaces 50 = .ok (.if_icmp .ge 80, 3) := by decide +kernel
theorem d_Fl_numberSpaces_53 : decode b_Fl_numberSpaces 53 = .ok (.iconst 1, 1) := by decide +kernel
theorem d_Fl_numberSpaces_54 : decode b_Fl_numberSpaces 54 = .ok (.istore 4, 2) := by decide +kernel
theorem d_Fl_numberSpaces_56 : decode b_Fl_numberSpaces 56 = .ok (.iload 4, 2) := by decide +kernel
theorem d_Fl_numberSpaces_58 : decode b_Fl_numberSpaces 58 = .ok (.aload_n 2, 1) := by decide +kernel
theorem d_Fl_numberSpaces_59 : decode b_Fl_numberSpaces 59 = .ok (.getfield 51, 3) := by decide +kernel
theorem d_Fl_numberSpaces_62 : decode b_Fl_numberSpaces 62 = .ok (.getfield 48, 3) := by decide +kernel
theorem d_Fl_numberSpaces_65 : decode b_Fl_numberSpaces 65 = .ok (.if_icmp .ge 59, 3) := by decide +kernel
theorem d_Fl_numberSpaces_68 : decode b_Fl_numberSpaces 68 = .ok (.iload_n 3, 1) := by decide +kernel
theorem d_Fl_numberSpaces_69 : decode b_Fl_numberSpaces 69 = .ok (.iload 4, 2) := by decide +kernel
theorem d_Fl_numberSpaces_71 : decode b_Fl_numberSpaces 71 = .ok (.invokestatic 54, 3) := by decide +kernel
theorem d_Fl_numberSpaces_74 : decode b_Fl_numberSpaces 74 = .ok (.istore 5, 2) := by decide +kernel
theorem d_Fl_numberSpaces_76 : decode b_Fl_numberSpaces 76 = .ok (.aload_n 2, 1) := by decide +kernel
theorem d_Fl_numberSpaces_77 : decode b_Fl_numberSpaces 77 = .ok (.getfield 58, 3) := by decide +kernel
theorem d_Fl_numberSpaces_80 : decode b_Fl_numberSpaces 80 = .ok (.iload 5, 2) := by decide +kernel
theorem d_Fl_numberSpaces_82 : decode b_Fl_numberSpaces 82 = .ok (.iaload, 1) := by decide +kernel
theorem d_Fl_numberSpaces_83 : decode b_Fl_numberSpaces 83 = .ok (.bipush (-2), 2) := by decide +kernel
theorem d_Fl_numberSpaces_85 : decode b_Fl_numberSpaces 85 = .ok (.if_icmp .ne 33, 3) := by decide +kernel
theorem d_Fl_numberSpaces_88 : decode b_Fl_numberSpaces 88 = .ok (.aload_n 2, 1) := by decide +kernel
theorem d_Fl_numberSpaces_89 : decode b_Fl_numberSpaces 89 = .ok (.getfield 41, 3) := by decide +kernel
theorem d_Fl_numberSpaces_92 : decode b_Fl_numberSpaces 92 = .ok (.bipush 81, 2) := by decide +kernel
theorem d_Fl_numberSpaces_94 : decode b_Fl_numberSpaces 94 = .ok (.if_icmp .ge 24, 3) := by decide +kernel
theorem d_Fl_numberSpaces_97 : decode b_Fl_numberSpaces 97 = .ok (.aload_n 0, 1) := by decide +kernel
theorem d_Fl_numberSpaces_98 : decode b_Fl_numberSpaces 98 = .ok (.aload_n 2, 1) := by decide +kernel
theorem d_Fl_numberSpaces_99 : decode b_Fl_numberSpaces 99 = .ok (.iload 5, 2) := by decide +kernel
theorem d_Fl_numberSpaces_101 : decode b_Fl_numberSpaces 101 = .ok (.aload_n 2, 1) := by decide +kernel
theorem d_Fl_numberSpaces_102 : decode b_Fl_numberSpaces 102 = .ok (.getfield 41, 3) := by decide +kernel
theorem d_Fl_numberSpaces_105 : decode b_Fl_numberSpaces 105 = .ok (.invokevirtual 37, 3) := by decide +kernel
theorem d_Fl_numberSpaces_108 : decode b_Fl_numberSpaces 108 = .ok (.aload_n 2, 1) := by decide +kernel
theorem d_Fl_numberSpaces_109 : decode b_Fl_numberSpaces 109 = .ok (.dup, 1) := by decide +kernel
theorem d_Fl_numberSpaces_110 : decode b_Fl_numberSpaces 110 = .ok (.getfield 41, 3) := by decide +kernel
theorem d_Fl_numberSpaces_113 : decode b_Fl_numberSpaces 113 = .ok (.iconst 1, 1) := by decide +kernel
theorem d_Fl_numberSpaces_114 : decode b_Fl_numberSpaces 114 = .ok (.iadd, 1) := by decide +kernel
theorem d_Fl_numberSpaces_115 : decode b_Fl_numberSpaces 115 = .ok (.putfield 41, 3) := by decide +kernel
theorem d_Fl_numberSpaces_118 : decode b_Fl_numberSpaces 118 = .ok (.iinc 4 1, 3) := by decide +kernel
theorem d_Fl_numberSpaces_121 : decode b_Fl_numberSpaces 121 = .ok (.goto (-65), 3) := by decide +kernel
theorem d_Fl_numberSpaces_124 : decode b_Fl_numberSpaces 124 = .ok (.iinc 3 1, 3) := by decide +kernel
theorem d_Fl_numberSpaces_127 : decode b_Fl_numberSpaces 127 = .ok (.goto (-85), 3) := by decide +kernel
theorem d_Fl_numberSpaces_130 : decode b_Fl_numberSpaces 130 = .ok (.return_, 1) := by decide +kernel
abbrev wl_Fl_numberSpaces (a_0 : Nat) (a_0_walls : Nat) (a_0_waiting : Nat) (a_1 : Nat) (a_1_lowX : Nat) (a_1_lowY : Nat) (a_1_highX : Nat) (a_1_highY : Nat) (a_2 : Nat) (a_2_xs : Nat) (a_2_xs_places : Nat) (a_2_ys : Nat) (a_2_ys_places : Nat) (a_2_cells : Nat) (b_1_thickness : Nat) (b_1_doors : Nat) (b_1_doorFrom : Nat) (b_1_doorTo : Nat) (cI : ClassId) (v_0_waits : Int32) (f_0_walls : Nat → Int32) (f_0_waiting : Nat → Int32) (v_1_count : Int32) (f_1_lowX : Nat → Int32) (f_1_lowY : Nat → Int32) (f_1_highX : Nat → Int32) (f_1_highY : Nat → Int32) (v_2_spaces : Int32) (v_2_xs_count : Int32) (f_2_xs_places : Nat → Int32) (v_2_ys_count : Int32) (f_2_ys_places : Nat → Int32) (f_2_cells : Nat → Int32) : va_W := [(a_0, .inr (2, [.ref a_0_walls, .ref a_0_waiting, .int v_0_waits])), (a_0_walls, .inl (cI, 1681, .inl f_0_walls)), (a_0_waiting, .inl (cI, 1681, .inl f_0_waiting)), (a_1, .inr (1, [.ref a_1_lowX, .ref a_1_lowY, .ref a_1_highX, .ref a_1_highY, .ref b_1_thickness, .ref b_1_doors, .ref b_1_doorFrom, .ref b_1_doorTo, .int v_1_count])), (a_1_lowX, .inl (cI, 20, .inl f_1_lowX)), (a_1_lowY, .inl (cI, 20, .inl f_1_lowY)), (a_1_highX, .inl (cI, 20, .inl f_1_highX)), (a_1_highY, .inl (cI, 20, .inl f_1_highY)), (a_2, .inr (8, [.ref a_2_xs, .ref a_2_ys, .ref a_2_cells, .int v_2_spaces])), (a_2_xs, .inr (9, [.ref a_2_xs_places, .int v_2_xs_count])), (a_2_xs_places, .inl (cI, 40, .inl f_2_xs_places)), (a_2_ys, .inr (9, [.ref a_2_ys_places, .int v_2_ys_count])), (a_2_ys_places, .inl (cI, 40, .inl f_2_ys_places)), (a_2_cells, .inl (cI, 1681, .inl f_2_cells))]
def m_Fl_numberSpaces_L7 (v_1_count : Int32) (f_1_lowX : Nat → Int32) (f_1_lowY : Nat → Int32) (f_1_highX : Nat → Int32) (f_1_highY : Nat → Int32) (v_2_xs_count : Int32) (f_2_xs_places : Nat → Int32) (v_2_ys_count : Int32) (f_2_ys_places : Nat → Int32) : Nat → Int32 → (Nat → Int32) → Option ((Nat → Int32))
  | 0, _, _ => none
  | n + 1, l3, f_0_walls =>
    if v_1_count ≤ l3 then (
      some f_0_walls)
    else (
      bd1 (m_Fl_raise l3 f_0_walls f_1_lowX f_1_lowY f_1_highX f_1_highY v_2_xs_count f_2_xs_places v_2_ys_count f_2_ys_places) fun f5 =>
      lt_ (l3 + 1) fun x7 =>
      m_Fl_numberSpaces_L7 v_1_count f_1_lowX f_1_lowY f_1_highX f_1_highY v_2_xs_count f_2_xs_places v_2_ys_count f_2_ys_places n x7 f5)

def m_Fl_numberSpaces_L56 (l3 : Int32) (f_0_walls : Nat → Int32) (v_2_xs_count : Int32) (v_2_ys_count : Int32) : Nat → Int32 → Int32 → (Nat → Int32) → Int32 → (Nat → Int32) → Option ((Int32) × (Nat → Int32) × (Int32) × (Nat → Int32))
  | 0, _, _, _, _, _ => none
  | n + 1, l4, v_0_waits, f_0_waiting, v_2_spaces, f_2_cells =>
    if v_2_ys_count ≤ l4 then (
      some (v_0_waits, f_0_waiting, v_2_spaces, f_2_cells))
    else (
      bd1 (m_Gr_cell l3 l4) fun r19 =>
      gI r19 1681 <|
      bd4 (
        if (f_2_cells r19.toNatClampNeg) = (-2) then (
        if 81 ≤ v_2_spaces then (
          some (v_0_waits, f_0_waiting, v_2_spaces, f_2_cells))
        else (
          bd3 (m_Fl_spread r19 v_2_spaces v_0_waits f_0_walls f_0_waiting v_2_xs_count v_2_ys_count f_2_cells) fun x31 f32 f33 =>
          lt_ (v_2_spaces + 1) fun x35 =>
          some (x31, f32, x35, f33)))
      else (
        some (v_0_waits, f_0_waiting, v_2_spaces, f_2_cells)))
      fun (x25 : Int32) (f26 : Nat → Int32) (x27 : Int32) (f28 : Nat → Int32) =>
      lt_ (l4 + 1) fun x36 =>
        m_Fl_numberSpaces_L56 l3 f_0_walls v_2_xs_count v_2_ys_count n x36 x25 f26 x27 f28)

def m_Fl_numberSpaces_L42 (f_0_walls : Nat → Int32) (v_2_xs_count : Int32) (v_2_ys_count : Int32) : Nat → Int32 → Int32 → (Nat → Int32) → Int32 → (Nat → Int32) → Option ((Int32) × (Nat → Int32) × (Int32) × (Nat → Int32))
  | 0, _, _, _, _, _ => none
  | n + 1, l3, v_0_waits, f_0_waiting, v_2_spaces, f_2_cells =>
    if v_2_xs_count ≤ l3 then (
      some (v_0_waits, f_0_waiting, v_2_spaces, f_2_cells))
    else (
      bd4 (m_Fl_numberSpaces_L56 l3 f_0_walls v_2_xs_count v_2_ys_count fu 1 v_0_waits f_0_waiting v_2_spaces f_2_cells) fun x23 f24 x25 f26 =>
      lt_ (l3 + 1) fun x48 =>
      m_Fl_numberSpaces_L42 f_0_walls v_2_xs_count v_2_ys_count n x48 x23 f24 x25 f26)
def m_Fl_numberSpaces (v_0_waits : Int32) (f_0_walls : Nat → Int32) (f_0_waiting : Nat → Int32) (v_1_count : Int32) (f_1_lowX : Nat → Int32) (f_1_lowY : Nat → Int32) (f_1_highX : Nat → Int32) (f_1_highY : Nat → Int32) (v_2_spaces : Int32) (v_2_xs_count : Int32) (f_2_xs_places : Nat → Int32) (v_2_ys_count : Int32) (f_2_ys_places : Nat → Int32) (f_2_cells : Nat → Int32) : Option ((Int32) × (Nat → Int32) × (Nat → Int32) × (Int32) × (Nat → Int32)) :=
  bd2 (m_Fl_dry f_0_walls v_2_xs_count v_2_ys_count f_2_cells) fun f1 f2 =>
  bd1 (m_Fl_numberSpaces_L7 v_1_count f_1_lowX f_1_lowY f_1_highX f_1_highY v_2_xs_count f_2_xs_places v_2_ys_count f_2_ys_places fu 0 f1) fun f6 =>
  bd3 (m_Fl_spread 0 (-1) v_0_waits f6 f_0_waiting v_2_xs_count v_2_ys_count f2) fun x13 f14 f15 =>
  bd4 (m_Fl_numberSpaces_L42 f6 v_2_xs_count v_2_ys_count fu 1 x13 f14 0 f15) fun x22 f23 x24 f25 =>
  some (x22, f6, f23, x24, f25)

set_option maxHeartbeats 4000000 in
set_option maxRecDepth 100000 in
theorem t_Fl_numberSpaces {p : Program} {l : Launch} {e : Env} {s : State} {m : MethodId} {args : Array Value} {below : List Frame} {meth : Method} {c : Code} {A : Nat → Prop} {Q : State → Prop} {dC : Nat → ClassId} {dI : Nat → Nat → Nat} {cI cZ cJ : ClassId} (a_0 a_0_walls a_0_waiting a_1 a_1_lowX a_1_lowY a_1_highX a_1_highY a_2 a_2_xs a_2_xs_places a_2_ys a_2_ys_places a_2_cells b_1_thickness b_1_doors b_1_doorFrom b_1_doorTo : Nat) (v_0_waits : Int32) (f_0_walls : Nat → Int32) (f_0_waiting : Nat → Int32) (v_1_count : Int32) (f_1_lowX : Nat → Int32) (f_1_lowY : Nat → Int32) (f_1_highX : Nat → Int32) (f_1_highY : Nat → Int32) (v_2_spaces : Int32) (v_2_xs_count : Int32) (f_2_xs_places : Nat → Int32) (v_2_ys_count : Int32) (f_2_ys_places : Nat → Int32) (f_2_cells : Nat → Int32)  (ov_0_waits : Int32) (of_0_walls : Nat → Int32) (of_0_waiting : Nat → Int32) (ov_2_spaces : Int32) (of_2_cells : Nat → Int32) (hx : p.tables.exec = Jvm.exec) (hb : c.code = b_Fl_numberSpaces) (hml : c.maxLocals = 6) (hown : s.vm.findClass "SpaceCycles$Flood" = some m.cls) (hts : ∀ w ∈ w_Fl_numberSpaces, w.before args s = true) (hK : va_K (dC, dI) vwCl [(cI, .int), (cZ, .boolean), (cJ, .long)] s) (hN : NX s) (hA : ∀ q : Nat, s.heap.size ≤ q → A q)
    (hret : ∀ (pc : Nat) (H : Heap) (locs : List Loc) (ls : Array Slot), decode b_Fl_numberSpaces pc = .ok (.return_, 1) → va_P (dC, dI) vwCl (wl_Fl_numberSpaces a_0 a_0_walls a_0_waiting a_1 a_1_lowX a_1_lowY a_1_highX a_1_highY a_2 a_2_xs a_2_xs_places a_2_ys a_2_ys_places a_2_cells b_1_thickness b_1_doors b_1_doorFrom b_1_doorTo cI ov_0_waits of_0_walls of_0_waiting v_1_count f_1_lowX f_1_lowY f_1_highX f_1_highY ov_2_spaces v_2_xs_count f_2_xs_places v_2_ys_count f_2_ys_places of_2_cells) H → va_D A (wl_Fl_numberSpaces a_0 a_0_walls a_0_waiting a_1 a_1_lowX a_1_lowY a_1_highX a_1_highY a_2 a_2_xs a_2_xs_places a_2_ys a_2_ys_places a_2_cells b_1_thickness b_1_doors b_1_doorFrom b_1_doorTo cI ov_0_waits of_0_walls of_0_waiting v_1_count f_1_lowX f_1_lowY f_1_highX f_1_highY ov_2_spaces v_2_xs_count f_2_xs_places v_2_ys_count f_2_ys_places of_2_cells) → va_S A s.heap H locs → W p l e rm_Fl_numberSpaces s m args below meth c H locs 0 0 Q (F0 m pc ls []))
    (hm : m_Fl_numberSpaces v_0_waits f_0_walls f_0_waiting v_1_count f_1_lowX f_1_lowY f_1_highX f_1_highY v_2_spaces v_2_xs_count f_2_xs_places v_2_ys_count f_2_ys_places f_2_cells = some (ov_0_waits, of_0_walls, of_0_waiting, ov_2_spaces, of_2_cells)) : ∀ (H : Heap) (locs : List Loc) (ls : Array Slot), va_P (dC, dI) vwCl (wl_Fl_numberSpaces a_0 a_0_walls a_0_waiting a_1 a_1_lowX a_1_lowY a_1_highX a_1_highY a_2 a_2_xs a_2_xs_places a_2_ys a_2_ys_places a_2_cells b_1_thickness b_1_doors b_1_doorFrom b_1_doorTo cI v_0_waits f_0_walls f_0_waiting v_1_count f_1_lowX f_1_lowY f_1_highX f_1_highY v_2_spaces v_2_xs_count f_2_xs_places v_2_ys_count f_2_ys_places f_2_cells) H → va_D A (wl_Fl_numberSpaces a_0 a_0_walls a_0_waiting a_1 a_1_lowX a_1_lowY a_1_highX a_1_highY a_2 a_2_xs a_2_xs_places a_2_ys a_2_ys_places a_2_cells b_1_thickness b_1_doors b_1_doorFrom b_1_doorTo cI v_0_waits f_0_walls f_0_waiting v_1_count f_1_lowX f_1_lowY f_1_highX f_1_highY v_2_spaces v_2_xs_count f_2_xs_places v_2_ys_count f_2_ys_places f_2_cells) → va_S A s.heap H locs → lv_has ls 6 [(0, .ref a_0), (1, .ref a_1), (2, .ref a_2)] → W p l e rm_Fl_numberSpaces s m args below meth c H locs 0 0 Q (F0 m 0 ls []) := by
  intro H locs ls hP hD hS hl
  unfold m_Fl_numberSpaces at hm
  refine lv_aload_n hx hb d_Fl_numberSpaces_0 rfl (lv_at hl 0 rfl) ?_
  refine lv_aload_n hx hb d_Fl_numberSpaces_1 rfl (lv_at hl 2 rfl) ?_
  obtain ⟨f1, f2, hb3, hm⟩ := bd2_e hm
  have hPc := hP.sub (ws' := (wl_Fl_dry a_0 a_0_walls a_2 a_2_xs a_2_ys a_2_cells a_0_waiting a_2_xs_places a_2_ys_places cI v_0_waits f_0_walls v_2_spaces v_2_xs_count v_2_ys_count f_2_cells)) [0, 1, 8, 9, 11, 13] rfl
  have hDc := hD.sub (ws' := (wl_Fl_dry a_0 a_0_walls a_2 a_2_xs a_2_ys a_2_cells a_0_waiting a_2_xs_places a_2_ys_places cI v_0_waits f_0_walls v_2_spaces v_2_xs_count v_2_ys_count f_2_cells)) [0, 1, 8, 9, 11, 13] (by decide) rfl
  refine cl_v (wc' := (wl_Fl_dry a_0 a_0_walls a_2 a_2_xs a_2_ys a_2_cells a_0_waiting a_2_xs_places a_2_ys_places cI v_0_waits f1 v_2_spaces v_2_xs_count v_2_ys_count f2)) (va_runV (As := [.ref a_2]) (rest := []) ⟨hx, hb, hml, hown, hts⟩ (c_Fl_dry l dC dI (cI := cI) (cZ := cZ) (cJ := cJ) a_0 a_0_walls a_2 a_2_xs a_2_ys a_2_cells a_0_waiting a_2_xs_places a_2_ys_places H.size v_0_waits f_0_walls v_2_spaces v_2_xs_count v_2_ys_count f_2_cells f1 f2 hb3) (cwV 1 hts (gl_V k_104 k_103 k_102 k_91 k_101) rfl rfl rfl (by decide +kernel) ⟨Nat.le_of_ble_eq_true rfl, Nat.le_of_ble_eq_true rfl⟩) ⟨PP_blind, va_recv hK hPc (ci := 2) (q0 := 0) rfl rfl, fun U hU hW => PP_at hK hN hPc hDc hU hW⟩ rfl rfl hl.1 rfl (lv_room (Nat.le_of_ble_eq_true rfl)) d_Fl_numberSpaces_2 ⟨Nat.zero_le _, Nat.zero_le _⟩) hP hD hS hA [0, 1, 8, 9, 11, 13] [2, 3, 4, 5, 6, 7, 10, 12] rfl rfl (by decide) (by decide) (fun H locs hP hD hS => ?_)
  have hP : va_P (dC, dI) vwCl (wl_Fl_numberSpaces a_0 a_0_walls a_0_waiting a_1 a_1_lowX a_1_lowY a_1_highX a_1_highY a_2 a_2_xs a_2_xs_places a_2_ys a_2_ys_places a_2_cells b_1_thickness b_1_doors b_1_doorFrom b_1_doorTo cI v_0_waits f1 f_0_waiting v_1_count f_1_lowX f_1_lowY f_1_highX f_1_highY v_2_spaces v_2_xs_count f_2_xs_places v_2_ys_count f_2_ys_places f2) H := hP.sub [8, 9, 0, 1, 2, 3, 4, 5, 10, 11, 6, 12, 7, 13] rfl
  have hD : va_D A (wl_Fl_numberSpaces a_0 a_0_walls a_0_waiting a_1 a_1_lowX a_1_lowY a_1_highX a_1_highY a_2 a_2_xs a_2_xs_places a_2_ys a_2_ys_places a_2_cells b_1_thickness b_1_doors b_1_doorFrom b_1_doorTo cI v_0_waits f1 f_0_waiting v_1_count f_1_lowX f_1_lowY f_1_highX f_1_highY v_2_spaces v_2_xs_count f_2_xs_places v_2_ys_count f_2_ys_places f2) := hD.sub [8, 9, 0, 1, 2, 3, 4, 5, 10, 11, 6, 12, 7, 13] (by decide) rfl
  refine lv_iconst (v := 0) hx hb d_Fl_numberSpaces_5 (by decide) ?_
  refine lv_istore_n (lv' := [(3, .int 0), (0, .ref a_0), (1, .ref a_1), (2, .ref a_2)]) hx hb d_Fl_numberSpaces_6 rfl hl (by decide) rfl (fun ls hl => ?_)
  have L7_7 : ∀ (n : Nat) (x4 : Int32) (f5 : Nat → Int32) (f6 : Nat → Int32), m_Fl_numberSpaces_L7 v_1_count f_1_lowX f_1_lowY f_1_highX f_1_highY v_2_xs_count f_2_xs_places v_2_ys_count f_2_ys_places n x4 f5 = some f6 → (∀ (H : Heap) (locs : List Loc) (ls : Array Slot), va_P (dC, dI) vwCl (wl_Fl_numberSpaces a_0 a_0_walls a_0_waiting a_1 a_1_lowX a_1_lowY a_1_highX a_1_highY a_2 a_2_xs a_2_xs_places a_2_ys a_2_ys_places a_2_cells b_1_thickness b_1_doors b_1_doorFrom b_1_doorTo cI v_0_waits f6 f_0_waiting v_1_count f_1_lowX f_1_lowY f_1_highX f_1_highY v_2_spaces v_2_xs_count f_2_xs_places v_2_ys_count f_2_ys_places f2) H → va_D A (wl_Fl_numberSpaces a_0 a_0_walls a_0_waiting a_1 a_1_lowX a_1_lowY a_1_highX a_1_highY a_2 a_2_xs a_2_xs_places a_2_ys a_2_ys_places a_2_cells b_1_thickness b_1_doors b_1_doorFrom b_1_doorTo cI v_0_waits f6 f_0_waiting v_1_count f_1_lowX f_1_lowY f_1_highX f_1_highY v_2_spaces v_2_xs_count f_2_xs_places v_2_ys_count f_2_ys_places f2) → va_S A s.heap H locs → lv_has ls 6 [(0, .ref a_0), (2, .ref a_2)] → W p l e rm_Fl_numberSpaces s m args below meth c H locs 0 0 Q (F0 m 28 ls [])) → ∀ (H : Heap) (locs : List Loc) (ls : Array Slot), va_P (dC, dI) vwCl (wl_Fl_numberSpaces a_0 a_0_walls a_0_waiting a_1 a_1_lowX a_1_lowY a_1_highX a_1_highY a_2 a_2_xs a_2_xs_places a_2_ys a_2_ys_places a_2_cells b_1_thickness b_1_doors b_1_doorFrom b_1_doorTo cI v_0_waits f5 f_0_waiting v_1_count f_1_lowX f_1_lowY f_1_highX f_1_highY v_2_spaces v_2_xs_count f_2_xs_places v_2_ys_count f_2_ys_places f2) H → va_D A (wl_Fl_numberSpaces a_0 a_0_walls a_0_waiting a_1 a_1_lowX a_1_lowY a_1_highX a_1_highY a_2 a_2_xs a_2_xs_places a_2_ys a_2_ys_places a_2_cells b_1_thickness b_1_doors b_1_doorFrom b_1_doorTo cI v_0_waits f5 f_0_waiting v_1_count f_1_lowX f_1_lowY f_1_highX f_1_highY v_2_spaces v_2_xs_count f_2_xs_places v_2_ys_count f_2_ys_places f2) → va_S A s.heap H locs → lv_has ls 6 [(0, .ref a_0), (1, .ref a_1), (2, .ref a_2), (3, .int x4)] → W p l e rm_Fl_numberSpaces s m args below meth c H locs 0 0 Q (F0 m 7 ls []) := by
    intro n
    induction n with
    | zero => intro x4 f5 f6 hm; simp [m_Fl_numberSpaces_L7] at hm
    | succ n ih =>
      intro x4 f5 f6 hm KE H locs ls hP hD hS hl
      rw [m_Fl_numberSpaces_L7] at hm
      refine lv_iload_n hx hb d_Fl_numberSpaces_7 rfl (lv_at hl 3 rfl) ?_
      refine lv_aload_n hx hb d_Fl_numberSpaces_8 rfl (lv_at hl 1 rfl) ?_
      refine va_get (D := (dC, dI)) (ci := 1) (v := .int v_1_count) (C := "SpaceCycles$Lines") (T := F_Li) (N := 9) hx hb hts (in_F i_Li) hown hK hP 3 rfl rfl 8 (by decide) (hts _ (in_c k_105)) (fun _ h9 => h9) rfl d_Fl_numberSpaces_9 ?_
      refine lv_icmp_ge (tgt := 28) hx hb d_Fl_numberSpaces_12 (by decide) (fun c8 => ?_) (fun c8 => ?_)
      · replace hm := if_t hm c8
        cases hm
        exact KE H locs ls hP hD hS (lv_sub hl [0, 2] rfl)
      · replace hm := if_f hm c8
        refine lv_aload_n hx hb d_Fl_numberSpaces_15 rfl (lv_at hl 0 rfl) ?_
        refine lv_aload_n hx hb d_Fl_numberSpaces_16 rfl (lv_at hl 1 rfl) ?_
        refine lv_iload_n hx hb d_Fl_numberSpaces_17 rfl (lv_at hl 3 rfl) ?_
        refine lv_aload_n hx hb d_Fl_numberSpaces_18 rfl (lv_at hl 2 rfl) ?_
        obtain ⟨f9, hb10, hm⟩ := bd1_e hm
        have hPc := hP.sub (ws' := (wl_Fl_raise a_0 a_0_walls a_1 a_1_lowX a_1_lowY a_1_highX a_1_highY a_2 a_2_xs a_2_xs_places a_2_ys a_2_ys_places a_0_waiting b_1_thickness b_1_doors b_1_doorFrom b_1_doorTo a_2_cells cI v_0_waits f5 v_1_count f_1_lowX f_1_lowY f_1_highX f_1_highY v_2_spaces v_2_xs_count f_2_xs_places v_2_ys_count f_2_ys_places)) [0, 1, 3, 4, 5, 6, 7, 8, 9, 10, 11, 12] rfl
        have hDc := hD.sub (ws' := (wl_Fl_raise a_0 a_0_walls a_1 a_1_lowX a_1_lowY a_1_highX a_1_highY a_2 a_2_xs a_2_xs_places a_2_ys a_2_ys_places a_0_waiting b_1_thickness b_1_doors b_1_doorFrom b_1_doorTo a_2_cells cI v_0_waits f5 v_1_count f_1_lowX f_1_lowY f_1_highX f_1_highY v_2_spaces v_2_xs_count f_2_xs_places v_2_ys_count f_2_ys_places)) [0, 1, 3, 4, 5, 6, 7, 8, 9, 10, 11, 12] (by decide) rfl
        refine cl_v (wc' := (wl_Fl_raise a_0 a_0_walls a_1 a_1_lowX a_1_lowY a_1_highX a_1_highY a_2 a_2_xs a_2_xs_places a_2_ys a_2_ys_places a_0_waiting b_1_thickness b_1_doors b_1_doorFrom b_1_doorTo a_2_cells cI v_0_waits f9 v_1_count f_1_lowX f_1_lowY f_1_highX f_1_highY v_2_spaces v_2_xs_count f_2_xs_places v_2_ys_count f_2_ys_places)) (va_runV (As := [.ref a_1, .int x4, .ref a_2]) (rest := []) ⟨hx, hb, hml, hown, hts⟩ (c_Fl_raise l dC dI (cI := cI) (cZ := cZ) (cJ := cJ) a_0 a_0_walls a_1 a_1_lowX a_1_lowY a_1_highX a_1_highY a_2 a_2_xs a_2_xs_places a_2_ys a_2_ys_places a_0_waiting b_1_thickness b_1_doors b_1_doorFrom b_1_doorTo a_2_cells H.size v_0_waits f5 v_1_count f_1_lowX f_1_lowY f_1_highX f_1_highY v_2_spaces v_2_xs_count f_2_xs_places v_2_ys_count f_2_ys_places x4 f9 hb10) (cwV 3 hts (gl_V k_109 k_108 k_107 k_91 k_106) rfl rfl rfl (by decide +kernel) ⟨Nat.le_of_ble_eq_true rfl, Nat.le_of_ble_eq_true rfl⟩) ⟨PP_blind, va_recv hK hPc (ci := 2) (q0 := 0) rfl rfl, fun U hU hW => PP_at hK hN hPc hDc hU hW⟩ rfl rfl hl.1 rfl (lv_room (Nat.le_of_ble_eq_true rfl)) d_Fl_numberSpaces_19 ⟨Nat.zero_le _, Nat.zero_le _⟩) hP hD hS hA [0, 1, 3, 4, 5, 6, 7, 8, 9, 10, 11, 12] [2, 13] rfl rfl (by decide) (by decide) (fun H locs hP hD hS => ?_)
        have hP : va_P (dC, dI) vwCl (wl_Fl_numberSpaces a_0 a_0_walls a_0_waiting a_1 a_1_lowX a_1_lowY a_1_highX a_1_highY a_2 a_2_xs a_2_xs_places a_2_ys a_2_ys_places a_2_cells b_1_thickness b_1_doors b_1_doorFrom b_1_doorTo cI v_0_waits f9 f_0_waiting v_1_count f_1_lowX f_1_lowY f_1_highX f_1_highY v_2_spaces v_2_xs_count f_2_xs_places v_2_ys_count f_2_ys_places f2) H := hP.sub [2, 3, 0, 4, 5, 6, 7, 8, 9, 10, 11, 12, 13, 1] rfl
        have hD : va_D A (wl_Fl_numberSpaces a_0 a_0_walls a_0_waiting a_1 a_1_lowX a_1_lowY a_1_highX a_1_highY a_2 a_2_xs a_2_xs_places a_2_ys a_2_ys_places a_2_cells b_1_thickness b_1_doors b_1_doorFrom b_1_doorTo cI v_0_waits f9 f_0_waiting v_1_count f_1_lowX f_1_lowY f_1_highX f_1_highY v_2_spaces v_2_xs_count f_2_xs_places v_2_ys_count f_2_ys_places f2) := hD.sub [2, 3, 0, 4, 5, 6, 7, 8, 9, 10, 11, 12, 13, 1] (by decide) rfl
        obtain ⟨x11, ex11⟩ : ∃ y : Int32, y = x4 + 1 := ⟨_, rfl⟩
        replace hm := lt_el hm ex11
        refine lv_iinc (v := x11) (lv' := [(3, .int x11), (0, .ref a_0), (1, .ref a_1), (2, .ref a_2)]) hx hb d_Fl_numberSpaces_22 hl (k := 3) rfl (by rw [ex11]; rfl) (by decide) rfl (fun ls hl => ?_)
        refine lv_goto (tgt := 7) hx hb d_Fl_numberSpaces_25 (by decide) ?_
        exact ih _ _ _ hm KE H locs ls hP hD hS (lv_sub hl [1, 2, 3, 0] rfl)
  obtain ⟨f6, hb12, hm⟩ := bd1_e hm
  refine L7_7 fu _ _ _ hb12 (fun H locs ls hP hD hS hl => ?_) H locs ls hP hD hS (lv_sub hl [1, 2, 3, 0] rfl)
  refine lv_aload_n hx hb d_Fl_numberSpaces_28 rfl (lv_at hl 0 rfl) ?_
  refine lv_aload_n hx hb d_Fl_numberSpaces_29 rfl (lv_at hl 1 rfl) ?_
  refine lv_iconst (v := 0) hx hb d_Fl_numberSpaces_30 (by decide) ?_
  refine lv_iconst (v := (-1)) hx hb d_Fl_numberSpaces_31 (by decide) ?_
  obtain ⟨x13, f14, f15, hb16, hm⟩ := bd3_e hm
  have hPc := hP.sub (ws' := (wl_Fl_spread a_0 a_0_walls a_0_waiting a_2 a_2_xs a_2_ys a_2_cells a_2_xs_places a_2_ys_places cI v_0_waits f6 f_0_waiting v_2_spaces v_2_xs_count v_2_ys_count f2)) [0, 1, 2, 8, 9, 11, 13] rfl
  have hDc := hD.sub (ws' := (wl_Fl_spread a_0 a_0_walls a_0_waiting a_2 a_2_xs a_2_ys a_2_cells a_2_xs_places a_2_ys_places cI v_0_waits f6 f_0_waiting v_2_spaces v_2_xs_count v_2_ys_count f2)) [0, 1, 2, 8, 9, 11, 13] (by decide) rfl
  refine cl_v (wc' := (wl_Fl_spread a_0 a_0_walls a_0_waiting a_2 a_2_xs a_2_ys a_2_cells a_2_xs_places a_2_ys_places cI x13 f6 f14 v_2_spaces v_2_xs_count v_2_ys_count f15)) (va_runV (As := [.ref a_2, .int 0, .int (-1)]) (rest := []) ⟨hx, hb, hml, hown, hts⟩ (c_Fl_spread l dC dI (cI := cI) (cZ := cZ) (cJ := cJ) a_0 a_0_walls a_0_waiting a_2 a_2_xs a_2_ys a_2_cells a_2_xs_places a_2_ys_places H.size v_0_waits f6 f_0_waiting v_2_spaces v_2_xs_count v_2_ys_count f2 0 (-1) x13 f14 f15 hb16) (cwV 3 hts (gl_V k_113 k_112 k_111 k_91 k_110) rfl rfl rfl (by decide +kernel) ⟨Nat.le_of_ble_eq_true rfl, Nat.le_of_ble_eq_true rfl⟩) ⟨PP_blind, va_recv hK hPc (ci := 2) (q0 := 0) rfl rfl, fun U hU hW => PP_at hK hN hPc hDc hU hW⟩ rfl rfl hl.1 rfl (lv_room (Nat.le_of_ble_eq_true rfl)) d_Fl_numberSpaces_32 ⟨Nat.zero_le _, Nat.zero_le _⟩) hP hD hS hA [0, 1, 2, 8, 9, 11, 13] [3, 4, 5, 6, 7, 10, 12] rfl rfl (by decide) (by decide) (fun H locs hP hD hS => ?_)
  have hP : va_P (dC, dI) vwCl (wl_Fl_numberSpaces a_0 a_0_walls a_0_waiting a_1 a_1_lowX a_1_lowY a_1_highX a_1_highY a_2 a_2_xs a_2_xs_places a_2_ys a_2_ys_places a_2_cells b_1_thickness b_1_doors b_1_doorFrom b_1_doorTo cI x13 f6 f14 v_1_count f_1_lowX f_1_lowY f_1_highX f_1_highY v_2_spaces v_2_xs_count f_2_xs_places v_2_ys_count f_2_ys_places f15) H := hP.sub [7, 8, 9, 0, 1, 2, 3, 4, 10, 11, 5, 12, 6, 13] rfl
  have hD : va_D A (wl_Fl_numberSpaces a_0 a_0_walls a_0_waiting a_1 a_1_lowX a_1_lowY a_1_highX a_1_highY a_2 a_2_xs a_2_xs_places a_2_ys a_2_ys_places a_2_cells b_1_thickness b_1_doors b_1_doorFrom b_1_doorTo cI x13 f6 f14 v_1_count f_1_lowX f_1_lowY f_1_highX f_1_highY v_2_spaces v_2_xs_count f_2_xs_places v_2_ys_count f_2_ys_places f15) := hD.sub [7, 8, 9, 0, 1, 2, 3, 4, 10, 11, 5, 12, 6, 13] (by decide) rfl
  refine lv_aload_n hx hb d_Fl_numberSpaces_35 rfl (lv_at hl 1 rfl) ?_
  refine lv_iconst (v := 0) hx hb d_Fl_numberSpaces_36 (by decide) ?_
  refine va_put (D := (dC, dI)) (ci := 8) (v := .int 0) (ty := .int) (C := "SpaceCycles$Grid") (T := F_Gr) (N := 4) hx hb hts (in_F i_Gr) t_Gr t_Gr_ok n_Gr hown hK hP hD hS 8 rfl rfl 3 (by decide) (hts _ (in_c k_114)) (fun _ h9 => h9) rfl (by decide +kernel) rfl rfl (Nat.le_of_ble_eq_true rfl) d_Fl_numberSpaces_37 (fun H locs hP hD hS => ?_)
  have hP : va_P (dC, dI) vwCl (wl_Fl_numberSpaces a_0 a_0_walls a_0_waiting a_1 a_1_lowX a_1_lowY a_1_highX a_1_highY a_2 a_2_xs a_2_xs_places a_2_ys a_2_ys_places a_2_cells b_1_thickness b_1_doors b_1_doorFrom b_1_doorTo cI x13 f6 f14 v_1_count f_1_lowX f_1_lowY f_1_highX f_1_highY 0 v_2_xs_count f_2_xs_places v_2_ys_count f_2_ys_places f15) H := hP
  have hD : va_D A (wl_Fl_numberSpaces a_0 a_0_walls a_0_waiting a_1 a_1_lowX a_1_lowY a_1_highX a_1_highY a_2 a_2_xs a_2_xs_places a_2_ys a_2_ys_places a_2_cells b_1_thickness b_1_doors b_1_doorFrom b_1_doorTo cI x13 f6 f14 v_1_count f_1_lowX f_1_lowY f_1_highX f_1_highY 0 v_2_xs_count f_2_xs_places v_2_ys_count f_2_ys_places f15) := hD
  refine lv_iconst (v := 1) hx hb d_Fl_numberSpaces_40 (by decide) ?_
  refine lv_istore_n (lv' := [(3, .int 1), (0, .ref a_0), (2, .ref a_2)]) hx hb d_Fl_numberSpaces_41 rfl hl (by decide) rfl (fun ls hl => ?_)
  have L42_26 : ∀ (n : Nat) (x17 : Int32) (x18 : Int32) (f19 : Nat → Int32) (x20 : Int32) (f21 : Nat → Int32) (x22 : Int32) (f23 : Nat → Int32) (x24 : Int32) (f25 : Nat → Int32), m_Fl_numberSpaces_L42 f6 v_2_xs_count v_2_ys_count n x17 x18 f19 x20 f21 = some (x22, f23, x24, f25) → (∀ (H : Heap) (locs : List Loc) (ls : Array Slot), va_P (dC, dI) vwCl (wl_Fl_numberSpaces a_0 a_0_walls a_0_waiting a_1 a_1_lowX a_1_lowY a_1_highX a_1_highY a_2 a_2_xs a_2_xs_places a_2_ys a_2_ys_places a_2_cells b_1_thickness b_1_doors b_1_doorFrom b_1_doorTo cI x22 f6 f23 v_1_count f_1_lowX f_1_lowY f_1_highX f_1_highY x24 v_2_xs_count f_2_xs_places v_2_ys_count f_2_ys_places f25) H → va_D A (wl_Fl_numberSpaces a_0 a_0_walls a_0_waiting a_1 a_1_lowX a_1_lowY a_1_highX a_1_highY a_2 a_2_xs a_2_xs_places a_2_ys a_2_ys_places a_2_cells b_1_thickness b_1_doors b_1_doorFrom b_1_doorTo cI x22 f6 f23 v_1_count f_1_lowX f_1_lowY f_1_highX f_1_highY x24 v_2_xs_count f_2_xs_places v_2_ys_count f_2_ys_places f25) → va_S A s.heap H locs → lv_has ls 6 [] → W p l e rm_Fl_numberSpaces s m args below meth c H locs 0 0 Q (F0 m 130 ls [])) → ∀ (H : Heap) (locs : List Loc) (ls : Array Slot), va_P (dC, dI) vwCl (wl_Fl_numberSpaces a_0 a_0_walls a_0_waiting a_1 a_1_lowX a_1_lowY a_1_highX a_1_highY a_2 a_2_xs a_2_xs_places a_2_ys a_2_ys_places a_2_cells b_1_thickness b_1_doors b_1_doorFrom b_1_doorTo cI x18 f6 f19 v_1_count f_1_lowX f_1_lowY f_1_highX f_1_highY x20 v_2_xs_count f_2_xs_places v_2_ys_count f_2_ys_places f21) H → va_D A (wl_Fl_numberSpaces a_0 a_0_walls a_0_waiting a_1 a_1_lowX a_1_lowY a_1_highX a_1_highY a_2 a_2_xs a_2_xs_places a_2_ys a_2_ys_places a_2_cells b_1_thickness b_1_doors b_1_doorFrom b_1_doorTo cI x18 f6 f19 v_1_count f_1_lowX f_1_lowY f_1_highX f_1_highY x20 v_2_xs_count f_2_xs_places v_2_ys_count f_2_ys_places f21) → va_S A s.heap H locs → lv_has ls 6 [(0, .ref a_0), (2, .ref a_2), (3, .int x17)] → W p l e rm_Fl_numberSpaces s m args below meth c H locs 0 0 Q (F0 m 42 ls []) := by
    intro n
    induction n with
    | zero => intro x17 x18 f19 x20 f21 x22 f23 x24 f25 hm; simp [m_Fl_numberSpaces_L42] at hm
    | succ n ih =>
      intro x17 x18 f19 x20 f21 x22 f23 x24 f25 hm KE H locs ls hP hD hS hl
      rw [m_Fl_numberSpaces_L42] at hm
      refine lv_iload_n hx hb d_Fl_numberSpaces_42 rfl (lv_at hl 2 rfl) ?_
      refine lv_aload_n hx hb d_Fl_numberSpaces_43 rfl (lv_at hl 1 rfl) ?_
      refine va_get (D := (dC, dI)) (ci := 8) (v := .ref a_2_xs) (C := "SpaceCycles$Grid") (T := F_Gr) (N := 4) hx hb hts (in_F i_Gr) hown hK hP 8 rfl rfl 0 (by decide) (hts _ (in_c k_79)) (fun _ h9 => h9) rfl d_Fl_numberSpaces_44 ?_
      refine va_get (D := (dC, dI)) (ci := 9) (v := .int v_2_xs_count) (C := "SpaceCycles$Cuts") (T := F_Cu) (N := 2) hx hb hts (in_F i_Cu) hown hK hP 9 rfl rfl 1 (by decide) (hts _ (in_c k_80)) (fun _ h9 => h9) rfl d_Fl_numberSpaces_47 ?_
      refine lv_icmp_ge (tgt := 130) hx hb d_Fl_numberSpaces_50 (by decide) (fun c27 => ?_) (fun c27 => ?_)
      · replace hm := if_t hm c27
        cases hm
        exact KE H locs ls hP hD hS (lv_sub hl [] rfl)
      · replace hm := if_f hm c27
        refine lv_iconst (v := 1) hx hb d_Fl_numberSpaces_53 (by decide) ?_
        refine lv_istore (lv' := [(4, .int 1), (0, .ref a_0), (2, .ref a_2), (3, .int x17)]) hx hb d_Fl_numberSpaces_54 hl (by decide) rfl (fun ls hl => ?_)
        have L56_37 : ∀ (n : Nat) (x28 : Int32) (x29 : Int32) (f30 : Nat → Int32) (x31 : Int32) (f32 : Nat → Int32) (x33 : Int32) (f34 : Nat → Int32) (x35 : Int32) (f36 : Nat → Int32), m_Fl_numberSpaces_L56 x17 f6 v_2_xs_count v_2_ys_count n x28 x29 f30 x31 f32 = some (x33, f34, x35, f36) → (∀ (H : Heap) (locs : List Loc) (ls : Array Slot), va_P (dC, dI) vwCl (wl_Fl_numberSpaces a_0 a_0_walls a_0_waiting a_1 a_1_lowX a_1_lowY a_1_highX a_1_highY a_2 a_2_xs a_2_xs_places a_2_ys a_2_ys_places a_2_cells b_1_thickness b_1_doors b_1_doorFrom b_1_doorTo cI x33 f6 f34 v_1_count f_1_lowX f_1_lowY f_1_highX f_1_highY x35 v_2_xs_count f_2_xs_places v_2_ys_count f_2_ys_places f36) H → va_D A (wl_Fl_numberSpaces a_0 a_0_walls a_0_waiting a_1 a_1_lowX a_1_lowY a_1_highX a_1_highY a_2 a_2_xs a_2_xs_places a_2_ys a_2_ys_places a_2_cells b_1_thickness b_1_doors b_1_doorFrom b_1_doorTo cI x33 f6 f34 v_1_count f_1_lowX f_1_lowY f_1_highX f_1_highY x35 v_2_xs_count f_2_xs_places v_2_ys_count f_2_ys_places f36) → va_S A s.heap H locs → lv_has ls 6 [(0, .ref a_0), (2, .ref a_2), (3, .int x17)] → W p l e rm_Fl_numberSpaces s m args below meth c H locs 0 0 Q (F0 m 124 ls [])) → ∀ (H : Heap) (locs : List Loc) (ls : Array Slot), va_P (dC, dI) vwCl (wl_Fl_numberSpaces a_0 a_0_walls a_0_waiting a_1 a_1_lowX a_1_lowY a_1_highX a_1_highY a_2 a_2_xs a_2_xs_places a_2_ys a_2_ys_places a_2_cells b_1_thickness b_1_doors b_1_doorFrom b_1_doorTo cI x29 f6 f30 v_1_count f_1_lowX f_1_lowY f_1_highX f_1_highY x31 v_2_xs_count f_2_xs_places v_2_ys_count f_2_ys_places f32) H → va_D A (wl_Fl_numberSpaces a_0 a_0_walls a_0_waiting a_1 a_1_lowX a_1_lowY a_1_highX a_1_highY a_2 a_2_xs a_2_xs_places a_2_ys a_2_ys_places a_2_cells b_1_thickness b_1_doors b_1_doorFrom b_1_doorTo cI x29 f6 f30 v_1_count f_1_lowX f_1_lowY f_1_highX f_1_highY x31 v_2_xs_count f_2_xs_places v_2_ys_count f_2_ys_places f32) → va_S A s.heap H locs → lv_has ls 6 [(0, .ref a_0), (2, .ref a_2), (3, .int x17), (4, .int x28)] → W p l e rm_Fl_numberSpaces s m args below meth c H locs 0 0 Q (F0 m 56 ls []) := by
          intro n
          induction n with
          | zero => intro x28 x29 f30 x31 f32 x33 f34 x35 f36 hm; simp [m_Fl_numberSpaces_L56] at hm
          | succ n ih =>
            intro x28 x29 f30 x31 f32 x33 f34 x35 f36 hm KE H locs ls hP hD hS hl
            rw [m_Fl_numberSpaces_L56] at hm
            refine lv_iload hx hb d_Fl_numberSpaces_56 (lv_at hl 3 rfl) ?_
            refine lv_aload_n hx hb d_Fl_numberSpaces_58 rfl (lv_at hl 1 rfl) ?_
            refine va_get (D := (dC, dI)) (ci := 8) (v := .ref a_2_ys) (C := "SpaceCycles$Grid") (T := F_Gr) (N := 4) hx hb hts (in_F i_Gr) hown hK hP 8 rfl rfl 1 (by decide) (hts _ (in_c k_82)) (fun _ h9 => h9) rfl d_Fl_numberSpaces_59 ?_
            refine va_get (D := (dC, dI)) (ci := 9) (v := .int v_2_ys_count) (C := "SpaceCycles$Cuts") (T := F_Cu) (N := 2) hx hb hts (in_F i_Cu) hown hK hP 11 rfl rfl 1 (by decide) (hts _ (in_c k_80)) (fun _ h9 => h9) rfl d_Fl_numberSpaces_62 ?_
            refine lv_icmp_ge (tgt := 124) hx hb d_Fl_numberSpaces_65 (by decide) (fun c38 => ?_) (fun c38 => ?_)
            · replace hm := if_t hm c38
              cases hm
              exact KE H locs ls hP hD hS (lv_sub hl [0, 1, 2] rfl)
            · replace hm := if_f hm c38
              refine lv_iload_n hx hb d_Fl_numberSpaces_68 rfl (lv_at hl 2 rfl) ?_
              refine lv_iload hx hb d_Fl_numberSpaces_69 (lv_at hl 3 rfl) ?_
              obtain ⟨r39, hb40, hm⟩ := bd1_e hm
              have hPc := hP.sub (ws' := (wl_Gr_cell)) [] rfl
              have hDc := hD.sub (ws' := (wl_Gr_cell)) [] (by decide) rfl
              refine cl_i (wc' := (wl_Gr_cell)) (va_runS (As := [.int x17, .int x28]) (rest := []) ⟨hx, hb, hml, hown, hts⟩ (c_Gr_cell l dC dI (cI := cI) (cZ := cZ) (cJ := cJ) H.size x17 x28 r39 hb40) (va_cwS 2 hts (gl_S k_81 k_55 k_56 k_54) rfl rfl rfl (by decide +kernel) ⟨Nat.le_of_ble_eq_true rfl, Nat.le_of_ble_eq_true rfl⟩) ⟨PP_blind, fun U hU hW => PP_at hK hN hPc hDc hU hW⟩ rfl rfl hl.1 rfl (lv_room (Nat.le_of_ble_eq_true rfl)) d_Fl_numberSpaces_71 ⟨Nat.zero_le _, Nat.zero_le _⟩) hP hD hS hA [] [0, 1, 2, 3, 4, 5, 6, 7, 8, 9, 10, 11, 12, 13] rfl rfl (by decide) (by decide) (fun H locs hP hD hS => ?_)
              have hP : va_P (dC, dI) vwCl (wl_Fl_numberSpaces a_0 a_0_walls a_0_waiting a_1 a_1_lowX a_1_lowY a_1_highX a_1_highY a_2 a_2_xs a_2_xs_places a_2_ys a_2_ys_places a_2_cells b_1_thickness b_1_doors b_1_doorFrom b_1_doorTo cI x29 f6 f30 v_1_count f_1_lowX f_1_lowY f_1_highX f_1_highY x31 v_2_xs_count f_2_xs_places v_2_ys_count f_2_ys_places f32) H := hP.sub [0, 1, 2, 3, 4, 5, 6, 7, 8, 9, 10, 11, 12, 13] rfl
              have hD : va_D A (wl_Fl_numberSpaces a_0 a_0_walls a_0_waiting a_1 a_1_lowX a_1_lowY a_1_highX a_1_highY a_2 a_2_xs a_2_xs_places a_2_ys a_2_ys_places a_2_cells b_1_thickness b_1_doors b_1_doorFrom b_1_doorTo cI x29 f6 f30 v_1_count f_1_lowX f_1_lowY f_1_highX f_1_highY x31 v_2_xs_count f_2_xs_places v_2_ys_count f_2_ys_places f32) := hD.sub [0, 1, 2, 3, 4, 5, 6, 7, 8, 9, 10, 11, 12, 13] (by decide) rfl
              refine lv_istore (lv' := [(5, .int r39), (0, .ref a_0), (2, .ref a_2), (3, .int x17), (4, .int x28)]) hx hb d_Fl_numberSpaces_74 hl (by decide) rfl (fun ls hl => ?_)
              refine lv_aload_n hx hb d_Fl_numberSpaces_76 rfl (lv_at hl 2 rfl) ?_
              refine va_get (D := (dC, dI)) (ci := 8) (v := .ref a_2_cells) (C := "SpaceCycles$Grid") (T := F_Gr) (N := 4) hx hb hts (in_F i_Gr) hown hK hP 8 rfl rfl 2 (by decide) (hts _ (in_c k_83)) (fun _ h9 => h9) rfl d_Fl_numberSpaces_77 ?_
              refine lv_iload hx hb d_Fl_numberSpaces_80 (lv_at hl 0 rfl) ?_
              obtain ⟨hi41, hm⟩ := gI_e hm
              refine va_iald hx hb hK hP 13 0 rfl rfl hi41 d_Fl_numberSpaces_82 ?_
              refine lv_bipush (v := (-2)) hx hb d_Fl_numberSpaces_83 (by decide) ?_
              obtain ⟨x45, f46, x47, f48, hb43, hm⟩ := bd4_e hm
              have K42 : ∀ (H : Heap) (locs : List Loc) (ls : Array Slot), va_P (dC, dI) vwCl (wl_Fl_numberSpaces a_0 a_0_walls a_0_waiting a_1 a_1_lowX a_1_lowY a_1_highX a_1_highY a_2 a_2_xs a_2_xs_places a_2_ys a_2_ys_places a_2_cells b_1_thickness b_1_doors b_1_doorFrom b_1_doorTo cI x45 f6 f46 v_1_count f_1_lowX f_1_lowY f_1_highX f_1_highY x47 v_2_xs_count f_2_xs_places v_2_ys_count f_2_ys_places f48) H → va_D A (wl_Fl_numberSpaces a_0 a_0_walls a_0_waiting a_1 a_1_lowX a_1_lowY a_1_highX a_1_highY a_2 a_2_xs a_2_xs_places a_2_ys a_2_ys_places a_2_cells b_1_thickness b_1_doors b_1_doorFrom b_1_doorTo cI x45 f6 f46 v_1_count f_1_lowX f_1_lowY f_1_highX f_1_highY x47 v_2_xs_count f_2_xs_places v_2_ys_count f_2_ys_places f48) → va_S A s.heap H locs → lv_has ls 6 [(0, .ref a_0), (2, .ref a_2), (3, .int x17), (4, .int x28)] → W p l e rm_Fl_numberSpaces s m args below meth c H locs 0 0 Q (F0 m 118 ls []) := by
                intro H locs ls hP hD hS hl
                obtain ⟨x56, ex56⟩ : ∃ y : Int32, y = x28 + 1 := ⟨_, rfl⟩
                replace hm := lt_el hm ex56
                refine lv_iinc (v := x56) (lv' := [(4, .int x56), (0, .ref a_0), (2, .ref a_2), (3, .int x17)]) hx hb d_Fl_numberSpaces_118 hl (k := 3) rfl (by rw [ex56]; rfl) (by decide) rfl (fun ls hl => ?_)
                refine lv_goto (tgt := 56) hx hb d_Fl_numberSpaces_121 (by decide) ?_
                exact ih _ _ _ _ _ _ _ _ _ hm KE H locs ls hP hD hS (lv_sub hl [1, 2, 3, 0] rfl)
              replace hm := hb43
              refine lv_icmp_ne (tgt := 118) hx hb d_Fl_numberSpaces_85 (by decide) (fun c49 => ?_) (fun c49 => ?_)
              · replace hm := if_f hm c49
                cases hm
                exact K42 H locs ls hP hD hS (lv_sub hl [1, 2, 3, 4] rfl)
              · replace hm := if_t hm c49
                refine lv_aload_n hx hb d_Fl_numberSpaces_88 rfl (lv_at hl 2 rfl) ?_
                refine va_get (D := (dC, dI)) (ci := 8) (v := .int x31) (C := "SpaceCycles$Grid") (T := F_Gr) (N := 4) hx hb hts (in_F i_Gr) hown hK hP 8 rfl rfl 3 (by decide) (hts _ (in_c k_114)) (fun _ h9 => h9) rfl d_Fl_numberSpaces_89 ?_
                refine lv_bipush (v := 81) hx hb d_Fl_numberSpaces_92 (by decide) ?_
                refine lv_icmp_ge (tgt := 118) hx hb d_Fl_numberSpaces_94 (by decide) (fun c50 => ?_) (fun c50 => ?_)
                · replace hm := if_t hm c50
                  cases hm
                  exact K42 H locs ls hP hD hS (lv_sub hl [1, 2, 3, 4] rfl)
                · replace hm := if_f hm c50
                  refine lv_aload_n hx hb d_Fl_numberSpaces_97 rfl (lv_at hl 1 rfl) ?_
                  refine lv_aload_n hx hb d_Fl_numberSpaces_98 rfl (lv_at hl 2 rfl) ?_
                  refine lv_iload hx hb d_Fl_numberSpaces_99 (lv_at hl 0 rfl) ?_
                  refine lv_aload_n hx hb d_Fl_numberSpaces_101 rfl (lv_at hl 2 rfl) ?_
                  refine va_get (D := (dC, dI)) (ci := 8) (v := .int x31) (C := "SpaceCycles$Grid") (T := F_Gr) (N := 4) hx hb hts (in_F i_Gr) hown hK hP 8 rfl rfl 3 (by decide) (hts _ (in_c k_114)) (fun _ h9 => h9) rfl d_Fl_numberSpaces_102 ?_
                  obtain ⟨x51, f52, f53, hb54, hm⟩ := bd3_e hm
                  have hPc := hP.sub (ws' := (wl_Fl_spread a_0 a_0_walls a_0_waiting a_2 a_2_xs a_2_ys a_2_cells a_2_xs_places a_2_ys_places cI x29 f6 f30 x31 v_2_xs_count v_2_ys_count f32)) [0, 1, 2, 8, 9, 11, 13] rfl
                  have hDc := hD.sub (ws' := (wl_Fl_spread a_0 a_0_walls a_0_waiting a_2 a_2_xs a_2_ys a_2_cells a_2_xs_places a_2_ys_places cI x29 f6 f30 x31 v_2_xs_count v_2_ys_count f32)) [0, 1, 2, 8, 9, 11, 13] (by decide) rfl
                  refine cl_v (wc' := (wl_Fl_spread a_0 a_0_walls a_0_waiting a_2 a_2_xs a_2_ys a_2_cells a_2_xs_places a_2_ys_places cI x51 f6 f52 x31 v_2_xs_count v_2_ys_count f53)) (va_runV (As := [.ref a_2, .int r39, .int x31]) (rest := []) ⟨hx, hb, hml, hown, hts⟩ (c_Fl_spread l dC dI (cI := cI) (cZ := cZ) (cJ := cJ) a_0 a_0_walls a_0_waiting a_2 a_2_xs a_2_ys a_2_cells a_2_xs_places a_2_ys_places H.size x29 f6 f30 x31 v_2_xs_count v_2_ys_count f32 r39 x31 x51 f52 f53 hb54) (cwV 3 hts (gl_V k_113 k_112 k_111 k_91 k_110) rfl rfl rfl (by decide +kernel) ⟨Nat.le_of_ble_eq_true rfl, Nat.le_of_ble_eq_true rfl⟩) ⟨PP_blind, va_recv hK hPc (ci := 2) (q0 := 0) rfl rfl, fun U hU hW => PP_at hK hN hPc hDc hU hW⟩ rfl rfl hl.1 rfl (lv_room (Nat.le_of_ble_eq_true rfl)) d_Fl_numberSpaces_105 ⟨Nat.zero_le _, Nat.zero_le _⟩) hP hD hS hA [0, 1, 2, 8, 9, 11, 13] [3, 4, 5, 6, 7, 10, 12] rfl rfl (by decide) (by decide) (fun H locs hP hD hS => ?_)
                  have hP : va_P (dC, dI) vwCl (wl_Fl_numberSpaces a_0 a_0_walls a_0_waiting a_1 a_1_lowX a_1_lowY a_1_highX a_1_highY a_2 a_2_xs a_2_xs_places a_2_ys a_2_ys_places a_2_cells b_1_thickness b_1_doors b_1_doorFrom b_1_doorTo cI x51 f6 f52 v_1_count f_1_lowX f_1_lowY f_1_highX f_1_highY x31 v_2_xs_count f_2_xs_places v_2_ys_count f_2_ys_places f53) H := hP.sub [7, 8, 9, 0, 1, 2, 3, 4, 10, 11, 5, 12, 6, 13] rfl
                  have hD : va_D A (wl_Fl_numberSpaces a_0 a_0_walls a_0_waiting a_1 a_1_lowX a_1_lowY a_1_highX a_1_highY a_2 a_2_xs a_2_xs_places a_2_ys a_2_ys_places a_2_cells b_1_thickness b_1_doors b_1_doorFrom b_1_doorTo cI x51 f6 f52 v_1_count f_1_lowX f_1_lowY f_1_highX f_1_highY x31 v_2_xs_count f_2_xs_places v_2_ys_count f_2_ys_places f53) := hD.sub [7, 8, 9, 0, 1, 2, 3, 4, 10, 11, 5, 12, 6, 13] (by decide) rfl
                  refine lv_aload_n hx hb d_Fl_numberSpaces_108 rfl (lv_at hl 2 rfl) ?_
                  refine lv_dup hx hb d_Fl_numberSpaces_109 rfl ?_
                  refine va_get (D := (dC, dI)) (ci := 8) (v := .int x31) (C := "SpaceCycles$Grid") (T := F_Gr) (N := 4) hx hb hts (in_F i_Gr) hown hK hP 8 rfl rfl 3 (by decide) (hts _ (in_c k_114)) (fun _ h9 => h9) rfl d_Fl_numberSpaces_110 ?_
                  refine lv_iconst (v := 1) hx hb d_Fl_numberSpaces_113 (by decide) ?_
                  refine lv_iadd hx hb d_Fl_numberSpaces_114 ?_
                  refine lv_topi (fun x55 ex55 => ?_)
                  replace hm := lt_el hm ex55
                  refine va_put (D := (dC, dI)) (ci := 8) (v := .int x55) (ty := .int) (C := "SpaceCycles$Grid") (T := F_Gr) (N := 4) hx hb hts (in_F i_Gr) t_Gr t_Gr_ok n_Gr hown hK hP hD hS 8 rfl rfl 3 (by decide) (hts _ (in_c k_114)) (fun _ h9 => h9) rfl (by decide +kernel) rfl rfl (Nat.le_of_ble_eq_true rfl) d_Fl_numberSpaces_115 (fun H locs hP hD hS => ?_)
                  have hP : va_P (dC, dI) vwCl (wl_Fl_numberSpaces a_0 a_0_walls a_0_waiting a_1 a_1_lowX a_1_lowY a_1_highX a_1_highY a_2 a_2_xs a_2_xs_places a_2_ys a_2_ys_places a_2_cells b_1_thickness b_1_doors b_1_doorFrom b_1_doorTo cI x51 f6 f52 v_1_count f_1_lowX f_1_lowY f_1_highX f_1_highY x55 v_2_xs_count f_2_xs_places v_2_ys_count f_2_ys_places f53) H := hP
                  have hD : va_D A (wl_Fl_numberSpaces a_0 a_0_walls a_0_waiting a_1 a_1_lowX a_1_lowY a_1_highX a_1_highY a_2 a_2_xs a_2_xs_places a_2_ys a_2_ys_places a_2_cells b_1_thickness b_1_doors b_1_doorFrom b_1_doorTo cI x51 f6 f52 v_1_count f_1_lowX f_1_lowY f_1_highX f_1_highY x55 v_2_xs_count f_2_xs_places v_2_ys_count f_2_ys_places f53) := hD
                  cases hm
                  exact K42 H locs ls hP hD hS (lv_sub hl [1, 2, 3, 4] rfl)
        obtain ⟨x33, f34, x35, f36, hb57, hm⟩ := bd4_e hm
        refine L56_37 fu _ _ _ _ _ _ _ _ _ hb57 (fun H locs ls hP hD hS hl => ?_) H locs ls hP hD hS (lv_sub hl [1, 2, 3, 0] rfl)
        obtain ⟨x58, ex58⟩ : ∃ y : Int32, y = x17 + 1 := ⟨_, rfl⟩
        replace hm := lt_el hm ex58
        refine lv_iinc (v := x58) (lv' := [(3, .int x58), (0, .ref a_0), (2, .ref a_2)]) hx hb d_Fl_numberSpaces_124 hl (k := 2) rfl (by rw [ex58]; rfl) (by decide) rfl (fun ls hl => ?_)
        refine lv_goto (tgt := 42) hx hb d_Fl_numberSpaces_127 (by decide) ?_
        exact ih _ _ _ _ _ _ _ _ _ hm KE H locs ls hP hD hS (lv_sub hl [1, 2, 0] rfl)
  obtain ⟨x22, f23, x24, f25, hb59, hm⟩ := bd4_e hm
  refine L42_26 fu _ _ _ _ _ _ _ _ _ hb59 (fun H locs ls hP hD hS hl => ?_) H locs ls hP hD hS (lv_sub hl [1, 2, 0] rfl)
  cases hm
  exact hret _ H locs ls d_Fl_numberSpaces_130 hP hD hS
set_option maxHeartbeats 4000000 in
set_option maxRecDepth 100000 in
theorem c_Fl_numberSpaces (l : Launch) (dC : Nat → ClassId) (dI : Nat → Nat → Nat) {cI cZ cJ : ClassId} (a_0 a_0_walls a_0_waiting a_1 a_1_lowX a_1_lowY a_1_highX a_1_highY a_2 a_2_xs a_2_xs_places a_2_ys a_2_ys_places a_2_cells b_1_thickness b_1_doors b_1_doorFrom b_1_doorTo : Nat) (sz : Nat) (v_0_waits : Int32) (f_0_walls : Nat → Int32) (f_0_waiting : Nat → Int32) (v_1_count : Int32) (f_1_lowX : Nat → Int32) (f_1_lowY : Nat → Int32) (f_1_highX : Nat → Int32) (f_1_highY : Nat → Int32) (v_2_spaces : Int32) (v_2_xs_count : Int32) (f_2_xs_places : Nat → Int32) (v_2_ys_count : Int32) (f_2_ys_places : Nat → Int32) (f_2_cells : Nat → Int32)  (ov_0_waits : Int32) (of_0_walls : Nat → Int32) (of_0_waiting : Nat → Int32) (ov_2_spaces : Int32) (of_2_cells : Nat → Int32) (hm : m_Fl_numberSpaces v_0_waits f_0_walls f_0_waiting v_1_count f_1_lowX f_1_lowY f_1_highX f_1_highY v_2_spaces v_2_xs_count f_2_xs_places v_2_ys_count f_2_ys_places f_2_cells = some (ov_0_waits, of_0_walls, of_0_waiting, ov_2_spaces, of_2_cells)) : Met l y_Fl_numberSpaces w_Fl_numberSpaces rm_Fl_numberSpaces (PP dC dI [(cI, .int), (cZ, .boolean), (cJ, .long)] [.ref a_0, .ref a_1, .ref a_2] sz (wl_Fl_numberSpaces a_0 a_0_walls a_0_waiting a_1 a_1_lowX a_1_lowY a_1_highX a_1_highY a_2 a_2_xs a_2_xs_places a_2_ys a_2_ys_places a_2_cells b_1_thickness b_1_doors b_1_doorFrom b_1_doorTo cI v_0_waits f_0_walls f_0_waiting v_1_count f_1_lowX f_1_lowY f_1_highX f_1_highY v_2_spaces v_2_xs_count f_2_xs_places v_2_ys_count f_2_ys_places f_2_cells)) (QV dC dI [(cI, .int), (cZ, .boolean), (cJ, .long)] sz (wl_Fl_numberSpaces a_0 a_0_walls a_0_waiting a_1 a_1_lowX a_1_lowY a_1_highX a_1_highY a_2 a_2_xs a_2_xs_places a_2_ys a_2_ys_places a_2_cells b_1_thickness b_1_doors b_1_doorFrom b_1_doorTo cI v_0_waits f_0_walls f_0_waiting v_1_count f_1_lowX f_1_lowY f_1_highX f_1_highY v_2_spaces v_2_xs_count f_2_xs_places v_2_ys_count f_2_ys_places f_2_cells) (wl_Fl_numberSpaces a_0 a_0_walls a_0_waiting a_1 a_1_lowX a_1_lowY a_1_highX a_1_highY a_2 a_2_xs a_2_xs_places a_2_ys a_2_ys_places a_2_cells b_1_thickness b_1_doors b_1_doorFrom b_1_doorTo cI ov_0_waits of_0_walls of_0_waiting v_1_count f_1_lowX f_1_lowY f_1_highX f_1_highY ov_2_spaces v_2_xs_count f_2_xs_places v_2_ys_count f_2_ys_places of_2_cells)) 0 0 (va_A (wl_Fl_numberSpaces a_0 a_0_walls a_0_waiting a_1 a_1_lowX a_1_lowY a_1_highX a_1_highY a_2 a_2_xs a_2_xs_places a_2_ys a_2_ys_places a_2_cells b_1_thickness b_1_doors b_1_doorFrom b_1_doorTo cI v_0_waits f_0_walls f_0_waiting v_1_count f_1_lowX f_1_lowY f_1_highX f_1_highY v_2_spaces v_2_xs_count f_2_xs_places v_2_ys_count f_2_ys_places f_2_cells) sz) := by
  refine Met.ofW (cc := b_Fl_numberSpaces) (maxL := 6) (ret := none) (by decide) rfl ?_
  intro p e s m args below meth c s₁ B hml hv
  obtain ⟨rfl, hsz, hP, hK, hD0, hN⟩ := hv
  subst hsz
  have hl := lv_entry ([.ref a_0, .ref a_1, .ref a_2]) (n := 6) (Nat.le_of_ble_eq_true rfl)
  rw [lg_entry_eq]
  generalize (lg_sl ([.ref a_0, .ref a_1, .ref a_2]) ++ List.replicate (6 - (lg_sl ([.ref a_0, .ref a_1, .ref a_2])).length) Slot.unset).toArray = ls at hl ⊢
  exact t_Fl_numberSpaces a_0 a_0_walls a_0_waiting a_1 a_1_lowX a_1_lowY a_1_highX a_1_highY a_2 a_2_xs a_2_xs_places a_2_ys a_2_ys_places a_2_cells b_1_thickness b_1_doors b_1_doorFrom b_1_doorTo v_0_waits f_0_walls f_0_waiting v_1_count f_1_lowX f_1_lowY f_1_highX f_1_highY v_2_spaces v_2_xs_count f_2_xs_places v_2_ys_count f_2_ys_places f_2_cells ov_0_waits of_0_walls of_0_waiting ov_2_spaces of_2_cells B.exec B.bytes hml (findClass_of_methodNamed B.named) (atoms_spec (ws := w_Fl_numberSpaces) B.pre) hK hN (fun q h => Or.inr h) (fun pc H locs ls hd hP9 hD9 hS => W.vret B.exec B.bytes B.returns (fun t ht hW => ⟨⟨(), rfl, trivial, by rw [ht]; exact hP9, va_K.moved hW.alike hK, hD9⟩, hS.F ht⟩) hS.2.2 hd) hm s.heap [] ls hP hD0.self va_S.rf hl
