theorem k_15 : ((.fieldLink "SpaceCycles$Lines" 9 "SpaceCycles$Lines" "lowX" "[I") : Cond) ∈ gl := gl_i 43 (by decide +kernel) (by decide +kernel)
theorem k_16 : ((.fieldLink "SpaceCycles$Lines" 15 "SpaceCycles$Lines" "lowY" "[I") : Cond) ∈ gl := gl_i 49 (by decide +kernel) (by decide +kernel)
theorem k_17 : ((.fieldLink "SpaceCycles$Lines" 18 "SpaceCycles$Lines" "highX" "[I") : Cond) ∈ gl := gl_i 55 (by decide +kernel) (by decide +kernel)
theorem k_18 : ((.fieldLink "SpaceCycles$Lines" 21 "SpaceCycles$Lines" "highY" "[I") : Cond) ∈ gl := gl_i 60 (by decide +kernel) (by decide +kernel)
-- SpaceCycles$Lines.put(IIIII)V
abbrev b_Li_put : ByteArray := prog_6_method_2_code
abbrev y_Li_put : MethodName := ⟨"SpaceCycles$Lines", "put", "(IIIII)V"⟩
abbrev w_Li_put : List Cond := Cond.code y_Li_put b_Li_put 6 none :: gl
abbrev rm_Li_put : Room := { frames := 0, cells := 0, slots := 0, locals := 0 }
theorem d_Li_put_0 : decode b_Li_put 0 = .ok (.aload_n 0, 1) := by decide +kernel
theorem d_Li_put_1 : decode b_Li_put 1 = .ok (.getfield 9, 3) := by decide +kernel
theorem d_Li_put_4 : decode b_Li_put 4 = .ok (.iload_n 1, 1) := by decide +kernel
theorem d_Li_put_5 : decode b_Li_put 5 = .ok (.iload_n 2, 1) := by decide +kernel
theorem d_Li_put_6 : decode b_Li_put 6 = .ok (.iastore, 1) := by decide +kernel
theorem d_Li_put_7 : decode b_Li_put 7 = .ok (.aload_n 0, 1) := by decide +kernel
theorem d_Li_put_8 : decode b_Li_put 8 = .ok (.getfield 15, 3) := by decide +kernel
theorem d_Li_put_11 : decode b_Li_put 11 = .ok (.iload_n 1, 1) := by decide +kernel
theorem d_Li_put_12 : decode b_Li_put 12 = .ok (.iload_n 3, 1) := by decide +kernel
theorem d_Li_put_13 : decode b_Li_put 13 = .ok (.iastore, 1) := by decide +kernel
theorem d_Li_put_14 : decode b_Li_put 14 = .ok (.aload_n 0, 1) := by decide +kernel
theorem d_Li_put_15 : decode b_Li_put 15 = .ok (.getfield 18, 3) := by decide +kernel
theorem d_Li_put_18 : decode b_Li_put 18 = .ok (.iload_n 1, 1) := by decide +kernel
theorem d_Li_put_19 : decode b_Li_put 19 = .ok (.iload 4, 2) := by decide +kernel
theorem d_Li_put_21 : decode b_Li_put 21 = .ok (.iastore, 1) := by decide +kernel
theorem d_Li_put_22 : decode b_Li_put 22 = .ok (.aload_n 0, 1) := by decide +kernel
theorem d_Li_put_23 : decode b_Li_put 23 = .ok (.getfield 21, 3) := by decide +kernel
theorem d_Li_put_26 : decode b_Li_put 26 = .ok (.iload_n 1, 1) := by decide +kernel
theorem d_Li_put_27 : decode b_Li_put 27 = .ok (.iload 5, 2) := by decide +kernel
theorem d_Li_put_29 : decode b_Li_put 29 = .ok (.iastore, 1) := by decide +kernel
theorem d_Li_put_30 : decode b_Li_put 30 = .ok (.return_, 1) := by decide +kernel
abbrev wl_Li_put (a_0 : Nat) (a_0_lowX : Nat) (a_0_lowY : Nat) (a_0_highX : Nat) (a_0_highY : Nat) (b_0_thickness : Nat) (b_0_doors : Nat) (b_0_doorFrom : Nat) (b_0_doorTo : Nat) (cI : ClassId) (v_0_count : Int32) (f_0_lowX : Nat → Int32) (f_0_lowY : Nat → Int32) (f_0_highX : Nat → Int32) (f_0_highY : Nat → Int32) : va_W := [(a_0, .inr (1, [.ref a_0_lowX, .ref a_0_lowY, .ref a_0_highX, .ref a_0_highY, .ref b_0_thickness, .ref b_0_doors, .ref b_0_doorFrom, .ref b_0_doorTo, .int v_0_count])), (a_0_lowX, .inl (cI, 20, .inl f_0_lowX)), (a_0_lowY, .inl (cI, 20, .inl f_0_lowY)), (a_0_highX, .inl (cI, 20, .inl f_0_highX)), (a_0_highY, .inl (cI, 20, .inl f_0_highY))]
def m_Li_put (p1 : Int32) (p2 : Int32) (p3 : Int32) (p4 : Int32) (p5 : Int32) (f_0_lowX : Nat → Int32) (f_0_lowY : Nat → Int32) (f_0_highX : Nat → Int32) (f_0_highY : Nat → Int32) : Option ((Nat → Int32) × (Nat → Int32) × (Nat → Int32) × (Nat → Int32)) :=
  gI p1 20 <|
  lt_ (upd f_0_lowX p1.toNatClampNeg p2) fun f2 =>
  gI p1 20 <|
  lt_ (upd f_0_lowY p1.toNatClampNeg p3) fun f4 =>
  gI p1 20 <|
  lt_ (upd f_0_highX p1.toNatClampNeg p4) fun f6 =>
  gI p1 20 <|
  lt_ (upd f_0_highY p1.toNatClampNeg p5) fun f8 =>
  some (f2, f4, f6, f8)

set_option maxHeartbeats 4000000 in
set_option maxRecDepth 100000 in
theorem t_Li_put {p : Program} {l : Launch} {e : Env} {s : State} {m : MethodId} {args : Array Value} {below : List Frame} {meth : Method} {c : Code} {A : Nat → Prop} {Q : State → Prop} {dC : Nat → ClassId} {dI : Nat → Nat → Nat} {cI cZ cJ : ClassId} (a_0 a_0_lowX a_0_lowY a_0_highX a_0_highY b_0_thickness b_0_doors b_0_doorFrom b_0_doorTo : Nat) (v_0_count : Int32) (f_0_lowX : Nat → Int32) (f_0_lowY : Nat → Int32) (f_0_highX : Nat → Int32) (f_0_highY : Nat → Int32) (p1 : Int32) (p2 : Int32) (p3 : Int32) (p4 : Int32) (p5 : Int32) (of_0_lowX : Nat → Int32) (of_0_lowY : Nat → Int32) (of_0_highX : Nat → Int32) (of_0_highY : Nat → Int32) (hx : p.tables.exec = Jvm.exec) (hb : c.code = b_Li_put) (hml : c.maxLocals = 6) (hown : s.vm.findClass "SpaceCycles$Lines" = some m.cls) (hts : ∀ w ∈ w_Li_put, w.before args s = true) (hK : va_K (dC, dI) vwCl [(cI, .int), (cZ, .boolean), (cJ, .long)] s) (hN : NX s) (hA : ∀ q : Nat, s.heap.size ≤ q → A q)
    (hret : ∀ (pc : Nat) (H : Heap) (locs : List Loc) (ls : Array Slot), decode b_Li_put pc = .ok (.return_, 1) → va_P (dC, dI) vwCl (wl_Li_put a_0 a_0_lowX a_0_lowY a_0_highX a_0_highY b_0_thickness b_0_doors b_0_doorFrom b_0_doorTo cI v_0_count of_0_lowX of_0_lowY of_0_highX of_0_highY) H → va_D A (wl_Li_put a_0 a_0_lowX a_0_lowY a_0_highX a_0_highY b_0_thickness b_0_doors b_0_doorFrom b_0_doorTo cI v_0_count of_0_lowX of_0_lowY of_0_highX of_0_highY) → va_S A s.heap H locs → W p l e rm_Li_put s m args below meth c H locs 0 0 Q (F0 m pc ls []))
    (hm : m_Li_put p1 p2 p3 p4 p5 f_0_lowX f_0_lowY f_0_highX f_0_highY = some (of_0_lowX, of_0_lowY, of_0_highX, of_0_highY)) : ∀ (H : Heap) (locs : List Loc) (ls : Array Slot), va_P (dC, dI) vwCl (wl_Li_put a_0 a_0_lowX a_0_lowY a_0_highX a_0_highY b_0_thickness b_0_doors b_0_doorFrom b_0_doorTo cI v_0_count f_0_lowX f_0_lowY f_0_highX f_0_highY) H → va_D A (wl_Li_put a_0 a_0_lowX a_0_lowY a_0_highX a_0_highY b_0_thickness b_0_doors b_0_doorFrom b_0_doorTo cI v_0_count f_0_lowX f_0_lowY f_0_highX f_0_highY) → va_S A s.heap H locs → lv_has ls 6 [(0, .ref a_0), (1, .int p1), (2, .int p2), (3, .int p3), (4, .int p4), (5, .int p5)] → W p l e rm_Li_put s m args below meth c H locs 0 0 Q (F0 m 0 ls []) := by
  intro H locs ls hP hD hS hl
  unfold m_Li_put at hm
  refine lv_aload_n hx hb d_Li_put_0 rfl (lv_at hl 0 rfl) ?_
  refine va_get (D := (dC, dI)) (ci := 1) (v := .ref a_0_lowX) (C := "SpaceCycles$Lines") (T := F_Li) (N := 9) hx hb hts (in_F i_Li) hown hK hP 0 rfl rfl 0 (by decide) (hts _ (in_c k_15)) (fun _ h9 => h9) rfl d_Li_put_1 ?_
  refine lv_iload_n hx hb d_Li_put_4 rfl (lv_at hl 1 rfl) ?_
  refine lv_iload_n hx hb d_Li_put_5 rfl (lv_at hl 2 rfl) ?_
  obtain ⟨hi1, hm⟩ := gI_e hm
  obtain ⟨f2, ef2⟩ : ∃ y : Nat → Int32, y = upd f_0_lowX p1.toNatClampNeg p2 := ⟨_, rfl⟩
  replace hm := lt_el hm ef2
  refine va_iast hx hb hK hP hD hS 1 0 rfl rfl hi1 d_Li_put_6 (fun H locs hP hD hS => ?_)
  rw [← ef2] at hP hD
  have hP : va_P (dC, dI) vwCl (wl_Li_put a_0 a_0_lowX a_0_lowY a_0_highX a_0_highY b_0_thickness b_0_doors b_0_doorFrom b_0_doorTo cI v_0_count f2 f_0_lowY f_0_highX f_0_highY) H := hP
  have hD : va_D A (wl_Li_put a_0 a_0_lowX a_0_lowY a_0_highX a_0_highY b_0_thickness b_0_doors b_0_doorFrom b_0_doorTo cI v_0_count f2 f_0_lowY f_0_highX f_0_highY) := hD
  refine lv_aload_n hx hb d_Li_put_7 rfl (lv_at hl 0 rfl) ?_
  refine va_get (D := (dC, dI)) (ci := 1) (v := .ref a_0_lowY) (C := "SpaceCycles$Lines") (T := F_Li) (N := 9) hx hb hts (in_F i_Li) hown hK hP 0 rfl rfl 1 (by decide) (hts _ (in_c k_16)) (fun _ h9 => h9) rfl d_Li_put_8 ?_
  refine lv_iload_n hx hb d_Li_put_11 rfl (lv_at hl 1 rfl) ?_
  refine lv_iload_n hx hb d_Li_put_12 rfl (lv_at hl 3 rfl) ?_
  obtain ⟨hi3, hm⟩ := gI_e hm
  obtain ⟨f4, ef4⟩ : ∃ y : Nat → Int32, y = upd f_0_lowY p1.toNatClampNeg p3 := ⟨_, rfl⟩
  replace hm := lt_el hm ef4
  refine va_iast hx hb hK hP hD hS 2 0 rfl rfl hi3 d_Li_put_13 (fun H locs hP hD hS => ?_)
  rw [← ef4] at hP hD
  have hP : va_P (dC, dI) vwCl (wl_Li_put a_0 a_0_lowX a_0_lowY a_0_highX a_0_highY b_0_thickness b_0_doors b_0_doorFrom b_0_doorTo cI v_0_count f2 f4 f_0_highX f_0_highY) H := hP
  have hD : va_D A (wl_Li_put a_0 a_0_lowX a_0_lowY a_0_highX a_0_highY b_0_thickness b_0_doors b_0_doorFrom b_0_doorTo cI v_0_count f2 f4 f_0_highX f_0_highY) := hD
  refine lv_aload_n hx hb d_Li_put_14 rfl (lv_at hl 0 rfl) ?_
  refine va_get (D := (dC, dI)) (ci := 1) (v := .ref a_0_highX) (C := "SpaceCycles$Lines") (T := F_Li) (N := 9) hx hb hts (in_F i_Li) hown hK hP 0 rfl rfl 2 (by decide) (hts _ (in_c k_17)) (fun _ h9 => h9) rfl d_Li_put_15 ?_
  refine lv_iload_n hx hb d_Li_put_18 rfl (lv_at hl 1 rfl) ?_
  refine lv_iload hx hb d_Li_put_19 (lv_at hl 4 rfl) ?_
  obtain ⟨hi5, hm⟩ := gI_e hm
  obtain ⟨f6, ef6⟩ : ∃ y : Nat → Int32, y = upd f_0_highX p1.toNatClampNeg p4 := ⟨_, rfl⟩
  replace hm := lt_el hm ef6
  refine va_iast hx hb hK hP hD hS 3 0 rfl rfl hi5 d_Li_put_21 (fun H locs hP hD hS => ?_)
  rw [← ef6] at hP hD
  have hP : va_P (dC, dI) vwCl (wl_Li_put a_0 a_0_lowX a_0_lowY a_0_highX a_0_highY b_0_thickness b_0_doors b_0_doorFrom b_0_doorTo cI v_0_count f2 f4 f6 f_0_highY) H := hP
  have hD : va_D A (wl_Li_put a_0 a_0_lowX a_0_lowY a_0_highX a_0_highY b_0_thickness b_0_doors b_0_doorFrom b_0_doorTo cI v_0_count f2 f4 f6 f_0_highY) := hD
  refine lv_aload_n hx hb d_Li_put_22 rfl (lv_at hl 0 rfl) ?_
  refine va_get (D := (dC, dI)) (ci := 1) (v := .ref a_0_highY) (C := "SpaceCycles$Lines") (T := F_Li) (N := 9) hx hb hts (in_F i_Li) hown hK hP 0 rfl rfl 3 (by decide) (hts _ (in_c k_18)) (fun _ h9 => h9) rfl d_Li_put_23 ?_
  refine lv_iload_n hx hb d_Li_put_26 rfl (lv_at hl 1 rfl) ?_
  refine lv_iload hx hb d_Li_put_27 (lv_at hl 5 rfl) ?_
  obtain ⟨hi7, hm⟩ := gI_e hm
  obtain ⟨f8, ef8⟩ : ∃ y : Nat → Int32, y = upd f_0_highY p1.toNatClampNeg p5 := ⟨_, rfl⟩
  replace hm := lt_el hm ef8
  refine va_iast hx hb hK hP hD hS 4 0 rfl rfl hi7 d_Li_put_29 (fun H locs hP hD hS => ?_)
  rw [← ef8] at hP hD
  have hP : va_P (dC, dI) vwCl (wl_Li_put a_0 a_0_lowX a_0_lowY a_0_highX a_0_highY b_0_thickness b_0_doors b_0_doorFrom b_0_doorTo cI v_0_count f2 f4 f6 f8) H := hP
  have hD : va_D A (wl_Li_put a_0 a_0_lowX a_0_lowY a_0_highX a_0_highY b_0_thickness b_0_doors b_0_doorFrom b_0_doorTo cI v_0_count f2 f4 f6 f8) := hD
  cases hm
  exact hret _ H locs ls d_Li_put_30 hP hD hS
set_option maxHeartbeats 4000000 in
set_option maxRecDepth 100000 in
theorem c_Li_put (l : Launch) (dC : Nat → ClassId) (dI : Nat → Nat → Nat) {cI cZ cJ : ClassId} (a_0 a_0_lowX a_0_lowY a_0_highX a_0_highY b_0_thickness b_0_doors b_0_doorFrom b_0_doorTo : Nat) (sz : Nat) (v_0_count : Int32) (f_0_lowX : Nat → Int32) (f_0_lowY : Nat → Int32) (f_0_highX : Nat → Int32) (f_0_highY : Nat → Int32) (p1 : Int32) (p2 : Int32) (p3 : Int32) (p4 : Int32) (p5 : Int32) (of_0_lowX : Nat → Int32) (of_0_lowY : Nat → Int32) (of_0_highX : Nat → Int32) (of_0_highY : Nat → Int32) (hm : m_Li_put p1 p2 p3 p4 p5 f_0_lowX f_0_lowY f_0_highX f_0_highY = some (of_0_lowX, of_0_lowY, of_0_highX, of_0_highY)) : Met l y_Li_put w_Li_put rm_Li_put (PP dC dI [(cI, .int), (cZ, .boolean), (cJ, .long)] [.ref a_0, .int p1, .int p2, .int p3, .int p4, .int p5] sz (wl_Li_put a_0 a_0_lowX a_0_lowY a_0_highX a_0_highY b_0_thickness b_0_doors b_0_doorFrom b_0_doorTo cI v_0_count f_0_lowX f_0_lowY f_0_highX f_0_highY)) (QV dC dI [(cI, .int), (cZ, .boolean), (cJ, .long)] sz (wl_Li_put a_0 a_0_lowX a_0_lowY a_0_highX a_0_highY b_0_thickness b_0_doors b_0_doorFrom b_0_doorTo cI v_0_count f_0_lowX f_0_lowY f_0_highX f_0_highY) (wl_Li_put a_0 a_0_lowX a_0_lowY a_0_highX a_0_highY b_0_thickness b_0_doors b_0_doorFrom b_0_doorTo cI v_0_count of_0_lowX of_0_lowY of_0_highX of_0_highY)) 0 0 (va_A (wl_Li_put a_0 a_0_lowX a_0_lowY a_0_highX a_0_highY b_0_thickness b_0_doors b_0_doorFrom b_0_doorTo cI v_0_count f_0_lowX f_0_lowY f_0_highX f_0_highY) sz) := by
  refine Met.ofW (cc := b_Li_put) (maxL := 6) (ret := none) (by decide) rfl ?_
  intro p e s m args below meth c s₁ B hml hv
  obtain ⟨rfl, hsz, hP, hK, hD0, hN⟩ := hv
  subst hsz
  have hl := lv_entry ([.ref a_0, .int p1, .int p2, .int p3, .int p4, .int p5]) (n := 6) (Nat.le_of_ble_eq_true rfl)
  rw [lg_entry_eq]
  generalize (lg_sl ([.ref a_0, .int p1, .int p2, .int p3, .int p4, .int p5]) ++ List.replicate (6 - (lg_sl ([.ref a_0, .int p1, .int p2, .int p3, .int p4, .int p5])).length) Slot.unset).toArray = ls at hl ⊢
  exact t_Li_put a_0 a_0_lowX a_0_lowY a_0_highX a_0_highY b_0_thickness b_0_doors b_0_doorFrom b_0_doorTo v_0_count f_0_lowX f_0_lowY f_0_highX f_0_highY p1 p2 p3 p4 p5 of_0_lowX of_0_lowY of_0_highX of_0_highY B.exec B.bytes hml (findClass_of_methodNamed B.named) (atoms_spec (ws := w_Li_put) B.pre) hK hN (fun q h => Or.inr h) (fun pc H locs ls hd hP9 hD9 hS => W.vret B.exec B.bytes B.returns (fun t ht hW => ⟨⟨(), rfl, trivial, by rw [ht]; exact hP9, va_K.moved hW.alike hK, hD9⟩, hS.F ht⟩) hS.2.2 hd) hm s.heap [] ls hP hD0.self va_S.rf hl

-- SpaceCycles$Lines.isFlat(I)Z
abbrev b_Li_isFlat : ByteArray := prog_6_method_3_code
abbrev y_Li_isFlat : MethodName := ⟨"SpaceCycles$Lines", "isFlat", "(I)Z"⟩
abbrev w_Li_isFlat : List Cond := Cond.code y_Li_isFlat b_Li_isFlat 2 (some .boolean) :: gl
abbrev rm_Li_isFlat : Room := { frames := 0, cells := 0, slots := 0, locals := 0 }
theorem d_Li_isFlat_0 : decode b_Li_isFlat 0 = .ok (.aload_n 0, 1) := by decide +kernel
theorem d_Li_isFlat_1 : decode b_Li_isFlat 1 = .ok (.getfield 15, 3) := by decide +kernel
theorem d_Li_isFlat_4 : decode b_Li_isFlat 4 = .ok (.iload_n 1, 1) := by decide +kernel
theorem d_Li_isFlat_5 : decode b_Li_isFlat 5 = .ok (.iaload, 1) := by decide +kernel
theorem d_Li_isFlat_6 : decode b_Li_isFlat 6 = .ok (.aload_n 0, 1) := by decide +kernel
theorem d_Li_isFlat_7 : decode b_Li_isFlat 7 = .ok (.getfield 21, 3) := by decide +kernel
theorem d_Li_isFlat_10 : decode b_Li_isFlat 10 = .ok (.iload_n 1, 1) := by decide +kernel
theorem d_Li_isFlat_11 : decode b_Li_isFlat 11 = .ok (.iaload, 1) := by decide +kernel
theorem d_Li_isFlat_12 : decode b_Li_isFlat 12 = .ok (.if_icmp .ne 7, 3) := by decide +kernel
theorem d_Li_isFlat_15 : decode b_Li_isFlat 15 = .ok (.iconst 1, 1) := by decide +kernel
theorem d_Li_isFlat_16 : decode b_Li_isFlat 16 = .ok (.goto 4, 3) := by decide +kernel
theorem d_Li_isFlat_19 : decode b_Li_isFlat 19 = .ok (.iconst 0, 1) := by decide +kernel
theorem d_Li_isFlat_20 : decode b_Li_isFlat 20 = .ok (.ireturn, 1) := by decide +kernel
abbrev wl_Li_isFlat (a_0 : Nat) (a_0_lowY : Nat) (a_0_highY : Nat) (b_0_lowX : Nat) (b_0_highX : Nat) (b_0_thickness : Nat) (b_0_doors : Nat) (b_0_doorFrom : Nat) (b_0_doorTo : Nat) (cI : ClassId) (v_0_count : Int32) (f_0_lowY : Nat → Int32) (f_0_highY : Nat → Int32) : va_W := [(a_0, .inr (1, [.ref b_0_lowX, .ref a_0_lowY, .ref b_0_highX, .ref a_0_highY, .ref b_0_thickness, .ref b_0_doors, .ref b_0_doorFrom, .ref b_0_doorTo, .int v_0_count])), (a_0_lowY, .inl (cI, 20, .inl f_0_lowY)), (a_0_highY, .inl (cI, 20, .inl f_0_highY))]
def m_Li_isFlat (p1 : Int32) (f_0_lowY : Nat → Int32) (f_0_highY : Nat → Int32) : Option (Int32) :=
  gI p1 20 <|
  gI p1 20 <|
  bd1 (
    if (f_0_lowY p1.toNatClampNeg) = (f_0_highY p1.toNatClampNeg) then (
    some 1)
  else (
    some 0))
  fun (x6 : Int32) =>
  gB x6 <|
    some x6

set_option maxHeartbeats 4000000 in
set_option maxRecDepth 100000 in
theorem t_Li_isFlat {p : Program} {l : Launch} {e : Env} {s : State} {m : MethodId} {args : Array Value} {below : List Frame} {meth : Method} {c : Code} {A : Nat → Prop} {Q : State → Prop} {dC : Nat → ClassId} {dI : Nat → Nat → Nat} {cI cZ cJ : ClassId} (a_0 a_0_lowY a_0_highY b_0_lowX b_0_highX b_0_thickness b_0_doors b_0_doorFrom b_0_doorTo : Nat) (v_0_count : Int32) (f_0_lowY : Nat → Int32) (f_0_highY : Nat → Int32) (p1 : Int32) (R0 : Int32) (hx : p.tables.exec = Jvm.exec) (hb : c.code = b_Li_isFlat) (hml : c.maxLocals = 2) (hown : s.vm.findClass "SpaceCycles$Lines" = some m.cls) (hts : ∀ w ∈ w_Li_isFlat, w.before args s = true) (hK : va_K (dC, dI) vwCl [(cI, .int), (cZ, .boolean), (cJ, .long)] s) (hN : NX s) (hA : ∀ q : Nat, s.heap.size ≤ q → A q)
    (hret : ∀ (pc : Nat) (H : Heap) (locs : List Loc) (ls : Array Slot), decode b_Li_isFlat pc = .ok (.ireturn, 1) → (R0 = 0 ∨ R0 = 1) → va_P (dC, dI) vwCl (wl_Li_isFlat a_0 a_0_lowY a_0_highY b_0_lowX b_0_highX b_0_thickness b_0_doors b_0_doorFrom b_0_doorTo cI v_0_count f_0_lowY f_0_highY) H → va_D A (wl_Li_isFlat a_0 a_0_lowY a_0_highY b_0_lowX b_0_highX b_0_thickness b_0_doors b_0_doorFrom b_0_doorTo cI v_0_count f_0_lowY f_0_highY) → va_S A s.heap H locs → W p l e rm_Li_isFlat s m args below meth c H locs 0 0 Q (F0 m pc ls [.int R0]))
    (hm : m_Li_isFlat p1 f_0_lowY f_0_highY = some R0) : ∀ (H : Heap) (locs : List Loc) (ls : Array Slot), va_P (dC, dI) vwCl (wl_Li_isFlat a_0 a_0_lowY a_0_highY b_0_lowX b_0_highX b_0_thickness b_0_doors b_0_doorFrom b_0_doorTo cI v_0_count f_0_lowY f_0_highY) H → va_D A (wl_Li_isFlat a_0 a_0_lowY a_0_highY b_0_lowX b_0_highX b_0_thickness b_0_doors b_0_doorFrom b_0_doorTo cI v_0_count f_0_lowY f_0_highY) → va_S A s.heap H locs → lv_has ls 2 [(0, .ref a_0), (1, .int p1)] → W p l e rm_Li_isFlat s m args below meth c H locs 0 0 Q (F0 m 0 ls []) := by
  intro H locs ls hP hD hS hl
  unfold m_Li_isFlat at hm
  refine lv_aload_n hx hb d_Li_isFlat_0 rfl (lv_at hl 0 rfl) ?_
  refine va_get (D := (dC, dI)) (ci := 1) (v := .ref a_0_lowY) (C := "SpaceCycles$Lines") (T := F_Li) (N := 9) hx hb hts (in_F i_Li) hown hK hP 0 rfl rfl 1 (by decide) (hts _ (in_c k_16)) (fun _ h9 => h9) rfl d_Li_isFlat_1 ?_
  refine lv_iload_n hx hb d_Li_isFlat_4 rfl (lv_at hl 1 rfl) ?_
  obtain ⟨hi1, hm⟩ := gI_e hm
  refine va_iald hx hb hK hP 1 0 rfl rfl hi1 d_Li_isFlat_5 ?_
  refine lv_aload_n hx hb d_Li_isFlat_6 rfl (lv_at hl 0 rfl) ?_
  refine va_get (D := (dC, dI)) (ci := 1) (v := .ref a_0_highY) (C := "SpaceCycles$Lines") (T := F_Li) (N := 9) hx hb hts (in_F i_Li) hown hK hP 0 rfl rfl 3 (by decide) (hts _ (in_c k_18)) (fun _ h9 => h9) rfl d_Li_isFlat_7 ?_
  refine lv_iload_n hx hb d_Li_isFlat_10 rfl (lv_at hl 1 rfl) ?_
  obtain ⟨hi2, hm⟩ := gI_e hm
  refine va_iald hx hb hK hP 2 0 rfl rfl hi2 d_Li_isFlat_11 ?_
  obtain ⟨x6, hb4, hm⟩ := bd1_e hm
  have K3 : ∀ (H : Heap) (locs : List Loc) (ls : Array Slot), va_P (dC, dI) vwCl (wl_Li_isFlat a_0 a_0_lowY a_0_highY b_0_lowX b_0_highX b_0_thickness b_0_doors b_0_doorFrom b_0_doorTo cI v_0_count f_0_lowY f_0_highY) H → va_D A (wl_Li_isFlat a_0 a_0_lowY a_0_highY b_0_lowX b_0_highX b_0_thickness b_0_doors b_0_doorFrom b_0_doorTo cI v_0_count f_0_lowY f_0_highY) → va_S A s.heap H locs → lv_has ls 2 [] → W p l e rm_Li_isFlat s m args below meth c H locs 0 0 Q (F0 m 20 ls [.int x6]) := by
    intro H locs ls hP hD hS hl
    obtain ⟨hB, hm⟩ := gB_e hm
    cases hm
    exact hret _ H locs ls d_Li_isFlat_20 hB hP hD hS
  replace hm := hb4
  refine lv_icmp_ne (tgt := 19) hx hb d_Li_isFlat_12 (by decide) (fun c7 => ?_) (fun c7 => ?_)
  · replace hm := if_f hm c7
    refine lv_iconst (v := 0) hx hb d_Li_isFlat_19 (by decide) ?_
    cases hm
    exact K3 H locs ls hP hD hS (lv_sub hl [] rfl)
  · replace hm := if_t hm c7
    refine lv_iconst (v := 1) hx hb d_Li_isFlat_15 (by decide) ?_
    refine lv_goto (tgt := 20) hx hb d_Li_isFlat_16 (by decide) ?_
    cases hm
    exact K3 H locs ls hP hD hS (lv_sub hl [] rfl)
set_option maxHeartbeats 4000000 in
set_option maxRecDepth 100000 in
theorem c_Li_isFlat (l : Launch) (dC : Nat → ClassId) (dI : Nat → Nat → Nat) {cI cZ cJ : ClassId} (a_0 a_0_lowY a_0_highY b_0_lowX b_0_highX b_0_thickness b_0_doors b_0_doorFrom b_0_doorTo : Nat) (sz : Nat) (v_0_count : Int32) (f_0_lowY : Nat → Int32) (f_0_highY : Nat → Int32) (p1 : Int32) (R0 : Int32) (hm : m_Li_isFlat p1 f_0_lowY f_0_highY = some R0) : Met l y_Li_isFlat w_Li_isFlat rm_Li_isFlat (PP dC dI [(cI, .int), (cZ, .boolean), (cJ, .long)] [.ref a_0, .int p1] sz (wl_Li_isFlat a_0 a_0_lowY a_0_highY b_0_lowX b_0_highX b_0_thickness b_0_doors b_0_doorFrom b_0_doorTo cI v_0_count f_0_lowY f_0_highY)) (QI dC dI [(cI, .int), (cZ, .boolean), (cJ, .long)] sz (wl_Li_isFlat a_0 a_0_lowY a_0_highY b_0_lowX b_0_highX b_0_thickness b_0_doors b_0_doorFrom b_0_doorTo cI v_0_count f_0_lowY f_0_highY) (wl_Li_isFlat a_0 a_0_lowY a_0_highY b_0_lowX b_0_highX b_0_thickness b_0_doors b_0_doorFrom b_0_doorTo cI v_0_count f_0_lowY f_0_highY) R0) 0 0 (va_A (wl_Li_isFlat a_0 a_0_lowY a_0_highY b_0_lowX b_0_highX b_0_thickness b_0_doors b_0_doorFrom b_0_doorTo cI v_0_count f_0_lowY f_0_highY) sz) := by
  refine Met.ofW (cc := b_Li_isFlat) (maxL := 2) (ret := (some .boolean)) (by decide) rfl ?_
  intro p e s m args below meth c s₁ B hml hv
  obtain ⟨rfl, hsz, hP, hK, hD0, hN⟩ := hv
  subst hsz
  have hl := lv_entry ([.ref a_0, .int p1]) (n := 2) (Nat.le_of_ble_eq_true rfl)
  rw [lg_entry_eq]
  generalize (lg_sl ([.ref a_0, .int p1]) ++ List.replicate (2 - (lg_sl ([.ref a_0, .int p1])).length) Slot.unset).toArray = ls at hl ⊢
  exact t_Li_isFlat a_0 a_0_lowY a_0_highY b_0_lowX b_0_highX b_0_thickness b_0_doors b_0_doorFrom b_0_doorTo v_0_count f_0_lowY f_0_highY p1 R0 B.exec B.bytes hml (findClass_of_methodNamed B.named) (atoms_spec (ws := w_Li_isFlat) B.pre) hK hN (fun q h => Or.inr h) (fun pc H locs ls hd hz hP9 hD9 hS => W.zret B.exec B.bytes B.returns (nar_b hz) (fun t ht hW => ⟨⟨_, (), rfl, rfl, by rw [ht]; exact hP9, va_K.moved hW.alike hK, hD9⟩, hS.F ht⟩) hS.2.2 hd) hm s.heap [] ls hP hD0.self va_S.rf hl

-- SpaceCycles$Lines.length(I)I
abbrev b_Li_length : ByteArray := prog_6_method_4_code
abbrev y_Li_length : MethodName := ⟨"SpaceCycles$Lines", "length", "(I)I"⟩
abbrev w_Li_length : List Cond := Cond.code y_Li_length b_Li_length 2 (some .int) :: gl
abbrev rm_Li_length : Room := { frames := 0, cells := 0, slots := 0, locals := 0 }
theorem d_Li_length_0 : decode b_Li_length 0 = .ok (.aload_n 0, 1) := by decide +kernel
theorem d_Li_length_1 : decode b_Li_length 1 = .ok (.getfield 18, 3) := by decide +kernel
theorem d_Li_length_4 : decode b_Li_length 4 = .ok (.iload_n 1, 1) := by decide +kernel
theorem d_Li_length_5 : decode b_Li_length 5 = .ok (.iaload, 1) := by decide +kernel
theorem d_Li_length_6 : decode b_Li_length 6 = .ok (.aload_n 0, 1) := by decide +kernel
theorem d_Li_length_7 : decode b_Li_length 7 = .ok (.getfield 9, 3) := by decide +kernel
theorem d_Li_length_10 : decode b_Li_length 10 = .ok (.iload_n 1, 1) := by decide +kernel
theorem d_Li_length_11 : decode b_Li_length 11 = .ok (.iaload, 1) := by decide +kernel
theorem d_Li_length_12 : decode b_Li_length 12 = .ok (.isub, 1) := by decide +kernel
theorem d_Li_length_13 : decode b_Li_length 13 = .ok (.aload_n 0, 1) := by decide +kernel
theorem d_Li_length_14 : decode b_Li_length 14 = .ok (.getfield 21, 3) := by decide +kernel
theorem d_Li_length_17 : decode b_Li_length 17 = .ok (.iload_n 1, 1) := by decide +kernel
theorem d_Li_length_18 : decode b_Li_length 18 = .ok (.iaload, 1) := by decide +kernel
theorem d_Li_length_19 : decode b_Li_length 19 = .ok (.iadd, 1) := by decide +kernel
theorem d_Li_length_20 : decode b_Li_length 20 = .ok (.aload_n 0, 1) := by decide +kernel
theorem d_Li_length_21 : decode b_Li_length 21 = .ok (.getfield 15, 3) := by decide +kernel
theorem d_Li_length_24 : decode b_Li_length 24 = .ok (.iload_n 1, 1) := by decide +kernel
theorem d_Li_length_25 : decode b_Li_length 25 = .ok (.iaload, 1) := by decide +kernel
theorem d_Li_length_26 : decode b_Li_length 26 = .ok (.isub, 1) := by decide +kernel
theorem d_Li_length_27 : decode b_Li_length 27 = .ok (.ireturn, 1) := by decide +kernel
abbrev wl_Li_length (a_0 : Nat) (a_0_lowX : Nat) (a_0_lowY : Nat) (a_0_highX : Nat) (a_0_highY : Nat) (b_0_thickness : Nat) (b_0_doors : Nat) (b_0_doorFrom : Nat) (b_0_doorTo : Nat) (cI : ClassId) (v_0_count : Int32) (f_0_lowX : Nat → Int32) (f_0_lowY : Nat → Int32) (f_0_highX : Nat → Int32) (f_0_highY : Nat → Int32) : va_W := [(a_0, .inr (1, [.ref a_0_lowX, .ref a_0_lowY, .ref a_0_highX, .ref a_0_highY, .ref b_0_thickness, .ref b_0_doors, .ref b_0_doorFrom, .ref b_0_doorTo, .int v_0_count])), (a_0_lowX, .inl (cI, 20, .inl f_0_lowX)), (a_0_lowY, .inl (cI, 20, .inl f_0_lowY)), (a_0_highX, .inl (cI, 20, .inl f_0_highX)), (a_0_highY, .inl (cI, 20, .inl f_0_highY))]
def m_Li_length (p1 : Int32) (f_0_lowX : Nat → Int32) (f_0_lowY : Nat → Int32) (f_0_highX : Nat → Int32) (f_0_highY : Nat → Int32) : Option (Int32) :=
  gI p1 20 <|
  gI p1 20 <|
  gI p1 20 <|
  gI p1 20 <|
  some ((((f_0_highX p1.toNatClampNeg) - (f_0_lowX p1.toNatClampNeg)) + (f_0_highY p1.toNatClampNeg)) - (f_0_lowY p1.toNatClampNeg))

set_option maxHeartbeats 4000000 in
set_option maxRecDepth 100000 in
theorem t_Li_length {p : Program} {l : Launch} {e : Env} {s : State} {m : MethodId} {args : Array Value} {below : List Frame} {meth : Method} {c : Code} {A : Nat → Prop} {Q : State → Prop} {dC : Nat → ClassId} {dI : Nat → Nat → Nat} {cI cZ cJ : ClassId} (a_0 a_0_lowX a_0_lowY a_0_highX a_0_highY b_0_thickness b_0_doors b_0_doorFrom b_0_doorTo : Nat) (v_0_count : Int32) (f_0_lowX : Nat → Int32) (f_0_lowY : Nat → Int32) (f_0_highX : Nat → Int32) (f_0_highY : Nat → Int32) (p1 : Int32) (R0 : Int32) (hx : p.tables.exec = Jvm.exec) (hb : c.code = b_Li_length) (hml : c.maxLocals = 2) (hown : s.vm.findClass "SpaceCycles$Lines" = some m.cls) (hts : ∀ w ∈ w_Li_length, w.before args s = true) (hK : va_K (dC, dI) vwCl [(cI, .int), (cZ, .boolean), (cJ, .long)] s) (hN : NX s) (hA : ∀ q : Nat, s.heap.size ≤ q → A q)
    (hret : ∀ (pc : Nat) (H : Heap) (locs : List Loc) (ls : Array Slot), decode b_Li_length pc = .ok (.ireturn, 1) → va_P (dC, dI) vwCl (wl_Li_length a_0 a_0_lowX a_0_lowY a_0_highX a_0_highY b_0_thickness b_0_doors b_0_doorFrom b_0_doorTo cI v_0_count f_0_lowX f_0_lowY f_0_highX f_0_highY) H → va_D A (wl_Li_length a_0 a_0_lowX a_0_lowY a_0_highX a_0_highY b_0_thickness b_0_doors b_0_doorFrom b_0_doorTo cI v_0_count f_0_lowX f_0_lowY f_0_highX f_0_highY) → va_S A s.heap H locs → W p l e rm_Li_length s m args below meth c H locs 0 0 Q (F0 m pc ls [.int R0]))
    (hm : m_Li_length p1 f_0_lowX f_0_lowY f_0_highX f_0_highY = some R0) : ∀ (H : Heap) (locs : List Loc) (ls : Array Slot), va_P (dC, dI) vwCl (wl_Li_length a_0 a_0_lowX a_0_lowY a_0_highX a_0_highY b_0_thickness b_0_doors b_0_doorFrom b_0_doorTo cI v_0_count f_0_lowX f_0_lowY f_0_highX f_0_highY) H → va_D A (wl_Li_length a_0 a_0_lowX a_0_lowY a_0_highX a_0_highY b_0_thickness b_0_doors b_0_doorFrom b_0_doorTo cI v_0_count f_0_lowX f_0_lowY f_0_highX f_0_highY) → va_S A s.heap H locs → lv_has ls 2 [(0, .ref a_0), (1, .int p1)] → W p l e rm_Li_length s m args below meth c H locs 0 0 Q (F0 m 0 ls []) := by
  intro H locs ls hP hD hS hl
  unfold m_Li_length at hm
  refine lv_aload_n hx hb d_Li_length_0 rfl (lv_at hl 0 rfl) ?_
  refine va_get (D := (dC, dI)) (ci := 1) (v := .ref a_0_highX) (C := "SpaceCycles$Lines") (T := F_Li) (N := 9) hx hb hts (in_F i_Li) hown hK hP 0 rfl rfl 2 (by decide) (hts _ (in_c k_17)) (fun _ h9 => h9) rfl d_Li_length_1 ?_
  refine lv_iload_n hx hb d_Li_length_4 rfl (lv_at hl 1 rfl) ?_
  obtain ⟨hi1, hm⟩ := gI_e hm
  refine va_iald hx hb hK hP 3 0 rfl rfl hi1 d_Li_length_5 ?_
  refine lv_aload_n hx hb d_Li_length_6 rfl (lv_at hl 0 rfl) ?_
  refine va_get (D := (dC, dI)) (ci := 1) (v := .ref a_0_lowX) (C := "SpaceCycles$Lines") (T := F_Li) (N := 9) hx hb hts (in_F i_Li) hown hK hP 0 rfl rfl 0 (by decide) (hts _ (in_c k_15)) (fun _ h9 => h9) rfl d_Li_length_7 ?_
  refine lv_iload_n hx hb d_Li_length_10 rfl (lv_at hl 1 rfl) ?_
  obtain ⟨hi2, hm⟩ := gI_e hm
  refine va_iald hx hb hK hP 1 0 rfl rfl hi2 d_Li_length_11 ?_
  refine lv_isub hx hb d_Li_length_12 ?_
  refine lv_aload_n hx hb d_Li_length_13 rfl (lv_at hl 0 rfl) ?_
  refine va_get (D := (dC, dI)) (ci := 1) (v := .ref a_0_highY) (C := "SpaceCycles$Lines") (T := F_Li) (N := 9) hx hb hts (in_F i_Li) hown hK hP 0 rfl rfl 3 (by decide) (hts _ (in_c k_18)) (fun _ h9 => h9) rfl d_Li_length_14 ?_
  refine lv_iload_n hx hb d_Li_length_17 rfl (lv_at hl 1 rfl) ?_
  obtain ⟨hi3, hm⟩ := gI_e hm
  refine va_iald hx hb hK hP 4 0 rfl rfl hi3 d_Li_length_18 ?_
  refine lv_iadd hx hb d_Li_length_19 ?_
  refine lv_aload_n hx hb d_Li_length_20 rfl (lv_at hl 0 rfl) ?_
  refine va_get (D := (dC, dI)) (ci := 1) (v := .ref a_0_lowY) (C := "SpaceCycles$Lines") (T := F_Li) (N := 9) hx hb hts (in_F i_Li) hown hK hP 0 rfl rfl 1 (by decide) (hts _ (in_c k_16)) (fun _ h9 => h9) rfl d_Li_length_21 ?_
  refine lv_iload_n hx hb d_Li_length_24 rfl (lv_at hl 1 rfl) ?_
  obtain ⟨hi4, hm⟩ := gI_e hm
  refine va_iald hx hb hK hP 2 0 rfl rfl hi4 d_Li_length_25 ?_
  refine lv_isub hx hb d_Li_length_26 ?_
  cases hm
  exact hret _ H locs ls d_Li_length_27 hP hD hS
set_option maxHeartbeats 4000000 in
set_option maxRecDepth 100000 in
theorem c_Li_length (l : Launch) (dC : Nat → ClassId) (dI : Nat → Nat → Nat) {cI cZ cJ : ClassId} (a_0 a_0_lowX a_0_lowY a_0_highX a_0_highY b_0_thickness b_0_doors b_0_doorFrom b_0_doorTo : Nat) (sz : Nat) (v_0_count : Int32) (f_0_lowX : Nat → Int32) (f_0_lowY : Nat → Int32) (f_0_highX : Nat → Int32) (f_0_highY : Nat → Int32) (p1 : Int32) (R0 : Int32) (hm : m_Li_length p1 f_0_lowX f_0_lowY f_0_highX f_0_highY = some R0) : Met l y_Li_length w_Li_length rm_Li_length (PP dC dI [(cI, .int), (cZ, .boolean), (cJ, .long)] [.ref a_0, .int p1] sz (wl_Li_length a_0 a_0_lowX a_0_lowY a_0_highX a_0_highY b_0_thickness b_0_doors b_0_doorFrom b_0_doorTo cI v_0_count f_0_lowX f_0_lowY f_0_highX f_0_highY)) (QI dC dI [(cI, .int), (cZ, .boolean), (cJ, .long)] sz (wl_Li_length a_0 a_0_lowX a_0_lowY a_0_highX a_0_highY b_0_thickness b_0_doors b_0_doorFrom b_0_doorTo cI v_0_count f_0_lowX f_0_lowY f_0_highX f_0_highY) (wl_Li_length a_0 a_0_lowX a_0_lowY a_0_highX a_0_highY b_0_thickness b_0_doors b_0_doorFrom b_0_doorTo cI v_0_count f_0_lowX f_0_lowY f_0_highX f_0_highY) R0) 0 0 (va_A (wl_Li_length a_0 a_0_lowX a_0_lowY a_0_highX a_0_highY b_0_thickness b_0_doors b_0_doorFrom b_0_doorTo cI v_0_count f_0_lowX f_0_lowY f_0_highX f_0_highY) sz) := by
  refine Met.ofW (cc := b_Li_length) (maxL := 2) (ret := (some .int)) (by decide) rfl ?_
  intro p e s m args below meth c s₁ B hml hv
  obtain ⟨rfl, hsz, hP, hK, hD0, hN⟩ := hv
  subst hsz
  have hl := lv_entry ([.ref a_0, .int p1]) (n := 2) (Nat.le_of_ble_eq_true rfl)
  rw [lg_entry_eq]
  generalize (lg_sl ([.ref a_0, .int p1]) ++ List.replicate (2 - (lg_sl ([.ref a_0, .int p1])).length) Slot.unset).toArray = ls at hl ⊢
  exact t_Li_length a_0 a_0_lowX a_0_lowY a_0_highX a_0_highY b_0_thickness b_0_doors b_0_doorFrom b_0_doorTo v_0_count f_0_lowX f_0_lowY f_0_highX f_0_highY p1 R0 B.exec B.bytes hml (findClass_of_methodNamed B.named) (atoms_spec (ws := w_Li_length) B.pre) hK hN (fun q h => Or.inr h) (fun pc H locs ls hd hP9 hD9 hS => W.iret B.exec B.bytes B.returns (fun t ht hW => ⟨⟨_, (), rfl, rfl, by rw [ht]; exact hP9, va_K.moved hW.alike hK, hD9⟩, hS.F ht⟩) hS.2.2 hd) hm s.heap [] ls hP hD0.self va_S.rf hl

theorem k_19 : ((.fieldLink "SpaceCycles$Lines" 36 "SpaceCycles$Lines" "count" "I") : Cond) ∈ gl := gl_i 72 (by decide +kernel) (by decide +kernel)
theorem k_20 : ((.methodLink "SpaceCycles$Lines" 40 ⟨"java/lang/Math", "min", "(II)I"⟩) : Cond) ∈ gl := gl_i 471 (by decide +kernel) (by decide +kernel)
theorem k_21 : ((.static ⟨"java/lang/Math", "min", "(II)I"⟩) : Cond) ∈ gl := gl_i 462 (by decide +kernel) (by decide +kernel)
theorem k_22 : ((.code ⟨"java/lang/Math", "min", "(II)I"⟩ prog_20_method_69_code 2 (some .int)) : Cond) ∈ gl := gl_i 463 (by decide +kernel) (by decide +kernel)
theorem k_23 : ((.methodLink "SpaceCycles$Lines" 46 ⟨"java/lang/Math", "max", "(II)I"⟩) : Cond) ∈ gl := gl_i 472 (by decide +kernel) (by decide +kernel)
-- SpaceCycles$Lines.someLieAlong(IIIII)Z
abbrev b_Li_someLieAlong : ByteArray := prog_6_method_5_code
abbrev y_Li_someLieAlong : MethodName := ⟨"SpaceCycles$Lines", "someLieAlong", "(IIIII)Z"⟩
abbrev w_Li_someLieAlong : List Cond := Cond.code y_Li_someLieAlong b_Li_someLieAlong 9 (some .boolean) :: gl
abbrev rm_Li_someLieAlong : Room := { frames := 1, cells := 0, slots := 0, locals := 64 }
theorem d_Li_someLieAlong_0 : decode b_Li_someLieAlong 0 = .ok (.iconst 0, 1) := by decide +kernel
theorem d_Li_someLieAlong_1 : decode b_Li_someLieAlong 1 = .ok (.istore 6, 2) := by decide +kernel
theorem d_Li_someLieAlong_3 : decode b_Li_someLieAlong 3 = .ok (.iload 6, 2) := by decide +kernel
theorem d_Li_someLieAlong_5 : decode b_Li_someLieAlong 5 = .ok (.aload_n 0, 1) := by decide +kernel
theorem d_Li_someLieAlong_6 : decode b_Li_someLieAlong 6 = .ok (.getfield 36, 3) := by decide +kernel
theorem d_Li_someLieAlong_9 : decode b_Li_someLieAlong 9 = .ok (.if_icmp .ge 87, 3) := by decide +kernel
theorem d_Li_someLieAlong_12 : decode b_Li_someLieAlong 12 = .ok (.aload_n 0, 1) := by decide +kernel
theorem d_Li_someLieAlong_13 : decode b_Li_someLieAlong 13 = .ok (.getfield 18, 3) := by decide +kernel
theorem d_Li_someLieAlong_16 : decode b_Li_someLieAlong 16 = .ok (.iload 6, 2) := by decide +kernel
theorem d_Li_someLieAlong_18 : decode b_Li_someLieAlong 18 = .ok (.iaload, 1) := by decide +kernel
theorem d_Li_someLieAlong_19 : decode b_Li_someLieAlong 19 = .ok (.iload 4, 2) := by decide +kernel
theorem d_Li_someLieAlong_21 : decode b_Li_someLieAlong 21 = .ok (.invokestatic 40, 3) := by decide +kernel
theorem d_Li_someLieAlong_24 : decode b_Li_someLieAlong 24 = .ok (.aload_n 0, 1) := by decide +kernel
theorem d_Li_someLieAlong_25 : decode b_Li_someLieAlong 25 = .ok (.getfield 9, 3) := by decide +kernel
theorem d_Li_someLieAlong_28 : decode b_Li_someLieAlong 28 = .ok (.iload 6, 2) := by decide +kernel
theorem d_Li_someLieAlong_30 : decode b_Li_someLieAlong 30 = .ok (.iaload, 1) := by decide +kernel
theorem d_Li_someLieAlong_31 : decode b_Li_someLieAlong 31 = .ok (.iload_n 2, 1) := by decide +kernel
theorem d_Li_someLieAlong_32 : decode b_Li_someLieAlong 32 = .ok (.invokestatic 46, 3) := by decide +kernel
theorem d_Li_someLieAlong_35 : decode b_Li_someLieAlong 35 = .ok (.isub, 1) := by decide +kernel
theorem d_Li_someLieAlong_36 : decode b_Li_someLieAlong 36 = .ok (.istore 7, 2) := by decide +kernel
theorem d_Li_someLieAlong_38 : decode b_Li_someLieAlong 38 = .ok (.aload_n 0, 1) := by decide +kernel
theorem d_Li_someLieAlong_39 : decode b_Li_someLieAlong 39 = .ok (.getfield 21, 3) := by decide +kernel
theorem d_Li_someLieAlong_42 : decode b_Li_someLieAlong 42 = .ok (.iload 6, 2) := by decide +kernel
theorem d_Li_someLieAlong_44 : decode b_Li_someLieAlong 44 = .ok (.iaload, 1) := by decide +kernel
theorem d_Li_someLieAlong_45 : decode b_Li_someLieAlong 45 = .ok (.iload 5, 2) := by decide +kernel
theorem d_Li_someLieAlong_47 : decode b_Li_someLieAlong 47 = .ok (.invokestatic 40, 3) := by decide +kernel
theorem d_Li_someLieAlong_50 : decode b_Li_someLieAlong 50 = .ok (.aload_n 0, 1) := by decide +kernel
theorem d_Li_someLieAlong_51 : decode b_Li_someLieAlong 51 = .ok (.getfield 15, 3) := by decide +kernel
theorem d_Li_someLieAlong_54 : decode b_Li_someLieAlong 54 = .ok (.iload 6, 2) := by decide +kernel
theorem d_Li_someLieAlong_56 : decode b_Li_someLieAlong 56 = .ok (.iaload, 1) := by decide +kernel
theorem d_Li_someLieAlong_57 : decode b_Li_someLieAlong 57 = .ok (.iload_n 3, 1) := by decide +kernel
theorem d_Li_someLieAlong_58 : decode b_Li_someLieAlong 58 = .ok (.invokestatic 46, 3) := by decide +kernel
theorem d_Li_someLieAlong_61 : decode b_Li_someLieAlong 61 = .ok (.isub, 1) := by decide +kernel
theorem d_Li_someLieAlong_62 : decode b_Li_someLieAlong 62 = .ok (.istore 8, 2) := by decide +kernel
theorem d_Li_someLieAlong_64 : decode b_Li_someLieAlong 64 = .ok (.iload 6, 2) := by decide +kernel
theorem d_Li_someLieAlong_66 : decode b_Li_someLieAlong 66 = .ok (.iload_n 1, 1) := by decide +kernel
theorem d_Li_someLieAlong_67 : decode b_Li_someLieAlong 67 = .ok (.if_icmp .eq 23, 3) := by decide +kernel
theorem d_Li_someLieAlong_70 : decode b_Li_someLieAlong 70 = .ok (.iload 7, 2) := by decide +kernel
theorem d_Li_someLieAlong_72 : decode b_Li_someLieAlong 72 = .ok (.ifCond .lt 18, 3) := by decide +kernel
theorem d_Li_someLieAlong_75 : decode b_Li_someLieAlong 75 = .ok (.iload 8, 2) := by decide +kernel
theorem d_Li_someLieAlong_77 : decode b_Li_someLieAlong 77 = .ok (.ifCond .lt 13, 3) := by decide +kernel
theorem d_Li_someLieAlong_80 : decode b_Li_someLieAlong 80 = .ok (.iload 7, 2) := by decide +kernel
theorem d_Li_someLieAlong_82 : decode b_Li_someLieAlong 82 = .ok (.iload 8, 2) := by decide +kernel
theorem d_Li_someLieAlong_84 : decode b_Li_someLieAlong 84 = .ok (.iadd, 1) := by decide +kernel
theorem d_Li_someLieAlong_85 : decode b_Li_someLieAlong 85 = .ok (.ifCond .le 5, 3) := by decide +kernel
theorem d_Li_someLieAlong_88 : decode b_Li_someLieAlong 88 = .ok (.iconst 1, 1) := by decide +kernel
theorem d_Li_someLieAlong_89 : decode b_Li_someLieAlong 89 = .ok (.ireturn, 1) := by decide +kernel
theorem d_Li_someLieAlong_90 : decode b_Li_someLieAlong 90 = .ok (.iinc 6 1, 3) := by decide +kernel
theorem d_Li_someLieAlong_93 : decode b_Li_someLieAlong 93 = .ok (.goto (-90), 3) := by decide +kernel
theorem d_Li_someLieAlong_96 : decode b_Li_someLieAlong 96 = .ok (.iconst 0, 1) := by decide +kernel
theorem d_Li_someLieAlong_97 : decode b_Li_someLieAlong 97 = .ok (.ireturn, 1) := by decide +kernel
abbrev wl_Li_someLieAlong (a_0 : Nat) (a_0_lowX : Nat) (a_0_lowY : Nat) (a_0_highX : Nat) (a_0_highY : Nat) (b_0_thickness : Nat) (b_0_doors : Nat) (b_0_doorFrom : Nat) (b_0_doorTo : Nat) (cI : ClassId) (v_0_count : Int32) (f_0_lowX : Nat → Int32) (f_0_lowY : Nat → Int32) (f_0_highX : Nat → Int32) (f_0_highY : Nat → Int32) : va_W := [(a_0, .inr (1, [.ref a_0_lowX, .ref a_0_lowY, .ref a_0_highX, .ref a_0_highY, .ref b_0_thickness, .ref b_0_doors, .ref b_0_doorFrom, .ref b_0_doorTo, .int v_0_count])), (a_0_lowX, .inl (cI, 20, .inl f_0_lowX)), (a_0_lowY, .inl (cI, 20, .inl f_0_lowY)), (a_0_highX, .inl (cI, 20, .inl f_0_highX)), (a_0_highY, .inl (cI, 20, .inl f_0_highY))]
def m_Li_someLieAlong_L3 (l1 : Int32) (l2 : Int32) (l3 : Int32) (l4 : Int32) (l5 : Int32) (v_0_count : Int32) (f_0_lowX : Nat → Int32) (f_0_lowY : Nat → Int32) (f_0_highX : Nat → Int32) (f_0_highY : Nat → Int32) : Nat → Int32 → Option (Sum (Int32) (Unit))
  | 0, _ => none
  | n + 1, l6 =>
    if v_0_count ≤ l6 then (
      some (Sum.inr ()))
    else (
      gI l6 20 <|
      gI l6 20 <|
      lt_ ((jmin (f_0_highX l6.toNatClampNeg) l4) - (jmax (f_0_lowX l6.toNatClampNeg) l2)) fun x4 =>
      gI l6 20 <|
      gI l6 20 <|
      lt_ ((jmin (f_0_highY l6.toNatClampNeg) l5) - (jmax (f_0_lowY l6.toNatClampNeg) l3)) fun x7 =>
      bt0 (
        if l6 = l1 then (
        some (Sum.inr ()))
      else (
        if x4 < 0 then (
          some (Sum.inr ()))
        else (
          if x7 < 0 then (
            some (Sum.inr ()))
          else (
            if (x4 + x7) ≤ 0 then (
              some (Sum.inr ()))
            else (
              gB 1 <|
              some (Sum.inl 1)))))) <|
      lt_ (l6 + 1) fun x15 =>
        m_Li_someLieAlong_L3 l1 l2 l3 l4 l5 v_0_count f_0_lowX f_0_lowY f_0_highX f_0_highY n x15)
def m_Li_someLieAlong (p1 : Int32) (p2 : Int32) (p3 : Int32) (p4 : Int32) (p5 : Int32) (v_0_count : Int32) (f_0_lowX : Nat → Int32) (f_0_lowY : Nat → Int32) (f_0_highX : Nat → Int32) (f_0_highY : Nat → Int32) : Option (Int32) :=
  bs0 (m_Li_someLieAlong_L3 p1 p2 p3 p4 p5 v_0_count f_0_lowX f_0_lowY f_0_highX f_0_highY fu 0) <|
  gB 0 <|
  some 0

set_option maxHeartbeats 4000000 in
set_option maxRecDepth 100000 in
theorem t_Li_someLieAlong {p : Program} {l : Launch} {e : Env} {s : State} {m : MethodId} {args : Array Value} {below : List Frame} {meth : Method} {c : Code} {A : Nat → Prop} {Q : State → Prop} {dC : Nat → ClassId} {dI : Nat → Nat → Nat} {cI cZ cJ : ClassId} (a_0 a_0_lowX a_0_lowY a_0_highX a_0_highY b_0_thickness b_0_doors b_0_doorFrom b_0_doorTo : Nat) (v_0_count : Int32) (f_0_lowX : Nat → Int32) (f_0_lowY : Nat → Int32) (f_0_highX : Nat → Int32) (f_0_highY : Nat → Int32) (p1 : Int32) (p2 : Int32) (p3 : Int32) (p4 : Int32) (p5 : Int32) (R0 : Int32) (hx : p.tables.exec = Jvm.exec) (hb : c.code = b_Li_someLieAlong) (hml : c.maxLocals = 9) (hown : s.vm.findClass "SpaceCycles$Lines" = some m.cls) (hts : ∀ w ∈ w_Li_someLieAlong, w.before args s = true) (hK : va_K (dC, dI) vwCl [(cI, .int), (cZ, .boolean), (cJ, .long)] s) (hN : NX s) (hA : ∀ q : Nat, s.heap.size ≤ q → A q)
    (hret : ∀ (pc : Nat) (H : Heap) (locs : List Loc) (ls : Array Slot), decode b_Li_someLieAlong pc = .ok (.ireturn, 1) → (R0 = 0 ∨ R0 = 1) → va_P (dC, dI) vwCl (wl_Li_someLieAlong a_0 a_0_lowX a_0_lowY a_0_highX a_0_highY b_0_thickness b_0_doors b_0_doorFrom b_0_doorTo cI v_0_count f_0_lowX f_0_lowY f_0_highX f_0_highY) H → va_D A (wl_Li_someLieAlong a_0 a_0_lowX a_0_lowY a_0_highX a_0_highY b_0_thickness b_0_doors b_0_doorFrom b_0_doorTo cI v_0_count f_0_lowX f_0_lowY f_0_highX f_0_highY) → va_S A s.heap H locs → W p l e rm_Li_someLieAlong s m args below meth c H locs 0 0 Q (F0 m pc ls [.int R0]))
    (hm : m_Li_someLieAlong p1 p2 p3 p4 p5 v_0_count f_0_lowX f_0_lowY f_0_highX f_0_highY = some R0) : ∀ (H : Heap) (locs : List Loc) (ls : Array Slot), va_P (dC, dI) vwCl (wl_Li_someLieAlong a_0 a_0_lowX a_0_lowY a_0_highX a_0_highY b_0_thickness b_0_doors b_0_doorFrom b_0_doorTo cI v_0_count f_0_lowX f_0_lowY f_0_highX f_0_highY) H → va_D A (wl_Li_someLieAlong a_0 a_0_lowX a_0_lowY a_0_highX a_0_highY b_0_thickness b_0_doors b_0_doorFrom b_0_doorTo cI v_0_count f_0_lowX f_0_lowY f_0_highX f_0_highY) → va_S A s.heap H locs → lv_has ls 9 [(0, .ref a_0), (1, .int p1), (2, .int p2), (3, .int p3), (4, .int p4), (5, .int p5)] → W p l e rm_Li_someLieAlong s m args below meth c H locs 0 0 Q (F0 m 0 ls []) := by
  intro H locs ls hP hD hS hl
  unfold m_Li_someLieAlong at hm
  refine lv_iconst (v := 0) hx hb d_Li_someLieAlong_0 (by decide) ?_
  refine lv_istore (lv' := [(6, .int 0), (0, .ref a_0), (1, .int p1), (2, .int p2), (3, .int p3), (4, .int p4), (5, .int p5)]) hx hb d_Li_someLieAlong_1 hl (by decide) rfl (fun ls hl => ?_)
  have L3_2 : ∀ (n : Nat) (x1 : Int32) (z : Sum (Int32) (Unit)), m_Li_someLieAlong_L3 p1 p2 p3 p4 p5 v_0_count f_0_lowX f_0_lowY f_0_highX f_0_highY n x1 = some z → (∀ r, z = Sum.inl r → R0 = r) → (z = Sum.inr () → ∀ (H : Heap) (locs : List Loc) (ls : Array Slot), va_P (dC, dI) vwCl (wl_Li_someLieAlong a_0 a_0_lowX a_0_lowY a_0_highX a_0_highY b_0_thickness b_0_doors b_0_doorFrom b_0_doorTo cI v_0_count f_0_lowX f_0_lowY f_0_highX f_0_highY) H → va_D A (wl_Li_someLieAlong a_0 a_0_lowX a_0_lowY a_0_highX a_0_highY b_0_thickness b_0_doors b_0_doorFrom b_0_doorTo cI v_0_count f_0_lowX f_0_lowY f_0_highX f_0_highY) → va_S A s.heap H locs → lv_has ls 9 [] → W p l e rm_Li_someLieAlong s m args below meth c H locs 0 0 Q (F0 m 96 ls [])) → ∀ (H : Heap) (locs : List Loc) (ls : Array Slot), va_P (dC, dI) vwCl (wl_Li_someLieAlong a_0 a_0_lowX a_0_lowY a_0_highX a_0_highY b_0_thickness b_0_doors b_0_doorFrom b_0_doorTo cI v_0_count f_0_lowX f_0_lowY f_0_highX f_0_highY) H → va_D A (wl_Li_someLieAlong a_0 a_0_lowX a_0_lowY a_0_highX a_0_highY b_0_thickness b_0_doors b_0_doorFrom b_0_doorTo cI v_0_count f_0_lowX f_0_lowY f_0_highX f_0_highY) → va_S A s.heap H locs → lv_has ls 9 [(0, .ref a_0), (1, .int p1), (2, .int p2), (3, .int p3), (4, .int p4), (5, .int p5), (6, .int x1)] → W p l e rm_Li_someLieAlong s m args below meth c H locs 0 0 Q (F0 m 3 ls []) := by
    intro n
    induction n with
    | zero => intro x1 z hm; simp [m_Li_someLieAlong_L3] at hm
    | succ n ih =>
      intro x1 z hm KR KE H locs ls hP hD hS hl
      rw [m_Li_someLieAlong_L3] at hm
      refine lv_iload hx hb d_Li_someLieAlong_3 (lv_at hl 6 rfl) ?_
      refine lv_aload_n hx hb d_Li_someLieAlong_5 rfl (lv_at hl 0 rfl) ?_
      refine va_get (D := (dC, dI)) (ci := 1) (v := .int v_0_count) (C := "SpaceCycles$Lines") (T := F_Li) (N := 9) hx hb hts (in_F i_Li) hown hK hP 0 rfl rfl 8 (by decide) (hts _ (in_c k_19)) (fun _ h9 => h9) rfl d_Li_someLieAlong_6 ?_
      refine lv_icmp_ge (tgt := 96) hx hb d_Li_someLieAlong_9 (by decide) (fun c3 => ?_) (fun c3 => ?_)
      · replace hm := if_t hm c3
        cases hm
        exact KE  rfl H locs ls hP hD hS (lv_sub hl [] rfl)
      · replace hm := if_f hm c3
        refine lv_aload_n hx hb d_Li_someLieAlong_12 rfl (lv_at hl 0 rfl) ?_
        refine va_get (D := (dC, dI)) (ci := 1) (v := .ref a_0_highX) (C := "SpaceCycles$Lines") (T := F_Li) (N := 9) hx hb hts (in_F i_Li) hown hK hP 0 rfl rfl 2 (by decide) (hts _ (in_c k_17)) (fun _ h9 => h9) rfl d_Li_someLieAlong_13 ?_
        refine lv_iload hx hb d_Li_someLieAlong_16 (lv_at hl 6 rfl) ?_
        obtain ⟨hi4, hm⟩ := gI_e hm
        refine va_iald hx hb hK hP 3 0 rfl rfl hi4 d_Li_someLieAlong_18 ?_
        refine lv_iload hx hb d_Li_someLieAlong_19 (lv_at hl 4 rfl) ?_
        refine va_mmin hx hb (by rw [hml]; exact hl.1.symm) hown (hts _ (in_c k_20)) (hts _ (in_c k_21)) (hts _ (in_c k_13)) (hts _ (in_c k_22)) (Nat.le_of_ble_eq_true rfl) (Nat.le_of_ble_eq_true rfl) (Nat.zero_le _) (Nat.zero_le _) d_Li_someLieAlong_21 ?_
        refine lv_aload_n hx hb d_Li_someLieAlong_24 rfl (lv_at hl 0 rfl) ?_
        refine va_get (D := (dC, dI)) (ci := 1) (v := .ref a_0_lowX) (C := "SpaceCycles$Lines") (T := F_Li) (N := 9) hx hb hts (in_F i_Li) hown hK hP 0 rfl rfl 0 (by decide) (hts _ (in_c k_15)) (fun _ h9 => h9) rfl d_Li_someLieAlong_25 ?_
        refine lv_iload hx hb d_Li_someLieAlong_28 (lv_at hl 6 rfl) ?_
        obtain ⟨hi5, hm⟩ := gI_e hm
        refine va_iald hx hb hK hP 1 0 rfl rfl hi5 d_Li_someLieAlong_30 ?_
        refine lv_iload_n hx hb d_Li_someLieAlong_31 rfl (lv_at hl 2 rfl) ?_
        refine va_mmax hx hb (by rw [hml]; exact hl.1.symm) hown (hts _ (in_c k_23)) (hts _ (in_c k_12)) (hts _ (in_c k_13)) (hts _ (in_c k_14)) (Nat.le_of_ble_eq_true rfl) (Nat.le_of_ble_eq_true rfl) (Nat.zero_le _) (Nat.zero_le _) d_Li_someLieAlong_32 ?_
        refine lv_isub hx hb d_Li_someLieAlong_35 ?_
        refine lv_topi (fun x6 ex6 => ?_)
        replace hm := lt_el hm ex6
        refine lv_istore (lv' := [(7, .int x6), (0, .ref a_0), (1, .int p1), (2, .int p2), (3, .int p3), (4, .int p4), (5, .int p5), (6, .int x1)]) hx hb d_Li_someLieAlong_36 hl (by decide) rfl (fun ls hl => ?_)
        refine lv_aload_n hx hb d_Li_someLieAlong_38 rfl (lv_at hl 1 rfl) ?_
        refine va_get (D := (dC, dI)) (ci := 1) (v := .ref a_0_highY) (C := "SpaceCycles$Lines") (T := F_Li) (N := 9) hx hb hts (in_F i_Li) hown hK hP 0 rfl rfl 3 (by decide) (hts _ (in_c k_18)) (fun _ h9 => h9) rfl d_Li_someLieAlong_39 ?_
        refine lv_iload hx hb d_Li_someLieAlong_42 (lv_at hl 7 rfl) ?_
        obtain ⟨hi7, hm⟩ := gI_e hm
        refine va_iald hx hb hK hP 4 0 rfl rfl hi7 d_Li_someLieAlong_44 ?_
        refine lv_iload hx hb d_Li_someLieAlong_45 (lv_at hl 6 rfl) ?_
        refine va_mmin hx hb (by rw [hml]; exact hl.1.symm) hown (hts _ (in_c k_20)) (hts _ (in_c k_21)) (hts _ (in_c k_13)) (hts _ (in_c k_22)) (Nat.le_of_ble_eq_true rfl) (Nat.le_of_ble_eq_true rfl) (Nat.zero_le _) (Nat.zero_le _) d_Li_someLieAlong_47 ?_
        refine lv_aload_n hx hb d_Li_someLieAlong_50 rfl (lv_at hl 1 rfl) ?_
        refine va_get (D := (dC, dI)) (ci := 1) (v := .ref a_0_lowY) (C := "SpaceCycles$Lines") (T := F_Li) (N := 9) hx hb hts (in_F i_Li) hown hK hP 0 rfl rfl 1 (by decide) (hts _ (in_c k_16)) (fun _ h9 => h9) rfl d_Li_someLieAlong_51 ?_
        refine lv_iload hx hb d_Li_someLieAlong_54 (lv_at hl 7 rfl) ?_
        obtain ⟨hi8, hm⟩ := gI_e hm
        refine va_iald hx hb hK hP 2 0 rfl rfl hi8 d_Li_someLieAlong_56 ?_
        refine lv_iload_n hx hb d_Li_someLieAlong_57 rfl (lv_at hl 4 rfl) ?_
        refine va_mmax hx hb (by rw [hml]; exact hl.1.symm) hown (hts _ (in_c k_23)) (hts _ (in_c k_12)) (hts _ (in_c k_13)) (hts _ (in_c k_14)) (Nat.le_of_ble_eq_true rfl) (Nat.le_of_ble_eq_true rfl) (Nat.zero_le _) (Nat.zero_le _) d_Li_someLieAlong_58 ?_
        refine lv_isub hx hb d_Li_someLieAlong_61 ?_
        refine lv_topi (fun x9 ex9 => ?_)
        replace hm := lt_el hm ex9
        refine lv_istore (lv' := [(8, .int x9), (7, .int x6), (0, .ref a_0), (1, .int p1), (2, .int p2), (3, .int p3), (4, .int p4), (5, .int p5), (6, .int x1)]) hx hb d_Li_someLieAlong_62 hl (by decide) rfl (fun ls hl => ?_)
        refine lv_iload hx hb d_Li_someLieAlong_64 (lv_at hl 8 rfl) ?_
        refine lv_iload_n hx hb d_Li_someLieAlong_66 rfl (lv_at hl 3 rfl) ?_
        obtain ⟨zhz12, hb11, hz12, hm⟩ := bt0_z hm
        have K10 : zhz12 = Sum.inr () → ∀ (H : Heap) (locs : List Loc) (ls : Array Slot), va_P (dC, dI) vwCl (wl_Li_someLieAlong a_0 a_0_lowX a_0_lowY a_0_highX a_0_highY b_0_thickness b_0_doors b_0_doorFrom b_0_doorTo cI v_0_count f_0_lowX f_0_lowY f_0_highX f_0_highY) H → va_D A (wl_Li_someLieAlong a_0 a_0_lowX a_0_lowY a_0_highX a_0_highY b_0_thickness b_0_doors b_0_doorFrom b_0_doorTo cI v_0_count f_0_lowX f_0_lowY f_0_highX f_0_highY) → va_S A s.heap H locs → lv_has ls 9 [(0, .ref a_0), (1, .int p1), (2, .int p2), (3, .int p3), (4, .int p4), (5, .int p5), (6, .int x1)] → W p l e rm_Li_someLieAlong s m args below meth c H locs 0 0 Q (F0 m 90 ls []) := by
          intro  hq H locs ls hP hD hS hl
          replace hm := hm  hq
          obtain ⟨x17, ex17⟩ : ∃ y : Int32, y = x1 + 1 := ⟨_, rfl⟩
          replace hm := lt_el hm ex17
          refine lv_iinc (v := x17) (lv' := [(6, .int x17), (0, .ref a_0), (1, .int p1), (2, .int p2), (3, .int p3), (4, .int p4), (5, .int p5)]) hx hb d_Li_someLieAlong_90 hl (k := 6) rfl (by rw [ex17]; rfl) (by decide) rfl (fun ls hl => ?_)
          refine lv_goto (tgt := 3) hx hb d_Li_someLieAlong_93 (by decide) ?_
          exact ih _ _ hm KR KE H locs ls hP hD hS (lv_sub hl [1, 2, 3, 4, 5, 6, 0] rfl)
        replace hm := hb11
        refine lv_icmp_eq (tgt := 90) hx hb d_Li_someLieAlong_67 (by decide) (fun c13 => ?_) (fun c13 => ?_)
        · replace hm := if_t hm c13
          cases hm
          exact K10  rfl H locs ls hP hD hS (lv_sub hl [2, 3, 4, 5, 6, 7, 8] rfl)
        · replace hm := if_f hm c13
          refine lv_iload hx hb d_Li_someLieAlong_70 (lv_at hl 1 rfl) ?_
          refine lv_if_lt (tgt := 90) hx hb d_Li_someLieAlong_72 (by decide) (fun c14 => ?_) (fun c14 => ?_)
          · replace hm := if_t hm c14
            cases hm
            exact K10  rfl H locs ls hP hD hS (lv_sub hl [2, 3, 4, 5, 6, 7, 8] rfl)
          · replace hm := if_f hm c14
            refine lv_iload hx hb d_Li_someLieAlong_75 (lv_at hl 0 rfl) ?_
            refine lv_if_lt (tgt := 90) hx hb d_Li_someLieAlong_77 (by decide) (fun c15 => ?_) (fun c15 => ?_)
            · replace hm := if_t hm c15
              cases hm
              exact K10  rfl H locs ls hP hD hS (lv_sub hl [2, 3, 4, 5, 6, 7, 8] rfl)
            · replace hm := if_f hm c15
              refine lv_iload hx hb d_Li_someLieAlong_80 (lv_at hl 1 rfl) ?_
              refine lv_iload hx hb d_Li_someLieAlong_82 (lv_at hl 0 rfl) ?_
              refine lv_iadd hx hb d_Li_someLieAlong_84 ?_
              refine lv_if_le (tgt := 90) hx hb d_Li_someLieAlong_85 (by decide) (fun c16 => ?_) (fun c16 => ?_)
              · replace hm := if_t hm c16
                cases hm
                exact K10  rfl H locs ls hP hD hS (lv_sub hl [2, 3, 4, 5, 6, 7, 8] rfl)
              · replace hm := if_f hm c16
                refine lv_iconst (v := 1) hx hb d_Li_someLieAlong_88 (by decide) ?_
                obtain ⟨hB, hm⟩ := gB_e hm
                cases hm
                cases (KR _ (hz12 _ rfl))
                exact hret _ H locs ls d_Li_someLieAlong_89 hB hP hD hS
  obtain ⟨zhz19, hb18, hz19, hm⟩ := bs0_z hm
  refine L3_2 fu _ _ hb18 (fun r hr => hz19 r hr) (fun  hq H locs ls hP hD hS hl => ?_) H locs ls hP hD hS (lv_sub hl [1, 2, 3, 4, 5, 6, 0] rfl)
  replace hm := hm  hq
  refine lv_iconst (v := 0) hx hb d_Li_someLieAlong_96 (by decide) ?_
  obtain ⟨hB, hm⟩ := gB_e hm
  cases hm
  exact hret _ H locs ls d_Li_someLieAlong_97 hB hP hD hS
set_option maxHeartbeats 4000000 in
set_option maxRecDepth 100000 in
theorem c_Li_someLieAlong (l : Launch) (dC : Nat → ClassId) (dI : Nat → Nat → Nat) {cI cZ cJ : ClassId} (a_0 a_0_lowX a_0_lowY a_0_highX a_0_highY b_0_thickness b_0_doors b_0_doorFrom b_0_doorTo : Nat) (sz : Nat) (v_0_count : Int32) (f_0_lowX : Nat → Int32) (f_0_lowY : Nat → Int32) (f_0_highX : Nat → Int32) (f_0_highY : Nat → Int32) (p1 : Int32) (p2 : Int32) (p3 : Int32) (p4 : Int32) (p5 : Int32) (R0 : Int32) (hm : m_Li_someLieAlong p1 p2 p3 p4 p5 v_0_count f_0_lowX f_0_lowY f_0_highX f_0_highY = some R0) : Met l y_Li_someLieAlong w_Li_someLieAlong rm_Li_someLieAlong (PP dC dI [(cI, .int), (cZ, .boolean), (cJ, .long)] [.ref a_0, .int p1, .int p2, .int p3, .int p4, .int p5] sz (wl_Li_someLieAlong a_0 a_0_lowX a_0_lowY a_0_highX a_0_highY b_0_thickness b_0_doors b_0_doorFrom b_0_doorTo cI v_0_count f_0_lowX f_0_lowY f_0_highX f_0_highY)) (QI dC dI [(cI, .int), (cZ, .boolean), (cJ, .long)] sz (wl_Li_someLieAlong a_0 a_0_lowX a_0_lowY a_0_highX a_0_highY b_0_thickness b_0_doors b_0_doorFrom b_0_doorTo cI v_0_count f_0_lowX f_0_lowY f_0_highX f_0_highY) (wl_Li_someLieAlong a_0 a_0_lowX a_0_lowY a_0_highX a_0_highY b_0_thickness b_0_doors b_0_doorFrom b_0_doorTo cI v_0_count f_0_lowX f_0_lowY f_0_highX f_0_highY) R0) 0 0 (va_A (wl_Li_someLieAlong a_0 a_0_lowX a_0_lowY a_0_highX a_0_highY b_0_thickness b_0_doors b_0_doorFrom b_0_doorTo cI v_0_count f_0_lowX f_0_lowY f_0_highX f_0_highY) sz) := by
  refine Met.ofW (cc := b_Li_someLieAlong) (maxL := 9) (ret := (some .boolean)) (by decide) rfl ?_
  intro p e s m args below meth c s₁ B hml hv
  obtain ⟨rfl, hsz, hP, hK, hD0, hN⟩ := hv
  subst hsz
  have hl := lv_entry ([.ref a_0, .int p1, .int p2, .int p3, .int p4, .int p5]) (n := 9) (Nat.le_of_ble_eq_true rfl)
  rw [lg_entry_eq]
  generalize (lg_sl ([.ref a_0, .int p1, .int p2, .int p3, .int p4, .int p5]) ++ List.replicate (9 - (lg_sl ([.ref a_0, .int p1, .int p2, .int p3, .int p4, .int p5])).length) Slot.unset).toArray = ls at hl ⊢
  exact t_Li_someLieAlong a_0 a_0_lowX a_0_lowY a_0_highX a_0_highY b_0_thickness b_0_doors b_0_doorFrom b_0_doorTo v_0_count f_0_lowX f_0_lowY f_0_highX f_0_highY p1 p2 p3 p4 p5 R0 B.exec B.bytes hml (findClass_of_methodNamed B.named) (atoms_spec (ws := w_Li_someLieAlong) B.pre) hK hN (fun q h => Or.inr h) (fun pc H locs ls hd hz hP9 hD9 hS => W.zret B.exec B.bytes B.returns (nar_b hz) (fun t ht hW => ⟨⟨_, (), rfl, rfl, by rw [ht]; exact hP9, va_K.moved hW.alike hK, hD9⟩, hS.F ht⟩) hS.2.2 hd) hm s.heap [] ls hP hD0.self va_S.rf hl

-- SpaceCycles$Lines.someHold(II)Z
abbrev b_Li_someHold : ByteArray := prog_6_method_6_code
abbrev y_Li_someHold : MethodName := ⟨"SpaceCycles$Lines", "someHold", "(II)Z"⟩
abbrev w_Li_someHold : List Cond := Cond.code y_Li_someHold b_Li_someHold 4 (some .boolean) :: gl
abbrev rm_Li_someHold : Room := { frames := 0, cells := 0, slots := 0, locals := 0 }
theorem d_Li_someHold_0 : decode b_Li_someHold 0 = .ok (.iconst 0, 1) := by decide +kernel
theorem d_Li_someHold_1 : decode b_Li_someHold 1 = .ok (.istore_n 3, 1) := by decide +kernel
theorem d_Li_someHold_2 : decode b_Li_someHold 2 = .ok (.iload_n 3, 1) := by decide +kernel
theorem d_Li_someHold_3 : decode b_Li_someHold 3 = .ok (.aload_n 0, 1) := by decide +kernel
theorem d_Li_someHold_4 : decode b_Li_someHold 4 = .ok (.getfield 36, 3) := by decide +kernel
theorem d_Li_someHold_7 : decode b_Li_someHold 7 = .ok (.if_icmp .ge 51, 3) := by decide +kernel
theorem d_Li_someHold_10 : decode b_Li_someHold 10 = .ok (.aload_n 0, 1) := by decide +kernel
theorem d_Li_someHold_11 : decode b_Li_someHold 11 = .ok (.getfield 9, 3) := by decide +kernel
theorem d_Li_someHold_14 : decode b_Li_someHold 14 = .ok (.iload_n 3, 1) := by decide +kernel
theorem d_Li_someHold_15 : decode b_Li_someHold 15 = .ok (.iaload, 1) := by decide +kernel
theorem d_Li_someHold_16 : decode b_Li_someHold 16 = .ok (.iload_n 1, 1) := by decide +kernel
theorem d_Li_someHold_17 : decode b_Li_someHold 17 = .ok (.if_icmp .gt 35, 3) := by decide +kernel
theorem d_Li_someHold_20 : decode b_Li_someHold 20 = .ok (.iload_n 1, 1) := by decide +kernel
theorem d_Li_someHold_21 : decode b_Li_someHold 21 = .ok (.aload_n 0, 1) := by decide +kernel
theorem d_Li_someHold_22 : decode b_Li_someHold 22 = .ok (.getfield 18, 3) := by decide +kernel
theorem d_Li_someHold_25 : decode b_Li_someHold 25 = .ok (.iload_n 3, 1) := by decide +kernel
theorem d_Li_someHold_26 : decode b_Li_someHold 26 = .ok (.iaload, 1) := by decide +kernel
theorem d_Li_someHold_27 : decode b_Li_someHold 27 = .ok (.if_icmp .gt 25, 3) := by decide +kernel
theorem d_Li_someHold_30 : decode b_Li_someHold 30 = .ok (.aload_n 0, 1) := by decide +kernel
theorem d_Li_someHold_31 : decode b_Li_someHold 31 = .ok (.getfield 15, 3) := by decide +kernel
theorem d_Li_someHold_34 : decode b_Li_someHold 34 = .ok (.iload_n 3, 1) := by decide +kernel
theorem d_Li_someHold_35 : decode b_Li_someHold 35 = .ok (.iaload, 1) := by decide +kernel
theorem d_Li_someHold_36 : decode b_Li_someHold 36 = .ok (.iload_n 2, 1) := by decide +kernel
theorem d_Li_someHold_37 : decode b_Li_someHold 37 = .ok (.if_icmp .gt 15, 3) := by decide +kernel
theorem d_Li_someHold_40 : decode b_Li_someHold 40 = .ok (.iload_n 2, 1) := by decide +kernel
theorem d_Li_someHold_41 : decode b_Li_someHold 41 = .ok (.aload_n 0, 1) := by decide +kernel
theorem d_Li_someHold_42 : decode b_Li_someHold 42 = .ok (.getfield 21, 3) := by decide +kernel
theorem d_Li_someHold_45 : decode b_Li_someHold 45 = .ok (.iload_n 3, 1) := by decide +kernel
theorem d_Li_someHold_46 : decode b_Li_someHold 46 = .ok (.iaload, 1) := by decide +kernel
theorem d_Li_someHold_47 : decode b_Li_someHold 47 = .ok (.if_icmp .gt 5, 3) := by decide +kernel
theorem d_Li_someHold_50 : decode b_Li_someHold 50 = .ok (.iconst 1, 1) := by decide +kernel
theorem d_Li_someHold_51 : decode b_Li_someHold 51 = .ok (.ireturn, 1) := by decide +kernel
theorem d_Li_someHold_52 : decode b_Li_someHold 52 = .ok (.iinc 3 1, 3) := by decide +kernel
theorem d_Li_someHold_55 : decode b_Li_someHold 55 = .ok (.goto (-53), 3) := by decide +kernel
theorem d_Li_someHold_58 : decode b_Li_someHold 58 = .ok (.iconst 0, 1) := by decide +kernel
theorem d_Li_someHold_59 : decode b_Li_someHold 59 = .ok (.ireturn, 1) := by decide +kernel
abbrev wl_Li_someHold (a_0 : Nat) (a_0_lowX : Nat) (a_0_lowY : Nat) (a_0_highX : Nat) (a_0_highY : Nat) (b_0_thickness : Nat) (b_0_doors : Nat) (b_0_doorFrom : Nat) (b_0_doorTo : Nat) (cI : ClassId) (v_0_count : Int32) (f_0_lowX : Nat → Int32) (f_0_lowY : Nat → Int32) (f_0_highX : Nat → Int32) (f_0_highY : Nat → Int32) : va_W := [(a_0, .inr (1, [.ref a_0_lowX, .ref a_0_lowY, .ref a_0_highX, .ref a_0_highY, .ref b_0_thickness, .ref b_0_doors, .ref b_0_doorFrom, .ref b_0_doorTo, .int v_0_count])), (a_0_lowX, .inl (cI, 20, .inl f_0_lowX)), (a_0_lowY, .inl (cI, 20, .inl f_0_lowY)), (a_0_highX, .inl (cI, 20, .inl f_0_highX)), (a_0_highY, .inl (cI, 20, .inl f_0_highY))]
def m_Li_someHold_L2 (l1 : Int32) (l2 : Int32) (v_0_count : Int32) (f_0_lowX : Nat → Int32) (f_0_lowY : Nat → Int32) (f_0_highX : Nat → Int32) (f_0_highY : Nat → Int32) : Nat → Int32 → Option (Sum (Int32) (Unit))
  | 0, _ => none
  | n + 1, l3 =>
    if v_0_count ≤ l3 then (
      some (Sum.inr ()))
    else (
      gI l3 20 <|
      bt0 (
        if l1 < (f_0_lowX l3.toNatClampNeg) then (
        some (Sum.inr ()))
      else (
        gI l3 20 <|
        if (f_0_highX l3.toNatClampNeg) < l1 then (
          some (Sum.inr ()))
        else (
          gI l3 20 <|
          if l2 < (f_0_lowY l3.toNatClampNeg) then (
            some (Sum.inr ()))
          else (
            gI l3 20 <|
            if (f_0_highY l3.toNatClampNeg) < l2 then (
              some (Sum.inr ()))
            else (
              gB 1 <|
              some (Sum.inl 1)))))) <|
      lt_ (l3 + 1) fun x13 =>
        m_Li_someHold_L2 l1 l2 v_0_count f_0_lowX f_0_lowY f_0_highX f_0_highY n x13)
def m_Li_someHold (p1 : Int32) (p2 : Int32) (v_0_count : Int32) (f_0_lowX : Nat → Int32) (f_0_lowY : Nat → Int32) (f_0_highX : Nat → Int32) (f_0_highY : Nat → Int32) : Option (Int32) :=
  bs0 (m_Li_someHold_L2 p1 p2 v_0_count f_0_lowX f_0_lowY f_0_highX f_0_highY fu 0) <|
  gB 0 <|
  some 0

set_option maxHeartbeats 4000000 in
set_option maxRecDepth 100000 in
theorem t_Li_someHold {p : Program} {l : Launch} {e : Env} {s : State} {m : MethodId} {args : Array Value} {below : List Frame} {meth : Method} {c : Code} {A : Nat → Prop} {Q : State → Prop} {dC : Nat → ClassId} {dI : Nat → Nat → Nat} {cI cZ cJ : ClassId} (a_0 a_0_lowX a_0_lowY a_0_highX a_0_highY b_0_thickness b_0_doors b_0_doorFrom b_0_doorTo : Nat) (v_0_count : Int32) (f_0_lowX : Nat → Int32) (f_0_lowY : Nat → Int32) (f_0_highX : Nat → Int32) (f_0_highY : Nat → Int32) (p1 : Int32) (p2 : Int32) (R0 : Int32) (hx : p.tables.exec = Jvm.exec) (hb : c.code = b_Li_someHold) (hml : c.maxLocals = 4) (hown : s.vm.findClass "SpaceCycles$Lines" = some m.cls) (hts : ∀ w ∈ w_Li_someHold, w.before args s = true) (hK : va_K (dC, dI) vwCl [(cI, .int), (cZ, .boolean), (cJ, .long)] s) (hN : NX s) (hA : ∀ q : Nat, s.heap.size ≤ q → A q)
    (hret : ∀ (pc : Nat) (H : Heap) (locs : List Loc) (ls : Array Slot), decode b_Li_someHold pc = .ok (.ireturn, 1) → (R0 = 0 ∨ R0 = 1) → va_P (dC, dI) vwCl (wl_Li_someHold a_0 a_0_lowX a_0_lowY a_0_highX a_0_highY b_0_thickness b_0_doors b_0_doorFrom b_0_doorTo cI v_0_count f_0_lowX f_0_lowY f_0_highX f_0_highY) H → va_D A (wl_Li_someHold a_0 a_0_lowX a_0_lowY a_0_highX a_0_highY b_0_thickness b_0_doors b_0_doorFrom b_0_doorTo cI v_0_count f_0_lowX f_0_lowY f_0_highX f_0_highY) → va_S A s.heap H locs → W p l e rm_Li_someHold s m args below meth c H locs 0 0 Q (F0 m pc ls [.int R0]))
    (hm : m_Li_someHold p1 p2 v_0_count f_0_lowX f_0_lowY f_0_highX f_0_highY = some R0) : ∀ (H : Heap) (locs : List Loc) (ls : Array Slot), va_P (dC, dI) vwCl (wl_Li_someHold a_0 a_0_lowX a_0_lowY a_0_highX a_0_highY b_0_thickness b_0_doors b_0_doorFrom b_0_doorTo cI v_0_count f_0_lowX f_0_lowY f_0_highX f_0_highY) H → va_D A (wl_Li_someHold a_0 a_0_lowX a_0_lowY a_0_highX a_0_highY b_0_thickness b_0_doors b_0_doorFrom b_0_doorTo cI v_0_count f_0_lowX f_0_lowY f_0_highX f_0_highY) → va_S A s.heap H locs → lv_has ls 4 [(0, .ref a_0), (1, .int p1), (2, .int p2)] → W p l e rm_Li_someHold s m args below meth c H locs 0 0 Q (F0 m 0 ls []) := by
  intro H locs ls hP hD hS hl
  unfold m_Li_someHold at hm
  refine lv_iconst (v := 0) hx hb d_Li_someHold_0 (by decide) ?_
  refine lv_istore_n (lv' := [(3, .int 0), (0, .ref a_0), (1, .int p1), (2, .int p2)]) hx hb d_Li_someHold_1 rfl hl (by decide) rfl (fun ls hl => ?_)
  have L2_2 : ∀ (n : Nat) (x1 : Int32) (z : Sum (Int32) (Unit)), m_Li_someHold_L2 p1 p2 v_0_count f_0_lowX f_0_lowY f_0_highX f_0_highY n x1 = some z → (∀ r, z = Sum.inl r → R0 = r) → (z = Sum.inr () → ∀ (H : Heap) (locs : List Loc) (ls : Array Slot), va_P (dC, dI) vwCl (wl_Li_someHold a_0 a_0_lowX a_0_lowY a_0_highX a_0_highY b_0_thickness b_0_doors b_0_doorFrom b_0_doorTo cI v_0_count f_0_lowX f_0_lowY f_0_highX f_0_highY) H → va_D A (wl_Li_someHold a_0 a_0_lowX a_0_lowY a_0_highX a_0_highY b_0_thickness b_0_doors b_0_doorFrom b_0_doorTo cI v_0_count f_0_lowX f_0_lowY f_0_highX f_0_highY) → va_S A s.heap H locs → lv_has ls 4 [] → W p l e rm_Li_someHold s m args below meth c H locs 0 0 Q (F0 m 58 ls [])) → ∀ (H : Heap) (locs : List Loc) (ls : Array Slot), va_P (dC, dI) vwCl (wl_Li_someHold a_0 a_0_lowX a_0_lowY a_0_highX a_0_highY b_0_thickness b_0_doors b_0_doorFrom b_0_doorTo cI v_0_count f_0_lowX f_0_lowY f_0_highX f_0_highY) H → va_D A (wl_Li_someHold a_0 a_0_lowX a_0_lowY a_0_highX a_0_highY b_0_thickness b_0_doors b_0_doorFrom b_0_doorTo cI v_0_count f_0_lowX f_0_lowY f_0_highX f_0_highY) → va_S A s.heap H locs → lv_has ls 4 [(0, .ref a_0), (1, .int p1), (2, .int p2), (3, .int x1)] → W p l e rm_Li_someHold s m args below meth c H locs 0 0 Q (F0 m 2 ls []) := by
    intro n
    induction n with
    | zero => intro x1 z hm; simp [m_Li_someHold_L2] at hm
    | succ n ih =>
      intro x1 z hm KR KE H locs ls hP hD hS hl
      rw [m_Li_someHold_L2] at hm
      refine lv_iload_n hx hb d_Li_someHold_2 rfl (lv_at hl 3 rfl) ?_
      refine lv_aload_n hx hb d_Li_someHold_3 rfl (lv_at hl 0 rfl) ?_
      refine va_get (D := (dC, dI)) (ci := 1) (v := .int v_0_count) (C := "SpaceCycles$Lines") (T := F_Li) (N := 9) hx hb hts (in_F i_Li) hown hK hP 0 rfl rfl 8 (by decide) (hts _ (in_c k_19)) (fun _ h9 => h9) rfl d_Li_someHold_4 ?_
      refine lv_icmp_ge (tgt := 58) hx hb d_Li_someHold_7 (by decide) (fun c3 => ?_) (fun c3 => ?_)
      · replace hm := if_t hm c3
        cases hm
        exact KE  rfl H locs ls hP hD hS (lv_sub hl [] rfl)
      · replace hm := if_f hm c3
        refine lv_aload_n hx hb d_Li_someHold_10 rfl (lv_at hl 0 rfl) ?_
        refine va_get (D := (dC, dI)) (ci := 1) (v := .ref a_0_lowX) (C := "SpaceCycles$Lines") (T := F_Li) (N := 9) hx hb hts (in_F i_Li) hown hK hP 0 rfl rfl 0 (by decide) (hts _ (in_c k_15)) (fun _ h9 => h9) rfl d_Li_someHold_11 ?_
        refine lv_iload_n hx hb d_Li_someHold_14 rfl (lv_at hl 3 rfl) ?_
        obtain ⟨hi4, hm⟩ := gI_e hm
        refine va_iald hx hb hK hP 1 0 rfl rfl hi4 d_Li_someHold_15 ?_
        refine lv_iload_n hx hb d_Li_someHold_16 rfl (lv_at hl 1 rfl) ?_
        obtain ⟨zhz7, hb6, hz7, hm⟩ := bt0_z hm
        have K5 : zhz7 = Sum.inr () → ∀ (H : Heap) (locs : List Loc) (ls : Array Slot), va_P (dC, dI) vwCl (wl_Li_someHold a_0 a_0_lowX a_0_lowY a_0_highX a_0_highY b_0_thickness b_0_doors b_0_doorFrom b_0_doorTo cI v_0_count f_0_lowX f_0_lowY f_0_highX f_0_highY) H → va_D A (wl_Li_someHold a_0 a_0_lowX a_0_lowY a_0_highX a_0_highY b_0_thickness b_0_doors b_0_doorFrom b_0_doorTo cI v_0_count f_0_lowX f_0_lowY f_0_highX f_0_highY) → va_S A s.heap H locs → lv_has ls 4 [(0, .ref a_0), (1, .int p1), (2, .int p2), (3, .int x1)] → W p l e rm_Li_someHold s m args below meth c H locs 0 0 Q (F0 m 52 ls []) := by
          intro  hq H locs ls hP hD hS hl
          replace hm := hm  hq
          obtain ⟨x15, ex15⟩ : ∃ y : Int32, y = x1 + 1 := ⟨_, rfl⟩
          replace hm := lt_el hm ex15
          refine lv_iinc (v := x15) (lv' := [(3, .int x15), (0, .ref a_0), (1, .int p1), (2, .int p2)]) hx hb d_Li_someHold_52 hl (k := 3) rfl (by rw [ex15]; rfl) (by decide) rfl (fun ls hl => ?_)
          refine lv_goto (tgt := 2) hx hb d_Li_someHold_55 (by decide) ?_
          exact ih _ _ hm KR KE H locs ls hP hD hS (lv_sub hl [1, 2, 3, 0] rfl)
        replace hm := hb6
        refine lv_icmp_gt (tgt := 52) hx hb d_Li_someHold_17 (by decide) (fun c8 => ?_) (fun c8 => ?_)
        · replace hm := if_t hm c8
          cases hm
          exact K5  rfl H locs ls hP hD hS (lv_sub hl [0, 1, 2, 3] rfl)
        · replace hm := if_f hm c8
          refine lv_iload_n hx hb d_Li_someHold_20 rfl (lv_at hl 1 rfl) ?_
          refine lv_aload_n hx hb d_Li_someHold_21 rfl (lv_at hl 0 rfl) ?_
          refine va_get (D := (dC, dI)) (ci := 1) (v := .ref a_0_highX) (C := "SpaceCycles$Lines") (T := F_Li) (N := 9) hx hb hts (in_F i_Li) hown hK hP 0 rfl rfl 2 (by decide) (hts _ (in_c k_17)) (fun _ h9 => h9) rfl d_Li_someHold_22 ?_
          refine lv_iload_n hx hb d_Li_someHold_25 rfl (lv_at hl 3 rfl) ?_
          obtain ⟨hi9, hm⟩ := gI_e hm
          refine va_iald hx hb hK hP 3 0 rfl rfl hi9 d_Li_someHold_26 ?_
          refine lv_icmp_gt (tgt := 52) hx hb d_Li_someHold_27 (by decide) (fun c10 => ?_) (fun c10 => ?_)
          · replace hm := if_t hm c10
            cases hm
            exact K5  rfl H locs ls hP hD hS (lv_sub hl [0, 1, 2, 3] rfl)
          · replace hm := if_f hm c10
            refine lv_aload_n hx hb d_Li_someHold_30 rfl (lv_at hl 0 rfl) ?_
            refine va_get (D := (dC, dI)) (ci := 1) (v := .ref a_0_lowY) (C := "SpaceCycles$Lines") (T := F_Li) (N := 9) hx hb hts (in_F i_Li) hown hK hP 0 rfl rfl 1 (by decide) (hts _ (in_c k_16)) (fun _ h9 => h9) rfl d_Li_someHold_31 ?_
            refine lv_iload_n hx hb d_Li_someHold_34 rfl (lv_at hl 3 rfl) ?_
            obtain ⟨hi11, hm⟩ := gI_e hm
            refine va_iald hx hb hK hP 2 0 rfl rfl hi11 d_Li_someHold_35 ?_
            refine lv_iload_n hx hb d_Li_someHold_36 rfl (lv_at hl 2 rfl) ?_
            refine lv_icmp_gt (tgt := 52) hx hb d_Li_someHold_37 (by decide) (fun c12 => ?_) (fun c12 => ?_)
            · replace hm := if_t hm c12
              cases hm
              exact K5  rfl H locs ls hP hD hS (lv_sub hl [0, 1, 2, 3] rfl)
            · replace hm := if_f hm c12
              refine lv_iload_n hx hb d_Li_someHold_40 rfl (lv_at hl 2 rfl) ?_
              refine lv_aload_n hx hb d_Li_someHold_41 rfl (lv_at hl 0 rfl) ?_
              refine va_get (D := (dC, dI)) (ci := 1) (v := .ref a_0_highY) (C := "SpaceCycles$Lines") (T := F_Li) (N := 9) hx hb hts (in_F i_Li) hown hK hP 0 rfl rfl 3 (by decide) (hts _ (in_c k_18)) (fun _ h9 => h9) rfl d_Li_someHold_42 ?_
              refine lv_iload_n hx hb d_Li_someHold_45 rfl (lv_at hl 3 rfl) ?_
              obtain ⟨hi13, hm⟩ := gI_e hm
              refine va_iald hx hb hK hP 4 0 rfl rfl hi13 d_Li_someHold_46 ?_
              refine lv_icmp_gt (tgt := 52) hx hb d_Li_someHold_47 (by decide) (fun c14 => ?_) (fun c14 => ?_)
              · replace hm := if_t hm c14
                cases hm
                exact K5  rfl H locs ls hP hD hS (lv_sub hl [0, 1, 2, 3] rfl)
              · replace hm := if_f hm c14
                refine lv_iconst (v := 1) hx hb d_Li_someHold_50 (by decide) ?_
                obtain ⟨hB, hm⟩ := gB_e hm
                cases hm
                cases (KR _ (hz7 _ rfl))
                exact hret _ H locs ls d_Li_someHold_51 hB hP hD hS
  obtain ⟨zhz17, hb16, hz17, hm⟩ := bs0_z hm
  refine L2_2 fu _ _ hb16 (fun r hr => hz17 r hr) (fun  hq H locs ls hP hD hS hl => ?_) H locs ls hP hD hS (lv_sub hl [1, 2, 3, 0] rfl)
  replace hm := hm  hq
  refine lv_iconst (v := 0) hx hb d_Li_someHold_58 (by decide) ?_
  obtain ⟨hB, hm⟩ := gB_e hm
  cases hm
  exact hret _ H locs ls d_Li_someHold_59 hB hP hD hS
set_option maxHeartbeats 4000000 in
set_option maxRecDepth 100000 in
theorem c_Li_someHold (l : Launch) (dC : Nat → ClassId) (dI : Nat → Nat → Nat) {cI cZ cJ : ClassId} (a_0 a_0_lowX a_0_lowY a_0_highX a_0_highY b_0_thickness b_0_doors b_0_doorFrom b_0_doorTo : Nat) (sz : Nat) (v_0_count : Int32) (f_0_lowX : Nat → Int32) (f_0_lowY : Nat → Int32) (f_0_highX : Nat → Int32) (f_0_highY : Nat → Int32) (p1 : Int32) (p2 : Int32) (R0 : Int32) (hm : m_Li_someHold p1 p2 v_0_count f_0_lowX f_0_lowY f_0_highX f_0_highY = some R0) : Met l y_Li_someHold w_Li_someHold rm_Li_someHold (PP dC dI [(cI, .int), (cZ, .boolean), (cJ, .long)] [.ref a_0, .int p1, .int p2] sz (wl_Li_someHold a_0 a_0_lowX a_0_lowY a_0_highX a_0_highY b_0_thickness b_0_doors b_0_doorFrom b_0_doorTo cI v_0_count f_0_lowX f_0_lowY f_0_highX f_0_highY)) (QI dC dI [(cI, .int), (cZ, .boolean), (cJ, .long)] sz (wl_Li_someHold a_0 a_0_lowX a_0_lowY a_0_highX a_0_highY b_0_thickness b_0_doors b_0_doorFrom b_0_doorTo cI v_0_count f_0_lowX f_0_lowY f_0_highX f_0_highY) (wl_Li_someHold a_0 a_0_lowX a_0_lowY a_0_highX a_0_highY b_0_thickness b_0_doors b_0_doorFrom b_0_doorTo cI v_0_count f_0_lowX f_0_lowY f_0_highX f_0_highY) R0) 0 0 (va_A (wl_Li_someHold a_0 a_0_lowX a_0_lowY a_0_highX a_0_highY b_0_thickness b_0_doors b_0_doorFrom b_0_doorTo cI v_0_count f_0_lowX f_0_lowY f_0_highX f_0_highY) sz) := by
  refine Met.ofW (cc := b_Li_someHold) (maxL := 4) (ret := (some .boolean)) (by decide) rfl ?_
  intro p e s m args below meth c s₁ B hml hv
  obtain ⟨rfl, hsz, hP, hK, hD0, hN⟩ := hv
  subst hsz
  have hl := lv_entry ([.ref a_0, .int p1, .int p2]) (n := 4) (Nat.le_of_ble_eq_true rfl)
  rw [lg_entry_eq]
  generalize (lg_sl ([.ref a_0, .int p1, .int p2]) ++ List.replicate (4 - (lg_sl ([.ref a_0, .int p1, .int p2])).length) Slot.unset).toArray = ls at hl ⊢
  exact t_Li_someHold a_0 a_0_lowX a_0_lowY a_0_highX a_0_highY b_0_thickness b_0_doors b_0_doorFrom b_0_doorTo v_0_count f_0_lowX f_0_lowY f_0_highX f_0_highY p1 p2 R0 B.exec B.bytes hml (findClass_of_methodNamed B.named) (atoms_spec (ws := w_Li_someHold) B.pre) hK hN (fun q h => Or.inr h) (fun pc H locs ls hd hz hP9 hD9 hS => W.zret B.exec B.bytes B.returns (nar_b hz) (fun t ht hW => ⟨⟨_, (), rfl, rfl, by rw [ht]; exact hP9, va_K.moved hW.alike hK, hD9⟩, hS.F ht⟩) hS.2.2 hd) hm s.heap [] ls hP hD0.self va_S.rf hl

theorem k_24 : ((.fieldLink "SpaceCycles$Lines" 27 "SpaceCycles$Lines" "doors" "[I") : Cond) ∈ gl := gl_i 68 (by decide +kernel) (by decide +kernel)
theorem k_25 : ((.fieldLink "SpaceCycles$Lines" 30 "SpaceCycles$Lines" "doorFrom" "[I") : Cond) ∈ gl := gl_i 70 (by decide +kernel) (by decide +kernel)
theorem k_26 : ((.fieldLink "SpaceCycles$Lines" 33 "SpaceCycles$Lines" "doorTo" "[I") : Cond) ∈ gl := gl_i 71 (by decide +kernel) (by decide +kernel)
-- SpaceCycles$Lines.addDoor(III)I
abbrev b_Li_addDoor : ByteArray := prog_6_method_7_code
abbrev y_Li_addDoor : MethodName := ⟨"SpaceCycles$Lines", "addDoor", "(III)I"⟩
abbrev w_Li_addDoor : List Cond := Cond.code y_Li_addDoor b_Li_addDoor 5 (some .int) :: gl
abbrev rm_Li_addDoor : Room := { frames := 0, cells := 0, slots := 0, locals := 0 }
theorem d_Li_addDoor_0 : decode b_Li_addDoor 0 = .ok (.iload_n 1, 1) := by decide +kernel
theorem d_Li_addDoor_1 : decode b_Li_addDoor 1 = .ok (.bipush 6, 2) := by decide +kernel
theorem d_Li_addDoor_3 : decode b_Li_addDoor 3 = .ok (.imul, 1) := by decide +kernel
theorem d_Li_addDoor_4 : decode b_Li_addDoor 4 = .ok (.aload_n 0, 1) := by decide +kernel
theorem d_Li_addDoor_5 : decode b_Li_addDoor 5 = .ok (.getfield 27, 3) := by decide +kernel
theorem d_Li_addDoor_8 : decode b_Li_addDoor 8 = .ok (.iload_n 1, 1) := by decide +kernel
theorem d_Li_addDoor_9 : decode b_Li_addDoor 9 = .ok (.iaload, 1) := by decide +kernel
theorem d_Li_addDoor_10 : decode b_Li_addDoor 10 = .ok (.iadd, 1) := by decide +kernel
theorem d_Li_addDoor_11 : decode b_Li_addDoor 11 = .ok (.istore 4, 2) := by decide +kernel
theorem d_Li_addDoor_13 : decode b_Li_addDoor 13 = .ok (.aload_n 0, 1) := by decide +kernel
theorem d_Li_addDoor_14 : decode b_Li_addDoor 14 = .ok (.getfield 30, 3) := by decide +kernel
theorem d_Li_addDoor_17 : decode b_Li_addDoor 17 = .ok (.iload 4, 2) := by decide +kernel
theorem d_Li_addDoor_19 : decode b_Li_addDoor 19 = .ok (.iload_n 2, 1) := by decide +kernel
theorem d_Li_addDoor_20 : decode b_Li_addDoor 20 = .ok (.iastore, 1) := by decide +kernel
theorem d_Li_addDoor_21 : decode b_Li_addDoor 21 = .ok (.aload_n 0, 1) := by decide +kernel
theorem d_Li_addDoor_22 : decode b_Li_addDoor 22 = .ok (.getfield 33, 3) := by decide +kernel
theorem d_Li_addDoor_25 : decode b_Li_addDoor 25 = .ok (.iload 4, 2) := by decide +kernel
theorem d_Li_addDoor_27 : decode b_Li_addDoor 27 = .ok (.iload_n 3, 1) := by decide +kernel
theorem d_Li_addDoor_28 : decode b_Li_addDoor 28 = .ok (.iastore, 1) := by decide +kernel
theorem d_Li_addDoor_29 : decode b_Li_addDoor 29 = .ok (.aload_n 0, 1) := by decide +kernel
theorem d_Li_addDoor_30 : decode b_Li_addDoor 30 = .ok (.getfield 27, 3) := by decide +kernel
theorem d_Li_addDoor_33 : decode b_Li_addDoor 33 = .ok (.iload_n 1, 1) := by decide +kernel
theorem d_Li_addDoor_34 : decode b_Li_addDoor 34 = .ok (.dup2, 1) := by decide +kernel
theorem d_Li_addDoor_35 : decode b_Li_addDoor 35 = .ok (.iaload, 1) := by decide +kernel
theorem d_Li_addDoor_36 : decode b_Li_addDoor 36 = .ok (.iconst 1, 1) := by decide +kernel
theorem d_Li_addDoor_37 : decode b_Li_addDoor 37 = .ok (.iadd, 1) := by decide +kernel
theorem d_Li_addDoor_38 : decode b_Li_addDoor 38 = .ok (.iastore, 1) := by decide +kernel
theorem d_Li_addDoor_39 : decode b_Li_addDoor 39 = .ok (.aload_n 0, 1) := by decide +kernel
theorem d_Li_addDoor_40 : decode b_Li_addDoor 40 = .ok (.getfield 27, 3) := by decide +kernel
theorem d_Li_addDoor_43 : decode b_Li_addDoor 43 = .ok (.iload_n 1, 1) := by decide +kernel
theorem d_Li_addDoor_44 : decode b_Li_addDoor 44 = .ok (.iaload, 1) := by decide +kernel
theorem d_Li_addDoor_45 : decode b_Li_addDoor 45 = .ok (.ireturn, 1) := by decide +kernel
abbrev wl_Li_addDoor (a_0 : Nat) (a_0_doors : Nat) (a_0_doorFrom : Nat) (a_0_doorTo : Nat) (b_0_lowX : Nat) (b_0_lowY : Nat) (b_0_highX : Nat) (b_0_highY : Nat) (b_0_thickness : Nat) (cI : ClassId) (v_0_count : Int32) (f_0_doors : Nat → Int32) (f_0_doorFrom : Nat → Int32) (f_0_doorTo : Nat → Int32) : va_W := [(a_0, .inr (1, [.ref b_0_lowX, .ref b_0_lowY, .ref b_0_highX, .ref b_0_highY, .ref b_0_thickness, .ref a_0_doors, .ref a_0_doorFrom, .ref a_0_doorTo, .int v_0_count])), (a_0_doors, .inl (cI, 20, .inl f_0_doors)), (a_0_doorFrom, .inl (cI, 120, .inl f_0_doorFrom)), (a_0_doorTo, .inl (cI, 120, .inl f_0_doorTo))]
def m_Li_addDoor (p1 : Int32) (p2 : Int32) (p3 : Int32) (f_0_doors : Nat → Int32) (f_0_doorFrom : Nat → Int32) (f_0_doorTo : Nat → Int32) : Option (Int32 × (Nat → Int32) × (Nat → Int32) × (Nat → Int32)) :=
  gI p1 20 <|
  lt_ ((p1 * 6) + (f_0_doors p1.toNatClampNeg)) fun x2 =>
  gI x2 120 <|
  lt_ (upd f_0_doorFrom x2.toNatClampNeg p2) fun f4 =>
  gI x2 120 <|
  lt_ (upd f_0_doorTo x2.toNatClampNeg p3) fun f6 =>
  gI p1 20 <|
  gI p1 20 <|
  lt_ (upd f_0_doors p1.toNatClampNeg ((f_0_doors p1.toNatClampNeg) + 1)) fun f9 =>
  gI p1 20 <|
  some (f9 p1.toNatClampNeg, f9, f4, f6)

set_option maxHeartbeats 4000000 in
set_option maxRecDepth 100000 in
theorem t_Li_addDoor {p : Program} {l : Launch} {e : Env} {s : State} {m : MethodId} {args : Array Value} {below : List Frame} {meth : Method} {c : Code} {A : Nat → Prop} {Q : State → Prop} {dC : Nat → ClassId} {dI : Nat → Nat → Nat} {cI cZ cJ : ClassId} (a_0 a_0_doors a_0_doorFrom a_0_doorTo b_0_lowX b_0_lowY b_0_highX b_0_highY b_0_thickness : Nat) (v_0_count : Int32) (f_0_doors : Nat → Int32) (f_0_doorFrom : Nat → Int32) (f_0_doorTo : Nat → Int32) (p1 : Int32) (p2 : Int32) (p3 : Int32) (R0 : Int32) (of_0_doors : Nat → Int32) (of_0_doorFrom : Nat → Int32) (of_0_doorTo : Nat → Int32) (hx : p.tables.exec = Jvm.exec) (hb : c.code = b_Li_addDoor) (hml : c.maxLocals = 5) (hown : s.vm.findClass "SpaceCycles$Lines" = some m.cls) (hts : ∀ w ∈ w_Li_addDoor, w.before args s = true) (hK : va_K (dC, dI) vwCl [(cI, .int), (cZ, .boolean), (cJ, .long)] s) (hN : NX s) (hA : ∀ q : Nat, s.heap.size ≤ q → A q)
    (hret : ∀ (pc : Nat) (H : Heap) (locs : List Loc) (ls : Array Slot), decode b_Li_addDoor pc = .ok (.ireturn, 1) → va_P (dC, dI) vwCl (wl_Li_addDoor a_0 a_0_doors a_0_doorFrom a_0_doorTo b_0_lowX b_0_lowY b_0_highX b_0_highY b_0_thickness cI v_0_count of_0_doors of_0_doorFrom of_0_doorTo) H → va_D A (wl_Li_addDoor a_0 a_0_doors a_0_doorFrom a_0_doorTo b_0_lowX b_0_lowY b_0_highX b_0_highY b_0_thickness cI v_0_count of_0_doors of_0_doorFrom of_0_doorTo) → va_S A s.heap H locs → W p l e rm_Li_addDoor s m args below meth c H locs 0 0 Q (F0 m pc ls [.int R0]))
    (hm : m_Li_addDoor p1 p2 p3 f_0_doors f_0_doorFrom f_0_doorTo = some (R0, of_0_doors, of_0_doorFrom, of_0_doorTo)) : ∀ (H : Heap) (locs : List Loc) (ls : Array Slot), va_P (dC, dI) vwCl (wl_Li_addDoor a_0 a_0_doors a_0_doorFrom a_0_doorTo b_0_lowX b_0_lowY b_0_highX b_0_highY b_0_thickness cI v_0_count f_0_doors f_0_doorFrom f_0_doorTo) H → va_D A (wl_Li_addDoor a_0 a_0_doors a_0_doorFrom a_0_doorTo b_0_lowX b_0_lowY b_0_highX b_0_highY b_0_thickness cI v_0_count f_0_doors f_0_doorFrom f_0_doorTo) → va_S A s.heap H locs → lv_has ls 5 [(0, .ref a_0), (1, .int p1), (2, .int p2), (3, .int p3)] → W p l e rm_Li_addDoor s m args below meth c H locs 0 0 Q (F0 m 0 ls []) := by
  intro H locs ls hP hD hS hl
  unfold m_Li_addDoor at hm
  refine lv_iload_n hx hb d_Li_addDoor_0 rfl (lv_at hl 1 rfl) ?_
  refine lv_bipush (v := 6) hx hb d_Li_addDoor_1 (by decide) ?_
  refine lv_imul hx hb d_Li_addDoor_3 ?_
  refine lv_aload_n hx hb d_Li_addDoor_4 rfl (lv_at hl 0 rfl) ?_
  refine va_get (D := (dC, dI)) (ci := 1) (v := .ref a_0_doors) (C := "SpaceCycles$Lines") (T := F_Li) (N := 9) hx hb hts (in_F i_Li) hown hK hP 0 rfl rfl 5 (by decide) (hts _ (in_c k_24)) (fun _ h9 => h9) rfl d_Li_addDoor_5 ?_
  refine lv_iload_n hx hb d_Li_addDoor_8 rfl (lv_at hl 1 rfl) ?_
  obtain ⟨hi1, hm⟩ := gI_e hm
  refine va_iald hx hb hK hP 1 0 rfl rfl hi1 d_Li_addDoor_9 ?_
  refine lv_iadd hx hb d_Li_addDoor_10 ?_
  refine lv_topi (fun x2 ex2 => ?_)
  replace hm := lt_el hm ex2
  refine lv_istore (lv' := [(4, .int x2), (0, .ref a_0), (1, .int p1), (2, .int p2), (3, .int p3)]) hx hb d_Li_addDoor_11 hl (by decide) rfl (fun ls hl => ?_)
  refine lv_aload_n hx hb d_Li_addDoor_13 rfl (lv_at hl 1 rfl) ?_
  refine va_get (D := (dC, dI)) (ci := 1) (v := .ref a_0_doorFrom) (C := "SpaceCycles$Lines") (T := F_Li) (N := 9) hx hb hts (in_F i_Li) hown hK hP 0 rfl rfl 6 (by decide) (hts _ (in_c k_25)) (fun _ h9 => h9) rfl d_Li_addDoor_14 ?_
  refine lv_iload hx hb d_Li_addDoor_17 (lv_at hl 0 rfl) ?_
  refine lv_iload_n hx hb d_Li_addDoor_19 rfl (lv_at hl 3 rfl) ?_
  obtain ⟨hi3, hm⟩ := gI_e hm
  obtain ⟨f4, ef4⟩ : ∃ y : Nat → Int32, y = upd f_0_doorFrom x2.toNatClampNeg p2 := ⟨_, rfl⟩
  replace hm := lt_el hm ef4
  refine va_iast hx hb hK hP hD hS 2 0 rfl rfl hi3 d_Li_addDoor_20 (fun H locs hP hD hS => ?_)
  rw [← ef4] at hP hD
  have hP : va_P (dC, dI) vwCl (wl_Li_addDoor a_0 a_0_doors a_0_doorFrom a_0_doorTo b_0_lowX b_0_lowY b_0_highX b_0_highY b_0_thickness cI v_0_count f_0_doors f4 f_0_doorTo) H := hP
  have hD : va_D A (wl_Li_addDoor a_0 a_0_doors a_0_doorFrom a_0_doorTo b_0_lowX b_0_lowY b_0_highX b_0_highY b_0_thickness cI v_0_count f_0_doors f4 f_0_doorTo) := hD
  refine lv_aload_n hx hb d_Li_addDoor_21 rfl (lv_at hl 1 rfl) ?_
  refine va_get (D := (dC, dI)) (ci := 1) (v := .ref a_0_doorTo) (C := "SpaceCycles$Lines") (T := F_Li) (N := 9) hx hb hts (in_F i_Li) hown hK hP 0 rfl rfl 7 (by decide) (hts _ (in_c k_26)) (fun _ h9 => h9) rfl d_Li_addDoor_22 ?_
  refine lv_iload hx hb d_Li_addDoor_25 (lv_at hl 0 rfl) ?_
  refine lv_iload_n hx hb d_Li_addDoor_27 rfl (lv_at hl 4 rfl) ?_
  obtain ⟨hi5, hm⟩ := gI_e hm
  obtain ⟨f6, ef6⟩ : ∃ y : Nat → Int32, y = upd f_0_doorTo x2.toNatClampNeg p3 := ⟨_, rfl⟩
  replace hm := lt_el hm ef6
  refine va_iast hx hb hK hP hD hS 3 0 rfl rfl hi5 d_Li_addDoor_28 (fun H locs hP hD hS => ?_)
  rw [← ef6] at hP hD
  have hP : va_P (dC, dI) vwCl (wl_Li_addDoor a_0 a_0_doors a_0_doorFrom a_0_doorTo b_0_lowX b_0_lowY b_0_highX b_0_highY b_0_thickness cI v_0_count f_0_doors f4 f6) H := hP
  have hD : va_D A (wl_Li_addDoor a_0 a_0_doors a_0_doorFrom a_0_doorTo b_0_lowX b_0_lowY b_0_highX b_0_highY b_0_thickness cI v_0_count f_0_doors f4 f6) := hD
  refine lv_aload_n hx hb d_Li_addDoor_29 rfl (lv_at hl 1 rfl) ?_
  refine va_get (D := (dC, dI)) (ci := 1) (v := .ref a_0_doors) (C := "SpaceCycles$Lines") (T := F_Li) (N := 9) hx hb hts (in_F i_Li) hown hK hP 0 rfl rfl 5 (by decide) (hts _ (in_c k_24)) (fun _ h9 => h9) rfl d_Li_addDoor_30 ?_
  refine lv_iload_n hx hb d_Li_addDoor_33 rfl (lv_at hl 2 rfl) ?_
  refine lv_dup2_11 hx hb d_Li_addDoor_34 rfl rfl ?_
  obtain ⟨hi7, hm⟩ := gI_e hm
  refine va_iald hx hb hK hP 1 0 rfl rfl hi7 d_Li_addDoor_35 ?_
  refine lv_iconst (v := 1) hx hb d_Li_addDoor_36 (by decide) ?_
  refine lv_iadd hx hb d_Li_addDoor_37 ?_
  obtain ⟨hi8, hm⟩ := gI_e hm
  obtain ⟨f9, ef9⟩ : ∃ y : Nat → Int32, y = upd f_0_doors p1.toNatClampNeg ((f_0_doors p1.toNatClampNeg) + 1) := ⟨_, rfl⟩
  replace hm := lt_el hm ef9
  refine va_iast hx hb hK hP hD hS 1 0 rfl rfl hi8 d_Li_addDoor_38 (fun H locs hP hD hS => ?_)
  rw [← ef9] at hP hD
  have hP : va_P (dC, dI) vwCl (wl_Li_addDoor a_0 a_0_doors a_0_doorFrom a_0_doorTo b_0_lowX b_0_lowY b_0_highX b_0_highY b_0_thickness cI v_0_count f9 f4 f6) H := hP
  have hD : va_D A (wl_Li_addDoor a_0 a_0_doors a_0_doorFrom a_0_doorTo b_0_lowX b_0_lowY b_0_highX b_0_highY b_0_thickness cI v_0_count f9 f4 f6) := hD
  refine lv_aload_n hx hb d_Li_addDoor_39 rfl (lv_at hl 1 rfl) ?_
  refine va_get (D := (dC, dI)) (ci := 1) (v := .ref a_0_doors) (C := "SpaceCycles$Lines") (T := F_Li) (N := 9) hx hb hts (in_F i_Li) hown hK hP 0 rfl rfl 5 (by decide) (hts _ (in_c k_24)) (fun _ h9 => h9) rfl d_Li_addDoor_40 ?_
  refine lv_iload_n hx hb d_Li_addDoor_43 rfl (lv_at hl 2 rfl) ?_
  obtain ⟨hi10, hm⟩ := gI_e hm
  refine va_iald hx hb hK hP 1 0 rfl rfl hi10 d_Li_addDoor_44 ?_
  cases hm
  exact hret _ H locs ls d_Li_addDoor_45 hP hD hS
set_option maxHeartbeats 4000000 in
set_option maxRecDepth 100000 in
theorem c_Li_addDoor (l : Launch) (dC : Nat → ClassId) (dI : Nat → Nat → Nat) {cI cZ cJ : ClassId} (a_0 a_0_doors a_0_doorFrom a_0_doorTo b_0_lowX b_0_lowY b_0_highX b_0_highY b_0_thickness : Nat) (sz : Nat) (v_0_count : Int32) (f_0_doors : Nat → Int32) (f_0_doorFrom : Nat → Int32) (f_0_doorTo : Nat → Int32) (p1 : Int32) (p2 : Int32) (p3 : Int32) (R0 : Int32) (of_0_doors : Nat → Int32) (of_0_doorFrom : Nat → Int32) (of_0_doorTo : Nat → Int32) (hm : m_Li_addDoor p1 p2 p3 f_0_doors f_0_doorFrom f_0_doorTo = some (R0, of_0_doors, of_0_doorFrom, of_0_doorTo)) : Met l y_Li_addDoor w_Li_addDoor rm_Li_addDoor (PP dC dI [(cI, .int), (cZ, .boolean), (cJ, .long)] [.ref a_0, .int p1, .int p2, .int p3] sz (wl_Li_addDoor a_0 a_0_doors a_0_doorFrom a_0_doorTo b_0_lowX b_0_lowY b_0_highX b_0_highY b_0_thickness cI v_0_count f_0_doors f_0_doorFrom f_0_doorTo)) (QI dC dI [(cI, .int), (cZ, .boolean), (cJ, .long)] sz (wl_Li_addDoor a_0 a_0_doors a_0_doorFrom a_0_doorTo b_0_lowX b_0_lowY b_0_highX b_0_highY b_0_thickness cI v_0_count f_0_doors f_0_doorFrom f_0_doorTo) (wl_Li_addDoor a_0 a_0_doors a_0_doorFrom a_0_doorTo b_0_lowX b_0_lowY b_0_highX b_0_highY b_0_thickness cI v_0_count of_0_doors of_0_doorFrom of_0_doorTo) R0) 0 0 (va_A (wl_Li_addDoor a_0 a_0_doors a_0_doorFrom a_0_doorTo b_0_lowX b_0_lowY b_0_highX b_0_highY b_0_thickness cI v_0_count f_0_doors f_0_doorFrom f_0_doorTo) sz) := by
  refine Met.ofW (cc := b_Li_addDoor) (maxL := 5) (ret := (some .int)) (by decide) rfl ?_
  intro p e s m args below meth c s₁ B hml hv
  obtain ⟨rfl, hsz, hP, hK, hD0, hN⟩ := hv
  subst hsz
  have hl := lv_entry ([.ref a_0, .int p1, .int p2, .int p3]) (n := 5) (Nat.le_of_ble_eq_true rfl)
  rw [lg_entry_eq]
  generalize (lg_sl ([.ref a_0, .int p1, .int p2, .int p3]) ++ List.replicate (5 - (lg_sl ([.ref a_0, .int p1, .int p2, .int p3])).length) Slot.unset).toArray = ls at hl ⊢
  exact t_Li_addDoor a_0 a_0_doors a_0_doorFrom a_0_doorTo b_0_lowX b_0_lowY b_0_highX b_0_highY b_0_thickness v_0_count f_0_doors f_0_doorFrom f_0_doorTo p1 p2 p3 R0 of_0_doors of_0_doorFrom of_0_doorTo B.exec B.bytes hml (findClass_of_methodNamed B.named) (atoms_spec (ws := w_Li_addDoor) B.pre) hK hN (fun q h => Or.inr h) (fun pc H locs ls hd hP9 hD9 hS => W.iret B.exec B.bytes B.returns (fun t ht hW => ⟨⟨_, (), rfl, rfl, by rw [ht]; exact hP9, va_K.moved hW.alike hK, hD9⟩, hS.F ht⟩) hS.2.2 hd) hm s.heap [] ls hP hD0.self va_S.rf hl

-- SpaceCycles$Lines.hasDoorWithin(III)Z
abbrev b_Li_hasDoorWithin : ByteArray := prog_6_method_8_code
abbrev y_Li_hasDoorWithin : MethodName := ⟨"SpaceCycles$Lines", "hasDoorWithin", "(III)Z"⟩
abbrev w_Li_hasDoorWithin : List Cond := Cond.code y_Li_hasDoorWithin b_Li_hasDoorWithin 6 (some .boolean) :: gl
abbrev rm_Li_hasDoorWithin : Room := { frames := 1, cells := 0, slots := 0, locals := 64 }
theorem d_Li_hasDoorWithin_0 : decode b_Li_hasDoorWithin 0 = .ok (.iload_n 1, 1) := by decide +kernel
theorem d_Li_hasDoorWithin_1 : decode b_Li_hasDoorWithin 1 = .ok (.bipush 6, 2) := by decide +kernel
theorem d_Li_hasDoorWithin_3 : decode b_Li_hasDoorWithin 3 = .ok (.imul, 1) := by decide +kernel
theorem d_Li_hasDoorWithin_4 : decode b_Li_hasDoorWithin 4 = .ok (.istore 4, 2) := by decide +kernel
theorem d_Li_hasDoorWithin_6 : decode b_Li_hasDoorWithin 6 = .ok (.iload 4, 2) := by decide +kernel
theorem d_Li_hasDoorWithin_8 : decode b_Li_hasDoorWithin 8 = .ok (.istore 5, 2) := by decide +kernel
theorem d_Li_hasDoorWithin_10 : decode b_Li_hasDoorWithin 10 = .ok (.iload 5, 2) := by decide +kernel
theorem d_Li_hasDoorWithin_12 : decode b_Li_hasDoorWithin 12 = .ok (.iload 4, 2) := by decide +kernel
theorem d_Li_hasDoorWithin_14 : decode b_Li_hasDoorWithin 14 = .ok (.aload_n 0, 1) := by decide +kernel
theorem d_Li_hasDoorWithin_15 : decode b_Li_hasDoorWithin 15 = .ok (.getfield 27, 3) := by decide +kernel
theorem d_Li_hasDoorWithin_18 : decode b_Li_hasDoorWithin 18 = .ok (.iload_n 1, 1) := by decide +kernel
theorem d_Li_hasDoorWithin_19 : decode b_Li_hasDoorWithin 19 = .ok (.iaload, 1) := by decide +kernel
theorem d_Li_hasDoorWithin_20 : decode b_Li_hasDoorWithin 20 = .ok (.iadd, 1) := by decide +kernel
theorem d_Li_hasDoorWithin_21 : decode b_Li_hasDoorWithin 21 = .ok (.if_icmp .ge 36, 3) := by decide +kernel
theorem d_Li_hasDoorWithin_24 : decode b_Li_hasDoorWithin 24 = .ok (.aload_n 0, 1) := by decide +kernel
theorem d_Li_hasDoorWithin_25 : decode b_Li_hasDoorWithin 25 = .ok (.getfield 33, 3) := by decide +kernel
theorem d_Li_hasDoorWithin_28 : decode b_Li_hasDoorWithin 28 = .ok (.iload 5, 2) := by decide +kernel
theorem d_Li_hasDoorWithin_30 : decode b_Li_hasDoorWithin 30 = .ok (.iaload, 1) := by decide +kernel
theorem d_Li_hasDoorWithin_31 : decode b_Li_hasDoorWithin 31 = .ok (.iload_n 3, 1) := by decide +kernel
theorem d_Li_hasDoorWithin_32 : decode b_Li_hasDoorWithin 32 = .ok (.invokestatic 40, 3) := by decide +kernel
theorem d_Li_hasDoorWithin_35 : decode b_Li_hasDoorWithin 35 = .ok (.aload_n 0, 1) := by decide +kernel
theorem d_Li_hasDoorWithin_36 : decode b_Li_hasDoorWithin 36 = .ok (.getfield 30, 3) := by decide +kernel
theorem d_Li_hasDoorWithin_39 : decode b_Li_hasDoorWithin 39 = .ok (.iload 5, 2) := by decide +kernel
theorem d_Li_hasDoorWithin_41 : decode b_Li_hasDoorWithin 41 = .ok (.iaload, 1) := by decide +kernel
theorem d_Li_hasDoorWithin_42 : decode b_Li_hasDoorWithin 42 = .ok (.iload_n 2, 1) := by decide +kernel
theorem d_Li_hasDoorWithin_43 : decode b_Li_hasDoorWithin 43 = .ok (.invokestatic 46, 3) := by decide +kernel
theorem d_Li_hasDoorWithin_46 : decode b_Li_hasDoorWithin 46 = .ok (.if_icmp .le 5, 3) := by decide +kernel
theorem d_Li_hasDoorWithin_49 : decode b_Li_hasDoorWithin 49 = .ok (.iconst 1, 1) := by decide +kernel
theorem d_Li_hasDoorWithin_50 : decode b_Li_hasDoorWithin 50 = .ok (.ireturn, 1) := by decide +kernel
theorem d_Li_hasDoorWithin_51 : decode b_Li_hasDoorWithin 51 = .ok (.iinc 5 1, 3) := by decide +kernel
theorem d_Li_hasDoorWithin_54 : decode b_Li_hasDoorWithin 54 = .ok (.goto (-44), 3) := by decide +kernel
theorem d_Li_hasDoorWithin_57 : decode b_Li_hasDoorWithin 57 = .ok (.iconst 0, 1) := by decide +kernel
theorem d_Li_hasDoorWithin_58 : decode b_Li_hasDoorWithin 58 = .ok (.ireturn, 1) := by decide +kernel
abbrev wl_Li_hasDoorWithin (a_0 : Nat) (a_0_doors : Nat) (a_0_doorFrom : Nat) (a_0_doorTo : Nat) (b_0_lowX : Nat) (b_0_lowY : Nat) (b_0_highX : Nat) (b_0_highY : Nat) (b_0_thickness : Nat) (cI : ClassId) (v_0_count : Int32) (f_0_doors : Nat → Int32) (f_0_doorFrom : Nat → Int32) (f_0_doorTo : Nat → Int32) : va_W := [(a_0, .inr (1, [.ref b_0_lowX, .ref b_0_lowY, .ref b_0_highX, .ref b_0_highY, .ref b_0_thickness, .ref a_0_doors, .ref a_0_doorFrom, .ref a_0_doorTo, .int v_0_count])), (a_0_doors, .inl (cI, 20, .inl f_0_doors)), (a_0_doorFrom, .inl (cI, 120, .inl f_0_doorFrom)), (a_0_doorTo, .inl (cI, 120, .inl f_0_doorTo))]
def m_Li_hasDoorWithin_L10 (l1 : Int32) (l2 : Int32) (l3 : Int32) (l4 : Int32) (f_0_doors : Nat → Int32) (f_0_doorFrom : Nat → Int32) (f_0_doorTo : Nat → Int32) : Nat → Int32 → Option (Sum (Int32) (Unit))
  | 0, _ => none
  | n + 1, l5 =>
    gI l1 20 <|
    if (l4 + (f_0_doors l1.toNatClampNeg)) ≤ l5 then (
      some (Sum.inr ()))
    else (
      gI l5 120 <|
      gI l5 120 <|
      if (jmin (f_0_doorTo l5.toNatClampNeg) l3) ≤ (jmax (f_0_doorFrom l5.toNatClampNeg) l2) then (
        lt_ (l5 + 1) fun x7 =>
        m_Li_hasDoorWithin_L10 l1 l2 l3 l4 f_0_doors f_0_doorFrom f_0_doorTo n x7)
      else (
        gB 1 <|
        some (Sum.inl 1)))
def m_Li_hasDoorWithin (p1 : Int32) (p2 : Int32) (p3 : Int32) (f_0_doors : Nat → Int32) (f_0_doorFrom : Nat → Int32) (f_0_doorTo : Nat → Int32) : Option (Int32) :=
  lt_ (p1 * 6) fun x1 =>
  bs0 (m_Li_hasDoorWithin_L10 p1 p2 p3 x1 f_0_doors f_0_doorFrom f_0_doorTo fu x1) <|
  gB 0 <|
  some 0

set_option maxHeartbeats 4000000 in
set_option maxRecDepth 100000 in
theorem t_Li_hasDoorWithin {p : Program} {l : Launch} {e : Env} {s : State} {m : MethodId} {args : Array Value} {below : List Frame} {meth : Method} {c : Code} {A : Nat → Prop} {Q : State → Prop} {dC : Nat → ClassId} {dI : Nat → Nat → Nat} {cI cZ cJ : ClassId} (a_0 a_0_doors a_0_doorFrom a_0_doorTo b_0_lowX b_0_lowY b_0_highX b_0_highY b_0_thickness : Nat) (v_0_count : Int32) (f_0_doors : Nat → Int32) (f_0_doorFrom : Nat → Int32) (f_0_doorTo : Nat → Int32) (p1 : Int32) (p2 : Int32) (p3 : Int32) (R0 : Int32) (hx : p.tables.exec = Jvm.exec) (hb : c.code = b_Li_hasDoorWithin) (hml : c.maxLocals = 6) (hown : s.vm.findClass "SpaceCycles$Lines" = some m.cls) (hts : ∀ w ∈ w_Li_hasDoorWithin, w.before args s = true) (hK : va_K (dC, dI) vwCl [(cI, .int), (cZ, .boolean), (cJ, .long)] s) (hN : NX s) (hA : ∀ q : Nat, s.heap.size ≤ q → A q)
    (hret : ∀ (pc : Nat) (H : Heap) (locs : List Loc) (ls : Array Slot), decode b_Li_hasDoorWithin pc = .ok (.ireturn, 1) → (R0 = 0 ∨ R0 = 1) → va_P (dC, dI) vwCl (wl_Li_hasDoorWithin a_0 a_0_doors a_0_doorFrom a_0_doorTo b_0_lowX b_0_lowY b_0_highX b_0_highY b_0_thickness cI v_0_count f_0_doors f_0_doorFrom f_0_doorTo) H → va_D A (wl_Li_hasDoorWithin a_0 a_0_doors a_0_doorFrom a_0_doorTo b_0_lowX b_0_lowY b_0_highX b_0_highY b_0_thickness cI v_0_count f_0_doors f_0_doorFrom f_0_doorTo) → va_S A s.heap H locs → W p l e rm_Li_hasDoorWithin s m args below meth c H locs 0 0 Q (F0 m pc ls [.int R0]))
    (hm : m_Li_hasDoorWithin p1 p2 p3 f_0_doors f_0_doorFrom f_0_doorTo = some R0) : ∀ (H : Heap) (locs : List Loc) (ls : Array Slot), va_P (dC, dI) vwCl (wl_Li_hasDoorWithin a_0 a_0_doors a_0_doorFrom a_0_doorTo b_0_lowX b_0_lowY b_0_highX b_0_highY b_0_thickness cI v_0_count f_0_doors f_0_doorFrom f_0_doorTo) H → va_D A (wl_Li_hasDoorWithin a_0 a_0_doors a_0_doorFrom a_0_doorTo b_0_lowX b_0_lowY b_0_highX b_0_highY b_0_thickness cI v_0_count f_0_doors f_0_doorFrom f_0_doorTo) → va_S A s.heap H locs → lv_has ls 6 [(0, .ref a_0), (1, .int p1), (2, .int p2), (3, .int p3)] → W p l e rm_Li_hasDoorWithin s m args below meth c H locs 0 0 Q (F0 m 0 ls []) := by
  intro H locs ls hP hD hS hl
  unfold m_Li_hasDoorWithin at hm
  refine lv_iload_n hx hb d_Li_hasDoorWithin_0 rfl (lv_at hl 1 rfl) ?_
  refine lv_bipush (v := 6) hx hb d_Li_hasDoorWithin_1 (by decide) ?_
  refine lv_imul hx hb d_Li_hasDoorWithin_3 ?_
  refine lv_topi (fun x1 ex1 => ?_)
  replace hm := lt_el hm ex1
  refine lv_istore (lv' := [(4, .int x1), (0, .ref a_0), (1, .int p1), (2, .int p2), (3, .int p3)]) hx hb d_Li_hasDoorWithin_4 hl (by decide) rfl (fun ls hl => ?_)
  refine lv_iload hx hb d_Li_hasDoorWithin_6 (lv_at hl 0 rfl) ?_
  refine lv_istore (lv' := [(5, .int x1), (4, .int x1), (0, .ref a_0), (1, .int p1), (2, .int p2), (3, .int p3)]) hx hb d_Li_hasDoorWithin_8 hl (by decide) rfl (fun ls hl => ?_)
  have L10_3 : ∀ (n : Nat) (x2 : Int32) (z : Sum (Int32) (Unit)), m_Li_hasDoorWithin_L10 p1 p2 p3 x1 f_0_doors f_0_doorFrom f_0_doorTo n x2 = some z → (∀ r, z = Sum.inl r → R0 = r) → (z = Sum.inr () → ∀ (H : Heap) (locs : List Loc) (ls : Array Slot), va_P (dC, dI) vwCl (wl_Li_hasDoorWithin a_0 a_0_doors a_0_doorFrom a_0_doorTo b_0_lowX b_0_lowY b_0_highX b_0_highY b_0_thickness cI v_0_count f_0_doors f_0_doorFrom f_0_doorTo) H → va_D A (wl_Li_hasDoorWithin a_0 a_0_doors a_0_doorFrom a_0_doorTo b_0_lowX b_0_lowY b_0_highX b_0_highY b_0_thickness cI v_0_count f_0_doors f_0_doorFrom f_0_doorTo) → va_S A s.heap H locs → lv_has ls 6 [] → W p l e rm_Li_hasDoorWithin s m args below meth c H locs 0 0 Q (F0 m 57 ls [])) → ∀ (H : Heap) (locs : List Loc) (ls : Array Slot), va_P (dC, dI) vwCl (wl_Li_hasDoorWithin a_0 a_0_doors a_0_doorFrom a_0_doorTo b_0_lowX b_0_lowY b_0_highX b_0_highY b_0_thickness cI v_0_count f_0_doors f_0_doorFrom f_0_doorTo) H → va_D A (wl_Li_hasDoorWithin a_0 a_0_doors a_0_doorFrom a_0_doorTo b_0_lowX b_0_lowY b_0_highX b_0_highY b_0_thickness cI v_0_count f_0_doors f_0_doorFrom f_0_doorTo) → va_S A s.heap H locs → lv_has ls 6 [(0, .ref a_0), (1, .int p1), (2, .int p2), (3, .int p3), (4, .int x1), (5, .int x2)] → W p l e rm_Li_hasDoorWithin s m args below meth c H locs 0 0 Q (F0 m 10 ls []) := by
    intro n
    induction n with
    | zero => intro x2 z hm; simp [m_Li_hasDoorWithin_L10] at hm
    | succ n ih =>
      intro x2 z hm KR KE H locs ls hP hD hS hl
      rw [m_Li_hasDoorWithin_L10] at hm
      refine lv_iload hx hb d_Li_hasDoorWithin_10 (lv_at hl 5 rfl) ?_
      refine lv_iload hx hb d_Li_hasDoorWithin_12 (lv_at hl 4 rfl) ?_
      refine lv_aload_n hx hb d_Li_hasDoorWithin_14 rfl (lv_at hl 0 rfl) ?_
      refine va_get (D := (dC, dI)) (ci := 1) (v := .ref a_0_doors) (C := "SpaceCycles$Lines") (T := F_Li) (N := 9) hx hb hts (in_F i_Li) hown hK hP 0 rfl rfl 5 (by decide) (hts _ (in_c k_24)) (fun _ h9 => h9) rfl d_Li_hasDoorWithin_15 ?_
      refine lv_iload_n hx hb d_Li_hasDoorWithin_18 rfl (lv_at hl 1 rfl) ?_
      obtain ⟨hi4, hm⟩ := gI_e hm
      refine va_iald hx hb hK hP 1 0 rfl rfl hi4 d_Li_hasDoorWithin_19 ?_
      refine lv_iadd hx hb d_Li_hasDoorWithin_20 ?_
      refine lv_icmp_ge (tgt := 57) hx hb d_Li_hasDoorWithin_21 (by decide) (fun c5 => ?_) (fun c5 => ?_)
      · replace hm := if_t hm c5
        cases hm
        exact KE  rfl H locs ls hP hD hS (lv_sub hl [] rfl)
      · replace hm := if_f hm c5
        refine lv_aload_n hx hb d_Li_hasDoorWithin_24 rfl (lv_at hl 0 rfl) ?_
        refine va_get (D := (dC, dI)) (ci := 1) (v := .ref a_0_doorTo) (C := "SpaceCycles$Lines") (T := F_Li) (N := 9) hx hb hts (in_F i_Li) hown hK hP 0 rfl rfl 7 (by decide) (hts _ (in_c k_26)) (fun _ h9 => h9) rfl d_Li_hasDoorWithin_25 ?_
        refine lv_iload hx hb d_Li_hasDoorWithin_28 (lv_at hl 5 rfl) ?_
        obtain ⟨hi6, hm⟩ := gI_e hm
        refine va_iald hx hb hK hP 3 0 rfl rfl hi6 d_Li_hasDoorWithin_30 ?_
        refine lv_iload_n hx hb d_Li_hasDoorWithin_31 rfl (lv_at hl 3 rfl) ?_
        refine va_mmin hx hb (by rw [hml]; exact hl.1.symm) hown (hts _ (in_c k_20)) (hts _ (in_c k_21)) (hts _ (in_c k_13)) (hts _ (in_c k_22)) (Nat.le_of_ble_eq_true rfl) (Nat.le_of_ble_eq_true rfl) (Nat.zero_le _) (Nat.zero_le _) d_Li_hasDoorWithin_32 ?_
        refine lv_aload_n hx hb d_Li_hasDoorWithin_35 rfl (lv_at hl 0 rfl) ?_
        refine va_get (D := (dC, dI)) (ci := 1) (v := .ref a_0_doorFrom) (C := "SpaceCycles$Lines") (T := F_Li) (N := 9) hx hb hts (in_F i_Li) hown hK hP 0 rfl rfl 6 (by decide) (hts _ (in_c k_25)) (fun _ h9 => h9) rfl d_Li_hasDoorWithin_36 ?_
        refine lv_iload hx hb d_Li_hasDoorWithin_39 (lv_at hl 5 rfl) ?_
        obtain ⟨hi7, hm⟩ := gI_e hm
        refine va_iald hx hb hK hP 2 0 rfl rfl hi7 d_Li_hasDoorWithin_41 ?_
        refine lv_iload_n hx hb d_Li_hasDoorWithin_42 rfl (lv_at hl 2 rfl) ?_
        refine va_mmax hx hb (by rw [hml]; exact hl.1.symm) hown (hts _ (in_c k_23)) (hts _ (in_c k_12)) (hts _ (in_c k_13)) (hts _ (in_c k_14)) (Nat.le_of_ble_eq_true rfl) (Nat.le_of_ble_eq_true rfl) (Nat.zero_le _) (Nat.zero_le _) d_Li_hasDoorWithin_43 ?_
        refine lv_icmp_le (tgt := 51) hx hb d_Li_hasDoorWithin_46 (by decide) (fun c8 => ?_) (fun c8 => ?_)
        · replace hm := if_t hm c8
          obtain ⟨x9, ex9⟩ : ∃ y : Int32, y = x2 + 1 := ⟨_, rfl⟩
          replace hm := lt_el hm ex9
          refine lv_iinc (v := x9) (lv' := [(5, .int x9), (0, .ref a_0), (1, .int p1), (2, .int p2), (3, .int p3), (4, .int x1)]) hx hb d_Li_hasDoorWithin_51 hl (k := 5) rfl (by rw [ex9]; rfl) (by decide) rfl (fun ls hl => ?_)
          refine lv_goto (tgt := 10) hx hb d_Li_hasDoorWithin_54 (by decide) ?_
          exact ih _ _ hm KR KE H locs ls hP hD hS (lv_sub hl [1, 2, 3, 4, 5, 0] rfl)
        · replace hm := if_f hm c8
          refine lv_iconst (v := 1) hx hb d_Li_hasDoorWithin_49 (by decide) ?_
          obtain ⟨hB, hm⟩ := gB_e hm
          cases hm
          cases (KR _ rfl)
          exact hret _ H locs ls d_Li_hasDoorWithin_50 hB hP hD hS
  obtain ⟨zhz11, hb10, hz11, hm⟩ := bs0_z hm
  refine L10_3 fu _ _ hb10 (fun r hr => hz11 r hr) (fun  hq H locs ls hP hD hS hl => ?_) H locs ls hP hD hS (lv_sub hl [2, 3, 4, 5, 1, 0] rfl)
  replace hm := hm  hq
  refine lv_iconst (v := 0) hx hb d_Li_hasDoorWithin_57 (by decide) ?_
  obtain ⟨hB, hm⟩ := gB_e hm
  cases hm
  exact hret _ H locs ls d_Li_hasDoorWithin_58 hB hP hD hS
set_option maxHeartbeats 4000000 in
set_option maxRecDepth 100000 in
theorem c_Li_hasDoorWithin (l : Launch) (dC : Nat → ClassId) (dI : Nat → Nat → Nat) {cI cZ cJ : ClassId} (a_0 a_0_doors a_0_doorFrom a_0_doorTo b_0_lowX b_0_lowY b_0_highX b_0_highY b_0_thickness : Nat) (sz : Nat) (v_0_count : Int32) (f_0_doors : Nat → Int32) (f_0_doorFrom : Nat → Int32) (f_0_doorTo : Nat → Int32) (p1 : Int32) (p2 : Int32) (p3 : Int32) (R0 : Int32) (hm : m_Li_hasDoorWithin p1 p2 p3 f_0_doors f_0_doorFrom f_0_doorTo = some R0) : Met l y_Li_hasDoorWithin w_Li_hasDoorWithin rm_Li_hasDoorWithin (PP dC dI [(cI, .int), (cZ, .boolean), (cJ, .long)] [.ref a_0, .int p1, .int p2, .int p3] sz (wl_Li_hasDoorWithin a_0 a_0_doors a_0_doorFrom a_0_doorTo b_0_lowX b_0_lowY b_0_highX b_0_highY b_0_thickness cI v_0_count f_0_doors f_0_doorFrom f_0_doorTo)) (QI dC dI [(cI, .int), (cZ, .boolean), (cJ, .long)] sz (wl_Li_hasDoorWithin a_0 a_0_doors a_0_doorFrom a_0_doorTo b_0_lowX b_0_lowY b_0_highX b_0_highY b_0_thickness cI v_0_count f_0_doors f_0_doorFrom f_0_doorTo) (wl_Li_hasDoorWithin a_0 a_0_doors a_0_doorFrom a_0_doorTo b_0_lowX b_0_lowY b_0_highX b_0_highY b_0_thickness cI v_0_count f_0_doors f_0_doorFrom f_0_doorTo) R0) 0 0 (va_A (wl_Li_hasDoorWithin a_0 a_0_doors a_0_doorFrom a_0_doorTo b_0_lowX b_0_lowY b_0_highX b_0_highY b_0_thickness cI v_0_count f_0_doors f_0_doorFrom f_0_doorTo) sz) := by
  refine Met.ofW (cc := b_Li_hasDoorWithin) (maxL := 6) (ret := (some .boolean)) (by decide) rfl ?_
  intro p e s m args below meth c s₁ B hml hv
  obtain ⟨rfl, hsz, hP, hK, hD0, hN⟩ := hv
  subst hsz
  have hl := lv_entry ([.ref a_0, .int p1, .int p2, .int p3]) (n := 6) (Nat.le_of_ble_eq_true rfl)
  rw [lg_entry_eq]
  generalize (lg_sl ([.ref a_0, .int p1, .int p2, .int p3]) ++ List.replicate (6 - (lg_sl ([.ref a_0, .int p1, .int p2, .int p3])).length) Slot.unset).toArray = ls at hl ⊢
  exact t_Li_hasDoorWithin a_0 a_0_doors a_0_doorFrom a_0_doorTo b_0_lowX b_0_lowY b_0_highX b_0_highY b_0_thickness v_0_count f_0_doors f_0_doorFrom f_0_doorTo p1 p2 p3 R0 B.exec B.bytes hml (findClass_of_methodNamed B.named) (atoms_spec (ws := w_Li_hasDoorWithin) B.pre) hK hN (fun q h => Or.inr h) (fun pc H locs ls hd hz hP9 hD9 hS => W.zret B.exec B.bytes B.returns (nar_b hz) (fun t ht hW => ⟨⟨_, (), rfl, rfl, by rw [ht]; exact hP9, va_K.moved hW.alike hK, hD9⟩, hS.F ht⟩) hS.2.2 hd) hm s.heap [] ls hP hD0.self va_S.rf hl

-- SpaceCycles$Lines.ahead(IIII)I
abbrev b_Li_ahead : ByteArray := prog_6_method_10_code
abbrev y_Li_ahead : MethodName := ⟨"SpaceCycles$Lines", "ahead", "(IIII)I"⟩
abbrev w_Li_ahead : List Cond := Cond.code y_Li_ahead b_Li_ahead 7 (some .int) :: gl
abbrev rm_Li_ahead : Room := { frames := 0, cells := 0, slots := 0, locals := 0 }
theorem d_Li_ahead_0 : decode b_Li_ahead 0 = .ok (.aload_n 0, 1) := by decide +kernel
theorem d_Li_ahead_1 : decode b_Li_ahead 1 = .ok (.getfield 15, 3) := by decide +kernel
theorem d_Li_ahead_4 : decode b_Li_ahead 4 = .ok (.iload_n 1, 1) := by decide +kernel
theorem d_Li_ahead_5 : decode b_Li_ahead 5 = .ok (.iaload, 1) := by decide +kernel
theorem d_Li_ahead_6 : decode b_Li_ahead 6 = .ok (.iload_n 3, 1) := by decide +kernel
theorem d_Li_ahead_7 : decode b_Li_ahead 7 = .ok (.if_icmp .gt 17, 3) := by decide +kernel
theorem d_Li_ahead_10 : decode b_Li_ahead 10 = .ok (.iload_n 3, 1) := by decide +kernel
theorem d_Li_ahead_11 : decode b_Li_ahead 11 = .ok (.aload_n 0, 1) := by decide +kernel
theorem d_Li_ahead_12 : decode b_Li_ahead 12 = .ok (.getfield 21, 3) := by decide +kernel
theorem d_Li_ahead_15 : decode b_Li_ahead 15 = .ok (.iload_n 1, 1) := by decide +kernel
theorem d_Li_ahead_16 : decode b_Li_ahead 16 = .ok (.iaload, 1) := by decide +kernel
theorem d_Li_ahead_17 : decode b_Li_ahead 17 = .ok (.if_icmp .gt 7, 3) := by decide +kernel
theorem d_Li_ahead_20 : decode b_Li_ahead 20 = .ok (.iconst 1, 1) := by decide +kernel
theorem d_Li_ahead_21 : decode b_Li_ahead 21 = .ok (.goto 4, 3) := by decide +kernel
theorem d_Li_ahead_24 : decode b_Li_ahead 24 = .ok (.iconst 0, 1) := by decide +kernel
theorem d_Li_ahead_25 : decode b_Li_ahead 25 = .ok (.istore 5, 2) := by decide +kernel
theorem d_Li_ahead_27 : decode b_Li_ahead 27 = .ok (.aload_n 0, 1) := by decide +kernel
theorem d_Li_ahead_28 : decode b_Li_ahead 28 = .ok (.getfield 9, 3) := by decide +kernel
theorem d_Li_ahead_31 : decode b_Li_ahead 31 = .ok (.iload_n 1, 1) := by decide +kernel
theorem d_Li_ahead_32 : decode b_Li_ahead 32 = .ok (.iaload, 1) := by decide +kernel
theorem d_Li_ahead_33 : decode b_Li_ahead 33 = .ok (.iload_n 2, 1) := by decide +kernel
theorem d_Li_ahead_34 : decode b_Li_ahead 34 = .ok (.if_icmp .gt 17, 3) := by decide +kernel
theorem d_Li_ahead_37 : decode b_Li_ahead 37 = .ok (.iload_n 2, 1) := by decide +kernel
theorem d_Li_ahead_38 : decode b_Li_ahead 38 = .ok (.aload_n 0, 1) := by decide +kernel
theorem d_Li_ahead_39 : decode b_Li_ahead 39 = .ok (.getfield 18, 3) := by decide +kernel
theorem d_Li_ahead_42 : decode b_Li_ahead 42 = .ok (.iload_n 1, 1) := by decide +kernel
theorem d_Li_ahead_43 : decode b_Li_ahead 43 = .ok (.iaload, 1) := by decide +kernel
theorem d_Li_ahead_44 : decode b_Li_ahead 44 = .ok (.if_icmp .gt 7, 3) := by decide +kernel
theorem d_Li_ahead_47 : decode b_Li_ahead 47 = .ok (.iconst 1, 1) := by decide +kernel
theorem d_Li_ahead_48 : decode b_Li_ahead 48 = .ok (.goto 4, 3) := by decide +kernel
theorem d_Li_ahead_51 : decode b_Li_ahead 51 = .ok (.iconst 0, 1) := by decide +kernel
theorem d_Li_ahead_52 : decode b_Li_ahead 52 = .ok (.istore 6, 2) := by decide +kernel
theorem d_Li_ahead_54 : decode b_Li_ahead 54 = .ok (.iload 4, 2) := by decide +kernel
theorem d_Li_ahead_56 : decode b_Li_ahead 56 = .ok (.tableswitch 82 0 2 #[28, 46, 64], 28) := by decide +kernel
theorem d_Li_ahead_84 : decode b_Li_ahead 84 = .ok (.iload 5, 2) := by decide +kernel
theorem d_Li_ahead_86 : decode b_Li_ahead 86 = .ok (.ifCond .eq 14, 3) := by decide +kernel
theorem d_Li_ahead_89 : decode b_Li_ahead 89 = .ok (.aload_n 0, 1) := by decide +kernel
theorem d_Li_ahead_90 : decode b_Li_ahead 90 = .ok (.getfield 9, 3) := by decide +kernel
theorem d_Li_ahead_93 : decode b_Li_ahead 93 = .ok (.iload_n 1, 1) := by decide +kernel
theorem d_Li_ahead_94 : decode b_Li_ahead 94 = .ok (.iaload, 1) := by decide +kernel
theorem d_Li_ahead_95 : decode b_Li_ahead 95 = .ok (.iload_n 2, 1) := by decide +kernel
theorem d_Li_ahead_96 : decode b_Li_ahead 96 = .ok (.isub, 1) := by decide +kernel
theorem d_Li_ahead_97 : decode b_Li_ahead 97 = .ok (.goto 4, 3) := by decide +kernel
theorem d_Li_ahead_100 : decode b_Li_ahead 100 = .ok (.iconst 0, 1) := by decide +kernel
theorem d_Li_ahead_101 : decode b_Li_ahead 101 = .ok (.ireturn, 1) := by decide +kernel
theorem d_Li_ahead_102 : decode b_Li_ahead 102 = .ok (.iload 6, 2) := by decide +kernel
theorem d_Li_ahead_104 : decode b_Li_ahead 104 = .ok (.ifCond .eq 14, 3) := by decide +kernel
theorem d_Li_ahead_107 : decode b_Li_ahead 107 = .ok (.aload_n 0, 1) := by decide +kernel
theorem d_Li_ahead_108 : decode b_Li_ahead 108 = .ok (.getfield 15, 3) := by decide +kernel
theorem d_Li_ahead_111 : decode b_Li_ahead 111 = .ok (.iload_n 1, 1) := by decide +kernel
theorem d_Li_ahead_112 : decode b_Li_ahead 112 = .ok (.iaload, 1) := by decide +kernel
theorem d_Li_ahead_113 : decode b_Li_ahead 113 = .ok (.iload_n 3, 1) := by decide +kernel
theorem d_Li_ahead_114 : decode b_Li_ahead 114 = .ok (.isub, 1) := by decide +kernel
theorem d_Li_ahead_115 : decode b_Li_ahead 115 = .ok (.goto 4, 3) := by decide +kernel
theorem d_Li_ahead_118 : decode b_Li_ahead 118 = .ok (.iconst 0, 1) := by decide +kernel
theorem d_Li_ahead_119 : decode b_Li_ahead 119 = .ok (.ireturn, 1) := by decide +kernel
theorem d_Li_ahead_120 : decode b_Li_ahead 120 = .ok (.iload 5, 2) := by decide +kernel
theorem d_Li_ahead_122 : decode b_Li_ahead 122 = .ok (.ifCond .eq 14, 3) := by decide +kernel
theorem d_Li_ahead_125 : decode b_Li_ahead 125 = .ok (.iload_n 2, 1) := by decide +kernel
theorem d_Li_ahead_126 : decode b_Li_ahead 126 = .ok (.aload_n 0, 1) := by decide +kernel
theorem d_Li_ahead_127 : decode b_Li_ahead 127 = .ok (.getfield 18, 3) := by decide +kernel
theorem d_Li_ahead_130 : decode b_Li_ahead 130 = .ok (.iload_n 1, 1) := by decide +kernel
theorem d_Li_ahead_131 : decode b_Li_ahead 131 = .ok (.iaload, 1) := by decide +kernel
theorem d_Li_ahead_132 : decode b_Li_ahead 132 = .ok (.isub, 1) := by decide +kernel
theorem d_Li_ahead_133 : decode b_Li_ahead 133 = .ok (.goto 4, 3) := by decide +kernel
theorem d_Li_ahead_136 : decode b_Li_ahead 136 = .ok (.iconst 0, 1) := by decide +kernel
theorem d_Li_ahead_137 : decode b_Li_ahead 137 = .ok (.ireturn, 1) := by decide +kernel
theorem d_Li_ahead_138 : decode b_Li_ahead 138 = .ok (.iload 6, 2) := by decide +kernel
theorem d_Li_ahead_140 : decode b_Li_ahead 140 = .ok (.ifCond .eq 14, 3) := by decide +kernel
theorem d_Li_ahead_143 : decode b_Li_ahead 143 = .ok (.iload_n 3, 1) := by decide +kernel
theorem d_Li_ahead_144 : decode b_Li_ahead 144 = .ok (.aload_n 0, 1) := by decide +kernel
theorem d_Li_ahead_145 : decode b_Li_ahead 145 = .ok (.getfield 21, 3) := by decide +kernel
theorem d_Li_ahead_148 : decode b_Li_ahead 148 = .ok (.iload_n 1, 1) := by decide +kernel
theorem d_Li_ahead_149 : decode b_Li_ahead 149 = .ok (.iaload, 1) := by decide +kernel
theorem d_Li_ahead_150 : decode b_Li_ahead 150 = .ok (.isub, 1) := by decide +kernel
theorem d_Li_ahead_151 : decode b_Li_ahead 151 = .ok (.goto 4, 3) := by decide +kernel
theorem d_Li_ahead_154 : decode b_Li_ahead 154 = .ok (.iconst 0, 1) := by decide +kernel
theorem d_Li_ahead_155 : decode b_Li_ahead 155 = .ok (.ireturn, 1) := by decide +kernel
abbrev wl_Li_ahead (a_0 : Nat) (a_0_lowX : Nat) (a_0_lowY : Nat) (a_0_highX : Nat) (a_0_highY : Nat) (b_0_thickness : Nat) (b_0_doors : Nat) (b_0_doorFrom : Nat) (b_0_doorTo : Nat) (cI : ClassId) (v_0_count : Int32) (f_0_lowX : Nat → Int32) (f_0_lowY : Nat → Int32) (f_0_highX : Nat → Int32) (f_0_highY : Nat → Int32) : va_W := [(a_0, .inr (1, [.ref a_0_lowX, .ref a_0_lowY, .ref a_0_highX, .ref a_0_highY, .ref b_0_thickness, .ref b_0_doors, .ref b_0_doorFrom, .ref b_0_doorTo, .int v_0_count])), (a_0_lowX, .inl (cI, 20, .inl f_0_lowX)), (a_0_lowY, .inl (cI, 20, .inl f_0_lowY)), (a_0_highX, .inl (cI, 20, .inl f_0_highX)), (a_0_highY, .inl (cI, 20, .inl f_0_highY))]
def m_Li_ahead (p1 : Int32) (p2 : Int32) (p3 : Int32) (p4 : Int32) (f_0_lowX : Nat → Int32) (f_0_lowY : Nat → Int32) (f_0_highX : Nat → Int32) (f_0_highY : Nat → Int32) : Option (Int32) :=
  gI p1 20 <|
  bd1 (
    if p3 < (f_0_lowY p1.toNatClampNeg) then (
    some 0)
  else (
    gI p1 20 <|
    if (f_0_highY p1.toNatClampNeg) < p3 then (
      some 0)
    else (
      some 1)))
  fun (x5 : Int32) =>
  gI p1 20 <|
    bd1 (
      if p2 < (f_0_lowX p1.toNatClampNeg) then (
      some 0)
    else (
      gI p1 20 <|
      if (f_0_highX p1.toNatClampNeg) < p2 then (
        some 0)
      else (
        some 1)))
    fun (x13 : Int32) =>
    if p4 = 0 then (
        if x5 = 0 then (
          some 0)
        else (
          gI p1 20 <|
          some ((f_0_lowX p1.toNatClampNeg) - p2)))
      else (
        if p4 = 1 then (
          if x13 = 0 then (
            some 0)
          else (
            gI p1 20 <|
            some ((f_0_lowY p1.toNatClampNeg) - p3)))
        else (
          if p4 = 2 then (
            if x5 = 0 then (
              some 0)
            else (
              gI p1 20 <|
              some (p2 - (f_0_highX p1.toNatClampNeg))))
          else (
            bd1 (
              if x13 = 0 then (
              some 0)
            else (
              gI p1 20 <|
              some (p3 - (f_0_highY p1.toNatClampNeg))))
            fun (x29 : Int32) =>
            some x29)))

set_option maxHeartbeats 4000000 in
set_option maxRecDepth 100000 in
theorem t_Li_ahead {p : Program} {l : Launch} {e : Env} {s : State} {m : MethodId} {args : Array Value} {below : List Frame} {meth : Method} {c : Code} {A : Nat → Prop} {Q : State → Prop} {dC : Nat → ClassId} {dI : Nat → Nat → Nat} {cI cZ cJ : ClassId} (a_0 a_0_lowX a_0_lowY a_0_highX a_0_highY b_0_thickness b_0_doors b_0_doorFrom b_0_doorTo : Nat) (v_0_count : Int32) (f_0_lowX : Nat → Int32) (f_0_lowY : Nat → Int32) (f_0_highX : Nat → Int32) (f_0_highY : Nat → Int32) (p1 : Int32) (p2 : Int32) (p3 : Int32) (p4 : Int32) (R0 : Int32) (hx : p.tables.exec = Jvm.exec) (hb : c.code = b_Li_ahead) (hml : c.maxLocals = 7) (hown : s.vm.findClass "SpaceCycles$Lines" = some m.cls) (hts : ∀ w ∈ w_Li_ahead, w.before args s = true) (hK : va_K (dC, dI) vwCl [(cI, .int), (cZ, .boolean), (cJ, .long)] s) (hN : NX s) (hA : ∀ q : Nat, s.heap.size ≤ q → A q)
    (hret : ∀ (pc : Nat) (H : Heap) (locs : List Loc) (ls : Array Slot), decode b_Li_ahead pc = .ok (.ireturn, 1) → va_P (dC, dI) vwCl (wl_Li_ahead a_0 a_0_lowX a_0_lowY a_0_highX a_0_highY b_0_thickness b_0_doors b_0_doorFrom b_0_doorTo cI v_0_count f_0_lowX f_0_lowY f_0_highX f_0_highY) H → va_D A (wl_Li_ahead a_0 a_0_lowX a_0_lowY a_0_highX a_0_highY b_0_thickness b_0_doors b_0_doorFrom b_0_doorTo cI v_0_count f_0_lowX f_0_lowY f_0_highX f_0_highY) → va_S A s.heap H locs → W p l e rm_Li_ahead s m args below meth c H locs 0 0 Q (F0 m pc ls [.int R0]))
    (hm : m_Li_ahead p1 p2 p3 p4 f_0_lowX f_0_lowY f_0_highX f_0_highY = some R0) : ∀ (H : Heap) (locs : List Loc) (ls : Array Slot), va_P (dC, dI) vwCl (wl_Li_ahead a_0 a_0_lowX a_0_lowY a_0_highX a_0_highY b_0_thickness b_0_doors b_0_doorFrom b_0_doorTo cI v_0_count f_0_lowX f_0_lowY f_0_highX f_0_highY) H → va_D A (wl_Li_ahead a_0 a_0_lowX a_0_lowY a_0_highX a_0_highY b_0_thickness b_0_doors b_0_doorFrom b_0_doorTo cI v_0_count f_0_lowX f_0_lowY f_0_highX f_0_highY) → va_S A s.heap H locs → lv_has ls 7 [(0, .ref a_0), (1, .int p1), (2, .int p2), (3, .int p3), (4, .int p4)] → W p l e rm_Li_ahead s m args below meth c H locs 0 0 Q (F0 m 0 ls []) := by
  intro H locs ls hP hD hS hl
  unfold m_Li_ahead at hm
  refine lv_aload_n hx hb d_Li_ahead_0 rfl (lv_at hl 0 rfl) ?_
  refine va_get (D := (dC, dI)) (ci := 1) (v := .ref a_0_lowY) (C := "SpaceCycles$Lines") (T := F_Li) (N := 9) hx hb hts (in_F i_Li) hown hK hP 0 rfl rfl 1 (by decide) (hts _ (in_c k_16)) (fun _ h9 => h9) rfl d_Li_ahead_1 ?_
  refine lv_iload_n hx hb d_Li_ahead_4 rfl (lv_at hl 1 rfl) ?_
  obtain ⟨hi1, hm⟩ := gI_e hm
  refine va_iald hx hb hK hP 2 0 rfl rfl hi1 d_Li_ahead_5 ?_
  refine lv_iload_n hx hb d_Li_ahead_6 rfl (lv_at hl 3 rfl) ?_
  obtain ⟨x5, hb3, hm⟩ := bd1_e hm
  have K2 : ∀ (H : Heap) (locs : List Loc) (ls : Array Slot), va_P (dC, dI) vwCl (wl_Li_ahead a_0 a_0_lowX a_0_lowY a_0_highX a_0_highY b_0_thickness b_0_doors b_0_doorFrom b_0_doorTo cI v_0_count f_0_lowX f_0_lowY f_0_highX f_0_highY) H → va_D A (wl_Li_ahead a_0 a_0_lowX a_0_lowY a_0_highX a_0_highY b_0_thickness b_0_doors b_0_doorFrom b_0_doorTo cI v_0_count f_0_lowX f_0_lowY f_0_highX f_0_highY) → va_S A s.heap H locs → lv_has ls 7 [(0, .ref a_0), (1, .int p1), (2, .int p2), (3, .int p3), (4, .int p4)] → W p l e rm_Li_ahead s m args below meth c H locs 0 0 Q (F0 m 25 ls [.int x5]) := by
    intro H locs ls hP hD hS hl
    refine lv_istore (lv' := [(5, .int x5), (0, .ref a_0), (1, .int p1), (2, .int p2), (3, .int p3), (4, .int p4)]) hx hb d_Li_ahead_25 hl (by decide) rfl (fun ls hl => ?_)
    refine lv_aload_n hx hb d_Li_ahead_27 rfl (lv_at hl 1 rfl) ?_
    refine va_get (D := (dC, dI)) (ci := 1) (v := .ref a_0_lowX) (C := "SpaceCycles$Lines") (T := F_Li) (N := 9) hx hb hts (in_F i_Li) hown hK hP 0 rfl rfl 0 (by decide) (hts _ (in_c k_15)) (fun _ h9 => h9) rfl d_Li_ahead_28 ?_
    refine lv_iload_n hx hb d_Li_ahead_31 rfl (lv_at hl 2 rfl) ?_
    obtain ⟨hi9, hm⟩ := gI_e hm
    refine va_iald hx hb hK hP 1 0 rfl rfl hi9 d_Li_ahead_32 ?_
    refine lv_iload_n hx hb d_Li_ahead_33 rfl (lv_at hl 3 rfl) ?_
    obtain ⟨x13, hb11, hm⟩ := bd1_e hm
    have K10 : ∀ (H : Heap) (locs : List Loc) (ls : Array Slot), va_P (dC, dI) vwCl (wl_Li_ahead a_0 a_0_lowX a_0_lowY a_0_highX a_0_highY b_0_thickness b_0_doors b_0_doorFrom b_0_doorTo cI v_0_count f_0_lowX f_0_lowY f_0_highX f_0_highY) H → va_D A (wl_Li_ahead a_0 a_0_lowX a_0_lowY a_0_highX a_0_highY b_0_thickness b_0_doors b_0_doorFrom b_0_doorTo cI v_0_count f_0_lowX f_0_lowY f_0_highX f_0_highY) → va_S A s.heap H locs → lv_has ls 7 [(0, .ref a_0), (1, .int p1), (2, .int p2), (3, .int p3), (4, .int p4), (5, .int x5)] → W p l e rm_Li_ahead s m args below meth c H locs 0 0 Q (F0 m 52 ls [.int x13]) := by
      intro H locs ls hP hD hS hl
      refine lv_istore (lv' := [(6, .int x13), (0, .ref a_0), (1, .int p1), (2, .int p2), (3, .int p3), (4, .int p4), (5, .int x5)]) hx hb d_Li_ahead_52 hl (by decide) rfl (fun ls hl => ?_)
      refine lv_iload hx hb d_Li_ahead_54 (lv_at hl 5 rfl) ?_
      by_cases c17 : p4 = 0
      · replace hm := if_t hm c17
        refine lv_tableIn (off := 28) (tgt := 84) hx hb d_Li_ahead_56 (by rw [c17]; decide) (by rw [c17]; decide) (by rw [c17]; rfl) (by decide) ?_
        refine lv_iload hx hb d_Li_ahead_84 (lv_at hl 6 rfl) ?_
        refine lv_if_eq (tgt := 100) hx hb d_Li_ahead_86 (by decide) (fun c18 => ?_) (fun c18 => ?_)
        · replace hm := if_t hm c18
          refine lv_iconst (v := 0) hx hb d_Li_ahead_100 (by decide) ?_
          cases hm
          exact hret _ H locs ls d_Li_ahead_101 hP hD hS
        · replace hm := if_f hm c18
          refine lv_aload_n hx hb d_Li_ahead_89 rfl (lv_at hl 1 rfl) ?_
          refine va_get (D := (dC, dI)) (ci := 1) (v := .ref a_0_lowX) (C := "SpaceCycles$Lines") (T := F_Li) (N := 9) hx hb hts (in_F i_Li) hown hK hP 0 rfl rfl 0 (by decide) (hts _ (in_c k_15)) (fun _ h9 => h9) rfl d_Li_ahead_90 ?_
          refine lv_iload_n hx hb d_Li_ahead_93 rfl (lv_at hl 2 rfl) ?_
          obtain ⟨hi19, hm⟩ := gI_e hm
          refine va_iald hx hb hK hP 1 0 rfl rfl hi19 d_Li_ahead_94 ?_
          refine lv_iload_n hx hb d_Li_ahead_95 rfl (lv_at hl 3 rfl) ?_
          refine lv_isub hx hb d_Li_ahead_96 ?_
          refine lv_goto (tgt := 101) hx hb d_Li_ahead_97 (by decide) ?_
          cases hm
          exact hret _ H locs ls d_Li_ahead_101 hP hD hS
      · replace hm := if_f hm c17
        by_cases c20 : p4 = 1
        · replace hm := if_t hm c20
          refine lv_tableIn (off := 46) (tgt := 102) hx hb d_Li_ahead_56 (by rw [c20]; decide) (by rw [c20]; decide) (by rw [c20]; rfl) (by decide) ?_
          refine lv_iload hx hb d_Li_ahead_102 (lv_at hl 0 rfl) ?_
          refine lv_if_eq (tgt := 118) hx hb d_Li_ahead_104 (by decide) (fun c21 => ?_) (fun c21 => ?_)
          · replace hm := if_t hm c21
            refine lv_iconst (v := 0) hx hb d_Li_ahead_118 (by decide) ?_
            cases hm
            exact hret _ H locs ls d_Li_ahead_119 hP hD hS
          · replace hm := if_f hm c21
            refine lv_aload_n hx hb d_Li_ahead_107 rfl (lv_at hl 1 rfl) ?_
            refine va_get (D := (dC, dI)) (ci := 1) (v := .ref a_0_lowY) (C := "SpaceCycles$Lines") (T := F_Li) (N := 9) hx hb hts (in_F i_Li) hown hK hP 0 rfl rfl 1 (by decide) (hts _ (in_c k_16)) (fun _ h9 => h9) rfl d_Li_ahead_108 ?_
            refine lv_iload_n hx hb d_Li_ahead_111 rfl (lv_at hl 2 rfl) ?_
            obtain ⟨hi22, hm⟩ := gI_e hm
            refine va_iald hx hb hK hP 2 0 rfl rfl hi22 d_Li_ahead_112 ?_
            refine lv_iload_n hx hb d_Li_ahead_113 rfl (lv_at hl 4 rfl) ?_
            refine lv_isub hx hb d_Li_ahead_114 ?_
            refine lv_goto (tgt := 119) hx hb d_Li_ahead_115 (by decide) ?_
            cases hm
            exact hret _ H locs ls d_Li_ahead_119 hP hD hS
        · replace hm := if_f hm c20
          by_cases c23 : p4 = 2
          · replace hm := if_t hm c23
            refine lv_tableIn (off := 64) (tgt := 120) hx hb d_Li_ahead_56 (by rw [c23]; decide) (by rw [c23]; decide) (by rw [c23]; rfl) (by decide) ?_
            refine lv_iload hx hb d_Li_ahead_120 (lv_at hl 6 rfl) ?_
            refine lv_if_eq (tgt := 136) hx hb d_Li_ahead_122 (by decide) (fun c24 => ?_) (fun c24 => ?_)
            · replace hm := if_t hm c24
              refine lv_iconst (v := 0) hx hb d_Li_ahead_136 (by decide) ?_
              cases hm
              exact hret _ H locs ls d_Li_ahead_137 hP hD hS
            · replace hm := if_f hm c24
              refine lv_iload_n hx hb d_Li_ahead_125 rfl (lv_at hl 3 rfl) ?_
              refine lv_aload_n hx hb d_Li_ahead_126 rfl (lv_at hl 1 rfl) ?_
              refine va_get (D := (dC, dI)) (ci := 1) (v := .ref a_0_highX) (C := "SpaceCycles$Lines") (T := F_Li) (N := 9) hx hb hts (in_F i_Li) hown hK hP 0 rfl rfl 2 (by decide) (hts _ (in_c k_17)) (fun _ h9 => h9) rfl d_Li_ahead_127 ?_
              refine lv_iload_n hx hb d_Li_ahead_130 rfl (lv_at hl 2 rfl) ?_
              obtain ⟨hi25, hm⟩ := gI_e hm
              refine va_iald hx hb hK hP 3 0 rfl rfl hi25 d_Li_ahead_131 ?_
              refine lv_isub hx hb d_Li_ahead_132 ?_
              refine lv_goto (tgt := 137) hx hb d_Li_ahead_133 (by decide) ?_
              cases hm
              exact hret _ H locs ls d_Li_ahead_137 hP hD hS
          · replace hm := if_f hm c23
            refine lv_tableOut (tgt := 138) hx hb d_Li_ahead_56 (by have e0 := tn (z := 0) c17 (by decide); have e1 := tn (z := 1) c20 (by decide); have e2 := tn (z := 2) c23 (by decide); omega) (by decide) ?_
            refine lv_iload hx hb d_Li_ahead_138 (lv_at hl 0 rfl) ?_
            obtain ⟨x29, hb27, hm⟩ := bd1_e hm
            have K26 : ∀ (H : Heap) (locs : List Loc) (ls : Array Slot), va_P (dC, dI) vwCl (wl_Li_ahead a_0 a_0_lowX a_0_lowY a_0_highX a_0_highY b_0_thickness b_0_doors b_0_doorFrom b_0_doorTo cI v_0_count f_0_lowX f_0_lowY f_0_highX f_0_highY) H → va_D A (wl_Li_ahead a_0 a_0_lowX a_0_lowY a_0_highX a_0_highY b_0_thickness b_0_doors b_0_doorFrom b_0_doorTo cI v_0_count f_0_lowX f_0_lowY f_0_highX f_0_highY) → va_S A s.heap H locs → lv_has ls 7 [] → W p l e rm_Li_ahead s m args below meth c H locs 0 0 Q (F0 m 155 ls [.int x29]) := by
              intro H locs ls hP hD hS hl
              cases hm
              exact hret _ H locs ls d_Li_ahead_155 hP hD hS
            replace hm := hb27
            refine lv_if_eq (tgt := 154) hx hb d_Li_ahead_140 (by decide) (fun c30 => ?_) (fun c30 => ?_)
            · replace hm := if_t hm c30
              refine lv_iconst (v := 0) hx hb d_Li_ahead_154 (by decide) ?_
              cases hm
              exact K26 H locs ls hP hD hS (lv_sub hl [] rfl)
            · replace hm := if_f hm c30
              refine lv_iload_n hx hb d_Li_ahead_143 rfl (lv_at hl 4 rfl) ?_
              refine lv_aload_n hx hb d_Li_ahead_144 rfl (lv_at hl 1 rfl) ?_
              refine va_get (D := (dC, dI)) (ci := 1) (v := .ref a_0_highY) (C := "SpaceCycles$Lines") (T := F_Li) (N := 9) hx hb hts (in_F i_Li) hown hK hP 0 rfl rfl 3 (by decide) (hts _ (in_c k_18)) (fun _ h9 => h9) rfl d_Li_ahead_145 ?_
              refine lv_iload_n hx hb d_Li_ahead_148 rfl (lv_at hl 2 rfl) ?_
              obtain ⟨hi31, hm⟩ := gI_e hm
              refine va_iald hx hb hK hP 4 0 rfl rfl hi31 d_Li_ahead_149 ?_
              refine lv_isub hx hb d_Li_ahead_150 ?_
              refine lv_goto (tgt := 155) hx hb d_Li_ahead_151 (by decide) ?_
              cases hm
              exact K26 H locs ls hP hD hS (lv_sub hl [] rfl)
    replace hm := hb11
    refine lv_icmp_gt (tgt := 51) hx hb d_Li_ahead_34 (by decide) (fun c14 => ?_) (fun c14 => ?_)
    · replace hm := if_t hm c14
      refine lv_iconst (v := 0) hx hb d_Li_ahead_51 (by decide) ?_
      cases hm
      exact K10 H locs ls hP hD hS (lv_sub hl [1, 2, 3, 4, 5, 0] rfl)
    · replace hm := if_f hm c14
      refine lv_iload_n hx hb d_Li_ahead_37 rfl (lv_at hl 3 rfl) ?_
      refine lv_aload_n hx hb d_Li_ahead_38 rfl (lv_at hl 1 rfl) ?_
      refine va_get (D := (dC, dI)) (ci := 1) (v := .ref a_0_highX) (C := "SpaceCycles$Lines") (T := F_Li) (N := 9) hx hb hts (in_F i_Li) hown hK hP 0 rfl rfl 2 (by decide) (hts _ (in_c k_17)) (fun _ h9 => h9) rfl d_Li_ahead_39 ?_
      refine lv_iload_n hx hb d_Li_ahead_42 rfl (lv_at hl 2 rfl) ?_
      obtain ⟨hi15, hm⟩ := gI_e hm
      refine va_iald hx hb hK hP 3 0 rfl rfl hi15 d_Li_ahead_43 ?_
      refine lv_icmp_gt (tgt := 51) hx hb d_Li_ahead_44 (by decide) (fun c16 => ?_) (fun c16 => ?_)
      · replace hm := if_t hm c16
        refine lv_iconst (v := 0) hx hb d_Li_ahead_51 (by decide) ?_
        cases hm
        exact K10 H locs ls hP hD hS (lv_sub hl [1, 2, 3, 4, 5, 0] rfl)
      · replace hm := if_f hm c16
        refine lv_iconst (v := 1) hx hb d_Li_ahead_47 (by decide) ?_
        refine lv_goto (tgt := 52) hx hb d_Li_ahead_48 (by decide) ?_
        cases hm
        exact K10 H locs ls hP hD hS (lv_sub hl [1, 2, 3, 4, 5, 0] rfl)
  replace hm := hb3
  refine lv_icmp_gt (tgt := 24) hx hb d_Li_ahead_7 (by decide) (fun c6 => ?_) (fun c6 => ?_)
  · replace hm := if_t hm c6
    refine lv_iconst (v := 0) hx hb d_Li_ahead_24 (by decide) ?_
    cases hm
    exact K2 H locs ls hP hD hS (lv_sub hl [0, 1, 2, 3, 4] rfl)
  · replace hm := if_f hm c6
    refine lv_iload_n hx hb d_Li_ahead_10 rfl (lv_at hl 3 rfl) ?_
    refine lv_aload_n hx hb d_Li_ahead_11 rfl (lv_at hl 0 rfl) ?_
    refine va_get (D := (dC, dI)) (ci := 1) (v := .ref a_0_highY) (C := "SpaceCycles$Lines") (T := F_Li) (N := 9) hx hb hts (in_F i_Li) hown hK hP 0 rfl rfl 3 (by decide) (hts _ (in_c k_18)) (fun _ h9 => h9) rfl d_Li_ahead_12 ?_
    refine lv_iload_n hx hb d_Li_ahead_15 rfl (lv_at hl 1 rfl) ?_
    obtain ⟨hi7, hm⟩ := gI_e hm
    refine va_iald hx hb hK hP 4 0 rfl rfl hi7 d_Li_ahead_16 ?_
    refine lv_icmp_gt (tgt := 24) hx hb d_Li_ahead_17 (by decide) (fun c8 => ?_) (fun c8 => ?_)
    · replace hm := if_t hm c8
      refine lv_iconst (v := 0) hx hb d_Li_ahead_24 (by decide) ?_
      cases hm
      exact K2 H locs ls hP hD hS (lv_sub hl [0, 1, 2, 3, 4] rfl)
    · replace hm := if_f hm c8
      refine lv_iconst (v := 1) hx hb d_Li_ahead_20 (by decide) ?_
      refine lv_goto (tgt := 25) hx hb d_Li_ahead_21 (by decide) ?_
      cases hm
      exact K2 H locs ls hP hD hS (lv_sub hl [0, 1, 2, 3, 4] rfl)
set_option maxHeartbeats 4000000 in
set_option maxRecDepth 100000 in
theorem c_Li_ahead (l : Launch) (dC : Nat → ClassId) (dI : Nat → Nat → Nat) {cI cZ cJ : ClassId} (a_0 a_0_lowX a_0_lowY a_0_highX a_0_highY b_0_thickness b_0_doors b_0_doorFrom b_0_doorTo : Nat) (sz : Nat) (v_0_count : Int32) (f_0_lowX : Nat → Int32) (f_0_lowY : Nat → Int32) (f_0_highX : Nat → Int32) (f_0_highY : Nat → Int32) (p1 : Int32) (p2 : Int32) (p3 : Int32) (p4 : Int32) (R0 : Int32) (hm : m_Li_ahead p1 p2 p3 p4 f_0_lowX f_0_lowY f_0_highX f_0_highY = some R0) : Met l y_Li_ahead w_Li_ahead rm_Li_ahead (PP dC dI [(cI, .int), (cZ, .boolean), (cJ, .long)] [.ref a_0, .int p1, .int p2, .int p3, .int p4] sz (wl_Li_ahead a_0 a_0_lowX a_0_lowY a_0_highX a_0_highY b_0_thickness b_0_doors b_0_doorFrom b_0_doorTo cI v_0_count f_0_lowX f_0_lowY f_0_highX f_0_highY)) (QI dC dI [(cI, .int), (cZ, .boolean), (cJ, .long)] sz (wl_Li_ahead a_0 a_0_lowX a_0_lowY a_0_highX a_0_highY b_0_thickness b_0_doors b_0_doorFrom b_0_doorTo cI v_0_count f_0_lowX f_0_lowY f_0_highX f_0_highY) (wl_Li_ahead a_0 a_0_lowX a_0_lowY a_0_highX a_0_highY b_0_thickness b_0_doors b_0_doorFrom b_0_doorTo cI v_0_count f_0_lowX f_0_lowY f_0_highX f_0_highY) R0) 0 0 (va_A (wl_Li_ahead a_0 a_0_lowX a_0_lowY a_0_highX a_0_highY b_0_thickness b_0_doors b_0_doorFrom b_0_doorTo cI v_0_count f_0_lowX f_0_lowY f_0_highX f_0_highY) sz) := by
  refine Met.ofW (cc := b_Li_ahead) (maxL := 7) (ret := (some .int)) (by decide) rfl ?_
  intro p e s m args below meth c s₁ B hml hv
  obtain ⟨rfl, hsz, hP, hK, hD0, hN⟩ := hv
  subst hsz
  have hl := lv_entry ([.ref a_0, .int p1, .int p2, .int p3, .int p4]) (n := 7) (Nat.le_of_ble_eq_true rfl)
  rw [lg_entry_eq]
  generalize (lg_sl ([.ref a_0, .int p1, .int p2, .int p3, .int p4]) ++ List.replicate (7 - (lg_sl ([.ref a_0, .int p1, .int p2, .int p3, .int p4])).length) Slot.unset).toArray = ls at hl ⊢
  exact t_Li_ahead a_0 a_0_lowX a_0_lowY a_0_highX a_0_highY b_0_thickness b_0_doors b_0_doorFrom b_0_doorTo v_0_count f_0_lowX f_0_lowY f_0_highX f_0_highY p1 p2 p3 p4 R0 B.exec B.bytes hml (findClass_of_methodNamed B.named) (atoms_spec (ws := w_Li_ahead) B.pre) hK hN (fun q h => Or.inr h) (fun pc H locs ls hd hP9 hD9 hS => W.iret B.exec B.bytes B.returns (fun t ht hW => ⟨⟨_, (), rfl, rfl, by rw [ht]; exact hP9, va_K.moved hW.alike hK, hD9⟩, hS.F ht⟩) hS.2.2 hd) hm s.heap [] ls hP hD0.self va_S.rf hl

theorem k_27 : ((.code ⟨"SpaceCycles$Lines", "ahead", "(IIII)I"⟩ prog_6_method_10_code 7 (some .int)) : Cond) ∈ gl := gl_i 1089 (by decide +kernel) (by decide +kernel)
theorem k_28 : ((.selects "SpaceCycles$Lines" ⟨"SpaceCycles$Lines", "ahead", "(IIII)I"⟩ ⟨"SpaceCycles$Lines", "ahead", "(IIII)I"⟩) : Cond) ∈ gl := gl_s (by decide +kernel) (by decide +kernel)
theorem k_29 : ((.instanceMethod ⟨"SpaceCycles$Lines", "ahead", "(IIII)I"⟩) : Cond) ∈ gl := gl_i 1088 (by decide +kernel) (by decide +kernel)
theorem k_30 : ((.initialized "SpaceCycles$Lines") : Cond) ∈ gl := gl_i 2 (by decide +kernel) (by decide +kernel)
theorem k_31 : ((.methodLink "SpaceCycles$Lines" 49 ⟨"SpaceCycles$Lines", "ahead", "(IIII)I"⟩) : Cond) ∈ gl := gl_i 1086 (by decide +kernel) (by decide +kernel)
-- SpaceCycles$Lines.reach(III)I
abbrev b_Li_reach : ByteArray := prog_6_method_9_code
abbrev y_Li_reach : MethodName := ⟨"SpaceCycles$Lines", "reach", "(III)I"⟩
abbrev w_Li_reach : List Cond := Cond.code y_Li_reach b_Li_reach 7 (some .int) :: gl
abbrev rm_Li_reach : Room := { frames := 1, cells := 0, slots := 0, locals := 26 }
theorem d_Li_reach_0 : decode b_Li_reach 0 = .ok (.iconst (-1), 1) := by decide +kernel
theorem d_Li_reach_1 : decode b_Li_reach 1 = .ok (.istore 4, 2) := by decide +kernel
theorem d_Li_reach_3 : decode b_Li_reach 3 = .ok (.iconst 0, 1) := by decide +kernel
theorem d_Li_reach_4 : decode b_Li_reach 4 = .ok (.istore 5, 2) := by decide +kernel
theorem d_Li_reach_6 : decode b_Li_reach 6 = .ok (.iload 5, 2) := by decide +kernel
theorem d_Li_reach_8 : decode b_Li_reach 8 = .ok (.aload_n 0, 1) := by decide +kernel
theorem d_Li_reach_9 : decode b_Li_reach 9 = .ok (.getfield 36, 3) := by decide +kernel
theorem d_Li_reach_12 : decode b_Li_reach 12 = .ok (.if_icmp .ge 42, 3) := by decide +kernel
theorem d_Li_reach_15 : decode b_Li_reach 15 = .ok (.aload_n 0, 1) := by decide +kernel
theorem d_Li_reach_16 : decode b_Li_reach 16 = .ok (.iload 5, 2) := by decide +kernel
theorem d_Li_reach_18 : decode b_Li_reach 18 = .ok (.iload_n 1, 1) := by decide +kernel
theorem d_Li_reach_19 : decode b_Li_reach 19 = .ok (.iload_n 2, 1) := by decide +kernel
theorem d_Li_reach_20 : decode b_Li_reach 20 = .ok (.iload_n 3, 1) := by decide +kernel
theorem d_Li_reach_21 : decode b_Li_reach 21 = .ok (.invokevirtual 49, 3) := by decide +kernel
theorem d_Li_reach_24 : decode b_Li_reach 24 = .ok (.istore 6, 2) := by decide +kernel
theorem d_Li_reach_26 : decode b_Li_reach 26 = .ok (.iload 6, 2) := by decide +kernel
theorem d_Li_reach_28 : decode b_Li_reach 28 = .ok (.ifCond .le 20, 3) := by decide +kernel
theorem d_Li_reach_31 : decode b_Li_reach 31 = .ok (.iload 4, 2) := by decide +kernel
theorem d_Li_reach_33 : decode b_Li_reach 33 = .ok (.iconst (-1), 1) := by decide +kernel
theorem d_Li_reach_34 : decode b_Li_reach 34 = .ok (.if_icmp .eq 10, 3) := by decide +kernel
theorem d_Li_reach_37 : decode b_Li_reach 37 = .ok (.iload 6, 2) := by decide +kernel
theorem d_Li_reach_39 : decode b_Li_reach 39 = .ok (.iload 4, 2) := by decide +kernel
theorem d_Li_reach_41 : decode b_Li_reach 41 = .ok (.if_icmp .ge 7, 3) := by decide +kernel
theorem d_Li_reach_44 : decode b_Li_reach 44 = .ok (.iload 6, 2) := by decide +kernel
theorem d_Li_reach_46 : decode b_Li_reach 46 = .ok (.istore 4, 2) := by decide +kernel
theorem d_Li_reach_48 : decode b_Li_reach 48 = .ok (.iinc 5 1, 3) := by decide +kernel
theorem d_Li_reach_51 : decode b_Li_reach 51 = .ok (.goto (-45), 3) := by decide +kernel
theorem d_Li_reach_54 : decode b_Li_reach 54 = .ok (.iload 4, 2) := by decide +kernel
theorem d_Li_reach_56 : decode b_Li_reach 56 = .ok (.ireturn, 1) := by decide +kernel
abbrev wl_Li_reach (a_0 : Nat) (a_0_lowX : Nat) (a_0_lowY : Nat) (a_0_highX : Nat) (a_0_highY : Nat) (b_0_thickness : Nat) (b_0_doors : Nat) (b_0_doorFrom : Nat) (b_0_doorTo : Nat) (cI : ClassId) (v_0_count : Int32) (f_0_lowX : Nat → Int32) (f_0_lowY : Nat → Int32) (f_0_highX : Nat → Int32) (f_0_highY : Nat → Int32) : va_W := [(a_0, .inr (1, [.ref a_0_lowX, .ref a_0_lowY, .ref a_0_highX, .ref a_0_highY, .ref b_0_thickness, .ref b_0_doors, .ref b_0_doorFrom, .ref b_0_doorTo, .int v_0_count])), (a_0_lowX, .inl (cI, 20, .inl f_0_lowX)), (a_0_lowY, .inl (cI, 20, .inl f_0_lowY)), (a_0_highX, .inl (cI, 20, .inl f_0_highX)), (a_0_highY, .inl (cI, 20, .inl f_0_highY))]
def m_Li_reach_L6 (l1 : Int32) (l2 : Int32) (l3 : Int32) (v_0_count : Int32) (f_0_lowX : Nat → Int32) (f_0_lowY : Nat → Int32) (f_0_highX : Nat → Int32) (f_0_highY : Nat → Int32) : Nat → Int32 → Int32 → Option (Int32)
  | 0, _, _ => none
  | n + 1, l4, l5 =>
    if v_0_count ≤ l5 then (
      some l4)
    else (
      bd1 (m_Li_ahead l5 l1 l2 l3 f_0_lowX f_0_lowY f_0_highX f_0_highY) fun r2 =>
      bd1 (
        if r2 ≤ 0 then (
        some l4)
      else (
        if l4 = (-1) then (
          some r2)
        else (
          if l4 ≤ r2 then (
            some l4)
          else (
            some r2))))
      fun (x7 : Int32) =>
      lt_ (l5 + 1) fun x11 =>
        m_Li_reach_L6 l1 l2 l3 v_0_count f_0_lowX f_0_lowY f_0_highX f_0_highY n x7 x11)
def m_Li_reach (p1 : Int32) (p2 : Int32) (p3 : Int32) (v_0_count : Int32) (f_0_lowX : Nat → Int32) (f_0_lowY : Nat → Int32) (f_0_highX : Nat → Int32) (f_0_highY : Nat → Int32) : Option (Int32) :=
  bd1 (m_Li_reach_L6 p1 p2 p3 v_0_count f_0_lowX f_0_lowY f_0_highX f_0_highY fu (-1) 0) fun x3 =>
  some x3

set_option maxHeartbeats 4000000 in
set_option maxRecDepth 100000 in
theorem t_Li_reach {p : Program} {l : Launch} {e : Env} {s : State} {m : MethodId} {args : Array Value} {below : List Frame} {meth : Method} {c : Code} {A : Nat → Prop} {Q : State → Prop} {dC : Nat → ClassId} {dI : Nat → Nat → Nat} {cI cZ cJ : ClassId} (a_0 a_0_lowX a_0_lowY a_0_highX a_0_highY b_0_thickness b_0_doors b_0_doorFrom b_0_doorTo : Nat) (v_0_count : Int32) (f_0_lowX : Nat → Int32) (f_0_lowY : Nat → Int32) (f_0_highX : Nat → Int32) (f_0_highY : Nat → Int32) (p1 : Int32) (p2 : Int32) (p3 : Int32) (R0 : Int32) (hx : p.tables.exec = Jvm.exec) (hb : c.code = b_Li_reach) (hml : c.maxLocals = 7) (hown : s.vm.findClass "SpaceCycles$Lines" = some m.cls) (hts : ∀ w ∈ w_Li_reach, w.before args s = true) (hK : va_K (dC, dI) vwCl [(cI, .int), (cZ, .boolean), (cJ, .long)] s) (hN : NX s) (hA : ∀ q : Nat, s.heap.size ≤ q → A q)
    (hret : ∀ (pc : Nat) (H : Heap) (locs : List Loc) (ls : Array Slot), decode b_Li_reach pc = .ok (.ireturn, 1) → va_P (dC, dI) vwCl (wl_Li_reach a_0 a_0_lowX a_0_lowY a_0_highX a_0_highY b_0_thickness b_0_doors b_0_doorFrom b_0_doorTo cI v_0_count f_0_lowX f_0_lowY f_0_highX f_0_highY) H → va_D A (wl_Li_reach a_0 a_0_lowX a_0_lowY a_0_highX a_0_highY b_0_thickness b_0_doors b_0_doorFrom b_0_doorTo cI v_0_count f_0_lowX f_0_lowY f_0_highX f_0_highY) → va_S A s.heap H locs → W p l e rm_Li_reach s m args below meth c H locs 0 0 Q (F0 m pc ls [.int R0]))
    (hm : m_Li_reach p1 p2 p3 v_0_count f_0_lowX f_0_lowY f_0_highX f_0_highY = some R0) : ∀ (H : Heap) (locs : List Loc) (ls : Array Slot), va_P (dC, dI) vwCl (wl_Li_reach a_0 a_0_lowX a_0_lowY a_0_highX a_0_highY b_0_thickness b_0_doors b_0_doorFrom b_0_doorTo cI v_0_count f_0_lowX f_0_lowY f_0_highX f_0_highY) H → va_D A (wl_Li_reach a_0 a_0_lowX a_0_lowY a_0_highX a_0_highY b_0_thickness b_0_doors b_0_doorFrom b_0_doorTo cI v_0_count f_0_lowX f_0_lowY f_0_highX f_0_highY) → va_S A s.heap H locs → lv_has ls 7 [(0, .ref a_0), (1, .int p1), (2, .int p2), (3, .int p3)] → W p l e rm_Li_reach s m args below meth c H locs 0 0 Q (F0 m 0 ls []) := by
  intro H locs ls hP hD hS hl
  unfold m_Li_reach at hm
  refine lv_iconst (v := (-1)) hx hb d_Li_reach_0 (by decide) ?_
  refine lv_istore (lv' := [(4, .int (-1)), (0, .ref a_0), (1, .int p1), (2, .int p2), (3, .int p3)]) hx hb d_Li_reach_1 hl (by decide) rfl (fun ls hl => ?_)
  refine lv_iconst (v := 0) hx hb d_Li_reach_3 (by decide) ?_
  refine lv_istore (lv' := [(5, .int 0), (4, .int (-1)), (0, .ref a_0), (1, .int p1), (2, .int p2), (3, .int p3)]) hx hb d_Li_reach_4 hl (by decide) rfl (fun ls hl => ?_)
  have L6_4 : ∀ (n : Nat) (x1 : Int32) (x2 : Int32) (x3 : Int32), m_Li_reach_L6 p1 p2 p3 v_0_count f_0_lowX f_0_lowY f_0_highX f_0_highY n x1 x2 = some x3 → (∀ (H : Heap) (locs : List Loc) (ls : Array Slot), va_P (dC, dI) vwCl (wl_Li_reach a_0 a_0_lowX a_0_lowY a_0_highX a_0_highY b_0_thickness b_0_doors b_0_doorFrom b_0_doorTo cI v_0_count f_0_lowX f_0_lowY f_0_highX f_0_highY) H → va_D A (wl_Li_reach a_0 a_0_lowX a_0_lowY a_0_highX a_0_highY b_0_thickness b_0_doors b_0_doorFrom b_0_doorTo cI v_0_count f_0_lowX f_0_lowY f_0_highX f_0_highY) → va_S A s.heap H locs → lv_has ls 7 [(4, .int x3)] → W p l e rm_Li_reach s m args below meth c H locs 0 0 Q (F0 m 54 ls [])) → ∀ (H : Heap) (locs : List Loc) (ls : Array Slot), va_P (dC, dI) vwCl (wl_Li_reach a_0 a_0_lowX a_0_lowY a_0_highX a_0_highY b_0_thickness b_0_doors b_0_doorFrom b_0_doorTo cI v_0_count f_0_lowX f_0_lowY f_0_highX f_0_highY) H → va_D A (wl_Li_reach a_0 a_0_lowX a_0_lowY a_0_highX a_0_highY b_0_thickness b_0_doors b_0_doorFrom b_0_doorTo cI v_0_count f_0_lowX f_0_lowY f_0_highX f_0_highY) → va_S A s.heap H locs → lv_has ls 7 [(0, .ref a_0), (1, .int p1), (2, .int p2), (3, .int p3), (4, .int x1), (5, .int x2)] → W p l e rm_Li_reach s m args below meth c H locs 0 0 Q (F0 m 6 ls []) := by
    intro n
    induction n with
    | zero => intro x1 x2 x3 hm; simp [m_Li_reach_L6] at hm
    | succ n ih =>
      intro x1 x2 x3 hm KE H locs ls hP hD hS hl
      rw [m_Li_reach_L6] at hm
      refine lv_iload hx hb d_Li_reach_6 (lv_at hl 5 rfl) ?_
      refine lv_aload_n hx hb d_Li_reach_8 rfl (lv_at hl 0 rfl) ?_
      refine va_get (D := (dC, dI)) (ci := 1) (v := .int v_0_count) (C := "SpaceCycles$Lines") (T := F_Li) (N := 9) hx hb hts (in_F i_Li) hown hK hP 0 rfl rfl 8 (by decide) (hts _ (in_c k_19)) (fun _ h9 => h9) rfl d_Li_reach_9 ?_
      refine lv_icmp_ge (tgt := 54) hx hb d_Li_reach_12 (by decide) (fun c5 => ?_) (fun c5 => ?_)
      · replace hm := if_t hm c5
        cases hm
        exact KE H locs ls hP hD hS (lv_sub hl [4] rfl)
      · replace hm := if_f hm c5
        refine lv_aload_n hx hb d_Li_reach_15 rfl (lv_at hl 0 rfl) ?_
        refine lv_iload hx hb d_Li_reach_16 (lv_at hl 5 rfl) ?_
        refine lv_iload_n hx hb d_Li_reach_18 rfl (lv_at hl 1 rfl) ?_
        refine lv_iload_n hx hb d_Li_reach_19 rfl (lv_at hl 2 rfl) ?_
        refine lv_iload_n hx hb d_Li_reach_20 rfl (lv_at hl 3 rfl) ?_
        obtain ⟨r6, hb7, hm⟩ := bd1_e hm
        have hPc := hP.sub (ws' := (wl_Li_ahead a_0 a_0_lowX a_0_lowY a_0_highX a_0_highY b_0_thickness b_0_doors b_0_doorFrom b_0_doorTo cI v_0_count f_0_lowX f_0_lowY f_0_highX f_0_highY)) [0, 1, 2, 3, 4] rfl
        have hDc := hD.sub (ws' := (wl_Li_ahead a_0 a_0_lowX a_0_lowY a_0_highX a_0_highY b_0_thickness b_0_doors b_0_doorFrom b_0_doorTo cI v_0_count f_0_lowX f_0_lowY f_0_highX f_0_highY)) [0, 1, 2, 3, 4] (by decide) rfl
        refine cl_i (wc' := (wl_Li_ahead a_0 a_0_lowX a_0_lowY a_0_highX a_0_highY b_0_thickness b_0_doors b_0_doorFrom b_0_doorTo cI v_0_count f_0_lowX f_0_lowY f_0_highX f_0_highY)) (va_runV (As := [.int x2, .int p1, .int p2, .int p3]) (rest := []) ⟨hx, hb, hml, hown, hts⟩ (c_Li_ahead l dC dI (cI := cI) (cZ := cZ) (cJ := cJ) a_0 a_0_lowX a_0_lowY a_0_highX a_0_highY b_0_thickness b_0_doors b_0_doorFrom b_0_doorTo H.size v_0_count f_0_lowX f_0_lowY f_0_highX f_0_highY x2 p1 p2 p3 r6 hb7) (cwV 4 hts (gl_V k_31 k_29 k_28 k_30 k_27) rfl rfl rfl (by decide +kernel) ⟨Nat.le_of_ble_eq_true rfl, Nat.le_of_ble_eq_true rfl⟩) ⟨PP_blind, va_recv hK hPc (ci := 1) (q0 := 0) rfl rfl, fun U hU hW => PP_at hK hN hPc hDc hU hW⟩ rfl rfl hl.1 rfl (lv_room (Nat.le_of_ble_eq_true rfl)) d_Li_reach_21 ⟨Nat.zero_le _, Nat.zero_le _⟩) hP hD hS hA [0, 1, 2, 3, 4] [] rfl rfl (by decide) (by decide) (fun H locs hP hD hS => ?_)
        have hP : va_P (dC, dI) vwCl (wl_Li_reach a_0 a_0_lowX a_0_lowY a_0_highX a_0_highY b_0_thickness b_0_doors b_0_doorFrom b_0_doorTo cI v_0_count f_0_lowX f_0_lowY f_0_highX f_0_highY) H := hP.sub [0, 1, 2, 3, 4] rfl
        have hD : va_D A (wl_Li_reach a_0 a_0_lowX a_0_lowY a_0_highX a_0_highY b_0_thickness b_0_doors b_0_doorFrom b_0_doorTo cI v_0_count f_0_lowX f_0_lowY f_0_highX f_0_highY) := hD.sub [0, 1, 2, 3, 4] (by decide) rfl
        refine lv_istore (lv' := [(6, .int r6), (0, .ref a_0), (1, .int p1), (2, .int p2), (3, .int p3), (4, .int x1), (5, .int x2)]) hx hb d_Li_reach_24 hl (by decide) rfl (fun ls hl => ?_)
        refine lv_iload hx hb d_Li_reach_26 (lv_at hl 0 rfl) ?_
        obtain ⟨x11, hb9, hm⟩ := bd1_e hm
        have K8 : ∀ (H : Heap) (locs : List Loc) (ls : Array Slot), va_P (dC, dI) vwCl (wl_Li_reach a_0 a_0_lowX a_0_lowY a_0_highX a_0_highY b_0_thickness b_0_doors b_0_doorFrom b_0_doorTo cI v_0_count f_0_lowX f_0_lowY f_0_highX f_0_highY) H → va_D A (wl_Li_reach a_0 a_0_lowX a_0_lowY a_0_highX a_0_highY b_0_thickness b_0_doors b_0_doorFrom b_0_doorTo cI v_0_count f_0_lowX f_0_lowY f_0_highX f_0_highY) → va_S A s.heap H locs → lv_has ls 7 [(0, .ref a_0), (1, .int p1), (2, .int p2), (3, .int p3), (4, .int x11), (5, .int x2)] → W p l e rm_Li_reach s m args below meth c H locs 0 0 Q (F0 m 48 ls []) := by
          intro H locs ls hP hD hS hl
          obtain ⟨x15, ex15⟩ : ∃ y : Int32, y = x2 + 1 := ⟨_, rfl⟩
          replace hm := lt_el hm ex15
          refine lv_iinc (v := x15) (lv' := [(5, .int x15), (0, .ref a_0), (1, .int p1), (2, .int p2), (3, .int p3), (4, .int x11)]) hx hb d_Li_reach_48 hl (k := 5) rfl (by rw [ex15]; rfl) (by decide) rfl (fun ls hl => ?_)
          refine lv_goto (tgt := 6) hx hb d_Li_reach_51 (by decide) ?_
          exact ih _ _ _ hm KE H locs ls hP hD hS (lv_sub hl [1, 2, 3, 4, 5, 0] rfl)
        replace hm := hb9
        refine lv_if_le (tgt := 48) hx hb d_Li_reach_28 (by decide) (fun c12 => ?_) (fun c12 => ?_)
        · replace hm := if_t hm c12
          cases hm
          exact K8 H locs ls hP hD hS (lv_sub hl [1, 2, 3, 4, 5, 6] rfl)
        · replace hm := if_f hm c12
          refine lv_iload hx hb d_Li_reach_31 (lv_at hl 5 rfl) ?_
          refine lv_iconst (v := (-1)) hx hb d_Li_reach_33 (by decide) ?_
          refine lv_icmp_eq (tgt := 44) hx hb d_Li_reach_34 (by decide) (fun c13 => ?_) (fun c13 => ?_)
          · replace hm := if_t hm c13
            refine lv_iload hx hb d_Li_reach_44 (lv_at hl 0 rfl) ?_
            refine lv_istore (lv' := [(4, .int r6), (6, .int r6), (0, .ref a_0), (1, .int p1), (2, .int p2), (3, .int p3), (5, .int x2)]) hx hb d_Li_reach_46 hl (by decide) rfl (fun ls hl => ?_)
            cases hm
            exact K8 H locs ls hP hD hS (lv_sub hl [2, 3, 4, 5, 0, 6] rfl)
          · replace hm := if_f hm c13
            refine lv_iload hx hb d_Li_reach_37 (lv_at hl 0 rfl) ?_
            refine lv_iload hx hb d_Li_reach_39 (lv_at hl 5 rfl) ?_
            refine lv_icmp_ge (tgt := 48) hx hb d_Li_reach_41 (by decide) (fun c14 => ?_) (fun c14 => ?_)
            · replace hm := if_t hm c14
              cases hm
              exact K8 H locs ls hP hD hS (lv_sub hl [1, 2, 3, 4, 5, 6] rfl)
            · replace hm := if_f hm c14
              refine lv_iload hx hb d_Li_reach_44 (lv_at hl 0 rfl) ?_
              refine lv_istore (lv' := [(4, .int r6), (6, .int r6), (0, .ref a_0), (1, .int p1), (2, .int p2), (3, .int p3), (5, .int x2)]) hx hb d_Li_reach_46 hl (by decide) rfl (fun ls hl => ?_)
              cases hm
              exact K8 H locs ls hP hD hS (lv_sub hl [2, 3, 4, 5, 0, 6] rfl)
  obtain ⟨x3, hb16, hm⟩ := bd1_e hm
  refine L6_4 fu _ _ _ hb16 (fun H locs ls hP hD hS hl => ?_) H locs ls hP hD hS (lv_sub hl [2, 3, 4, 5, 1, 0] rfl)
  refine lv_iload hx hb d_Li_reach_54 (lv_at hl 0 rfl) ?_
  cases hm
  exact hret _ H locs ls d_Li_reach_56 hP hD hS
set_option maxHeartbeats 4000000 in
set_option maxRecDepth 100000 in
theorem c_Li_reach (l : Launch) (dC : Nat → ClassId) (dI : Nat → Nat → Nat) {cI cZ cJ : ClassId} (a_0 a_0_lowX a_0_lowY a_0_highX a_0_highY b_0_thickness b_0_doors b_0_doorFrom b_0_doorTo : Nat) (sz : Nat) (v_0_count : Int32) (f_0_lowX : Nat → Int32) (f_0_lowY : Nat → Int32) (f_0_highX : Nat → Int32) (f_0_highY : Nat → Int32) (p1 : Int32) (p2 : Int32) (p3 : Int32) (R0 : Int32) (hm : m_Li_reach p1 p2 p3 v_0_count f_0_lowX f_0_lowY f_0_highX f_0_highY = some R0) : Met l y_Li_reach w_Li_reach rm_Li_reach (PP dC dI [(cI, .int), (cZ, .boolean), (cJ, .long)] [.ref a_0, .int p1, .int p2, .int p3] sz (wl_Li_reach a_0 a_0_lowX a_0_lowY a_0_highX a_0_highY b_0_thickness b_0_doors b_0_doorFrom b_0_doorTo cI v_0_count f_0_lowX f_0_lowY f_0_highX f_0_highY)) (QI dC dI [(cI, .int), (cZ, .boolean), (cJ, .long)] sz (wl_Li_reach a_0 a_0_lowX a_0_lowY a_0_highX a_0_highY b_0_thickness b_0_doors b_0_doorFrom b_0_doorTo cI v_0_count f_0_lowX f_0_lowY f_0_highX f_0_highY) (wl_Li_reach a_0 a_0_lowX a_0_lowY a_0_highX a_0_highY b_0_thickness b_0_doors b_0_doorFrom b_0_doorTo cI v_0_count f_0_lowX f_0_lowY f_0_highX f_0_highY) R0) 0 0 (va_A (wl_Li_reach a_0 a_0_lowX a_0_lowY a_0_highX a_0_highY b_0_thickness b_0_doors b_0_doorFrom b_0_doorTo cI v_0_count f_0_lowX f_0_lowY f_0_highX f_0_highY) sz) := by
  refine Met.ofW (cc := b_Li_reach) (maxL := 7) (ret := (some .int)) (by decide) rfl ?_
  intro p e s m args below meth c s₁ B hml hv
  obtain ⟨rfl, hsz, hP, hK, hD0, hN⟩ := hv
  subst hsz
  have hl := lv_entry ([.ref a_0, .int p1, .int p2, .int p3]) (n := 7) (Nat.le_of_ble_eq_true rfl)
  rw [lg_entry_eq]
  generalize (lg_sl ([.ref a_0, .int p1, .int p2, .int p3]) ++ List.replicate (7 - (lg_sl ([.ref a_0, .int p1, .int p2, .int p3])).length) Slot.unset).toArray = ls at hl ⊢
  exact t_Li_reach a_0 a_0_lowX a_0_lowY a_0_highX a_0_highY b_0_thickness b_0_doors b_0_doorFrom b_0_doorTo v_0_count f_0_lowX f_0_lowY f_0_highX f_0_highY p1 p2 p3 R0 B.exec B.bytes hml (findClass_of_methodNamed B.named) (atoms_spec (ws := w_Li_reach) B.pre) hK hN (fun q h => Or.inr h) (fun pc H locs ls hd hP9 hD9 hS => W.iret B.exec B.bytes B.returns (fun t ht hW => ⟨⟨_, (), rfl, rfl, by rw [ht]; exact hP9, va_K.moved hW.alike hK, hD9⟩, hS.F ht⟩) hS.2.2 hd) hm s.heap [] ls hP hD0.self va_S.rf hl
