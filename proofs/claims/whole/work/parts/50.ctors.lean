/-- a new array whose class is known already -/
theorem va_newb {p : Program} {l : Launch} {e : Env} {R : Room} {s : State} {m : MethodId} {args : Array Value} {below : List Frame} {meth : Method} {c : Code} {H H0 : Heap} {locs : List Loc} {cells slots : Nat} {Q : State → Prop} {A : Nat → Prop} {D : va_G} {cl : List vw_C} {tys : List (ClassId × FieldType)} {ws : va_W} {pc : Nat} {ls : Array Slot} {rest : List Value} {cc : ByteArray} {t0 : Nat} {c0 : ClassId}
    (hexec : p.tables.exec = Jvm.exec) (hb : c.code = cc) {atype : ArrayType} {ty : FieldType} (harr : (Cond.arrayClass ty).before args s = true) (hty : newarray.typeOf atype = ty) (ht : tys[t0]? = some (c0, ty)) (hra : ∀ {cA : ClassId}, va_RA s cA ty → s.vm.findClass ("[" ++ ty.toString) = some cA) (hK : va_K D cl tys s) (hP : va_P D cl ws H) (hD : va_D A ws) (hS : va_S A H0 H locs) (hA : ∀ q, H0.size ≤ q → A q)
    {n : Int32} {N' : Nat} {a0 : vp_A} (ha : ∀ cA : ClassId, vp_cell cA a0 = arrV cA N' (fun _ => defaultValue ty)) (hn : ¬ n < 0) (hN : n.toNatClampNeg = N') (hbytes : N' * componentBytes ty ≤ 536870912) (hcells : cells + 1 ≤ R.cells) (hslots : slots + N' ≤ R.slots) (hdg : decode cc pc = .ok (.newarray atype, 2))
    (kk : ∀ (q : Nat) (H1 : Heap), va_P D cl (ws ++ [(q, .inl (c0, a0))]) H1 → va_D A (ws ++ [(q, .inl (c0, a0))]) → va_S A H0 H1 locs →
      W p l e R s m args below meth c H1 locs (cells + 1) (slots + N') Q (F0 m (pc + 2) ls (.ref q :: rest))) : W p l e R s m args below meth c H locs cells slots Q (F0 m pc ls (.int n :: rest)) := by
  refine va_newa hexec hb (by rw [hty]; exact harr) hty hK hP hD hS hA ha hn hN hbytes hcells hslots hdg (fun q cA H1 hK' hP' hD' hS' => ?_)
  have h1 := hra (hK.2 t0 _ ht).2
  have h2 := hra (hK'.2 tys.length (cA, ty) (by simp)).2
  cases Option.some.inj (h1.symm.trans h2)
  exact kk q H1 hP' hD' hS'
theorem k_630 : ((.methodLink "SpaceCycles$Lines" 3 ⟨"java/lang/Object", "<init>", "()V"⟩) : Cond) ∈ gl := gl_i 42 (by decide +kernel) (by decide +kernel)
theorem k_631 : ((.instanceMethod ⟨"java/lang/Object", "<init>", "()V"⟩) : Cond) ∈ gl := gl_i 35 (by decide +kernel) (by decide +kernel)
theorem k_632 : ((.code ⟨"java/lang/Object", "<init>", "()V"⟩ object_method_1_code 1 none) : Cond) ∈ gl := gl_i 36 (by decide +kernel) (by decide +kernel)
theorem k_633 : ((.arrayClass .int) : Cond) ∈ gl := gl_i 96 (by decide +kernel) (by decide +kernel)
theorem k_634 : ((.fieldLink "SpaceCycles$Lines" 24 "SpaceCycles$Lines" "thickness" "[I") : Cond) ∈ gl := gl_i 65 (by decide +kernel) (by decide +kernel)
-- SpaceCycles$Lines.<init>
abbrev b_Li_init : ByteArray := prog_6_method_1_code
abbrev y_Li_init : MethodName := ⟨"SpaceCycles$Lines", "<init>", "()V"⟩
abbrev w_Li_init : List Cond := Cond.code y_Li_init b_Li_init 1 none :: gl
abbrev rm_Li_init : Room := { frames := 1, cells := 8, slots := 360, locals := 12 }
theorem d_Li_init_0 : decode b_Li_init 0 = .ok (.aload_n 0, 1) := by decide +kernel
theorem d_Li_init_1 : decode b_Li_init 1 = .ok (.invokespecial 3, 3) := by decide +kernel
theorem d_Li_init_4 : decode b_Li_init 4 = .ok (.aload_n 0, 1) := by decide +kernel
theorem d_Li_init_5 : decode b_Li_init 5 = .ok (.bipush 20, 2) := by decide +kernel
theorem d_Li_init_7 : decode b_Li_init 7 = .ok (.newarray .int, 2) := by decide +kernel
theorem d_Li_init_9 : decode b_Li_init 9 = .ok (.putfield 9, 3) := by decide +kernel
theorem d_Li_init_12 : decode b_Li_init 12 = .ok (.aload_n 0, 1) := by decide +kernel
theorem d_Li_init_13 : decode b_Li_init 13 = .ok (.bipush 20, 2) := by decide +kernel
theorem d_Li_init_15 : decode b_Li_init 15 = .ok (.newarray .int, 2) := by decide +kernel
theorem d_Li_init_17 : decode b_Li_init 17 = .ok (.putfield 15, 3) := by decide +kernel
theorem d_Li_init_20 : decode b_Li_init 20 = .ok (.aload_n 0, 1) := by decide +kernel
theorem d_Li_init_21 : decode b_Li_init 21 = .ok (.bipush 20, 2) := by decide +kernel
theorem d_Li_init_23 : decode b_Li_init 23 = .ok (.newarray .int, 2) := by decide +kernel
theorem d_Li_init_25 : decode b_Li_init 25 = .ok (.putfield 18, 3) := by decide +kernel
theorem d_Li_init_28 : decode b_Li_init 28 = .ok (.aload_n 0, 1) := by decide +kernel
theorem d_Li_init_29 : decode b_Li_init 29 = .ok (.bipush 20, 2) := by decide +kernel
theorem d_Li_init_31 : decode b_Li_init 31 = .ok (.newarray .int, 2) := by decide +kernel
theorem d_Li_init_33 : decode b_Li_init 33 = .ok (.putfield 21, 3) := by decide +kernel
theorem d_Li_init_36 : decode b_Li_init 36 = .ok (.aload_n 0, 1) := by decide +kernel
theorem d_Li_init_37 : decode b_Li_init 37 = .ok (.bipush 20, 2) := by decide +kernel
theorem d_Li_init_39 : decode b_Li_init 39 = .ok (.newarray .int, 2) := by decide +kernel
theorem d_Li_init_41 : decode b_Li_init 41 = .ok (.putfield 24, 3) := by decide +kernel
theorem d_Li_init_44 : decode b_Li_init 44 = .ok (.aload_n 0, 1) := by decide +kernel
theorem d_Li_init_45 : decode b_Li_init 45 = .ok (.bipush 20, 2) := by decide +kernel
theorem d_Li_init_47 : decode b_Li_init 47 = .ok (.newarray .int, 2) := by decide +kernel
theorem d_Li_init_49 : decode b_Li_init 49 = .ok (.putfield 27, 3) := by decide +kernel
theorem d_Li_init_52 : decode b_Li_init 52 = .ok (.aload_n 0, 1) := by decide +kernel
theorem d_Li_init_53 : decode b_Li_init 53 = .ok (.bipush 120, 2) := by decide +kernel
theorem d_Li_init_55 : decode b_Li_init 55 = .ok (.newarray .int, 2) := by decide +kernel
theorem d_Li_init_57 : decode b_Li_init 57 = .ok (.putfield 30, 3) := by decide +kernel
theorem d_Li_init_60 : decode b_Li_init 60 = .ok (.aload_n 0, 1) := by decide +kernel
theorem d_Li_init_61 : decode b_Li_init 61 = .ok (.bipush 120, 2) := by decide +kernel
theorem d_Li_init_63 : decode b_Li_init 63 = .ok (.newarray .int, 2) := by decide +kernel
theorem d_Li_init_65 : decode b_Li_init 65 = .ok (.putfield 33, 3) := by decide +kernel
theorem d_Li_init_68 : decode b_Li_init 68 = .ok (.aload_n 0, 1) := by decide +kernel
theorem d_Li_init_69 : decode b_Li_init 69 = .ok (.iconst 0, 1) := by decide +kernel
theorem d_Li_init_70 : decode b_Li_init 70 = .ok (.putfield 36, 3) := by decide +kernel
theorem d_Li_init_73 : decode b_Li_init 73 = .ok (.return_, 1) := by decide +kernel
abbrev cw_Li (h q0 q1 q2 q3 q4 q5 q6 q7 : Nat) (cI cZ : ClassId) : va_W := [(h, .inr (1, [.ref q0, .ref q1, .ref q2, .ref q3, .ref q4, .ref q5, .ref q6, .ref q7, .int 0])), (q0, .inl (cI, 20, .inl (fun _ => 0))), (q1, .inl (cI, 20, .inl (fun _ => 0))), (q2, .inl (cI, 20, .inl (fun _ => 0))), (q3, .inl (cI, 20, .inl (fun _ => 0))), (q4, .inl (cI, 20, .inl (fun _ => 0))), (q5, .inl (cI, 20, .inl (fun _ => 0))), (q6, .inl (cI, 120, .inl (fun _ => 0))), (q7, .inl (cI, 120, .inl (fun _ => 0)))]
set_option maxHeartbeats 4000000 in
set_option maxRecDepth 100000 in
theorem c_Li_init (l : Launch) (dC : Nat → ClassId) (dI : Nat → Nat → Nat) {cI cZ cJ : ClassId} (h sz : Nat) : Met l y_Li_init w_Li_init rm_Li_init (PP dC dI [(cI, .int), (cZ, .boolean), (cJ, .long)] [.ref h] sz [(h, .inr (1, [.null, .null, .null, .null, .null, .null, .null, .null, .int 0]))]) (va_Qv (fun (_ : Unit) => True) (fun _ t => ∃ q0 q1 q2 q3 q4 q5 q6 q7 : Nat, BB dC dI [(cI, .int), (cZ, .boolean), (cJ, .long)] (va_A [(h, .inr (1, [.null, .null, .null, .null, .null, .null, .null, .null, .int 0]))] sz) (cw_Li h q0 q1 q2 q3 q4 q5 q6 q7 cI cZ) () t) (va_A [(h, .inr (1, [.null, .null, .null, .null, .null, .null, .null, .null, .int 0]))] sz)) 8 360 (va_A [(h, .inr (1, [.null, .null, .null, .null, .null, .null, .null, .null, .int 0]))] sz) := by
  refine Met.ofW (cc := b_Li_init) (maxL := 1) (ret := none) (by decide) rfl ?_
  intro p e s m args below meth c s₁ B hml hv
  obtain ⟨rfl, hsz, hP, hK, hD0, hN⟩ := hv
  have hx := B.exec
  have hb := B.bytes
  have hr := B.returns
  have hts := atoms_spec (ws := w_Li_init) B.pre
  have hown : s.vm.findClass "SpaceCycles$Lines" = some m.cls := findClass_of_methodNamed B.named
  have hlocks := B.notSynchronized
  have hin : meth.name = "<init>" := (name_of_methodNamed B.named B.method).1
  subst hsz
  have hD := hD0.self (sz := s.heap.size)
  generalize hAe : va_A [(h, .inr (1, [.null, .null, .null, .null, .null, .null, .null, .null, .int 0]))] s.heap.size = A at hD ⊢
  have hA : ∀ q : Nat, s.heap.size ≤ q → A q := fun q h => by rw [← hAe]; exact Or.inr h
  have hS : va_S A s.heap s.heap [] := va_S.rf
  have hl := lv_entry ([.ref h]) (n := 1) (Nat.le_of_ble_eq_true rfl)
  rw [lg_entry_eq]
  generalize (lg_sl ([.ref h]) ++ List.replicate (1 - (lg_sl ([.ref h])).length) Slot.unset).toArray = ls at hl ⊢
  have hl : lv_has ls 1 [(0, .ref h)] := hl
  refine lv_aload_n hx hb d_Li_init_0 rfl (lv_at hl 0 rfl) ?_
  refine W.objInit hx hb hown (hts _ (in_c k_630)) (hts _ (in_c k_631)) (hts _ (in_c k_632)) rfl (by rw [hml]; exact hl.1) rfl d_Li_init_1 (Nat.le_of_ble_eq_true rfl) (Nat.le_of_ble_eq_true rfl) ?_
  refine W.eq (g2 := F0 m 4 ls []) rfl ?_
  refine lv_aload_n hx hb d_Li_init_4 rfl (lv_at hl 0 rfl) ?_
  refine lv_bipush (v := 20) hx hb d_Li_init_5 (by decide) ?_
  refine va_newb (t0 := 0) (ty := .int) (c0 := cI) (a0 := (20, .inl (fun _ => 0))) hx hb (hts _ (in_c k_633)) rfl rfl (fun z => z) hK hP hD hS hA (fun _ => rfl) (by decide) (by decide +kernel) (by decide) (Nat.le_of_ble_eq_true rfl) (Nat.le_of_ble_eq_true rfl) d_Li_init_7 (fun x0 H hP hD hS => ?_)
  refine W.widen (k := 1) (n := 20) (by decide) (by decide) ?_
  have hP : va_P (dC, dI) vwCl [(h, .inr (1, [.null, .null, .null, .null, .null, .null, .null, .null, .int 0])), (x0, .inl (cI, 20, .inl (fun _ => 0)))] H := hP
  have hD : va_D A [(h, .inr (1, [.null, .null, .null, .null, .null, .null, .null, .null, .int 0])), (x0, .inl (cI, 20, .inl (fun _ => 0)))] := hD
  refine va_putF (D := (dC, dI)) (ci := 1) (v := .ref x0) (ty := (.array .int)) (C := "SpaceCycles$Lines") (T := F_Li) (N := 9) hx hb hts (in_F i_Li) t_Li t_Li_ok n_Li hown hK hP hD hS 0 rfl rfl 0 (by decide) (hts _ (in_c k_15)) (fun _ h9 => h9) rfl hin rfl (by decide +kernel) rfl rfl (Nat.le_of_ble_eq_true rfl) d_Li_init_9 (fun H locs hP hD hS => ?_)
  have hP : va_P (dC, dI) vwCl [(h, .inr (1, [.ref x0, .null, .null, .null, .null, .null, .null, .null, .int 0])), (x0, .inl (cI, 20, .inl (fun _ => 0)))] H := hP
  have hD : va_D A [(h, .inr (1, [.ref x0, .null, .null, .null, .null, .null, .null, .null, .int 0])), (x0, .inl (cI, 20, .inl (fun _ => 0)))] := hD
  refine lv_aload_n hx hb d_Li_init_12 rfl (lv_at hl 0 rfl) ?_
  refine lv_bipush (v := 20) hx hb d_Li_init_13 (by decide) ?_
  refine va_newb (t0 := 0) (ty := .int) (c0 := cI) (a0 := (20, .inl (fun _ => 0))) hx hb (hts _ (in_c k_633)) rfl rfl (fun z => z) hK hP hD hS hA (fun _ => rfl) (by decide) (by decide +kernel) (by decide) (Nat.le_of_ble_eq_true rfl) (Nat.le_of_ble_eq_true rfl) d_Li_init_15 (fun x1 H hP hD hS => ?_)
  refine W.widen (k := 2) (n := 40) (by decide) (by decide) ?_
  have hP : va_P (dC, dI) vwCl [(h, .inr (1, [.ref x0, .null, .null, .null, .null, .null, .null, .null, .int 0])), (x0, .inl (cI, 20, .inl (fun _ => 0))), (x1, .inl (cI, 20, .inl (fun _ => 0)))] H := hP
  have hD : va_D A [(h, .inr (1, [.ref x0, .null, .null, .null, .null, .null, .null, .null, .int 0])), (x0, .inl (cI, 20, .inl (fun _ => 0))), (x1, .inl (cI, 20, .inl (fun _ => 0)))] := hD
  refine va_putF (D := (dC, dI)) (ci := 1) (v := .ref x1) (ty := (.array .int)) (C := "SpaceCycles$Lines") (T := F_Li) (N := 9) hx hb hts (in_F i_Li) t_Li t_Li_ok n_Li hown hK hP hD hS 0 rfl rfl 1 (by decide) (hts _ (in_c k_16)) (fun _ h9 => h9) rfl hin rfl (by decide +kernel) rfl rfl (Nat.le_of_ble_eq_true rfl) d_Li_init_17 (fun H locs hP hD hS => ?_)
  have hP : va_P (dC, dI) vwCl [(h, .inr (1, [.ref x0, .ref x1, .null, .null, .null, .null, .null, .null, .int 0])), (x0, .inl (cI, 20, .inl (fun _ => 0))), (x1, .inl (cI, 20, .inl (fun _ => 0)))] H := hP
  have hD : va_D A [(h, .inr (1, [.ref x0, .ref x1, .null, .null, .null, .null, .null, .null, .int 0])), (x0, .inl (cI, 20, .inl (fun _ => 0))), (x1, .inl (cI, 20, .inl (fun _ => 0)))] := hD
  refine lv_aload_n hx hb d_Li_init_20 rfl (lv_at hl 0 rfl) ?_
  refine lv_bipush (v := 20) hx hb d_Li_init_21 (by decide) ?_
  refine va_newb (t0 := 0) (ty := .int) (c0 := cI) (a0 := (20, .inl (fun _ => 0))) hx hb (hts _ (in_c k_633)) rfl rfl (fun z => z) hK hP hD hS hA (fun _ => rfl) (by decide) (by decide +kernel) (by decide) (Nat.le_of_ble_eq_true rfl) (Nat.le_of_ble_eq_true rfl) d_Li_init_23 (fun x2 H hP hD hS => ?_)
  refine W.widen (k := 3) (n := 60) (by decide) (by decide) ?_
  have hP : va_P (dC, dI) vwCl [(h, .inr (1, [.ref x0, .ref x1, .null, .null, .null, .null, .null, .null, .int 0])), (x0, .inl (cI, 20, .inl (fun _ => 0))), (x1, .inl (cI, 20, .inl (fun _ => 0))), (x2, .inl (cI, 20, .inl (fun _ => 0)))] H := hP
  have hD : va_D A [(h, .inr (1, [.ref x0, .ref x1, .null, .null, .null, .null, .null, .null, .int 0])), (x0, .inl (cI, 20, .inl (fun _ => 0))), (x1, .inl (cI, 20, .inl (fun _ => 0))), (x2, .inl (cI, 20, .inl (fun _ => 0)))] := hD
  refine va_putF (D := (dC, dI)) (ci := 1) (v := .ref x2) (ty := (.array .int)) (C := "SpaceCycles$Lines") (T := F_Li) (N := 9) hx hb hts (in_F i_Li) t_Li t_Li_ok n_Li hown hK hP hD hS 0 rfl rfl 2 (by decide) (hts _ (in_c k_17)) (fun _ h9 => h9) rfl hin rfl (by decide +kernel) rfl rfl (Nat.le_of_ble_eq_true rfl) d_Li_init_25 (fun H locs hP hD hS => ?_)
  have hP : va_P (dC, dI) vwCl [(h, .inr (1, [.ref x0, .ref x1, .ref x2, .null, .null, .null, .null, .null, .int 0])), (x0, .inl (cI, 20, .inl (fun _ => 0))), (x1, .inl (cI, 20, .inl (fun _ => 0))), (x2, .inl (cI, 20, .inl (fun _ => 0)))] H := hP
  have hD : va_D A [(h, .inr (1, [.ref x0, .ref x1, .ref x2, .null, .null, .null, .null, .null, .int 0])), (x0, .inl (cI, 20, .inl (fun _ => 0))), (x1, .inl (cI, 20, .inl (fun _ => 0))), (x2, .inl (cI, 20, .inl (fun _ => 0)))] := hD
  refine lv_aload_n hx hb d_Li_init_28 rfl (lv_at hl 0 rfl) ?_
  refine lv_bipush (v := 20) hx hb d_Li_init_29 (by decide) ?_
  refine va_newb (t0 := 0) (ty := .int) (c0 := cI) (a0 := (20, .inl (fun _ => 0))) hx hb (hts _ (in_c k_633)) rfl rfl (fun z => z) hK hP hD hS hA (fun _ => rfl) (by decide) (by decide +kernel) (by decide) (Nat.le_of_ble_eq_true rfl) (Nat.le_of_ble_eq_true rfl) d_Li_init_31 (fun x3 H hP hD hS => ?_)
  refine W.widen (k := 4) (n := 80) (by decide) (by decide) ?_
  have hP : va_P (dC, dI) vwCl [(h, .inr (1, [.ref x0, .ref x1, .ref x2, .null, .null, .null, .null, .null, .int 0])), (x0, .inl (cI, 20, .inl (fun _ => 0))), (x1, .inl (cI, 20, .inl (fun _ => 0))), (x2, .inl (cI, 20, .inl (fun _ => 0))), (x3, .inl (cI, 20, .inl (fun _ => 0)))] H := hP
  have hD : va_D A [(h, .inr (1, [.ref x0, .ref x1, .ref x2, .null, .null, .null, .null, .null, .int 0])), (x0, .inl (cI, 20, .inl (fun _ => 0))), (x1, .inl (cI, 20, .inl (fun _ => 0))), (x2, .inl (cI, 20, .inl (fun _ => 0))), (x3, .inl (cI, 20, .inl (fun _ => 0)))] := hD
  refine va_putF (D := (dC, dI)) (ci := 1) (v := .ref x3) (ty := (.array .int)) (C := "SpaceCycles$Lines") (T := F_Li) (N := 9) hx hb hts (in_F i_Li) t_Li t_Li_ok n_Li hown hK hP hD hS 0 rfl rfl 3 (by decide) (hts _ (in_c k_18)) (fun _ h9 => h9) rfl hin rfl (by decide +kernel) rfl rfl (Nat.le_of_ble_eq_true rfl) d_Li_init_33 (fun H locs hP hD hS => ?_)
  have hP : va_P (dC, dI) vwCl [(h, .inr (1, [.ref x0, .ref x1, .ref x2, .ref x3, .null, .null, .null, .null, .int 0])), (x0, .inl (cI, 20, .inl (fun _ => 0))), (x1, .inl (cI, 20, .inl (fun _ => 0))), (x2, .inl (cI, 20, .inl (fun _ => 0))), (x3, .inl (cI, 20, .inl (fun _ => 0)))] H := hP
  have hD : va_D A [(h, .inr (1, [.ref x0, .ref x1, .ref x2, .ref x3, .null, .null, .null, .null, .int 0])), (x0, .inl (cI, 20, .inl (fun _ => 0))), (x1, .inl (cI, 20, .inl (fun _ => 0))), (x2, .inl (cI, 20, .inl (fun _ => 0))), (x3, .inl (cI, 20, .inl (fun _ => 0)))] := hD
  refine lv_aload_n hx hb d_Li_init_36 rfl (lv_at hl 0 rfl) ?_
  refine lv_bipush (v := 20) hx hb d_Li_init_37 (by decide) ?_
  refine va_newb (t0 := 0) (ty := .int) (c0 := cI) (a0 := (20, .inl (fun _ => 0))) hx hb (hts _ (in_c k_633)) rfl rfl (fun z => z) hK hP hD hS hA (fun _ => rfl) (by decide) (by decide +kernel) (by decide) (Nat.le_of_ble_eq_true rfl) (Nat.le_of_ble_eq_true rfl) d_Li_init_39 (fun x4 H hP hD hS => ?_)
  refine W.widen (k := 5) (n := 100) (by decide) (by decide) ?_
  have hP : va_P (dC, dI) vwCl [(h, .inr (1, [.ref x0, .ref x1, .ref x2, .ref x3, .null, .null, .null, .null, .int 0])), (x0, .inl (cI, 20, .inl (fun _ => 0))), (x1, .inl (cI, 20, .inl (fun _ => 0))), (x2, .inl (cI, 20, .inl (fun _ => 0))), (x3, .inl (cI, 20, .inl (fun _ => 0))), (x4, .inl (cI, 20, .inl (fun _ => 0)))] H := hP
  have hD : va_D A [(h, .inr (1, [.ref x0, .ref x1, .ref x2, .ref x3, .null, .null, .null, .null, .int 0])), (x0, .inl (cI, 20, .inl (fun _ => 0))), (x1, .inl (cI, 20, .inl (fun _ => 0))), (x2, .inl (cI, 20, .inl (fun _ => 0))), (x3, .inl (cI, 20, .inl (fun _ => 0))), (x4, .inl (cI, 20, .inl (fun _ => 0)))] := hD
  refine va_putF (D := (dC, dI)) (ci := 1) (v := .ref x4) (ty := (.array .int)) (C := "SpaceCycles$Lines") (T := F_Li) (N := 9) hx hb hts (in_F i_Li) t_Li t_Li_ok n_Li hown hK hP hD hS 0 rfl rfl 4 (by decide) (hts _ (in_c k_634)) (fun _ h9 => h9) rfl hin rfl (by decide +kernel) rfl rfl (Nat.le_of_ble_eq_true rfl) d_Li_init_41 (fun H locs hP hD hS => ?_)
  have hP : va_P (dC, dI) vwCl [(h, .inr (1, [.ref x0, .ref x1, .ref x2, .ref x3, .ref x4, .null, .null, .null, .int 0])), (x0, .inl (cI, 20, .inl (fun _ => 0))), (x1, .inl (cI, 20, .inl (fun _ => 0))), (x2, .inl (cI, 20, .inl (fun _ => 0))), (x3, .inl (cI, 20, .inl (fun _ => 0))), (x4, .inl (cI, 20, .inl (fun _ => 0)))] H := hP
  have hD : va_D A [(h, .inr (1, [.ref x0, .ref x1, .ref x2, .ref x3, .ref x4, .null, .null, .null, .int 0])), (x0, .inl (cI, 20, .inl (fun _ => 0))), (x1, .inl (cI, 20, .inl (fun _ => 0))), (x2, .inl (cI, 20, .inl (fun _ => 0))), (x3, .inl (cI, 20, .inl (fun _ => 0))), (x4, .inl (cI, 20, .inl (fun _ => 0)))] := hD
  refine lv_aload_n hx hb d_Li_init_44 rfl (lv_at hl 0 rfl) ?_
  refine lv_bipush (v := 20) hx hb d_Li_init_45 (by decide) ?_
  refine va_newb (t0 := 0) (ty := .int) (c0 := cI) (a0 := (20, .inl (fun _ => 0))) hx hb (hts _ (in_c k_633)) rfl rfl (fun z => z) hK hP hD hS hA (fun _ => rfl) (by decide) (by decide +kernel) (by decide) (Nat.le_of_ble_eq_true rfl) (Nat.le_of_ble_eq_true rfl) d_Li_init_47 (fun x5 H hP hD hS => ?_)
  refine W.widen (k := 6) (n := 120) (by decide) (by decide) ?_
  have hP : va_P (dC, dI) vwCl [(h, .inr (1, [.ref x0, .ref x1, .ref x2, .ref x3, .ref x4, .null, .null, .null, .int 0])), (x0, .inl (cI, 20, .inl (fun _ => 0))), (x1, .inl (cI, 20, .inl (fun _ => 0))), (x2, .inl (cI, 20, .inl (fun _ => 0))), (x3, .inl (cI, 20, .inl (fun _ => 0))), (x4, .inl (cI, 20, .inl (fun _ => 0))), (x5, .inl (cI, 20, .inl (fun _ => 0)))] H := hP
  have hD : va_D A [(h, .inr (1, [.ref x0, .ref x1, .ref x2, .ref x3, .ref x4, .null, .null, .null, .int 0])), (x0, .inl (cI, 20, .inl (fun _ => 0))), (x1, .inl (cI, 20, .inl (fun _ => 0))), (x2, .inl (cI, 20, .inl (fun _ => 0))), (x3, .inl (cI, 20, .inl (fun _ => 0))), (x4, .inl (cI, 20, .inl (fun _ => 0))), (x5, .inl (cI, 20, .inl (fun _ => 0)))] := hD
  refine va_putF (D := (dC, dI)) (ci := 1) (v := .ref x5) (ty := (.array .int)) (C := "SpaceCycles$Lines") (T := F_Li) (N := 9) hx hb hts (in_F i_Li) t_Li t_Li_ok n_Li hown hK hP hD hS 0 rfl rfl 5 (by decide) (hts _ (in_c k_24)) (fun _ h9 => h9) rfl hin rfl (by decide +kernel) rfl rfl (Nat.le_of_ble_eq_true rfl) d_Li_init_49 (fun H locs hP hD hS => ?_)
  have hP : va_P (dC, dI) vwCl [(h, .inr (1, [.ref x0, .ref x1, .ref x2, .ref x3, .ref x4, .ref x5, .null, .null, .int 0])), (x0, .inl (cI, 20, .inl (fun _ => 0))), (x1, .inl (cI, 20, .inl (fun _ => 0))), (x2, .inl (cI, 20, .inl (fun _ => 0))), (x3, .inl (cI, 20, .inl (fun _ => 0))), (x4, .inl (cI, 20, .inl (fun _ => 0))), (x5, .inl (cI, 20, .inl (fun _ => 0)))] H := hP
  have hD : va_D A [(h, .inr (1, [.ref x0, .ref x1, .ref x2, .ref x3, .ref x4, .ref x5, .null, .null, .int 0])), (x0, .inl (cI, 20, .inl (fun _ => 0))), (x1, .inl (cI, 20, .inl (fun _ => 0))), (x2, .inl (cI, 20, .inl (fun _ => 0))), (x3, .inl (cI, 20, .inl (fun _ => 0))), (x4, .inl (cI, 20, .inl (fun _ => 0))), (x5, .inl (cI, 20, .inl (fun _ => 0)))] := hD
  refine lv_aload_n hx hb d_Li_init_52 rfl (lv_at hl 0 rfl) ?_
  refine lv_bipush (v := 120) hx hb d_Li_init_53 (by decide) ?_
  refine va_newb (t0 := 0) (ty := .int) (c0 := cI) (a0 := (120, .inl (fun _ => 0))) hx hb (hts _ (in_c k_633)) rfl rfl (fun z => z) hK hP hD hS hA (fun _ => rfl) (by decide) (by decide +kernel) (by decide) (Nat.le_of_ble_eq_true rfl) (Nat.le_of_ble_eq_true rfl) d_Li_init_55 (fun x6 H hP hD hS => ?_)
  refine W.widen (k := 7) (n := 240) (by decide) (by decide) ?_
  have hP : va_P (dC, dI) vwCl [(h, .inr (1, [.ref x0, .ref x1, .ref x2, .ref x3, .ref x4, .ref x5, .null, .null, .int 0])), (x0, .inl (cI, 20, .inl (fun _ => 0))), (x1, .inl (cI, 20, .inl (fun _ => 0))), (x2, .inl (cI, 20, .inl (fun _ => 0))), (x3, .inl (cI, 20, .inl (fun _ => 0))), (x4, .inl (cI, 20, .inl (fun _ => 0))), (x5, .inl (cI, 20, .inl (fun _ => 0))), (x6, .inl (cI, 120, .inl (fun _ => 0)))] H := hP
  have hD : va_D A [(h, .inr (1, [.ref x0, .ref x1, .ref x2, .ref x3, .ref x4, .ref x5, .null, .null, .int 0])), (x0, .inl (cI, 20, .inl (fun _ => 0))), (x1, .inl (cI, 20, .inl (fun _ => 0))), (x2, .inl (cI, 20, .inl (fun _ => 0))), (x3, .inl (cI, 20, .inl (fun _ => 0))), (x4, .inl (cI, 20, .inl (fun _ => 0))), (x5, .inl (cI, 20, .inl (fun _ => 0))), (x6, .inl (cI, 120, .inl (fun _ => 0)))] := hD
  refine va_putF (D := (dC, dI)) (ci := 1) (v := .ref x6) (ty := (.array .int)) (C := "SpaceCycles$Lines") (T := F_Li) (N := 9) hx hb hts (in_F i_Li) t_Li t_Li_ok n_Li hown hK hP hD hS 0 rfl rfl 6 (by decide) (hts _ (in_c k_25)) (fun _ h9 => h9) rfl hin rfl (by decide +kernel) rfl rfl (Nat.le_of_ble_eq_true rfl) d_Li_init_57 (fun H locs hP hD hS => ?_)
  have hP : va_P (dC, dI) vwCl [(h, .inr (1, [.ref x0, .ref x1, .ref x2, .ref x3, .ref x4, .ref x5, .ref x6, .null, .int 0])), (x0, .inl (cI, 20, .inl (fun _ => 0))), (x1, .inl (cI, 20, .inl (fun _ => 0))), (x2, .inl (cI, 20, .inl (fun _ => 0))), (x3, .inl (cI, 20, .inl (fun _ => 0))), (x4, .inl (cI, 20, .inl (fun _ => 0))), (x5, .inl (cI, 20, .inl (fun _ => 0))), (x6, .inl (cI, 120, .inl (fun _ => 0)))] H := hP
  have hD : va_D A [(h, .inr (1, [.ref x0, .ref x1, .ref x2, .ref x3, .ref x4, .ref x5, .ref x6, .null, .int 0])), (x0, .inl (cI, 20, .inl (fun _ => 0))), (x1, .inl (cI, 20, .inl (fun _ => 0))), (x2, .inl (cI, 20, .inl (fun _ => 0))), (x3, .inl (cI, 20, .inl (fun _ => 0))), (x4, .inl (cI, 20, .inl (fun _ => 0))), (x5, .inl (cI, 20, .inl (fun _ => 0))), (x6, .inl (cI, 120, .inl (fun _ => 0)))] := hD
  refine lv_aload_n hx hb d_Li_init_60 rfl (lv_at hl 0 rfl) ?_
  refine lv_bipush (v := 120) hx hb d_Li_init_61 (by decide) ?_
  refine va_newb (t0 := 0) (ty := .int) (c0 := cI) (a0 := (120, .inl (fun _ => 0))) hx hb (hts _ (in_c k_633)) rfl rfl (fun z => z) hK hP hD hS hA (fun _ => rfl) (by decide) (by decide +kernel) (by decide) (Nat.le_of_ble_eq_true rfl) (Nat.le_of_ble_eq_true rfl) d_Li_init_63 (fun x7 H hP hD hS => ?_)
  refine W.widen (k := 8) (n := 360) (by decide) (by decide) ?_
  have hP : va_P (dC, dI) vwCl [(h, .inr (1, [.ref x0, .ref x1, .ref x2, .ref x3, .ref x4, .ref x5, .ref x6, .null, .int 0])), (x0, .inl (cI, 20, .inl (fun _ => 0))), (x1, .inl (cI, 20, .inl (fun _ => 0))), (x2, .inl (cI, 20, .inl (fun _ => 0))), (x3, .inl (cI, 20, .inl (fun _ => 0))), (x4, .inl (cI, 20, .inl (fun _ => 0))), (x5, .inl (cI, 20, .inl (fun _ => 0))), (x6, .inl (cI, 120, .inl (fun _ => 0))), (x7, .inl (cI, 120, .inl (fun _ => 0)))] H := hP
  have hD : va_D A [(h, .inr (1, [.ref x0, .ref x1, .ref x2, .ref x3, .ref x4, .ref x5, .ref x6, .null, .int 0])), (x0, .inl (cI, 20, .inl (fun _ => 0))), (x1, .inl (cI, 20, .inl (fun _ => 0))), (x2, .inl (cI, 20, .inl (fun _ => 0))), (x3, .inl (cI, 20, .inl (fun _ => 0))), (x4, .inl (cI, 20, .inl (fun _ => 0))), (x5, .inl (cI, 20, .inl (fun _ => 0))), (x6, .inl (cI, 120, .inl (fun _ => 0))), (x7, .inl (cI, 120, .inl (fun _ => 0)))] := hD
  refine va_putF (D := (dC, dI)) (ci := 1) (v := .ref x7) (ty := (.array .int)) (C := "SpaceCycles$Lines") (T := F_Li) (N := 9) hx hb hts (in_F i_Li) t_Li t_Li_ok n_Li hown hK hP hD hS 0 rfl rfl 7 (by decide) (hts _ (in_c k_26)) (fun _ h9 => h9) rfl hin rfl (by decide +kernel) rfl rfl (Nat.le_of_ble_eq_true rfl) d_Li_init_65 (fun H locs hP hD hS => ?_)
  have hP : va_P (dC, dI) vwCl [(h, .inr (1, [.ref x0, .ref x1, .ref x2, .ref x3, .ref x4, .ref x5, .ref x6, .ref x7, .int 0])), (x0, .inl (cI, 20, .inl (fun _ => 0))), (x1, .inl (cI, 20, .inl (fun _ => 0))), (x2, .inl (cI, 20, .inl (fun _ => 0))), (x3, .inl (cI, 20, .inl (fun _ => 0))), (x4, .inl (cI, 20, .inl (fun _ => 0))), (x5, .inl (cI, 20, .inl (fun _ => 0))), (x6, .inl (cI, 120, .inl (fun _ => 0))), (x7, .inl (cI, 120, .inl (fun _ => 0)))] H := hP
  have hD : va_D A [(h, .inr (1, [.ref x0, .ref x1, .ref x2, .ref x3, .ref x4, .ref x5, .ref x6, .ref x7, .int 0])), (x0, .inl (cI, 20, .inl (fun _ => 0))), (x1, .inl (cI, 20, .inl (fun _ => 0))), (x2, .inl (cI, 20, .inl (fun _ => 0))), (x3, .inl (cI, 20, .inl (fun _ => 0))), (x4, .inl (cI, 20, .inl (fun _ => 0))), (x5, .inl (cI, 20, .inl (fun _ => 0))), (x6, .inl (cI, 120, .inl (fun _ => 0))), (x7, .inl (cI, 120, .inl (fun _ => 0)))] := hD
  refine lv_aload_n hx hb d_Li_init_68 rfl (lv_at hl 0 rfl) ?_
  refine lv_iconst (v := 0) hx hb d_Li_init_69 (by decide) ?_
  refine va_put (D := (dC, dI)) (ci := 1) (v := .int 0) (ty := .int) (C := "SpaceCycles$Lines") (T := F_Li) (N := 9) hx hb hts (in_F i_Li) t_Li t_Li_ok n_Li hown hK hP hD hS 0 rfl rfl 8 (by decide) (hts _ (in_c k_19)) (fun _ h9 => h9) rfl (by decide +kernel) rfl rfl (Nat.le_of_ble_eq_true rfl) d_Li_init_70 (fun H locs hP hD hS => ?_)
  have hP : va_P (dC, dI) vwCl [(h, .inr (1, [.ref x0, .ref x1, .ref x2, .ref x3, .ref x4, .ref x5, .ref x6, .ref x7, .int 0])), (x0, .inl (cI, 20, .inl (fun _ => 0))), (x1, .inl (cI, 20, .inl (fun _ => 0))), (x2, .inl (cI, 20, .inl (fun _ => 0))), (x3, .inl (cI, 20, .inl (fun _ => 0))), (x4, .inl (cI, 20, .inl (fun _ => 0))), (x5, .inl (cI, 20, .inl (fun _ => 0))), (x6, .inl (cI, 120, .inl (fun _ => 0))), (x7, .inl (cI, 120, .inl (fun _ => 0)))] H := hP
  have hD : va_D A [(h, .inr (1, [.ref x0, .ref x1, .ref x2, .ref x3, .ref x4, .ref x5, .ref x6, .ref x7, .int 0])), (x0, .inl (cI, 20, .inl (fun _ => 0))), (x1, .inl (cI, 20, .inl (fun _ => 0))), (x2, .inl (cI, 20, .inl (fun _ => 0))), (x3, .inl (cI, 20, .inl (fun _ => 0))), (x4, .inl (cI, 20, .inl (fun _ => 0))), (x5, .inl (cI, 20, .inl (fun _ => 0))), (x6, .inl (cI, 120, .inl (fun _ => 0))), (x7, .inl (cI, 120, .inl (fun _ => 0)))] := hD
  have hP9 := hP.sub (ws' := (cw_Li h x0 x1 x2 x3 x4 x5 x6 x7 cI cZ)) [0, 1, 2, 3, 4, 5, 6, 7, 8] rfl
  have hD9 := hD.sub (ws' := (cw_Li h x0 x1 x2 x3 x4 x5 x6 x7 cI cZ)) [0, 1, 2, 3, 4, 5, 6, 7, 8] (by decide) rfl
  refine W.widen (k := 8) (n := 360) (by decide) (by decide) ?_
  exact W.vret hx hb hr (fun t ht hW => ⟨⟨(), rfl, trivial, x0, x1, x2, x3, x4, x5, x6, x7, by rw [ht]; exact hP9, va_K.moved hW.alike hK, hD9⟩, hS.F ht⟩) hS.2.2 d_Li_init_73

theorem k_635 : ((.methodLink "SpaceCycles$Flood" 3 ⟨"java/lang/Object", "<init>", "()V"⟩) : Cond) ∈ gl := gl_i 102 (by decide +kernel) (by decide +kernel)
-- SpaceCycles$Flood.<init>
abbrev b_Fl_init : ByteArray := prog_4_method_1_code
abbrev y_Fl_init : MethodName := ⟨"SpaceCycles$Flood", "<init>", "()V"⟩
abbrev w_Fl_init : List Cond := Cond.code y_Fl_init b_Fl_init 1 none :: gl
abbrev rm_Fl_init : Room := { frames := 1, cells := 2, slots := 3362, locals := 12 }
theorem d_Fl_init_0 : decode b_Fl_init 0 = .ok (.aload_n 0, 1) := by decide +kernel
theorem d_Fl_init_1 : decode b_Fl_init 1 = .ok (.invokespecial 3, 3) := by decide +kernel
theorem d_Fl_init_4 : decode b_Fl_init 4 = .ok (.aload_n 0, 1) := by decide +kernel
theorem d_Fl_init_5 : decode b_Fl_init 5 = .ok (.sipush 1681, 3) := by decide +kernel
theorem d_Fl_init_8 : decode b_Fl_init 8 = .ok (.newarray .int, 2) := by decide +kernel
theorem d_Fl_init_10 : decode b_Fl_init 10 = .ok (.putfield 11, 3) := by decide +kernel
theorem d_Fl_init_13 : decode b_Fl_init 13 = .ok (.aload_n 0, 1) := by decide +kernel
theorem d_Fl_init_14 : decode b_Fl_init 14 = .ok (.sipush 1681, 3) := by decide +kernel
theorem d_Fl_init_17 : decode b_Fl_init 17 = .ok (.newarray .int, 2) := by decide +kernel
theorem d_Fl_init_19 : decode b_Fl_init 19 = .ok (.putfield 17, 3) := by decide +kernel
theorem d_Fl_init_22 : decode b_Fl_init 22 = .ok (.aload_n 0, 1) := by decide +kernel
theorem d_Fl_init_23 : decode b_Fl_init 23 = .ok (.iconst 0, 1) := by decide +kernel
theorem d_Fl_init_24 : decode b_Fl_init 24 = .ok (.putfield 20, 3) := by decide +kernel
theorem d_Fl_init_27 : decode b_Fl_init 27 = .ok (.return_, 1) := by decide +kernel
abbrev cw_Fl (h q0 q1 : Nat) (cI cZ : ClassId) : va_W := [(h, .inr (2, [.ref q0, .ref q1, .int 0])), (q0, .inl (cI, 1681, .inl (fun _ => 0))), (q1, .inl (cI, 1681, .inl (fun _ => 0)))]
set_option maxHeartbeats 4000000 in
set_option maxRecDepth 100000 in
theorem c_Fl_init (l : Launch) (dC : Nat → ClassId) (dI : Nat → Nat → Nat) {cI cZ cJ : ClassId} (h sz : Nat) : Met l y_Fl_init w_Fl_init rm_Fl_init (PP dC dI [(cI, .int), (cZ, .boolean), (cJ, .long)] [.ref h] sz [(h, .inr (2, [.null, .null, .int 0]))]) (va_Qv (fun (_ : Unit) => True) (fun _ t => ∃ q0 q1 : Nat, BB dC dI [(cI, .int), (cZ, .boolean), (cJ, .long)] (va_A [(h, .inr (2, [.null, .null, .int 0]))] sz) (cw_Fl h q0 q1 cI cZ) () t) (va_A [(h, .inr (2, [.null, .null, .int 0]))] sz)) 2 3362 (va_A [(h, .inr (2, [.null, .null, .int 0]))] sz) := by
  refine Met.ofW (cc := b_Fl_init) (maxL := 1) (ret := none) (by decide) rfl ?_
  intro p e s m args below meth c s₁ B hml hv
  obtain ⟨rfl, hsz, hP, hK, hD0, hN⟩ := hv
  have hx := B.exec
  have hb := B.bytes
  have hr := B.returns
  have hts := atoms_spec (ws := w_Fl_init) B.pre
  have hown : s.vm.findClass "SpaceCycles$Flood" = some m.cls := findClass_of_methodNamed B.named
  have hlocks := B.notSynchronized
  have hin : meth.name = "<init>" := (name_of_methodNamed B.named B.method).1
  subst hsz
  have hD := hD0.self (sz := s.heap.size)
  generalize hAe : va_A [(h, .inr (2, [.null, .null, .int 0]))] s.heap.size = A at hD ⊢
  have hA : ∀ q : Nat, s.heap.size ≤ q → A q := fun q h => by rw [← hAe]; exact Or.inr h
  have hS : va_S A s.heap s.heap [] := va_S.rf
  have hl := lv_entry ([.ref h]) (n := 1) (Nat.le_of_ble_eq_true rfl)
  rw [lg_entry_eq]
  generalize (lg_sl ([.ref h]) ++ List.replicate (1 - (lg_sl ([.ref h])).length) Slot.unset).toArray = ls at hl ⊢
  have hl : lv_has ls 1 [(0, .ref h)] := hl
  refine lv_aload_n hx hb d_Fl_init_0 rfl (lv_at hl 0 rfl) ?_
  refine W.objInit hx hb hown (hts _ (in_c k_635)) (hts _ (in_c k_631)) (hts _ (in_c k_632)) rfl (by rw [hml]; exact hl.1) rfl d_Fl_init_1 (Nat.le_of_ble_eq_true rfl) (Nat.le_of_ble_eq_true rfl) ?_
  refine W.eq (g2 := F0 m 4 ls []) rfl ?_
  refine lv_aload_n hx hb d_Fl_init_4 rfl (lv_at hl 0 rfl) ?_
  refine lv_sipush (v := 1681) hx hb d_Fl_init_5 (by decide) ?_
  refine va_newb (t0 := 0) (ty := .int) (c0 := cI) (a0 := (1681, .inl (fun _ => 0))) hx hb (hts _ (in_c k_633)) rfl rfl (fun z => z) hK hP hD hS hA (fun _ => rfl) (by decide) (by decide +kernel) (by decide) (Nat.le_of_ble_eq_true rfl) (Nat.le_of_ble_eq_true rfl) d_Fl_init_8 (fun x0 H hP hD hS => ?_)
  refine W.widen (k := 1) (n := 1681) (by decide) (by decide) ?_
  have hP : va_P (dC, dI) vwCl [(h, .inr (2, [.null, .null, .int 0])), (x0, .inl (cI, 1681, .inl (fun _ => 0)))] H := hP
  have hD : va_D A [(h, .inr (2, [.null, .null, .int 0])), (x0, .inl (cI, 1681, .inl (fun _ => 0)))] := hD
  refine va_putF (D := (dC, dI)) (ci := 2) (v := .ref x0) (ty := (.array .int)) (C := "SpaceCycles$Flood") (T := F_Fl) (N := 3) hx hb hts (in_F i_Fl) t_Fl t_Fl_ok n_Fl hown hK hP hD hS 0 rfl rfl 0 (by decide) (hts _ (in_c k_85)) (fun _ h9 => h9) rfl hin rfl (by decide +kernel) rfl rfl (Nat.le_of_ble_eq_true rfl) d_Fl_init_10 (fun H locs hP hD hS => ?_)
  have hP : va_P (dC, dI) vwCl [(h, .inr (2, [.ref x0, .null, .int 0])), (x0, .inl (cI, 1681, .inl (fun _ => 0)))] H := hP
  have hD : va_D A [(h, .inr (2, [.ref x0, .null, .int 0])), (x0, .inl (cI, 1681, .inl (fun _ => 0)))] := hD
  refine lv_aload_n hx hb d_Fl_init_13 rfl (lv_at hl 0 rfl) ?_
  refine lv_sipush (v := 1681) hx hb d_Fl_init_14 (by decide) ?_
  refine va_newb (t0 := 0) (ty := .int) (c0 := cI) (a0 := (1681, .inl (fun _ => 0))) hx hb (hts _ (in_c k_633)) rfl rfl (fun z => z) hK hP hD hS hA (fun _ => rfl) (by decide) (by decide +kernel) (by decide) (Nat.le_of_ble_eq_true rfl) (Nat.le_of_ble_eq_true rfl) d_Fl_init_17 (fun x1 H hP hD hS => ?_)
  refine W.widen (k := 2) (n := 3362) (by decide) (by decide) ?_
  have hP : va_P (dC, dI) vwCl [(h, .inr (2, [.ref x0, .null, .int 0])), (x0, .inl (cI, 1681, .inl (fun _ => 0))), (x1, .inl (cI, 1681, .inl (fun _ => 0)))] H := hP
  have hD : va_D A [(h, .inr (2, [.ref x0, .null, .int 0])), (x0, .inl (cI, 1681, .inl (fun _ => 0))), (x1, .inl (cI, 1681, .inl (fun _ => 0)))] := hD
  refine va_putF (D := (dC, dI)) (ci := 2) (v := .ref x1) (ty := (.array .int)) (C := "SpaceCycles$Flood") (T := F_Fl) (N := 3) hx hb hts (in_F i_Fl) t_Fl t_Fl_ok n_Fl hown hK hP hD hS 0 rfl rfl 1 (by decide) (hts _ (in_c k_87)) (fun _ h9 => h9) rfl hin rfl (by decide +kernel) rfl rfl (Nat.le_of_ble_eq_true rfl) d_Fl_init_19 (fun H locs hP hD hS => ?_)
  have hP : va_P (dC, dI) vwCl [(h, .inr (2, [.ref x0, .ref x1, .int 0])), (x0, .inl (cI, 1681, .inl (fun _ => 0))), (x1, .inl (cI, 1681, .inl (fun _ => 0)))] H := hP
  have hD : va_D A [(h, .inr (2, [.ref x0, .ref x1, .int 0])), (x0, .inl (cI, 1681, .inl (fun _ => 0))), (x1, .inl (cI, 1681, .inl (fun _ => 0)))] := hD
  refine lv_aload_n hx hb d_Fl_init_22 rfl (lv_at hl 0 rfl) ?_
  refine lv_iconst (v := 0) hx hb d_Fl_init_23 (by decide) ?_
  refine va_put (D := (dC, dI)) (ci := 2) (v := .int 0) (ty := .int) (C := "SpaceCycles$Flood") (T := F_Fl) (N := 3) hx hb hts (in_F i_Fl) t_Fl t_Fl_ok n_Fl hown hK hP hD hS 0 rfl rfl 2 (by decide) (hts _ (in_c k_86)) (fun _ h9 => h9) rfl (by decide +kernel) rfl rfl (Nat.le_of_ble_eq_true rfl) d_Fl_init_24 (fun H locs hP hD hS => ?_)
  have hP : va_P (dC, dI) vwCl [(h, .inr (2, [.ref x0, .ref x1, .int 0])), (x0, .inl (cI, 1681, .inl (fun _ => 0))), (x1, .inl (cI, 1681, .inl (fun _ => 0)))] H := hP
  have hD : va_D A [(h, .inr (2, [.ref x0, .ref x1, .int 0])), (x0, .inl (cI, 1681, .inl (fun _ => 0))), (x1, .inl (cI, 1681, .inl (fun _ => 0)))] := hD
  have hP9 := hP.sub (ws' := (cw_Fl h x0 x1 cI cZ)) [0, 1, 2] rfl
  have hD9 := hD.sub (ws' := (cw_Fl h x0 x1 cI cZ)) [0, 1, 2] (by decide) rfl
  refine W.widen (k := 2) (n := 3362) (by decide) (by decide) ?_
  exact W.vret hx hb hr (fun t ht hW => ⟨⟨(), rfl, trivial, x0, x1, by rw [ht]; exact hP9, va_K.moved hW.alike hK, hD9⟩, hS.F ht⟩) hS.2.2 d_Fl_init_27

theorem k_636 : ((.methodLink "SpaceCycles$Net" 3 ⟨"java/lang/Object", "<init>", "()V"⟩) : Cond) ∈ gl := gl_i 118 (by decide +kernel) (by decide +kernel)
-- SpaceCycles$Net.<init>
abbrev b_Ne_init : ByteArray := prog_8_method_1_code
abbrev y_Ne_init : MethodName := ⟨"SpaceCycles$Net", "<init>", "()V"⟩
abbrev w_Ne_init : List Cond := Cond.code y_Ne_init b_Ne_init 1 none :: gl
abbrev rm_Ne_init : Room := { frames := 1, cells := 10, slots := 5620, locals := 12 }
theorem d_Ne_init_0 : decode b_Ne_init 0 = .ok (.aload_n 0, 1) := by decide +kernel
theorem d_Ne_init_1 : decode b_Ne_init 1 = .ok (.invokespecial 3, 3) := by decide +kernel
theorem d_Ne_init_4 : decode b_Ne_init 4 = .ok (.aload_n 0, 1) := by decide +kernel
theorem d_Ne_init_5 : decode b_Ne_init 5 = .ok (.sipush 140, 3) := by decide +kernel
theorem d_Ne_init_8 : decode b_Ne_init 8 = .ok (.newarray .int, 2) := by decide +kernel
theorem d_Ne_init_10 : decode b_Ne_init 10 = .ok (.putfield 9, 3) := by decide +kernel
theorem d_Ne_init_13 : decode b_Ne_init 13 = .ok (.aload_n 0, 1) := by decide +kernel
theorem d_Ne_init_14 : decode b_Ne_init 14 = .ok (.sipush 140, 3) := by decide +kernel
theorem d_Ne_init_17 : decode b_Ne_init 17 = .ok (.newarray .int, 2) := by decide +kernel
theorem d_Ne_init_19 : decode b_Ne_init 19 = .ok (.putfield 15, 3) := by decide +kernel
theorem d_Ne_init_22 : decode b_Ne_init 22 = .ok (.aload_n 0, 1) := by decide +kernel
theorem d_Ne_init_23 : decode b_Ne_init 23 = .ok (.bipush 40, 2) := by decide +kernel
theorem d_Ne_init_25 : decode b_Ne_init 25 = .ok (.newarray .int, 2) := by decide +kernel
theorem d_Ne_init_27 : decode b_Ne_init 27 = .ok (.putfield 18, 3) := by decide +kernel
theorem d_Ne_init_30 : decode b_Ne_init 30 = .ok (.aload_n 0, 1) := by decide +kernel
theorem d_Ne_init_31 : decode b_Ne_init 31 = .ok (.iconst 0, 1) := by decide +kernel
theorem d_Ne_init_32 : decode b_Ne_init 32 = .ok (.putfield 21, 3) := by decide +kernel
theorem d_Ne_init_35 : decode b_Ne_init 35 = .ok (.aload_n 0, 1) := by decide +kernel
theorem d_Ne_init_36 : decode b_Ne_init 36 = .ok (.iconst 0, 1) := by decide +kernel
theorem d_Ne_init_37 : decode b_Ne_init 37 = .ok (.putfield 25, 3) := by decide +kernel
theorem d_Ne_init_40 : decode b_Ne_init 40 = .ok (.aload_n 0, 1) := by decide +kernel
theorem d_Ne_init_41 : decode b_Ne_init 41 = .ok (.iconst 0, 1) := by decide +kernel
theorem d_Ne_init_42 : decode b_Ne_init 42 = .ok (.putfield 28, 3) := by decide +kernel
theorem d_Ne_init_45 : decode b_Ne_init 45 = .ok (.aload_n 0, 1) := by decide +kernel
theorem d_Ne_init_46 : decode b_Ne_init 46 = .ok (.sipush 560, 3) := by decide +kernel
theorem d_Ne_init_49 : decode b_Ne_init 49 = .ok (.newarray .int, 2) := by decide +kernel
theorem d_Ne_init_51 : decode b_Ne_init 51 = .ok (.putfield 31, 3) := by decide +kernel
theorem d_Ne_init_54 : decode b_Ne_init 54 = .ok (.aload_n 0, 1) := by decide +kernel
theorem d_Ne_init_55 : decode b_Ne_init 55 = .ok (.sipush 220, 3) := by decide +kernel
theorem d_Ne_init_58 : decode b_Ne_init 58 = .ok (.newarray .int, 2) := by decide +kernel
theorem d_Ne_init_60 : decode b_Ne_init 60 = .ok (.putfield 34, 3) := by decide +kernel
theorem d_Ne_init_63 : decode b_Ne_init 63 = .ok (.aload_n 0, 1) := by decide +kernel
theorem d_Ne_init_64 : decode b_Ne_init 64 = .ok (.sipush 440, 3) := by decide +kernel
theorem d_Ne_init_67 : decode b_Ne_init 67 = .ok (.newarray .int, 2) := by decide +kernel
theorem d_Ne_init_69 : decode b_Ne_init 69 = .ok (.putfield 37, 3) := by decide +kernel
theorem d_Ne_init_72 : decode b_Ne_init 72 = .ok (.aload_n 0, 1) := by decide +kernel
theorem d_Ne_init_73 : decode b_Ne_init 73 = .ok (.sipush 440, 3) := by decide +kernel
theorem d_Ne_init_76 : decode b_Ne_init 76 = .ok (.newarray .int, 2) := by decide +kernel
theorem d_Ne_init_78 : decode b_Ne_init 78 = .ok (.putfield 40, 3) := by decide +kernel
theorem d_Ne_init_81 : decode b_Ne_init 81 = .ok (.aload_n 0, 1) := by decide +kernel
theorem d_Ne_init_82 : decode b_Ne_init 82 = .ok (.sipush 440, 3) := by decide +kernel
theorem d_Ne_init_85 : decode b_Ne_init 85 = .ok (.newarray .int, 2) := by decide +kernel
theorem d_Ne_init_87 : decode b_Ne_init 87 = .ok (.putfield 43, 3) := by decide +kernel
theorem d_Ne_init_90 : decode b_Ne_init 90 = .ok (.aload_n 0, 1) := by decide +kernel
theorem d_Ne_init_91 : decode b_Ne_init 91 = .ok (.sipush 1600, 3) := by decide +kernel
theorem d_Ne_init_94 : decode b_Ne_init 94 = .ok (.newarray .int, 2) := by decide +kernel
theorem d_Ne_init_96 : decode b_Ne_init 96 = .ok (.putfield 46, 3) := by decide +kernel
theorem d_Ne_init_99 : decode b_Ne_init 99 = .ok (.aload_n 0, 1) := by decide +kernel
theorem d_Ne_init_100 : decode b_Ne_init 100 = .ok (.sipush 1600, 3) := by decide +kernel
theorem d_Ne_init_103 : decode b_Ne_init 103 = .ok (.newarray .int, 2) := by decide +kernel
theorem d_Ne_init_105 : decode b_Ne_init 105 = .ok (.putfield 49, 3) := by decide +kernel
theorem d_Ne_init_108 : decode b_Ne_init 108 = .ok (.return_, 1) := by decide +kernel
abbrev cw_Ne (h q0 q1 q2 q3 q4 q5 q6 q7 q8 q9 : Nat) (cI cZ : ClassId) : va_W := [(h, .inr (3, [.ref q0, .ref q1, .ref q2, .int 0, .int 0, .int 0, .ref q3, .ref q4, .ref q5, .ref q6, .ref q7, .ref q8, .ref q9])), (q0, .inl (cI, 140, .inl (fun _ => 0))), (q1, .inl (cI, 140, .inl (fun _ => 0))), (q2, .inl (cI, 40, .inl (fun _ => 0))), (q3, .inl (cI, 560, .inl (fun _ => 0))), (q4, .inl (cI, 220, .inl (fun _ => 0))), (q5, .inl (cI, 440, .inl (fun _ => 0))), (q6, .inl (cI, 440, .inl (fun _ => 0))), (q7, .inl (cI, 440, .inl (fun _ => 0))), (q8, .inl (cI, 1600, .inl (fun _ => 0))), (q9, .inl (cI, 1600, .inl (fun _ => 0)))]
set_option maxHeartbeats 4000000 in
set_option maxRecDepth 100000 in
theorem c_Ne_init (l : Launch) (dC : Nat → ClassId) (dI : Nat → Nat → Nat) {cI cZ cJ : ClassId} (h sz : Nat) : Met l y_Ne_init w_Ne_init rm_Ne_init (PP dC dI [(cI, .int), (cZ, .boolean), (cJ, .long)] [.ref h] sz [(h, .inr (3, [.null, .null, .null, .int 0, .int 0, .int 0, .null, .null, .null, .null, .null, .null, .null]))]) (va_Qv (fun (_ : Unit) => True) (fun _ t => ∃ q0 q1 q2 q3 q4 q5 q6 q7 q8 q9 : Nat, BB dC dI [(cI, .int), (cZ, .boolean), (cJ, .long)] (va_A [(h, .inr (3, [.null, .null, .null, .int 0, .int 0, .int 0, .null, .null, .null, .null, .null, .null, .null]))] sz) (cw_Ne h q0 q1 q2 q3 q4 q5 q6 q7 q8 q9 cI cZ) () t) (va_A [(h, .inr (3, [.null, .null, .null, .int 0, .int 0, .int 0, .null, .null, .null, .null, .null, .null, .null]))] sz)) 10 5620 (va_A [(h, .inr (3, [.null, .null, .null, .int 0, .int 0, .int 0, .null, .null, .null, .null, .null, .null, .null]))] sz) := by
  refine Met.ofW (cc := b_Ne_init) (maxL := 1) (ret := none) (by decide) rfl ?_
  intro p e s m args below meth c s₁ B hml hv
  obtain ⟨rfl, hsz, hP, hK, hD0, hN⟩ := hv
  have hx := B.exec
  have hb := B.bytes
  have hr := B.returns
  have hts := atoms_spec (ws := w_Ne_init) B.pre
  have hown : s.vm.findClass "SpaceCycles$Net" = some m.cls := findClass_of_methodNamed B.named
  have hlocks := B.notSynchronized
  have hin : meth.name = "<init>" := (name_of_methodNamed B.named B.method).1
  subst hsz
  have hD := hD0.self (sz := s.heap.size)
  generalize hAe : va_A [(h, .inr (3, [.null, .null, .null, .int 0, .int 0, .int 0, .null, .null, .null, .null, .null, .null, .null]))] s.heap.size = A at hD ⊢
  have hA : ∀ q : Nat, s.heap.size ≤ q → A q := fun q h => by rw [← hAe]; exact Or.inr h
  have hS : va_S A s.heap s.heap [] := va_S.rf
  have hl := lv_entry ([.ref h]) (n := 1) (Nat.le_of_ble_eq_true rfl)
  rw [lg_entry_eq]
  generalize (lg_sl ([.ref h]) ++ List.replicate (1 - (lg_sl ([.ref h])).length) Slot.unset).toArray = ls at hl ⊢
  have hl : lv_has ls 1 [(0, .ref h)] := hl
  refine lv_aload_n hx hb d_Ne_init_0 rfl (lv_at hl 0 rfl) ?_
  refine W.objInit hx hb hown (hts _ (in_c k_636)) (hts _ (in_c k_631)) (hts _ (in_c k_632)) rfl (by rw [hml]; exact hl.1) rfl d_Ne_init_1 (Nat.le_of_ble_eq_true rfl) (Nat.le_of_ble_eq_true rfl) ?_
  refine W.eq (g2 := F0 m 4 ls []) rfl ?_
  refine lv_aload_n hx hb d_Ne_init_4 rfl (lv_at hl 0 rfl) ?_
  refine lv_sipush (v := 140) hx hb d_Ne_init_5 (by decide) ?_
  refine va_newb (t0 := 0) (ty := .int) (c0 := cI) (a0 := (140, .inl (fun _ => 0))) hx hb (hts _ (in_c k_633)) rfl rfl (fun z => z) hK hP hD hS hA (fun _ => rfl) (by decide) (by decide +kernel) (by decide) (Nat.le_of_ble_eq_true rfl) (Nat.le_of_ble_eq_true rfl) d_Ne_init_8 (fun x0 H hP hD hS => ?_)
  refine W.widen (k := 1) (n := 140) (by decide) (by decide) ?_
  have hP : va_P (dC, dI) vwCl [(h, .inr (3, [.null, .null, .null, .int 0, .int 0, .int 0, .null, .null, .null, .null, .null, .null, .null])), (x0, .inl (cI, 140, .inl (fun _ => 0)))] H := hP
  have hD : va_D A [(h, .inr (3, [.null, .null, .null, .int 0, .int 0, .int 0, .null, .null, .null, .null, .null, .null, .null])), (x0, .inl (cI, 140, .inl (fun _ => 0)))] := hD
  refine va_putF (D := (dC, dI)) (ci := 3) (v := .ref x0) (ty := (.array .int)) (C := "SpaceCycles$Net") (T := F_Ne) (N := 13) hx hb hts (in_F i_Ne) t_Ne t_Ne_ok n_Ne hown hK hP hD hS 0 rfl rfl 0 (by decide) (hts _ (in_c k_161)) (fun _ h9 => h9) rfl hin rfl (by decide +kernel) rfl rfl (Nat.le_of_ble_eq_true rfl) d_Ne_init_10 (fun H locs hP hD hS => ?_)
  have hP : va_P (dC, dI) vwCl [(h, .inr (3, [.ref x0, .null, .null, .int 0, .int 0, .int 0, .null, .null, .null, .null, .null, .null, .null])), (x0, .inl (cI, 140, .inl (fun _ => 0)))] H := hP
  have hD : va_D A [(h, .inr (3, [.ref x0, .null, .null, .int 0, .int 0, .int 0, .null, .null, .null, .null, .null, .null, .null])), (x0, .inl (cI, 140, .inl (fun _ => 0)))] := hD
  refine lv_aload_n hx hb d_Ne_init_13 rfl (lv_at hl 0 rfl) ?_
  refine lv_sipush (v := 140) hx hb d_Ne_init_14 (by decide) ?_
  refine va_newb (t0 := 0) (ty := .int) (c0 := cI) (a0 := (140, .inl (fun _ => 0))) hx hb (hts _ (in_c k_633)) rfl rfl (fun z => z) hK hP hD hS hA (fun _ => rfl) (by decide) (by decide +kernel) (by decide) (Nat.le_of_ble_eq_true rfl) (Nat.le_of_ble_eq_true rfl) d_Ne_init_17 (fun x1 H hP hD hS => ?_)
  refine W.widen (k := 2) (n := 280) (by decide) (by decide) ?_
  have hP : va_P (dC, dI) vwCl [(h, .inr (3, [.ref x0, .null, .null, .int 0, .int 0, .int 0, .null, .null, .null, .null, .null, .null, .null])), (x0, .inl (cI, 140, .inl (fun _ => 0))), (x1, .inl (cI, 140, .inl (fun _ => 0)))] H := hP
  have hD : va_D A [(h, .inr (3, [.ref x0, .null, .null, .int 0, .int 0, .int 0, .null, .null, .null, .null, .null, .null, .null])), (x0, .inl (cI, 140, .inl (fun _ => 0))), (x1, .inl (cI, 140, .inl (fun _ => 0)))] := hD
  refine va_putF (D := (dC, dI)) (ci := 3) (v := .ref x1) (ty := (.array .int)) (C := "SpaceCycles$Net") (T := F_Ne) (N := 13) hx hb hts (in_F i_Ne) t_Ne t_Ne_ok n_Ne hown hK hP hD hS 0 rfl rfl 1 (by decide) (hts _ (in_c k_163)) (fun _ h9 => h9) rfl hin rfl (by decide +kernel) rfl rfl (Nat.le_of_ble_eq_true rfl) d_Ne_init_19 (fun H locs hP hD hS => ?_)
  have hP : va_P (dC, dI) vwCl [(h, .inr (3, [.ref x0, .ref x1, .null, .int 0, .int 0, .int 0, .null, .null, .null, .null, .null, .null, .null])), (x0, .inl (cI, 140, .inl (fun _ => 0))), (x1, .inl (cI, 140, .inl (fun _ => 0)))] H := hP
  have hD : va_D A [(h, .inr (3, [.ref x0, .ref x1, .null, .int 0, .int 0, .int 0, .null, .null, .null, .null, .null, .null, .null])), (x0, .inl (cI, 140, .inl (fun _ => 0))), (x1, .inl (cI, 140, .inl (fun _ => 0)))] := hD
  refine lv_aload_n hx hb d_Ne_init_22 rfl (lv_at hl 0 rfl) ?_
  refine lv_bipush (v := 40) hx hb d_Ne_init_23 (by decide) ?_
  refine va_newb (t0 := 0) (ty := .int) (c0 := cI) (a0 := (40, .inl (fun _ => 0))) hx hb (hts _ (in_c k_633)) rfl rfl (fun z => z) hK hP hD hS hA (fun _ => rfl) (by decide) (by decide +kernel) (by decide) (Nat.le_of_ble_eq_true rfl) (Nat.le_of_ble_eq_true rfl) d_Ne_init_25 (fun x2 H hP hD hS => ?_)
  refine W.widen (k := 3) (n := 320) (by decide) (by decide) ?_
  have hP : va_P (dC, dI) vwCl [(h, .inr (3, [.ref x0, .ref x1, .null, .int 0, .int 0, .int 0, .null, .null, .null, .null, .null, .null, .null])), (x0, .inl (cI, 140, .inl (fun _ => 0))), (x1, .inl (cI, 140, .inl (fun _ => 0))), (x2, .inl (cI, 40, .inl (fun _ => 0)))] H := hP
  have hD : va_D A [(h, .inr (3, [.ref x0, .ref x1, .null, .int 0, .int 0, .int 0, .null, .null, .null, .null, .null, .null, .null])), (x0, .inl (cI, 140, .inl (fun _ => 0))), (x1, .inl (cI, 140, .inl (fun _ => 0))), (x2, .inl (cI, 40, .inl (fun _ => 0)))] := hD
  refine va_putF (D := (dC, dI)) (ci := 3) (v := .ref x2) (ty := (.array .int)) (C := "SpaceCycles$Net") (T := F_Ne) (N := 13) hx hb hts (in_F i_Ne) t_Ne t_Ne_ok n_Ne hown hK hP hD hS 0 rfl rfl 2 (by decide) (hts _ (in_c k_170)) (fun _ h9 => h9) rfl hin rfl (by decide +kernel) rfl rfl (Nat.le_of_ble_eq_true rfl) d_Ne_init_27 (fun H locs hP hD hS => ?_)
  have hP : va_P (dC, dI) vwCl [(h, .inr (3, [.ref x0, .ref x1, .ref x2, .int 0, .int 0, .int 0, .null, .null, .null, .null, .null, .null, .null])), (x0, .inl (cI, 140, .inl (fun _ => 0))), (x1, .inl (cI, 140, .inl (fun _ => 0))), (x2, .inl (cI, 40, .inl (fun _ => 0)))] H := hP
  have hD : va_D A [(h, .inr (3, [.ref x0, .ref x1, .ref x2, .int 0, .int 0, .int 0, .null, .null, .null, .null, .null, .null, .null])), (x0, .inl (cI, 140, .inl (fun _ => 0))), (x1, .inl (cI, 140, .inl (fun _ => 0))), (x2, .inl (cI, 40, .inl (fun _ => 0)))] := hD
  refine lv_aload_n hx hb d_Ne_init_30 rfl (lv_at hl 0 rfl) ?_
  refine lv_iconst (v := 0) hx hb d_Ne_init_31 (by decide) ?_
  refine va_put (D := (dC, dI)) (ci := 3) (v := .int 0) (ty := .int) (C := "SpaceCycles$Net") (T := F_Ne) (N := 13) hx hb hts (in_F i_Ne) t_Ne t_Ne_ok n_Ne hown hK hP hD hS 0 rfl rfl 3 (by decide) (hts _ (in_c k_159)) (fun _ h9 => h9) rfl (by decide +kernel) rfl rfl (Nat.le_of_ble_eq_true rfl) d_Ne_init_32 (fun H locs hP hD hS => ?_)
  have hP : va_P (dC, dI) vwCl [(h, .inr (3, [.ref x0, .ref x1, .ref x2, .int 0, .int 0, .int 0, .null, .null, .null, .null, .null, .null, .null])), (x0, .inl (cI, 140, .inl (fun _ => 0))), (x1, .inl (cI, 140, .inl (fun _ => 0))), (x2, .inl (cI, 40, .inl (fun _ => 0)))] H := hP
  have hD : va_D A [(h, .inr (3, [.ref x0, .ref x1, .ref x2, .int 0, .int 0, .int 0, .null, .null, .null, .null, .null, .null, .null])), (x0, .inl (cI, 140, .inl (fun _ => 0))), (x1, .inl (cI, 140, .inl (fun _ => 0))), (x2, .inl (cI, 40, .inl (fun _ => 0)))] := hD
  refine lv_aload_n hx hb d_Ne_init_35 rfl (lv_at hl 0 rfl) ?_
  refine lv_iconst (v := 0) hx hb d_Ne_init_36 (by decide) ?_
  refine va_put (D := (dC, dI)) (ci := 3) (v := .int 0) (ty := .int) (C := "SpaceCycles$Net") (T := F_Ne) (N := 13) hx hb hts (in_F i_Ne) t_Ne t_Ne_ok n_Ne hown hK hP hD hS 0 rfl rfl 4 (by decide) (hts _ (in_c k_174)) (fun _ h9 => h9) rfl (by decide +kernel) rfl rfl (Nat.le_of_ble_eq_true rfl) d_Ne_init_37 (fun H locs hP hD hS => ?_)
  have hP : va_P (dC, dI) vwCl [(h, .inr (3, [.ref x0, .ref x1, .ref x2, .int 0, .int 0, .int 0, .null, .null, .null, .null, .null, .null, .null])), (x0, .inl (cI, 140, .inl (fun _ => 0))), (x1, .inl (cI, 140, .inl (fun _ => 0))), (x2, .inl (cI, 40, .inl (fun _ => 0)))] H := hP
  have hD : va_D A [(h, .inr (3, [.ref x0, .ref x1, .ref x2, .int 0, .int 0, .int 0, .null, .null, .null, .null, .null, .null, .null])), (x0, .inl (cI, 140, .inl (fun _ => 0))), (x1, .inl (cI, 140, .inl (fun _ => 0))), (x2, .inl (cI, 40, .inl (fun _ => 0)))] := hD
  refine lv_aload_n hx hb d_Ne_init_40 rfl (lv_at hl 0 rfl) ?_
  refine lv_iconst (v := 0) hx hb d_Ne_init_41 (by decide) ?_
  refine va_put (D := (dC, dI)) (ci := 3) (v := .int 0) (ty := .int) (C := "SpaceCycles$Net") (T := F_Ne) (N := 13) hx hb hts (in_F i_Ne) t_Ne t_Ne_ok n_Ne hown hK hP hD hS 0 rfl rfl 5 (by decide) (hts _ (in_c k_165)) (fun _ h9 => h9) rfl (by decide +kernel) rfl rfl (Nat.le_of_ble_eq_true rfl) d_Ne_init_42 (fun H locs hP hD hS => ?_)
  have hP : va_P (dC, dI) vwCl [(h, .inr (3, [.ref x0, .ref x1, .ref x2, .int 0, .int 0, .int 0, .null, .null, .null, .null, .null, .null, .null])), (x0, .inl (cI, 140, .inl (fun _ => 0))), (x1, .inl (cI, 140, .inl (fun _ => 0))), (x2, .inl (cI, 40, .inl (fun _ => 0)))] H := hP
  have hD : va_D A [(h, .inr (3, [.ref x0, .ref x1, .ref x2, .int 0, .int 0, .int 0, .null, .null, .null, .null, .null, .null, .null])), (x0, .inl (cI, 140, .inl (fun _ => 0))), (x1, .inl (cI, 140, .inl (fun _ => 0))), (x2, .inl (cI, 40, .inl (fun _ => 0)))] := hD
  refine lv_aload_n hx hb d_Ne_init_45 rfl (lv_at hl 0 rfl) ?_
  refine lv_sipush (v := 560) hx hb d_Ne_init_46 (by decide) ?_
  refine va_newb (t0 := 0) (ty := .int) (c0 := cI) (a0 := (560, .inl (fun _ => 0))) hx hb (hts _ (in_c k_633)) rfl rfl (fun z => z) hK hP hD hS hA (fun _ => rfl) (by decide) (by decide +kernel) (by decide) (Nat.le_of_ble_eq_true rfl) (Nat.le_of_ble_eq_true rfl) d_Ne_init_49 (fun x3 H hP hD hS => ?_)
  refine W.widen (k := 4) (n := 880) (by decide) (by decide) ?_
  have hP : va_P (dC, dI) vwCl [(h, .inr (3, [.ref x0, .ref x1, .ref x2, .int 0, .int 0, .int 0, .null, .null, .null, .null, .null, .null, .null])), (x0, .inl (cI, 140, .inl (fun _ => 0))), (x1, .inl (cI, 140, .inl (fun _ => 0))), (x2, .inl (cI, 40, .inl (fun _ => 0))), (x3, .inl (cI, 560, .inl (fun _ => 0)))] H := hP
  have hD : va_D A [(h, .inr (3, [.ref x0, .ref x1, .ref x2, .int 0, .int 0, .int 0, .null, .null, .null, .null, .null, .null, .null])), (x0, .inl (cI, 140, .inl (fun _ => 0))), (x1, .inl (cI, 140, .inl (fun _ => 0))), (x2, .inl (cI, 40, .inl (fun _ => 0))), (x3, .inl (cI, 560, .inl (fun _ => 0)))] := hD
  refine va_putF (D := (dC, dI)) (ci := 3) (v := .ref x3) (ty := (.array .int)) (C := "SpaceCycles$Net") (T := F_Ne) (N := 13) hx hb hts (in_F i_Ne) t_Ne t_Ne_ok n_Ne hown hK hP hD hS 0 rfl rfl 6 (by decide) (hts _ (in_c k_164)) (fun _ h9 => h9) rfl hin rfl (by decide +kernel) rfl rfl (Nat.le_of_ble_eq_true rfl) d_Ne_init_51 (fun H locs hP hD hS => ?_)
  have hP : va_P (dC, dI) vwCl [(h, .inr (3, [.ref x0, .ref x1, .ref x2, .int 0, .int 0, .int 0, .ref x3, .null, .null, .null, .null, .null, .null])), (x0, .inl (cI, 140, .inl (fun _ => 0))), (x1, .inl (cI, 140, .inl (fun _ => 0))), (x2, .inl (cI, 40, .inl (fun _ => 0))), (x3, .inl (cI, 560, .inl (fun _ => 0)))] H := hP
  have hD : va_D A [(h, .inr (3, [.ref x0, .ref x1, .ref x2, .int 0, .int 0, .int 0, .ref x3, .null, .null, .null, .null, .null, .null])), (x0, .inl (cI, 140, .inl (fun _ => 0))), (x1, .inl (cI, 140, .inl (fun _ => 0))), (x2, .inl (cI, 40, .inl (fun _ => 0))), (x3, .inl (cI, 560, .inl (fun _ => 0)))] := hD
  refine lv_aload_n hx hb d_Ne_init_54 rfl (lv_at hl 0 rfl) ?_
  refine lv_sipush (v := 220) hx hb d_Ne_init_55 (by decide) ?_
  refine va_newb (t0 := 0) (ty := .int) (c0 := cI) (a0 := (220, .inl (fun _ => 0))) hx hb (hts _ (in_c k_633)) rfl rfl (fun z => z) hK hP hD hS hA (fun _ => rfl) (by decide) (by decide +kernel) (by decide) (Nat.le_of_ble_eq_true rfl) (Nat.le_of_ble_eq_true rfl) d_Ne_init_58 (fun x4 H hP hD hS => ?_)
  refine W.widen (k := 5) (n := 1100) (by decide) (by decide) ?_
  have hP : va_P (dC, dI) vwCl [(h, .inr (3, [.ref x0, .ref x1, .ref x2, .int 0, .int 0, .int 0, .ref x3, .null, .null, .null, .null, .null, .null])), (x0, .inl (cI, 140, .inl (fun _ => 0))), (x1, .inl (cI, 140, .inl (fun _ => 0))), (x2, .inl (cI, 40, .inl (fun _ => 0))), (x3, .inl (cI, 560, .inl (fun _ => 0))), (x4, .inl (cI, 220, .inl (fun _ => 0)))] H := hP
  have hD : va_D A [(h, .inr (3, [.ref x0, .ref x1, .ref x2, .int 0, .int 0, .int 0, .ref x3, .null, .null, .null, .null, .null, .null])), (x0, .inl (cI, 140, .inl (fun _ => 0))), (x1, .inl (cI, 140, .inl (fun _ => 0))), (x2, .inl (cI, 40, .inl (fun _ => 0))), (x3, .inl (cI, 560, .inl (fun _ => 0))), (x4, .inl (cI, 220, .inl (fun _ => 0)))] := hD
  refine va_putF (D := (dC, dI)) (ci := 3) (v := .ref x4) (ty := (.array .int)) (C := "SpaceCycles$Net") (T := F_Ne) (N := 13) hx hb hts (in_F i_Ne) t_Ne t_Ne_ok n_Ne hown hK hP hD hS 0 rfl rfl 7 (by decide) (hts _ (in_c k_177)) (fun _ h9 => h9) rfl hin rfl (by decide +kernel) rfl rfl (Nat.le_of_ble_eq_true rfl) d_Ne_init_60 (fun H locs hP hD hS => ?_)
  have hP : va_P (dC, dI) vwCl [(h, .inr (3, [.ref x0, .ref x1, .ref x2, .int 0, .int 0, .int 0, .ref x3, .ref x4, .null, .null, .null, .null, .null])), (x0, .inl (cI, 140, .inl (fun _ => 0))), (x1, .inl (cI, 140, .inl (fun _ => 0))), (x2, .inl (cI, 40, .inl (fun _ => 0))), (x3, .inl (cI, 560, .inl (fun _ => 0))), (x4, .inl (cI, 220, .inl (fun _ => 0)))] H := hP
  have hD : va_D A [(h, .inr (3, [.ref x0, .ref x1, .ref x2, .int 0, .int 0, .int 0, .ref x3, .ref x4, .null, .null, .null, .null, .null])), (x0, .inl (cI, 140, .inl (fun _ => 0))), (x1, .inl (cI, 140, .inl (fun _ => 0))), (x2, .inl (cI, 40, .inl (fun _ => 0))), (x3, .inl (cI, 560, .inl (fun _ => 0))), (x4, .inl (cI, 220, .inl (fun _ => 0)))] := hD
  refine lv_aload_n hx hb d_Ne_init_63 rfl (lv_at hl 0 rfl) ?_
  refine lv_sipush (v := 440) hx hb d_Ne_init_64 (by decide) ?_
  refine va_newb (t0 := 0) (ty := .int) (c0 := cI) (a0 := (440, .inl (fun _ => 0))) hx hb (hts _ (in_c k_633)) rfl rfl (fun z => z) hK hP hD hS hA (fun _ => rfl) (by decide) (by decide +kernel) (by decide) (Nat.le_of_ble_eq_true rfl) (Nat.le_of_ble_eq_true rfl) d_Ne_init_67 (fun x5 H hP hD hS => ?_)
  refine W.widen (k := 6) (n := 1540) (by decide) (by decide) ?_
  have hP : va_P (dC, dI) vwCl [(h, .inr (3, [.ref x0, .ref x1, .ref x2, .int 0, .int 0, .int 0, .ref x3, .ref x4, .null, .null, .null, .null, .null])), (x0, .inl (cI, 140, .inl (fun _ => 0))), (x1, .inl (cI, 140, .inl (fun _ => 0))), (x2, .inl (cI, 40, .inl (fun _ => 0))), (x3, .inl (cI, 560, .inl (fun _ => 0))), (x4, .inl (cI, 220, .inl (fun _ => 0))), (x5, .inl (cI, 440, .inl (fun _ => 0)))] H := hP
  have hD : va_D A [(h, .inr (3, [.ref x0, .ref x1, .ref x2, .int 0, .int 0, .int 0, .ref x3, .ref x4, .null, .null, .null, .null, .null])), (x0, .inl (cI, 140, .inl (fun _ => 0))), (x1, .inl (cI, 140, .inl (fun _ => 0))), (x2, .inl (cI, 40, .inl (fun _ => 0))), (x3, .inl (cI, 560, .inl (fun _ => 0))), (x4, .inl (cI, 220, .inl (fun _ => 0))), (x5, .inl (cI, 440, .inl (fun _ => 0)))] := hD
  refine va_putF (D := (dC, dI)) (ci := 3) (v := .ref x5) (ty := (.array .int)) (C := "SpaceCycles$Net") (T := F_Ne) (N := 13) hx hb hts (in_F i_Ne) t_Ne t_Ne_ok n_Ne hown hK hP hD hS 0 rfl rfl 8 (by decide) (hts _ (in_c k_171)) (fun _ h9 => h9) rfl hin rfl (by decide +kernel) rfl rfl (Nat.le_of_ble_eq_true rfl) d_Ne_init_69 (fun H locs hP hD hS => ?_)
  have hP : va_P (dC, dI) vwCl [(h, .inr (3, [.ref x0, .ref x1, .ref x2, .int 0, .int 0, .int 0, .ref x3, .ref x4, .ref x5, .null, .null, .null, .null])), (x0, .inl (cI, 140, .inl (fun _ => 0))), (x1, .inl (cI, 140, .inl (fun _ => 0))), (x2, .inl (cI, 40, .inl (fun _ => 0))), (x3, .inl (cI, 560, .inl (fun _ => 0))), (x4, .inl (cI, 220, .inl (fun _ => 0))), (x5, .inl (cI, 440, .inl (fun _ => 0)))] H := hP
  have hD : va_D A [(h, .inr (3, [.ref x0, .ref x1, .ref x2, .int 0, .int 0, .int 0, .ref x3, .ref x4, .ref x5, .null, .null, .null, .null])), (x0, .inl (cI, 140, .inl (fun _ => 0))), (x1, .inl (cI, 140, .inl (fun _ => 0))), (x2, .inl (cI, 40, .inl (fun _ => 0))), (x3, .inl (cI, 560, .inl (fun _ => 0))), (x4, .inl (cI, 220, .inl (fun _ => 0))), (x5, .inl (cI, 440, .inl (fun _ => 0)))] := hD
  refine lv_aload_n hx hb d_Ne_init_72 rfl (lv_at hl 0 rfl) ?_
  refine lv_sipush (v := 440) hx hb d_Ne_init_73 (by decide) ?_
  refine va_newb (t0 := 0) (ty := .int) (c0 := cI) (a0 := (440, .inl (fun _ => 0))) hx hb (hts _ (in_c k_633)) rfl rfl (fun z => z) hK hP hD hS hA (fun _ => rfl) (by decide) (by decide +kernel) (by decide) (Nat.le_of_ble_eq_true rfl) (Nat.le_of_ble_eq_true rfl) d_Ne_init_76 (fun x6 H hP hD hS => ?_)
  refine W.widen (k := 7) (n := 1980) (by decide) (by decide) ?_
  have hP : va_P (dC, dI) vwCl [(h, .inr (3, [.ref x0, .ref x1, .ref x2, .int 0, .int 0, .int 0, .ref x3, .ref x4, .ref x5, .null, .null, .null, .null])), (x0, .inl (cI, 140, .inl (fun _ => 0))), (x1, .inl (cI, 140, .inl (fun _ => 0))), (x2, .inl (cI, 40, .inl (fun _ => 0))), (x3, .inl (cI, 560, .inl (fun _ => 0))), (x4, .inl (cI, 220, .inl (fun _ => 0))), (x5, .inl (cI, 440, .inl (fun _ => 0))), (x6, .inl (cI, 440, .inl (fun _ => 0)))] H := hP
  have hD : va_D A [(h, .inr (3, [.ref x0, .ref x1, .ref x2, .int 0, .int 0, .int 0, .ref x3, .ref x4, .ref x5, .null, .null, .null, .null])), (x0, .inl (cI, 140, .inl (fun _ => 0))), (x1, .inl (cI, 140, .inl (fun _ => 0))), (x2, .inl (cI, 40, .inl (fun _ => 0))), (x3, .inl (cI, 560, .inl (fun _ => 0))), (x4, .inl (cI, 220, .inl (fun _ => 0))), (x5, .inl (cI, 440, .inl (fun _ => 0))), (x6, .inl (cI, 440, .inl (fun _ => 0)))] := hD
  refine va_putF (D := (dC, dI)) (ci := 3) (v := .ref x6) (ty := (.array .int)) (C := "SpaceCycles$Net") (T := F_Ne) (N := 13) hx hb hts (in_F i_Ne) t_Ne t_Ne_ok n_Ne hown hK hP hD hS 0 rfl rfl 9 (by decide) (hts _ (in_c k_172)) (fun _ h9 => h9) rfl hin rfl (by decide +kernel) rfl rfl (Nat.le_of_ble_eq_true rfl) d_Ne_init_78 (fun H locs hP hD hS => ?_)
  have hP : va_P (dC, dI) vwCl [(h, .inr (3, [.ref x0, .ref x1, .ref x2, .int 0, .int 0, .int 0, .ref x3, .ref x4, .ref x5, .ref x6, .null, .null, .null])), (x0, .inl (cI, 140, .inl (fun _ => 0))), (x1, .inl (cI, 140, .inl (fun _ => 0))), (x2, .inl (cI, 40, .inl (fun _ => 0))), (x3, .inl (cI, 560, .inl (fun _ => 0))), (x4, .inl (cI, 220, .inl (fun _ => 0))), (x5, .inl (cI, 440, .inl (fun _ => 0))), (x6, .inl (cI, 440, .inl (fun _ => 0)))] H := hP
  have hD : va_D A [(h, .inr (3, [.ref x0, .ref x1, .ref x2, .int 0, .int 0, .int 0, .ref x3, .ref x4, .ref x5, .ref x6, .null, .null, .null])), (x0, .inl (cI, 140, .inl (fun _ => 0))), (x1, .inl (cI, 140, .inl (fun _ => 0))), (x2, .inl (cI, 40, .inl (fun _ => 0))), (x3, .inl (cI, 560, .inl (fun _ => 0))), (x4, .inl (cI, 220, .inl (fun _ => 0))), (x5, .inl (cI, 440, .inl (fun _ => 0))), (x6, .inl (cI, 440, .inl (fun _ => 0)))] := hD
  refine lv_aload_n hx hb d_Ne_init_81 rfl (lv_at hl 0 rfl) ?_
  refine lv_sipush (v := 440) hx hb d_Ne_init_82 (by decide) ?_
  refine va_newb (t0 := 0) (ty := .int) (c0 := cI) (a0 := (440, .inl (fun _ => 0))) hx hb (hts _ (in_c k_633)) rfl rfl (fun z => z) hK hP hD hS hA (fun _ => rfl) (by decide) (by decide +kernel) (by decide) (Nat.le_of_ble_eq_true rfl) (Nat.le_of_ble_eq_true rfl) d_Ne_init_85 (fun x7 H hP hD hS => ?_)
  refine W.widen (k := 8) (n := 2420) (by decide) (by decide) ?_
  have hP : va_P (dC, dI) vwCl [(h, .inr (3, [.ref x0, .ref x1, .ref x2, .int 0, .int 0, .int 0, .ref x3, .ref x4, .ref x5, .ref x6, .null, .null, .null])), (x0, .inl (cI, 140, .inl (fun _ => 0))), (x1, .inl (cI, 140, .inl (fun _ => 0))), (x2, .inl (cI, 40, .inl (fun _ => 0))), (x3, .inl (cI, 560, .inl (fun _ => 0))), (x4, .inl (cI, 220, .inl (fun _ => 0))), (x5, .inl (cI, 440, .inl (fun _ => 0))), (x6, .inl (cI, 440, .inl (fun _ => 0))), (x7, .inl (cI, 440, .inl (fun _ => 0)))] H := hP
  have hD : va_D A [(h, .inr (3, [.ref x0, .ref x1, .ref x2, .int 0, .int 0, .int 0, .ref x3, .ref x4, .ref x5, .ref x6, .null, .null, .null])), (x0, .inl (cI, 140, .inl (fun _ => 0))), (x1, .inl (cI, 140, .inl (fun _ => 0))), (x2, .inl (cI, 40, .inl (fun _ => 0))), (x3, .inl (cI, 560, .inl (fun _ => 0))), (x4, .inl (cI, 220, .inl (fun _ => 0))), (x5, .inl (cI, 440, .inl (fun _ => 0))), (x6, .inl (cI, 440, .inl (fun _ => 0))), (x7, .inl (cI, 440, .inl (fun _ => 0)))] := hD
  refine va_putF (D := (dC, dI)) (ci := 3) (v := .ref x7) (ty := (.array .int)) (C := "SpaceCycles$Net") (T := F_Ne) (N := 13) hx hb hts (in_F i_Ne) t_Ne t_Ne_ok n_Ne hown hK hP hD hS 0 rfl rfl 10 (by decide) (hts _ (in_c k_173)) (fun _ h9 => h9) rfl hin rfl (by decide +kernel) rfl rfl (Nat.le_of_ble_eq_true rfl) d_Ne_init_87 (fun H locs hP hD hS => ?_)
  have hP : va_P (dC, dI) vwCl [(h, .inr (3, [.ref x0, .ref x1, .ref x2, .int 0, .int 0, .int 0, .ref x3, .ref x4, .ref x5, .ref x6, .ref x7, .null, .null])), (x0, .inl (cI, 140, .inl (fun _ => 0))), (x1, .inl (cI, 140, .inl (fun _ => 0))), (x2, .inl (cI, 40, .inl (fun _ => 0))), (x3, .inl (cI, 560, .inl (fun _ => 0))), (x4, .inl (cI, 220, .inl (fun _ => 0))), (x5, .inl (cI, 440, .inl (fun _ => 0))), (x6, .inl (cI, 440, .inl (fun _ => 0))), (x7, .inl (cI, 440, .inl (fun _ => 0)))] H := hP
  have hD : va_D A [(h, .inr (3, [.ref x0, .ref x1, .ref x2, .int 0, .int 0, .int 0, .ref x3, .ref x4, .ref x5, .ref x6, .ref x7, .null, .null])), (x0, .inl (cI, 140, .inl (fun _ => 0))), (x1, .inl (cI, 140, .inl (fun _ => 0))), (x2, .inl (cI, 40, .inl (fun _ => 0))), (x3, .inl (cI, 560, .inl (fun _ => 0))), (x4, .inl (cI, 220, .inl (fun _ => 0))), (x5, .inl (cI, 440, .inl (fun _ => 0))), (x6, .inl (cI, 440, .inl (fun _ => 0))), (x7, .inl (cI, 440, .inl (fun _ => 0)))] := hD
  refine lv_aload_n hx hb d_Ne_init_90 rfl (lv_at hl 0 rfl) ?_
  refine lv_sipush (v := 1600) hx hb d_Ne_init_91 (by decide) ?_
  refine va_newb (t0 := 0) (ty := .int) (c0 := cI) (a0 := (1600, .inl (fun _ => 0))) hx hb (hts _ (in_c k_633)) rfl rfl (fun z => z) hK hP hD hS hA (fun _ => rfl) (by decide) (by decide +kernel) (by decide) (Nat.le_of_ble_eq_true rfl) (Nat.le_of_ble_eq_true rfl) d_Ne_init_94 (fun x8 H hP hD hS => ?_)
  refine W.widen (k := 9) (n := 4020) (by decide) (by decide) ?_
  have hP : va_P (dC, dI) vwCl [(h, .inr (3, [.ref x0, .ref x1, .ref x2, .int 0, .int 0, .int 0, .ref x3, .ref x4, .ref x5, .ref x6, .ref x7, .null, .null])), (x0, .inl (cI, 140, .inl (fun _ => 0))), (x1, .inl (cI, 140, .inl (fun _ => 0))), (x2, .inl (cI, 40, .inl (fun _ => 0))), (x3, .inl (cI, 560, .inl (fun _ => 0))), (x4, .inl (cI, 220, .inl (fun _ => 0))), (x5, .inl (cI, 440, .inl (fun _ => 0))), (x6, .inl (cI, 440, .inl (fun _ => 0))), (x7, .inl (cI, 440, .inl (fun _ => 0))), (x8, .inl (cI, 1600, .inl (fun _ => 0)))] H := hP
  have hD : va_D A [(h, .inr (3, [.ref x0, .ref x1, .ref x2, .int 0, .int 0, .int 0, .ref x3, .ref x4, .ref x5, .ref x6, .ref x7, .null, .null])), (x0, .inl (cI, 140, .inl (fun _ => 0))), (x1, .inl (cI, 140, .inl (fun _ => 0))), (x2, .inl (cI, 40, .inl (fun _ => 0))), (x3, .inl (cI, 560, .inl (fun _ => 0))), (x4, .inl (cI, 220, .inl (fun _ => 0))), (x5, .inl (cI, 440, .inl (fun _ => 0))), (x6, .inl (cI, 440, .inl (fun _ => 0))), (x7, .inl (cI, 440, .inl (fun _ => 0))), (x8, .inl (cI, 1600, .inl (fun _ => 0)))] := hD
  refine va_putF (D := (dC, dI)) (ci := 3) (v := .ref x8) (ty := (.array .int)) (C := "SpaceCycles$Net") (T := F_Ne) (N := 13) hx hb hts (in_F i_Ne) t_Ne t_Ne_ok n_Ne hown hK hP hD hS 0 rfl rfl 11 (by decide) (hts _ (in_c k_142)) (fun _ h9 => h9) rfl hin rfl (by decide +kernel) rfl rfl (Nat.le_of_ble_eq_true rfl) d_Ne_init_96 (fun H locs hP hD hS => ?_)
  have hP : va_P (dC, dI) vwCl [(h, .inr (3, [.ref x0, .ref x1, .ref x2, .int 0, .int 0, .int 0, .ref x3, .ref x4, .ref x5, .ref x6, .ref x7, .ref x8, .null])), (x0, .inl (cI, 140, .inl (fun _ => 0))), (x1, .inl (cI, 140, .inl (fun _ => 0))), (x2, .inl (cI, 40, .inl (fun _ => 0))), (x3, .inl (cI, 560, .inl (fun _ => 0))), (x4, .inl (cI, 220, .inl (fun _ => 0))), (x5, .inl (cI, 440, .inl (fun _ => 0))), (x6, .inl (cI, 440, .inl (fun _ => 0))), (x7, .inl (cI, 440, .inl (fun _ => 0))), (x8, .inl (cI, 1600, .inl (fun _ => 0)))] H := hP
  have hD : va_D A [(h, .inr (3, [.ref x0, .ref x1, .ref x2, .int 0, .int 0, .int 0, .ref x3, .ref x4, .ref x5, .ref x6, .ref x7, .ref x8, .null])), (x0, .inl (cI, 140, .inl (fun _ => 0))), (x1, .inl (cI, 140, .inl (fun _ => 0))), (x2, .inl (cI, 40, .inl (fun _ => 0))), (x3, .inl (cI, 560, .inl (fun _ => 0))), (x4, .inl (cI, 220, .inl (fun _ => 0))), (x5, .inl (cI, 440, .inl (fun _ => 0))), (x6, .inl (cI, 440, .inl (fun _ => 0))), (x7, .inl (cI, 440, .inl (fun _ => 0))), (x8, .inl (cI, 1600, .inl (fun _ => 0)))] := hD
  refine lv_aload_n hx hb d_Ne_init_99 rfl (lv_at hl 0 rfl) ?_
  refine lv_sipush (v := 1600) hx hb d_Ne_init_100 (by decide) ?_
  refine va_newb (t0 := 0) (ty := .int) (c0 := cI) (a0 := (1600, .inl (fun _ => 0))) hx hb (hts _ (in_c k_633)) rfl rfl (fun z => z) hK hP hD hS hA (fun _ => rfl) (by decide) (by decide +kernel) (by decide) (Nat.le_of_ble_eq_true rfl) (Nat.le_of_ble_eq_true rfl) d_Ne_init_103 (fun x9 H hP hD hS => ?_)
  refine W.widen (k := 10) (n := 5620) (by decide) (by decide) ?_
  have hP : va_P (dC, dI) vwCl [(h, .inr (3, [.ref x0, .ref x1, .ref x2, .int 0, .int 0, .int 0, .ref x3, .ref x4, .ref x5, .ref x6, .ref x7, .ref x8, .null])), (x0, .inl (cI, 140, .inl (fun _ => 0))), (x1, .inl (cI, 140, .inl (fun _ => 0))), (x2, .inl (cI, 40, .inl (fun _ => 0))), (x3, .inl (cI, 560, .inl (fun _ => 0))), (x4, .inl (cI, 220, .inl (fun _ => 0))), (x5, .inl (cI, 440, .inl (fun _ => 0))), (x6, .inl (cI, 440, .inl (fun _ => 0))), (x7, .inl (cI, 440, .inl (fun _ => 0))), (x8, .inl (cI, 1600, .inl (fun _ => 0))), (x9, .inl (cI, 1600, .inl (fun _ => 0)))] H := hP
  have hD : va_D A [(h, .inr (3, [.ref x0, .ref x1, .ref x2, .int 0, .int 0, .int 0, .ref x3, .ref x4, .ref x5, .ref x6, .ref x7, .ref x8, .null])), (x0, .inl (cI, 140, .inl (fun _ => 0))), (x1, .inl (cI, 140, .inl (fun _ => 0))), (x2, .inl (cI, 40, .inl (fun _ => 0))), (x3, .inl (cI, 560, .inl (fun _ => 0))), (x4, .inl (cI, 220, .inl (fun _ => 0))), (x5, .inl (cI, 440, .inl (fun _ => 0))), (x6, .inl (cI, 440, .inl (fun _ => 0))), (x7, .inl (cI, 440, .inl (fun _ => 0))), (x8, .inl (cI, 1600, .inl (fun _ => 0))), (x9, .inl (cI, 1600, .inl (fun _ => 0)))] := hD
  refine va_putF (D := (dC, dI)) (ci := 3) (v := .ref x9) (ty := (.array .int)) (C := "SpaceCycles$Net") (T := F_Ne) (N := 13) hx hb hts (in_F i_Ne) t_Ne t_Ne_ok n_Ne hown hK hP hD hS 0 rfl rfl 12 (by decide) (hts _ (in_c k_160)) (fun _ h9 => h9) rfl hin rfl (by decide +kernel) rfl rfl (Nat.le_of_ble_eq_true rfl) d_Ne_init_105 (fun H locs hP hD hS => ?_)
  have hP : va_P (dC, dI) vwCl [(h, .inr (3, [.ref x0, .ref x1, .ref x2, .int 0, .int 0, .int 0, .ref x3, .ref x4, .ref x5, .ref x6, .ref x7, .ref x8, .ref x9])), (x0, .inl (cI, 140, .inl (fun _ => 0))), (x1, .inl (cI, 140, .inl (fun _ => 0))), (x2, .inl (cI, 40, .inl (fun _ => 0))), (x3, .inl (cI, 560, .inl (fun _ => 0))), (x4, .inl (cI, 220, .inl (fun _ => 0))), (x5, .inl (cI, 440, .inl (fun _ => 0))), (x6, .inl (cI, 440, .inl (fun _ => 0))), (x7, .inl (cI, 440, .inl (fun _ => 0))), (x8, .inl (cI, 1600, .inl (fun _ => 0))), (x9, .inl (cI, 1600, .inl (fun _ => 0)))] H := hP
  have hD : va_D A [(h, .inr (3, [.ref x0, .ref x1, .ref x2, .int 0, .int 0, .int 0, .ref x3, .ref x4, .ref x5, .ref x6, .ref x7, .ref x8, .ref x9])), (x0, .inl (cI, 140, .inl (fun _ => 0))), (x1, .inl (cI, 140, .inl (fun _ => 0))), (x2, .inl (cI, 40, .inl (fun _ => 0))), (x3, .inl (cI, 560, .inl (fun _ => 0))), (x4, .inl (cI, 220, .inl (fun _ => 0))), (x5, .inl (cI, 440, .inl (fun _ => 0))), (x6, .inl (cI, 440, .inl (fun _ => 0))), (x7, .inl (cI, 440, .inl (fun _ => 0))), (x8, .inl (cI, 1600, .inl (fun _ => 0))), (x9, .inl (cI, 1600, .inl (fun _ => 0)))] := hD
  have hP9 := hP.sub (ws' := (cw_Ne h x0 x1 x2 x3 x4 x5 x6 x7 x8 x9 cI cZ)) [0, 1, 2, 3, 4, 5, 6, 7, 8, 9, 10] rfl
  have hD9 := hD.sub (ws' := (cw_Ne h x0 x1 x2 x3 x4 x5 x6 x7 x8 x9 cI cZ)) [0, 1, 2, 3, 4, 5, 6, 7, 8, 9, 10] (by decide) rfl
  refine W.widen (k := 10) (n := 5620) (by decide) (by decide) ?_
  exact W.vret hx hb hr (fun t ht hW => ⟨⟨(), rfl, trivial, x0, x1, x2, x3, x4, x5, x6, x7, x8, x9, by rw [ht]; exact hP9, va_K.moved hW.alike hK, hD9⟩, hS.F ht⟩) hS.2.2 d_Ne_init_108

theorem k_637 : ((.methodLink "SpaceCycles$Rings" 3 ⟨"java/lang/Object", "<init>", "()V"⟩) : Cond) ∈ gl := gl_i 175 (by decide +kernel) (by decide +kernel)
theorem k_638 : ((.arrayClass .boolean) : Cond) ∈ gl := gl_i 195 (by decide +kernel) (by decide +kernel)
-- SpaceCycles$Rings.<init>
abbrev b_Ri_init : ByteArray := prog_9_method_1_code
abbrev y_Ri_init : MethodName := ⟨"SpaceCycles$Rings", "<init>", "()V"⟩
abbrev w_Ri_init : List Cond := Cond.code y_Ri_init b_Ri_init 1 none :: gl
abbrev rm_Ri_init : Room := { frames := 1, cells := 4, slots := 1321, locals := 12 }
theorem d_Ri_init_0 : decode b_Ri_init 0 = .ok (.aload_n 0, 1) := by decide +kernel
theorem d_Ri_init_1 : decode b_Ri_init 1 = .ok (.invokespecial 3, 3) := by decide +kernel
theorem d_Ri_init_4 : decode b_Ri_init 4 = .ok (.aload_n 0, 1) := by decide +kernel
theorem d_Ri_init_5 : decode b_Ri_init 5 = .ok (.sipush 440, 3) := by decide +kernel
theorem d_Ri_init_8 : decode b_Ri_init 8 = .ok (.newarray .int, 2) := by decide +kernel
theorem d_Ri_init_10 : decode b_Ri_init 10 = .ok (.putfield 9, 3) := by decide +kernel
theorem d_Ri_init_13 : decode b_Ri_init 13 = .ok (.aload_n 0, 1) := by decide +kernel
theorem d_Ri_init_14 : decode b_Ri_init 14 = .ok (.sipush 440, 3) := by decide +kernel
theorem d_Ri_init_17 : decode b_Ri_init 17 = .ok (.newarray .boolean, 2) := by decide +kernel
theorem d_Ri_init_19 : decode b_Ri_init 19 = .ok (.putfield 15, 3) := by decide +kernel
theorem d_Ri_init_22 : decode b_Ri_init 22 = .ok (.aload_n 0, 1) := by decide +kernel
theorem d_Ri_init_23 : decode b_Ri_init 23 = .ok (.sipush 221, 3) := by decide +kernel
theorem d_Ri_init_26 : decode b_Ri_init 26 = .ok (.newarray .int, 2) := by decide +kernel
theorem d_Ri_init_28 : decode b_Ri_init 28 = .ok (.putfield 19, 3) := by decide +kernel
theorem d_Ri_init_31 : decode b_Ri_init 31 = .ok (.aload_n 0, 1) := by decide +kernel
theorem d_Ri_init_32 : decode b_Ri_init 32 = .ok (.sipush 220, 3) := by decide +kernel
theorem d_Ri_init_35 : decode b_Ri_init 35 = .ok (.newarray .int, 2) := by decide +kernel
theorem d_Ri_init_37 : decode b_Ri_init 37 = .ok (.putfield 22, 3) := by decide +kernel
theorem d_Ri_init_40 : decode b_Ri_init 40 = .ok (.aload_n 0, 1) := by decide +kernel
theorem d_Ri_init_41 : decode b_Ri_init 41 = .ok (.iconst 0, 1) := by decide +kernel
theorem d_Ri_init_42 : decode b_Ri_init 42 = .ok (.putfield 25, 3) := by decide +kernel
theorem d_Ri_init_45 : decode b_Ri_init 45 = .ok (.aload_n 0, 1) := by decide +kernel
theorem d_Ri_init_46 : decode b_Ri_init 46 = .ok (.iconst 0, 1) := by decide +kernel
theorem d_Ri_init_47 : decode b_Ri_init 47 = .ok (.putfield 29, 3) := by decide +kernel
theorem d_Ri_init_50 : decode b_Ri_init 50 = .ok (.return_, 1) := by decide +kernel
abbrev cw_Ri (h q0 q1 q2 q3 : Nat) (cI cZ : ClassId) : va_W := [(h, .inr (4, [.ref q0, .ref q1, .ref q2, .ref q3, .int 0, .int 0])), (q0, .inl (cI, 440, .inl (fun _ => 0))), (q1, .inl (cZ, 440, .inl (fun _ => 0))), (q2, .inl (cI, 221, .inl (fun _ => 0))), (q3, .inl (cI, 220, .inl (fun _ => 0)))]
set_option maxHeartbeats 4000000 in
set_option maxRecDepth 100000 in
theorem c_Ri_init (l : Launch) (dC : Nat → ClassId) (dI : Nat → Nat → Nat) {cI cZ cJ : ClassId} (h sz : Nat) : Met l y_Ri_init w_Ri_init rm_Ri_init (PP dC dI [(cI, .int), (cZ, .boolean), (cJ, .long)] [.ref h] sz [(h, .inr (4, [.null, .null, .null, .null, .int 0, .int 0]))]) (va_Qv (fun (_ : Unit) => True) (fun _ t => ∃ q0 q1 q2 q3 : Nat, BB dC dI [(cI, .int), (cZ, .boolean), (cJ, .long)] (va_A [(h, .inr (4, [.null, .null, .null, .null, .int 0, .int 0]))] sz) (cw_Ri h q0 q1 q2 q3 cI cZ) () t) (va_A [(h, .inr (4, [.null, .null, .null, .null, .int 0, .int 0]))] sz)) 4 1321 (va_A [(h, .inr (4, [.null, .null, .null, .null, .int 0, .int 0]))] sz) := by
  refine Met.ofW (cc := b_Ri_init) (maxL := 1) (ret := none) (by decide) rfl ?_
  intro p e s m args below meth c s₁ B hml hv
  obtain ⟨rfl, hsz, hP, hK, hD0, hN⟩ := hv
  have hx := B.exec
  have hb := B.bytes
  have hr := B.returns
  have hts := atoms_spec (ws := w_Ri_init) B.pre
  have hown : s.vm.findClass "SpaceCycles$Rings" = some m.cls := findClass_of_methodNamed B.named
  have hlocks := B.notSynchronized
  have hin : meth.name = "<init>" := (name_of_methodNamed B.named B.method).1
  subst hsz
  have hD := hD0.self (sz := s.heap.size)
  generalize hAe : va_A [(h, .inr (4, [.null, .null, .null, .null, .int 0, .int 0]))] s.heap.size = A at hD ⊢
  have hA : ∀ q : Nat, s.heap.size ≤ q → A q := fun q h => by rw [← hAe]; exact Or.inr h
  have hS : va_S A s.heap s.heap [] := va_S.rf
  have hl := lv_entry ([.ref h]) (n := 1) (Nat.le_of_ble_eq_true rfl)
  rw [lg_entry_eq]
  generalize (lg_sl ([.ref h]) ++ List.replicate (1 - (lg_sl ([.ref h])).length) Slot.unset).toArray = ls at hl ⊢
  have hl : lv_has ls 1 [(0, .ref h)] := hl
  refine lv_aload_n hx hb d_Ri_init_0 rfl (lv_at hl 0 rfl) ?_
  refine W.objInit hx hb hown (hts _ (in_c k_637)) (hts _ (in_c k_631)) (hts _ (in_c k_632)) rfl (by rw [hml]; exact hl.1) rfl d_Ri_init_1 (Nat.le_of_ble_eq_true rfl) (Nat.le_of_ble_eq_true rfl) ?_
  refine W.eq (g2 := F0 m 4 ls []) rfl ?_
  refine lv_aload_n hx hb d_Ri_init_4 rfl (lv_at hl 0 rfl) ?_
  refine lv_sipush (v := 440) hx hb d_Ri_init_5 (by decide) ?_
  refine va_newb (t0 := 0) (ty := .int) (c0 := cI) (a0 := (440, .inl (fun _ => 0))) hx hb (hts _ (in_c k_633)) rfl rfl (fun z => z) hK hP hD hS hA (fun _ => rfl) (by decide) (by decide +kernel) (by decide) (Nat.le_of_ble_eq_true rfl) (Nat.le_of_ble_eq_true rfl) d_Ri_init_8 (fun x0 H hP hD hS => ?_)
  refine W.widen (k := 1) (n := 440) (by decide) (by decide) ?_
  have hP : va_P (dC, dI) vwCl [(h, .inr (4, [.null, .null, .null, .null, .int 0, .int 0])), (x0, .inl (cI, 440, .inl (fun _ => 0)))] H := hP
  have hD : va_D A [(h, .inr (4, [.null, .null, .null, .null, .int 0, .int 0])), (x0, .inl (cI, 440, .inl (fun _ => 0)))] := hD
  refine va_putF (D := (dC, dI)) (ci := 4) (v := .ref x0) (ty := (.array .int)) (C := "SpaceCycles$Rings") (T := F_Ri) (N := 6) hx hb hts (in_F i_Ri) t_Ri t_Ri_ok n_Ri hown hK hP hD hS 0 rfl rfl 0 (by decide) (hts _ (in_c k_231)) (fun _ h9 => h9) rfl hin rfl (by decide +kernel) rfl rfl (Nat.le_of_ble_eq_true rfl) d_Ri_init_10 (fun H locs hP hD hS => ?_)
  have hP : va_P (dC, dI) vwCl [(h, .inr (4, [.ref x0, .null, .null, .null, .int 0, .int 0])), (x0, .inl (cI, 440, .inl (fun _ => 0)))] H := hP
  have hD : va_D A [(h, .inr (4, [.ref x0, .null, .null, .null, .int 0, .int 0])), (x0, .inl (cI, 440, .inl (fun _ => 0)))] := hD
  refine lv_aload_n hx hb d_Ri_init_13 rfl (lv_at hl 0 rfl) ?_
  refine lv_sipush (v := 440) hx hb d_Ri_init_14 (by decide) ?_
  refine va_newb (t0 := 1) (ty := .boolean) (c0 := cZ) (a0 := (440, .inl (fun _ => 0))) hx hb (hts _ (in_c k_638)) rfl rfl (fun z => z) hK hP hD hS hA (fun _ => rfl) (by decide) (by decide +kernel) (by decide) (Nat.le_of_ble_eq_true rfl) (Nat.le_of_ble_eq_true rfl) d_Ri_init_17 (fun x1 H hP hD hS => ?_)
  refine W.widen (k := 2) (n := 880) (by decide) (by decide) ?_
  have hP : va_P (dC, dI) vwCl [(h, .inr (4, [.ref x0, .null, .null, .null, .int 0, .int 0])), (x0, .inl (cI, 440, .inl (fun _ => 0))), (x1, .inl (cZ, 440, .inl (fun _ => 0)))] H := hP
  have hD : va_D A [(h, .inr (4, [.ref x0, .null, .null, .null, .int 0, .int 0])), (x0, .inl (cI, 440, .inl (fun _ => 0))), (x1, .inl (cZ, 440, .inl (fun _ => 0)))] := hD
  refine va_putF (D := (dC, dI)) (ci := 4) (v := .ref x1) (ty := (.array .boolean)) (C := "SpaceCycles$Rings") (T := F_Ri) (N := 6) hx hb hts (in_F i_Ri) t_Ri t_Ri_ok n_Ri hown hK hP hD hS 0 rfl rfl 1 (by decide) (hts _ (in_c k_230)) (fun _ h9 => h9) rfl hin rfl (by decide +kernel) rfl rfl (Nat.le_of_ble_eq_true rfl) d_Ri_init_19 (fun H locs hP hD hS => ?_)
  have hP : va_P (dC, dI) vwCl [(h, .inr (4, [.ref x0, .ref x1, .null, .null, .int 0, .int 0])), (x0, .inl (cI, 440, .inl (fun _ => 0))), (x1, .inl (cZ, 440, .inl (fun _ => 0)))] H := hP
  have hD : va_D A [(h, .inr (4, [.ref x0, .ref x1, .null, .null, .int 0, .int 0])), (x0, .inl (cI, 440, .inl (fun _ => 0))), (x1, .inl (cZ, 440, .inl (fun _ => 0)))] := hD
  refine lv_aload_n hx hb d_Ri_init_22 rfl (lv_at hl 0 rfl) ?_
  refine lv_sipush (v := 221) hx hb d_Ri_init_23 (by decide) ?_
  refine va_newb (t0 := 0) (ty := .int) (c0 := cI) (a0 := (221, .inl (fun _ => 0))) hx hb (hts _ (in_c k_633)) rfl rfl (fun z => z) hK hP hD hS hA (fun _ => rfl) (by decide) (by decide +kernel) (by decide) (Nat.le_of_ble_eq_true rfl) (Nat.le_of_ble_eq_true rfl) d_Ri_init_26 (fun x2 H hP hD hS => ?_)
  refine W.widen (k := 3) (n := 1101) (by decide) (by decide) ?_
  have hP : va_P (dC, dI) vwCl [(h, .inr (4, [.ref x0, .ref x1, .null, .null, .int 0, .int 0])), (x0, .inl (cI, 440, .inl (fun _ => 0))), (x1, .inl (cZ, 440, .inl (fun _ => 0))), (x2, .inl (cI, 221, .inl (fun _ => 0)))] H := hP
  have hD : va_D A [(h, .inr (4, [.ref x0, .ref x1, .null, .null, .int 0, .int 0])), (x0, .inl (cI, 440, .inl (fun _ => 0))), (x1, .inl (cZ, 440, .inl (fun _ => 0))), (x2, .inl (cI, 221, .inl (fun _ => 0)))] := hD
  refine va_putF (D := (dC, dI)) (ci := 4) (v := .ref x2) (ty := (.array .int)) (C := "SpaceCycles$Rings") (T := F_Ri) (N := 6) hx hb hts (in_F i_Ri) t_Ri t_Ri_ok n_Ri hown hK hP hD hS 0 rfl rfl 2 (by decide) (hts _ (in_c k_227)) (fun _ h9 => h9) rfl hin rfl (by decide +kernel) rfl rfl (Nat.le_of_ble_eq_true rfl) d_Ri_init_28 (fun H locs hP hD hS => ?_)
  have hP : va_P (dC, dI) vwCl [(h, .inr (4, [.ref x0, .ref x1, .ref x2, .null, .int 0, .int 0])), (x0, .inl (cI, 440, .inl (fun _ => 0))), (x1, .inl (cZ, 440, .inl (fun _ => 0))), (x2, .inl (cI, 221, .inl (fun _ => 0)))] H := hP
  have hD : va_D A [(h, .inr (4, [.ref x0, .ref x1, .ref x2, .null, .int 0, .int 0])), (x0, .inl (cI, 440, .inl (fun _ => 0))), (x1, .inl (cZ, 440, .inl (fun _ => 0))), (x2, .inl (cI, 221, .inl (fun _ => 0)))] := hD
  refine lv_aload_n hx hb d_Ri_init_31 rfl (lv_at hl 0 rfl) ?_
  refine lv_sipush (v := 220) hx hb d_Ri_init_32 (by decide) ?_
  refine va_newb (t0 := 0) (ty := .int) (c0 := cI) (a0 := (220, .inl (fun _ => 0))) hx hb (hts _ (in_c k_633)) rfl rfl (fun z => z) hK hP hD hS hA (fun _ => rfl) (by decide) (by decide +kernel) (by decide) (Nat.le_of_ble_eq_true rfl) (Nat.le_of_ble_eq_true rfl) d_Ri_init_35 (fun x3 H hP hD hS => ?_)
  refine W.widen (k := 4) (n := 1321) (by decide) (by decide) ?_
  have hP : va_P (dC, dI) vwCl [(h, .inr (4, [.ref x0, .ref x1, .ref x2, .null, .int 0, .int 0])), (x0, .inl (cI, 440, .inl (fun _ => 0))), (x1, .inl (cZ, 440, .inl (fun _ => 0))), (x2, .inl (cI, 221, .inl (fun _ => 0))), (x3, .inl (cI, 220, .inl (fun _ => 0)))] H := hP
  have hD : va_D A [(h, .inr (4, [.ref x0, .ref x1, .ref x2, .null, .int 0, .int 0])), (x0, .inl (cI, 440, .inl (fun _ => 0))), (x1, .inl (cZ, 440, .inl (fun _ => 0))), (x2, .inl (cI, 221, .inl (fun _ => 0))), (x3, .inl (cI, 220, .inl (fun _ => 0)))] := hD
  refine va_putF (D := (dC, dI)) (ci := 4) (v := .ref x3) (ty := (.array .int)) (C := "SpaceCycles$Rings") (T := F_Ri) (N := 6) hx hb hts (in_F i_Ri) t_Ri t_Ri_ok n_Ri hown hK hP hD hS 0 rfl rfl 3 (by decide) (hts _ (in_c k_221)) (fun _ h9 => h9) rfl hin rfl (by decide +kernel) rfl rfl (Nat.le_of_ble_eq_true rfl) d_Ri_init_37 (fun H locs hP hD hS => ?_)
  have hP : va_P (dC, dI) vwCl [(h, .inr (4, [.ref x0, .ref x1, .ref x2, .ref x3, .int 0, .int 0])), (x0, .inl (cI, 440, .inl (fun _ => 0))), (x1, .inl (cZ, 440, .inl (fun _ => 0))), (x2, .inl (cI, 221, .inl (fun _ => 0))), (x3, .inl (cI, 220, .inl (fun _ => 0)))] H := hP
  have hD : va_D A [(h, .inr (4, [.ref x0, .ref x1, .ref x2, .ref x3, .int 0, .int 0])), (x0, .inl (cI, 440, .inl (fun _ => 0))), (x1, .inl (cZ, 440, .inl (fun _ => 0))), (x2, .inl (cI, 221, .inl (fun _ => 0))), (x3, .inl (cI, 220, .inl (fun _ => 0)))] := hD
  refine lv_aload_n hx hb d_Ri_init_40 rfl (lv_at hl 0 rfl) ?_
  refine lv_iconst (v := 0) hx hb d_Ri_init_41 (by decide) ?_
  refine va_put (D := (dC, dI)) (ci := 4) (v := .int 0) (ty := .int) (C := "SpaceCycles$Rings") (T := F_Ri) (N := 6) hx hb hts (in_F i_Ri) t_Ri t_Ri_ok n_Ri hown hK hP hD hS 0 rfl rfl 4 (by decide) (hts _ (in_c k_222)) (fun _ h9 => h9) rfl (by decide +kernel) rfl rfl (Nat.le_of_ble_eq_true rfl) d_Ri_init_42 (fun H locs hP hD hS => ?_)
  have hP : va_P (dC, dI) vwCl [(h, .inr (4, [.ref x0, .ref x1, .ref x2, .ref x3, .int 0, .int 0])), (x0, .inl (cI, 440, .inl (fun _ => 0))), (x1, .inl (cZ, 440, .inl (fun _ => 0))), (x2, .inl (cI, 221, .inl (fun _ => 0))), (x3, .inl (cI, 220, .inl (fun _ => 0)))] H := hP
  have hD : va_D A [(h, .inr (4, [.ref x0, .ref x1, .ref x2, .ref x3, .int 0, .int 0])), (x0, .inl (cI, 440, .inl (fun _ => 0))), (x1, .inl (cZ, 440, .inl (fun _ => 0))), (x2, .inl (cI, 221, .inl (fun _ => 0))), (x3, .inl (cI, 220, .inl (fun _ => 0)))] := hD
  refine lv_aload_n hx hb d_Ri_init_45 rfl (lv_at hl 0 rfl) ?_
  refine lv_iconst (v := 0) hx hb d_Ri_init_46 (by decide) ?_
  refine va_put (D := (dC, dI)) (ci := 4) (v := .int 0) (ty := .int) (C := "SpaceCycles$Rings") (T := F_Ri) (N := 6) hx hb hts (in_F i_Ri) t_Ri t_Ri_ok n_Ri hown hK hP hD hS 0 rfl rfl 5 (by decide) (hts _ (in_c k_228)) (fun _ h9 => h9) rfl (by decide +kernel) rfl rfl (Nat.le_of_ble_eq_true rfl) d_Ri_init_47 (fun H locs hP hD hS => ?_)
  have hP : va_P (dC, dI) vwCl [(h, .inr (4, [.ref x0, .ref x1, .ref x2, .ref x3, .int 0, .int 0])), (x0, .inl (cI, 440, .inl (fun _ => 0))), (x1, .inl (cZ, 440, .inl (fun _ => 0))), (x2, .inl (cI, 221, .inl (fun _ => 0))), (x3, .inl (cI, 220, .inl (fun _ => 0)))] H := hP
  have hD : va_D A [(h, .inr (4, [.ref x0, .ref x1, .ref x2, .ref x3, .int 0, .int 0])), (x0, .inl (cI, 440, .inl (fun _ => 0))), (x1, .inl (cZ, 440, .inl (fun _ => 0))), (x2, .inl (cI, 221, .inl (fun _ => 0))), (x3, .inl (cI, 220, .inl (fun _ => 0)))] := hD
  have hP9 := hP.sub (ws' := (cw_Ri h x0 x1 x2 x3 cI cZ)) [0, 1, 2, 3, 4] rfl
  have hD9 := hD.sub (ws' := (cw_Ri h x0 x1 x2 x3 cI cZ)) [0, 1, 2, 3, 4] (by decide) rfl
  refine W.widen (k := 4) (n := 1321) (by decide) (by decide) ?_
  exact W.vret hx hb hr (fun t ht hW => ⟨⟨(), rfl, trivial, x0, x1, x2, x3, by rw [ht]; exact hP9, va_K.moved hW.alike hK, hD9⟩, hS.F ht⟩) hS.2.2 d_Ri_init_50

theorem k_639 : ((.methodLink "SpaceCycles$Strips" 3 ⟨"java/lang/Object", "<init>", "()V"⟩) : Cond) ∈ gl := gl_i 207 (by decide +kernel) (by decide +kernel)
-- SpaceCycles$Strips.<init>
abbrev b_St_init : ByteArray := prog_10_method_1_code
abbrev y_St_init : MethodName := ⟨"SpaceCycles$Strips", "<init>", "()V"⟩
abbrev w_St_init : List Cond := Cond.code y_St_init b_St_init 1 none :: gl
abbrev rm_St_init : Room := { frames := 1, cells := 3, slots := 240, locals := 12 }
theorem d_St_init_0 : decode b_St_init 0 = .ok (.aload_n 0, 1) := by decide +kernel
theorem d_St_init_1 : decode b_St_init 1 = .ok (.invokespecial 3, 3) := by decide +kernel
theorem d_St_init_4 : decode b_St_init 4 = .ok (.aload_n 0, 1) := by decide +kernel
theorem d_St_init_5 : decode b_St_init 5 = .ok (.bipush 80, 2) := by decide +kernel
theorem d_St_init_7 : decode b_St_init 7 = .ok (.newarray .int, 2) := by decide +kernel
theorem d_St_init_9 : decode b_St_init 9 = .ok (.putfield 11, 3) := by decide +kernel
theorem d_St_init_12 : decode b_St_init 12 = .ok (.aload_n 0, 1) := by decide +kernel
theorem d_St_init_13 : decode b_St_init 13 = .ok (.bipush 80, 2) := by decide +kernel
theorem d_St_init_15 : decode b_St_init 15 = .ok (.newarray .int, 2) := by decide +kernel
theorem d_St_init_17 : decode b_St_init 17 = .ok (.putfield 15, 3) := by decide +kernel
theorem d_St_init_20 : decode b_St_init 20 = .ok (.aload_n 0, 1) := by decide +kernel
theorem d_St_init_21 : decode b_St_init 21 = .ok (.bipush 80, 2) := by decide +kernel
theorem d_St_init_23 : decode b_St_init 23 = .ok (.newarray .int, 2) := by decide +kernel
theorem d_St_init_25 : decode b_St_init 25 = .ok (.putfield 18, 3) := by decide +kernel
theorem d_St_init_28 : decode b_St_init 28 = .ok (.aload_n 0, 1) := by decide +kernel
theorem d_St_init_29 : decode b_St_init 29 = .ok (.iconst 0, 1) := by decide +kernel
theorem d_St_init_30 : decode b_St_init 30 = .ok (.putfield 21, 3) := by decide +kernel
theorem d_St_init_33 : decode b_St_init 33 = .ok (.return_, 1) := by decide +kernel
abbrev cw_St (h q0 q1 q2 : Nat) (cI cZ : ClassId) : va_W := [(h, .inr (10, [.ref q0, .ref q1, .ref q2, .int 0])), (q0, .inl (cI, 80, .inl (fun _ => 0))), (q1, .inl (cI, 80, .inl (fun _ => 0))), (q2, .inl (cI, 80, .inl (fun _ => 0)))]
set_option maxHeartbeats 4000000 in
set_option maxRecDepth 100000 in
theorem c_St_init (l : Launch) (dC : Nat → ClassId) (dI : Nat → Nat → Nat) {cI cZ cJ : ClassId} (h sz : Nat) : Met l y_St_init w_St_init rm_St_init (PP dC dI [(cI, .int), (cZ, .boolean), (cJ, .long)] [.ref h] sz [(h, .inr (10, [.null, .null, .null, .int 0]))]) (va_Qv (fun (_ : Unit) => True) (fun _ t => ∃ q0 q1 q2 : Nat, BB dC dI [(cI, .int), (cZ, .boolean), (cJ, .long)] (va_A [(h, .inr (10, [.null, .null, .null, .int 0]))] sz) (cw_St h q0 q1 q2 cI cZ) () t) (va_A [(h, .inr (10, [.null, .null, .null, .int 0]))] sz)) 3 240 (va_A [(h, .inr (10, [.null, .null, .null, .int 0]))] sz) := by
  refine Met.ofW (cc := b_St_init) (maxL := 1) (ret := none) (by decide) rfl ?_
  intro p e s m args below meth c s₁ B hml hv
  obtain ⟨rfl, hsz, hP, hK, hD0, hN⟩ := hv
  have hx := B.exec
  have hb := B.bytes
  have hr := B.returns
  have hts := atoms_spec (ws := w_St_init) B.pre
  have hown : s.vm.findClass "SpaceCycles$Strips" = some m.cls := findClass_of_methodNamed B.named
  have hlocks := B.notSynchronized
  have hin : meth.name = "<init>" := (name_of_methodNamed B.named B.method).1
  subst hsz
  have hD := hD0.self (sz := s.heap.size)
  generalize hAe : va_A [(h, .inr (10, [.null, .null, .null, .int 0]))] s.heap.size = A at hD ⊢
  have hA : ∀ q : Nat, s.heap.size ≤ q → A q := fun q h => by rw [← hAe]; exact Or.inr h
  have hS : va_S A s.heap s.heap [] := va_S.rf
  have hl := lv_entry ([.ref h]) (n := 1) (Nat.le_of_ble_eq_true rfl)
  rw [lg_entry_eq]
  generalize (lg_sl ([.ref h]) ++ List.replicate (1 - (lg_sl ([.ref h])).length) Slot.unset).toArray = ls at hl ⊢
  have hl : lv_has ls 1 [(0, .ref h)] := hl
  refine lv_aload_n hx hb d_St_init_0 rfl (lv_at hl 0 rfl) ?_
  refine W.objInit hx hb hown (hts _ (in_c k_639)) (hts _ (in_c k_631)) (hts _ (in_c k_632)) rfl (by rw [hml]; exact hl.1) rfl d_St_init_1 (Nat.le_of_ble_eq_true rfl) (Nat.le_of_ble_eq_true rfl) ?_
  refine W.eq (g2 := F0 m 4 ls []) rfl ?_
  refine lv_aload_n hx hb d_St_init_4 rfl (lv_at hl 0 rfl) ?_
  refine lv_bipush (v := 80) hx hb d_St_init_5 (by decide) ?_
  refine va_newb (t0 := 0) (ty := .int) (c0 := cI) (a0 := (80, .inl (fun _ => 0))) hx hb (hts _ (in_c k_633)) rfl rfl (fun z => z) hK hP hD hS hA (fun _ => rfl) (by decide) (by decide +kernel) (by decide) (Nat.le_of_ble_eq_true rfl) (Nat.le_of_ble_eq_true rfl) d_St_init_7 (fun x0 H hP hD hS => ?_)
  refine W.widen (k := 1) (n := 80) (by decide) (by decide) ?_
  have hP : va_P (dC, dI) vwCl [(h, .inr (10, [.null, .null, .null, .int 0])), (x0, .inl (cI, 80, .inl (fun _ => 0)))] H := hP
  have hD : va_D A [(h, .inr (10, [.null, .null, .null, .int 0])), (x0, .inl (cI, 80, .inl (fun _ => 0)))] := hD
  refine va_putF (D := (dC, dI)) (ci := 10) (v := .ref x0) (ty := (.array .int)) (C := "SpaceCycles$Strips") (T := F_St) (N := 4) hx hb hts (in_F i_St) t_St t_St_ok n_St hown hK hP hD hS 0 rfl rfl 0 (by decide) (hts _ (in_c k_37)) (fun _ h9 => h9) rfl hin rfl (by decide +kernel) rfl rfl (Nat.le_of_ble_eq_true rfl) d_St_init_9 (fun H locs hP hD hS => ?_)
  have hP : va_P (dC, dI) vwCl [(h, .inr (10, [.ref x0, .null, .null, .int 0])), (x0, .inl (cI, 80, .inl (fun _ => 0)))] H := hP
  have hD : va_D A [(h, .inr (10, [.ref x0, .null, .null, .int 0])), (x0, .inl (cI, 80, .inl (fun _ => 0)))] := hD
  refine lv_aload_n hx hb d_St_init_12 rfl (lv_at hl 0 rfl) ?_
  refine lv_bipush (v := 80) hx hb d_St_init_13 (by decide) ?_
  refine va_newb (t0 := 0) (ty := .int) (c0 := cI) (a0 := (80, .inl (fun _ => 0))) hx hb (hts _ (in_c k_633)) rfl rfl (fun z => z) hK hP hD hS hA (fun _ => rfl) (by decide) (by decide +kernel) (by decide) (Nat.le_of_ble_eq_true rfl) (Nat.le_of_ble_eq_true rfl) d_St_init_15 (fun x1 H hP hD hS => ?_)
  refine W.widen (k := 2) (n := 160) (by decide) (by decide) ?_
  have hP : va_P (dC, dI) vwCl [(h, .inr (10, [.ref x0, .null, .null, .int 0])), (x0, .inl (cI, 80, .inl (fun _ => 0))), (x1, .inl (cI, 80, .inl (fun _ => 0)))] H := hP
  have hD : va_D A [(h, .inr (10, [.ref x0, .null, .null, .int 0])), (x0, .inl (cI, 80, .inl (fun _ => 0))), (x1, .inl (cI, 80, .inl (fun _ => 0)))] := hD
  refine va_putF (D := (dC, dI)) (ci := 10) (v := .ref x1) (ty := (.array .int)) (C := "SpaceCycles$Strips") (T := F_St) (N := 4) hx hb hts (in_F i_St) t_St t_St_ok n_St hown hK hP hD hS 0 rfl rfl 1 (by decide) (hts _ (in_c k_38)) (fun _ h9 => h9) rfl hin rfl (by decide +kernel) rfl rfl (Nat.le_of_ble_eq_true rfl) d_St_init_17 (fun H locs hP hD hS => ?_)
  have hP : va_P (dC, dI) vwCl [(h, .inr (10, [.ref x0, .ref x1, .null, .int 0])), (x0, .inl (cI, 80, .inl (fun _ => 0))), (x1, .inl (cI, 80, .inl (fun _ => 0)))] H := hP
  have hD : va_D A [(h, .inr (10, [.ref x0, .ref x1, .null, .int 0])), (x0, .inl (cI, 80, .inl (fun _ => 0))), (x1, .inl (cI, 80, .inl (fun _ => 0)))] := hD
  refine lv_aload_n hx hb d_St_init_20 rfl (lv_at hl 0 rfl) ?_
  refine lv_bipush (v := 80) hx hb d_St_init_21 (by decide) ?_
  refine va_newb (t0 := 0) (ty := .int) (c0 := cI) (a0 := (80, .inl (fun _ => 0))) hx hb (hts _ (in_c k_633)) rfl rfl (fun z => z) hK hP hD hS hA (fun _ => rfl) (by decide) (by decide +kernel) (by decide) (Nat.le_of_ble_eq_true rfl) (Nat.le_of_ble_eq_true rfl) d_St_init_23 (fun x2 H hP hD hS => ?_)
  refine W.widen (k := 3) (n := 240) (by decide) (by decide) ?_
  have hP : va_P (dC, dI) vwCl [(h, .inr (10, [.ref x0, .ref x1, .null, .int 0])), (x0, .inl (cI, 80, .inl (fun _ => 0))), (x1, .inl (cI, 80, .inl (fun _ => 0))), (x2, .inl (cI, 80, .inl (fun _ => 0)))] H := hP
  have hD : va_D A [(h, .inr (10, [.ref x0, .ref x1, .null, .int 0])), (x0, .inl (cI, 80, .inl (fun _ => 0))), (x1, .inl (cI, 80, .inl (fun _ => 0))), (x2, .inl (cI, 80, .inl (fun _ => 0)))] := hD
  refine va_putF (D := (dC, dI)) (ci := 10) (v := .ref x2) (ty := (.array .int)) (C := "SpaceCycles$Strips") (T := F_St) (N := 4) hx hb hts (in_F i_St) t_St t_St_ok n_St hown hK hP hD hS 0 rfl rfl 2 (by decide) (hts _ (in_c k_39)) (fun _ h9 => h9) rfl hin rfl (by decide +kernel) rfl rfl (Nat.le_of_ble_eq_true rfl) d_St_init_25 (fun H locs hP hD hS => ?_)
  have hP : va_P (dC, dI) vwCl [(h, .inr (10, [.ref x0, .ref x1, .ref x2, .int 0])), (x0, .inl (cI, 80, .inl (fun _ => 0))), (x1, .inl (cI, 80, .inl (fun _ => 0))), (x2, .inl (cI, 80, .inl (fun _ => 0)))] H := hP
  have hD : va_D A [(h, .inr (10, [.ref x0, .ref x1, .ref x2, .int 0])), (x0, .inl (cI, 80, .inl (fun _ => 0))), (x1, .inl (cI, 80, .inl (fun _ => 0))), (x2, .inl (cI, 80, .inl (fun _ => 0)))] := hD
  refine lv_aload_n hx hb d_St_init_28 rfl (lv_at hl 0 rfl) ?_
  refine lv_iconst (v := 0) hx hb d_St_init_29 (by decide) ?_
  refine va_put (D := (dC, dI)) (ci := 10) (v := .int 0) (ty := .int) (C := "SpaceCycles$Strips") (T := F_St) (N := 4) hx hb hts (in_F i_St) t_St t_St_ok n_St hown hK hP hD hS 0 rfl rfl 3 (by decide) (hts _ (in_c k_32)) (fun _ h9 => h9) rfl (by decide +kernel) rfl rfl (Nat.le_of_ble_eq_true rfl) d_St_init_30 (fun H locs hP hD hS => ?_)
  have hP : va_P (dC, dI) vwCl [(h, .inr (10, [.ref x0, .ref x1, .ref x2, .int 0])), (x0, .inl (cI, 80, .inl (fun _ => 0))), (x1, .inl (cI, 80, .inl (fun _ => 0))), (x2, .inl (cI, 80, .inl (fun _ => 0)))] H := hP
  have hD : va_D A [(h, .inr (10, [.ref x0, .ref x1, .ref x2, .int 0])), (x0, .inl (cI, 80, .inl (fun _ => 0))), (x1, .inl (cI, 80, .inl (fun _ => 0))), (x2, .inl (cI, 80, .inl (fun _ => 0)))] := hD
  have hP9 := hP.sub (ws' := (cw_St h x0 x1 x2 cI cZ)) [0, 1, 2, 3] rfl
  have hD9 := hD.sub (ws' := (cw_St h x0 x1 x2 cI cZ)) [0, 1, 2, 3] (by decide) rfl
  refine W.widen (k := 3) (n := 240) (by decide) (by decide) ?_
  exact W.vret hx hb hr (fun t ht hW => ⟨⟨(), rfl, trivial, x0, x1, x2, by rw [ht]; exact hP9, va_K.moved hW.alike hK, hD9⟩, hS.F ht⟩) hS.2.2 d_St_init_33

theorem k_640 : ((.methodLink "SpaceCycles$Common" 3 ⟨"java/lang/Object", "<init>", "()V"⟩) : Cond) ∈ gl := gl_i 201 (by decide +kernel) (by decide +kernel)
theorem k_641 : ((.classLink "SpaceCycles$Common" 9 "SpaceCycles$Strips") : Cond) ∈ gl := gl_i 202 (by decide +kernel) (by decide +kernel)
theorem k_642 : ((.instantiable "SpaceCycles$Strips" 4) : Cond) ∈ gl := gl_i 203 (by decide +kernel) (by decide +kernel)
theorem k_643 : ((.code ⟨"SpaceCycles$Strips", "<init>", "()V"⟩ prog_10_method_1_code 1 none) : Cond) ∈ gl := gl_i 206 (by decide +kernel) (by decide +kernel)
theorem k_644 : ((.instanceMethod ⟨"SpaceCycles$Strips", "<init>", "()V"⟩) : Cond) ∈ gl := gl_i 205 (by decide +kernel) (by decide +kernel)
-- SpaceCycles$Common.<init>
abbrev b_Co_init : ByteArray := prog_2_method_1_code
abbrev y_Co_init : MethodName := ⟨"SpaceCycles$Common", "<init>", "()V"⟩
abbrev w_Co_init : List Cond := Cond.code y_Co_init b_Co_init 1 none :: gl
abbrev rm_Co_init : Room := { frames := 2, cells := 9, slots := 7049, locals := 32 }
theorem d_Co_init_0 : decode b_Co_init 0 = .ok (.aload_n 0, 1) := by decide +kernel
theorem d_Co_init_1 : decode b_Co_init 1 = .ok (.invokespecial 3, 3) := by decide +kernel
theorem d_Co_init_4 : decode b_Co_init 4 = .ok (.aload_n 0, 1) := by decide +kernel
theorem d_Co_init_5 : decode b_Co_init 5 = .ok (.new 9, 3) := by decide +kernel
theorem d_Co_init_8 : decode b_Co_init 8 = .ok (.dup, 1) := by decide +kernel
theorem d_Co_init_9 : decode b_Co_init 9 = .ok (.invokespecial 11, 3) := by decide +kernel
theorem d_Co_init_12 : decode b_Co_init 12 = .ok (.putfield 12, 3) := by decide +kernel
theorem d_Co_init_15 : decode b_Co_init 15 = .ok (.aload_n 0, 1) := by decide +kernel
theorem d_Co_init_16 : decode b_Co_init 16 = .ok (.new 9, 3) := by decide +kernel
theorem d_Co_init_19 : decode b_Co_init 19 = .ok (.dup, 1) := by decide +kernel
theorem d_Co_init_20 : decode b_Co_init 20 = .ok (.invokespecial 11, 3) := by decide +kernel
theorem d_Co_init_23 : decode b_Co_init 23 = .ok (.putfield 18, 3) := by decide +kernel
theorem d_Co_init_26 : decode b_Co_init 26 = .ok (.aload_n 0, 1) := by decide +kernel
theorem d_Co_init_27 : decode b_Co_init 27 = .ok (.sipush 6561, 3) := by decide +kernel
theorem d_Co_init_30 : decode b_Co_init 30 = .ok (.newarray .int, 2) := by decide +kernel
theorem d_Co_init_32 : decode b_Co_init 32 = .ok (.putfield 21, 3) := by decide +kernel
theorem d_Co_init_35 : decode b_Co_init 35 = .ok (.aload_n 0, 1) := by decide +kernel
theorem d_Co_init_36 : decode b_Co_init 36 = .ok (.iconst 0, 1) := by decide +kernel
theorem d_Co_init_37 : decode b_Co_init 37 = .ok (.putfield 25, 3) := by decide +kernel
theorem d_Co_init_40 : decode b_Co_init 40 = .ok (.return_, 1) := by decide +kernel
abbrev cw_Co (h q0 q1 q2 q3 q4 q5 q6 q7 q8 : Nat) (cI cZ : ClassId) : va_W := [(h, .inr (5, [.ref q0, .ref q4, .ref q8, .int 0])), (q0, .inr (10, [.ref q1, .ref q2, .ref q3, .int 0])), (q1, .inl (cI, 80, .inl (fun _ => 0))), (q2, .inl (cI, 80, .inl (fun _ => 0))), (q3, .inl (cI, 80, .inl (fun _ => 0))), (q4, .inr (10, [.ref q5, .ref q6, .ref q7, .int 0])), (q5, .inl (cI, 80, .inl (fun _ => 0))), (q6, .inl (cI, 80, .inl (fun _ => 0))), (q7, .inl (cI, 80, .inl (fun _ => 0))), (q8, .inl (cI, 6561, .inl (fun _ => 0)))]
set_option maxHeartbeats 4000000 in
set_option maxRecDepth 100000 in
theorem c_Co_init (l : Launch) (dC : Nat → ClassId) (dI : Nat → Nat → Nat) {cI cZ cJ : ClassId} (h sz : Nat) : Met l y_Co_init w_Co_init rm_Co_init (PP dC dI [(cI, .int), (cZ, .boolean), (cJ, .long)] [.ref h] sz [(h, .inr (5, [.null, .null, .null, .int 0]))]) (va_Qv (fun (_ : Unit) => True) (fun _ t => ∃ q0 q1 q2 q3 q4 q5 q6 q7 q8 : Nat, BB dC dI [(cI, .int), (cZ, .boolean), (cJ, .long)] (va_A [(h, .inr (5, [.null, .null, .null, .int 0]))] sz) (cw_Co h q0 q1 q2 q3 q4 q5 q6 q7 q8 cI cZ) () t) (va_A [(h, .inr (5, [.null, .null, .null, .int 0]))] sz)) 9 7049 (va_A [(h, .inr (5, [.null, .null, .null, .int 0]))] sz) := by
  refine Met.ofW (cc := b_Co_init) (maxL := 1) (ret := none) (by decide) rfl ?_
  intro p e s m args below meth c s₁ B hml hv
  obtain ⟨rfl, hsz, hP, hK, hD0, hN⟩ := hv
  have hx := B.exec
  have hb := B.bytes
  have hr := B.returns
  have hts := atoms_spec (ws := w_Co_init) B.pre
  have hown : s.vm.findClass "SpaceCycles$Common" = some m.cls := findClass_of_methodNamed B.named
  have hlocks := B.notSynchronized
  have hin : meth.name = "<init>" := (name_of_methodNamed B.named B.method).1
  subst hsz
  have hD := hD0.self (sz := s.heap.size)
  generalize hAe : va_A [(h, .inr (5, [.null, .null, .null, .int 0]))] s.heap.size = A at hD ⊢
  have hA : ∀ q : Nat, s.heap.size ≤ q → A q := fun q h => by rw [← hAe]; exact Or.inr h
  have hS : va_S A s.heap s.heap [] := va_S.rf
  have hl := lv_entry ([.ref h]) (n := 1) (Nat.le_of_ble_eq_true rfl)
  rw [lg_entry_eq]
  generalize (lg_sl ([.ref h]) ++ List.replicate (1 - (lg_sl ([.ref h])).length) Slot.unset).toArray = ls at hl ⊢
  have hl : lv_has ls 1 [(0, .ref h)] := hl
  refine lv_aload_n hx hb d_Co_init_0 rfl (lv_at hl 0 rfl) ?_
  refine W.objInit hx hb hown (hts _ (in_c k_640)) (hts _ (in_c k_631)) (hts _ (in_c k_632)) rfl (by rw [hml]; exact hl.1) rfl d_Co_init_1 (Nat.le_of_ble_eq_true rfl) (Nat.le_of_ble_eq_true rfl) ?_
  refine W.eq (g2 := F0 m 4 ls []) rfl ?_
  refine lv_aload_n hx hb d_Co_init_4 rfl (lv_at hl 0 rfl) ?_
  refine va_new (ci := 10) (fs := [.null, .null, .null, .int 0]) (C := "SpaceCycles$Strips") (T := F_St) (N := 4) hx hb hts (in_F i_St) t_St t_St_ok hown (hts _ (in_c k_641)) (hts _ (in_c k_642)) (hts _ (in_c k_69)) hK hP hD hS hA rfl (fun j hj => by rcases (show j = 0 ∨ j = 1 ∨ j = 2 ∨ j = 3 by omega) with rfl | rfl | rfl | rfl <;> rfl) (Nat.le_of_ble_eq_true rfl) (Nat.le_of_ble_eq_true rfl) d_Co_init_5 (fun x0 H hP hD hS => ?_)
  refine W.widen (k := 1) (n := 4) (by decide) (by decide) ?_
  have hP : va_P (dC, dI) vwCl [(h, .inr (5, [.null, .null, .null, .int 0])), (x0, .inr (10, [.null, .null, .null, .int 0]))] H := hP
  have hD : va_D A [(h, .inr (5, [.null, .null, .null, .int 0])), (x0, .inr (10, [.null, .null, .null, .int 0]))] := hD
  refine lv_dup hx hb d_Co_init_8 rfl ?_
  have hPc := hP.sub (ws' := [(x0, .inr (10, [.null, .null, .null, .int 0]))]) [1] rfl
  have hDc := hD.sub (ws' := [(x0, .inr (10, [.null, .null, .null, .int 0]))]) [1] (by decide) rfl
  have hFc := va_free (wc := [(x0, .inr (10, [.null, .null, .null, .int 0]))]) hD hS hA [1] rfl
  refine va_callv (va_runIN (As := []) (rest := [.ref x0, .ref h]) ⟨hx, hb, hml, hown, hts⟩ (c_St_init l dC dI (cI := cI) (cZ := cZ) (cJ := cJ) x0 H.size) ⟨va_cnB 0 hts (gl_C k_643) rfl rfl rfl (hN _ (List.mem_of_getElem? (i := 5) rfl)) (hts _ (in_c k_69)) (by decide +kernel) ⟨Nat.le_of_ble_eq_true rfl, Nat.le_of_ble_eq_true rfl⟩, rfl, (hts _ (in_c k_644))⟩ ⟨PP_blind, fun U hU hW => PP_at hK hN hPc hDc hU hW⟩ rfl rfl hl.1 rfl (lv_room (Nat.le_of_ble_eq_true rfl)) d_Co_init_9 ⟨Nat.le_of_ble_eq_true rfl, Nat.le_of_ble_eq_true rfl⟩) hS (fun q _ h => hFc q h) hFc (fun u t H1 locs ht hvm hw hB hz1 hk1 hS => ?_)
  obtain ⟨x1, x2, x3, hP1, hK1, hD1⟩ := hB
  rw [ht] at hP1
  obtain ⟨hP, hD⟩ := va_join (wr := (pk [(h, .inr (5, [.null,.null,.null,.int 0])), (x0, .inr (10, [.null, .null, .null, .int 0]))] [0])) (w1 := cw_St x0 x1 x2 x3 cI cZ) hP hD [1] [0] rfl rfl (by decide) (by decide) hk1 hFc hP1 hD1
  generalize H1 = H at hP hS ⊢
  refine W.widen (k := 4) (n := 244) (by decide) (by decide) ?_
  have hP : va_P (dC, dI) vwCl [(h, .inr (5, [.null, .null, .null, .int 0])), (x0, .inr (10, [.ref x1, .ref x2, .ref x3, .int 0])), (x1, .inl (cI, 80, .inl (fun _ => 0))), (x2, .inl (cI, 80, .inl (fun _ => 0))), (x3, .inl (cI, 80, .inl (fun _ => 0)))] H := hP
  have hD : va_D A [(h, .inr (5, [.null, .null, .null, .int 0])), (x0, .inr (10, [.ref x1, .ref x2, .ref x3, .int 0])), (x1, .inl (cI, 80, .inl (fun _ => 0))), (x2, .inl (cI, 80, .inl (fun _ => 0))), (x3, .inl (cI, 80, .inl (fun _ => 0)))] := hD
  refine va_putF (D := (dC, dI)) (ci := 5) (v := .ref x0) (ty := (.object "SpaceCycles$Strips")) (C := "SpaceCycles$Common") (T := F_Co) (N := 4) hx hb hts (in_F i_Co) t_Co t_Co_ok n_Co hown hK hP hD hS 0 rfl rfl 0 (by decide) (hts _ (in_c k_64)) (fun _ h9 => h9) rfl hin rfl (by decide +kernel) rfl rfl (Nat.le_of_ble_eq_true rfl) d_Co_init_12 (fun H locs hP hD hS => ?_)
  have hP : va_P (dC, dI) vwCl [(h, .inr (5, [.ref x0, .null, .null, .int 0])), (x0, .inr (10, [.ref x1, .ref x2, .ref x3, .int 0])), (x1, .inl (cI, 80, .inl (fun _ => 0))), (x2, .inl (cI, 80, .inl (fun _ => 0))), (x3, .inl (cI, 80, .inl (fun _ => 0)))] H := hP
  have hD : va_D A [(h, .inr (5, [.ref x0, .null, .null, .int 0])), (x0, .inr (10, [.ref x1, .ref x2, .ref x3, .int 0])), (x1, .inl (cI, 80, .inl (fun _ => 0))), (x2, .inl (cI, 80, .inl (fun _ => 0))), (x3, .inl (cI, 80, .inl (fun _ => 0)))] := hD
  refine lv_aload_n hx hb d_Co_init_15 rfl (lv_at hl 0 rfl) ?_
  refine va_new (ci := 10) (fs := [.null, .null, .null, .int 0]) (C := "SpaceCycles$Strips") (T := F_St) (N := 4) hx hb hts (in_F i_St) t_St t_St_ok hown (hts _ (in_c k_641)) (hts _ (in_c k_642)) (hts _ (in_c k_69)) hK hP hD hS hA rfl (fun j hj => by rcases (show j = 0 ∨ j = 1 ∨ j = 2 ∨ j = 3 by omega) with rfl | rfl | rfl | rfl <;> rfl) (Nat.le_of_ble_eq_true rfl) (Nat.le_of_ble_eq_true rfl) d_Co_init_16 (fun x4 H hP hD hS => ?_)
  refine W.widen (k := 5) (n := 248) (by decide) (by decide) ?_
  have hP : va_P (dC, dI) vwCl [(h, .inr (5, [.ref x0, .null, .null, .int 0])), (x0, .inr (10, [.ref x1, .ref x2, .ref x3, .int 0])), (x1, .inl (cI, 80, .inl (fun _ => 0))), (x2, .inl (cI, 80, .inl (fun _ => 0))), (x3, .inl (cI, 80, .inl (fun _ => 0))), (x4, .inr (10, [.null, .null, .null, .int 0]))] H := hP
  have hD : va_D A [(h, .inr (5, [.ref x0, .null, .null, .int 0])), (x0, .inr (10, [.ref x1, .ref x2, .ref x3, .int 0])), (x1, .inl (cI, 80, .inl (fun _ => 0))), (x2, .inl (cI, 80, .inl (fun _ => 0))), (x3, .inl (cI, 80, .inl (fun _ => 0))), (x4, .inr (10, [.null, .null, .null, .int 0]))] := hD
  refine lv_dup hx hb d_Co_init_19 rfl ?_
  have hPc := hP.sub (ws' := [(x4, .inr (10, [.null, .null, .null, .int 0]))]) [5] rfl
  have hDc := hD.sub (ws' := [(x4, .inr (10, [.null, .null, .null, .int 0]))]) [5] (by decide) rfl
  have hFc := va_free (wc := [(x4, .inr (10, [.null, .null, .null, .int 0]))]) hD hS hA [5] rfl
  refine va_callv (va_runIN (As := []) (rest := [.ref x4, .ref h]) ⟨hx, hb, hml, hown, hts⟩ (c_St_init l dC dI (cI := cI) (cZ := cZ) (cJ := cJ) x4 H.size) ⟨va_cnB 0 hts (gl_C k_643) rfl rfl rfl (hN _ (List.mem_of_getElem? (i := 5) rfl)) (hts _ (in_c k_69)) (by decide +kernel) ⟨Nat.le_of_ble_eq_true rfl, Nat.le_of_ble_eq_true rfl⟩, rfl, (hts _ (in_c k_644))⟩ ⟨PP_blind, fun U hU hW => PP_at hK hN hPc hDc hU hW⟩ rfl rfl hl.1 rfl (lv_room (Nat.le_of_ble_eq_true rfl)) d_Co_init_20 ⟨Nat.le_of_ble_eq_true rfl, Nat.le_of_ble_eq_true rfl⟩) hS (fun q _ h => hFc q h) hFc (fun u t H1 locs ht hvm hw hB hz1 hk1 hS => ?_)
  obtain ⟨x5, x6, x7, hP1, hK1, hD1⟩ := hB
  rw [ht] at hP1
  obtain ⟨hP, hD⟩ := va_join (wr := (pk [(h, .inr (5, [.ref x0,.null,.null,.int 0])), (x0, .inr (10, [.ref x1, .ref x2, .ref x3, .int 0])), (x1, .inl (cI, 80, .inl (fun _ => 0))), (x2, .inl (cI, 80, .inl (fun _ => 0))), (x3, .inl (cI, 80, .inl (fun _ => 0))), (x4, .inr (10, [.null, .null, .null, .int 0]))] [0, 1, 2, 3, 4])) (w1 := cw_St x4 x5 x6 x7 cI cZ) hP hD [5] [0, 1, 2, 3, 4] rfl rfl (by decide) (by decide) hk1 hFc hP1 hD1
  generalize H1 = H at hP hS ⊢
  refine W.widen (k := 8) (n := 488) (by decide) (by decide) ?_
  have hP : va_P (dC, dI) vwCl [(h, .inr (5, [.ref x0, .null, .null, .int 0])), (x0, .inr (10, [.ref x1, .ref x2, .ref x3, .int 0])), (x1, .inl (cI, 80, .inl (fun _ => 0))), (x2, .inl (cI, 80, .inl (fun _ => 0))), (x3, .inl (cI, 80, .inl (fun _ => 0))), (x4, .inr (10, [.ref x5, .ref x6, .ref x7, .int 0])), (x5, .inl (cI, 80, .inl (fun _ => 0))), (x6, .inl (cI, 80, .inl (fun _ => 0))), (x7, .inl (cI, 80, .inl (fun _ => 0)))] H := hP
  have hD : va_D A [(h, .inr (5, [.ref x0, .null, .null, .int 0])), (x0, .inr (10, [.ref x1, .ref x2, .ref x3, .int 0])), (x1, .inl (cI, 80, .inl (fun _ => 0))), (x2, .inl (cI, 80, .inl (fun _ => 0))), (x3, .inl (cI, 80, .inl (fun _ => 0))), (x4, .inr (10, [.ref x5, .ref x6, .ref x7, .int 0])), (x5, .inl (cI, 80, .inl (fun _ => 0))), (x6, .inl (cI, 80, .inl (fun _ => 0))), (x7, .inl (cI, 80, .inl (fun _ => 0)))] := hD
  refine va_putF (D := (dC, dI)) (ci := 5) (v := .ref x4) (ty := (.object "SpaceCycles$Strips")) (C := "SpaceCycles$Common") (T := F_Co) (N := 4) hx hb hts (in_F i_Co) t_Co t_Co_ok n_Co hown hK hP hD hS 0 rfl rfl 1 (by decide) (hts _ (in_c k_71)) (fun _ h9 => h9) rfl hin rfl (by decide +kernel) rfl rfl (Nat.le_of_ble_eq_true rfl) d_Co_init_23 (fun H locs hP hD hS => ?_)
  have hP : va_P (dC, dI) vwCl [(h, .inr (5, [.ref x0, .ref x4, .null, .int 0])), (x0, .inr (10, [.ref x1, .ref x2, .ref x3, .int 0])), (x1, .inl (cI, 80, .inl (fun _ => 0))), (x2, .inl (cI, 80, .inl (fun _ => 0))), (x3, .inl (cI, 80, .inl (fun _ => 0))), (x4, .inr (10, [.ref x5, .ref x6, .ref x7, .int 0])), (x5, .inl (cI, 80, .inl (fun _ => 0))), (x6, .inl (cI, 80, .inl (fun _ => 0))), (x7, .inl (cI, 80, .inl (fun _ => 0)))] H := hP
  have hD : va_D A [(h, .inr (5, [.ref x0, .ref x4, .null, .int 0])), (x0, .inr (10, [.ref x1, .ref x2, .ref x3, .int 0])), (x1, .inl (cI, 80, .inl (fun _ => 0))), (x2, .inl (cI, 80, .inl (fun _ => 0))), (x3, .inl (cI, 80, .inl (fun _ => 0))), (x4, .inr (10, [.ref x5, .ref x6, .ref x7, .int 0])), (x5, .inl (cI, 80, .inl (fun _ => 0))), (x6, .inl (cI, 80, .inl (fun _ => 0))), (x7, .inl (cI, 80, .inl (fun _ => 0)))] := hD
  refine lv_aload_n hx hb d_Co_init_26 rfl (lv_at hl 0 rfl) ?_
  refine lv_sipush (v := 6561) hx hb d_Co_init_27 (by decide) ?_
  refine va_newb (t0 := 0) (ty := .int) (c0 := cI) (a0 := (6561, .inl (fun _ => 0))) hx hb (hts _ (in_c k_633)) rfl rfl (fun z => z) hK hP hD hS hA (fun _ => rfl) (by decide) (by decide +kernel) (by decide) (Nat.le_of_ble_eq_true rfl) (Nat.le_of_ble_eq_true rfl) d_Co_init_30 (fun x8 H hP hD hS => ?_)
  refine W.widen (k := 9) (n := 7049) (by decide) (by decide) ?_
  have hP : va_P (dC, dI) vwCl [(h, .inr (5, [.ref x0, .ref x4, .null, .int 0])), (x0, .inr (10, [.ref x1, .ref x2, .ref x3, .int 0])), (x1, .inl (cI, 80, .inl (fun _ => 0))), (x2, .inl (cI, 80, .inl (fun _ => 0))), (x3, .inl (cI, 80, .inl (fun _ => 0))), (x4, .inr (10, [.ref x5, .ref x6, .ref x7, .int 0])), (x5, .inl (cI, 80, .inl (fun _ => 0))), (x6, .inl (cI, 80, .inl (fun _ => 0))), (x7, .inl (cI, 80, .inl (fun _ => 0))), (x8, .inl (cI, 6561, .inl (fun _ => 0)))] H := hP
  have hD : va_D A [(h, .inr (5, [.ref x0, .ref x4, .null, .int 0])), (x0, .inr (10, [.ref x1, .ref x2, .ref x3, .int 0])), (x1, .inl (cI, 80, .inl (fun _ => 0))), (x2, .inl (cI, 80, .inl (fun _ => 0))), (x3, .inl (cI, 80, .inl (fun _ => 0))), (x4, .inr (10, [.ref x5, .ref x6, .ref x7, .int 0])), (x5, .inl (cI, 80, .inl (fun _ => 0))), (x6, .inl (cI, 80, .inl (fun _ => 0))), (x7, .inl (cI, 80, .inl (fun _ => 0))), (x8, .inl (cI, 6561, .inl (fun _ => 0)))] := hD
  refine va_putF (D := (dC, dI)) (ci := 5) (v := .ref x8) (ty := (.array .int)) (C := "SpaceCycles$Common") (T := F_Co) (N := 4) hx hb hts (in_F i_Co) t_Co t_Co_ok n_Co hown hK hP hD hS 0 rfl rfl 2 (by decide) (hts _ (in_c k_59)) (fun _ h9 => h9) rfl hin rfl (by decide +kernel) rfl rfl (Nat.le_of_ble_eq_true rfl) d_Co_init_32 (fun H locs hP hD hS => ?_)
  have hP : va_P (dC, dI) vwCl [(h, .inr (5, [.ref x0, .ref x4, .ref x8, .int 0])), (x0, .inr (10, [.ref x1, .ref x2, .ref x3, .int 0])), (x1, .inl (cI, 80, .inl (fun _ => 0))), (x2, .inl (cI, 80, .inl (fun _ => 0))), (x3, .inl (cI, 80, .inl (fun _ => 0))), (x4, .inr (10, [.ref x5, .ref x6, .ref x7, .int 0])), (x5, .inl (cI, 80, .inl (fun _ => 0))), (x6, .inl (cI, 80, .inl (fun _ => 0))), (x7, .inl (cI, 80, .inl (fun _ => 0))), (x8, .inl (cI, 6561, .inl (fun _ => 0)))] H := hP
  have hD : va_D A [(h, .inr (5, [.ref x0, .ref x4, .ref x8, .int 0])), (x0, .inr (10, [.ref x1, .ref x2, .ref x3, .int 0])), (x1, .inl (cI, 80, .inl (fun _ => 0))), (x2, .inl (cI, 80, .inl (fun _ => 0))), (x3, .inl (cI, 80, .inl (fun _ => 0))), (x4, .inr (10, [.ref x5, .ref x6, .ref x7, .int 0])), (x5, .inl (cI, 80, .inl (fun _ => 0))), (x6, .inl (cI, 80, .inl (fun _ => 0))), (x7, .inl (cI, 80, .inl (fun _ => 0))), (x8, .inl (cI, 6561, .inl (fun _ => 0)))] := hD
  refine lv_aload_n hx hb d_Co_init_35 rfl (lv_at hl 0 rfl) ?_
  refine lv_iconst (v := 0) hx hb d_Co_init_36 (by decide) ?_
  refine va_put (D := (dC, dI)) (ci := 5) (v := .int 0) (ty := .boolean) (C := "SpaceCycles$Common") (T := F_Co) (N := 4) hx hb hts (in_F i_Co) t_Co t_Co_ok n_Co hown hK hP hD hS 0 rfl rfl 3 (by decide) (hts _ (in_c k_58)) (fun _ h9 => h9) rfl (by decide +kernel) rfl rfl (Nat.le_of_ble_eq_true rfl) d_Co_init_37 (fun H locs hP hD hS => ?_)
  have hP : va_P (dC, dI) vwCl [(h, .inr (5, [.ref x0, .ref x4, .ref x8, .int 0])), (x0, .inr (10, [.ref x1, .ref x2, .ref x3, .int 0])), (x1, .inl (cI, 80, .inl (fun _ => 0))), (x2, .inl (cI, 80, .inl (fun _ => 0))), (x3, .inl (cI, 80, .inl (fun _ => 0))), (x4, .inr (10, [.ref x5, .ref x6, .ref x7, .int 0])), (x5, .inl (cI, 80, .inl (fun _ => 0))), (x6, .inl (cI, 80, .inl (fun _ => 0))), (x7, .inl (cI, 80, .inl (fun _ => 0))), (x8, .inl (cI, 6561, .inl (fun _ => 0)))] H := hP
  have hD : va_D A [(h, .inr (5, [.ref x0, .ref x4, .ref x8, .int 0])), (x0, .inr (10, [.ref x1, .ref x2, .ref x3, .int 0])), (x1, .inl (cI, 80, .inl (fun _ => 0))), (x2, .inl (cI, 80, .inl (fun _ => 0))), (x3, .inl (cI, 80, .inl (fun _ => 0))), (x4, .inr (10, [.ref x5, .ref x6, .ref x7, .int 0])), (x5, .inl (cI, 80, .inl (fun _ => 0))), (x6, .inl (cI, 80, .inl (fun _ => 0))), (x7, .inl (cI, 80, .inl (fun _ => 0))), (x8, .inl (cI, 6561, .inl (fun _ => 0)))] := hD
  have hP9 := hP.sub (ws' := (cw_Co h x0 x1 x2 x3 x4 x5 x6 x7 x8 cI cZ)) [0, 1, 2, 3, 4, 5, 6, 7, 8, 9] rfl
  have hD9 := hD.sub (ws' := (cw_Co h x0 x1 x2 x3 x4 x5 x6 x7 x8 cI cZ)) [0, 1, 2, 3, 4, 5, 6, 7, 8, 9] (by decide) rfl
  refine W.widen (k := 9) (n := 7049) (by decide) (by decide) ?_
  exact W.vret hx hb hr (fun t ht hW => ⟨⟨(), rfl, trivial, x0, x1, x2, x3, x4, x5, x6, x7, x8, by rw [ht]; exact hP9, va_K.moved hW.alike hK, hD9⟩, hS.F ht⟩) hS.2.2 d_Co_init_40

theorem k_645 : ((.methodLink "SpaceCycles$Names" 3 ⟨"java/lang/Object", "<init>", "()V"⟩) : Cond) ∈ gl := gl_i 243 (by decide +kernel) (by decide +kernel)
-- SpaceCycles$Names.<init>
abbrev b_Na_init : ByteArray := prog_7_method_1_code
abbrev y_Na_init : MethodName := ⟨"SpaceCycles$Names", "<init>", "()V"⟩
abbrev w_Na_init : List Cond := Cond.code y_Na_init b_Na_init 1 none :: gl
abbrev rm_Na_init : Room := { frames := 1, cells := 3, slots := 243, locals := 12 }
theorem d_Na_init_0 : decode b_Na_init 0 = .ok (.aload_n 0, 1) := by decide +kernel
theorem d_Na_init_1 : decode b_Na_init 1 = .ok (.invokespecial 3, 3) := by decide +kernel
theorem d_Na_init_4 : decode b_Na_init 4 = .ok (.aload_n 0, 1) := by decide +kernel
theorem d_Na_init_5 : decode b_Na_init 5 = .ok (.bipush 81, 2) := by decide +kernel
theorem d_Na_init_7 : decode b_Na_init 7 = .ok (.newarray .int, 2) := by decide +kernel
theorem d_Na_init_9 : decode b_Na_init 9 = .ok (.putfield 9, 3) := by decide +kernel
theorem d_Na_init_12 : decode b_Na_init 12 = .ok (.aload_n 0, 1) := by decide +kernel
theorem d_Na_init_13 : decode b_Na_init 13 = .ok (.bipush 81, 2) := by decide +kernel
theorem d_Na_init_15 : decode b_Na_init 15 = .ok (.newarray .int, 2) := by decide +kernel
theorem d_Na_init_17 : decode b_Na_init 17 = .ok (.putfield 15, 3) := by decide +kernel
theorem d_Na_init_20 : decode b_Na_init 20 = .ok (.aload_n 0, 1) := by decide +kernel
theorem d_Na_init_21 : decode b_Na_init 21 = .ok (.bipush 81, 2) := by decide +kernel
theorem d_Na_init_23 : decode b_Na_init 23 = .ok (.newarray .int, 2) := by decide +kernel
theorem d_Na_init_25 : decode b_Na_init 25 = .ok (.putfield 18, 3) := by decide +kernel
theorem d_Na_init_28 : decode b_Na_init 28 = .ok (.return_, 1) := by decide +kernel
abbrev cw_Na (h q0 q1 q2 : Nat) (cI cZ : ClassId) : va_W := [(h, .inr (6, [.ref q0, .ref q1, .ref q2])), (q0, .inl (cI, 81, .inl (fun _ => 0))), (q1, .inl (cI, 81, .inl (fun _ => 0))), (q2, .inl (cI, 81, .inl (fun _ => 0)))]
set_option maxHeartbeats 4000000 in
set_option maxRecDepth 100000 in
theorem c_Na_init (l : Launch) (dC : Nat → ClassId) (dI : Nat → Nat → Nat) {cI cZ cJ : ClassId} (h sz : Nat) : Met l y_Na_init w_Na_init rm_Na_init (PP dC dI [(cI, .int), (cZ, .boolean), (cJ, .long)] [.ref h] sz [(h, .inr (6, [.null, .null, .null]))]) (va_Qv (fun (_ : Unit) => True) (fun _ t => ∃ q0 q1 q2 : Nat, BB dC dI [(cI, .int), (cZ, .boolean), (cJ, .long)] (va_A [(h, .inr (6, [.null, .null, .null]))] sz) (cw_Na h q0 q1 q2 cI cZ) () t) (va_A [(h, .inr (6, [.null, .null, .null]))] sz)) 3 243 (va_A [(h, .inr (6, [.null, .null, .null]))] sz) := by
  refine Met.ofW (cc := b_Na_init) (maxL := 1) (ret := none) (by decide) rfl ?_
  intro p e s m args below meth c s₁ B hml hv
  obtain ⟨rfl, hsz, hP, hK, hD0, hN⟩ := hv
  have hx := B.exec
  have hb := B.bytes
  have hr := B.returns
  have hts := atoms_spec (ws := w_Na_init) B.pre
  have hown : s.vm.findClass "SpaceCycles$Names" = some m.cls := findClass_of_methodNamed B.named
  have hlocks := B.notSynchronized
  have hin : meth.name = "<init>" := (name_of_methodNamed B.named B.method).1
  subst hsz
  have hD := hD0.self (sz := s.heap.size)
  generalize hAe : va_A [(h, .inr (6, [.null, .null, .null]))] s.heap.size = A at hD ⊢
  have hA : ∀ q : Nat, s.heap.size ≤ q → A q := fun q h => by rw [← hAe]; exact Or.inr h
  have hS : va_S A s.heap s.heap [] := va_S.rf
  have hl := lv_entry ([.ref h]) (n := 1) (Nat.le_of_ble_eq_true rfl)
  rw [lg_entry_eq]
  generalize (lg_sl ([.ref h]) ++ List.replicate (1 - (lg_sl ([.ref h])).length) Slot.unset).toArray = ls at hl ⊢
  have hl : lv_has ls 1 [(0, .ref h)] := hl
  refine lv_aload_n hx hb d_Na_init_0 rfl (lv_at hl 0 rfl) ?_
  refine W.objInit hx hb hown (hts _ (in_c k_645)) (hts _ (in_c k_631)) (hts _ (in_c k_632)) rfl (by rw [hml]; exact hl.1) rfl d_Na_init_1 (Nat.le_of_ble_eq_true rfl) (Nat.le_of_ble_eq_true rfl) ?_
  refine W.eq (g2 := F0 m 4 ls []) rfl ?_
  refine lv_aload_n hx hb d_Na_init_4 rfl (lv_at hl 0 rfl) ?_
  refine lv_bipush (v := 81) hx hb d_Na_init_5 (by decide) ?_
  refine va_newb (t0 := 0) (ty := .int) (c0 := cI) (a0 := (81, .inl (fun _ => 0))) hx hb (hts _ (in_c k_633)) rfl rfl (fun z => z) hK hP hD hS hA (fun _ => rfl) (by decide) (by decide +kernel) (by decide) (Nat.le_of_ble_eq_true rfl) (Nat.le_of_ble_eq_true rfl) d_Na_init_7 (fun x0 H hP hD hS => ?_)
  refine W.widen (k := 1) (n := 81) (by decide) (by decide) ?_
  have hP : va_P (dC, dI) vwCl [(h, .inr (6, [.null, .null, .null])), (x0, .inl (cI, 81, .inl (fun _ => 0)))] H := hP
  have hD : va_D A [(h, .inr (6, [.null, .null, .null])), (x0, .inl (cI, 81, .inl (fun _ => 0)))] := hD
  refine va_putF (D := (dC, dI)) (ci := 6) (v := .ref x0) (ty := (.array .int)) (C := "SpaceCycles$Names") (T := F_Na) (N := 3) hx hb hts (in_F i_Na) t_Na t_Na_ok n_Na hown hK hP hD hS 0 rfl rfl 0 (by decide) (hts _ (in_c k_122)) (fun _ h9 => h9) rfl hin rfl (by decide +kernel) rfl rfl (Nat.le_of_ble_eq_true rfl) d_Na_init_9 (fun H locs hP hD hS => ?_)
  have hP : va_P (dC, dI) vwCl [(h, .inr (6, [.ref x0, .null, .null])), (x0, .inl (cI, 81, .inl (fun _ => 0)))] H := hP
  have hD : va_D A [(h, .inr (6, [.ref x0, .null, .null])), (x0, .inl (cI, 81, .inl (fun _ => 0)))] := hD
  refine lv_aload_n hx hb d_Na_init_12 rfl (lv_at hl 0 rfl) ?_
  refine lv_bipush (v := 81) hx hb d_Na_init_13 (by decide) ?_
  refine va_newb (t0 := 0) (ty := .int) (c0 := cI) (a0 := (81, .inl (fun _ => 0))) hx hb (hts _ (in_c k_633)) rfl rfl (fun z => z) hK hP hD hS hA (fun _ => rfl) (by decide) (by decide +kernel) (by decide) (Nat.le_of_ble_eq_true rfl) (Nat.le_of_ble_eq_true rfl) d_Na_init_15 (fun x1 H hP hD hS => ?_)
  refine W.widen (k := 2) (n := 162) (by decide) (by decide) ?_
  have hP : va_P (dC, dI) vwCl [(h, .inr (6, [.ref x0, .null, .null])), (x0, .inl (cI, 81, .inl (fun _ => 0))), (x1, .inl (cI, 81, .inl (fun _ => 0)))] H := hP
  have hD : va_D A [(h, .inr (6, [.ref x0, .null, .null])), (x0, .inl (cI, 81, .inl (fun _ => 0))), (x1, .inl (cI, 81, .inl (fun _ => 0)))] := hD
  refine va_putF (D := (dC, dI)) (ci := 6) (v := .ref x1) (ty := (.array .int)) (C := "SpaceCycles$Names") (T := F_Na) (N := 3) hx hb hts (in_F i_Na) t_Na t_Na_ok n_Na hown hK hP hD hS 0 rfl rfl 1 (by decide) (hts _ (in_c k_121)) (fun _ h9 => h9) rfl hin rfl (by decide +kernel) rfl rfl (Nat.le_of_ble_eq_true rfl) d_Na_init_17 (fun H locs hP hD hS => ?_)
  have hP : va_P (dC, dI) vwCl [(h, .inr (6, [.ref x0, .ref x1, .null])), (x0, .inl (cI, 81, .inl (fun _ => 0))), (x1, .inl (cI, 81, .inl (fun _ => 0)))] H := hP
  have hD : va_D A [(h, .inr (6, [.ref x0, .ref x1, .null])), (x0, .inl (cI, 81, .inl (fun _ => 0))), (x1, .inl (cI, 81, .inl (fun _ => 0)))] := hD
  refine lv_aload_n hx hb d_Na_init_20 rfl (lv_at hl 0 rfl) ?_
  refine lv_bipush (v := 81) hx hb d_Na_init_21 (by decide) ?_
  refine va_newb (t0 := 0) (ty := .int) (c0 := cI) (a0 := (81, .inl (fun _ => 0))) hx hb (hts _ (in_c k_633)) rfl rfl (fun z => z) hK hP hD hS hA (fun _ => rfl) (by decide) (by decide +kernel) (by decide) (Nat.le_of_ble_eq_true rfl) (Nat.le_of_ble_eq_true rfl) d_Na_init_23 (fun x2 H hP hD hS => ?_)
  refine W.widen (k := 3) (n := 243) (by decide) (by decide) ?_
  have hP : va_P (dC, dI) vwCl [(h, .inr (6, [.ref x0, .ref x1, .null])), (x0, .inl (cI, 81, .inl (fun _ => 0))), (x1, .inl (cI, 81, .inl (fun _ => 0))), (x2, .inl (cI, 81, .inl (fun _ => 0)))] H := hP
  have hD : va_D A [(h, .inr (6, [.ref x0, .ref x1, .null])), (x0, .inl (cI, 81, .inl (fun _ => 0))), (x1, .inl (cI, 81, .inl (fun _ => 0))), (x2, .inl (cI, 81, .inl (fun _ => 0)))] := hD
  refine va_putF (D := (dC, dI)) (ci := 6) (v := .ref x2) (ty := (.array .int)) (C := "SpaceCycles$Names") (T := F_Na) (N := 3) hx hb hts (in_F i_Na) t_Na t_Na_ok n_Na hown hK hP hD hS 0 rfl rfl 2 (by decide) (hts _ (in_c k_120)) (fun _ h9 => h9) rfl hin rfl (by decide +kernel) rfl rfl (Nat.le_of_ble_eq_true rfl) d_Na_init_25 (fun H locs hP hD hS => ?_)
  have hP : va_P (dC, dI) vwCl [(h, .inr (6, [.ref x0, .ref x1, .ref x2])), (x0, .inl (cI, 81, .inl (fun _ => 0))), (x1, .inl (cI, 81, .inl (fun _ => 0))), (x2, .inl (cI, 81, .inl (fun _ => 0)))] H := hP
  have hD : va_D A [(h, .inr (6, [.ref x0, .ref x1, .ref x2])), (x0, .inl (cI, 81, .inl (fun _ => 0))), (x1, .inl (cI, 81, .inl (fun _ => 0))), (x2, .inl (cI, 81, .inl (fun _ => 0)))] := hD
  have hP9 := hP.sub (ws' := (cw_Na h x0 x1 x2 cI cZ)) [0, 1, 2, 3] rfl
  have hD9 := hD.sub (ws' := (cw_Na h x0 x1 x2 cI cZ)) [0, 1, 2, 3] (by decide) rfl
  refine W.widen (k := 3) (n := 243) (by decide) (by decide) ?_
  exact W.vret hx hb hr (fun t ht hW => ⟨⟨(), rfl, trivial, x0, x1, x2, by rw [ht]; exact hP9, va_K.moved hW.alike hK, hD9⟩, hS.F ht⟩) hS.2.2 d_Na_init_28

theorem k_646 : ((.methodLink "SpaceCycles$Ways" 3 ⟨"java/lang/Object", "<init>", "()V"⟩) : Cond) ∈ gl := gl_i 260 (by decide +kernel) (by decide +kernel)
-- SpaceCycles$Ways.<init>
abbrev b_Wa_init : ByteArray := prog_11_method_1_code
abbrev y_Wa_init : MethodName := ⟨"SpaceCycles$Ways", "<init>", "()V"⟩
abbrev w_Wa_init : List Cond := Cond.code y_Wa_init b_Wa_init 1 none :: gl
abbrev rm_Wa_init : Room := { frames := 1, cells := 2, slots := 302, locals := 12 }
theorem d_Wa_init_0 : decode b_Wa_init 0 = .ok (.aload_n 0, 1) := by decide +kernel
theorem d_Wa_init_1 : decode b_Wa_init 1 = .ok (.invokespecial 3, 3) := by decide +kernel
theorem d_Wa_init_4 : decode b_Wa_init 4 = .ok (.aload_n 0, 1) := by decide +kernel
theorem d_Wa_init_5 : decode b_Wa_init 5 = .ok (.bipush 82, 2) := by decide +kernel
theorem d_Wa_init_7 : decode b_Wa_init 7 = .ok (.newarray .int, 2) := by decide +kernel
theorem d_Wa_init_9 : decode b_Wa_init 9 = .ok (.putfield 9, 3) := by decide +kernel
theorem d_Wa_init_12 : decode b_Wa_init 12 = .ok (.aload_n 0, 1) := by decide +kernel
theorem d_Wa_init_13 : decode b_Wa_init 13 = .ok (.sipush 220, 3) := by decide +kernel
theorem d_Wa_init_16 : decode b_Wa_init 16 = .ok (.newarray .int, 2) := by decide +kernel
theorem d_Wa_init_18 : decode b_Wa_init 18 = .ok (.putfield 15, 3) := by decide +kernel
theorem d_Wa_init_21 : decode b_Wa_init 21 = .ok (.aload_n 0, 1) := by decide +kernel
theorem d_Wa_init_22 : decode b_Wa_init 22 = .ok (.iconst 0, 1) := by decide +kernel
theorem d_Wa_init_23 : decode b_Wa_init 23 = .ok (.putfield 18, 3) := by decide +kernel
theorem d_Wa_init_26 : decode b_Wa_init 26 = .ok (.return_, 1) := by decide +kernel
abbrev cw_Wa (h q0 q1 : Nat) (cI cZ : ClassId) : va_W := [(h, .inr (7, [.ref q0, .ref q1, .int 0])), (q0, .inl (cI, 82, .inl (fun _ => 0))), (q1, .inl (cI, 220, .inl (fun _ => 0)))]
set_option maxHeartbeats 4000000 in
set_option maxRecDepth 100000 in
theorem c_Wa_init (l : Launch) (dC : Nat → ClassId) (dI : Nat → Nat → Nat) {cI cZ cJ : ClassId} (h sz : Nat) : Met l y_Wa_init w_Wa_init rm_Wa_init (PP dC dI [(cI, .int), (cZ, .boolean), (cJ, .long)] [.ref h] sz [(h, .inr (7, [.null, .null, .int 0]))]) (va_Qv (fun (_ : Unit) => True) (fun _ t => ∃ q0 q1 : Nat, BB dC dI [(cI, .int), (cZ, .boolean), (cJ, .long)] (va_A [(h, .inr (7, [.null, .null, .int 0]))] sz) (cw_Wa h q0 q1 cI cZ) () t) (va_A [(h, .inr (7, [.null, .null, .int 0]))] sz)) 2 302 (va_A [(h, .inr (7, [.null, .null, .int 0]))] sz) := by
  refine Met.ofW (cc := b_Wa_init) (maxL := 1) (ret := none) (by decide) rfl ?_
  intro p e s m args below meth c s₁ B hml hv
  obtain ⟨rfl, hsz, hP, hK, hD0, hN⟩ := hv
  have hx := B.exec
  have hb := B.bytes
  have hr := B.returns
  have hts := atoms_spec (ws := w_Wa_init) B.pre
  have hown : s.vm.findClass "SpaceCycles$Ways" = some m.cls := findClass_of_methodNamed B.named
  have hlocks := B.notSynchronized
  have hin : meth.name = "<init>" := (name_of_methodNamed B.named B.method).1
  subst hsz
  have hD := hD0.self (sz := s.heap.size)
  generalize hAe : va_A [(h, .inr (7, [.null, .null, .int 0]))] s.heap.size = A at hD ⊢
  have hA : ∀ q : Nat, s.heap.size ≤ q → A q := fun q h => by rw [← hAe]; exact Or.inr h
  have hS : va_S A s.heap s.heap [] := va_S.rf
  have hl := lv_entry ([.ref h]) (n := 1) (Nat.le_of_ble_eq_true rfl)
  rw [lg_entry_eq]
  generalize (lg_sl ([.ref h]) ++ List.replicate (1 - (lg_sl ([.ref h])).length) Slot.unset).toArray = ls at hl ⊢
  have hl : lv_has ls 1 [(0, .ref h)] := hl
  refine lv_aload_n hx hb d_Wa_init_0 rfl (lv_at hl 0 rfl) ?_
  refine W.objInit hx hb hown (hts _ (in_c k_646)) (hts _ (in_c k_631)) (hts _ (in_c k_632)) rfl (by rw [hml]; exact hl.1) rfl d_Wa_init_1 (Nat.le_of_ble_eq_true rfl) (Nat.le_of_ble_eq_true rfl) ?_
  refine W.eq (g2 := F0 m 4 ls []) rfl ?_
  refine lv_aload_n hx hb d_Wa_init_4 rfl (lv_at hl 0 rfl) ?_
  refine lv_bipush (v := 82) hx hb d_Wa_init_5 (by decide) ?_
  refine va_newb (t0 := 0) (ty := .int) (c0 := cI) (a0 := (82, .inl (fun _ => 0))) hx hb (hts _ (in_c k_633)) rfl rfl (fun z => z) hK hP hD hS hA (fun _ => rfl) (by decide) (by decide +kernel) (by decide) (Nat.le_of_ble_eq_true rfl) (Nat.le_of_ble_eq_true rfl) d_Wa_init_7 (fun x0 H hP hD hS => ?_)
  refine W.widen (k := 1) (n := 82) (by decide) (by decide) ?_
  have hP : va_P (dC, dI) vwCl [(h, .inr (7, [.null, .null, .int 0])), (x0, .inl (cI, 82, .inl (fun _ => 0)))] H := hP
  have hD : va_D A [(h, .inr (7, [.null, .null, .int 0])), (x0, .inl (cI, 82, .inl (fun _ => 0)))] := hD
  refine va_putF (D := (dC, dI)) (ci := 7) (v := .ref x0) (ty := (.array .int)) (C := "SpaceCycles$Ways") (T := F_Wa) (N := 3) hx hb hts (in_F i_Wa) t_Wa t_Wa_ok n_Wa hown hK hP hD hS 0 rfl rfl 0 (by decide) (hts _ (in_c k_262)) (fun _ h9 => h9) rfl hin rfl (by decide +kernel) rfl rfl (Nat.le_of_ble_eq_true rfl) d_Wa_init_9 (fun H locs hP hD hS => ?_)
  have hP : va_P (dC, dI) vwCl [(h, .inr (7, [.ref x0, .null, .int 0])), (x0, .inl (cI, 82, .inl (fun _ => 0)))] H := hP
  have hD : va_D A [(h, .inr (7, [.ref x0, .null, .int 0])), (x0, .inl (cI, 82, .inl (fun _ => 0)))] := hD
  refine lv_aload_n hx hb d_Wa_init_12 rfl (lv_at hl 0 rfl) ?_
  refine lv_sipush (v := 220) hx hb d_Wa_init_13 (by decide) ?_
  refine va_newb (t0 := 0) (ty := .int) (c0 := cI) (a0 := (220, .inl (fun _ => 0))) hx hb (hts _ (in_c k_633)) rfl rfl (fun z => z) hK hP hD hS hA (fun _ => rfl) (by decide) (by decide +kernel) (by decide) (Nat.le_of_ble_eq_true rfl) (Nat.le_of_ble_eq_true rfl) d_Wa_init_16 (fun x1 H hP hD hS => ?_)
  refine W.widen (k := 2) (n := 302) (by decide) (by decide) ?_
  have hP : va_P (dC, dI) vwCl [(h, .inr (7, [.ref x0, .null, .int 0])), (x0, .inl (cI, 82, .inl (fun _ => 0))), (x1, .inl (cI, 220, .inl (fun _ => 0)))] H := hP
  have hD : va_D A [(h, .inr (7, [.ref x0, .null, .int 0])), (x0, .inl (cI, 82, .inl (fun _ => 0))), (x1, .inl (cI, 220, .inl (fun _ => 0)))] := hD
  refine va_putF (D := (dC, dI)) (ci := 7) (v := .ref x1) (ty := (.array .int)) (C := "SpaceCycles$Ways") (T := F_Wa) (N := 3) hx hb hts (in_F i_Wa) t_Wa t_Wa_ok n_Wa hown hK hP hD hS 0 rfl rfl 1 (by decide) (hts _ (in_c k_259)) (fun _ h9 => h9) rfl hin rfl (by decide +kernel) rfl rfl (Nat.le_of_ble_eq_true rfl) d_Wa_init_18 (fun H locs hP hD hS => ?_)
  have hP : va_P (dC, dI) vwCl [(h, .inr (7, [.ref x0, .ref x1, .int 0])), (x0, .inl (cI, 82, .inl (fun _ => 0))), (x1, .inl (cI, 220, .inl (fun _ => 0)))] H := hP
  have hD : va_D A [(h, .inr (7, [.ref x0, .ref x1, .int 0])), (x0, .inl (cI, 82, .inl (fun _ => 0))), (x1, .inl (cI, 220, .inl (fun _ => 0)))] := hD
  refine lv_aload_n hx hb d_Wa_init_21 rfl (lv_at hl 0 rfl) ?_
  refine lv_iconst (v := 0) hx hb d_Wa_init_22 (by decide) ?_
  refine va_put (D := (dC, dI)) (ci := 7) (v := .int 0) (ty := .int) (C := "SpaceCycles$Ways") (T := F_Wa) (N := 3) hx hb hts (in_F i_Wa) t_Wa t_Wa_ok n_Wa hown hK hP hD hS 0 rfl rfl 2 (by decide) (hts _ (in_c k_243)) (fun _ h9 => h9) rfl (by decide +kernel) rfl rfl (Nat.le_of_ble_eq_true rfl) d_Wa_init_23 (fun H locs hP hD hS => ?_)
  have hP : va_P (dC, dI) vwCl [(h, .inr (7, [.ref x0, .ref x1, .int 0])), (x0, .inl (cI, 82, .inl (fun _ => 0))), (x1, .inl (cI, 220, .inl (fun _ => 0)))] H := hP
  have hD : va_D A [(h, .inr (7, [.ref x0, .ref x1, .int 0])), (x0, .inl (cI, 82, .inl (fun _ => 0))), (x1, .inl (cI, 220, .inl (fun _ => 0)))] := hD
  have hP9 := hP.sub (ws' := (cw_Wa h x0 x1 cI cZ)) [0, 1, 2] rfl
  have hD9 := hD.sub (ws' := (cw_Wa h x0 x1 cI cZ)) [0, 1, 2] (by decide) rfl
  refine W.widen (k := 2) (n := 302) (by decide) (by decide) ?_
  exact W.vret hx hb hr (fun t ht hW => ⟨⟨(), rfl, trivial, x0, x1, by rw [ht]; exact hP9, va_K.moved hW.alike hK, hD9⟩, hS.F ht⟩) hS.2.2 d_Wa_init_26

theorem k_647 : ((.methodLink "SpaceCycles$Cuts" 3 ⟨"java/lang/Object", "<init>", "()V"⟩) : Cond) ∈ gl := gl_i 282 (by decide +kernel) (by decide +kernel)
-- SpaceCycles$Cuts.<init>
abbrev b_Cu_init : ByteArray := prog_3_method_1_code
abbrev y_Cu_init : MethodName := ⟨"SpaceCycles$Cuts", "<init>", "()V"⟩
abbrev w_Cu_init : List Cond := Cond.code y_Cu_init b_Cu_init 1 none :: gl
abbrev rm_Cu_init : Room := { frames := 1, cells := 1, slots := 40, locals := 12 }
theorem d_Cu_init_0 : decode b_Cu_init 0 = .ok (.aload_n 0, 1) := by decide +kernel
theorem d_Cu_init_1 : decode b_Cu_init 1 = .ok (.invokespecial 3, 3) := by decide +kernel
theorem d_Cu_init_4 : decode b_Cu_init 4 = .ok (.aload_n 0, 1) := by decide +kernel
theorem d_Cu_init_5 : decode b_Cu_init 5 = .ok (.bipush 40, 2) := by decide +kernel
theorem d_Cu_init_7 : decode b_Cu_init 7 = .ok (.newarray .int, 2) := by decide +kernel
theorem d_Cu_init_9 : decode b_Cu_init 9 = .ok (.putfield 9, 3) := by decide +kernel
theorem d_Cu_init_12 : decode b_Cu_init 12 = .ok (.aload_n 0, 1) := by decide +kernel
theorem d_Cu_init_13 : decode b_Cu_init 13 = .ok (.iconst 0, 1) := by decide +kernel
theorem d_Cu_init_14 : decode b_Cu_init 14 = .ok (.putfield 15, 3) := by decide +kernel
theorem d_Cu_init_17 : decode b_Cu_init 17 = .ok (.return_, 1) := by decide +kernel
abbrev cw_Cu (h q0 : Nat) (cI cZ : ClassId) : va_W := [(h, .inr (9, [.ref q0, .int 0])), (q0, .inl (cI, 40, .inl (fun _ => 0)))]
set_option maxHeartbeats 4000000 in
set_option maxRecDepth 100000 in
theorem c_Cu_init (l : Launch) (dC : Nat → ClassId) (dI : Nat → Nat → Nat) {cI cZ cJ : ClassId} (h sz : Nat) : Met l y_Cu_init w_Cu_init rm_Cu_init (PP dC dI [(cI, .int), (cZ, .boolean), (cJ, .long)] [.ref h] sz [(h, .inr (9, [.null, .int 0]))]) (va_Qv (fun (_ : Unit) => True) (fun _ t => ∃ q0 : Nat, BB dC dI [(cI, .int), (cZ, .boolean), (cJ, .long)] (va_A [(h, .inr (9, [.null, .int 0]))] sz) (cw_Cu h q0 cI cZ) () t) (va_A [(h, .inr (9, [.null, .int 0]))] sz)) 1 40 (va_A [(h, .inr (9, [.null, .int 0]))] sz) := by
  refine Met.ofW (cc := b_Cu_init) (maxL := 1) (ret := none) (by decide) rfl ?_
  intro p e s m args below meth c s₁ B hml hv
  obtain ⟨rfl, hsz, hP, hK, hD0, hN⟩ := hv
  have hx := B.exec
  have hb := B.bytes
  have hr := B.returns
  have hts := atoms_spec (ws := w_Cu_init) B.pre
  have hown : s.vm.findClass "SpaceCycles$Cuts" = some m.cls := findClass_of_methodNamed B.named
  have hlocks := B.notSynchronized
  have hin : meth.name = "<init>" := (name_of_methodNamed B.named B.method).1
  subst hsz
  have hD := hD0.self (sz := s.heap.size)
  generalize hAe : va_A [(h, .inr (9, [.null, .int 0]))] s.heap.size = A at hD ⊢
  have hA : ∀ q : Nat, s.heap.size ≤ q → A q := fun q h => by rw [← hAe]; exact Or.inr h
  have hS : va_S A s.heap s.heap [] := va_S.rf
  have hl := lv_entry ([.ref h]) (n := 1) (Nat.le_of_ble_eq_true rfl)
  rw [lg_entry_eq]
  generalize (lg_sl ([.ref h]) ++ List.replicate (1 - (lg_sl ([.ref h])).length) Slot.unset).toArray = ls at hl ⊢
  have hl : lv_has ls 1 [(0, .ref h)] := hl
  refine lv_aload_n hx hb d_Cu_init_0 rfl (lv_at hl 0 rfl) ?_
  refine W.objInit hx hb hown (hts _ (in_c k_647)) (hts _ (in_c k_631)) (hts _ (in_c k_632)) rfl (by rw [hml]; exact hl.1) rfl d_Cu_init_1 (Nat.le_of_ble_eq_true rfl) (Nat.le_of_ble_eq_true rfl) ?_
  refine W.eq (g2 := F0 m 4 ls []) rfl ?_
  refine lv_aload_n hx hb d_Cu_init_4 rfl (lv_at hl 0 rfl) ?_
  refine lv_bipush (v := 40) hx hb d_Cu_init_5 (by decide) ?_
  refine va_newb (t0 := 0) (ty := .int) (c0 := cI) (a0 := (40, .inl (fun _ => 0))) hx hb (hts _ (in_c k_633)) rfl rfl (fun z => z) hK hP hD hS hA (fun _ => rfl) (by decide) (by decide +kernel) (by decide) (Nat.le_of_ble_eq_true rfl) (Nat.le_of_ble_eq_true rfl) d_Cu_init_7 (fun x0 H hP hD hS => ?_)
  refine W.widen (k := 1) (n := 40) (by decide) (by decide) ?_
  have hP : va_P (dC, dI) vwCl [(h, .inr (9, [.null, .int 0])), (x0, .inl (cI, 40, .inl (fun _ => 0)))] H := hP
  have hD : va_D A [(h, .inr (9, [.null, .int 0])), (x0, .inl (cI, 40, .inl (fun _ => 0)))] := hD
  refine va_putF (D := (dC, dI)) (ci := 9) (v := .ref x0) (ty := (.array .int)) (C := "SpaceCycles$Cuts") (T := F_Cu) (N := 2) hx hb hts (in_F i_Cu) t_Cu t_Cu_ok n_Cu hown hK hP hD hS 0 rfl rfl 0 (by decide) (hts _ (in_c k_5)) (fun _ h9 => h9) rfl hin rfl (by decide +kernel) rfl rfl (Nat.le_of_ble_eq_true rfl) d_Cu_init_9 (fun H locs hP hD hS => ?_)
  have hP : va_P (dC, dI) vwCl [(h, .inr (9, [.ref x0, .int 0])), (x0, .inl (cI, 40, .inl (fun _ => 0)))] H := hP
  have hD : va_D A [(h, .inr (9, [.ref x0, .int 0])), (x0, .inl (cI, 40, .inl (fun _ => 0)))] := hD
  refine lv_aload_n hx hb d_Cu_init_12 rfl (lv_at hl 0 rfl) ?_
  refine lv_iconst (v := 0) hx hb d_Cu_init_13 (by decide) ?_
  refine va_put (D := (dC, dI)) (ci := 9) (v := .int 0) (ty := .int) (C := "SpaceCycles$Cuts") (T := F_Cu) (N := 2) hx hb hts (in_F i_Cu) t_Cu t_Cu_ok n_Cu hown hK hP hD hS 0 rfl rfl 1 (by decide) (hts _ (in_c k_4)) (fun _ h9 => h9) rfl (by decide +kernel) rfl rfl (Nat.le_of_ble_eq_true rfl) d_Cu_init_14 (fun H locs hP hD hS => ?_)
  have hP : va_P (dC, dI) vwCl [(h, .inr (9, [.ref x0, .int 0])), (x0, .inl (cI, 40, .inl (fun _ => 0)))] H := hP
  have hD : va_D A [(h, .inr (9, [.ref x0, .int 0])), (x0, .inl (cI, 40, .inl (fun _ => 0)))] := hD
  have hP9 := hP.sub (ws' := (cw_Cu h x0 cI cZ)) [0, 1] rfl
  have hD9 := hD.sub (ws' := (cw_Cu h x0 cI cZ)) [0, 1] (by decide) rfl
  refine W.widen (k := 1) (n := 40) (by decide) (by decide) ?_
  exact W.vret hx hb hr (fun t ht hW => ⟨⟨(), rfl, trivial, x0, by rw [ht]; exact hP9, va_K.moved hW.alike hK, hD9⟩, hS.F ht⟩) hS.2.2 d_Cu_init_17

theorem k_648 : ((.methodLink "SpaceCycles$Grid" 5 ⟨"java/lang/Object", "<init>", "()V"⟩) : Cond) ∈ gl := gl_i 276 (by decide +kernel) (by decide +kernel)
theorem k_649 : ((.classLink "SpaceCycles$Grid" 11 "SpaceCycles$Cuts") : Cond) ∈ gl := gl_i 277 (by decide +kernel) (by decide +kernel)
theorem k_650 : ((.instantiable "SpaceCycles$Cuts" 2) : Cond) ∈ gl := gl_i 278 (by decide +kernel) (by decide +kernel)
theorem k_651 : ((.code ⟨"SpaceCycles$Cuts", "<init>", "()V"⟩ prog_3_method_1_code 1 none) : Cond) ∈ gl := gl_i 281 (by decide +kernel) (by decide +kernel)
theorem k_652 : ((.instanceMethod ⟨"SpaceCycles$Cuts", "<init>", "()V"⟩) : Cond) ∈ gl := gl_i 280 (by decide +kernel) (by decide +kernel)
theorem k_653 : ((.fieldLink "SpaceCycles$Grid" 25 "SpaceCycles$Grid" "spaces" "I") : Cond) ∈ gl := gl_i 308 (by decide +kernel) (by decide +kernel)
-- SpaceCycles$Grid.<init>
abbrev b_Gr_init : ByteArray := prog_5_method_1_code
abbrev y_Gr_init : MethodName := ⟨"SpaceCycles$Grid", "<init>", "()V"⟩
abbrev w_Gr_init : List Cond := Cond.code y_Gr_init b_Gr_init 1 none :: gl
abbrev rm_Gr_init : Room := { frames := 2, cells := 5, slots := 1765, locals := 32 }
theorem d_Gr_init_0 : decode b_Gr_init 0 = .ok (.aload_n 0, 1) := by decide +kernel
theorem d_Gr_init_1 : decode b_Gr_init 1 = .ok (.invokespecial 5, 3) := by decide +kernel
theorem d_Gr_init_4 : decode b_Gr_init 4 = .ok (.aload_n 0, 1) := by decide +kernel
theorem d_Gr_init_5 : decode b_Gr_init 5 = .ok (.new 11, 3) := by decide +kernel
theorem d_Gr_init_8 : decode b_Gr_init 8 = .ok (.dup, 1) := by decide +kernel
theorem d_Gr_init_9 : decode b_Gr_init 9 = .ok (.invokespecial 13, 3) := by decide +kernel
theorem d_Gr_init_12 : decode b_Gr_init 12 = .ok (.putfield 14, 3) := by decide +kernel
theorem d_Gr_init_15 : decode b_Gr_init 15 = .ok (.aload_n 0, 1) := by decide +kernel
theorem d_Gr_init_16 : decode b_Gr_init 16 = .ok (.new 11, 3) := by decide +kernel
theorem d_Gr_init_19 : decode b_Gr_init 19 = .ok (.dup, 1) := by decide +kernel
theorem d_Gr_init_20 : decode b_Gr_init 20 = .ok (.invokespecial 13, 3) := by decide +kernel
theorem d_Gr_init_23 : decode b_Gr_init 23 = .ok (.putfield 18, 3) := by decide +kernel
theorem d_Gr_init_26 : decode b_Gr_init 26 = .ok (.aload_n 0, 1) := by decide +kernel
theorem d_Gr_init_27 : decode b_Gr_init 27 = .ok (.sipush 1681, 3) := by decide +kernel
theorem d_Gr_init_30 : decode b_Gr_init 30 = .ok (.newarray .int, 2) := by decide +kernel
theorem d_Gr_init_32 : decode b_Gr_init 32 = .ok (.putfield 21, 3) := by decide +kernel
theorem d_Gr_init_35 : decode b_Gr_init 35 = .ok (.aload_n 0, 1) := by decide +kernel
theorem d_Gr_init_36 : decode b_Gr_init 36 = .ok (.iconst 0, 1) := by decide +kernel
theorem d_Gr_init_37 : decode b_Gr_init 37 = .ok (.putfield 25, 3) := by decide +kernel
theorem d_Gr_init_40 : decode b_Gr_init 40 = .ok (.return_, 1) := by decide +kernel
abbrev cw_Gr (h q0 q1 q2 q3 q4 : Nat) (cI cZ : ClassId) : va_W := [(h, .inr (8, [.ref q0, .ref q2, .ref q4, .int 0])), (q0, .inr (9, [.ref q1, .int 0])), (q1, .inl (cI, 40, .inl (fun _ => 0))), (q2, .inr (9, [.ref q3, .int 0])), (q3, .inl (cI, 40, .inl (fun _ => 0))), (q4, .inl (cI, 1681, .inl (fun _ => 0)))]
set_option maxHeartbeats 4000000 in
set_option maxRecDepth 100000 in
theorem c_Gr_init (l : Launch) (dC : Nat → ClassId) (dI : Nat → Nat → Nat) {cI cZ cJ : ClassId} (h sz : Nat) : Met l y_Gr_init w_Gr_init rm_Gr_init (PP dC dI [(cI, .int), (cZ, .boolean), (cJ, .long)] [.ref h] sz [(h, .inr (8, [.null, .null, .null, .int 0]))]) (va_Qv (fun (_ : Unit) => True) (fun _ t => ∃ q0 q1 q2 q3 q4 : Nat, BB dC dI [(cI, .int), (cZ, .boolean), (cJ, .long)] (va_A [(h, .inr (8, [.null, .null, .null, .int 0]))] sz) (cw_Gr h q0 q1 q2 q3 q4 cI cZ) () t) (va_A [(h, .inr (8, [.null, .null, .null, .int 0]))] sz)) 5 1765 (va_A [(h, .inr (8, [.null, .null, .null, .int 0]))] sz) := by
  refine Met.ofW (cc := b_Gr_init) (maxL := 1) (ret := none) (by decide) rfl ?_
  intro p e s m args below meth c s₁ B hml hv
  obtain ⟨rfl, hsz, hP, hK, hD0, hN⟩ := hv
  have hx := B.exec
  have hb := B.bytes
  have hr := B.returns
  have hts := atoms_spec (ws := w_Gr_init) B.pre
  have hown : s.vm.findClass "SpaceCycles$Grid" = some m.cls := findClass_of_methodNamed B.named
  have hlocks := B.notSynchronized
  have hin : meth.name = "<init>" := (name_of_methodNamed B.named B.method).1
  subst hsz
  have hD := hD0.self (sz := s.heap.size)
  generalize hAe : va_A [(h, .inr (8, [.null, .null, .null, .int 0]))] s.heap.size = A at hD ⊢
  have hA : ∀ q : Nat, s.heap.size ≤ q → A q := fun q h => by rw [← hAe]; exact Or.inr h
  have hS : va_S A s.heap s.heap [] := va_S.rf
  have hl := lv_entry ([.ref h]) (n := 1) (Nat.le_of_ble_eq_true rfl)
  rw [lg_entry_eq]
  generalize (lg_sl ([.ref h]) ++ List.replicate (1 - (lg_sl ([.ref h])).length) Slot.unset).toArray = ls at hl ⊢
  have hl : lv_has ls 1 [(0, .ref h)] := hl
  refine lv_aload_n hx hb d_Gr_init_0 rfl (lv_at hl 0 rfl) ?_
  refine W.objInit hx hb hown (hts _ (in_c k_648)) (hts _ (in_c k_631)) (hts _ (in_c k_632)) rfl (by rw [hml]; exact hl.1) rfl d_Gr_init_1 (Nat.le_of_ble_eq_true rfl) (Nat.le_of_ble_eq_true rfl) ?_
  refine W.eq (g2 := F0 m 4 ls []) rfl ?_
  refine lv_aload_n hx hb d_Gr_init_4 rfl (lv_at hl 0 rfl) ?_
  refine va_new (ci := 9) (fs := [.null, .int 0]) (C := "SpaceCycles$Cuts") (T := F_Cu) (N := 2) hx hb hts (in_F i_Cu) t_Cu t_Cu_ok hown (hts _ (in_c k_649)) (hts _ (in_c k_650)) (hts _ (in_c k_9)) hK hP hD hS hA rfl (fun j hj => by rcases (show j = 0 ∨ j = 1 by omega) with rfl | rfl <;> rfl) (Nat.le_of_ble_eq_true rfl) (Nat.le_of_ble_eq_true rfl) d_Gr_init_5 (fun x0 H hP hD hS => ?_)
  refine W.widen (k := 1) (n := 2) (by decide) (by decide) ?_
  have hP : va_P (dC, dI) vwCl [(h, .inr (8, [.null, .null, .null, .int 0])), (x0, .inr (9, [.null, .int 0]))] H := hP
  have hD : va_D A [(h, .inr (8, [.null, .null, .null, .int 0])), (x0, .inr (9, [.null, .int 0]))] := hD
  refine lv_dup hx hb d_Gr_init_8 rfl ?_
  have hPc := hP.sub (ws' := [(x0, .inr (9, [.null, .int 0]))]) [1] rfl
  have hDc := hD.sub (ws' := [(x0, .inr (9, [.null, .int 0]))]) [1] (by decide) rfl
  have hFc := va_free (wc := [(x0, .inr (9, [.null, .int 0]))]) hD hS hA [1] rfl
  refine va_callv (va_runIN (As := []) (rest := [.ref x0, .ref h]) ⟨hx, hb, hml, hown, hts⟩ (c_Cu_init l dC dI (cI := cI) (cZ := cZ) (cJ := cJ) x0 H.size) ⟨va_cnB 0 hts (gl_C k_651) rfl rfl rfl (hN _ (List.mem_of_getElem? (i := 9) rfl)) (hts _ (in_c k_9)) (by decide +kernel) ⟨Nat.le_of_ble_eq_true rfl, Nat.le_of_ble_eq_true rfl⟩, rfl, (hts _ (in_c k_652))⟩ ⟨PP_blind, fun U hU hW => PP_at hK hN hPc hDc hU hW⟩ rfl rfl hl.1 rfl (lv_room (Nat.le_of_ble_eq_true rfl)) d_Gr_init_9 ⟨Nat.le_of_ble_eq_true rfl, Nat.le_of_ble_eq_true rfl⟩) hS (fun q _ h => hFc q h) hFc (fun u t H1 locs ht hvm hw hB hz1 hk1 hS => ?_)
  obtain ⟨x1, hP1, hK1, hD1⟩ := hB
  rw [ht] at hP1
  obtain ⟨hP, hD⟩ := va_join (wr := (pk [(h, .inr (8, [.null,.null,.null,.int 0])), (x0, .inr (9, [.null, .int 0]))] [0])) (w1 := cw_Cu x0 x1 cI cZ) hP hD [1] [0] rfl rfl (by decide) (by decide) hk1 hFc hP1 hD1
  generalize H1 = H at hP hS ⊢
  refine W.widen (k := 2) (n := 42) (by decide) (by decide) ?_
  have hP : va_P (dC, dI) vwCl [(h, .inr (8, [.null, .null, .null, .int 0])), (x0, .inr (9, [.ref x1, .int 0])), (x1, .inl (cI, 40, .inl (fun _ => 0)))] H := hP
  have hD : va_D A [(h, .inr (8, [.null, .null, .null, .int 0])), (x0, .inr (9, [.ref x1, .int 0])), (x1, .inl (cI, 40, .inl (fun _ => 0)))] := hD
  refine va_putF (D := (dC, dI)) (ci := 8) (v := .ref x0) (ty := (.object "SpaceCycles$Cuts")) (C := "SpaceCycles$Grid") (T := F_Gr) (N := 4) hx hb hts (in_F i_Gr) t_Gr t_Gr_ok n_Gr hown hK hP hD hS 0 rfl rfl 0 (by decide) (hts _ (in_c k_40)) (fun _ h9 => h9) rfl hin rfl (by decide +kernel) rfl rfl (Nat.le_of_ble_eq_true rfl) d_Gr_init_12 (fun H locs hP hD hS => ?_)
  have hP : va_P (dC, dI) vwCl [(h, .inr (8, [.ref x0, .null, .null, .int 0])), (x0, .inr (9, [.ref x1, .int 0])), (x1, .inl (cI, 40, .inl (fun _ => 0)))] H := hP
  have hD : va_D A [(h, .inr (8, [.ref x0, .null, .null, .int 0])), (x0, .inr (9, [.ref x1, .int 0])), (x1, .inl (cI, 40, .inl (fun _ => 0)))] := hD
  refine lv_aload_n hx hb d_Gr_init_15 rfl (lv_at hl 0 rfl) ?_
  refine va_new (ci := 9) (fs := [.null, .int 0]) (C := "SpaceCycles$Cuts") (T := F_Cu) (N := 2) hx hb hts (in_F i_Cu) t_Cu t_Cu_ok hown (hts _ (in_c k_649)) (hts _ (in_c k_650)) (hts _ (in_c k_9)) hK hP hD hS hA rfl (fun j hj => by rcases (show j = 0 ∨ j = 1 by omega) with rfl | rfl <;> rfl) (Nat.le_of_ble_eq_true rfl) (Nat.le_of_ble_eq_true rfl) d_Gr_init_16 (fun x2 H hP hD hS => ?_)
  refine W.widen (k := 3) (n := 44) (by decide) (by decide) ?_
  have hP : va_P (dC, dI) vwCl [(h, .inr (8, [.ref x0, .null, .null, .int 0])), (x0, .inr (9, [.ref x1, .int 0])), (x1, .inl (cI, 40, .inl (fun _ => 0))), (x2, .inr (9, [.null, .int 0]))] H := hP
  have hD : va_D A [(h, .inr (8, [.ref x0, .null, .null, .int 0])), (x0, .inr (9, [.ref x1, .int 0])), (x1, .inl (cI, 40, .inl (fun _ => 0))), (x2, .inr (9, [.null, .int 0]))] := hD
  refine lv_dup hx hb d_Gr_init_19 rfl ?_
  have hPc := hP.sub (ws' := [(x2, .inr (9, [.null, .int 0]))]) [3] rfl
  have hDc := hD.sub (ws' := [(x2, .inr (9, [.null, .int 0]))]) [3] (by decide) rfl
  have hFc := va_free (wc := [(x2, .inr (9, [.null, .int 0]))]) hD hS hA [3] rfl
  refine va_callv (va_runIN (As := []) (rest := [.ref x2, .ref h]) ⟨hx, hb, hml, hown, hts⟩ (c_Cu_init l dC dI (cI := cI) (cZ := cZ) (cJ := cJ) x2 H.size) ⟨va_cnB 0 hts (gl_C k_651) rfl rfl rfl (hN _ (List.mem_of_getElem? (i := 9) rfl)) (hts _ (in_c k_9)) (by decide +kernel) ⟨Nat.le_of_ble_eq_true rfl, Nat.le_of_ble_eq_true rfl⟩, rfl, (hts _ (in_c k_652))⟩ ⟨PP_blind, fun U hU hW => PP_at hK hN hPc hDc hU hW⟩ rfl rfl hl.1 rfl (lv_room (Nat.le_of_ble_eq_true rfl)) d_Gr_init_20 ⟨Nat.le_of_ble_eq_true rfl, Nat.le_of_ble_eq_true rfl⟩) hS (fun q _ h => hFc q h) hFc (fun u t H1 locs ht hvm hw hB hz1 hk1 hS => ?_)
  obtain ⟨x3, hP1, hK1, hD1⟩ := hB
  rw [ht] at hP1
  obtain ⟨hP, hD⟩ := va_join (wr := (pk [(h, .inr (8, [.ref x0,.null,.null,.int 0])), (x0, .inr (9, [.ref x1, .int 0])), (x1, .inl (cI, 40, .inl (fun _ => 0))), (x2, .inr (9, [.null, .int 0]))] [0, 1, 2])) (w1 := cw_Cu x2 x3 cI cZ) hP hD [3] [0, 1, 2] rfl rfl (by decide) (by decide) hk1 hFc hP1 hD1
  generalize H1 = H at hP hS ⊢
  refine W.widen (k := 4) (n := 84) (by decide) (by decide) ?_
  have hP : va_P (dC, dI) vwCl [(h, .inr (8, [.ref x0, .null, .null, .int 0])), (x0, .inr (9, [.ref x1, .int 0])), (x1, .inl (cI, 40, .inl (fun _ => 0))), (x2, .inr (9, [.ref x3, .int 0])), (x3, .inl (cI, 40, .inl (fun _ => 0)))] H := hP
  have hD : va_D A [(h, .inr (8, [.ref x0, .null, .null, .int 0])), (x0, .inr (9, [.ref x1, .int 0])), (x1, .inl (cI, 40, .inl (fun _ => 0))), (x2, .inr (9, [.ref x3, .int 0])), (x3, .inl (cI, 40, .inl (fun _ => 0)))] := hD
  refine va_putF (D := (dC, dI)) (ci := 8) (v := .ref x2) (ty := (.object "SpaceCycles$Cuts")) (C := "SpaceCycles$Grid") (T := F_Gr) (N := 4) hx hb hts (in_F i_Gr) t_Gr t_Gr_ok n_Gr hown hK hP hD hS 0 rfl rfl 1 (by decide) (hts _ (in_c k_42)) (fun _ h9 => h9) rfl hin rfl (by decide +kernel) rfl rfl (Nat.le_of_ble_eq_true rfl) d_Gr_init_23 (fun H locs hP hD hS => ?_)
  have hP : va_P (dC, dI) vwCl [(h, .inr (8, [.ref x0, .ref x2, .null, .int 0])), (x0, .inr (9, [.ref x1, .int 0])), (x1, .inl (cI, 40, .inl (fun _ => 0))), (x2, .inr (9, [.ref x3, .int 0])), (x3, .inl (cI, 40, .inl (fun _ => 0)))] H := hP
  have hD : va_D A [(h, .inr (8, [.ref x0, .ref x2, .null, .int 0])), (x0, .inr (9, [.ref x1, .int 0])), (x1, .inl (cI, 40, .inl (fun _ => 0))), (x2, .inr (9, [.ref x3, .int 0])), (x3, .inl (cI, 40, .inl (fun _ => 0)))] := hD
  refine lv_aload_n hx hb d_Gr_init_26 rfl (lv_at hl 0 rfl) ?_
  refine lv_sipush (v := 1681) hx hb d_Gr_init_27 (by decide) ?_
  refine va_newb (t0 := 0) (ty := .int) (c0 := cI) (a0 := (1681, .inl (fun _ => 0))) hx hb (hts _ (in_c k_633)) rfl rfl (fun z => z) hK hP hD hS hA (fun _ => rfl) (by decide) (by decide +kernel) (by decide) (Nat.le_of_ble_eq_true rfl) (Nat.le_of_ble_eq_true rfl) d_Gr_init_30 (fun x4 H hP hD hS => ?_)
  refine W.widen (k := 5) (n := 1765) (by decide) (by decide) ?_
  have hP : va_P (dC, dI) vwCl [(h, .inr (8, [.ref x0, .ref x2, .null, .int 0])), (x0, .inr (9, [.ref x1, .int 0])), (x1, .inl (cI, 40, .inl (fun _ => 0))), (x2, .inr (9, [.ref x3, .int 0])), (x3, .inl (cI, 40, .inl (fun _ => 0))), (x4, .inl (cI, 1681, .inl (fun _ => 0)))] H := hP
  have hD : va_D A [(h, .inr (8, [.ref x0, .ref x2, .null, .int 0])), (x0, .inr (9, [.ref x1, .int 0])), (x1, .inl (cI, 40, .inl (fun _ => 0))), (x2, .inr (9, [.ref x3, .int 0])), (x3, .inl (cI, 40, .inl (fun _ => 0))), (x4, .inl (cI, 1681, .inl (fun _ => 0)))] := hD
  refine va_putF (D := (dC, dI)) (ci := 8) (v := .ref x4) (ty := (.array .int)) (C := "SpaceCycles$Grid") (T := F_Gr) (N := 4) hx hb hts (in_F i_Gr) t_Gr t_Gr_ok n_Gr hown hK hP hD hS 0 rfl rfl 2 (by decide) (hts _ (in_c k_52)) (fun _ h9 => h9) rfl hin rfl (by decide +kernel) rfl rfl (Nat.le_of_ble_eq_true rfl) d_Gr_init_32 (fun H locs hP hD hS => ?_)
  have hP : va_P (dC, dI) vwCl [(h, .inr (8, [.ref x0, .ref x2, .ref x4, .int 0])), (x0, .inr (9, [.ref x1, .int 0])), (x1, .inl (cI, 40, .inl (fun _ => 0))), (x2, .inr (9, [.ref x3, .int 0])), (x3, .inl (cI, 40, .inl (fun _ => 0))), (x4, .inl (cI, 1681, .inl (fun _ => 0)))] H := hP
  have hD : va_D A [(h, .inr (8, [.ref x0, .ref x2, .ref x4, .int 0])), (x0, .inr (9, [.ref x1, .int 0])), (x1, .inl (cI, 40, .inl (fun _ => 0))), (x2, .inr (9, [.ref x3, .int 0])), (x3, .inl (cI, 40, .inl (fun _ => 0))), (x4, .inl (cI, 1681, .inl (fun _ => 0)))] := hD
  refine lv_aload_n hx hb d_Gr_init_35 rfl (lv_at hl 0 rfl) ?_
  refine lv_iconst (v := 0) hx hb d_Gr_init_36 (by decide) ?_
  refine va_put (D := (dC, dI)) (ci := 8) (v := .int 0) (ty := .int) (C := "SpaceCycles$Grid") (T := F_Gr) (N := 4) hx hb hts (in_F i_Gr) t_Gr t_Gr_ok n_Gr hown hK hP hD hS 0 rfl rfl 3 (by decide) (hts _ (in_c k_653)) (fun _ h9 => h9) rfl (by decide +kernel) rfl rfl (Nat.le_of_ble_eq_true rfl) d_Gr_init_37 (fun H locs hP hD hS => ?_)
  have hP : va_P (dC, dI) vwCl [(h, .inr (8, [.ref x0, .ref x2, .ref x4, .int 0])), (x0, .inr (9, [.ref x1, .int 0])), (x1, .inl (cI, 40, .inl (fun _ => 0))), (x2, .inr (9, [.ref x3, .int 0])), (x3, .inl (cI, 40, .inl (fun _ => 0))), (x4, .inl (cI, 1681, .inl (fun _ => 0)))] H := hP
  have hD : va_D A [(h, .inr (8, [.ref x0, .ref x2, .ref x4, .int 0])), (x0, .inr (9, [.ref x1, .int 0])), (x1, .inl (cI, 40, .inl (fun _ => 0))), (x2, .inr (9, [.ref x3, .int 0])), (x3, .inl (cI, 40, .inl (fun _ => 0))), (x4, .inl (cI, 1681, .inl (fun _ => 0)))] := hD
  have hP9 := hP.sub (ws' := (cw_Gr h x0 x1 x2 x3 x4 cI cZ)) [0, 1, 2, 3, 4, 5] rfl
  have hD9 := hD.sub (ws' := (cw_Gr h x0 x1 x2 x3 x4 cI cZ)) [0, 1, 2, 3, 4, 5] (by decide) rfl
  refine W.widen (k := 5) (n := 1765) (by decide) (by decide) ?_
  exact W.vret hx hb hr (fun t ht hW => ⟨⟨(), rfl, trivial, x0, x1, x2, x3, x4, by rw [ht]; exact hP9, va_K.moved hW.alike hK, hD9⟩, hS.F ht⟩) hS.2.2 d_Gr_init_40
