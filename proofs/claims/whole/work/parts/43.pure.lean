set_option maxHeartbeats 4000000 in
set_option maxRecDepth 100000 in
theorem tp_Li_length {p : Program} {l : Launch} {e : Env} {s : State} {m : MethodId} {args : Array Value} {below : List Frame} {meth : Method} {c : Code} {A : Nat → Prop} {dC : Nat → ClassId} {dI : Nat → Nat → Nat} {cI cZ cJ : ClassId} {Q : State → Prop} (a_0 a_0_lowX a_0_lowY a_0_highX a_0_highY b_0_thickness b_0_doors b_0_doorFrom b_0_doorTo : Nat) (v_0_count : Int32) (f_0_lowX : Nat → Int32) (f_0_lowY : Nat → Int32) (f_0_highX : Nat → Int32) (f_0_highY : Nat → Int32) (p1 : Int32) (R0 : Int32) (hx : p.tables.exec = Jvm.exec) (hb : c.code = b_Li_length) (hml : c.maxLocals = 2) (hown : s.vm.findClass "SpaceCycles$Lines" = some m.cls) (hts : ∀ w ∈ w_Li_length, w.before args s = true) (hK : va_K (dC, dI) vwCl [(cI, .int), (cZ, .boolean), (cJ, .long)] s) (hN : NX s) (hA : ∀ q : Nat, s.heap.size ≤ q → A q)
    (hret : ∀ (pc : Nat) (ls : Array Slot), decode b_Li_length pc = .ok (.ireturn, 1) → W p l e rm_Li_length s m args below meth c s.heap [] 0 0 Q (F0 m pc ls [.int R0]))
    (hm : m_Li_length p1 f_0_lowX f_0_lowY f_0_highX f_0_highY = some R0) (hP : va_P (dC, dI) vwCl (wl_Li_length a_0 a_0_lowX a_0_lowY a_0_highX a_0_highY b_0_thickness b_0_doors b_0_doorFrom b_0_doorTo cI v_0_count f_0_lowX f_0_lowY f_0_highX f_0_highY) s.heap) (hD : va_D A (wl_Li_length a_0 a_0_lowX a_0_lowY a_0_highX a_0_highY b_0_thickness b_0_doors b_0_doorFrom b_0_doorTo cI v_0_count f_0_lowX f_0_lowY f_0_highX f_0_highY)) (hS : va_S A s.heap s.heap []) : ∀ ls : Array Slot, lv_has ls 2 [(0, .ref a_0), (1, .int p1)] → W p l e rm_Li_length s m args below meth c s.heap [] 0 0 Q (F0 m 0 ls []) := by
  intro ls hl
  unfold m_Li_length at hm
  refine lv_aload_n hx hb d_Li_length_0 rfl (lv_at hl 0 rfl) ?_
  refine va_get (D := (dC, dI)) (ci := 1) (v := .ref a_0_highX) (C := "SpaceCycles$Lines") (T := F_Li) (N := 9) hx hb hts (in_F i_Li) hown hK hP 0 rfl rfl 2 (by decide) (hts _ (in_c k_17)) (fun _ h9 => h9) rfl d_Li_length_1 ?_
  refine lv_iload_n hx hb d_Li_length_4 rfl (lv_at hl 1 rfl) ?_
  obtain ⟨hi1, hm⟩ := gI_e hm
  refine va_iald hx hb hK hP 3 0 rfl rfl hi1 d_Li_length_5 ?_
  refine lv_aload_n hx hb d_Li_length_6 rfl (lv_at hl 0 rfl) ?_
  refine va_get (D := (dC, dI)) (ci := 1) (v := .ref a_0_lowX) (C := "SpaceCycles$Lines") (T := F_Li) (N := 9) hx hb hts (in_F i_Li) hown hK hP 0 rfl rfl 0 (by decide) (hts _ (in_c k_15)) (fun _ h9 => h9) rfl d_Li_length_7 ?_
  refine lv_iload_n hx hb d_Li_length_10 rfl (lv_at hl 1 rfl) ?_
  obtain ⟨hi2, hm⟩ := gI_e hm
  refine va_iald hx hb hK hP 1 0 rfl rfl hi2 d_Li_length_11 ?_
  refine lv_isub hx hb d_Li_length_12 ?_
  refine lv_aload_n hx hb d_Li_length_13 rfl (lv_at hl 0 rfl) ?_
  refine va_get (D := (dC, dI)) (ci := 1) (v := .ref a_0_highY) (C := "SpaceCycles$Lines") (T := F_Li) (N := 9) hx hb hts (in_F i_Li) hown hK hP 0 rfl rfl 3 (by decide) (hts _ (in_c k_18)) (fun _ h9 => h9) rfl d_Li_length_14 ?_
  refine lv_iload_n hx hb d_Li_length_17 rfl (lv_at hl 1 rfl) ?_
  obtain ⟨hi3, hm⟩ := gI_e hm
  refine va_iald hx hb hK hP 4 0 rfl rfl hi3 d_Li_length_18 ?_
  refine lv_iadd hx hb d_Li_length_19 ?_
  refine lv_aload_n hx hb d_Li_length_20 rfl (lv_at hl 0 rfl) ?_
  refine va_get (D := (dC, dI)) (ci := 1) (v := .ref a_0_lowY) (C := "SpaceCycles$Lines") (T := F_Li) (N := 9) hx hb hts (in_F i_Li) hown hK hP 0 rfl rfl 1 (by decide) (hts _ (in_c k_16)) (fun _ h9 => h9) rfl d_Li_length_21 ?_
  refine lv_iload_n hx hb d_Li_length_24 rfl (lv_at hl 1 rfl) ?_
  obtain ⟨hi4, hm⟩ := gI_e hm
  refine va_iald hx hb hK hP 2 0 rfl rfl hi4 d_Li_length_25 ?_
  refine lv_isub hx hb d_Li_length_26 ?_
  cases hm
  exact hret _ ls d_Li_length_27
set_option maxHeartbeats 4000000 in
set_option maxRecDepth 100000 in
theorem cp_Li_length (l : Launch) (dC : Nat → ClassId) (dI : Nat → Nat → Nat) {cI cZ cJ : ClassId} (a_0 a_0_lowX a_0_lowY a_0_highX a_0_highY b_0_thickness b_0_doors b_0_doorFrom b_0_doorTo : Nat) (sz : Nat) (v_0_count : Int32) (f_0_lowX : Nat → Int32) (f_0_lowY : Nat → Int32) (f_0_highX : Nat → Int32) (f_0_highY : Nat → Int32) (p1 : Int32) (R0 : Int32) (hm : m_Li_length p1 f_0_lowX f_0_lowY f_0_highX f_0_highY = some R0) : Met l y_Li_length w_Li_length rm_Li_length (PP dC dI [(cI, .int), (cZ, .boolean), (cJ, .long)] [.ref a_0, .int p1] sz (wl_Li_length a_0 a_0_lowX a_0_lowY a_0_highX a_0_highY b_0_thickness b_0_doors b_0_doorFrom b_0_doorTo cI v_0_count f_0_lowX f_0_lowY f_0_highX f_0_highY)) (QPI R0) 0 0 (fun _ => False) := by
  refine Met.ofW (cc := b_Li_length) (maxL := 2) (ret := (some .int)) (by decide) rfl ?_
  intro p e s m args below meth c s₁ B hml hv
  obtain ⟨rfl, hsz, hP, hK, hD0, hN⟩ := hv
  subst hsz
  have hl := lv_entry ([.ref a_0, .int p1]) (n := 2) (Nat.le_of_ble_eq_true rfl)
  rw [lg_entry_eq]
  generalize (lg_sl ([.ref a_0, .int p1]) ++ List.replicate (2 - (lg_sl ([.ref a_0, .int p1])).length) Slot.unset).toArray = ls at hl ⊢
  exact tp_Li_length (A := va_A (wl_Li_length a_0 a_0_lowX a_0_lowY a_0_highX a_0_highY b_0_thickness b_0_doors b_0_doorFrom b_0_doorTo cI v_0_count f_0_lowX f_0_lowY f_0_highX f_0_highY) s.heap.size) a_0 a_0_lowX a_0_lowY a_0_highX a_0_highY b_0_thickness b_0_doors b_0_doorFrom b_0_doorTo v_0_count f_0_lowX f_0_lowY f_0_highX f_0_highY p1 R0 B.exec B.bytes hml (findClass_of_methodNamed B.named) (atoms_spec (ws := w_Li_length) B.pre) hK hN (fun q h => Or.inr h) (fun pc ls hd => W.iret B.exec B.bytes B.returns (fun t ht hW => ⟨⟨_, (), rfl, rfl, trivial⟩, by rw [ht]; exact Nat.le_refl _, fun q _ _ => by rw [ht]⟩) (fun q h => by cases h) hd) hm hP hD0.self va_S.rf ls hl

set_option maxHeartbeats 4000000 in
set_option maxRecDepth 100000 in
theorem tp_Ri_find {p : Program} {l : Launch} {e : Env} {s : State} {m : MethodId} {args : Array Value} {below : List Frame} {meth : Method} {c : Code} {A : Nat → Prop} {dC : Nat → ClassId} {dI : Nat → Nat → Nat} {cI cZ cJ : ClassId} {Q : State → Prop} (a_0 a_0_spaces b_0_order b_0_gone b_0_starts : Nat) (v_0_count : Int32) (v_0_filled : Int32) (f_0_spaces : Nat → Int32) (p1 : Int32) (p2 : Int32) (R0 : Int32) (hx : p.tables.exec = Jvm.exec) (hb : c.code = b_Ri_find) (hml : c.maxLocals = 5) (hown : s.vm.findClass "SpaceCycles$Rings" = some m.cls) (hts : ∀ w ∈ w_Ri_find, w.before args s = true) (hK : va_K (dC, dI) vwCl [(cI, .int), (cZ, .boolean), (cJ, .long)] s) (hN : NX s) (hA : ∀ q : Nat, s.heap.size ≤ q → A q)
    (hret : ∀ (pc : Nat) (ls : Array Slot), decode b_Ri_find pc = .ok (.ireturn, 1) → W p l e rm_Ri_find s m args below meth c s.heap [] 0 0 Q (F0 m pc ls [.int R0]))
    (hm : m_Ri_find p1 p2 v_0_count f_0_spaces = some R0) (hP : va_P (dC, dI) vwCl (wl_Ri_find a_0 a_0_spaces b_0_order b_0_gone b_0_starts cI v_0_count v_0_filled f_0_spaces) s.heap) (hD : va_D A (wl_Ri_find a_0 a_0_spaces b_0_order b_0_gone b_0_starts cI v_0_count v_0_filled f_0_spaces)) (hS : va_S A s.heap s.heap []) : ∀ ls : Array Slot, lv_has ls 5 [(0, .ref a_0), (1, .int p1), (2, .int p2)] → W p l e rm_Ri_find s m args below meth c s.heap [] 0 0 Q (F0 m 0 ls []) := by
  intro ls hl
  unfold m_Ri_find at hm
  refine lv_iload_n hx hb d_Ri_find_0 rfl (lv_at hl 2 rfl) ?_
  refine lv_istore_n (lv' := [(3, .int p2), (0, .ref a_0), (1, .int p1), (2, .int p2)]) hx hb d_Ri_find_1 rfl hl (by decide) rfl (fun ls hl => ?_)
  refine lv_iconst (v := 0) hx hb d_Ri_find_2 (by decide) ?_
  refine lv_istore (lv' := [(4, .int 0), (3, .int p2), (0, .ref a_0), (1, .int p1), (2, .int p2)]) hx hb d_Ri_find_3 hl (by decide) rfl (fun ls hl => ?_)
  have L5_3 : ∀ (n : Nat) (x1 : Int32) (x2 : Int32) (z : Sum (Int32) (Unit)), m_Ri_find_L5 p1 v_0_count f_0_spaces n x1 x2 = some z → (∀ r, z = Sum.inl r → R0 = r) → (z = Sum.inr () → ∀ (ls : Array Slot), lv_has ls 5 [] → W p l e rm_Ri_find s m args below meth c s.heap [] 0 0 Q (F0 m 45 ls [])) → ∀ (ls : Array Slot), lv_has ls 5 [(0, .ref a_0), (1, .int p1), (3, .int x1), (4, .int x2)] → W p l e rm_Ri_find s m args below meth c s.heap [] 0 0 Q (F0 m 5 ls []) := by
    intro n
    induction n with
    | zero => intro x1 x2 z hm; simp [m_Ri_find_L5] at hm
    | succ n ih =>
      intro x1 x2 z hm KR KE ls hl
      rw [m_Ri_find_L5] at hm
      refine lv_iload hx hb d_Ri_find_5 (lv_at hl 3 rfl) ?_
      refine lv_aload_n hx hb d_Ri_find_7 rfl (lv_at hl 0 rfl) ?_
      refine va_get (D := (dC, dI)) (ci := 4) (v := .int v_0_count) (C := "SpaceCycles$Rings") (T := F_Ri) (N := 6) hx hb hts (in_F i_Ri) hown hK hP 0 rfl rfl 4 (by decide) (hts _ (in_c k_222)) (fun _ h9 => h9) rfl d_Ri_find_8 ?_
      refine lv_icmp_ge (tgt := 45) hx hb d_Ri_find_11 (by decide) (fun c4 => ?_) (fun c4 => ?_)
      · replace hm := if_t hm c4
        cases hm
        exact KE  rfl ls (lv_sub hl [] rfl)
      · replace hm := if_f hm c4
        refine lv_iload_n hx hb d_Ri_find_14 rfl (lv_at hl 2 rfl) ?_
        refine lv_if_lt (tgt := 45) hx hb d_Ri_find_15 (by decide) (fun c5 => ?_) (fun c5 => ?_)
        · replace hm := if_t hm c5
          cases hm
          exact KE  rfl ls (lv_sub hl [] rfl)
        · replace hm := if_f hm c5
          refine lv_aload_n hx hb d_Ri_find_18 rfl (lv_at hl 0 rfl) ?_
          refine va_get (D := (dC, dI)) (ci := 4) (v := .ref a_0_spaces) (C := "SpaceCycles$Rings") (T := F_Ri) (N := 6) hx hb hts (in_F i_Ri) hown hK hP 0 rfl rfl 3 (by decide) (hts _ (in_c k_221)) (fun _ h9 => h9) rfl d_Ri_find_19 ?_
          refine lv_iload hx hb d_Ri_find_22 (lv_at hl 3 rfl) ?_
          obtain ⟨hi6, hm⟩ := gI_e hm
          refine va_iald hx hb hK hP 1 0 rfl rfl hi6 d_Ri_find_24 ?_
          refine lv_iload_n hx hb d_Ri_find_25 rfl (lv_at hl 1 rfl) ?_
          obtain ⟨zhz9, hb8, hz9, hm⟩ := bt1_z hm
          have K7 : ∀ (x10 : Int32) , zhz9 = Sum.inr x10 → ∀ (ls : Array Slot), lv_has ls 5 [(0, .ref a_0), (1, .int p1), (3, .int x10), (4, .int x2)] → W p l e rm_Ri_find s m args below meth c s.heap [] 0 0 Q (F0 m 39 ls []) := by
            intro x10 hq ls hl
            replace hm := hm _ hq
            obtain ⟨x14, ex14⟩ : ∃ y : Int32, y = x2 + 1 := ⟨_, rfl⟩
            replace hm := lt_el hm ex14
            refine lv_iinc (v := x14) (lv' := [(4, .int x14), (0, .ref a_0), (1, .int p1), (3, .int x10)]) hx hb d_Ri_find_39 hl (k := 3) rfl (by rw [ex14]; rfl) (by decide) rfl (fun ls hl => ?_)
            refine lv_goto (tgt := 5) hx hb d_Ri_find_42 (by decide) ?_
            exact ih _ _ _ hm KR KE ls (lv_sub hl [1, 2, 3, 0] rfl)
          replace hm := hb8
          refine lv_icmp_ne (tgt := 39) hx hb d_Ri_find_26 (by decide) (fun c11 => ?_) (fun c11 => ?_)
          · replace hm := if_f hm c11
            cases hm
            exact K7 _ rfl ls (lv_sub hl [0, 1, 2, 3] rfl)
          · replace hm := if_t hm c11
            refine lv_iload_n hx hb d_Ri_find_29 rfl (lv_at hl 2 rfl) ?_
            refine lv_if_ne (tgt := 36) hx hb d_Ri_find_30 (by decide) (fun c12 => ?_) (fun c12 => ?_)
            · replace hm := if_f hm c12
              obtain ⟨x13, ex13⟩ : ∃ y : Int32, y = x1 + (-1) := ⟨_, rfl⟩
              replace hm := lt_el hm ex13
              refine lv_iinc (v := x13) (lv' := [(3, .int x13), (0, .ref a_0), (1, .int p1), (4, .int x2)]) hx hb d_Ri_find_36 hl (k := 2) rfl (by rw [ex13]; rfl) (by decide) rfl (fun ls hl => ?_)
              cases hm
              exact K7 _ rfl ls (lv_sub hl [1, 2, 0, 3] rfl)
            · replace hm := if_t hm c12
              refine lv_iload hx hb d_Ri_find_33 (lv_at hl 3 rfl) ?_
              cases hm
              cases (KR _ (hz9 _ rfl))
              exact hret _ ls d_Ri_find_35
  obtain ⟨zhz16, hb15, hz16, hm⟩ := bs0_z hm
  refine L5_3 fu _ _ _ hb15 (fun r hr => hz16 r hr) (fun  hq ls hl => ?_) ls (lv_sub hl [2, 3, 1, 0] rfl)
  replace hm := hm  hq
  refine lv_iconst (v := (-1)) hx hb d_Ri_find_45 (by decide) ?_
  cases hm
  exact hret _ ls d_Ri_find_46
set_option maxHeartbeats 4000000 in
set_option maxRecDepth 100000 in
theorem cp_Ri_find (l : Launch) (dC : Nat → ClassId) (dI : Nat → Nat → Nat) {cI cZ cJ : ClassId} (a_0 a_0_spaces b_0_order b_0_gone b_0_starts : Nat) (sz : Nat) (v_0_count : Int32) (v_0_filled : Int32) (f_0_spaces : Nat → Int32) (p1 : Int32) (p2 : Int32) (R0 : Int32) (hm : m_Ri_find p1 p2 v_0_count f_0_spaces = some R0) : Met l y_Ri_find w_Ri_find rm_Ri_find (PP dC dI [(cI, .int), (cZ, .boolean), (cJ, .long)] [.ref a_0, .int p1, .int p2] sz (wl_Ri_find a_0 a_0_spaces b_0_order b_0_gone b_0_starts cI v_0_count v_0_filled f_0_spaces)) (QPI R0) 0 0 (fun _ => False) := by
  refine Met.ofW (cc := b_Ri_find) (maxL := 5) (ret := (some .int)) (by decide) rfl ?_
  intro p e s m args below meth c s₁ B hml hv
  obtain ⟨rfl, hsz, hP, hK, hD0, hN⟩ := hv
  subst hsz
  have hl := lv_entry ([.ref a_0, .int p1, .int p2]) (n := 5) (Nat.le_of_ble_eq_true rfl)
  rw [lg_entry_eq]
  generalize (lg_sl ([.ref a_0, .int p1, .int p2]) ++ List.replicate (5 - (lg_sl ([.ref a_0, .int p1, .int p2])).length) Slot.unset).toArray = ls at hl ⊢
  exact tp_Ri_find (A := va_A (wl_Ri_find a_0 a_0_spaces b_0_order b_0_gone b_0_starts cI v_0_count v_0_filled f_0_spaces) s.heap.size) a_0 a_0_spaces b_0_order b_0_gone b_0_starts v_0_count v_0_filled f_0_spaces p1 p2 R0 B.exec B.bytes hml (findClass_of_methodNamed B.named) (atoms_spec (ws := w_Ri_find) B.pre) hK hN (fun q h => Or.inr h) (fun pc ls hd => W.iret B.exec B.bytes B.returns (fun t ht hW => ⟨⟨_, (), rfl, rfl, trivial⟩, by rw [ht]; exact Nat.le_refl _, fun q _ _ => by rw [ht]⟩) (fun q h => by cases h) hd) hm hP hD0.self va_S.rf ls hl

set_option maxHeartbeats 4000000 in
set_option maxRecDepth 100000 in
theorem tp_Ri_lengthOf {p : Program} {l : Launch} {e : Env} {s : State} {m : MethodId} {args : Array Value} {below : List Frame} {meth : Method} {c : Code} {A : Nat → Prop} {dC : Nat → ClassId} {dI : Nat → Nat → Nat} {cI cZ cJ : ClassId} {Q : State → Prop} (a_0 a_0_starts b_0_order b_0_gone b_0_spaces : Nat) (v_0_count : Int32) (v_0_filled : Int32) (f_0_starts : Nat → Int32) (p1 : Int32) (R0 : Int32) (hx : p.tables.exec = Jvm.exec) (hb : c.code = b_Ri_lengthOf) (hml : c.maxLocals = 2) (hown : s.vm.findClass "SpaceCycles$Rings" = some m.cls) (hts : ∀ w ∈ w_Ri_lengthOf, w.before args s = true) (hK : va_K (dC, dI) vwCl [(cI, .int), (cZ, .boolean), (cJ, .long)] s) (hN : NX s) (hA : ∀ q : Nat, s.heap.size ≤ q → A q)
    (hret : ∀ (pc : Nat) (ls : Array Slot), decode b_Ri_lengthOf pc = .ok (.ireturn, 1) → W p l e rm_Ri_lengthOf s m args below meth c s.heap [] 0 0 Q (F0 m pc ls [.int R0]))
    (hm : m_Ri_lengthOf p1 f_0_starts = some R0) (hP : va_P (dC, dI) vwCl (wl_Ri_lengthOf a_0 a_0_starts b_0_order b_0_gone b_0_spaces cI v_0_count v_0_filled f_0_starts) s.heap) (hD : va_D A (wl_Ri_lengthOf a_0 a_0_starts b_0_order b_0_gone b_0_spaces cI v_0_count v_0_filled f_0_starts)) (hS : va_S A s.heap s.heap []) : ∀ ls : Array Slot, lv_has ls 2 [(0, .ref a_0), (1, .int p1)] → W p l e rm_Ri_lengthOf s m args below meth c s.heap [] 0 0 Q (F0 m 0 ls []) := by
  intro ls hl
  unfold m_Ri_lengthOf at hm
  refine lv_aload_n hx hb d_Ri_lengthOf_0 rfl (lv_at hl 0 rfl) ?_
  refine va_get (D := (dC, dI)) (ci := 4) (v := .ref a_0_starts) (C := "SpaceCycles$Rings") (T := F_Ri) (N := 6) hx hb hts (in_F i_Ri) hown hK hP 0 rfl rfl 2 (by decide) (hts _ (in_c k_227)) (fun _ h9 => h9) rfl d_Ri_lengthOf_1 ?_
  refine lv_iload_n hx hb d_Ri_lengthOf_4 rfl (lv_at hl 1 rfl) ?_
  refine lv_iconst (v := 1) hx hb d_Ri_lengthOf_5 (by decide) ?_
  refine lv_iadd hx hb d_Ri_lengthOf_6 ?_
  obtain ⟨hi1, hm⟩ := gI_e hm
  refine va_iald hx hb hK hP 1 0 rfl rfl hi1 d_Ri_lengthOf_7 ?_
  refine lv_aload_n hx hb d_Ri_lengthOf_8 rfl (lv_at hl 0 rfl) ?_
  refine va_get (D := (dC, dI)) (ci := 4) (v := .ref a_0_starts) (C := "SpaceCycles$Rings") (T := F_Ri) (N := 6) hx hb hts (in_F i_Ri) hown hK hP 0 rfl rfl 2 (by decide) (hts _ (in_c k_227)) (fun _ h9 => h9) rfl d_Ri_lengthOf_9 ?_
  refine lv_iload_n hx hb d_Ri_lengthOf_12 rfl (lv_at hl 1 rfl) ?_
  obtain ⟨hi2, hm⟩ := gI_e hm
  refine va_iald hx hb hK hP 1 0 rfl rfl hi2 d_Ri_lengthOf_13 ?_
  refine lv_isub hx hb d_Ri_lengthOf_14 ?_
  cases hm
  exact hret _ ls d_Ri_lengthOf_15
set_option maxHeartbeats 4000000 in
set_option maxRecDepth 100000 in
theorem cp_Ri_lengthOf (l : Launch) (dC : Nat → ClassId) (dI : Nat → Nat → Nat) {cI cZ cJ : ClassId} (a_0 a_0_starts b_0_order b_0_gone b_0_spaces : Nat) (sz : Nat) (v_0_count : Int32) (v_0_filled : Int32) (f_0_starts : Nat → Int32) (p1 : Int32) (R0 : Int32) (hm : m_Ri_lengthOf p1 f_0_starts = some R0) : Met l y_Ri_lengthOf w_Ri_lengthOf rm_Ri_lengthOf (PP dC dI [(cI, .int), (cZ, .boolean), (cJ, .long)] [.ref a_0, .int p1] sz (wl_Ri_lengthOf a_0 a_0_starts b_0_order b_0_gone b_0_spaces cI v_0_count v_0_filled f_0_starts)) (QPI R0) 0 0 (fun _ => False) := by
  refine Met.ofW (cc := b_Ri_lengthOf) (maxL := 2) (ret := (some .int)) (by decide) rfl ?_
  intro p e s m args below meth c s₁ B hml hv
  obtain ⟨rfl, hsz, hP, hK, hD0, hN⟩ := hv
  subst hsz
  have hl := lv_entry ([.ref a_0, .int p1]) (n := 2) (Nat.le_of_ble_eq_true rfl)
  rw [lg_entry_eq]
  generalize (lg_sl ([.ref a_0, .int p1]) ++ List.replicate (2 - (lg_sl ([.ref a_0, .int p1])).length) Slot.unset).toArray = ls at hl ⊢
  exact tp_Ri_lengthOf (A := va_A (wl_Ri_lengthOf a_0 a_0_starts b_0_order b_0_gone b_0_spaces cI v_0_count v_0_filled f_0_starts) s.heap.size) a_0 a_0_starts b_0_order b_0_gone b_0_spaces v_0_count v_0_filled f_0_starts p1 R0 B.exec B.bytes hml (findClass_of_methodNamed B.named) (atoms_spec (ws := w_Ri_lengthOf) B.pre) hK hN (fun q h => Or.inr h) (fun pc ls hd => W.iret B.exec B.bytes B.returns (fun t ht hW => ⟨⟨_, (), rfl, rfl, trivial⟩, by rw [ht]; exact Nat.le_refl _, fun q _ _ => by rw [ht]⟩) (fun q h => by cases h) hd) hm hP hD0.self va_S.rf ls hl
