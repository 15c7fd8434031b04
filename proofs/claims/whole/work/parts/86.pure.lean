theorem q_dr_add {n : Nat} {dn df dt : Nat → Nat} {fn ff ft : Nat → Int32} (hn : n ≤ 20) (hd : q_dr n dn df dt fn ff ft) {k u w : Nat} (hk : k < n) (h6 : dn k < 6) (hu : u ≤ 500) (hw : w ≤ 500) :
    q_dr n (q_sN dn k (dn k + 1)) (q_sN df (6 * k + dn k) u) (q_sN dt (6 * k + dn k) w) (upd fn k (N (dn k + 1))) (upd ff (6 * k + dn k) (N u)) (upd ft (6 * k + dn k) (N w)) := by
  intro l hl
  obtain ⟨a, b, c⟩ := hd l hl
  by_cases e : l = k
  · subst e
    refine ⟨?_, ?_, ?_⟩
    · rw [upd_s]; unfold q_sN; rw [if_pos rfl]
    · unfold q_sN; rw [if_pos rfl]; omega
    · intro d h
      unfold q_sN at *
      rw [if_pos rfl] at h
      by_cases e' : d = dn l
      · subst e'
        rw [upd_s, upd_s, if_pos rfl, if_pos rfl]
        exact ⟨rfl, rfl, hu, hw⟩
      · rw [upd_n _ _ (by omega), upd_n _ _ (by omega), if_neg (by omega), if_neg (by omega)]
        exact c d (by omega)
  · refine ⟨?_, ?_, ?_⟩
    · rw [upd_n _ _ e]; unfold q_sN; rw [if_neg e]; exact a
    · unfold q_sN; rw [if_neg e]; exact b
    · intro d h
      unfold q_sN at *
      rw [if_neg e] at h
      rw [upd_n _ _ (by omega), upd_n _ _ (by omega), if_neg (by omega), if_neg (by omega)]
      exact c d h
theorem q_door {n : Nat} {T : Sto} {tk dn df dt : Nat → Nat} {f1 f2 f3 f4 th fn ff ft fI fA fL fH th' fn' ff' ft' : Nat → Int32} (h : q_LI n T tk dn df dt f1 f2 f3 f4 th fn ff ft fI fA fL fH th' fn' ff' ft') (p1 p2 p3 cd : Int32) :
    (∃ k : Nat, (k = 1 ∨ k = 2) ∧ m_Sp_door p1 p2 p3 (N n) f1 f2 f3 f4 fn ff ft = some (Sum.inl k) ∧ m_Mo_door p1 p2 p3 cd (N n) fL fH fn' ff' ft' = some (0, N k, fn', ff', ft')) ∨
    (∃ dn' df' dt' g1 g2 g3 g1' g2' g3' r, m_Sp_door p1 p2 p3 (N n) f1 f2 f3 f4 fn ff ft = some (Sum.inr (r, g1, g2, g3)) ∧ m_Mo_door p1 p2 p3 cd (N n) fL fH fn' ff' ft' = some (r, 0, g1', g2', g3') ∧ q_LI n T tk dn' df' dt' f1 f2 f3 f4 th g1 g2 g3 fI fA fL fH th' g1' g2' g3') := by
  have hn := h.1.1
  have b1 := J_bd p1
  have b2 := J_bd p2
  have b3 := J_bd p3
  rw [J_of p1, J_of p2, J_of p3]
  generalize p1.toInt = z at *
  generalize p2.toInt = u at *
  generalize p3.toInt = w at *
  unfold m_Sp_door m_Mo_door
  rw [q_needL b1 (by omega), bd1_i (q_isLine b1 (by omega))]
  by_cases A : 0 ≤ z ∧ z < n
  case neg =>
    left
    rw [if_neg A, if_pos ((q_one0 _).mpr A)]
    exact ⟨1, Or.inl rfl, rfl, rfl⟩
  rw [if_pos A, if_neg (fun q => (q_one0 _).mp q A), bx0_r]
  obtain ⟨k, rfl⟩ : ∃ k : Nat, (k : Int) = z := ⟨z.toNat, by omega⟩
  have hk : k < n := by omega
  obtain ⟨g1, g2, g3, g4⟩ := h.2.1 k hk
  obtain ⟨r1, r2, r3, r4⟩ := q_rl_g h.2.2.1 hk
  have hq := h.1.2.1 k hk
  unfold q_ln at hq
  have gl : ∀ {α : Type} (x : Option α), gI (J k) 20 x = x := fun x => gI_J (by omega) (by omega) (by omega)
  have jn : (J k).toNatClampNeg = k := N_nat (by omega)
  obtain ⟨a1, a2, a3, a4, a5, a6, a7, a8⟩ := h
  obtain ⟨d1, d2, d3⟩ := a6 k hk
  obtain ⟨d1', _, d3'⟩ := a7 k hk
  obtain ⟨len, hlen⟩ : ∃ len : Nat, (len : Int) = (xh T k : Int) - xl T k + yh T k - yl T k := ⟨((xh T k : Int) - xl T k + yh T k - yl T k).toNat, by omega⟩
  have lb : len ≤ 500 := by omega
  have eL : m_Li_length (J k) f1 f2 f3 f4 = some (J len) := by
    unfold m_Li_length
    rw [gl, gl, gl, gl, jn, g1, g2, g3, g4, N_J, N_J, N_J, N_J, J_sub, J_add, J_sub, hlen]
  have eR : fH k - fL k = J len := by
    rw [r3, r4, N_J, N_J, J_sub]
    unfold q_hi q_lo
    congr 1
    split <;> omega
  rw [bd1_i eL, bd1_i eL, show (0 : Int32) = J 0 from rfl, q_needB b2 (by omega) (by omega), q_needB b3 (by omega) (by omega)]
  simp only [gl, jn]
  rw [eR, d1, d1']
  have c1 : (J u < J 0) ↔ u < 0 := J_lt (by omega) (by omega) (by omega) (by omega)
  have c2 : (J w ≤ J u) ↔ w ≤ u := J_le (by omega) (by omega) (by omega) (by omega)
  have c3 : (J len < J w) ↔ (len : Int) < w := J_lt (by omega) (by omega) (by omega) (by omega)
  have c4 : (J u < J w) ↔ u < w := J_lt (by omega) (by omega) (by omega) (by omega)
  have c5 : (N (dn k) < 6) ↔ dn k < 6 := N_lt (b := 6) (by omega) (by omega)
  have c6 : (N (dn k) = 6) ↔ dn k = 6 := N_eq (b := 6) (by omega) (by omega)
  have eP : (if J u < J 0 then some (J 0) else if J w ≤ J u then some (J 0) else if J len < J w then some (J 0) else some (1 : Int32)) = some (N (q_one (0 ≤ u ∧ u < w ∧ w ≤ len))) := by
    by_cases z1 : u < 0
    · rw [if_pos (c1.mpr z1), q_one_f (by omega)]; rfl
    · rw [if_neg (fun q => z1 (c1.mp q))]
      by_cases z2 : w ≤ u
      · rw [if_pos (c2.mpr z2), q_one_f (by omega)]; rfl
      · rw [if_neg (fun q => z2 (c2.mp q))]
        by_cases z3 : (len : Int) < w
        · rw [if_pos (c3.mpr z3), q_one_f (by omega)]; rfl
        · rw [if_neg (fun q => z3 (c3.mp q)), q_one_t (by omega)]; rfl
  rw [bd1_i eP]
  by_cases P : 0 ≤ u ∧ u < w ∧ w ≤ len
  case neg =>
    left
    refine ⟨1, Or.inl rfl, ?_, ?_⟩
    · by_cases z1 : 0 ≤ u ∧ u ≤ len
      · rw [if_pos z1, bx0_r]
        by_cases z2 : 0 ≤ w ∧ w ≤ len
        · rw [if_pos z2, bx0_r, if_neg (fun q => by have := c4.mp q; omega)]
        · rw [if_neg z2]; rfl
      · rw [if_neg z1]; rfl
    · rw [if_pos (show N (q_one (0 ≤ u ∧ u < w ∧ w ≤ len)) = J 0 from (q_one0 _).mpr P)]
      rfl
  rw [if_pos (show 0 ≤ u ∧ u ≤ len by omega), if_pos (show 0 ≤ w ∧ w ≤ len by omega), bx0_r, bx0_r, if_pos (c4.mpr P.2.1), if_neg (show ¬ N (q_one (0 ≤ u ∧ u < w ∧ w ≤ len)) = J 0 from fun q => (q_one0 _).mp q P)]
  by_cases s6 : dn k < 6
  case neg =>
    left
    refine ⟨2, Or.inr rfl, ?_, ?_⟩
    · rw [if_neg (fun q => s6 (c5.mp q))]
    · rw [if_pos (c6.mpr (by omega))]; rfl
  right
  rw [if_pos (c5.mpr s6), if_neg (fun q => by have := c6.mp q; omega), bd1_i rfl, if_pos (show J 0 ≤ J 0 by decide)]
  obtain ⟨u', rfl⟩ : ∃ k : Nat, (k : Int) = u := ⟨u.toNat, by omega⟩
  obtain ⟨w', rfl⟩ : ∃ k : Nat, (k : Int) = w := ⟨w.toNat, by omega⟩
  have i6 : J (k : Int) * 6 + N (dn k) = N (6 * k + dn k) := by
    rw [show J (k : Int) = N k from rfl, N_lit 6, N_mul, N_add, Nat.mul_comm]
  have i6' : 6 * J (k : Int) + N (dn k) = N (6 * k + dn k) := by
    rw [show J (k : Int) = N k from rfl, N_lit 6, N_mul, N_add]
  have g6 : ∀ {α : Type} (x : Option α), gI (N (6 * k + dn k)) 120 x = x := fun x => gI_N (by omega) (by omega)
  have j6 : (N (6 * k + dn k)).toNatClampNeg = 6 * k + dn k := N_nat (by omega)
  have hA : q_LI n T tk (q_sN dn k (dn k + 1)) (q_sN df (6 * k + dn k) u') (q_sN dt (6 * k + dn k) w') f1 f2 f3 f4 th (upd fn k (N (dn k + 1))) (upd ff (6 * k + dn k) (N u')) (upd ft (6 * k + dn k) (N w')) fI fA fL fH th' (upd fn' k (N (dn k + 1))) (upd ff' (6 * k + dn k) (N u')) (upd ft' (6 * k + dn k) (N w')) :=
    ⟨a1, a2, a3, a4, a5, q_dr_add hn a6 hk s6 (by omega) (by omega), q_dr_add hn a7 hk s6 (by omega) (by omega), fun l h1 h2 => by rw [upd_n _ _ (by omega)]; exact a8 l h1 h2⟩
  refine ⟨_, _, _, _, _, _, _, _, _, N (dn k + 1), ?_, ?_, hA⟩
  · unfold m_Li_addDoor
    simp only [gl, jn, d1, i6, lt_e, g6, j6, upd_s]
    rw [N_lit 1, N_add]
    rfl
  · simp only [d1', i6', lt_e, g6, j6, upd_s]
    rw [N_lit 1, N_add]
    rfl
/-! Neighbours. -/
theorem q_mk0 {n0 : Nat} (hn : n0 < 2147483648) : ∀ fuel k (f : Nat → Int32), n0 - k < fuel → k ≤ n0 → m_Ne_markNeighbours_L2 n0 fuel (N k) f = some (fun j => if k ≤ j ∧ j < n0 then 0 else f j) := by
  intro fuel
  induction fuel with
  | zero => intro k f h; omega
  | succ m ih =>
    intro k f hm hk
    rw [m_Ne_markNeighbours_L2, ofNat_N]
    by_cases e : n0 ≤ k
    · rw [if_pos ((N_le (by omega) (by omega)).mpr e)]
      congr 1
      funext j
      rw [if_neg (by omega)]
    · rw [if_neg (fun q => e ((N_le (by omega) (by omega)).mp q)), gI_N (by omega) (by omega), N_nat (by omega), lt_e, lt_e, q_nar0, N_lit 1, N_add, ih (k + 1) _ (by omega) (by omega)]
      congr 1
      funext j
      unfold upd
      by_cases c1 : j = k
      · rw [if_neg (by omega), if_pos c1, if_pos (by omega)]
      · rw [if_neg c1]
        by_cases c2 : k + 1 ≤ j ∧ j < n0
        · rw [if_pos c2, if_pos (by omega)]
        · rw [if_neg c2, if_neg (by omega)]
def q_mkd (I : Sto) (P : Pcs) (F : Ce → Int) (s : Int) (l j : Nat) : Prop := (j : Int) - 1 ≠ s ∧ ∃ h, h < l ∧ q_lf I P F h = s ∧ q_lf I P F (q_rv h) = (j : Int) - 1
theorem q_mk_L {n : Nat} {I : Sto} {nx ny : Nat} {F : Ce → Int} {ns : Nat} {pl be di le : Nat → Int32} (hg : q_gi n I nx ny) (hF : q_labs n I nx ny F ns) (hns : ns ≤ 81) (hc : q_cp n I F (q_NP n I) (q_PP n I) pl be di le) {s : Int} (hs : -1 ≤ s ∧ s ≤ 1000) :
    ∀ fuel l (f : Nat → Int32), 2 * q_NP n I - l < fuel → l ≤ 2 * q_NP n I → (∀ j, j < 82 → f j = N (q_one (q_mkd I (q_PP n I) F s l j))) → ∃ g : Nat → Int32, m_Ne_markNeighbours_L20 (J s) 82 (N (q_NP n I)) le fuel (N l) f = some g ∧ ∀ j, j < 82 → g j = N (q_one (q_mkd I (q_PP n I) F s (2 * q_NP n I) j)) := by
  have h220 := q_NP_220 hg
  intro fuel
  induction fuel with
  | zero => intro l f h; omega
  | succ m ih =>
    intro l f hm hl hf
    rw [m_Ne_markNeighbours_L20, N_lit 2, N_mul]
    by_cases e : 2 * q_NP n I ≤ l
    · rw [if_pos ((N_le (by omega) (by omega)).mpr e)]
      have : l = 2 * q_NP n I := by omega
      subst this
      exact ⟨f, rfl, hf⟩
    · have hl' : l < 2 * q_NP n I := by omega
      have b1 := q_lf_bd hg hF hl'
      have b2 := q_lf_bd hg hF (q_rv_lt hl')
      have l440 : l < 440 := by omega
      have l440' : l < 2147483648 := by omega
      rw [if_neg (fun q => e ((N_le (by omega) (by omega)).mp q)), bd1_i (q_onR hg hc hl'), gI_N l440 l440', N_nat l440', (q_cp_side hc hl').2.2.1]
      have step : ∀ j, q_mkd I (q_PP n I) F s (l + 1) j ↔ (q_mkd I (q_PP n I) F s l j ∨ ((j : Int) - 1 ≠ s ∧ q_lf I (q_PP n I) F l = s ∧ q_lf I (q_PP n I) F (q_rv l) = (j : Int) - 1)) := by
        intro j
        unfold q_mkd
        constructor
        · intro ⟨a, h, b, c⟩
          by_cases em : h = l
          · subst em; exact Or.inr ⟨a, c⟩
          · exact Or.inl ⟨a, h, by clear ih hf; omega, c⟩
        · intro q
          rcases q with ⟨a, h, b, c⟩ | ⟨a, c⟩
          · exact ⟨a, h, by clear ih hf; omega, c⟩
          · exact ⟨a, l, by clear ih hf; omega, c⟩
      have e1 : (J (q_lf I (q_PP n I) F l) = J s) ↔ q_lf I (q_PP n I) F l = s := J_eq (by clear ih hf; omega) (by clear ih hf; omega) (by clear ih hf; omega) (by clear ih hf; omega)
      have e2 : (J (q_lf I (q_PP n I) F (q_rv l)) = J s) ↔ q_lf I (q_PP n I) F (q_rv l) = s := J_eq (by clear ih hf; omega) (by clear ih hf; omega) (by clear ih hf; omega) (by clear ih hf; omega)
      have same : ∀ hno : ¬ (q_lf I (q_PP n I) F l = s ∧ ¬ q_lf I (q_PP n I) F (q_rv l) = s), ∀ j, j < 82 → f j = N (q_one (q_mkd I (q_PP n I) F s (l + 1) j)) := by
        intro hno j hj
        rw [hf j hj, q_one_c (step j)]
        congr 1
        refine q_one_c ⟨Or.inl, fun q => q.elim id (fun q => (hno ⟨q.2.1, fun w => q.1 (by rw [← q.2.2, w])⟩).elim)⟩
      have key : ∃ g : Nat → Int32, (if J (q_lf I (q_PP n I) F l) = J s then (if J (q_lf I (q_PP n I) F (q_rv l)) = J s then some f else if Int32.ofNat 82 ≤ J (q_lf I (q_PP n I) F (q_rv l)) + 1 then some f else gI (J (q_lf I (q_PP n I) F (q_rv l)) + 1) 82 (lt_ (upd f (J (q_lf I (q_PP n I) F (q_rv l)) + 1).toNatClampNeg (vp_nar .boolean 1)) fun f22 => some f22)) else some f) = some g ∧ ∀ j, j < 82 → g j = N (q_one (q_mkd I (q_PP n I) F s (l + 1) j)) := by
        by_cases z1 : q_lf I (q_PP n I) F l = s
        · rw [if_pos (e1.mpr z1)]
          by_cases z2 : q_lf I (q_PP n I) F (q_rv l) = s
          · rw [if_pos (e2.mpr z2)]
            exact ⟨f, rfl, same (fun q => q.2 z2)⟩
          · rw [if_neg (fun q => z2 (e2.mp q))]
            obtain ⟨t, ht⟩ : ∃ t : Nat, (t : Int) = q_lf I (q_PP n I) F (q_rv l) + 1 := ⟨(q_lf I (q_PP n I) F (q_rv l) + 1).toNat, by clear ih hf same; omega⟩
            have t82 : t < 82 := by clear ih hf same; omega
            rw [show (1 : Int32) = J 1 from rfl, J_add, ← ht, show J (t : Int) = N t from rfl, if_neg (fun q => by have := (N_le (a := 82) (b := t) (by clear ih hf same; omega) (by clear ih hf same; omega)).mp q; clear ih hf same; omega), gI_N t82 (by clear ih hf same; omega), N_nat (by clear ih hf same; omega), lt_e, show vp_nar .boolean (J 1) = 1 from q_nar1]
            refine ⟨_, rfl, fun j hj => ?_⟩
            by_cases c : j = t
            · subst c
              rw [upd_s, q_one_t ((step j).mpr (Or.inr ⟨by clear ih hf same; omega, z1, by clear ih hf same; omega⟩))]
              rfl
            · rw [upd_n _ _ c, hf j hj]
              congr 1
              rw [q_one_c (step j)]
              refine q_one_c ⟨Or.inl, fun q => q.elim id (fun q => by have := q.2.2; clear ih hf same; omega)⟩
        · rw [if_neg (fun q => z1 (e1.mp q))]
          exact ⟨f, rfl, same (fun q => z1 q.1)⟩
      obtain ⟨g, k1, k2⟩ := key
      rw [bd1_i k1, lt_e, N_lit 1, N_add]
      exact ih (l + 1) g (by clear ih hf same k2; omega) (by clear ih hf same k2; omega) k2
theorem q_mk {n : Nat} {I : Sto} {nx ny : Nat} {F : Ce → Int} {ns : Nat} {pl be di le : Nat → Int32} (hg : q_gi n I nx ny) (hF : q_labs n I nx ny F ns) (hns : ns ≤ 81) (hc : q_cp n I F (q_NP n I) (q_PP n I) pl be di le) {s : Int} (hs : -1 ≤ s ∧ s ≤ 1000) (f : Nat → Int32) :
    ∃ g : Nat → Int32, m_Ne_markNeighbours 82 (J s) (N (q_NP n I)) le f = some g ∧ ∀ j, j < 82 → g j = N (q_one (q_nb n I F s ((j : Int) - 1))) := by
  have h220 := q_NP_220 hg
  have e0 := q_mk0 (n0 := 82) (by omega) fu 0 f (by unfold fu; omega) (by omega)
  obtain ⟨g, k1, k2⟩ := q_mk_L hg hF hns hc hs fu 0 (fun j => if 0 ≤ j ∧ j < 82 then 0 else f j) (by unfold fu; omega) (by omega) (fun j hj => by
    rw [if_pos ⟨by omega, hj⟩, q_one_f (fun q => by obtain ⟨_, h, a, _⟩ := q; omega)]; rfl)
  unfold m_Ne_markNeighbours
  rw [show (0 : Int32) = N 0 from rfl]
  refine ⟨g, ?_, k2⟩
  rw [bd1_i e0]
  have e1 : m_Ne_markNeighbours_L20 (J s) 82 (N (q_NP n I)) le fu (N 0) (fun j => if 0 ≤ j ∧ j < 82 then N 0 else f j) = some g := k1
  rw [show (fun j => if 0 ≤ j ∧ j < 82 then (0 : Int32) else f j) = (fun j => if 0 ≤ j ∧ j < 82 then N 0 else f j) from rfl, bd1_i e1]
/-! Both look for the same neighbour. -/
theorem q_nbr_L {n : Nat} {I : Sto} {nx ny : Nat} {X Y : Nat → Nat} {F : Ce → Int} {ns : Nat} {fx fy pl pb pe pf pr g : Nat → Int32} (hg : q_gi n I nx ny) (hX : q_inc nx X) (hY : q_inc ny Y) (bX : q_bd nx X 500) (bY : q_bd ny Y 500) (hr : q_gr nx ny X Y fx fy) (hF : q_labs n I nx ny F ns) (hns : ns ≤ 81) (hc : q_rp I F (q_NP n I) (q_PP n I) pl pb pe pf pr) {s : Int} (hs : -1 ≤ s ∧ s ≤ 1000) (hgm : ∀ j, j < 82 → g j = N (q_one (q_nb n I F s ((j : Int) - 1)))) (cd : Int32) :
    ∀ fuel j (l3 : Int32), ns + 1 - j < fuel → j ≤ ns + 1 → (m_Sp_neighbour_L40 g (N ns) fuel l3 (J ((j : Int) - 1)) = some (Sum.inr ()) ∧ m_Mo_neighbour_L31 (J s) cd (N ns) (N (q_NP n I)) fx fy pb pe pf pr fuel l3 (J ((j : Int) - 1)) = some (Sum.inr ())) ∨
      ∃ x, m_Sp_neighbour_L40 g (N ns) fuel l3 (J ((j : Int) - 1)) = some (Sum.inl (Sum.inr (x, g))) ∧ m_Mo_neighbour_L31 (J s) cd (N ns) (N (q_NP n I)) fx fy pb pe pf pr fuel l3 (J ((j : Int) - 1)) = some (Sum.inl (x, cd)) := by
  intro fuel
  induction fuel with
  | zero => intro j l3 h; omega
  | succ m ih =>
    intro j l3 hm hj
    rw [m_Sp_neighbour_L40, m_Mo_neighbour_L31]
    by_cases e : ns + 1 ≤ j
    · left
      have : N ns ≤ J ((j : Int) - 1) := by rw [N_J]; exact (J_le (by omega) (by omega) (by omega) (by omega)).mpr (by omega)
      rw [if_pos this, if_pos this]
      exact ⟨rfl, rfl⟩
    · have : ¬ N ns ≤ J ((j : Int) - 1) := by rw [N_J]; exact fun q => by have := (J_le (by omega) (by omega) (by omega) (by omega)).mp q; omega
      have j82 : j < 82 := by omega
      have j82' : j < 2147483648 := by omega
      have gon := fun x => ih (j + 1) x (by omega) (by omega)
      rw [if_neg this, if_neg this, show (1 : Int32) = J 1 from rfl, J_add, show J ((j : Int) - 1 + 1) = N j by unfold N; congr 1; omega, gI_N j82 j82', N_nat j82', hgm j j82]
      rw [show (((j + 1 : Nat) : Int) - 1) = (j : Int) by omega] at gon
      have ej : (J ((j : Int) - 1) = J s) ↔ (j : Int) - 1 = s := J_eq (by clear gon ih hgm; omega) (by clear gon ih hgm; omega) (by clear gon ih hgm; omega) (by clear gon ih hgm; omega)
      have hR : ∀ {ρ : Type} (k : Int32 → Option (Sum ρ Int32)), (if J ((j : Int) - 1) = J s then some (Sum.inr l3) else bd1 (m_Mo_lengthBetween (J s) (J ((j : Int) - 1)) (N (q_NP n I)) fx fy pb pe pf pr) fun r19 => if r19 ≤ 0 then some (Sum.inr l3) else k r19) = (if N (q_one (q_nb n I F s ((j : Int) - 1))) = 0 then some (Sum.inr l3) else k (J (q_sum (q_gB I (q_PP n I) F X Y s ((j : Int) - 1)) (q_NP n I)))) := by
        intro ρ k
        by_cases z : (j : Int) - 1 = s
        · rw [if_pos (ej.mpr z), if_pos ((q_one0 _).mpr (fun q => q.1 z))]
        · obtain ⟨w1, w2, w3⟩ := q_nb_len (F := F) hg hX hY bX bY z
          rw [if_neg (fun q => z (ej.mp q)), bd1_i (q_Rbt hg hr hF hc hs (by clear gon ih hgm w1; omega))]
          have w4 : (J (q_sum (q_gB I (q_PP n I) F X Y s ((j : Int) - 1)) (q_NP n I)) ≤ 0) ↔ q_sum (q_gB I (q_PP n I) F X Y s ((j : Int) - 1)) (q_NP n I) ≤ 0 := J_le (b := 0) (by clear gon ih hgm w1; omega) (by clear gon ih hgm w1; omega) (by clear gon ih hgm w1; omega) (by clear gon ih hgm w1; omega)
          by_cases y : q_nb n I F s ((j : Int) - 1)
          · have := w1.mpr y
            rw [if_neg (fun q => (q_one0 _).mp q y), if_neg (fun q => by have := w4.mp q; clear gon ih hgm w1; omega)]
          · have : ¬ 0 < q_sum (q_gB I (q_PP n I) F X Y s ((j : Int) - 1)) (q_NP n I) := fun q => y (w1.mp q)
            rw [if_pos ((q_one0 _).mpr y), if_pos (w4.mpr (by clear gon ih hgm w1; omega))]
      rw [hR]
      by_cases y : N (q_one (q_nb n I F s ((j : Int) - 1))) = 0
      · rw [if_pos y, if_pos y]
        exact gon l3
      · rw [if_neg y, if_neg y]
        by_cases l0 : l3 = 0
        · rw [if_pos l0, if_pos l0]
          exact Or.inr ⟨_, rfl, rfl⟩
        · rw [if_neg l0, if_neg l0]
          exact gon (l3 + (-1))
/-! Questions: what both answer to a bad argument and without a fresh run. -/
def q_agr (z : Option (Sum Nat Int32)) (r : Option (Int32 × Int32)) : Prop := (∃ (k : Nat) (v : Int32), (k = 1 ∨ k = 2) ∧ z = some (Sum.inl k) ∧ r = some (v, N k)) ∨ ∃ v, z = some (Sum.inr v) ∧ r = some (v, 0)
theorem q_agr1 {z : Option (Sum Nat Int32)} {r : Option (Int32 × Int32)} (a : z = some (Sum.inl 1)) (b : r = some (0, 1)) : q_agr z r := Or.inl ⟨1, 0, Or.inl rfl, a, b⟩
theorem q_agr2 {z : Option (Sum Nat Int32)} {r : Option (Int32 × Int32)} (a : z = some (Sum.inl 2)) (b : r = some (0, 2)) : q_agr z r := Or.inl ⟨2, 0, Or.inr rfl, a, b⟩
theorem q_agr0 {z : Option (Sum Nat Int32)} {r : Option (Int32 × Int32)} (v : Int32) (a : z = some (Sum.inr v)) (b : r = some (v, 0)) : q_agr z r := Or.inr ⟨v, a, b⟩
theorem q_goes_n {A fs : Prop} (h : ¬ A) (cd : Int32) : m_Mo_goes (N (q_one A)) cd (N (q_one fs)) = some (0, 1) := by
  unfold m_Mo_goes
  rw [if_pos ((q_one0 _).mpr h)]
  rfl
theorem q_goes_s {A fs : Prop} (h : A) (g : ¬ fs) (cd : Int32) : m_Mo_goes (N (q_one A)) cd (N (q_one fs)) = some (0, 2) := by
  unfold m_Mo_goes
  rw [if_neg (fun q => (q_one0 _).mp q h), if_pos ((q_one0 _).mpr g)]
  rfl
theorem q_goes_y {A fs : Prop} (h : A) (g : fs) (cd : Int32) : m_Mo_goes (N (q_one A)) cd (N (q_one fs)) = some (1, 0) := by
  unfold m_Mo_goes
  rw [if_neg (fun q => (q_one0 _).mp q h), if_neg (fun q => (q_one0 _).mp q g)]
  rfl
theorem q_fr_y {fs : Prop} (g : fs) : m_Sp_needFreshRun (N (q_one (¬ fs))) = some (Sum.inr ()) := by
  unfold m_Sp_needFreshRun
  rw [if_pos ((q_one0 _).mpr (fun q => q g))]
theorem q_fr_n {fs : Prop} (g : ¬ fs) : m_Sp_needFreshRun (N (q_one (¬ fs))) = some (Sum.inl 2) := by
  unfold m_Sp_needFreshRun
  rw [if_neg (fun q => (q_one0 _).mp q g)]
theorem q_needS {a : Int} {n : Nat} (h : -2147483648 ≤ a ∧ a < 2147483648) (hn : n ≤ 1000) : m_Sp_needSpace (J a) (N n) = some (if 0 ≤ a ∧ a < n then Sum.inr () else Sum.inl 1) := q_needL h hn
theorem q_isSp {a : Int} {n : Nat} (h : -2147483648 ≤ a ∧ a < 2147483648) (hn : n ≤ 1000) : m_Mo_isSpace (J a) (N n) = some (N (q_one (0 ≤ a ∧ a < n))) := q_isLine h hn
theorem q_needO {a : Int} {n R : Nat} (h : -2147483648 ≤ a ∧ a < 2147483648) (hn : n ≤ 1000) (hR : R ≤ 1000) : m_Sp_needSpaceOrOutside (J a) (N R) (N n) = some (if R ≠ 0 ∧ -1 ≤ a ∧ a < n then Sum.inr () else Sum.inl 1) := by
  unfold m_Sp_needSpaceOrOutside
  have e0 : (N R = 0) ↔ R = 0 := N_eq (b := 0) (by omega) (by omega)
  by_cases r : R = 0
  · rw [if_pos (e0.mpr r), if_neg (by omega)]
  · rw [if_neg (fun q => r (e0.mp q)), show (-1 : Int32) = J (-1) from rfl, N_J]
    by_cases c : a < -1
    · rw [if_pos ((J_lt (by omega) (by omega) (by omega) (by omega)).mpr c), if_neg (by omega)]
    · rw [if_neg (fun q => c ((J_lt (by omega) (by omega) (by omega) (by omega)).mp q))]
      by_cases d : a < n
      · rw [if_pos ((J_lt (by omega) (by omega) (by omega) (by omega)).mpr d), if_pos (by omega)]
      · rw [if_neg (fun q => d ((J_lt (by omega) (by omega) (by omega) (by omega)).mp q)), if_neg (by omega)]
theorem q_isAny {a : Int} {n : Nat} (h : -2147483648 ≤ a ∧ a < 2147483648) (hn : n ≤ 1000) : m_Mo_isAny (J a) (N n) = some (N (q_one (-1 ≤ a ∧ a < n))) := by
  unfold m_Mo_isAny
  have e1 : (J a = -1) ↔ a = -1 := J_eq (b := -1) (by omega) (by omega) (by omega) (by omega)
  by_cases c : a = -1
  · rw [if_pos (e1.mpr c), q_one_t (by omega)]; rfl
  · rw [if_neg (fun q => c (e1.mp q)), bd1_i (q_isSp h hn)]
    by_cases d : 0 ≤ a ∧ a < n
    · rw [if_neg (fun q => (q_one0 _).mp q d), q_one_t (show -1 ≤ a ∧ a < n by omega)]; rfl
    · rw [if_pos ((q_one0 _).mpr d), q_one_f (show ¬ (-1 ≤ a ∧ a < n) by omega)]; rfl
theorem q_conj {A B : Prop} {x : Option Int32} (hx : x = some (N (q_one B))) : (if N (q_one A) = 0 then some 0 else bd1 x fun r => if r = 0 then some 0 else some 1) = some (N (q_one (A ∧ B))) := by
  by_cases a : A
  · rw [if_neg (fun q => (q_one0 _).mp q a), bd1_i hx]
    by_cases b : B
    · rw [if_neg (fun q => (q_one0 _).mp q b), q_one_t ⟨a, b⟩]; rfl
    · rw [if_pos ((q_one0 _).mpr b), q_one_f (fun q => b q.2)]; rfl
  · rw [if_pos ((q_one0 _).mpr a), q_one_f (fun q => a q.1)]; rfl
theorem q_in32 {a lo hi : Int} (h : -2147483648 ≤ a ∧ a < 2147483648) (hl : -2147483648 ≤ lo ∧ lo < 2147483648) (hh : -2147483648 ≤ hi ∧ hi < 2147483648) : m_Mo_isIn (Int32.toInt64 (J a)) (K lo) (K hi) = some (N (q_one (lo ≤ a ∧ a ≤ hi))) := by
  rw [J_K h.1 h.2, q_in1 (by omega) (by omega) (by omega)]
theorem q_count {n : Nat} {I : Sto} {nx ny : Nat} {F : Ce → Int} {ns : Nat} {pl be di le : Nat → Int32} (hg : q_gi n I nx ny) (hF : q_labs n I nx ny F ns) (hc : q_cp n I F (q_NP n I) (q_PP n I) pl be di le) {fs : Prop} (p cd : Int32) (vp vl : Int32) {os : Int32} (ho : os = N (q_cnt (fun g => q_lf I (q_PP n I) F g = -1) (2 * q_NP n I))) :
    q_agr (m_Sp_count p (N (q_one (¬ fs))) vp (N (q_NP n I)) vl le (N ns)) (m_Mo_count p cd (N (q_one fs)) (N ns) vp (N (q_NP n I)) os vl) := by
  have b := J_bd p
  rw [J_of p]
  generalize p.toInt = z at *
  unfold m_Sp_count m_Mo_count
  have e1 := @q_needB z 0 4 b (by omega) (by omega)
  have e2 : m_Mo_isIn (Int32.toInt64 (J z)) 0 4 = _ := q_in32 (lo := 0) (hi := 4) b (by omega) (by omega)
  rw [show m_Sp_needBetween (J z) 0 4 = _ from e1, bd1_i e2]
  by_cases A : 0 ≤ z ∧ z ≤ 4
  case neg =>
    rw [if_neg A]
    refine q_agr1 rfl ?_
    rw [q_goes_n A]
    rfl
  rw [if_pos A, bx0_r]
  by_cases g : fs
  case neg =>
    rw [q_fr_n g]
    refine q_agr2 rfl ?_
    rw [q_goes_s A g]
    rfl
  rw [q_fr_y g, bx0_r, q_goes_y A g]
  rw [bd2_i rfl, if_neg (show ¬ (1 : Int32) = 0 by decide)]
  have eq0 : (J z = 0) ↔ z = 0 := J_eq (b := 0) (by omega) (by omega) (by omega) (by omega)
  have eq1 : (J z = 1) ↔ z = 1 := J_eq (b := 1) (by omega) (by omega) (by omega) (by omega)
  have eq2 : (J z = 2) ↔ z = 2 := J_eq (b := 2) (by omega) (by omega) (by omega) (by omega)
  have eq3 : (J z = 3) ↔ z = 3 := J_eq (b := 3) (by omega) (by omega) (by omega) (by omega)
  by_cases c0 : z = 0
  · rw [if_pos (eq0.mpr c0), if_pos (eq0.mpr c0)]; exact q_agr0 _ rfl rfl
  rw [if_neg (fun q => c0 (eq0.mp q)), if_neg (fun q => c0 (eq0.mp q))]
  by_cases c1 : z = 1
  · rw [if_pos (eq1.mpr c1), if_pos (eq1.mpr c1)]; exact q_agr0 _ rfl rfl
  rw [if_neg (fun q => c1 (eq1.mp q)), if_neg (fun q => c1 (eq1.mp q))]
  by_cases c2 : z = 2
  · rw [if_pos (eq2.mpr c2), if_pos (eq2.mpr c2)]; exact q_agr0 _ rfl rfl
  rw [if_neg (fun q => c2 (eq2.mp q)), if_neg (fun q => c2 (eq2.mp q))]
  by_cases c3 : z = 3
  · rw [if_pos (eq3.mpr c3), if_pos (eq3.mpr c3)]; exact q_agr0 _ rfl rfl
  rw [if_neg (fun q => c3 (eq3.mp q)), if_neg (fun q => c3 (eq3.mp q)), show (-1 : Int32) = J (-1) from rfl, bd1_i (q_Csides hg hF hc (by omega)), ho]
  exact q_agr0 _ rfl rfl
theorem q_rings {n : Nat} {I : Sto} {nx ny : Nat} {F : Ce → Int} {ns : Nat} (hg : q_gi n I nx ny) (hF : q_labs n I nx ny F ns) (hns : ns ≤ 81) {nr fl nr' : Nat} {ld ld' : Nat → Nat} {ord st sp rs rt rz rl : Nat → Int32} (hr : q_cri n I F nr ld fl ord st sp) (he : q_enu (q_nxt n I) (q_K n I) (2 * q_NP n I) nr ld) (hnr : nr ≤ 220) (hr' : q_rri n I F nr' ld' rs rt rz rl) (he' : q_enu (q_nxt n I) (q_K n I) (2 * q_NP n I) nr' ld') (hnr' : nr' ≤ 220) {fs : Prop} (p cd : Int32) :
    q_agr (m_Sp_rings p (N (q_one (¬ fs))) (N nr) sp (N ns)) (m_Mo_rings p cd (N (q_one fs)) (N ns) (N nr') rs) := by
  have b := J_bd p
  rw [J_of p]
  generalize p.toInt = z at *
  unfold m_Sp_rings m_Mo_rings
  rw [q_needS b (by omega), bd1_i (q_isSp b (by omega))]
  by_cases A : 0 ≤ z ∧ z < ns
  case neg =>
    rw [if_neg A, q_goes_n A]
    exact q_agr1 rfl rfl
  rw [if_pos A, bx0_r]
  by_cases g : fs
  case neg =>
    rw [q_fr_n g, q_goes_s A g]
    exact q_agr2 rfl rfl
  rw [q_fr_y g, bx0_r, q_goes_y A g, bd1_i (q_CringsOf hg hF hr he hnr (by omega)), bd1_i (q_RringsOf hg hF hr' he' hnr' (by omega))]
  exact q_agr0 _ rfl rfl
theorem q_nameOf {ns : Nat} {gv fn : Nat → Int32} {nm : Nat → Nat} (hns : ns ≤ 81) (h1 : ∀ o, o < ns → gv o = N (nm o)) (h2 : ∀ o, o < ns → fn o = N (nm o)) {fs : Prop} (p cd : Int32) :
    q_agr (m_Sp_nameOf p (N (q_one (¬ fs))) gv (N ns)) (m_Mo_nameOf p cd (N (q_one fs)) (N ns) fn) := by
  have b := J_bd p
  rw [J_of p]
  generalize p.toInt = z at *
  unfold m_Sp_nameOf m_Mo_nameOf
  rw [q_needS b (by omega), bd1_i (q_isSp b (by omega))]
  by_cases A : 0 ≤ z ∧ z < ns
  case neg =>
    rw [if_neg A, q_goes_n A]
    exact q_agr1 rfl rfl
  rw [if_pos A, bx0_r]
  by_cases g : fs
  case neg =>
    rw [q_fr_n g, q_goes_s A g]
    exact q_agr2 rfl rfl
  obtain ⟨k, rfl⟩ : ∃ k : Nat, (k : Int) = z := ⟨z.toNat, by omega⟩
  rw [q_fr_y g, bx0_r, q_goes_y A g, gI_J (by omega) (by omega) (by omega), gI_J (by omega) (by omega) (by omega), show (J (k : Int)).toNatClampNeg = k from N_nat (by omega), h1 k (by omega), h2 k (by omega)]
  exact q_agr0 _ rfl rfl
theorem q_name {ns : Nat} {gv fn : Nat → Int32} {nm : Nat → Nat} (hns : ns ≤ 81) (hb : ∀ o, nm o ≤ 1000) (h1 : ∀ o, o < ns → gv o = N (nm o)) (h2 : ∀ o, o < ns → fn o = N (nm o)) {fs : Prop} (p w cd : Int32) :
    (∃ (k : Nat) (v : Int32), (k = 1 ∨ k = 2) ∧ m_Sp_name p w (N (q_one (¬ fs))) gv (N ns) = some (Sum.inl k) ∧ m_Mo_name p w cd (N (q_one fs)) (N ns) fn = some (v, N k, fn)) ∨
    ∃ (v : Int32) (gv' fn' : Nat → Int32) (nm' : Nat → Nat), m_Sp_name p w (N (q_one (¬ fs))) gv (N ns) = some (Sum.inr (v, gv')) ∧ m_Mo_name p w cd (N (q_one fs)) (N ns) fn = some (v, 0, fn') ∧ (∀ o, nm' o ≤ 1000) ∧ (∀ o, o < ns → gv' o = N (nm' o)) ∧ ∀ o, o < ns → fn' o = N (nm' o) := by
  have b := J_bd p
  have bw := J_bd w
  rw [J_of p, J_of w]
  generalize p.toInt = z at *
  generalize w.toInt = y at *
  unfold m_Sp_name m_Mo_name
  have e1 := @q_needB y 0 1000 bw (by omega) (by omega)
  have e2 : m_Mo_isIn (Int32.toInt64 (J y)) 0 1000 = _ := q_in32 (lo := 0) (hi := 1000) bw (by omega) (by omega)
  rw [q_needS b (by omega), bd1_i (q_isSp b (by omega)), show m_Sp_needBetween (J y) 0 1000 = _ from e1, bd1_i (q_conj e2)]
  by_cases A : 0 ≤ z ∧ z < ns
  case neg =>
    left
    rw [if_neg A, q_goes_n (fun q => A q.1)]
    exact ⟨1, 0, Or.inl rfl, rfl, rfl⟩
  by_cases B : 0 ≤ y ∧ y ≤ 1000
  case neg =>
    left
    rw [if_pos A, if_neg B, q_goes_n (fun q => B q.2)]
    exact ⟨1, 0, Or.inl rfl, rfl, rfl⟩
  rw [if_pos A, if_pos B, bx0_r, bx0_r]
  by_cases g : fs
  case neg =>
    left
    rw [q_fr_n g, q_goes_s ⟨A, B⟩ g]
    exact ⟨2, 0, Or.inr rfl, rfl, rfl⟩
  right
  obtain ⟨k, rfl⟩ : ∃ k : Nat, (k : Int) = z := ⟨z.toNat, by omega⟩
  obtain ⟨v, rfl⟩ : ∃ k : Nat, (k : Int) = y := ⟨y.toNat, by omega⟩
  have kn : (J (k : Int)).toNatClampNeg = k := N_nat (by omega)
  have g1 : ∀ {α : Type} (x : Option α), gI (J k) 81 x = x := fun x => gI_J (by omega) (by omega) (by omega)
  have g2 : ∀ {α : Type} (x : Option α), gI (J k) 200 x = x := fun x => gI_J (by omega) (by omega) (by omega)
  have uu : ∀ f : Nat → Int32, (∀ o, o < ns → f o = N (nm o)) → ∀ o, o < ns → upd f k (N v) o = N (q_sN nm k v o) := by
    intro f hf o ho
    unfold q_sN
    by_cases e : o = k
    · rw [e, upd_s, if_pos rfl]
    · rw [upd_n _ _ e, if_neg e]; exact hf o ho
  refine ⟨N (nm k), upd gv k (N v), upd fn k (N v), q_sN nm k v, ?_, ?_, ?_, uu gv h1, uu fn h2⟩
  · simp only [q_fr_y g, bx0_r, g1, lt_e, kn]
    rw [h1 k (by omega)]
    rfl
  · rw [q_goes_y ⟨A, B⟩ g, bd2_i rfl, if_neg (show ¬ (1 : Int32) = 0 by decide)]
    simp only [g2, lt_e, kn]
    rw [h2 k (by omega)]
    rfl
  · intro o
    unfold q_sN
    by_cases e : o = k
    · rw [if_pos e]; omega
    · rw [if_neg e]; exact hb o
/-! A ring of a space, in both. -/
theorem q_ring {n : Nat} {I : Sto} {nx ny : Nat} {F : Ce → Int} {ns : Nat} (hg : q_gi n I nx ny) (hF : q_labs n I nx ny F ns) (hns : ns ≤ 81) {nr fl nr' : Nat} {ld ld' : Nat → Nat} {ord st sp rs rt rz rl : Nat → Int32} (hr : q_cri n I F nr ld fl ord st sp) (he : q_enu (q_nxt n I) (q_K n I) (2 * q_NP n I) nr ld) (hnr : nr ≤ 220) (hfl : fl ≤ 440) (hK : ∀ r r', r < r' → r' < nr → q_K n I (ld r) < q_K n I (ld r')) (hr' : q_rri n I F nr' ld' rs rt rz rl) (he' : q_enu (q_nxt n I) (q_K n I) (2 * q_NP n I) nr' ld') (hnr' : nr' ≤ 220) (ho : q_ord2 n I F nr' ld') {s k : Int} (hs : -2147483648 ≤ s ∧ s < 2147483648) (hk : -2147483648 ≤ k ∧ k < 2147483648) :
    (bx0 (m_Sp_needSpace (J s) (N ns)) (m_Sp_needRing (J s) (J k) (N nr) sp) = some (Sum.inl 1) ∧ m_Mo_isRing (J s) (J k) (N ns) (N nr') rs = some 0) ∨
    ∃ r h z c0, bx0 (m_Sp_needSpace (J s) (N ns)) (m_Sp_needRing (J s) (J k) (N nr) sp) = some (Sum.inr (N r)) ∧ m_Mo_isRing (J s) (J k) (N ns) (N nr') rs = some 1 ∧ m_Ri_lengthOf (N r) st = some (N z) ∧ (∀ j, j < z → m_Ri_sideOf (N r) (N j) ord st = some (N (q_it (q_nxt n I) j h))) ∧ z ≤ 440 ∧ h < 2 * q_NP n I ∧ m_Mo_firstRing (J s) (N nr') rs = some (N c0) ∧ N c0 + J k = N (c0 + k.toNat) ∧ c0 + k.toNat < 900 ∧ rz (c0 + k.toNat) = N z ∧ rt (c0 + k.toNat) = N h := by
  rw [q_needS hs (by omega)]
  unfold m_Mo_isRing
  rw [bd1_i (q_isSp hs (by omega))]
  by_cases A : 0 ≤ s ∧ s < ns
  case neg =>
    left
    rw [if_neg A, if_pos ((q_one0 _).mpr A)]
    exact ⟨rfl, rfl⟩
  rw [if_pos A, if_neg (fun q => (q_one0 _).mp q A), bx0_r, bd1_i (q_RringsOf hg hF hr' he' hnr' (by omega))]
  have hrn : q_rn n I F s ≤ 220 := by
    rw [q_rn_cnt hg he s]
    exact Nat.le_trans (q_cnt_le _ _) hnr
  rw [show N (q_rn n I F s) - 1 = J ((q_rn n I F s : Int) - 1) from J_sub (q_rn n I F s : Int) 1, J_K (a := (q_rn n I F s : Int) - 1) (by omega) (by omega), show (0 : Int64) = K 0 from rfl, bd1_i (q_in32 hk (by omega) (by omega))]
  unfold m_Sp_needRing
  rcases q_Cfind hg hF hr he hK hnr (s := s) (by omega) hk with ⟨k0, k1, r, hrr, ef, rg⟩ | ⟨kn, ef⟩
  · right
    have hz := hr r hrr
    obtain ⟨e1, a, z, e2, e3, cy, e4, e5, e6⟩ := hz
    obtain ⟨c0, f1, f2⟩ := q_Rring hg hF hr' he' ho hnr' (s := s) (by omega)
    obtain ⟨f3, f4⟩ := f2 k.toNat (by omega)
    have hl := q_rg_eq hg f4 rg
    obtain ⟨g1, g2, ⟨z', g3, g4⟩, g5, g6⟩ := hr' (c0 + k.toNat) f3
    rw [hl] at g2 g4 g6
    have hzz := q_cyc_eq g4 cy
    subst hzz
    have z440 := q_cyc_le hg g6 cy
    have r220 : r < 221 := by omega
    have r221 : r + 1 < 221 := by omega
    refine ⟨r, ld r, z', c0, ?_, ?_, ?_, ?_, z440, g6, f1, ?_, by omega, g3, g2⟩
    · rw [bd1_i ef, show (-1 : Int32) = J (-1) from rfl, N_J, if_neg (fun q => by have := (J_eq (by omega) (by omega) (by omega) (by omega)).mp q; omega)]
    · rw [if_neg (fun q => (q_one0 _).mp q (by omega))]
      rfl
    · unfold m_Ri_lengthOf
      rw [N_lit 1, N_add, gI_N r221 (by omega), gI_N r220 (by omega), N_nat (by omega), N_nat (by omega), e2, e3, N_sub (by omega), Nat.add_sub_cancel_left]
    · intro j hj
      unfold m_Ri_sideOf
      rw [gI_N r220 (by omega), N_nat (by omega), e2, N_add, gI_N (by omega) (by omega), N_nat (by omega), e6 j hj]
    · rw [N_J, J_add]; unfold N; congr 1; omega
  · left
    rw [bd1_i ef, if_pos (show J (-1) = -1 from rfl), if_pos ((q_one0 _).mpr (fun q => kn (by omega)))]
    exact ⟨rfl, rfl⟩
theorem bx_as {A C : Type} {x : Option (Sum Nat Unit)} {y : Option (Sum Nat A)} {k : A → Option (Sum Nat C)} : bx0 x (bx1 y k) = bx1 (bx0 x y) k := by
  cases x with
  | none => rfl
  | some v => cases v <;> rfl
theorem bx1_i {A C : Type} {y : Option (Sum Nat A)} {k : A → Option (Sum Nat C)} {a : A} (h : y = some (Sum.inr a)) : bx1 y k = k a := by rw [h]; rfl
theorem bx1_x {A C : Type} {y : Option (Sum Nat A)} {k : A → Option (Sum Nat C)} {e : Nat} (h : y = some (Sum.inl e)) : bx1 y k = some (Sum.inl e) := by rw [h]; rfl
theorem q_goes0 {fs : Prop} (cd : Int32) : m_Mo_goes 0 cd (N (q_one fs)) = some (0, 1) := rfl
theorem q_goes1s {fs : Prop} (g : ¬ fs) (cd : Int32) : m_Mo_goes 1 cd (N (q_one fs)) = some (0, 2) := by
  have := q_goes_s (A := True) trivial g cd
  rw [q_one_t trivial] at this
  exact this
theorem q_goes1y {fs : Prop} (g : fs) (cd : Int32) : m_Mo_goes 1 cd (N (q_one fs)) = some (1, 0) := by
  have := q_goes_y (A := True) trivial g cd
  rw [q_one_t trivial] at this
  exact this
theorem q_sides {n : Nat} {I : Sto} {nx ny : Nat} {F : Ce → Int} {ns : Nat} (hg : q_gi n I nx ny) (hF : q_labs n I nx ny F ns) (hns : ns ≤ 81) {nr fl nr' : Nat} {ld ld' : Nat → Nat} {ord st sp rs rt rz rl : Nat → Int32} (hr : q_cri n I F nr ld fl ord st sp) (he : q_enu (q_nxt n I) (q_K n I) (2 * q_NP n I) nr ld) (hnr : nr ≤ 220) (hfl : fl ≤ 440) (hK : ∀ r r', r < r' → r' < nr → q_K n I (ld r) < q_K n I (ld r')) (hr' : q_rri n I F nr' ld' rs rt rz rl) (he' : q_enu (q_nxt n I) (q_K n I) (2 * q_NP n I) nr' ld') (hnr' : nr' ≤ 220) (ho : q_ord2 n I F nr' ld') {fs : Prop} (p w cd : Int32) :
    q_agr (m_Sp_sides p w (N (q_one (¬ fs))) (N nr) st sp (N ns)) (m_Mo_sides p w cd (N (q_one fs)) (N ns) (N nr') rs rz) := by
  have b := J_bd p
  have bw := J_bd w
  rw [J_of p, J_of w]
  generalize p.toInt = s at *
  generalize w.toInt = k at *
  unfold m_Sp_sides m_Mo_sides
  rw [bx_as]
  rcases q_ring hg hF hns hr he hnr hfl hK hr' he' hnr' ho b bw with ⟨a1, a2⟩ | ⟨r, h, z, c0, a1, a2, a3, a4, a5, a6, a7, a8, a9, a10, a11⟩
  · rw [bx1_x a1, bd1_i a2, q_goes0]
    exact q_agr1 rfl rfl
  · rw [bx1_i a1, bd1_i a2]
    by_cases g : fs
    · rw [q_fr_y g, bx0_r, bd1_i a3, q_goes1y g, bd2_i rfl, if_neg (show ¬ (1 : Int32) = 0 by decide), bd1_i a7, a8, gI_N a9 (by omega), N_nat (by omega), a10]
      exact q_agr0 _ rfl rfl
    · rw [q_fr_n g, q_goes1s g]
      exact q_agr2 rfl rfl
theorem q_par {h : Nat} (hh : h < 440) : (if (N h - N h / 2 * 2) = 0 then some (N h + 1) else some (N h - 1)) = some (N (q_rv h)) := by
  have e := (q_half (h := h) (by omega)).2
  unfold q_rv
  by_cases c : h % 2 = 0
  · rw [if_pos (e.mpr c), if_pos c, N_lit 1, N_add]
  · rw [if_neg (fun q => c (e.mp q)), if_neg c, N_lit 1, N_sub (by omega)]
theorem q_sideA {n : Nat} {I : Sto} {nx ny : Nat} {X Y : Nat → Nat} {F : Ce → Int} {ns : Nat} (hg : q_gi n I nx ny) (hF : q_labs n I nx ny F ns) (hns : ns ≤ 81) {nr fl nr' : Nat} {ld ld' : Nat → Nat} {ord st sp rs rt rz rl : Nat → Int32} (hr : q_cri n I F nr ld fl ord st sp) (he : q_enu (q_nxt n I) (q_K n I) (2 * q_NP n I) nr ld) (hnr : nr ≤ 220) (hfl : fl ≤ 440) (hK : ∀ r r', r < r' → r' < nr → q_K n I (ld r) < q_K n I (ld r')) (hr' : q_rri n I F nr' ld' rs rt rz rl) (he' : q_enu (q_nxt n I) (q_K n I) (2 * q_NP n I) nr' ld') (hnr' : nr' ≤ 220) (ho : q_ord2 n I F nr' ld')
    {fx fy pX pY pA pl be di le rpl pb pe pf pr so fI : Nat → Int32} (hgr : q_gr nx ny X Y fx fy) (hp : q_pr n I nx ny X Y (40 * nx) pX pY pA) (hc : q_cp n I F (q_NP n I) (q_PP n I) pl be di le) (hcr : q_rp I F (q_NP n I) (q_PP n I) rpl pb pe pf pr) (hou : q_ou n I (q_NP n I) (q_PP n I) (fun i j d => so (4 * (42 * i + j) + d))) {fs : Prop} (hfI : fs → q_fI n I fI) (p w u v cd : Int32) :
    q_agr (m_Sp_side p w u v (N (q_one (¬ fs))) pX pY pl be le (N nr) ord st sp (N ns)) (m_Mo_side p w u v cd (N (q_one fs)) (N ns) (N nr') fI fx fy rpl pb pe pf pr so rs rt rz) := by
  have b := J_bd p
  have bw := J_bd w
  have bu := J_bd u
  have bv := J_bd v
  have h220 := q_NP_220 hg
  rw [J_of p, J_of w, J_of u, J_of v]
  generalize p.toInt = s at *
  generalize w.toInt = k at *
  generalize u.toInt = j at *
  generalize v.toInt = c at *
  unfold m_Sp_side m_Mo_side
  have i5 : m_Mo_isIn (Int32.toInt64 (J c)) 0 5 = _ := q_in32 (lo := 0) (hi := 5) bv (by omega) (by omega)
  have n5 := @q_needB c 0 5 bv (by omega) (by omega)
  rw [bx_as, bd1_i i5]
  rcases q_ring hg hF hns hr he hnr hfl hK hr' he' hnr' ho b bw with ⟨a1, a2⟩ | ⟨r, h, z, c0, a1, a2, a3, a4, a5, a6, a7, a8, a9, a10, a11⟩
  · have a2' : m_Mo_isRing (J s) (J k) (N ns) (N nr') rs = some (N (q_one False)) := by rw [a2, q_one_f (fun q => q)]; rfl
    rw [bx1_x a1, bd1_i (q_conj a2'), if_pos ((q_one0 _).mpr (fun q => q.2)), bd1_i rfl, q_goes0]
    exact q_agr1 rfl rfl
  · have a2' : m_Mo_isRing (J s) (J k) (N ns) (N nr') rs = some (N (q_one True)) := by rw [a2, q_one_t trivial]; rfl
    have j1 : m_Mo_isIn (Int32.toInt64 (J j)) 0 (Int32.toInt64 (N z - 1)) = some (N (q_one (0 ≤ j ∧ j ≤ (z : Int) - 1))) := by
      rw [show N z - 1 = J ((z : Int) - 1) from J_sub (z : Int) 1, J_K (a := (z : Int) - 1) (by omega) (by omega)]
      exact q_in32 (lo := 0) bu (by omega) (by omega)
    have e14 : (if N (q_one ((0 ≤ c ∧ c ≤ 5) ∧ True)) = 0 then some (0 : Int32) else bd1 (m_Mo_firstRing (J s) (N nr') rs) fun r16 => gI (r16 + J k) 900 (bd1 (m_Mo_isIn (Int32.toInt64 (J j)) 0 (Int32.toInt64 ((rz (r16 + J k).toNatClampNeg) - 1))) fun r19 => if r19 = 0 then some (0 : Int32) else some (1 : Int32))) = some (N (q_one (((0 ≤ c ∧ c ≤ 5) ∧ True) ∧ (0 ≤ j ∧ j ≤ (z : Int) - 1)))) := by
      have := q_conj (A := (0 ≤ c ∧ c ≤ 5) ∧ True) j1
      rw [bd1_i a7, a8, gI_N a9 (by omega), N_nat (by omega), a10]
      exact this
    have n3 := @q_needB j 0 ((z : Int) - 1) bu (by omega) (by omega)
    have n3' : m_Sp_needBetween (J j) 0 (N z - 1) = some (if 0 ≤ j ∧ j ≤ (z : Int) - 1 then Sum.inr () else Sum.inl 1) := by
      rw [show N z - 1 = J ((z : Int) - 1) from J_sub (z : Int) 1]
      exact n3
    rw [bx1_i a1, bd1_i a3, bd1_i (q_conj a2'), bd1_i e14, n3', show m_Sp_needBetween (J c) 0 5 = _ from n5]
    by_cases B : 0 ≤ j ∧ j ≤ (z : Int) - 1
    case neg =>
      rw [if_neg B, q_goes_n (fun q => B q.2)]
      exact q_agr1 rfl rfl
    by_cases C : 0 ≤ c ∧ c ≤ 5
    case neg =>
      rw [if_pos B, if_neg C, q_goes_n (fun q => C q.1.1)]
      exact q_agr1 rfl rfl
    rw [if_pos B, if_pos C, bx0_r, bx0_r]
    by_cases g : fs
    case neg =>
      rw [q_fr_n g, q_goes_s ⟨⟨C, trivial⟩, B⟩ g]
      exact q_agr2 rfl rfl
    obtain ⟨j', rfl⟩ : ∃ j' : Nat, (j' : Int) = j := ⟨j.toNat, by omega⟩
    have hit := q_it_lt (q_fnx hg) a6 j'
    have l93 := q_Rit_L hg hF (hfI g) hcr hou a6 (k := j') (by omega) fu 0 (by unfold fu; omega) (by omega)
    have l93' : m_Mo_side_L93 (J (j' : Int)) fI rpl pb pe so fu (N h) 0 = some (N (q_it (q_nxt n I) j' h)) := l93
    rw [q_fr_y g, bx0_r, bd1_i (show m_Ri_sideOf (N r) (J (j' : Int)) ord st = _ from a4 j' (by omega)), q_goes_y ⟨⟨C, trivial⟩, B⟩ g, bd2_i rfl, if_neg (show ¬ (1 : Int32) = 0 by decide), bd1_i a7, a8, gI_N a9 (by omega), N_nat (by omega), a11, lt_e, bd1_i l93']
    generalize q_it (q_nxt n I) j' h = e at *
    have e440 : e < 440 := by omega
    have hrv := q_rv_lt hit
    obtain ⟨s1, _, s3⟩ := q_Rside hg hF (hfI g) hcr hit
    obtain ⟨t1, _, t3⟩ := q_Rside hg hF (hfI g) hcr hrv
    have p1 := q_qb_pt hg hit
    have p2 := q_qb_pt hg hrv
    have v1 := q_pv_lt hg p1
    have v2 := q_pv_lt hg p2
    have i1 := q_pt_in hg p1
    have i2 := q_pt_in hg p2
    obtain ⟨x1, y1⟩ := q_pr_v hg hp p1
    obtain ⟨x2, y2⟩ := q_pr_v hg hp p2
    obtain ⟨d1, d2⟩ := q_dvm hg.2.1 hg.2.2.1 _ i1.1 i1.2
    obtain ⟨d3, d4⟩ := q_dvm hg.2.1 hg.2.2.1 _ i2.1 i2.2
    have nx40 := hg.2.1
    have ny40 := hg.2.2.1
    have eb : m_Ne_beginningOf (N e) be = some (N (q_pv n I (q_qb I (q_PP n I) e))) := by unfold m_Ne_beginningOf; rw [gI_N e440 (by omega), N_nat (by omega), (q_cp_side hc hit).1]
    have ee : m_Ne_endOf (N e) be = some (N (q_pv n I (q_qb I (q_PP n I) (q_rv e)))) := by
      unfold m_Ne_endOf; rw [q_xor1 e e440, gI_N (by omega) (by omega), N_nat (by omega), (q_cp_side hc hrv).1]
    rw [bd1_i (q_par e440)]
    have eq0 : (J c = 0) ↔ c = 0 := J_eq (b := 0) (by omega) (by omega) (by omega) (by omega)
    have eq1 : (J c = 1) ↔ c = 1 := J_eq (b := 1) (by omega) (by omega) (by omega) (by omega)
    have eq2 : (J c = 2) ↔ c = 2 := J_eq (b := 2) (by omega) (by omega) (by omega) (by omega)
    have eq3 : (J c = 3) ↔ c = 3 := J_eq (b := 3) (by omega) (by omega) (by omega) (by omega)
    have eq4 : (J c = 4) ↔ c = 4 := J_eq (b := 4) (by omega) (by omega) (by omega) (by omega)
    by_cases c0 : c = 0
    · rw [if_pos (eq0.mpr c0), if_pos (eq0.mpr c0), bd1_i (q_lineOf hg hc hit), (q_half (h := e) (by omega)).1, gI_N (by omega) (by omega), N_nat (by omega), (hcr (e / 2) (by omega)).1]
      exact q_agr0 _ rfl rfl
    rw [if_neg (fun q => c0 (eq0.mp q)), if_neg (fun q => c0 (eq0.mp q))]
    by_cases c1 : c = 1
    · rw [if_pos (eq1.mpr c1), if_pos (eq1.mpr c1), bd1_i eb, bd1_i s1, gI_N (by omega) (by omega), N_nat (by omega), x1, d1, gI_N (by omega) (by omega), N_nat (by omega), hgr.1 _ i1.1]
      exact q_agr0 _ rfl rfl
    rw [if_neg (fun q => c1 (eq1.mp q)), if_neg (fun q => c1 (eq1.mp q))]
    by_cases c2 : c = 2
    · rw [if_pos (eq2.mpr c2), if_pos (eq2.mpr c2), bd1_i eb, bd1_i s1, gI_N (by omega) (by omega), N_nat (by omega), y1, d2, gI_N (by omega) (by omega), N_nat (by omega), hgr.2.2.2.1 _ i1.2]
      exact q_agr0 _ rfl rfl
    rw [if_neg (fun q => c2 (eq2.mp q)), if_neg (fun q => c2 (eq2.mp q))]
    by_cases c3 : c = 3
    · rw [if_pos (eq3.mpr c3), if_pos (eq3.mpr c3), bd1_i ee, bd1_i t1, gI_N (by omega) (by omega), N_nat (by omega), x2, d3, gI_N (by omega) (by omega), N_nat (by omega), hgr.1 _ i2.1]
      exact q_agr0 _ rfl rfl
    rw [if_neg (fun q => c3 (eq3.mp q)), if_neg (fun q => c3 (eq3.mp q))]
    by_cases c4 : c = 4
    · rw [if_pos (eq4.mpr c4), if_pos (eq4.mpr c4), bd1_i ee, bd1_i t1, gI_N (by omega) (by omega), N_nat (by omega), y2, d4, gI_N (by omega) (by omega), N_nat (by omega), hgr.2.2.2.1 _ i2.2]
      exact q_agr0 _ rfl rfl
    rw [if_neg (fun q => c4 (eq4.mp q)), if_neg (fun q => c4 (eq4.mp q)), bd1_i (q_onR hg hc hit), bd1_i t3]
    exact q_agr0 _ rfl rfl
theorem q_lab_bd {n : Nat} {I : Sto} {nx ny : Nat} {F : Ce → Int} {ns : Nat} (hg : q_gi n I nx ny) (hF : q_labs n I nx ny F ns) : ∀ v, q_in nx ny v → -1 ≤ F v ∧ F v < ns := by
  intro v hv
  rcases hF.1 v hv with ⟨_, e⟩ | ⟨_, p, b1, _, e⟩
  · rw [e]; omega
  · have h1 : q_fc n I nx ny (q_en p + 1) = q_fc n I nx ny (q_en p) + 1 := by
      show q_cnt _ (q_en p) + q_one _ = _
      rw [q_one_t (by show q_fst n I nx ny (q_de (q_en p)); rw [q_de_en b1.1.2 hg.2.2.1]; exact b1)]; rfl
    have h2 : q_fc n I nx ny (q_en p + 1) ≤ q_fc n I nx ny 1681 := q_cnt_monot (by have := b1.1.1; have := b1.1.2; have := hg.2.1; have := hg.2.2.1; unfold q_en; omega)
    have h3 := hF.2
    omega
theorem q_pos2 {n : Nat} {I : Sto} {nx ny : Nat} {F : Ce → Int} {ns : Nat} (hg : q_gi n I nx ny) (hF : q_labs n I nx ny F ns) (h : 0 < ns) : 2 ≤ nx ∧ 2 ≤ ny := by
  apply Classical.byContradiction
  intro hn
  have : q_fc n I nx ny 1681 = 0 := q_cnt_none (fun i _ hf => by
    obtain ⟨a, b, _⟩ := hf
    have a1 := a.1
    have a2 := a.2
    exact b (q_rim hg a (by omega)))
  rw [hF.2] at h
  omega
theorem q_Rarea {n : Nat} {I : Sto} {nx ny : Nat} {X Y : Nat → Nat} {F : Ce → Int} {ns : Nat} {fx fy ce : Nat → Int32} (hg : q_gi n I nx ny) (hr : q_gr nx ny X Y fx fy) (hF : q_labs n I nx ny F ns) (hce : q_cc 42 nx ny ce F) {s : Int} (hs : 0 ≤ s ∧ s < ns) :
    m_Mo_areaOf (J s) (N nx) (N ny) fx fy ce = some (J (q_sum (q_fA I (q_PP n I) F X Y s) (2 * q_NP n I))) := by
  have h81 := q_ns_81 hg hF
  obtain ⟨h1, h2⟩ := q_pos2 hg hF (by omega)
  have nx40 := hg.2.1
  have lb := q_lab_bd hg hF
  have e := q_Rar_L4 hg hr hF (fun v hv => by have := lb v hv; omega) hce (s := s) (by omega) (Or.inl (by omega)) fu 1 (by unfold fu; omega) (by omega) (Or.inr rfl)
  rw [if_pos (by omega), ← q_area hg hF hs.1 (by omega)] at e
  have z : q_sum (fun c => q_sum (q_ar F X Y s c) ny) 1 = 0 := by
    refine q_sum_0 (fun c hc => q_sum_0 (fun r _ => ?_))
    unfold q_ar
    exact q_ci_f (fun q => by have := q.1; omega) _
  rw [z] at e
  unfold m_Mo_areaOf
  have e' : m_Mo_areaOf_L4 (J s) (N nx) (N ny) fx fy ce fu 0 1 = _ := e
  rw [bd1_i e']
theorem q_size {n : Nat} {I : Sto} {nx ny : Nat} {X Y : Nat → Nat} {F : Ce → Int} {ns : Nat} {fx fy ce pX pY pA pl be di le rpl pb pe pf pr fI th th' : Nat → Int32} {tk : Nat → Nat} (hg : q_gi n I nx ny) (hr : q_gr nx ny X Y fx fy) (hF : q_labs n I nx ny F ns) (hp : q_pr n I nx ny X Y (40 * nx) pX pY pA) (hc : q_cp n I F (q_NP n I) (q_PP n I) pl be di le) (hcr : q_rp I F (q_NP n I) (q_PP n I) rpl pb pe pf pr) {fs : Prop}
    (hce : fs → q_cc 42 nx ny ce F) (hfI : fs → q_fI n I fI) (ht : fs → ∀ l, l < n → th l = N (tk l) ∧ tk l ≤ 60) (ht' : fs → ∀ l, l < n → th' l = N (tk l) ∧ tk l ≤ 60) (p w cd : Int32) :
    q_agr (m_Sp_size p w (N (q_one (¬ fs))) th (N (q_NP n I)) pX pY pl be le (N ns)) (m_Mo_size p w cd (N (q_one fs)) (N nx) (N ny) (N ns) (N (q_NP n I)) th' fx fy ce rpl pb pe pf pr) := by
  have h81 := q_ns_81 hg hF
  have h220 := q_NP_220 hg
  have b := J_bd p
  have bw := J_bd w
  rw [J_of p, J_of w]
  generalize p.toInt = s at *
  generalize w.toInt = k at *
  unfold m_Sp_size m_Mo_size
  have e1 := @q_needB k 0 2 bw (by omega) (by omega)
  have e2 : m_Mo_isIn (Int32.toInt64 (J k)) 0 2 = _ := q_in32 (lo := 0) (hi := 2) bw (by omega) (by omega)
  rw [q_needS b (by omega), bd1_i (q_isSp b (by omega)), show m_Sp_needBetween (J k) 0 2 = _ from e1, bd1_i (q_conj e2)]
  by_cases A : 0 ≤ s ∧ s < ns
  case neg =>
    rw [if_neg A, q_goes_n (fun q => A q.1)]
    exact q_agr1 rfl rfl
  by_cases B : 0 ≤ k ∧ k ≤ 2
  case neg =>
    rw [if_pos A, if_neg B, q_goes_n (fun q => B q.2)]
    exact q_agr1 rfl rfl
  rw [if_pos A, if_pos B, bx0_r, bx0_r]
  by_cases g : fs
  case neg =>
    rw [q_fr_n g, q_goes_s ⟨A, B⟩ g]
    exact q_agr2 rfl rfl
  obtain ⟨c1, c2, c3⟩ := q_Csz hg hr.2.1 hr.2.2.2.2.1 hr.2.2.1 hr.2.2.2.2.2 hF hp hc (ht g) (s := s) (by omega)
  have rs := q_Rsz_L hg hr hF (hfI g) hcr (ht' g) (s := s) (by omega) fu 0 (by unfold fu; omega) (by omega)
  have rs' : m_Mo_size_L42 (J s) (N (q_NP n I)) th' fx fy rpl pb pe pf pr fu 0 0 0 = _ := rs
  have ra := q_Rarea hg hr hF (hce g) A
  rw [q_fr_y g, bx0_r, q_goes_y ⟨A, B⟩ g, bd2_i rfl, if_neg (show ¬ (1 : Int32) = 0 by decide), bd2_i rs']
  have eq0 : (J k = 0) ↔ k = 0 := J_eq (b := 0) (by omega) (by omega) (by omega) (by omega)
  have eq1 : (J k = 1) ↔ k = 1 := J_eq (b := 1) (by omega) (by omega) (by omega) (by omega)
  by_cases z0 : k = 0
  · rw [if_pos (eq0.mpr z0), if_pos (eq0.mpr z0), bd1_i c1, bd1_i ra]
    exact q_agr0 _ rfl rfl
  rw [if_neg (fun q => z0 (eq0.mp q)), if_neg (fun q => z0 (eq0.mp q))]
  by_cases z1 : k = 1
  · rw [if_pos (eq1.mpr z1), if_pos (eq1.mpr z1), bd1_i c2]
    exact q_agr0 _ rfl rfl
  rw [if_neg (fun q => z1 (eq1.mp q)), if_neg (fun q => z1 (eq1.mp q)), bd1_i c1, bd1_i c3, bd1_i ra]
  exact q_agr0 _ rfl rfl
theorem q_betw {n : Nat} {I : Sto} {nx ny : Nat} {X Y : Nat → Nat} {F : Ce → Int} {ns : Nat} {fx fy pX pY pA pl be di le rpl pb pe pf pr : Nat → Int32} {R : Nat} (hg : q_gi n I nx ny) (hr : q_gr nx ny X Y fx fy) (hF : q_labs n I nx ny F ns) (hp : q_pr n I nx ny X Y (40 * nx) pX pY pA) (hc : q_cp n I F (q_NP n I) (q_PP n I) pl be di le) (hcr : q_rp I F (q_NP n I) (q_PP n I) rpl pb pe pf pr) (hR : R ≤ 1000) (hR0 : R = 0 → ns = 0) {fs : Prop} (p w cd : Int32) :
    q_agr (m_Sp_between p w (N R) (N (q_one (¬ fs))) (N (q_NP n I)) pX pY be le (N ns)) (m_Mo_between p w cd (N (q_one fs)) (N ns) (N (q_NP n I)) fx fy pb pe pf pr) := by
  have h81 := q_ns_81 hg hF
  have b := J_bd p
  have bw := J_bd w
  rw [J_of p, J_of w]
  generalize p.toInt = s at *
  generalize w.toInt = k at *
  unfold m_Sp_between m_Mo_between
  rw [q_needS b (by omega), bd1_i (q_isSp b (by omega)), q_needO bw (by omega) hR, bd1_i (q_conj (q_isAny bw (by omega)))]
  by_cases A : 0 ≤ s ∧ s < ns
  case neg =>
    rw [if_neg A, q_goes_n (fun q => A q.1)]
    exact q_agr1 rfl rfl
  have rn : R ≠ 0 := fun q => by have := hR0 q; omega
  by_cases B : -1 ≤ k ∧ k < ns
  case neg =>
    rw [if_pos A, if_neg (fun q => B q.2), q_goes_n (fun q => B q.2)]
    exact q_agr1 rfl rfl
  rw [if_pos A, if_pos ⟨rn, B⟩, bx0_r, bx0_r]
  by_cases g : fs
  case neg =>
    rw [q_fr_n g, q_goes_s ⟨A, B⟩ g]
    exact q_agr2 rfl rfl
  have ec := q_Cbt hg hr.2.1 hr.2.2.2.2.1 hr.2.2.1 hr.2.2.2.2.2 hF hp hc (s := s) (o := k) (by omega) (by omega)
  have er := q_Rbt hg hr hF hcr (s := s) (o := k) (by omega) (by omega)
  rw [q_fr_y g, bx0_r, q_goes_y ⟨A, B⟩ g, bd2_i rfl, if_neg (show ¬ (1 : Int32) = 0 by decide), bd1_i ec, bd1_i er]
  refine q_agr0 _ rfl ?_
  rfl
theorem q_neigh {n : Nat} {I : Sto} {nx ny : Nat} {X Y : Nat → Nat} {F : Ce → Int} {ns : Nat} {fx fy pl be di le rpl pb pe pf pr : Nat → Int32} (hg : q_gi n I nx ny) (hr : q_gr nx ny X Y fx fy) (hF : q_labs n I nx ny F ns) (hc : q_cp n I F (q_NP n I) (q_PP n I) pl be di le) (hcr : q_rp I F (q_NP n I) (q_PP n I) rpl pb pe pf pr) {fs : Prop} (p w cd : Int32) (f : Nat → Int32) :
    (∃ (k : Nat) (v : Int32), (k = 1 ∨ k = 2) ∧ m_Sp_neighbour p w (N (q_one (¬ fs))) (N (q_NP n I)) le f (N ns) = some (Sum.inl k) ∧ m_Mo_neighbour p w cd (N (q_one fs)) (N ns) (N (q_NP n I)) fx fy pb pe pf pr = some (v, N k)) ∨
    ∃ (v : Int32) (f' : Nat → Int32), m_Sp_neighbour p w (N (q_one (¬ fs))) (N (q_NP n I)) le f (N ns) = some (Sum.inr (v, f')) ∧ m_Mo_neighbour p w cd (N (q_one fs)) (N ns) (N (q_NP n I)) fx fy pb pe pf pr = some (v, 0) := by
  have h81 := q_ns_81 hg hF
  have b := J_bd p
  have bw := J_bd w
  rw [J_of p, J_of w]
  generalize p.toInt = s at *
  generalize w.toInt = k at *
  unfold m_Sp_neighbour m_Mo_neighbour
  have ek : (J k < 0) ↔ k < 0 := J_lt (b := 0) (by omega) (by omega) (by omega) (by omega)
  have ek' : (0 ≤ J k) ↔ 0 ≤ k := J_le (a := 0) (by omega) (by omega) (by omega) (by omega)
  have e6 : (if N (q_one (0 ≤ s ∧ s < ns)) = 0 then some (0 : Int32) else if J k < 0 then some 0 else some 1) = some (N (q_one ((0 ≤ s ∧ s < ns) ∧ 0 ≤ k))) := by
    by_cases a : 0 ≤ s ∧ s < ns
    · rw [if_neg (fun q => (q_one0 _).mp q a)]
      by_cases c : k < 0
      · rw [if_pos (ek.mpr c), q_one_f (by omega)]; rfl
      · rw [if_neg (fun q => c (ek.mp q)), q_one_t (by omega)]; rfl
    · rw [if_pos ((q_one0 _).mpr a), q_one_f (fun q => a q.1)]; rfl
  rw [q_needS b (by omega), bd1_i (q_isSp b (by omega)), bd1_i e6]
  by_cases A : 0 ≤ s ∧ s < ns
  case neg =>
    left
    rw [if_neg A, q_goes_n (fun q => A q.1)]
    exact ⟨1, 0, Or.inl rfl, rfl, rfl⟩
  rw [if_pos A, bx0_r]
  by_cases B : 0 ≤ k
  case neg =>
    left
    rw [if_neg (fun q => B (ek'.mp q)), q_goes_n (fun q => B q.2)]
    exact ⟨1, 0, Or.inl rfl, rfl, rfl⟩
  rw [if_pos (ek'.mpr B)]
  by_cases g : fs
  case neg =>
    left
    rw [q_fr_n g, q_goes_s ⟨A, B⟩ g]
    exact ⟨2, 0, Or.inr rfl, rfl, rfl⟩
  right
  obtain ⟨f', m1, m2⟩ := q_mk hg hF h81 hc (s := s) (by omega) f
  rw [q_fr_y g, bx0_r, q_goes_y ⟨A, B⟩ g, bd2_i rfl, if_neg (show ¬ (1 : Int32) = 0 by decide), bd1_i m1]
  have lo := q_nbr_L hg hr.2.1 hr.2.2.2.2.1 hr.2.2.1 hr.2.2.2.2.2 hr hF h81 hcr (s := s) (by omega) m2 0 fu 0 (J k) (by unfold fu; omega) (by omega)
  have lo' : (m_Sp_neighbour_L40 f' (N ns) fu (J k) (-1) = some (Sum.inr ()) ∧ m_Mo_neighbour_L31 (J s) 0 (N ns) (N (q_NP n I)) fx fy pb pe pf pr fu (J k) (-1) = some (Sum.inr ())) ∨
      ∃ x, m_Sp_neighbour_L40 f' (N ns) fu (J k) (-1) = some (Sum.inl (Sum.inr (x, f'))) ∧ m_Mo_neighbour_L31 (J s) 0 (N ns) (N (q_NP n I)) fx fy pb pe pf pr fu (J k) (-1) = some (Sum.inl (x, 0)) := lo
  rcases lo' with ⟨l1, l2⟩ | ⟨x, l1, l2⟩
  · rw [l1, l2]
    exact ⟨_, _, rfl, rfl⟩
  · rw [l1, l2]
    exact ⟨_, _, rfl, rfl⟩
theorem q_at {n : Nat} {T : Sto} {nx ny : Nat} {X Y : Nat → Nat} {F : Ce → Int} {fx fy gx gy ce ce' f1 f2 f3 f4 fI fA fL fH : Nat → Int32} {fs : Prop} (hn : n ≤ 20) (hok : fs → q_ok n T) (hcl : fs → q_cl n T f1 f2 f3 f4) (hrl : fs → q_rl n T fI fA fL fH) (nx40 : nx ≤ 40) (ny40 : ny ≤ 40) (hr : q_gr nx ny X Y fx fy) (hr' : q_gr nx ny X Y gx gy) (hce : fs → q_cc 41 nx ny ce F) (hce' : fs → q_cc 42 nx ny ce' F) (p w cd : Int32) :
    q_agr (m_Sp_at p w (N (q_one (¬ fs))) (N n) f1 f2 f3 f4 (N nx) fx (N ny) fy ce) (m_Mo_at p w cd (N n) (N (q_one fs)) (N nx) (N ny) fI fA fL fH gx gy ce') := by
  have b := J_bd p
  have bw := J_bd w
  rw [J_of p, J_of w]
  generalize p.toInt = s at *
  generalize w.toInt = k at *
  unfold m_Sp_at m_Mo_at
  have e1 : m_Mo_isIn (Int32.toInt64 (J s)) 0 500 = _ := q_in32 (lo := 0) (hi := 500) b (by omega) (by omega)
  have e2 : m_Mo_isIn (Int32.toInt64 (J k)) 0 500 = _ := q_in32 (lo := 0) (hi := 500) bw (by omega) (by omega)
  rw [J_K b.1 b.2, J_K bw.1 bw.2, q_needC (by omega), q_needC (by omega)]
  rw [J_K b.1 b.2] at e1
  rw [J_K bw.1 bw.2] at e2
  rw [bd1_i e1, bd1_i (q_conj e2)]
  by_cases A : 0 ≤ s ∧ s ≤ 500
  case neg =>
    rw [if_neg A, q_goes_n (fun q => A q.1)]
    exact q_agr1 rfl rfl
  by_cases B : 0 ≤ k ∧ k ≤ 500
  case neg =>
    rw [if_pos A, if_neg B, q_goes_n (fun q => B q.2)]
    exact q_agr1 rfl rfl
  rw [if_pos A, if_pos B, bx0_r, bx0_r]
  by_cases g : fs
  case neg =>
    rw [q_fr_n g, q_goes_s ⟨A, B⟩ g]
    exact q_agr2 rfl rfl
  obtain ⟨x, rfl⟩ : ∃ x : Nat, (x : Int) = s := ⟨s.toNat, by omega⟩
  obtain ⟨y, rfl⟩ : ∃ y : Nat, (y : Int) = k := ⟨k.toNat, by omega⟩
  rw [show J (x : Int) = N x from rfl, show J (y : Int) = N y from rfl]
  rw [q_fr_y g, bx0_r, q_goes_y ⟨A, B⟩ g, bd2_i rfl, if_neg (show ¬ (1 : Int32) = 0 by decide), bd1_i (q_Chold (hok g) (hcl g) (by omega) (by omega))]
  have l40 := q_Rat40 (hok g) (hrl g) (x := x) (y := y) (by omega) (by omega) 0 fu 0 (by unfold fu; omega) (by omega) (fun m h => by omega)
  have l40' : ((∃ m, m < n ∧ q_on T m x y) ∧ m_Mo_at_L40 (N x) (N y) 0 (N n) fI fA fL fH fu 0 = some (Sum.inl (J (-2), 0))) ∨ ((¬ ∃ m, m < n ∧ q_on T m x y) ∧ m_Mo_at_L40 (N x) (N y) 0 (N n) fI fA fL fH fu 0 = some (Sum.inr ())) := l40
  rcases l40' with ⟨h1, h2⟩ | ⟨h1, h2⟩
  · rw [if_neg (fun q => (q_one0 _).mp q h1), h2]
    exact q_agr0 _ rfl rfl
  · obtain ⟨kx, a1, a2⟩ := q_upTo hr.1 hr.2.1 nx40 hr.2.2.1 (v := x) (by clear h1; omega)
    obtain ⟨ky, a3, a4⟩ := q_upTo hr.2.2.2.1 hr.2.2.2.2.1 ny40 hr.2.2.2.2.2 (v := y) (by clear h1; omega)
    obtain ⟨kx', c1, c2⟩ := q_Rat69 hr'.1 hr'.2.1 nx40 hr'.2.2.1 (v := x) (by clear h1; omega) fu 0 (by clear h1; unfold fu; omega) (by clear h1; omega) (fun i h => by clear h1; omega)
    obtain ⟨ky', c3, c4⟩ := q_Rat96 hr'.2.2.2.1 hr'.2.2.2.2.1 ny40 hr'.2.2.2.2.2 (v := y) (by clear h1; omega) fu 0 (by clear h1; unfold fu; omega) (by clear h1; omega) (fun i h => by clear h1; omega)
    have kx1 := q_up_eq c2 a2
    have ky1 := q_up_eq c4 a4
    subst kx1
    subst ky1
    have u1 := a2.1
    have u2 := a4.1
    have c1' : m_Mo_at_L69 (N x) (N nx) gx fu 0 = some (N kx') := c1
    have c3' : m_Mo_at_L96 (N y) (N ny) gy fu 0 = some (N ky') := c3
    clear a2 a4 c2 c4 l40
    have i1 : 41 * kx' + ky' < 1681 := by clear h1; omega
    have i2 : 42 * kx' + ky' < 1764 := by clear h1; omega
    have es : m_Gr_spaceAt (N x) (N y) (N nx) fx (N ny) fy ce = some (J (F (kx', ky'))) := by
      unfold m_Gr_spaceAt m_Gr_cell
      rw [bd1_i a1, bd1_i a3, bd1_i rfl, N_lit 41, N_mul, N_add, Nat.mul_comm, gI_N i1 (by clear h1; omega), N_nat (by clear h1; omega), hce g kx' ky' u1 u2]
    rw [if_pos ((q_one0 _).mpr h1), bd1_i es, h2]
    refine q_agr0 _ rfl ?_
    show (bd1 (m_Mo_at_L69 (N x) (N nx) gx fu 0) fun x25 => bd1 (m_Mo_at_L96 (N y) (N ny) gy fu 0) fun x33 => gI ((42 * x25) + x33) 1764 (some (ce' ((42 * x25) + x33).toNatClampNeg, (0 : Int32)))) = _
    rw [bd1_i c1', bd1_i c3', N_lit 42, N_mul, N_add, gI_N i2 (by clear h1; omega), N_nat (by clear h1; omega), hce' g kx' ky' u1 u2]
/-! Loose ends. -/
theorem q_lo_end {n : Nat} {T I : Sto} {nx ny : Nat} {X Y : Nat → Nat} (hg : q_gi n I nx ny) (hi : q_ix n T I X Y) (hY : q_inc ny Y) {v : Nat × Nat} {d t : Nat} (hp : q_pt n I v.1 v.2) (hd : d < 4) (hw : q_wd n I v.1 v.2 d) (ht : t < 2 * n) (ha : q_al n I t) (hv : q_ev I t = v) :
    (q_PP n I (q_o n I v d / 2)).1 = t / 2 ∧ (d + 2) % 4 = (q_d0 T (t / 2) + 2 * (1 - t % 2)) % 4 := by
  obtain ⟨o1, o2, o3⟩ := q_o_spec hg hp hw
  obtain ⟨l, l1, l2, l3⟩ := q_wd_on hg hw
  have hl : l = t / 2 := Classical.byContradiction (fun q => ha l l1 q (by rw [hv]; exact l2))
  subst hl
  have ht2 : t / 2 < n := by omega
  obtain ⟨i1, i2, i3, i4⟩ := hi (t / 2) ht2
  obtain ⟨g1, g2, g3⟩ := hg.2.2.2.1 (t / 2) ht2
  have fe : (yl T (t / 2) = yh T (t / 2)) ↔ (yl I (t / 2) = yh I (t / 2)) := by
    rw [i2, i4]
    exact hY.eq_iff (by omega) g2
  constructor
  · have hpa := q_pcA hg (p := q_o n I v d / 2) (by omega)
    unfold q_pa at hpa
    generalize q_o n I v d = e at *
    apply Classical.byContradiction
    intro q
    refine ha (q_PP n I (e / 2)).1 hpa.1 q ?_
    rw [hv, ← o2]
    obtain ⟨p1, p2, p3, p4, _⟩ := hpa
    obtain ⟨m1, m2, m3⟩ := hg.2.2.2.1 _ p1
    unfold q_qb q_nd q_on
    unfold q_lo at p2
    unfold q_hi at p4
    generalize (q_PP n I (e / 2)).1 = m at *
    by_cases f : yl I m = yh I m
    · rw [if_pos f] at p2 p4
      by_cases c : e % 2 = 0
      · rw [if_pos c, if_pos f]; dsimp only; omega
      · rw [if_neg c, if_pos f]; dsimp only; omega
    · rw [if_neg f] at p2 p4
      by_cases c : e % 2 = 0
      · rw [if_pos c, if_neg f]; dsimp only; omega
      · rw [if_neg c, if_neg f]; dsimp only; omega
  · unfold q_d0
    have v1 : v.1 = if t % 2 = 0 then xl I (t / 2) else xh I (t / 2) := by rw [← hv]; unfold q_ev; split <;> rfl
    have v2 : v.2 = if t % 2 = 0 then yl I (t / 2) else yh I (t / 2) := by rw [← hv]; unfold q_ev; split <;> rfl
    clear hw ha hv o1 o2 o3 hp
    by_cases f : yl I (t / 2) = yh I (t / 2)
    · rw [if_pos (fe.mpr f)]
      by_cases c : t % 2 = 0
      · rw [if_pos c] at v1 v2; omega
      · rw [if_neg c] at v1 v2; omega
    · rw [if_neg (fun q => f (fe.mp q))]
      by_cases c : t % 2 = 0
      · rw [if_pos c] at v1 v2; omega
      · rw [if_neg c] at v1 v2; omega
theorem q_and3 : ∀ d, d < 4 → (N d + 2) &&& 3 = N ((d + 2) % 4) := by decide +kernel
theorem q_loose {n : Nat} {T I : Sto} {nx ny : Nat} {X Y : Nat → Nat} {F : Ce → Int} {nl : Nat} {gk gk' : Nat → Nat} {fx fy pX pY pA pl be di le ls LL LX LY LR f1 f2 f3 f4 : Nat → Int32} {lc : Int32} (hok : q_ok n T) (hg : q_gi n I nx ny) (hi : q_ix n T I X Y) (hr : q_gr nx ny X Y fx fy) (hp : q_pr n I nx ny X Y (40 * nx) pX pY pA) (hc : q_cp n I F (q_NP n I) (q_PP n I) pl be di le) (hnl : nl ≤ 40) (hk1 : q_cut nl gk (q_SL n I)) (hk2 : q_cut nl gk' (q_SL n I)) (hl1 : q_cls n I nl gk ls) (hl2 : q_rls n T I X Y nl gk' LL LX LY LR) {fs : Prop} (hlc : fs → lc = N n ∧ q_cl n T f1 f2 f3 f4) (p w cd : Int32) :
    q_agr (m_Sp_loose p w (N (q_one (¬ fs))) lc f1 f2 f3 f4 (N nl) pX pY ls pl be di) (m_Mo_loose p w cd (N (q_one fs)) (N nl) LL LX LY LR) := by
  have b := J_bd p
  have bw := J_bd w
  rw [J_of p, J_of w]
  generalize p.toInt = s at *
  generalize w.toInt = k at *
  have h220 := q_NP_220 hg
  have hn := hok.1
  unfold m_Sp_loose m_Mo_loose
  have e1 := @q_needB k 0 3 bw (by omega) (by omega)
  have e2 : m_Mo_isIn (Int32.toInt64 (J k)) 0 3 = _ := q_in32 (lo := 0) (hi := 3) bw (by omega) (by omega)
  have ek : (J s < 0) ↔ s < 0 := J_lt (b := 0) (by omega) (by omega) (by omega) (by omega)
  have ek' : (0 ≤ J s) ↔ 0 ≤ s := J_le (a := 0) (by omega) (by omega) (by omega) (by omega)
  have es : (J s < N nl) ↔ s < nl := J_lt (by omega) (by omega) (by omega) (by omega)
  by_cases A : 0 ≤ s
  case neg =>
    rw [if_neg (fun q => A (ek'.mp q)), if_pos (ek.mpr (by omega)), bd1_i rfl, q_goes0]
    exact q_agr1 rfl rfl
  rw [if_pos (ek'.mpr A), if_neg (show ¬ J s < 0 from fun q => by have := ek.mp q; omega), show m_Sp_needBetween (J k) 0 3 = _ from e1, bd1_i e2]
  by_cases B : 0 ≤ k ∧ k ≤ 3
  case neg =>
    rw [if_neg B, if_pos ((q_one0 _).mpr B), bd1_i rfl, q_goes0]
    exact q_agr1 rfl rfl
  rw [if_pos B, if_neg (fun q => (q_one0 _).mp q B), bx0_r, bd1_i rfl]
  by_cases g : fs
  case neg =>
    rw [q_fr_n g, q_goes1s g]
    exact q_agr2 rfl rfl
  rw [q_fr_y g, bx0_r, q_goes1y g, bd2_i rfl, if_neg (show ¬ (1 : Int32) = 0 by decide)]
  by_cases C : s < nl
  case neg =>
    rw [if_neg (fun q => C (es.mp q)), if_neg (fun q => C (es.mp q))]
    exact q_agr1 rfl rfl
  rw [if_pos (es.mpr C), if_pos (es.mpr C)]
  obtain ⟨a, rfl⟩ : ∃ a : Nat, (a : Int) = s := ⟨s.toNat, by omega⟩
  have ha : a < nl := by omega
  obtain ⟨v, d, v1, v2, v3, v4, v5, v6⟩ := hl1 a ha
  obtain ⟨t, t1, t2, t3, t4, t5, t6, t7⟩ := hl2 a ha
  have hkk := (q_cut_same hk1 hk2).2 a ha
  have hvt : q_ev I t = v := q_pv_inj hg (q_ev_pt I t1) v1 (by rw [t3, v2, hkk])
  obtain ⟨w1, w2⟩ := q_lo_end hg hi hr.2.2.2.2.1 v1 v4 v5 t1 t2 hvt
  obtain ⟨o1, o2, o3⟩ := q_o_spec hg v1 v5
  obtain ⟨hl, hcl⟩ := hlc g
  subst hl
  obtain ⟨x1, y1⟩ := q_pr_v hg hp v1
  have vl := q_pv_lt hg v1
  have vi := q_pt_in hg v1
  have bx := hr.2.2.1 _ vi.1
  have bY := hr.2.2.2.2.2 _ vi.2
  have a40 : a < 40 := by omega
  have an : (J (a : Int)).toNatClampNeg = a := N_nat (by omega)
  have ga : ∀ {α : Type} (x : Option α), gI (J (a : Int)) 40 x = x := fun x => gI_J (by omega) (by omega) (by omega)
  have he := q_lineOf hg hc o1
  have eb : m_Ne_beginningOf (N (q_o n I v d)) be = some (N (q_pv n I v)) := by unfold m_Ne_beginningOf; rw [gI_N (by omega) (by omega), N_nat (by omega), (q_cp_side hc o1).1, o2]
  have ed : m_Ne_directionOf (N (q_o n I v d)) di = some (N d) := by unfold m_Ne_directionOf; rw [gI_N (by omega) (by omega), N_nat (by omega), (q_cp_side hc o1).2.1, o3]
  have et : m_Sp_turned (N d) 2 = some (N ((d + 2) % 4)) := by unfold m_Sp_turned; rw [q_and3 d v4]
  have er := q_Creach hok hcl (x := X v.1) (y := Y v.2) (d := (d + 2) % 4) bx bY (Nat.mod_lt _ (by omega))
  have gp : ∀ {α : Type} (x : Option α), gI (N (q_pv n I v)) 140 x = x := fun x => gI_N vl (by omega)
  have pn : (N (q_pv n I v)).toNatClampNeg = q_pv n I v := N_nat (by omega)
  have reach : q_rea (q_Dc T (X v.1) (Y v.2) ((d + 2) % 4)) n = q_rea (q_Dr T (t / 2) (t % 2)) n := by
    refine q_rea_same (fun o ho hq => ?_)
    have := q_D_same hok (l := t / 2) (e := t % 2) (o := o) (by clear hq; omega) ho (by clear hq; omega)
    obtain ⟨u1, u2⟩ := q_ev_T hi t1
    rw [show 2 * (t / 2) + t % 2 = t by clear hq this; omega, u1, u2, hvt, ← w2] at this
    exact this hq
  rw [ga, an, lt_e, v6, bd1_i eb]
  have eq0 : (J k = 0) ↔ k = 0 := J_eq (b := 0) (by omega) (by omega) (by omega) (by omega)
  have eq1 : (J k = 1) ↔ k = 1 := J_eq (b := 1) (by omega) (by omega) (by omega) (by omega)
  have eq2 : (J k = 2) ↔ k = 2 := J_eq (b := 2) (by omega) (by omega) (by omega) (by omega)
  by_cases z0 : k = 0
  · rw [if_pos (eq0.mpr z0), if_pos (eq0.mpr z0), bd1_i he, ga, t4, w1]
    exact q_agr0 _ rfl rfl
  rw [if_neg (fun q => z0 (eq0.mp q)), if_neg (fun q => z0 (eq0.mp q))]
  by_cases z1 : k = 1
  · rw [if_pos (eq1.mpr z1), if_pos (eq1.mpr z1), gp, pn, x1, ga, t5, hvt]
    exact q_agr0 _ rfl rfl
  rw [if_neg (fun q => z1 (eq1.mp q)), if_neg (fun q => z1 (eq1.mp q))]
  by_cases z2 : k = 2
  · rw [if_pos (eq2.mpr z2), if_pos (eq2.mpr z2), gp, pn, y1, ga, t6, hvt]
    exact q_agr0 _ rfl rfl
  rw [if_neg (fun q => z2 (eq2.mp q)), if_neg (fun q => z2 (eq2.mp q)), bd1_i ed, bd1_i et, gp, gp, pn, x1, y1, bd1_i er, ga, t7, reach]
  exact q_agr0 _ rfl rfl
theorem q_wayA {n : Nat} {T I : Sto} {nx ny : Nat} {X Y : Nat → Nat} {F : Ce → Int} {ns : Nat} {dn df dt : Nat → Nat} {fn ff ft fn' ff' ft' f1 f2 f3 f4 fI fA fL fH fx fy pX pY pA pl be di le rpl pb pe pf pr : Nat → Int32} {R : Nat} (hok : q_ok n T) (hg : q_gi n I nx ny) (hi : q_ix n T I X Y) (hr : q_gr nx ny X Y fx fy) (hF : q_labs n I nx ny F ns) (hp : q_pr n I nx ny X Y (40 * nx) pX pY pA) (hc : q_cp n I F (q_NP n I) (q_PP n I) pl be di le) (hcr : q_rp I F (q_NP n I) (q_PP n I) rpl pb pe pf pr) (hR : R ≤ 1000) {fs : Prop} (hcl : fs → q_cl n T f1 f2 f3 f4) (hrl : fs → q_rl n T fI fA fL fH) (hd : fs → q_dr n dn df dt fn ff ft) (hd' : fs → q_dr n dn df dt fn' ff' ft') (p w cd vo : Int32) (fa fo fa' : Nat → Int32) :
    (∃ (k : Nat) (v : Int32), (k = 1 ∨ k = 2) ∧ m_Sp_way p w (N R) (N (q_one (¬ fs))) f1 f2 fn ff ft (N (q_NP n I)) pX pY pl be le vo fa fo (N ns) = some (Sum.inl k) ∧ m_Mo_way p w cd (N (q_one fs)) (N (q_one (R ≠ 0))) (N ns) (N (q_NP n I)) fI fL fn' ff' ft' fx fy rpl pb pe pf pr fa' = some (v, N k, fa')) ∨
    ∃ (v vo' : Int32) (g1 g2 g3 : Nat → Int32), m_Sp_way p w (N R) (N (q_one (¬ fs))) f1 f2 fn ff ft (N (q_NP n I)) pX pY pl be le vo fa fo (N ns) = some (Sum.inr (v, vo', g1, g2)) ∧ m_Mo_way p w cd (N (q_one fs)) (N (q_one (R ≠ 0))) (N ns) (N (q_NP n I)) fI fL fn' ff' ft' fx fy rpl pb pe pf pr fa' = some (v, 0, g3) := by
  have h81 := q_ns_81 hg hF
  have b := J_bd p
  have bw := J_bd w
  rw [J_of p, J_of w]
  generalize p.toInt = s at *
  generalize w.toInt = k at *
  unfold m_Sp_way m_Mo_way
  have e4 : (if N (q_one (R ≠ 0)) = 0 then some (0 : Int32) else bd1 (m_Mo_isAny (J s) (N ns)) fun r6 => if r6 = 0 then some 0 else bd1 (m_Mo_isAny (J k) (N ns)) fun r9 => if r9 = 0 then some 0 else some 1) = some (N (q_one ((R ≠ 0 ∧ -1 ≤ s ∧ s < ns) ∧ (R ≠ 0 ∧ -1 ≤ k ∧ k < ns)))) := by
    by_cases r : R ≠ 0
    · rw [if_neg (fun q => (q_one0 _).mp q r), bd1_i (q_isAny b (by omega)), q_conj (q_isAny bw (by omega)), q_one_c (show ((-1 ≤ s ∧ s < ns) ∧ (-1 ≤ k ∧ k < ns)) ↔ ((R ≠ 0 ∧ -1 ≤ s ∧ s < ns) ∧ (R ≠ 0 ∧ -1 ≤ k ∧ k < ns)) from ⟨fun q => ⟨⟨r, q.1⟩, r, q.2⟩, fun q => ⟨q.1.2, q.2.2⟩⟩)]
    · rw [if_pos ((q_one0 _).mpr r), q_one_f (fun q => r q.1.1)]; rfl
  rw [q_needO b (by omega) hR, q_needO bw (by omega) hR, bd1_i e4]
  by_cases A : R ≠ 0 ∧ -1 ≤ s ∧ s < ns
  case neg =>
    left
    rw [if_neg A, q_goes_n (fun q => A q.1)]
    exact ⟨1, 0, Or.inl rfl, rfl, rfl⟩
  by_cases B : R ≠ 0 ∧ -1 ≤ k ∧ k < ns
  case neg =>
    left
    rw [if_pos A, if_neg B, q_goes_n (fun q => B q.2)]
    exact ⟨1, 0, Or.inl rfl, rfl, rfl⟩
  rw [if_pos A, if_pos B, bx0_r, bx0_r]
  by_cases g : fs
  case neg =>
    left
    rw [q_fr_n g, q_goes_s ⟨A, B⟩ g]
    exact ⟨2, 0, Or.inr rfl, rfl, rfl⟩
  right
  obtain ⟨a, ha⟩ : ∃ a : Nat, (a : Int) - 1 = s := ⟨(s + 1).toNat, by omega⟩
  obtain ⟨c, hc'⟩ : ∃ c : Nat, (c : Int) - 1 = k := ⟨(k + 1).toNat, by omega⟩
  subst ha
  subst hc'
  have c201 : c < 201 := by omega
  obtain ⟨r, vo', g1, g2, e1, e2⟩ := q_Cway hok hg hi hr.2.1 hr.2.2.2.2.1 hr.2.2.1 hr.2.2.2.2.2 hF (hcl g) (hd g) hp hc (a := a) (b := c) (by omega) (by omega) vo fa fo
  obtain ⟨g3, g4, e3, e5, e6⟩ := q_Rway hok hg hi hr hF (hrl g) (hd' g) hcr (a := a) (b := c) (by omega) (by omega) fa'
  have hv : g4 c = r := by
    rcases e2 with ⟨d, d1, d2⟩ | ⟨d1, d2⟩ <;> rcases e6 with ⟨d', d3, d4⟩ | ⟨d3, d4⟩
    · rw [d2, d4, q_di_eq d1 d3]
    · exact (d3 d d1.1).elim
    · exact (d1 d' d3.1).elim
    · rw [d2, d4]
  have e3' : m_Mo_way_L39 (J ((a : Int) - 1)) (N ns) fu 0 fa' = some g3 := e3
  have e5' : m_Mo_way_L77 (N (q_NP n I)) fI fL fn' ff' ft' fx fy rpl pb pe pf pr fu 0 1 g3 = some g4 := e5
  have jc : J ((c : Int) - 1) + 1 = N c := by rw [show (1 : Int32) = J 1 from rfl, J_add]; unfold N; congr 1; omega
  refine ⟨r, vo', g1, g2, g4, ?_, ?_⟩
  · rw [q_fr_y g, bx0_r, e1]
    rfl
  · rw [q_goes_y ⟨A, B⟩ g, bd2_i rfl, if_neg (show ¬ (1 : Int32) = 0 by decide), bd1_i e3', bd1_i e5', jc, gI_N c201 (by omega), N_nat (by omega), hv]
theorem q_over {nx' nx ny' ny ns' ns : Nat} {X' X Y' Y : Nat → Nat} {F' F : Ce → Int} {c1 c2 fx' fx fy' fy com : Nat → Int32} (hs' : ns' ≤ 81) (hs : ns ≤ 81) (hx' : nx' ≤ 40) (hx : nx ≤ 40) (hy' : ny' ≤ 40) (hy : ny ≤ 40) {fs : Prop} (l1 : fs → q_lb 41 nx' ny' c1 F' ns') (l2 : fs → q_lb 41 nx ny c2 F ns) (g1 : fs → q_gr nx' ny' X' Y' fx' fy') (g2 : fs → q_gr nx ny X Y fx fy)
    {kn : Prop} (v1 v2 : Int32) (a1 a2 a3 a4 a5 a6 ar : Nat → Int32) (hk : fs → kn → q_tb 81 ns' ns ar (q_ov nx' nx ny' ny X' X Y' Y F' F)) (ht : fs → q_tb 200 ns' ns com (q_ov nx' nx ny' ny X' X Y' Y F' F)) (p w cd : Int32) :
    (∃ (k : Nat) (v : Int32), (k = 1 ∨ k = 2) ∧ m_Sp_overlap p w (N (q_one (¬ fs))) (N (q_one kn)) v1 a1 a2 a3 v2 a4 a5 a6 ar (N ns) (N nx) fx (N ny) fy c2 (N ns') (N nx') fx' (N ny') fy' c1 = some (Sum.inl k) ∧ m_Mo_overlap p w cd (N (q_one fs)) (N ns) (N ns') com = some (v, N k)) ∨
    ∃ (v : Int32) (kn' : Prop) (w1 w2 : Int32) (b1 b2 b3 b4 b5 b6 ar' : Nat → Int32), m_Sp_overlap p w (N (q_one (¬ fs))) (N (q_one kn)) v1 a1 a2 a3 v2 a4 a5 a6 ar (N ns) (N nx) fx (N ny) fy c2 (N ns') (N nx') fx' (N ny') fy' c1 = some (Sum.inr (v, N (q_one kn'), w1, b1, b2, b3, w2, b4, b5, b6, ar')) ∧ m_Mo_overlap p w cd (N (q_one fs)) (N ns) (N ns') com = some (v, 0) ∧ fs ∧ (kn' → q_tb 81 ns' ns ar' (q_ov nx' nx ny' ny X' X Y' Y F' F)) := by
  have b := J_bd p
  have bw := J_bd w
  rw [J_of p, J_of w]
  generalize p.toInt = s at *
  generalize w.toInt = k at *
  unfold m_Sp_overlap m_Mo_overlap
  have ek : (J s < 0) ↔ s < 0 := J_lt (b := 0) (by omega) (by omega) (by omega) (by omega)
  have ek' : (0 ≤ J s) ↔ 0 ≤ s := J_le (a := 0) (by omega) (by omega) (by omega) (by omega)
  have es : (J s < N ns') ↔ s < ns' := J_lt (by omega) (by omega) (by omega) (by omega)
  have es' : (N ns' ≤ J s) ↔ (ns' : Int) ≤ s := J_le (by omega) (by omega) (by omega) (by omega)
  by_cases A : 0 ≤ s
  case neg =>
    left
    rw [if_neg (fun q => A (ek'.mp q)), if_pos (ek.mpr (by omega)), bd1_i rfl, q_goes0]
    exact ⟨1, 0, Or.inl rfl, rfl, rfl⟩
  rw [if_pos (ek'.mpr A), if_neg (show ¬ J s < 0 from fun q => by have := ek.mp q; omega), q_needS bw (by omega), bd1_i (q_isSp bw (by omega))]
  by_cases B : 0 ≤ k ∧ k < ns
  case neg =>
    left
    rw [if_neg B, if_pos ((q_one0 _).mpr B), bd1_i rfl, q_goes0]
    exact ⟨1, 0, Or.inl rfl, rfl, rfl⟩
  rw [if_pos B, if_neg (fun q => (q_one0 _).mp q B), bx0_r, bd1_i rfl]
  by_cases g : fs
  case neg =>
    left
    rw [q_fr_n g, q_goes1s g]
    exact ⟨2, 0, Or.inr rfl, rfl, rfl⟩
  right
  rw [q_fr_y g, bx0_r, q_goes1y g, bd2_i rfl, if_neg (show ¬ (1 : Int32) = 0 by decide)]
  by_cases C : s < ns'
  case neg =>
    rw [if_neg (fun q => C (es.mp q)), if_pos (es'.mpr (by omega))]
    exact ⟨0, kn, v1, v2, a1, a2, a3, a4, a5, a6, ar, rfl, rfl, g, hk g⟩
  rw [if_pos (es.mpr C), if_neg (fun q => by have := es'.mp q; omega)]
  obtain ⟨w1, b1, b2, b3, w2, b4, b5, b6, ar', f1, f2⟩ := q_Cfind2 hs' hs hx' hx hy' hy (l1 g) (l2 g) (g1 g) (g2 g) v1 v2 a1 a2 a3 a4 a5 a6 ar (hk g)
  obtain ⟨o, rfl⟩ : ∃ o : Nat, (o : Int) = s := ⟨s.toNat, by omega⟩
  obtain ⟨m, rfl⟩ : ∃ m : Nat, (m : Int) = k := ⟨k.toNat, by omega⟩
  have ho : o < ns' := by omega
  have hm : m < ns := by omega
  have i1 : 81 * o + m < 6561 := by omega
  have i2 : 200 * o + m < 40000 := by omega
  have ea : m_Co_areaOf (J (o : Int)) (J (m : Int)) ar' = some (J (q_ov nx' nx ny' ny X' X Y' Y F' F o m)) := by
    unfold m_Co_areaOf
    rw [show J (o : Int) = N o from rfl, show J (m : Int) = N m from rfl, N_lit 81, N_mul, N_add, Nat.mul_comm, gI_N i1 (by omega), N_nat (by omega), f2 o m ho hm]
  refine ⟨J (q_ov nx' nx ny' ny X' X Y' Y F' F o m), True, w1, w2, b1, b2, b3, b4, b5, b6, ar', ?_, ?_, g, fun _ => f2⟩
  · rw [f1, q_one_t trivial]
    show (bd1 (m_Co_areaOf (J (o : Int)) (J (m : Int)) ar') fun r20 => some (Sum.inr (r20, (1 : Int32), w1, b1, b2, b3, w2, b4, b5, b6, ar'))) = _
    rw [bd1_i ea]
    rfl
  · rw [show J (o : Int) = N o from rfl, show J (m : Int) = N m from rfl, N_lit 200, N_mul, N_add, gI_N i2 (by omega), N_nat (by omega), ht g o m ho hm]
    rfl
/-! What both keep of the last run. -/
def q_G (n : Nat) (T I : Sto) (nx ny : Nat) (X Y : Nat → Nat) (F : Ce → Int) (ns : Nat) (cfx cfy cce rfx rfy rce : Nat → Int32) : Prop :=
  q_ok n T ∧ q_gi n I nx ny ∧ q_ix n T I X Y ∧ q_labs n I nx ny F ns ∧ q_gr nx ny X Y cfx cfy ∧ q_lb 41 nx ny cce F ns ∧ q_gr nx ny X Y rfx rfy ∧ q_lb 42 nx ny rce F ns
def q_Nt (n : Nat) (I : Sto) (nx ny : Nat) (X Y : Nat → Nat) (F : Ce → Int) (cpt cpc rpt rpc ros : Int32) (pX pY pl be di le rpl pb pe pf pr so : Nat → Int32) : Prop :=
  (∃ pA, q_pr n I nx ny X Y (40 * nx) pX pY pA) ∧ q_cp n I F (q_NP n I) (q_PP n I) pl be di le ∧ q_rp I F (q_NP n I) (q_PP n I) rpl pb pe pf pr ∧ q_ou n I (q_NP n I) (q_PP n I) (fun i j d => so (4 * (42 * i + j) + d)) ∧
  cpt = N (q_np n I nx) ∧ rpt = N (q_np n I nx) ∧ cpc = N (q_NP n I) ∧ rpc = N (q_NP n I) ∧ ros = N (q_cnt (fun g => q_lf I (q_PP n I) F g = -1) (2 * q_NP n I))
def q_Rg (n : Nat) (I : Sto) (F : Ce → Int) (cnr rnr : Int32) (ord st sp rs rt rz : Nat → Int32) : Prop :=
  ∃ nr fl nr' ld ld' rl, cnr = N nr ∧ rnr = N nr' ∧ q_cri n I F nr ld fl ord st sp ∧ q_enu (q_nxt n I) (q_K n I) (2 * q_NP n I) nr ld ∧ nr ≤ 220 ∧ fl ≤ 440 ∧ (∀ r r', r < r' → r' < nr → q_K n I (ld r) < q_K n I (ld r')) ∧
    q_rri n I F nr' ld' rs rt rz rl ∧ q_enu (q_nxt n I) (q_K n I) (2 * q_NP n I) nr' ld' ∧ nr' ≤ 220 ∧ q_ord2 n I F nr' ld'
def q_Ls (n : Nat) (T I : Sto) (X Y : Nat → Nat) (cl rl : Int32) (ls LL LX LY LR : Nat → Int32) : Prop :=
  ∃ nl gk gk', cl = N nl ∧ rl = N nl ∧ nl ≤ 40 ∧ q_cut nl gk (q_SL n I) ∧ q_cut nl gk' (q_SL n I) ∧ q_cls n I nl gk ls ∧ q_rls n T I X Y nl gk' LL LX LY LR
def q_Od (nx ny : Nat) (X Y : Nat → Nat) (F : Ce → Int) (ns : Nat) (bs bx bY kn ros : Int32) (bfx bfy bce ar com : Nat → Int32) : Prop :=
  ∃ (ns' nx' ny' : Nat) (X' Y' : Nat → Nat) (F' : Ce → Int) (k : Prop), bs = N ns' ∧ bx = N nx' ∧ bY = N ny' ∧ ros = N ns' ∧ kn = N (q_one k) ∧ ns' ≤ 81 ∧ nx' ≤ 40 ∧ ny' ≤ 40 ∧ q_gr nx' ny' X' Y' bfx bfy ∧ q_lb 41 nx' ny' bce F' ns' ∧ (k → q_tb 81 ns' ns ar (q_ov nx' nx ny' ny X' X Y' Y F' F)) ∧ q_tb 200 ns' ns com (q_ov nx' nx ny' ny X' X Y' Y F' F)
def q_Nm (ns : Nat) (gv fn : Nat → Int32) : Prop := ∃ nm : Nat → Nat, (∀ o, nm o ≤ 1000) ∧ (∀ o, o < ns → gv o = N (nm o)) ∧ ∀ o, o < ns → fn o = N (nm o)
theorem q_Cbuild {n : Nat} {T I : Sto} {nx ny : Nat} {X Y : Nat → Nat} {F : Ce → Int} {fx fy f1 f2 f3 f4 ce : Nat → Int32} (hok : q_ok n T) (hg : q_gi n I nx ny) (hi : q_ix n T I X Y) (hc : q_cl n T f1 f2 f3 f4) (hr : q_gr nx ny X Y fx fy) (hce : q_cc 41 nx ny ce F) (v1 v2 v3 : Int32) (pX pY ls so pl be di le w pA : Nat → Int32) :
    ∃ nl gk pX' pY' ls' so' pl' be' di' le' w' pA', m_Ne_build v1 v2 v3 pX pY ls so pl be di le w pA (N n) f1 f2 f3 f4 (N nx) fx (N ny) fy ce = some (N (q_np n I nx), N (q_NP n I), N nl, pX', pY', ls', so', pl', be', di', le', w', pA') ∧
      q_pr n I nx ny X Y (40 * nx) pX' pY' pA' ∧ q_cp n I F (q_NP n I) (q_PP n I) pl' be' di' le' ∧ q_ou n I (q_NP n I) (q_PP n I) (fun i j d => so' (4 * q_pn n I (40 * i + j) + d)) ∧ nl ≤ 40 ∧ q_cut nl gk (q_SL n I) ∧ q_cls n I nl gk ls' := by
  have hn := hg.1
  obtain ⟨w', e1, hw⟩ := q_weigh hok hg hi hc hr w
  obtain ⟨pX', pY', so1, pA', e2, hp, hso⟩ := q_Cpts hg hr hw v1 pX pY so pA
  obtain ⟨so', pl', be', di', le', e3, hcp, hou⟩ := q_Cbuild_L hok hg hi hc hr hp hce fu 0 so1 pl be di le (by unfold fu; omega) (by omega) (fun p h => by have h : p < 0 := h; omega) (fun i j d hpt hd => Or.inr ⟨fun h hh => by have hh : h < 2 * 0 := hh; omega, by
    have a1 := q_pv_np hg (v := (i, j)) hpt
    exact hso _ (by unfold q_pv at a1; dsimp only at a1; omega)⟩)
  obtain ⟨nl, gk, ls', e4, h40, hcut, hcls⟩ := q_Clo hg hou v3 ls
  have e3' : m_Ne_build_L18 pA' (N n) f1 f2 f3 f4 (N nx) fx (N ny) fy ce fu 0 0 so1 pl be di le = _ := e3
  refine ⟨nl, gk, pX', pY', ls', so', pl', be', di', le', w', pA', ?_, hp, hcp, hou, h40, hcut, hcls⟩
  unfold m_Ne_build
  rw [bd1_i e1, bd5_i e2, bd6_i e3', bd2_i e4]
theorem q_gr_congr {nx ny : Nat} {X Y X' Y' : Nat → Nat} {fx fy : Nat → Int32} (h : q_gr nx ny X Y fx fy) (e1 : ∀ i, i < nx → X i = X' i) (e2 : ∀ i, i < ny → Y i = Y' i) : q_gr nx ny X' Y' fx fy := by
  obtain ⟨a1, a2, a3, a4, a5, a6⟩ := h
  refine ⟨fun i hi => by rw [a1 i hi, e1 i hi], fun i j hij hj => ?_, fun i hi => by rw [← e1 i hi]; exact a3 i hi, fun i hi => by rw [a4 i hi, e2 i hi], fun i j hij hj => ?_, fun i hi => by rw [← e2 i hi]; exact a6 i hi⟩
  · rw [← e1 i (by omega), ← e1 j hj]; exact a2 i j hij hj
  · rw [← e2 i (by omega), ← e2 j hj]; exact a5 i j hij hj
theorem q_cc_lb {w n : Nat} {I : Sto} {nx ny : Nat} {F : Ce → Int} {ns : Nat} {ce : Nat → Int32} (hg : q_gi n I nx ny) (hF : q_labs n I nx ny F ns) (h : q_cc w nx ny ce F) : q_lb w nx ny ce F ns := by
  intro c r h1 h2 h3 h4
  have := q_lab_bd hg hF (c, r) ⟨by show c ≤ nx; omega, by show r ≤ ny; omega⟩
  exact ⟨h c r (by omega) (by omega), this.1, this.2⟩
theorem q_fI_of {n : Nat} {T I : Sto} {nx ny : Nat} {X Y : Nat → Nat} {fI fA fL fH : Nat → Int32} (hg : q_gi n I nx ny) (hi : q_ix n T I X Y) (hY : q_inc ny Y) (hc : q_rl n T fI fA fL fH) : q_fI n I fI := by
  intro l hl
  obtain ⟨i1, i2, i3, i4⟩ := hi l hl
  obtain ⟨g1, g2, g3⟩ := hg.2.2.2.1 l hl
  rw [(q_rl_g hc hl).1]
  have fe : (yl T l = yh T l) ↔ (yl I l = yh I l) := by
    rw [i2, i4]
    exact hY.eq_iff (by omega) g2
  by_cases f : yl I l = yh I l
  · rw [if_pos f, if_pos (fe.mpr f)]
  · rw [if_neg f, if_neg (fun q => f (fe.mp q))]
