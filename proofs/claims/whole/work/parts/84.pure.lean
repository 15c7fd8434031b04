/-! Sums. -/
def q_sum (f : Nat → Int) : Nat → Int
  | 0 => 0
  | m + 1 => q_sum f m + f m
theorem q_sum_c {f g : Nat → Int} : ∀ {m}, (∀ i, i < m → f i = g i) → q_sum f m = q_sum g m := by
  intro m
  induction m with
  | zero => intro _; rfl
  | succ m ih => intro h; show q_sum f m + f m = q_sum g m + g m; rw [ih (fun i hi => h i (by omega)), h m (by omega)]
theorem q_sum_0 {f : Nat → Int} : ∀ {m}, (∀ i, i < m → f i = 0) → q_sum f m = 0 := by
  intro m
  induction m with
  | zero => intro _; rfl
  | succ m ih => intro h; show q_sum f m + f m = 0; rw [ih (fun i hi => h i (by omega)), h m (by omega)]; rfl
theorem q_sum_add (f g : Nat → Int) : ∀ m, q_sum (fun i => f i + g i) m = q_sum f m + q_sum g m := by
  intro m
  induction m with
  | zero => rfl
  | succ m ih => show q_sum (fun i => f i + g i) m + (f m + g m) = q_sum f m + f m + (q_sum g m + g m); rw [ih]; omega
theorem q_sum_mul (c : Int) (f : Nat → Int) : ∀ m, q_sum (fun i => c * f i) m = c * q_sum f m := by
  intro m
  induction m with
  | zero => exact (Int.mul_zero c).symm
  | succ m ih => show q_sum (fun i => c * f i) m + c * f m = c * (q_sum f m + f m); rw [ih, Int.mul_add]
theorem q_sum_swap (f : Nat → Nat → Int) (M : Nat) : ∀ n, q_sum (fun p => q_sum (fun i => f p i) M) n = q_sum (fun i => q_sum (fun p => f p i) n) M := by
  intro n
  induction n with
  | zero => exact (q_sum_0 (fun _ _ => rfl)).symm
  | succ n ih => show q_sum (fun p => q_sum (fun i => f p i) M) n + q_sum (fun i => f n i) M = q_sum (fun i => q_sum (fun p => f p i) n + f n i) M; rw [ih, q_sum_add]
theorem q_sum_one {f : Nat → Int} {k : Nat} : ∀ {m}, k < m → (∀ i, i < m → i ≠ k → f i = 0) → q_sum f m = f k := by
  intro m
  induction m with
  | zero => intro h; omega
  | succ m ih =>
    intro h hz
    show q_sum f m + f m = f k
    by_cases e : k = m
    · subst e; rw [q_sum_0 (fun i hi => hz i (by omega) (by omega))]; omega
    · rw [ih (by omega) (fun i hi => hz i (by omega)), hz m (by omega) (by omega)]; omega
theorem q_sum_two (f : Nat → Int) : ∀ m, q_sum f (2 * m) = q_sum (fun p => f (2 * p) + f (2 * p + 1)) m := by
  intro m
  induction m with
  | zero => rfl
  | succ m ih => show q_sum f (2 * m) + f (2 * m) + f (2 * m + 1) = q_sum _ m + (f (2 * m) + f (2 * m + 1)); rw [ih]; omega
theorem q_sum_nn {f : Nat → Int} : ∀ {m}, (∀ i, i < m → 0 ≤ f i) → 0 ≤ q_sum f m := by
  intro m
  induction m with
  | zero => intro _; exact Int.le_refl _
  | succ m ih => intro h; have := ih (fun i hi => h i (by omega)); have := h m (by omega); show 0 ≤ q_sum f m + f m; omega
theorem q_sum_le {f : Nat → Int} {B : Int} (hB : 0 ≤ B) : ∀ {m : Nat}, (∀ i, i < m → f i ≤ B) → q_sum f m ≤ m * B := by
  intro m
  induction m with
  | zero => intro _; rw [show ((0 : Nat) : Int) * B = 0 from Int.zero_mul B]; exact Int.le_refl _
  | succ m ih =>
    intro h
    have a := ih (fun i hi => h i (by omega))
    have b := h m (by omega)
    show q_sum f m + f m ≤ ((m + 1 : Nat) : Int) * B
    rw [Int.natCast_add, Int.add_mul, show ((1 : Nat) : Int) * B = B from Int.one_mul B]; omega
theorem q_sum_pos {f : Nat → Int} {k : Nat} : ∀ {m}, (∀ i, i < m → 0 ≤ f i) → k < m → 0 < f k → 0 < q_sum f m := by
  intro m
  induction m with
  | zero => intro _ h; omega
  | succ m ih =>
    intro h hk hp
    show 0 < q_sum f m + f m
    have a := q_sum_nn (f := f) (m := m) (fun i hi => h i (by omega))
    have b := h m (by omega)
    by_cases e : k = m
    · subst e; omega
    · have := ih (fun i hi => h i (by omega)) (by omega) hp; omega
noncomputable def q_ci (p : Prop) (x : Int) : Int := (q_one p : Int) * x
theorem q_ci_t {p : Prop} (h : p) (x : Int) : q_ci p x = x := by unfold q_ci; rw [q_one_t h]; exact Int.one_mul x
theorem q_ci_f {p : Prop} (h : ¬ p) (x : Int) : q_ci p x = 0 := by unfold q_ci; rw [q_one_f h]; exact Int.zero_mul x
/-! Lengths. -/
def q_len (I : Sto) (P : Pcs) (X Y : Nat → Nat) (p : Nat) : Int := ((X (q_nd I (P p).1 (P p).2.2).1 : Int) - X (q_nd I (P p).1 (P p).2.1).1) + ((Y (q_nd I (P p).1 (P p).2.2).2 : Int) - Y (q_nd I (P p).1 (P p).2.1).2)
theorem q_len_p {n : Nat} {I : Sto} {nx ny : Nat} {X Y : Nat → Nat} (hg : q_gi n I nx ny) (hX : q_inc nx X) (hY : q_inc ny Y) (bX : q_bd nx X 500) (bY : q_bd ny Y 500) {p : Nat} (hp : p < q_NP n I) :
    X (q_nd I (q_PP n I p).1 (q_PP n I p).2.1).1 ≤ X (q_nd I (q_PP n I p).1 (q_PP n I p).2.2).1 ∧ Y (q_nd I (q_PP n I p).1 (q_PP n I p).2.1).2 ≤ Y (q_nd I (q_PP n I p).1 (q_PP n I p).2.2).2 ∧ X (q_nd I (q_PP n I p).1 (q_PP n I p).2.2).1 ≤ 500 ∧ Y (q_nd I (q_PP n I p).1 (q_PP n I p).2.2).2 ≤ 500 ∧ 1 ≤ q_len I (q_PP n I) X Y p ∧ q_len I (q_PP n I) X Y p ≤ 500 := by
  obtain ⟨a1, a2, a3, a4, _⟩ := q_pcA hg hp
  have h1 := q_nd_in hg a1 (k := (q_PP n I p).2.1) (by omega)
  have h2 := q_nd_in hg a1 (k := (q_PP n I p).2.2) a4
  have b1 := bX _ h2.1
  have b2 := bY _ h2.2
  unfold q_len
  unfold q_nd at *
  by_cases f : yl I (q_PP n I p).1 = yh I (q_PP n I p).1
  · simp only [if_pos f] at *
    have := hX _ _ a3 h2.1
    omega
  · simp only [if_neg f] at *
    have := hY _ _ a3 h2.2
    omega
theorem q_pr_v {n : Nat} {I : Sto} {nx ny : Nat} {X Y : Nat → Nat} {pX pY pA : Nat → Int32} (hg : q_gi n I nx ny) (hp : q_pr n I nx ny X Y (40 * nx) pX pY pA) {v : Nat × Nat} (hv : q_pt n I v.1 v.2) : pX (q_pv n I v) = N (X v.1) ∧ pY (q_pv n I v) = N (Y v.2) := by
  have hin := q_pt_in hg hv
  have := (hp v.1 v.2 hin.1 hin.2 (by have := hg.2.2.1; omega)).1 hv
  exact ⟨this.2.1, this.2.2⟩
theorem q_jabs {a b : Nat} (ha : a ≤ 500) (hb : b ≤ 500) : jabs (N a - N b) = J (if b ≤ a then (a : Int) - b else (b : Int) - a) := by
  unfold jabs
  rw [q_NJ, show (0 : Int32) = J 0 from rfl]
  by_cases c : b ≤ a
  · rw [if_pos c, if_pos ((J_le (by omega) (by omega) (by omega) (by omega)).mpr (by omega))]
  · rw [if_neg c, if_neg (fun q => by have := (J_le (by omega) (by omega) (by omega) (by omega)).mp q; omega), J_sub]; congr 1; omega
theorem q_Clen {n : Nat} {I : Sto} {nx ny : Nat} {X Y : Nat → Nat} {F : Ce → Int} {pX pY pA pl be di le : Nat → Int32} (hg : q_gi n I nx ny) (hX : q_inc nx X) (hY : q_inc ny Y) (bX : q_bd nx X 500) (bY : q_bd ny Y 500) (hp : q_pr n I nx ny X Y (40 * nx) pX pY pA) (hc : q_cp n I F (q_NP n I) (q_PP n I) pl be di le) {h : Nat} (hh : h < 2 * q_NP n I) :
    m_Ne_lengthOf (N h) pX pY be = some (J (q_len I (q_PP n I) X Y (h / 2))) := by
  have h220 := q_NP_220 hg
  have hr := q_rv_lt hh
  have c1 := (q_cp_side hc hh).1
  have c2 := (q_cp_side hc hr).1
  have p1 := q_qb_pt hg hh
  have p2 := q_qb_pt hg hr
  have v1 := q_pv_lt hg p1
  have v2 := q_pv_lt hg p2
  obtain ⟨x1, y1⟩ := q_pr_v hg hp p1
  obtain ⟨x2, y2⟩ := q_pr_v hg hp p2
  obtain ⟨l1, l2, l3, l4, l5, l6⟩ := q_len_p hg hX hY bX bY (p := h / 2) (by omega)
  have i1 := q_pt_in hg p1
  have i2 := q_pt_in hg p2
  have bx1 := bX _ i1.1
  have bx2 := bX _ i2.1
  have by1 := bY _ i1.2
  have by2 := bY _ i2.2
  unfold m_Ne_lengthOf
  rw [gI_N (by omega) (by omega), N_nat (by omega), c1, lt_e, q_xor1 h (by omega), gI_N (by omega) (by omega), N_nat (by omega), c2, lt_e, gI_N (by omega) (by omega), gI_N (by omega) (by omega), gI_N (by omega) (by omega), gI_N (by omega) (by omega), N_nat (by omega), N_nat (by omega), x1, x2, y1, y2, q_jabs bx2 bx1, q_jabs by2 by1, J_add]
  congr 2
  obtain ⟨r1, r2⟩ := q_rv_d h
  unfold q_len
  unfold q_qb
  rw [r1]
  by_cases c : h % 2 = 0
  · rw [if_pos c, if_neg (fun q => r2.mp q c)]
    rw [if_pos l1, if_pos l2]
  · rw [if_neg c, if_pos (r2.mpr c)]
    by_cases ex : X (q_nd I (q_PP n I (h / 2)).1 (q_PP n I (h / 2)).2.2).1 ≤ X (q_nd I (q_PP n I (h / 2)).1 (q_PP n I (h / 2)).2.1).1
    · rw [if_pos ex]
      by_cases ey : Y (q_nd I (q_PP n I (h / 2)).1 (q_PP n I (h / 2)).2.2).2 ≤ Y (q_nd I (q_PP n I (h / 2)).1 (q_PP n I (h / 2)).2.1).2
      · rw [if_pos ey]; omega
      · rw [if_neg ey]; omega
    · rw [if_neg ex]
      by_cases ey : Y (q_nd I (q_PP n I (h / 2)).1 (q_PP n I (h / 2)).2.2).2 ≤ Y (q_nd I (q_PP n I (h / 2)).1 (q_PP n I (h / 2)).2.1).2
      · rw [if_pos ey]; omega
      · rw [if_neg ey]
theorem q_Rlen {n : Nat} {I : Sto} {nx ny : Nat} {X Y : Nat → Nat} {F : Ce → Int} {fx fy pl pb pe pf pr : Nat → Int32} (hg : q_gi n I nx ny) (hr : q_gr nx ny X Y fx fy) (hc : q_rp I F (q_NP n I) (q_PP n I) pl pb pe pf pr) {p : Nat} (hp : p < q_NP n I) :
    m_Mo_lengthOf (N p) fx fy pb pe = some (J (q_len I (q_PP n I) X Y p)) := by
  have h220 := q_NP_220 hg
  obtain ⟨c1, c2, c3, c4, c5⟩ := hc p hp
  obtain ⟨a1, a2, a3, a4, _⟩ := q_pcA hg hp
  have h1 := q_nd_in hg a1 (k := (q_PP n I p).2.1) (by omega)
  have h2 := q_nd_in hg a1 (k := (q_PP n I p).2.2) a4
  have hx := hg.2.1
  have hy := hg.2.2.1
  have dv : ∀ v : Nat × Nat, v.1 < nx → v.2 < ny → N (q_nv v) / 42 = N v.1 ∧ N (q_nv v) - N (q_nv v) / 42 * 42 = N v.2 := by
    intro v v1 v2
    have e : N (q_nv v) / 42 = N v.1 := by show N (42 * v.1 + v.2) / 42 = _; rw [N_lit 42, N_div (by omega) (by omega)]; congr 1; omega
    refine ⟨e, ?_⟩
    rw [e]; show N (42 * v.1 + v.2) - N v.1 * 42 = _; rw [N_lit 42, N_mul, N_sub (by omega)]; congr 1; omega
  obtain ⟨d1, d2⟩ := dv _ h1.1 h1.2
  obtain ⟨d3, d4⟩ := dv _ h2.1 h2.2
  unfold m_Mo_lengthOf
  rw [gI_N (by omega) (by omega), N_nat (by omega), c2, lt_e, gI_N (by omega) (by omega), c3, lt_e, d2, d4, d1, d3, gI_N (by omega) (by omega), gI_N (by omega) (by omega), gI_N (by omega) (by omega), gI_N (by omega) (by omega), N_nat (by omega), N_nat (by omega), N_nat (by omega), N_nat (by omega), hr.1 _ h1.1, hr.1 _ h2.1, hr.2.2.2.1 _ h1.2, hr.2.2.2.1 _ h2.2, q_NJ, N_J, N_J, J_add, J_sub]
  congr 2
  unfold q_len; omega
/-! What the class sums over the sides of a space. -/
theorem q_shr1 : ∀ h, h < 440 → (N h >>> ((1 : Int32) &&& 31)) = N (h / 2) := by decide +kernel
theorem q_lineOf {n : Nat} {I : Sto} {nx ny : Nat} {F : Ce → Int} {pl be di le : Nat → Int32} (hg : q_gi n I nx ny) (hc : q_cp n I F (q_NP n I) (q_PP n I) pl be di le) {h : Nat} (hh : h < 2 * q_NP n I) : m_Ne_lineOf (N h) pl = some (N (q_PP n I (h / 2)).1) := by
  have h220 := q_NP_220 hg
  unfold m_Ne_lineOf
  rw [q_shr1 h (by omega), gI_N (by omega) (by omega), N_nat (by omega), (q_cp_side hc hh).2.2.2]
theorem q_Csides_L {n : Nat} {I : Sto} {nx ny : Nat} {F : Ce → Int} {ns : Nat} {pl be di le : Nat → Int32} (hg : q_gi n I nx ny) (hF : q_labs n I nx ny F ns) (hc : q_cp n I F (q_NP n I) (q_PP n I) pl be di le) {s : Int} (hs : -1 ≤ s ∧ s ≤ 1000) :
    ∀ fuel h, 2 * q_NP n I - h < fuel → h ≤ 2 * q_NP n I → m_Ne_sidesOf_L4 (J s) (N (q_NP n I)) le fuel (N (q_cnt (fun g => q_lf I (q_PP n I) F g = s) h)) (N h) = some (N (q_cnt (fun g => q_lf I (q_PP n I) F g = s) (2 * q_NP n I))) := by
  have h220 := q_NP_220 hg
  have h81 := q_ns_81 hg hF
  intro fuel
  induction fuel with
  | zero => intro h hh; omega
  | succ m ih =>
    intro h hm hh
    rw [m_Ne_sidesOf_L4]
    by_cases c : 2 * q_NP n I ≤ h
    · rw [if_pos (by rw [N_lit 2, N_mul]; exact (N_le (by omega) (by omega)).mpr c), show h = 2 * q_NP n I by omega]
    · have hb := q_lf_bd hg hF (show h < 2 * q_NP n I by omega)
      have ih' := ih (h + 1) (by omega) (by omega)
      rw [if_neg (by rw [N_lit 2, N_mul]; exact fun q => c ((N_le (by omega) (by omega)).mp q)), gI_N (by omega) (by omega), N_nat (by omega), (q_cp_side hc (show h < 2 * q_NP n I by omega)).2.2.1]
      by_cases e : q_lf I (q_PP n I) F h = s
      · have ec : q_cnt (fun g => q_lf I (q_PP n I) F g = s) (h + 1) = q_cnt (fun g => q_lf I (q_PP n I) F g = s) h + 1 := by show q_cnt _ h + q_one _ = _; rw [q_one_t e]
        rw [ec] at ih'
        rw [if_pos (by rw [e]), lt_e, bd1_i rfl, lt_e, N_lit 1, N_add, N_add]
        exact ih'
      · have ec : q_cnt (fun g => q_lf I (q_PP n I) F g = s) (h + 1) = q_cnt (fun g => q_lf I (q_PP n I) F g = s) h := by show q_cnt _ h + q_one _ = _; rw [q_one_f e]; rfl
        rw [ec] at ih'
        rw [if_neg (fun q => e ((J_eq (by omega) (by omega) (by omega) (by omega)).mp q)), bd1_i rfl, lt_e, N_lit 1, N_add]
        exact ih'
theorem q_Csides {n : Nat} {I : Sto} {nx ny : Nat} {F : Ce → Int} {ns : Nat} {pl be di le : Nat → Int32} (hg : q_gi n I nx ny) (hF : q_labs n I nx ny F ns) (hc : q_cp n I F (q_NP n I) (q_PP n I) pl be di le) {s : Int} (hs : -1 ≤ s ∧ s ≤ 1000) : m_Ne_sidesOf (J s) (N (q_NP n I)) le = some (N (q_cnt (fun g => q_lf I (q_PP n I) F g = s) (2 * q_NP n I))) := by
  unfold m_Ne_sidesOf
  have h220 := q_NP_220 hg
  have e : m_Ne_sidesOf_L4 (J s) (N (q_NP n I)) le fu (N 0) (N 0) = _ := q_Csides_L hg hF hc hs fu 0 (by unfold fu; omega) (by omega)
  rw [show (0 : Int32) = N 0 from rfl, bd1_i e]
noncomputable def q_fE (I : Sto) (P : Pcs) (F : Ce → Int) (X Y : Nat → Nat) (s : Int) (h : Nat) : Int := q_ci (q_lf I P F h = s) (q_len I P X Y (h / 2))
noncomputable def q_fW (I : Sto) (P : Pcs) (F : Ce → Int) (X Y : Nat → Nat) (tk : Nat → Nat) (s : Int) (h : Nat) : Int := q_ci (q_lf I P F h = s) (q_len I P X Y (h / 2) * ((tk (P (h / 2)).1 / 2 : Nat) : Int))
noncomputable def q_fA (I : Sto) (P : Pcs) (F : Ce → Int) (X Y : Nat → Nat) (s : Int) (h : Nat) : Int := q_ci (q_lf I P F h = s) ((X (q_qb I P h).1 : Int) * ((Y (q_qb I P (q_rv h)).2 : Int) - Y (q_qb I P h).2))
theorem q_Cedge_L {n : Nat} {I : Sto} {nx ny : Nat} {X Y : Nat → Nat} {F : Ce → Int} {ns : Nat} {pX pY pA pl be di le : Nat → Int32} (hg : q_gi n I nx ny) (hX : q_inc nx X) (hY : q_inc ny Y) (bX : q_bd nx X 500) (bY : q_bd ny Y 500) (hF : q_labs n I nx ny F ns) (hp : q_pr n I nx ny X Y (40 * nx) pX pY pA) (hc : q_cp n I F (q_NP n I) (q_PP n I) pl be di le) {s : Int} (hs : -1 ≤ s ∧ s ≤ 1000) :
    ∀ fuel h, 2 * q_NP n I - h < fuel → h ≤ 2 * q_NP n I → m_Ne_edgeOf_L4 (J s) (N (q_NP n I)) pX pY be le fuel (J (q_sum (q_fE I (q_PP n I) F X Y s) h)) (N h) = some (J (q_sum (q_fE I (q_PP n I) F X Y s) (2 * q_NP n I))) := by
  have h220 := q_NP_220 hg
  have h81 := q_ns_81 hg hF
  intro fuel
  induction fuel with
  | zero => intro h hh; omega
  | succ m ih =>
    intro h hm hh
    rw [m_Ne_edgeOf_L4]
    by_cases c : 2 * q_NP n I ≤ h
    · rw [if_pos (by rw [N_lit 2, N_mul]; exact (N_le (by omega) (by omega)).mpr c), show h = 2 * q_NP n I by omega]
    · have hlt : h < 2 * q_NP n I := by omega
      have hb := q_lf_bd hg hF hlt
      have ih' := ih (h + 1) (by omega) (by omega)
      have es : q_sum (q_fE I (q_PP n I) F X Y s) (h + 1) = q_sum (q_fE I (q_PP n I) F X Y s) h + q_fE I (q_PP n I) F X Y s h := rfl
      rw [if_neg (by rw [N_lit 2, N_mul]; exact fun q => c ((N_le (by omega) (by omega)).mp q)), gI_N (by omega) (by omega), N_nat (by omega), (q_cp_side hc hlt).2.2.1]
      by_cases e : q_lf I (q_PP n I) F h = s
      · rw [es] at ih'; unfold q_fE at ih'; rw [q_ci_t e] at ih'
        rw [if_pos (by rw [e]), q_Clen hg hX hY bX bY hp hc hlt, bd1_i rfl, lt_e, bd1_i rfl, lt_e, J_add, N_lit 1, N_add]
        exact ih'
      · rw [es] at ih'; unfold q_fE at ih'; rw [q_ci_f e, Int.add_zero] at ih'
        rw [if_neg (fun q => e ((J_eq (by omega) (by omega) (by omega) (by omega)).mp q)), bd1_i rfl, lt_e, N_lit 1, N_add]
        exact ih'
theorem q_Cwalls_L {n : Nat} {I : Sto} {nx ny : Nat} {X Y : Nat → Nat} {F : Ce → Int} {ns : Nat} {pX pY pA pl be di le th : Nat → Int32} {tk : Nat → Nat} (hg : q_gi n I nx ny) (hX : q_inc nx X) (hY : q_inc ny Y) (bX : q_bd nx X 500) (bY : q_bd ny Y 500) (hF : q_labs n I nx ny F ns) (hp : q_pr n I nx ny X Y (40 * nx) pX pY pA) (hc : q_cp n I F (q_NP n I) (q_PP n I) pl be di le) (ht : ∀ l, l < n → th l = N (tk l) ∧ tk l ≤ 60) {s : Int} (hs : -1 ≤ s ∧ s ≤ 1000) :
    ∀ fuel h, 2 * q_NP n I - h < fuel → h ≤ 2 * q_NP n I → m_Ne_wallsIn_L5 (J s) (N (q_NP n I)) pX pY pl be le th fuel (J (q_sum (q_fW I (q_PP n I) F X Y tk s) h)) (N h) = some (J (q_sum (q_fW I (q_PP n I) F X Y tk s) (2 * q_NP n I))) := by
  have h220 := q_NP_220 hg
  have h81 := q_ns_81 hg hF
  have hn := hg.1
  intro fuel
  induction fuel with
  | zero => intro h hh; omega
  | succ m ih =>
    intro h hm hh
    rw [m_Ne_wallsIn_L5]
    by_cases c : 2 * q_NP n I ≤ h
    · rw [if_pos (by rw [N_lit 2, N_mul]; exact (N_le (by omega) (by omega)).mpr c), show h = 2 * q_NP n I by omega]
    · have hlt : h < 2 * q_NP n I := by omega
      have hb := q_lf_bd hg hF hlt
      have a1 := (q_pcA hg (p := h / 2) (by omega)).1
      obtain ⟨t1, t2⟩ := ht _ a1
      have ih' := ih (h + 1) (by omega) (by omega)
      have es : q_sum (q_fW I (q_PP n I) F X Y tk s) (h + 1) = q_sum (q_fW I (q_PP n I) F X Y tk s) h + q_fW I (q_PP n I) F X Y tk s h := rfl
      rw [if_neg (by rw [N_lit 2, N_mul]; exact fun q => c ((N_le (by omega) (by omega)).mp q)), gI_N (by omega) (by omega), N_nat (by omega), (q_cp_side hc hlt).2.2.1]
      by_cases e : q_lf I (q_PP n I) F h = s
      · rw [es] at ih'; unfold q_fW at ih'; rw [q_ci_t e] at ih'
        rw [if_pos (by rw [e]), q_Clen hg hX hY bX bY hp hc hlt, bd1_i rfl, q_lineOf hg hc hlt, bd1_i rfl, gI_N (by omega) (by omega), N_nat (by omega), t1, lt_e, bd1_i rfl, lt_e, N_lit 2, N_div (by omega) (by omega), N_J (tk _ / 2), J_mul, J_add, N_lit 1, N_add]
        exact ih'
      · rw [es] at ih'; unfold q_fW at ih'; rw [q_ci_f e, Int.add_zero] at ih'
        rw [if_neg (fun q => e ((J_eq (by omega) (by omega) (by omega) (by omega)).mp q)), bd1_i rfl, lt_e, N_lit 1, N_add]
        exact ih'
theorem q_Carea_L {n : Nat} {I : Sto} {nx ny : Nat} {X Y : Nat → Nat} {F : Ce → Int} {ns : Nat} {pX pY pA pl be di le : Nat → Int32} (hg : q_gi n I nx ny) (hF : q_labs n I nx ny F ns) (hp : q_pr n I nx ny X Y (40 * nx) pX pY pA) (hc : q_cp n I F (q_NP n I) (q_PP n I) pl be di le) {s : Int} (hs : -1 ≤ s ∧ s ≤ 1000) :
    ∀ fuel h, 2 * q_NP n I - h < fuel → h ≤ 2 * q_NP n I → m_Ne_areaOf_L4 (J s) (N (q_NP n I)) pX pY be le fuel (J (q_sum (q_fA I (q_PP n I) F X Y s) h)) (N h) = some (J (q_sum (q_fA I (q_PP n I) F X Y s) (2 * q_NP n I))) := by
  have h220 := q_NP_220 hg
  have h81 := q_ns_81 hg hF
  intro fuel
  induction fuel with
  | zero => intro h hh; omega
  | succ m ih =>
    intro h hm hh
    rw [m_Ne_areaOf_L4]
    by_cases c : 2 * q_NP n I ≤ h
    · rw [if_pos (by rw [N_lit 2, N_mul]; exact (N_le (by omega) (by omega)).mpr c), show h = 2 * q_NP n I by omega]
    · have hlt : h < 2 * q_NP n I := by omega
      have hr := q_rv_lt hlt
      have hb := q_lf_bd hg hF hlt
      have p1 := q_qb_pt hg hlt
      have p2 := q_qb_pt hg hr
      have v1 := q_pv_lt hg p1
      have v2 := q_pv_lt hg p2
      obtain ⟨x1, y1⟩ := q_pr_v hg hp p1
      obtain ⟨x2, y2⟩ := q_pr_v hg hp p2
      have ih' := ih (h + 1) (by omega) (by omega)
      have es : q_sum (q_fA I (q_PP n I) F X Y s) (h + 1) = q_sum (q_fA I (q_PP n I) F X Y s) h + q_fA I (q_PP n I) F X Y s h := rfl
      rw [if_neg (by rw [N_lit 2, N_mul]; exact fun q => c ((N_le (by omega) (by omega)).mp q)), gI_N (by omega) (by omega), N_nat (by omega), (q_cp_side hc hlt).2.2.1]
      by_cases e : q_lf I (q_PP n I) F h = s
      · rw [es] at ih'; unfold q_fA at ih'; rw [q_ci_t e] at ih'
        have ee : m_Ne_endOf (N h) be = some (N (q_pv n I (q_qb I (q_PP n I) (q_rv h)))) := by
          unfold m_Ne_endOf; rw [q_xor1 h (by omega), gI_N (by omega) (by omega), N_nat (by omega), (q_cp_side hc hr).1]
        rw [if_pos (by rw [e]), gI_N (by omega) (by omega), (q_cp_side hc hlt).1, gI_N (by omega) (by omega), ee, bd1_i rfl, gI_N (by omega) (by omega), gI_N (by omega) (by omega), gI_N (by omega) (by omega), N_nat (by omega), N_nat (by omega), x1, y1, y2, lt_e, bd1_i rfl, lt_e, q_NJ, N_J (X _), J_mul, J_add, N_lit 1, N_add]
        exact ih'
      · rw [es] at ih'; unfold q_fA at ih'; rw [q_ci_f e, Int.add_zero] at ih'
        rw [if_neg (fun q => e ((J_eq (by omega) (by omega) (by omega) (by omega)).mp q)), bd1_i rfl, lt_e, N_lit 1, N_add]
        exact ih'
theorem q_Csz {n : Nat} {I : Sto} {nx ny : Nat} {X Y : Nat → Nat} {F : Ce → Int} {ns : Nat} {pX pY pA pl be di le th : Nat → Int32} {tk : Nat → Nat} (hg : q_gi n I nx ny) (hX : q_inc nx X) (hY : q_inc ny Y) (bX : q_bd nx X 500) (bY : q_bd ny Y 500) (hF : q_labs n I nx ny F ns) (hp : q_pr n I nx ny X Y (40 * nx) pX pY pA) (hc : q_cp n I F (q_NP n I) (q_PP n I) pl be di le) (ht : ∀ l, l < n → th l = N (tk l) ∧ tk l ≤ 60) {s : Int} (hs : -1 ≤ s ∧ s ≤ 1000) :
    m_Ne_areaOf (J s) (N (q_NP n I)) pX pY be le = some (J (q_sum (q_fA I (q_PP n I) F X Y s) (2 * q_NP n I))) ∧ m_Ne_edgeOf (J s) (N (q_NP n I)) pX pY be le = some (J (q_sum (q_fE I (q_PP n I) F X Y s) (2 * q_NP n I))) ∧ m_Ne_wallsIn (J s) (N (q_NP n I)) pX pY pl be le th = some (J (q_sum (q_fW I (q_PP n I) F X Y tk s) (2 * q_NP n I))) := by
  have h220 := q_NP_220 hg
  unfold m_Ne_areaOf m_Ne_edgeOf m_Ne_wallsIn
  have e1 : m_Ne_areaOf_L4 (J s) (N (q_NP n I)) pX pY be le fu 0 0 = _ := q_Carea_L hg hF hp hc hs fu 0 (by unfold fu; omega) (by omega)
  have e2 : m_Ne_edgeOf_L4 (J s) (N (q_NP n I)) pX pY be le fu 0 0 = _ := q_Cedge_L hg hX hY bX bY hF hp hc hs fu 0 (by unfold fu; omega) (by omega)
  have e3 : m_Ne_wallsIn_L5 (J s) (N (q_NP n I)) pX pY pl be le th fu 0 0 = _ := q_Cwalls_L hg hX hY bX bY hF hp hc ht hs fu 0 (by unfold fu; omega) (by omega)
  rw [bd1_i e1, bd1_i e2, bd1_i e3]
  exact ⟨rfl, rfl, rfl⟩
/-! The reference's sums. -/
theorem q_Rsz_L {n : Nat} {I : Sto} {nx ny : Nat} {X Y : Nat → Nat} {F : Ce → Int} {ns : Nat} {fx fy fI pl pb pe pf pr th : Nat → Int32} {tk : Nat → Nat} (hg : q_gi n I nx ny) (hr : q_gr nx ny X Y fx fy) (hF : q_labs n I nx ny F ns) (hfI : q_fI n I fI) (hc : q_rp I F (q_NP n I) (q_PP n I) pl pb pe pf pr) (ht : ∀ l, l < n → th l = N (tk l) ∧ tk l ≤ 60) {s : Int} (hs : -1 ≤ s ∧ s ≤ 1000) :
    ∀ fuel h, 2 * q_NP n I - h < fuel → h ≤ 2 * q_NP n I → m_Mo_size_L42 (J s) (N (q_NP n I)) th fx fy pl pb pe pf pr fuel (J (q_sum (q_fE I (q_PP n I) F X Y s) h)) (J (q_sum (q_fW I (q_PP n I) F X Y tk s) h)) (N h) = some (J (q_sum (q_fE I (q_PP n I) F X Y s) (2 * q_NP n I)), J (q_sum (q_fW I (q_PP n I) F X Y tk s) (2 * q_NP n I))) := by
  have h220 := q_NP_220 hg
  have h81 := q_ns_81 hg hF
  have hn := hg.1
  intro fuel
  induction fuel with
  | zero => intro h hh; omega
  | succ m ih =>
    intro h hm hh
    rw [m_Mo_size_L42]
    by_cases c : 2 * q_NP n I ≤ h
    · rw [if_pos (by rw [N_lit 2, N_mul]; exact (N_le (by omega) (by omega)).mpr c), show h = 2 * q_NP n I by omega]
    · have hlt : h < 2 * q_NP n I := by omega
      have hb := q_lf_bd hg hF hlt
      have a1 := (q_pcA hg (p := h / 2) (by omega)).1
      obtain ⟨t1, t2⟩ := ht _ a1
      have c1 := (hc (h / 2) (by omega)).1
      have ih' := ih (h + 1) (by omega) (by omega)
      have es : q_sum (q_fE I (q_PP n I) F X Y s) (h + 1) = q_sum (q_fE I (q_PP n I) F X Y s) h + q_fE I (q_PP n I) F X Y s h := rfl
      have es2 : q_sum (q_fW I (q_PP n I) F X Y tk s) (h + 1) = q_sum (q_fW I (q_PP n I) F X Y tk s) h + q_fW I (q_PP n I) F X Y tk s h := rfl
      rw [if_neg (by rw [N_lit 2, N_mul]; exact fun q => c ((N_le (by omega) (by omega)).mp q)), (q_Rside hg hF hfI hc hlt).2.2, bd1_i rfl, (q_half (h := h) (by omega)).1]
      by_cases e : q_lf I (q_PP n I) F h = s
      · rw [es, es2] at ih'; unfold q_fE q_fW at ih'; rw [q_ci_t e, q_ci_t e] at ih'
        rw [if_pos (by rw [e]), q_Rlen hg hr hc (by omega), bd1_i rfl, lt_e, bd1_i rfl, gI_N (by omega) (by omega), N_nat (by omega), c1, gI_N (by omega) (by omega), N_nat (by omega), t1, lt_e, bd2_i rfl, lt_e, N_lit 2, N_div (by omega) (by omega), N_J (tk _ / 2), J_mul, J_add, J_add, N_lit 1, N_add]
        exact ih'
      · rw [es, es2] at ih'; unfold q_fE q_fW at ih'; rw [q_ci_f e, q_ci_f e, Int.add_zero, Int.add_zero] at ih'
        rw [if_neg (fun q => e ((J_eq (by omega) (by omega) (by omega) (by omega)).mp q)), bd2_i rfl, lt_e, N_lit 1, N_add]
        exact ih'
/-! The reference's area: over cells. -/
noncomputable def q_ar (F : Ce → Int) (X Y : Nat → Nat) (s : Int) (c r : Nat) : Int := q_ci (1 ≤ c ∧ 1 ≤ r ∧ F (c, r) = s) (((X c : Int) - X (c - 1)) * ((Y r : Int) - Y (r - 1)))
theorem q_Rar_L15 {n : Nat} {I : Sto} {nx ny : Nat} {X Y : Nat → Nat} {F : Ce → Int} {ns : Nat} {fx fy ce : Nat → Int32} (hg : q_gi n I nx ny) (hr : q_gr nx ny X Y fx fy) (hF : q_labs n I nx ny F ns) (hFb : ∀ v, q_in nx ny v → -3 ≤ F v ∧ F v ≤ 1000) (hce : q_cc 42 nx ny ce F) {s : Int} (hs : -1 ≤ s ∧ s ≤ 1000) {c : Nat} (hc1 : 1 ≤ c) (hc : c < nx) (a0 : Int) :
    ∀ fuel r, ny - r < fuel → 1 ≤ r → (r ≤ ny ∨ r = 1) → m_Mo_areaOf_L15 (J s) (N c) (N ny) fx fy ce fuel (J (a0 + q_sum (q_ar F X Y s c) r)) (N r) = some (J (a0 + q_sum (q_ar F X Y s c) (if r ≤ ny then ny else r))) := by
  have hx := hg.2.1
  have hy := hg.2.2.1
  intro fuel
  induction fuel with
  | zero => intro r h; omega
  | succ m ih =>
    intro r hm hr1 hrn
    rw [m_Mo_areaOf_L15]
    by_cases k : ny ≤ r
    · rw [if_pos ((N_le (by omega) (by omega)).mpr k)]
      by_cases e : r ≤ ny
      · rw [if_pos e, show r = ny by omega]
      · rw [if_neg e]
    · have hb := hFb (c, r) ⟨by dsimp only; omega, by dsimp only; omega⟩
      have ih' := ih (r + 1) (by omega) (by omega) (Or.inl (by omega))
      have es : q_sum (q_ar F X Y s c) (r + 1) = q_sum (q_ar F X Y s c) r + q_ar F X Y s c r := rfl
      rw [if_pos (show r + 1 ≤ ny by omega), es] at ih'
      rw [if_neg (fun q => k ((N_le (by omega) (by omega)).mp q)), show 42 * N c + N r = N (42 * c + r) from by rw [N_lit 42, N_mul, N_add], gI_N (by omega) (by omega), N_nat (by omega), hce c r (by omega) (by omega), if_pos (show r ≤ ny by omega)]
      have ev : (if J (F (c, r)) = J s then gI (N c) 42 (gI (N c - 1) 42 (gI (N r) 42 (gI (N r - 1) 42 (some ((fx (N c).toNatClampNeg - fx (N c - 1).toNatClampNeg) * (fy (N r).toNatClampNeg - fy (N r - 1).toNatClampNeg)))))) else some 0) = some (J (q_ar F X Y s c r)) := by
        unfold q_ar
        by_cases e : F (c, r) = s
        · rw [if_pos (by rw [e]), q_ci_t ⟨hc1, hr1, e⟩, show N c - 1 = N (c - 1) from by rw [N_lit 1, N_sub hc1], show N r - 1 = N (r - 1) from by rw [N_lit 1, N_sub hr1], gI_N (by omega) (by omega), gI_N (by omega) (by omega), gI_N (by omega) (by omega), gI_N (by omega) (by omega), N_nat (by omega), N_nat (by omega), N_nat (by omega), N_nat (by omega), hr.1 c hc, hr.1 (c - 1) (by omega), hr.2.2.2.1 r (by omega), hr.2.2.2.1 (r - 1) (by omega), q_NJ, q_NJ, J_mul]
        · rw [if_neg (fun q => e ((J_eq (by omega) (by omega) (by omega) (by omega)).mp q)), q_ci_f (fun q => e q.2.2)]; rfl
      rw [ev, bd1_i rfl, lt_e, lt_e, J_add, N_lit 1, N_add, Int.add_assoc]
      exact ih'
theorem q_Rar_L4 {n : Nat} {I : Sto} {nx ny : Nat} {X Y : Nat → Nat} {F : Ce → Int} {ns : Nat} {fx fy ce : Nat → Int32} (hg : q_gi n I nx ny) (hr : q_gr nx ny X Y fx fy) (hF : q_labs n I nx ny F ns) (hFb : ∀ v, q_in nx ny v → -3 ≤ F v ∧ F v ≤ 1000) (hce : q_cc 42 nx ny ce F) {s : Int} (hs : -1 ≤ s ∧ s ≤ 1000) (hny : 1 ≤ ny ∨ nx ≤ 1) :
    ∀ fuel c, nx - c < fuel → 1 ≤ c → (c ≤ nx ∨ c = 1) → m_Mo_areaOf_L4 (J s) (N nx) (N ny) fx fy ce fuel (J (q_sum (fun c => q_sum (q_ar F X Y s c) ny) c)) (N c) = some (J (q_sum (fun c => q_sum (q_ar F X Y s c) ny) (if c ≤ nx then nx else c))) := by
  have hx := hg.2.1
  have hy := hg.2.2.1
  intro fuel
  induction fuel with
  | zero => intro r h; omega
  | succ m ih =>
    intro c hm hc1 hcn
    rw [m_Mo_areaOf_L4]
    by_cases k : nx ≤ c
    · rw [if_pos ((N_le (by omega) (by omega)).mpr k)]
      by_cases e : c ≤ nx
      · rw [if_pos e, show c = nx by omega]
      · rw [if_neg e]
    · have ih' := ih (c + 1) (by omega) (by omega) (Or.inl (by omega))
      have es : q_sum (fun c => q_sum (q_ar F X Y s c) ny) (c + 1) = q_sum (fun c => q_sum (q_ar F X Y s c) ny) c + q_sum (q_ar F X Y s c) ny := rfl
      rw [if_pos (show c + 1 ≤ nx by omega), es] at ih'
      have z := q_Rar_L15 hg hr hF hFb hce hs hc1 (show c < nx by omega) (q_sum (fun c => q_sum (q_ar F X Y s c) ny) c) fu 1 (by unfold fu; omega) (by omega) (Or.inr rfl)
      have z0 : q_sum (q_ar F X Y s c) 1 = 0 := by
        show 0 + q_ar F X Y s c 0 = 0
        unfold q_ar; rw [q_ci_f (fun q => by omega)]; rfl
      rw [z0, Int.add_zero, if_pos (show 1 ≤ ny by omega)] at z
      rw [if_neg (fun q => k ((N_le (by omega) (by omega)).mp q)), show (1 : Int32) = N 1 from rfl, bd1_i z, lt_e, N_add, if_pos (show c ≤ nx by omega)]
      exact ih'
theorem q_tel (Y : Nat → Int) {a b : Nat} (hab : a ≤ b) : ∀ M, q_sum (fun t => q_ci (a < t ∧ t ≤ b) (Y t - Y (t - 1))) M = if M ≤ a + 1 then 0 else if M ≤ b + 1 then Y (M - 1) - Y a else Y b - Y a := by
  intro M
  induction M with
  | zero => rw [if_pos (by omega)]; rfl
  | succ M ih =>
    show q_sum _ M + q_ci (a < M ∧ M ≤ b) (Y M - Y (M - 1)) = _
    rw [ih]
    by_cases c1 : M + 1 ≤ a + 1
    · rw [if_pos (by omega), if_pos c1, q_ci_f (by omega)]; rfl
    · rw [if_neg c1]
      by_cases c2 : M + 1 ≤ b + 1
      · rw [if_pos c2, q_ci_t (by omega), show M + 1 - 1 = M from rfl]
        by_cases c3 : M ≤ a + 1
        · rw [if_pos c3, show M - 1 = a by omega]; omega
        · rw [if_neg c3, if_pos (by omega)]; omega
      · rw [if_neg c2, q_ci_f (by omega)]
        by_cases c3 : M ≤ a + 1
        · rw [if_pos c3, show a = b by omega]; omega
        · rw [if_neg c3]
          by_cases c4 : M ≤ b + 1
          · rw [if_pos c4, show M - 1 = b by omega]; omega
          · rw [if_neg c4]; omega
theorem q_abel (X e : Nat → Int) : ∀ M, q_sum (fun i => X i * (e i - e (i + 1))) (M + 1) = X 0 * e 0 + q_sum (fun i => q_ci (1 ≤ i) (e i * (X i - X (i - 1)))) (M + 1) - X M * e (M + 1) := by
  intro M
  induction M with
  | zero =>
    show 0 + X 0 * (e 0 - e 1) = X 0 * e 0 + (0 + q_ci (1 ≤ 0) _) - X 0 * e 1
    rw [q_ci_f (by omega), Int.mul_sub]; omega
  | succ M ih =>
    show q_sum (fun i => X i * (e i - e (i + 1))) (M + 1) + X (M + 1) * (e (M + 1) - e (M + 1 + 1)) = X 0 * e 0 + (q_sum (fun i => q_ci (1 ≤ i) (e i * (X i - X (i - 1)))) (M + 1) + q_ci (1 ≤ M + 1) (e (M + 1) * (X (M + 1) - X (M + 1 - 1)))) - X (M + 1) * e (M + 1 + 1)
    rw [ih, q_ci_t (by omega), show M + 1 - 1 = M from rfl, Int.mul_sub, Int.mul_sub, Int.mul_comm (e (M + 1)) (X (M + 1)), Int.mul_comm (e (M + 1)) (X M)]
    omega
/-! A sum over the sides of a space is its area. -/
theorem q_area {n : Nat} {I : Sto} {nx ny : Nat} {X Y : Nat → Nat} {F : Ce → Int} {ns : Nat} (hg : q_gi n I nx ny) (hF : q_labs n I nx ny F ns) {s : Int} (hs : 0 ≤ s) (hnx : 1 ≤ nx) :
    q_sum (q_fA I (q_PP n I) F X Y s) (2 * q_NP n I) = q_sum (fun c => q_sum (q_ar F X Y s c) ny) nx := by
  have hy := hg.2.2.1
  let e : Nat → Nat → Int := fun t i => (q_one (F (i, t) = s) : Int)
  let dY : Nat → Int := fun t => (Y t : Int) - Y (t - 1)
  let g : Nat → Nat → Int := fun t i => (X i : Int) * (e t i - e t (i + 1)) * dY t
  let cov : Nat → Nat → Nat → Prop := fun p t i => ¬ yl I (q_PP n I p).1 = yh I (q_PP n I p).1 ∧ xl I (q_PP n I p).1 = i ∧ (q_PP n I p).2.1 < t ∧ t ≤ (q_PP n I p).2.2
  -- a piece
  have piece : ∀ p, p < q_NP n I → q_fA I (q_PP n I) F X Y s (2 * p) + q_fA I (q_PP n I) F X Y s (2 * p + 1) = q_sum (fun t => q_sum (fun i => q_ci (cov p t i) (g t i)) nx) ny := by
    intro p hp
    obtain ⟨a1, a2, a3, a4, _⟩ := q_pcA hg hp
    have hln := hg.2.2.2.1 _ a1
    have hal := q_alongs hg hF hp
    have rv0 : q_rv (2 * p) = 2 * p + 1 := by unfold q_rv; rw [if_pos (by omega)]
    have rv1 : q_rv (2 * p + 1) = 2 * p := by unfold q_rv; rw [if_neg (by omega)]; rfl
    have b0 : q_qb I (q_PP n I) (2 * p) = q_nd I (q_PP n I p).1 (q_PP n I p).2.1 := by unfold q_qb; rw [if_pos (by omega), show 2 * p / 2 = p by omega]
    have b1 : q_qb I (q_PP n I) (2 * p + 1) = q_nd I (q_PP n I p).1 (q_PP n I p).2.2 := by unfold q_qb; rw [if_neg (by omega), show (2 * p + 1) / 2 = p by omega]
    unfold q_fA
    rw [rv0, rv1, b0, b1]
    by_cases f : yl I (q_PP n I p).1 = yh I (q_PP n I p).1
    · have y0 : (q_nd I (q_PP n I p).1 (q_PP n I p).2.1).2 = (q_nd I (q_PP n I p).1 (q_PP n I p).2.2).2 := by unfold q_nd; rw [if_pos f, if_pos f]
      rw [y0, Int.sub_self, Int.mul_zero, Int.mul_zero]
      rw [q_sum_0 (fun t _ => q_sum_0 (fun i _ => q_ci_f (fun q => q.1 f) _))]
      unfold q_ci; rw [Int.mul_zero, Int.mul_zero]; rfl
    · have l0 : q_lf I (q_PP n I) F (2 * p) = F (q_lc I (q_PP n I p).1 (q_PP n I p).2.2) := by unfold q_lf; rw [if_pos (by omega), show 2 * p / 2 = p by omega]
      have l1 : q_lf I (q_PP n I) F (2 * p + 1) = F (q_rc I (q_PP n I p).1 (q_PP n I p).2.2) := by unfold q_lf; rw [if_neg (by omega), show (2 * p + 1) / 2 = p by omega]
      have lt : ∀ t, (q_PP n I p).2.1 < t → t ≤ (q_PP n I p).2.2 → F (xl I (q_PP n I p).1, t) = q_lf I (q_PP n I) F (2 * p) ∧ F (xl I (q_PP n I p).1 + 1, t) = q_lf I (q_PP n I) F (2 * p + 1) := by
        intro t h1 h2
        have x1 := hal t h1 h2
        have x2 := hal _ a3 (Nat.le_refl _)
        have e1 : F (q_lc I (q_PP n I p).1 t) = F (q_lc I (q_PP n I p).1 (q_PP n I p).2.2) := x1.1.trans x2.1.symm
        have e2 : F (q_rc I (q_PP n I p).1 t) = F (q_rc I (q_PP n I p).1 (q_PP n I p).2.2) := x1.2.trans x2.2.symm
        rw [l0, l1, ← e1, ← e2]
        unfold q_lc q_rc
        rw [if_neg f, if_neg f]; exact ⟨rfl, rfl⟩
      have hi4 : q_hi I (q_PP n I p).1 = yh I (q_PP n I p).1 := if_neg f
      rw [hi4] at a4
      have inner : ∀ t, t < ny → q_sum (fun i => q_ci (cov p t i) (g t i)) nx = ((X (xl I (q_PP n I p).1) : Int) * ((q_one (q_lf I (q_PP n I) F (2 * p) = s) : Int) - q_one (q_lf I (q_PP n I) F (2 * p + 1) = s))) * q_ci ((q_PP n I p).2.1 < t ∧ t ≤ (q_PP n I p).2.2) (dY t) := by
        intro t ht
        rw [q_sum_one (k := xl I (q_PP n I p).1) (by omega) (fun i _ hne => q_ci_f (fun q => hne q.2.1.symm) _)]
        by_cases c : (q_PP n I p).2.1 < t ∧ t ≤ (q_PP n I p).2.2
        · obtain ⟨z1, z2⟩ := lt t c.1 c.2
          rw [q_ci_t ⟨f, rfl, c.1, c.2⟩, q_ci_t c]
          show (X (xl I (q_PP n I p).1) : Int) * ((q_one (F (xl I (q_PP n I p).1, t) = s) : Int) - q_one (F (xl I (q_PP n I p).1 + 1, t) = s)) * dY t = _
          rw [z1, z2]
        · rw [q_ci_f (fun q => c q.2.2), q_ci_f c, Int.mul_zero]
      rw [q_sum_c inner, q_sum_mul, q_tel (fun t => (Y t : Int)) (Nat.le_of_lt a3), if_neg (by omega)]
      have tl : (if ny ≤ (q_PP n I p).2.2 + 1 then (Y (ny - 1) : Int) - Y (q_PP n I p).2.1 else (Y (q_PP n I p).2.2 : Int) - Y (q_PP n I p).2.1) = (Y (q_PP n I p).2.2 : Int) - Y (q_PP n I p).2.1 := by
        by_cases c : ny ≤ (q_PP n I p).2.2 + 1
        · rw [if_pos c, show ny - 1 = (q_PP n I p).2.2 by omega]
        · rw [if_neg c]
      rw [tl]
      unfold q_nd q_ci
      rw [if_neg f, if_neg f]
      dsimp only
      generalize (q_one (q_lf I (q_PP n I) F (2 * p) = s) : Int) = u
      generalize (q_one (q_lf I (q_PP n I) F (2 * p + 1) = s) : Int) = w
      generalize (X (xl I (q_PP n I p).1) : Int) = x
      generalize (Y (q_PP n I p).2.2 : Int) = yb
      generalize (Y (q_PP n I p).2.1 : Int) = ya
      grind
  -- cells
  have cell : ∀ t i, t < ny → i < nx → q_sum (fun p => q_ci (cov p t i) (g t i)) (q_NP n I) = g t i := by
    intro t i ht hi
    by_cases w : q_wE n I i t
    · obtain ⟨l, hl, w1, w2, w3⟩ := w
      have hln := hg.2.2.2.1 l hl
      have f : ¬ yl I l = yh I l := by omega
      obtain ⟨p, p1, p2, p3, p4⟩ := q_pcB hg (m := l) (t := t - 1) hl (by unfold q_lo; rw [if_neg f]; omega) (by unfold q_hi; rw [if_neg f]; omega)
      have fp : ¬ yl I (q_PP n I p).1 = yh I (q_PP n I p).1 := by rw [p2]; exact f
      rw [q_sum_one (k := p) p1 (fun q hq hne => q_ci_f (fun z => hne (q_cvV hg (j := t - 1) hq p1 z.1 fp (by rw [p2, z.2.1, w1]) (by have := z.2.2.1; omega) (by have := z.2.2.2; omega) p3 p4)) _)]
      exact q_ci_t ⟨fp, by rw [p2, w1], by omega, by omega⟩ _
    · have gz : g t i = 0 := by
        by_cases t0 : t = 0
        · show (X i : Int) * (e t i - e t (i + 1)) * dY t = 0
          have : dY t = 0 := by show (Y t : Int) - Y (t - 1) = 0; rw [t0]; exact Int.sub_self _
          rw [this, Int.mul_zero]
        · have ef : F (i, t) = F (i + 1, t) := q_F_adj hy hF ⟨by dsimp only; omega, by dsimp only; omega, by dsimp only; omega, by dsimp only; omega, Or.inl ⟨rfl, w⟩⟩
          show (X i : Int) * ((q_one (F (i, t) = s) : Int) - q_one (F (i + 1, t) = s)) * dY t = 0
          rw [ef, Int.sub_self, Int.mul_zero, Int.zero_mul]
      rw [gz]
      exact q_sum_0 (fun p _ => by unfold q_ci; exact Int.mul_zero _)
  -- a row
  have row : ∀ t, t < ny → q_sum (fun i => g t i) nx = q_sum (fun c => q_ar F X Y s c t) nx := by
    intro t ht
    obtain ⟨M, rfl⟩ : ∃ M, nx = M + 1 := ⟨nx - 1, by omega⟩
    have e0 : e t 0 = 0 := by
      show ((q_one (F (0, t) = s) : Nat) : Int) = 0
      have : F (0, t) = -1 := by
        have := q_rim hg (v := (0, t)) ⟨by dsimp only; omega, by dsimp only; omega⟩ (Or.inl rfl)
        exact q_isl_eq hy (hF.1 (0, t) ⟨by dsimp only; omega, by dsimp only; omega⟩) (Or.inl ⟨this, rfl⟩)
      rw [this, q_one_f (by omega)]; rfl
    have e1 : e t (M + 1) = 0 := by
      show ((q_one (F (M + 1, t) = s) : Nat) : Int) = 0
      have : F (M + 1, t) = -1 := by
        have := q_rim hg (v := (M + 1, t)) ⟨by dsimp only; omega, by dsimp only; omega⟩ (Or.inr (Or.inr (Or.inl rfl)))
        exact q_isl_eq hy (hF.1 (M + 1, t) ⟨by dsimp only; omega, by dsimp only; omega⟩) (Or.inl ⟨this, rfl⟩)
      rw [this, q_one_f (by omega)]; rfl
    have h1 : q_sum (fun i => g t i) (M + 1) = q_sum (fun i => dY t * ((X i : Int) * (e t i - e t (i + 1)))) (M + 1) := q_sum_c (fun i _ => Int.mul_comm _ _)
    rw [h1, q_sum_mul, q_abel (fun i => (X i : Int)) (e t) M, e0, e1, Int.mul_zero, Int.mul_zero, Int.sub_zero, Int.zero_add, ← q_sum_mul]
    refine q_sum_c (fun i hi => ?_)
    unfold q_ar
    by_cases c : 1 ≤ i
    · rw [q_ci_t c]
      by_cases t1 : 1 ≤ t
      · by_cases ef : F (i, t) = s
        · rw [q_ci_t ⟨c, t1, ef⟩]
          show dY t * (((q_one (F (i, t) = s) : Nat) : Int) * _) = _
          rw [q_one_t ef, show ((1 : Nat) : Int) * ((X i : Int) - X (i - 1)) = (X i : Int) - X (i - 1) from Int.one_mul _, Int.mul_comm]
        · rw [q_ci_f (fun q => ef q.2.2)]
          show dY t * (((q_one (F (i, t) = s) : Nat) : Int) * _) = _
          rw [q_one_f ef, show ((0 : Nat) : Int) * ((X i : Int) - X (i - 1)) = 0 from Int.zero_mul _, Int.mul_zero]
      · rw [q_ci_f (fun q => t1 q.2.1)]
        have : dY t = 0 := by show (Y t : Int) - Y (t - 1) = 0; rw [show t = 0 by omega]; exact Int.sub_self _
        rw [this, Int.zero_mul]
    · rw [q_ci_f c, q_ci_f (fun q => c q.1), Int.mul_zero]
  rw [q_sum_two, q_sum_c piece, q_sum_swap (fun p t => q_sum (fun i => q_ci (cov p t i) (g t i)) nx)]
  have s2 : ∀ t, t < ny → q_sum (fun p => q_sum (fun i => q_ci (cov p t i) (g t i)) nx) (q_NP n I) = q_sum (fun c => q_ar F X Y s c t) nx := by
    intro t ht
    rw [q_sum_swap (fun p i => q_ci (cov p t i) (g t i)), q_sum_c (fun i hi => cell t i ht hi), row t ht]
  rw [q_sum_c s2, q_sum_swap (fun t c => q_ar F X Y s c t)]
/-! Between, and neighbours. -/
noncomputable def q_fB (I : Sto) (P : Pcs) (F : Ce → Int) (X Y : Nat → Nat) (s o : Int) (h : Nat) : Int := q_ci (¬ (s = o ∧ ¬ h % 2 = 0) ∧ q_lf I P F h = s ∧ q_lf I P F (q_rv h) = o) (q_len I P X Y (h / 2))
noncomputable def q_gB (I : Sto) (P : Pcs) (F : Ce → Int) (X Y : Nat → Nat) (s o : Int) (p : Nat) : Int := q_ci ((q_lf I P F (2 * p) = s ∧ q_lf I P F (2 * p + 1) = o) ∨ (q_lf I P F (2 * p) = o ∧ q_lf I P F (2 * p + 1) = s)) (q_len I P X Y p)
theorem q_B_same (I : Sto) (P : Pcs) (F : Ce → Int) (X Y : Nat → Nat) (s o : Int) (m : Nat) : q_sum (q_fB I P F X Y s o) (2 * m) = q_sum (q_gB I P F X Y s o) m := by
  rw [q_sum_two]
  refine q_sum_c (fun p _ => ?_)
  have rv0 : q_rv (2 * p) = 2 * p + 1 := by unfold q_rv; rw [if_pos (by omega)]
  have rv1 : q_rv (2 * p + 1) = 2 * p := by unfold q_rv; rw [if_neg (by omega)]; rfl
  unfold q_fB q_gB
  rw [rv0, rv1, show 2 * p / 2 = p by omega, show (2 * p + 1) / 2 = p by omega]
  generalize q_lf I P F (2 * p) = a
  generalize q_lf I P F (2 * p + 1) = b
  generalize q_len I P X Y p = x
  by_cases c1 : a = s ∧ b = o
  · rw [q_ci_t (show ¬ (s = o ∧ ¬ 2 * p % 2 = 0) ∧ a = s ∧ b = o from ⟨fun q => q.2 (by omega), c1⟩), q_ci_t (Or.inl c1), q_ci_f]
    · omega
    · intro q; exact q.1 ⟨by omega, by omega⟩
  · rw [q_ci_f (fun q => c1 q.2)]
    by_cases c2 : a = o ∧ b = s
    · rw [q_ci_t (show ¬ (s = o ∧ ¬ (2 * p + 1) % 2 = 0) ∧ b = s ∧ a = o from ⟨fun q => c1 (by omega), c2.2, c2.1⟩), q_ci_t (Or.inr c2)]; omega
    · rw [q_ci_f (fun q => c2 ⟨q.2.2, q.2.1⟩), q_ci_f (fun q => q.elim c1 c2)]; rfl
theorem q_and1h : ∀ h, h < 440 → ((N h &&& 1 = 0) ↔ h % 2 = 0) := by decide +kernel
theorem q_onR {n : Nat} {I : Sto} {nx ny : Nat} {F : Ce → Int} {pl be di le : Nat → Int32} (hg : q_gi n I nx ny) (hc : q_cp n I F (q_NP n I) (q_PP n I) pl be di le) {h : Nat} (hh : h < 2 * q_NP n I) : m_Ne_onTheRight (N h) le = some (J (q_lf I (q_PP n I) F (q_rv h))) := by
  have h220 := q_NP_220 hg
  have hr := q_rv_lt hh
  unfold m_Ne_onTheRight
  rw [q_xor1 h (by omega), gI_N (by omega) (by omega), N_nat (by omega), (q_cp_side hc hr).2.2.1]
theorem q_Cbt_L {n : Nat} {I : Sto} {nx ny : Nat} {X Y : Nat → Nat} {F : Ce → Int} {ns : Nat} {pX pY pA pl be di le : Nat → Int32} (hg : q_gi n I nx ny) (hX : q_inc nx X) (hY : q_inc ny Y) (bX : q_bd nx X 500) (bY : q_bd ny Y 500) (hF : q_labs n I nx ny F ns) (hp : q_pr n I nx ny X Y (40 * nx) pX pY pA) (hc : q_cp n I F (q_NP n I) (q_PP n I) pl be di le) {s o : Int} (hs : -1 ≤ s ∧ s ≤ 1000) (ho : -1 ≤ o ∧ o ≤ 1000) :
    ∀ fuel h, 2 * q_NP n I - h < fuel → h ≤ 2 * q_NP n I → m_Ne_lengthBetween_L5 (J s) (J o) (N (q_NP n I)) pX pY be le fuel (J (q_sum (q_fB I (q_PP n I) F X Y s o) h)) (N h) = some (J (q_sum (q_fB I (q_PP n I) F X Y s o) (2 * q_NP n I))) := by
  have h220 := q_NP_220 hg
  have h81 := q_ns_81 hg hF
  intro fuel
  induction fuel with
  | zero => intro h hh; omega
  | succ m ih =>
    intro h hm hh
    rw [m_Ne_lengthBetween_L5]
    by_cases c : 2 * q_NP n I ≤ h
    · rw [if_pos (by rw [N_lit 2, N_mul]; exact (N_le (by omega) (by omega)).mpr c), show h = 2 * q_NP n I by omega]
    · have hlt : h < 2 * q_NP n I := by omega
      have hr := q_rv_lt hlt
      have hb := q_lf_bd hg hF hlt
      have hb2 := q_lf_bd hg hF hr
      have ih' := ih (h + 1) (by omega) (by omega)
      have es : q_sum (q_fB I (q_PP n I) F X Y s o) (h + 1) = q_sum (q_fB I (q_PP n I) F X Y s o) h + q_fB I (q_PP n I) F X Y s o h := rfl
      rw [es] at ih'
      have e5 : (if J s = J o then if N h &&& 1 = 0 then some (0 : Int32) else some 1 else some 0) = some (N (q_one (s = o ∧ ¬ h % 2 = 0))) := by
        by_cases e : s = o
        · rw [if_pos (by rw [e])]
          by_cases z : h % 2 = 0
          · rw [if_pos ((q_and1h h (by omega)).mpr z), q_one_f (by omega)]; rfl
          · rw [if_neg (fun q => z ((q_and1h h (by omega)).mp q)), q_one_t ⟨e, z⟩]; rfl
        · rw [if_neg (fun q => e ((J_eq (by omega) (by omega) (by omega) (by omega)).mp q)), q_one_f (by omega)]; rfl
      have e11 : (if N (q_one (s = o ∧ ¬ h % 2 = 0)) = 0 then gI (N h) 440 (if le (N h).toNatClampNeg = J s then bd1 (m_Ne_onTheRight (N h) le) fun r15 => if r15 = J o then bd1 (m_Ne_lengthOf (N h) pX pY be) fun r18 => lt_ (J (q_sum (q_fB I (q_PP n I) F X Y s o) h) + r18) fun x20 => some x20 else some (J (q_sum (q_fB I (q_PP n I) F X Y s o) h)) else some (J (q_sum (q_fB I (q_PP n I) F X Y s o) h))) else some (J (q_sum (q_fB I (q_PP n I) F X Y s o) h))) = some (J (q_sum (q_fB I (q_PP n I) F X Y s o) h + q_fB I (q_PP n I) F X Y s o h)) := by
        by_cases z : s = o ∧ ¬ h % 2 = 0
        · rw [if_neg (fun q => (q_one0 _).mp q z)]
          have : q_fB I (q_PP n I) F X Y s o h = 0 := by unfold q_fB; exact q_ci_f (fun q => q.1 z) _
          rw [this, Int.add_zero]
        · rw [if_pos ((q_one0 _).mpr z), gI_N (by omega) (by omega), N_nat (by omega), (q_cp_side hc hlt).2.2.1]
          by_cases e1 : q_lf I (q_PP n I) F h = s
          · rw [if_pos (by rw [e1]), q_onR hg hc hlt, bd1_i rfl]
            by_cases e2 : q_lf I (q_PP n I) F (q_rv h) = o
            · have : q_fB I (q_PP n I) F X Y s o h = q_len I (q_PP n I) X Y (h / 2) := by unfold q_fB; exact q_ci_t ⟨z, e1, e2⟩ _
              rw [if_pos (by rw [e2]), q_Clen hg hX hY bX bY hp hc hlt, bd1_i rfl, lt_e, J_add, this]
            · have : q_fB I (q_PP n I) F X Y s o h = 0 := by unfold q_fB; exact q_ci_f (fun q => e2 q.2.2) _
              rw [if_neg (fun q => e2 ((J_eq (by omega) (by omega) (by omega) (by omega)).mp q)), this, Int.add_zero]
          · have : q_fB I (q_PP n I) F X Y s o h = 0 := by unfold q_fB; exact q_ci_f (fun q => e1 q.2.1) _
            rw [if_neg (fun q => e1 ((J_eq (by omega) (by omega) (by omega) (by omega)).mp q)), this, Int.add_zero]
      rw [if_neg (by rw [N_lit 2, N_mul]; exact fun q => c ((N_le (by omega) (by omega)).mp q)), e5, bd1_i rfl, e11, bd1_i rfl, lt_e, N_lit 1, N_add]
      exact ih'
theorem q_Cbt {n : Nat} {I : Sto} {nx ny : Nat} {X Y : Nat → Nat} {F : Ce → Int} {ns : Nat} {pX pY pA pl be di le : Nat → Int32} (hg : q_gi n I nx ny) (hX : q_inc nx X) (hY : q_inc ny Y) (bX : q_bd nx X 500) (bY : q_bd ny Y 500) (hF : q_labs n I nx ny F ns) (hp : q_pr n I nx ny X Y (40 * nx) pX pY pA) (hc : q_cp n I F (q_NP n I) (q_PP n I) pl be di le) {s o : Int} (hs : -1 ≤ s ∧ s ≤ 1000) (ho : -1 ≤ o ∧ o ≤ 1000) :
    m_Ne_lengthBetween (J s) (J o) (N (q_NP n I)) pX pY be le = some (J (q_sum (q_gB I (q_PP n I) F X Y s o) (q_NP n I))) := by
  have h220 := q_NP_220 hg
  unfold m_Ne_lengthBetween
  have e1 : m_Ne_lengthBetween_L5 (J s) (J o) (N (q_NP n I)) pX pY be le fu 0 0 = _ := q_Cbt_L hg hX hY bX bY hF hp hc hs ho fu 0 (by unfold fu; omega) (by omega)
  rw [bd1_i e1, q_B_same]
theorem q_Rlr {n : Nat} {I : Sto} {nx ny : Nat} {F : Ce → Int} {ns : Nat} {pl pb pe pf pr : Nat → Int32} (hg : q_gi n I nx ny) (hF : q_labs n I nx ny F ns) (hc : q_rp I F (q_NP n I) (q_PP n I) pl pb pe pf pr) {p : Nat} (hp : p < q_NP n I) : pf p = J (q_lf I (q_PP n I) F (2 * p)) ∧ pr p = J (q_lf I (q_PP n I) F (2 * p + 1)) := by
  obtain ⟨c1, c2, c3, c4, c5⟩ := hc p hp
  obtain ⟨a1, a2, a3, a4, _⟩ := q_pcA hg hp
  have hE := q_alongs hg hF hp _ a3 (Nat.le_refl _)
  unfold q_lf
  rw [if_pos (by omega), if_neg (by omega), show 2 * p / 2 = p by omega, show (2 * p + 1) / 2 = p by omega, hE.1, hE.2]
  exact ⟨c4, c5⟩
theorem q_Rbt_L {n : Nat} {I : Sto} {nx ny : Nat} {X Y : Nat → Nat} {F : Ce → Int} {ns : Nat} {fx fy pl pb pe pf pr : Nat → Int32} (hg : q_gi n I nx ny) (hr : q_gr nx ny X Y fx fy) (hF : q_labs n I nx ny F ns) (hc : q_rp I F (q_NP n I) (q_PP n I) pl pb pe pf pr) {s o : Int} (hs : -1 ≤ s ∧ s ≤ 1000) (ho : -1 ≤ o ∧ o ≤ 1000) :
    ∀ fuel p, q_NP n I - p < fuel → p ≤ q_NP n I → m_Mo_lengthBetween_L5 (J s) (J o) (N (q_NP n I)) fx fy pb pe pf pr fuel (J (q_sum (q_gB I (q_PP n I) F X Y s o) p)) (N p) = some (J (q_sum (q_gB I (q_PP n I) F X Y s o) (q_NP n I))) := by
  have h220 := q_NP_220 hg
  have h81 := q_ns_81 hg hF
  intro fuel
  induction fuel with
  | zero => intro h hh; omega
  | succ m ih =>
    intro p hm hp
    rw [m_Mo_lengthBetween_L5]
    by_cases c : q_NP n I ≤ p
    · rw [if_pos ((N_le (by omega) (by omega)).mpr c), show p = q_NP n I by omega]
    · have hlt : p < q_NP n I := by omega
      obtain ⟨l1, l2⟩ := q_Rlr hg hF hc hlt
      have hb := q_lf_bd hg hF (show 2 * p < 2 * q_NP n I by omega)
      have hb2 := q_lf_bd hg hF (show 2 * p + 1 < 2 * q_NP n I by omega)
      have ih' := ih (p + 1) (by omega) (by omega)
      have es : q_sum (q_gB I (q_PP n I) F X Y s o) (p + 1) = q_sum (q_gB I (q_PP n I) F X Y s o) p + q_gB I (q_PP n I) F X Y s o p := rfl
      rw [es] at ih'
      have gp : ∀ x : Option Int32, gI (N p) 900 x = x := fun x => gI_N (by omega) (by omega)
      have je : ∀ a b : Int, -1 ≤ a → a ≤ 1000 → -1 ≤ b → b ≤ 1000 → ((J a = J b) ↔ a = b) := fun a b h1 h2 h3 h4 => J_eq (by omega) (by omega) (by omega) (by omega)
      have e6 : (if pf p = J s then gI (N p) 900 (if pr p = J o then some (1 : Int32) else gI (N p) 900 (if pf p = J o then gI (N p) 900 (if pr p = J s then some 1 else some 0) else some 0)) else gI (N p) 900 (if pf p = J o then gI (N p) 900 (if pr p = J s then some 1 else some 0) else some 0)) = some (N (q_one ((q_lf I (q_PP n I) F (2 * p) = s ∧ q_lf I (q_PP n I) F (2 * p + 1) = o) ∨ (q_lf I (q_PP n I) F (2 * p) = o ∧ q_lf I (q_PP n I) F (2 * p + 1) = s)))) := by
        rw [l1, l2, gp, gp, gp]
        have d1 := je (q_lf I (q_PP n I) F (2 * p)) s (by omega) (by omega) (by omega) (by omega)
        have d2 := je (q_lf I (q_PP n I) F (2 * p + 1)) o (by omega) (by omega) (by omega) (by omega)
        have d3 := je (q_lf I (q_PP n I) F (2 * p)) o (by omega) (by omega) (by omega) (by omega)
        have d4 := je (q_lf I (q_PP n I) F (2 * p + 1)) s (by omega) (by omega) (by omega) (by omega)
        have tail : (if J (q_lf I (q_PP n I) F (2 * p)) = J o then if J (q_lf I (q_PP n I) F (2 * p + 1)) = J s then some (1 : Int32) else some 0 else some 0) = some (N (q_one (q_lf I (q_PP n I) F (2 * p) = o ∧ q_lf I (q_PP n I) F (2 * p + 1) = s))) := by
          by_cases z3 : q_lf I (q_PP n I) F (2 * p) = o
          · rw [if_pos (d3.mpr z3)]
            by_cases z4 : q_lf I (q_PP n I) F (2 * p + 1) = s
            · rw [if_pos (d4.mpr z4), q_one_t ⟨z3, z4⟩]; rfl
            · rw [if_neg (fun q => z4 (d4.mp q)), q_one_f (fun q => z4 q.2)]; rfl
          · rw [if_neg (fun q => z3 (d3.mp q)), q_one_f (fun q => z3 q.1)]; rfl
        rw [tail]
        by_cases z1 : q_lf I (q_PP n I) F (2 * p) = s
        · rw [if_pos (d1.mpr z1)]
          by_cases z2 : q_lf I (q_PP n I) F (2 * p + 1) = o
          · rw [if_pos (d2.mpr z2), q_one_t (Or.inl ⟨z1, z2⟩)]; rfl
          · rw [if_neg (fun q => z2 (d2.mp q)), q_one_c (show (q_lf I (q_PP n I) F (2 * p) = o ∧ q_lf I (q_PP n I) F (2 * p + 1) = s) ↔ ((q_lf I (q_PP n I) F (2 * p) = s ∧ q_lf I (q_PP n I) F (2 * p + 1) = o) ∨ (q_lf I (q_PP n I) F (2 * p) = o ∧ q_lf I (q_PP n I) F (2 * p + 1) = s)) from ⟨Or.inr, fun q => q.elim (fun q => (z2 q.2).elim) id⟩)]
        · rw [if_neg (fun q => z1 (d1.mp q)), q_one_c (show (q_lf I (q_PP n I) F (2 * p) = o ∧ q_lf I (q_PP n I) F (2 * p + 1) = s) ↔ ((q_lf I (q_PP n I) F (2 * p) = s ∧ q_lf I (q_PP n I) F (2 * p + 1) = o) ∨ (q_lf I (q_PP n I) F (2 * p) = o ∧ q_lf I (q_PP n I) F (2 * p + 1) = s)) from ⟨Or.inr, fun q => q.elim (fun q => (z1 q.1).elim) id⟩)]
      have e21 : (if N (q_one ((q_lf I (q_PP n I) F (2 * p) = s ∧ q_lf I (q_PP n I) F (2 * p + 1) = o) ∨ (q_lf I (q_PP n I) F (2 * p) = o ∧ q_lf I (q_PP n I) F (2 * p + 1) = s))) = 0 then some (0 : Int32) else bd1 (m_Mo_lengthOf (N p) fx fy pb pe) fun r23 => some r23) = some (J (q_gB I (q_PP n I) F X Y s o p)) := by
        unfold q_gB
        by_cases z : (q_lf I (q_PP n I) F (2 * p) = s ∧ q_lf I (q_PP n I) F (2 * p + 1) = o) ∨ (q_lf I (q_PP n I) F (2 * p) = o ∧ q_lf I (q_PP n I) F (2 * p + 1) = s)
        · rw [if_neg (fun q => (q_one0 _).mp q z), q_ci_t z, q_Rlen hg hr hc hlt, bd1_i rfl]
        · rw [if_pos ((q_one0 _).mpr z), q_ci_f z]; rfl
      rw [if_neg (fun q => c ((N_le (by omega) (by omega)).mp q)), gI_N (by omega) (by omega), N_nat (by omega), e6, bd1_i rfl, e21, bd1_i rfl, lt_e, lt_e, J_add, N_lit 1, N_add]
      exact ih'
theorem q_Rbt {n : Nat} {I : Sto} {nx ny : Nat} {X Y : Nat → Nat} {F : Ce → Int} {ns : Nat} {fx fy pl pb pe pf pr : Nat → Int32} (hg : q_gi n I nx ny) (hr : q_gr nx ny X Y fx fy) (hF : q_labs n I nx ny F ns) (hc : q_rp I F (q_NP n I) (q_PP n I) pl pb pe pf pr) {s o : Int} (hs : -1 ≤ s ∧ s ≤ 1000) (ho : -1 ≤ o ∧ o ≤ 1000) :
    m_Mo_lengthBetween (J s) (J o) (N (q_NP n I)) fx fy pb pe pf pr = some (J (q_sum (q_gB I (q_PP n I) F X Y s o) (q_NP n I))) := by
  have h220 := q_NP_220 hg
  unfold m_Mo_lengthBetween
  have e1 : m_Mo_lengthBetween_L5 (J s) (J o) (N (q_NP n I)) fx fy pb pe pf pr fu 0 0 = _ := q_Rbt_L hg hr hF hc hs ho fu 0 (by unfold fu; omega) (by omega)
  rw [bd1_i e1]
/-! A neighbour: a side with it on the right. -/
def q_nb (n : Nat) (I : Sto) (F : Ce → Int) (s o : Int) : Prop := o ≠ s ∧ ∃ h, h < 2 * q_NP n I ∧ q_lf I (q_PP n I) F h = s ∧ q_lf I (q_PP n I) F (q_rv h) = o
theorem q_nb_len {n : Nat} {I : Sto} {nx ny : Nat} {X Y : Nat → Nat} {F : Ce → Int} (hg : q_gi n I nx ny) (hX : q_inc nx X) (hY : q_inc ny Y) (bX : q_bd nx X 500) (bY : q_bd ny Y 500) {s o : Int} (hne : o ≠ s) :
    (0 < q_sum (q_gB I (q_PP n I) F X Y s o) (q_NP n I) ↔ q_nb n I F s o) ∧ 0 ≤ q_sum (q_gB I (q_PP n I) F X Y s o) (q_NP n I) ∧ q_sum (q_gB I (q_PP n I) F X Y s o) (q_NP n I) ≤ 110000 := by
  have h220 := q_NP_220 hg
  have bd : ∀ p, p < q_NP n I → 0 ≤ q_gB I (q_PP n I) F X Y s o p ∧ q_gB I (q_PP n I) F X Y s o p ≤ 500 := by
    intro p hp
    have l := q_len_p hg hX hY bX bY hp
    unfold q_gB
    by_cases z : (q_lf I (q_PP n I) F (2 * p) = s ∧ q_lf I (q_PP n I) F (2 * p + 1) = o) ∨ (q_lf I (q_PP n I) F (2 * p) = o ∧ q_lf I (q_PP n I) F (2 * p + 1) = s)
    · rw [q_ci_t z]; omega
    · rw [q_ci_f z]; omega
  refine ⟨⟨fun h => ?_, fun ⟨_, h, h1, h2, h3⟩ => ?_⟩, q_sum_nn (fun i hi => (bd i hi).1), ?_⟩
  · refine ⟨hne, Classical.byContradiction (fun q => ?_)⟩
    have : q_sum (q_gB I (q_PP n I) F X Y s o) (q_NP n I) = 0 := q_sum_0 (fun p hp => by
      unfold q_gB
      refine q_ci_f (fun z => q ?_) _
      rcases z with z | z
      · exact ⟨2 * p, by omega, z.1, by unfold q_rv; rw [if_pos (by omega)]; exact z.2⟩
      · exact ⟨2 * p + 1, by omega, z.2, by unfold q_rv; rw [if_neg (by omega)]; exact z.1⟩)
    omega
  · refine q_sum_pos (k := h / 2) (fun i hi => (bd i hi).1) (by omega) ?_
    have l := q_len_p hg hX hY bX bY (p := h / 2) (by omega)
    unfold q_gB
    rw [q_ci_t]
    · omega
    · by_cases c : h % 2 = 0
      · left
        unfold q_rv at h3
        rw [if_pos c] at h3
        rw [show 2 * (h / 2) = h by omega]; exact ⟨h2, h3⟩
      · right
        unfold q_rv at h3
        rw [if_neg c] at h3
        rw [show 2 * (h / 2) + 1 = h by omega, show 2 * (h / 2) = h - 1 by omega]; exact ⟨h3, h2⟩
  · have := q_sum_le (f := q_gB I (q_PP n I) F X Y s o) (B := 500) (by omega) (m := q_NP n I) (fun i hi => (bd i hi).2)
    omega
/-! Ways: what is reached in k steps. -/
def q_W (adj : Nat → Nat → Prop) (s : Nat) : Nat → Nat → Prop
  | 0, v => v = s
  | k + 1, v => q_W adj s k v ∨ ∃ u, q_W adj s k u ∧ adj u v
def q_di (adj : Nat → Nat → Prop) (s v d : Nat) : Prop := q_W adj s d v ∧ ∀ j, j < d → ¬ q_W adj s j v
theorem q_W_mono {adj : Nat → Nat → Prop} {s v : Nat} : ∀ {k k'}, k ≤ k' → q_W adj s k v → q_W adj s k' v := by
  intro k k' h
  induction k' with
  | zero => intro q; rw [show k = 0 by omega] at q; exact q
  | succ k' ih =>
    intro q
    by_cases e : k = k' + 1
    · rw [e] at q; exact q
    · exact Or.inl (ih (by omega) q)
theorem q_di_eq {adj : Nat → Nat → Prop} {s v d d' : Nat} (a : q_di adj s v d) (b : q_di adj s v d') : d = d' := by
  by_cases c : d < d'
  · exact (b.2 d c a.1).elim
  · by_cases c' : d' < d
    · exact (a.2 d' c' b.1).elim
    · omega
theorem q_di_ex {adj : Nat → Nat → Prop} {s v : Nat} : ∀ {k}, q_W adj s k v → ∃ d, d ≤ k ∧ q_di adj s v d := by
  intro k
  induction k with
  | zero => intro q; exact ⟨0, by omega, q, fun j h => by omega⟩
  | succ k ih =>
    intro q
    by_cases c : q_W adj s k v
    · obtain ⟨d, h1, h2⟩ := ih c
      exact ⟨d, by omega, h2⟩
    · exact ⟨k + 1, by omega, q, fun j hj z => c (q_W_mono (by omega) z)⟩
theorem q_W_lt {adj : Nat → Nat → Prop} {s M : Nat} (hs : s < M) (ha : ∀ u v, adj u v → v < M) {v : Nat} : ∀ {k}, q_W adj s k v → v < M := by
  intro k
  induction k with
  | zero => intro q; rw [show v = s from q]; exact hs
  | succ k ih => intro q; exact q.elim ih (fun ⟨u, _, h⟩ => ha u v h)
theorem q_W_stable {adj : Nat → Nat → Prop} {s k : Nat} (h : ∀ v, q_W adj s (k + 1) v → q_W adj s k v) : ∀ k' v, q_W adj s k' v → q_W adj s k v := by
  intro k'
  induction k' with
  | zero => intro v q; exact q_W_mono (by omega) q
  | succ k' ih => intro v q; exact q.elim (ih v) (fun ⟨u, hu, ha⟩ => h v (Or.inr ⟨u, ih u hu, ha⟩))
/-! There are M places: what is reached is so in M - 1 steps. -/
theorem q_W_M {adj : Nat → Nat → Prop} {s M : Nat} (hs : s < M) (ha : ∀ u v, adj u v → v < M) : ∀ k v, q_W adj s k v → q_W adj s (M - 1) v := by
  have grow : ∀ j, (∃ i, i < j ∧ ∀ v, q_W adj s (i + 1) v → q_W adj s i v) ∨ j + 1 ≤ q_cnt (q_W adj s j) M := by
    intro j
    induction j with
    | zero => right; exact q_cnt_pos (p := q_W adj s 0) hs rfl
    | succ j ih =>
      rcases ih with ⟨i, hi, h⟩ | h
      · exact Or.inl ⟨i, by omega, h⟩
      · by_cases c : ∀ v, q_W adj s (j + 1) v → q_W adj s j v
        · exact Or.inl ⟨j, by omega, c⟩
        · right
          have : ∃ v, q_W adj s (j + 1) v ∧ ¬ q_W adj s j v := Classical.byContradiction (fun q => c (fun v hv => Classical.byContradiction (fun z => q ⟨v, hv, z⟩)))
          obtain ⟨v, h1, h2⟩ := this
          have := q_cnt_lt (p := q_W adj s j) (p' := q_W adj s (j + 1)) (k := v) (m := M) (fun i _ q => Or.inl q) (q_W_lt hs ha h1) h1 h2
          omega
  rcases grow M with ⟨i, hi, h⟩ | h
  · intro k v q; exact q_W_mono (by omega) (q_W_stable h k v q)
  · have := q_cnt_le (q_W adj s M) M; omega
/-! Edges in a row: the class makes far smaller, edge by edge. -/
def q_adj (K : Nat) (A B : Nat → Nat) (op : Nat → Prop) (u v : Nat) : Prop := ∃ p, p < K ∧ op p ∧ ((u = A p ∧ v = B p) ∨ (u = B p ∧ v = A p))
def q_up2 (f : Nat → Nat) (k x : Nat) : Nat → Nat := fun j => if j = k then x else f j
noncomputable def q_rlx (a b : Nat) (f : Nat → Nat) : Nat → Nat := if f a + 1 < f b then q_up2 f b (f a + 1) else if f b + 1 < f a then q_up2 f a (f b + 1) else f
theorem q_rlx_le (a b : Nat) (f : Nat → Nat) (v : Nat) : q_rlx a b f v ≤ f v := by
  unfold q_rlx q_up2
  by_cases c : f a + 1 < f b
  · rw [if_pos c]
    by_cases e : v = b
    · rw [if_pos e, e]; omega
    · rw [if_neg e]; exact Nat.le_refl _
  · rw [if_neg c]
    by_cases c' : f b + 1 < f a
    · rw [if_pos c']
      by_cases e : v = a
      · rw [if_pos e, e]; omega
      · rw [if_neg e]; exact Nat.le_refl _
    · rw [if_neg c']; exact Nat.le_refl _
theorem q_rlx_ab (a b : Nat) (f : Nat → Nat) : q_rlx a b f b ≤ f a + 1 ∧ q_rlx a b f a ≤ f b + 1 := by
  unfold q_rlx q_up2
  by_cases c : f a + 1 < f b
  · rw [if_pos c]
    rw [if_pos rfl]
    by_cases e : a = b
    · rw [e] at c; omega
    · rw [if_neg e]; omega
  · rw [if_neg c]
    by_cases c' : f b + 1 < f a
    · rw [if_pos c']
      rw [if_pos rfl]
      by_cases e : b = a
      · rw [e] at c'; omega
      · rw [if_neg e]; omega
    · rw [if_neg c']; omega
theorem q_rlx_W {adj : Nat → Nat → Prop} {s a b : Nat} {f : Nat → Nat} (hab : adj a b) (hba : adj b a) (hf : ∀ v, f v < 1000 → q_W adj s (f v) v) (hb : ∀ v, f v ≤ 1000) : (∀ v, q_rlx a b f v < 1000 → q_W adj s (q_rlx a b f v) v) ∧ ∀ v, q_rlx a b f v ≤ 1000 := by
  refine ⟨fun v hv => ?_, fun v => Nat.le_trans (q_rlx_le a b f v) (hb v)⟩
  have ha := hb a
  have hb' := hb b
  unfold q_rlx q_up2 at hv ⊢
  by_cases c : f a + 1 < f b
  · rw [if_pos c] at hv ⊢
    by_cases e : v = b
    · rw [if_pos e]; rw [e]; exact Or.inr ⟨a, hf a (by omega), hab⟩
    · rw [if_neg e] at hv ⊢; exact hf v hv
  · rw [if_neg c] at hv ⊢
    by_cases c' : f b + 1 < f a
    · rw [if_pos c'] at hv ⊢
      by_cases e : v = a
      · rw [if_pos e]; rw [e]; exact Or.inr ⟨b, hf b (by omega), hba⟩
      · rw [if_neg e] at hv ⊢; exact hf v hv
    · rw [if_neg c'] at hv ⊢; exact hf v hv
/-! The door in a piece: one that has a part of the line from u to w. -/
def q_dw (dn df dt : Nat → Nat) (l : Nat) (u w : Int) (d : Nat) : Prop := d < dn l ∧ (df (6 * l + d) : Int) < w ∧ u < (dt (6 * l + d) : Int) ∧ df (6 * l + d) < dt (6 * l + d) ∧ u < w
def q_u (T I : Sto) (P : Pcs) (X Y : Nat → Nat) (p : Nat) : Int := (X (q_nd I (P p).1 (P p).2.1).1 : Int) - xl T (P p).1 + Y (q_nd I (P p).1 (P p).2.1).2 - yl T (P p).1
def q_op (T I : Sto) (P : Pcs) (X Y : Nat → Nat) (dn df dt : Nat → Nat) (p : Nat) : Prop := ∃ d, q_dw dn df dt (P p).1 (q_u T I P X Y p) (q_u T I P X Y p + q_len I P X Y p) d
def q_dr (n : Nat) (dn df dt : Nat → Nat) (fn ff ft : Nat → Int32) : Prop := ∀ l, l < n → fn l = N (dn l) ∧ dn l ≤ 6 ∧ ∀ d, d < dn l → ff (6 * l + d) = N (df (6 * l + d)) ∧ ft (6 * l + d) = N (dt (6 * l + d)) ∧ df (6 * l + d) ≤ 500 ∧ dt (6 * l + d) ≤ 500
theorem q_Cdoor_L {n : Nat} {dn df dt : Nat → Nat} {fn ff ft : Nat → Int32} (hn : n ≤ 20) (hd : q_dr n dn df dt fn ff ft) {l : Nat} (hl : l < n) {u w : Int} (hu : 0 ≤ u ∧ u ≤ 2000) (hw : 0 ≤ w ∧ w ≤ 2000) :
    ∀ fuel d, dn l - d < fuel → d ≤ dn l → (∀ e, e < d → ¬ q_dw dn df dt l u w e) →
    ((∃ e, q_dw dn df dt l u w e) ∧ m_Li_hasDoorWithin_L10 (N l) (J u) (J w) (N (6 * l)) fn ff ft fuel (N (6 * l + d)) = some (Sum.inl 1)) ∨ ((¬ ∃ e, q_dw dn df dt l u w e) ∧ m_Li_hasDoorWithin_L10 (N l) (J u) (J w) (N (6 * l)) fn ff ft fuel (N (6 * l + d)) = some (Sum.inr ())) := by
  obtain ⟨h1, h2, h3⟩ := hd l hl
  intro fuel
  induction fuel with
  | zero => intro d h; omega
  | succ m ih =>
    intro d hm hdn hno
    rw [m_Li_hasDoorWithin_L10, gI_N (by omega) (by omega), N_nat (by omega), h1, N_add]
    by_cases c : dn l ≤ d
    · right
      rw [if_pos ((N_le (by omega) (by omega)).mpr (by omega))]
      exact ⟨fun ⟨e, he⟩ => hno e (by have := he.1; omega) he, rfl⟩
    · obtain ⟨g1, g2, g3, g4⟩ := h3 d (by omega)
      rw [if_neg (fun q => c (by have := (N_le (by omega) (by omega)).mp q; omega)), gI_N (by omega) (by omega), gI_N (by omega) (by omega), N_nat (by omega), g1, g2]
      have em : jmin (N (dt (6 * l + d))) (J w) = J (if w < dt (6 * l + d) then w else dt (6 * l + d)) := by
        unfold jmin
        rw [N_J]
        by_cases z : w < dt (6 * l + d)
        · rw [if_pos ((J_lt (by omega) (by omega) (by omega) (by omega)).mpr z), if_pos z]
        · rw [if_neg (fun q => z ((J_lt (by omega) (by omega) (by omega) (by omega)).mp q)), if_neg z]
      have ex : jmax (N (df (6 * l + d))) (J u) = J (if (df (6 * l + d) : Int) < u then u else df (6 * l + d)) := by
        unfold jmax
        rw [N_J]
        by_cases z : (df (6 * l + d) : Int) < u
        · rw [if_pos ((J_lt (by omega) (by omega) (by omega) (by omega)).mpr z), if_pos z]
        · rw [if_neg (fun q => z ((J_lt (by omega) (by omega) (by omega) (by omega)).mp q)), if_neg z]
      have bm : 0 ≤ (if w < dt (6 * l + d) then w else (dt (6 * l + d) : Int)) ∧ (if w < dt (6 * l + d) then w else (dt (6 * l + d) : Int)) ≤ 2000 := by
        by_cases z : w < dt (6 * l + d)
        · rw [if_pos z]; omega
        · rw [if_neg z]; omega
      have bx : 0 ≤ (if (df (6 * l + d) : Int) < u then u else (df (6 * l + d) : Int)) ∧ (if (df (6 * l + d) : Int) < u then u else (df (6 * l + d) : Int)) ≤ 2000 := by
        by_cases z : (df (6 * l + d) : Int) < u
        · rw [if_pos z]; omega
        · rw [if_neg z]; omega
      have eq : (if w < dt (6 * l + d) then w else (dt (6 * l + d) : Int)) ≤ (if (df (6 * l + d) : Int) < u then u else (df (6 * l + d) : Int)) ↔ ¬ q_dw dn df dt l u w d := by
        unfold q_dw
        by_cases z : w < dt (6 * l + d)
        · rw [if_pos z]
          by_cases z2 : (df (6 * l + d) : Int) < u
          · rw [if_pos z2]; omega
          · rw [if_neg z2]; omega
        · rw [if_neg z]
          by_cases z2 : (df (6 * l + d) : Int) < u
          · rw [if_pos z2]; omega
          · rw [if_neg z2]; omega
      rw [em, ex]
      have jl := J_le (a := if w < dt (6 * l + d) then w else (dt (6 * l + d) : Int)) (b := if (df (6 * l + d) : Int) < u then u else (df (6 * l + d) : Int)) (by omega) (by omega) (by omega) (by omega)
      by_cases z : q_dw dn df dt l u w d
      · left
        rw [if_neg (fun q => (eq.mp (jl.mp q)) z), gB_1]
        exact ⟨⟨d, z⟩, rfl⟩
      · rw [if_pos (jl.mpr (eq.mpr z)), lt_e, N_lit 1, N_add, Nat.add_assoc]
        exact ih (d + 1) (by omega) (by omega) (fun e he => by
          by_cases ee : e = d
          · rw [ee]; exact z
          · exact hno e (by omega))
theorem q_Cdoor {n : Nat} {dn df dt : Nat → Nat} {fn ff ft : Nat → Int32} (hn : n ≤ 20) (hd : q_dr n dn df dt fn ff ft) {l : Nat} (hl : l < n) {u w : Int} (hu : 0 ≤ u ∧ u ≤ 2000) (hw : 0 ≤ w ∧ w ≤ 2000) :
    m_Li_hasDoorWithin (N l) (J u) (J w) fn ff ft = some (N (q_one (∃ e, q_dw dn df dt l u w e))) := by
  have h2 := (hd l hl).2.1
  unfold m_Li_hasDoorWithin
  rw [lt_e, N_lit 6, N_mul, Nat.mul_comm]
  have key := q_Cdoor_L hn hd hl hu hw fu 0 (by unfold fu; omega) (by omega) (fun e h => by omega)
  rw [Nat.add_zero] at key
  rcases key with ⟨a, e⟩ | ⟨a, e⟩
  · rw [e, q_one_t a]; rfl
  · rw [e, q_one_f a]; show gB 0 (some 0) = _; rw [gB_0]; rfl
theorem q_u_bd {n : Nat} {T I : Sto} {nx ny : Nat} {X Y : Nat → Nat} (hok : q_ok n T) (hg : q_gi n I nx ny) (hi : q_ix n T I X Y) (hX : q_inc nx X) (hY : q_inc ny Y) (bX : q_bd nx X 500) (bY : q_bd ny Y 500) {p : Nat} (hp : p < q_NP n I) : 0 ≤ q_u T I (q_PP n I) X Y p ∧ q_u T I (q_PP n I) X Y p ≤ 1000 ∧
    (yl I (q_PP n I p).1 = yh I (q_PP n I p).1 → q_u T I (q_PP n I) X Y p = (X (q_nd I (q_PP n I p).1 (q_PP n I p).2.1).1 : Int) - q_lo T (q_PP n I p).1) ∧ (¬ yl I (q_PP n I p).1 = yh I (q_PP n I p).1 → q_u T I (q_PP n I) X Y p = (Y (q_nd I (q_PP n I p).1 (q_PP n I p).2.1).2 : Int) - q_lo T (q_PP n I p).1) := by
  obtain ⟨a1, a2, a3, a4, _⟩ := q_pcA hg hp
  obtain ⟨e1, e2, e3, e4⟩ := hi _ a1
  have hin := q_nd_in hg a1 (k := (q_PP n I p).2.1) (by omega)
  have hln := hg.2.2.2.1 _ a1
  have b1 := bX _ hin.1
  have b2 := bY _ hin.2
  have fT : (yl T (q_PP n I p).1 = yh T (q_PP n I p).1) ↔ (yl I (q_PP n I p).1 = yh I (q_PP n I p).1) := by rw [e2, e4, hY.eq_iff (by omega) (by omega)]
  unfold q_u
  unfold q_lo at a2 ⊢
  unfold q_nd at *
  by_cases f : yl I (q_PP n I p).1 = yh I (q_PP n I p).1
  · simp only [if_pos f, if_pos (fT.mpr f)] at *
    have := hX.le a2 hin.1
    omega
  · simp only [if_neg f, if_neg (fun q => f (fT.mp q))] at *
    have := hY.le a2 hin.2
    omega
def q_vA (I : Sto) (P : Pcs) (F : Ce → Int) (p : Nat) : Nat := (q_lf I P F (2 * p) + 1).toNat
def q_vB (I : Sto) (P : Pcs) (F : Ce → Int) (p : Nat) : Nat := (q_lf I P F (2 * p + 1) + 1).toNat
abbrev q_ad (n : Nat) (T I : Sto) (F : Ce → Int) (X Y : Nat → Nat) (dn df dt : Nat → Nat) : Nat → Nat → Prop := q_adj (q_NP n I) (q_vA I (q_PP n I) F) (q_vB I (q_PP n I) F) (q_op T I (q_PP n I) X Y dn df dt)
theorem q_v_lt {n : Nat} {I : Sto} {nx ny : Nat} {F : Ce → Int} {ns : Nat} (hg : q_gi n I nx ny) (hF : q_labs n I nx ny F ns) {p : Nat} (hp : p < q_NP n I) : q_vA I (q_PP n I) F p < ns + 1 ∧ q_vB I (q_PP n I) F p < ns + 1 ∧ J (q_lf I (q_PP n I) F (2 * p)) + 1 = N (q_vA I (q_PP n I) F p) ∧ J (q_lf I (q_PP n I) F (2 * p + 1)) + 1 = N (q_vB I (q_PP n I) F p) := by
  have h1 := q_lf_bd hg hF (show 2 * p < 2 * q_NP n I by omega)
  have h2 := q_lf_bd hg hF (show 2 * p + 1 < 2 * q_NP n I by omega)
  unfold q_vA q_vB
  refine ⟨by omega, by omega, ?_, ?_⟩
  · rw [show (1 : Int32) = J 1 from rfl, J_add, N_J]; congr 1; omega
  · rw [show (1 : Int32) = J 1 from rfl, J_add, N_J]; congr 1; omega
def q_ow (n : Nat) (op : Nat → Prop) (K : Nat) (ow : Nat → Nat) (fo : Nat → Int32) (p0 : Nat) : Prop := K = q_cnt op p0 ∧ (∀ k, k < K → fo k = N (ow k) ∧ ow k < p0 ∧ op (ow k)) ∧ ∀ p, p < p0 → op p → ∃ k, k < K ∧ ow k = p
theorem q_Copen_L {n : Nat} {T I : Sto} {nx ny : Nat} {X Y : Nat → Nat} {F : Ce → Int} {dn df dt : Nat → Nat} {fn ff ft f1 f2 f3 f4 pX pY pA pl be di le : Nat → Int32} (hok : q_ok n T) (hg : q_gi n I nx ny) (hi : q_ix n T I X Y) (hX : q_inc nx X) (hY : q_inc ny Y) (bX : q_bd nx X 500) (bY : q_bd ny Y 500) (hcl : q_cl n T f1 f2 f3 f4) (hd : q_dr n dn df dt fn ff ft) (hp : q_pr n I nx ny X Y (40 * nx) pX pY pA) (hc : q_cp n I F (q_NP n I) (q_PP n I) pl be di le) :
    ∀ fuel p K ow fo, q_NP n I - p < fuel → p ≤ q_NP n I → q_ow n (q_op T I (q_PP n I) X Y dn df dt) K ow fo p →
    ∃ K' ow' fo', m_Wa_findOpenPieces_L7 f1 f2 fn ff ft (N (q_NP n I)) pX pY pl be fuel (N p) (N K) fo = some (N K', fo') ∧ q_ow n (q_op T I (q_PP n I) X Y dn df dt) K' ow' fo' (q_NP n I) := by
  have h220 := q_NP_220 hg
  have hn := hg.1
  intro fuel
  induction fuel with
  | zero => intro p K ow fo h; omega
  | succ m ih =>
    intro p K ow fo hm hpn ho
    rw [m_Wa_findOpenPieces_L7]
    by_cases c : q_NP n I ≤ p
    · rw [if_pos ((N_le (by omega) (by omega)).mpr c)]
      have e : p = q_NP n I := by omega
      subst e
      exact ⟨K, ow, fo, rfl, ho⟩
    · have hlt : p < q_NP n I := by omega
      have h2p : 2 * p < 2 * q_NP n I := by omega
      obtain ⟨a1, a2, a3, a4, a5, _⟩ := q_pcA hg hlt
      have b0 : q_qb I (q_PP n I) (2 * p) = q_nd I (q_PP n I p).1 (q_PP n I p).2.1 := by unfold q_qb; rw [if_pos (by omega), show 2 * p / 2 = p by omega]
      have lo := q_lineOf hg hc h2p
      rw [show 2 * p / 2 = p by omega] at lo
      have cb := (q_cp_side hc h2p).1
      rw [b0] at cb
      have v1 := q_pv_lt hg a5
      obtain ⟨x1, y1⟩ := q_pr_v hg hp a5
      obtain ⟨g1, g2, g3, g4⟩ := hcl _ a1
      have hq := hok.2.1 _ a1
      unfold q_ln at hq
      have bu := q_u_bd hok hg hi hX hY bX bY hlt
      have bl := q_len_p hg hX hY bX bY hlt
      have hcl2 := q_Clen hg hX hY bX bY hp hc h2p
      rw [show 2 * p / 2 = p by omega] at hcl2
      obtain ⟨o1, o2, o3⟩ := ho
      have hK := q_cnt_le (q_op T I (q_PP n I) X Y dn df dt) p
      have ec : q_cnt (q_op T I (q_PP n I) X Y dn df dt) (p + 1) = q_cnt (q_op T I (q_PP n I) X Y dn df dt) p + q_one (q_op T I (q_PP n I) X Y dn df dt p) := rfl
      have dr : m_Li_hasDoorWithin (N (q_PP n I p).1) (J (q_u T I (q_PP n I) X Y p)) (J (q_u T I (q_PP n I) X Y p + q_len I (q_PP n I) X Y p)) fn ff ft = some (N (q_one (q_op T I (q_PP n I) X Y dn df dt p))) := q_Cdoor hn hd a1 (u := q_u T I (q_PP n I) X Y p) (w := q_u T I (q_PP n I) X Y p + q_len I (q_PP n I) X Y p) (by omega) (by omega)
      have eu : (N (X (q_nd I (q_PP n I p).1 (q_PP n I p).2.1).1) - N (xl T (q_PP n I p).1)) + N (Y (q_nd I (q_PP n I p).1 (q_PP n I p).2.1).2) - N (yl T (q_PP n I p).1) = J (q_u T I (q_PP n I) X Y p) := by
        rw [q_NJ, N_J (Y _), J_add, N_J (yl T _), J_sub]; rfl
      rw [if_neg (fun q => c ((N_le (by omega) (by omega)).mp q)), show 2 * N p = N (2 * p) from by rw [N_lit 2, N_mul], lo, bd1_i rfl]
      have eb : m_Ne_beginningOf (N (2 * p)) be = some (N (q_pv n I (q_nd I (q_PP n I p).1 (q_PP n I p).2.1))) := by unfold m_Ne_beginningOf; rw [gI_N (by omega) (by omega), N_nat (by omega), cb]
      rw [eb, bd1_i rfl, gI_N (by omega) (by omega), gI_N (by omega) (by omega), gI_N (by omega) (by omega), gI_N (by omega) (by omega), N_nat (by omega), N_nat (by omega), x1, y1, g1, g2, eu, lt_e]
      by_cases z : q_op T I (q_PP n I) X Y dn df dt p
      · rw [q_one_t z] at ec
        obtain ⟨K', ow', fo', e, r⟩ := ih (p + 1) (K + 1) (q_up2 ow K p) (upd fo K (N p)) (by omega) (by omega) ⟨by omega, fun k hk => by
            unfold q_up2
            by_cases ek : k = K
            · rw [if_pos ek, ek, upd_s]; exact ⟨rfl, by omega, z⟩
            · rw [if_neg ek, upd_n _ _ ek]; have := o2 k (by omega); exact ⟨this.1, by omega, this.2.2⟩, fun q hq hop => by
            by_cases eq : q = p
            · exact ⟨K, by omega, by unfold q_up2; rw [if_pos rfl, eq]⟩
            · obtain ⟨k, k1, k2⟩ := o3 q (by omega) hop
              exact ⟨k, by omega, by unfold q_up2; rw [if_neg (by omega)]; exact k2⟩⟩
        refine ⟨K', ow', fo', ?_, r⟩
        rw [N_lit 220, if_neg (fun q => by have := (N_le (by omega) (by omega)).mp q; omega), hcl2, bd1_i rfl, J_add, dr, bd1_i rfl, if_neg (fun q => (q_one0 _).mp q z), gI_N (by omega) (by omega), lt_e, lt_e, N_nat (by omega), bd2_i rfl, lt_e, N_lit 1, N_add, N_add]
        exact e
      · rw [q_one_f z] at ec
        obtain ⟨K', ow', fo', e, r⟩ := ih (p + 1) K ow fo (by omega) (by omega) ⟨by omega, fun k hk => by have := o2 k hk; exact ⟨this.1, by omega, this.2.2⟩, fun q hq hop => by
            by_cases eq : q = p
            · rw [eq] at hop; exact (z hop).elim
            · exact o3 q (by omega) hop⟩
        refine ⟨K', ow', fo', ?_, r⟩
        rw [N_lit 220, if_neg (fun q => by have := (N_le (by omega) (by omega)).mp q; omega), hcl2, bd1_i rfl, J_add, dr, bd1_i rfl, if_pos ((q_one0 _).mpr z), bd2_i rfl, lt_e, N_lit 1, N_add]
        exact e
/-! One round over the open pieces. -/
noncomputable def q_rnd (A B ow : Nat → Nat) (f : Nat → Nat) : Nat → Nat → Nat
  | 0 => f
  | k + 1 => q_rlx (A (ow k)) (B (ow k)) (q_rnd A B ow f k)
theorem q_rnd_le (A B ow : Nat → Nat) (f : Nat → Nat) (v : Nat) : ∀ {k k'}, k ≤ k' → q_rnd A B ow f k' v ≤ q_rnd A B ow f k v := by
  intro k k' h
  induction k' with
  | zero => rw [show k = 0 by omega]; exact Nat.le_refl _
  | succ k' ih =>
    by_cases e : k = k' + 1
    · rw [e]; exact Nat.le_refl _
    · exact Nat.le_trans (q_rlx_le _ _ _ v) (ih (by omega))
theorem q_rlx_eq {a b : Nat} {f : Nat → Nat} (h1 : ¬ f a + 1 < f b) (h2 : ¬ f b + 1 < f a) : q_rlx a b f = f := by unfold q_rlx; rw [if_neg h1, if_neg h2]
theorem q_near_L {n : Nat} {T I : Sto} {nx ny : Nat} {X Y : Nat → Nat} {F : Ce → Int} {ns : Nat} {dn df dt : Nat → Nat} {pl be di le fo : Nat → Int32} {K : Nat} {ow : Nat → Nat} (hg : q_gi n I nx ny) (hF : q_labs n I nx ny F ns) (hc : q_cp n I F (q_NP n I) (q_PP n I) pl be di le) (ho : q_ow n (q_op T I (q_PP n I) X Y dn df dt) K ow fo (q_NP n I)) {f : Nat → Nat} (hf : ∀ v, f v ≤ 1000) :
    ∀ fuel k (fl : Prop) fa, K - k < fuel → k ≤ K → (∀ v, v < 82 → fa v = N (q_rnd (q_vA I (q_PP n I) F) (q_vB I (q_PP n I) F) ow f k v)) → (¬ fl → ∀ j, j < k → ¬ f (q_vA I (q_PP n I) F (ow j)) + 1 < f (q_vB I (q_PP n I) F (ow j)) ∧ ¬ f (q_vB I (q_PP n I) F (ow j)) + 1 < f (q_vA I (q_PP n I) F (ow j))) → (¬ fl → q_rnd (q_vA I (q_PP n I) F) (q_vB I (q_PP n I) F) ow f k = f) →
    ∃ (fl' : Prop) (fa' : Nat → Int32), m_Wa_findNearer_L4 (N K) fo le fuel (N (q_one fl)) (N k) fa = some (N (q_one fl'), fa') ∧ (∀ v, v < 82 → fa' v = N (q_rnd (q_vA I (q_PP n I) F) (q_vB I (q_PP n I) F) ow f K v)) ∧ (¬ fl' → ∀ j, j < K → ¬ f (q_vA I (q_PP n I) F (ow j)) + 1 < f (q_vB I (q_PP n I) F (ow j)) ∧ ¬ f (q_vB I (q_PP n I) F (ow j)) + 1 < f (q_vA I (q_PP n I) F (ow j))) ∧ (¬ fl' → q_rnd (q_vA I (q_PP n I) F) (q_vB I (q_PP n I) F) ow f K = f) := by
  have h220 := q_NP_220 hg
  have h81 := q_ns_81 hg hF
  have hK : K ≤ 220 := by rw [ho.1]; exact Nat.le_trans (q_cnt_le _ _) h220
  intro fuel
  induction fuel with
  | zero => intro k fl fa h; omega
  | succ m ih =>
    intro k fl fa hm hk hfa h1 h2
    rw [m_Wa_findNearer_L4]
    by_cases c : K ≤ k
    · rw [if_pos ((N_le (by omega) (by omega)).mpr c)]
      have e : k = K := by omega
      subst e
      exact ⟨fl, fa, rfl, hfa, h1, h2⟩
    · obtain ⟨w1, w2, w3⟩ := ho.2.1 k (by omega)
      have hlt : 2 * ow k < 2 * q_NP n I := by omega
      obtain ⟨va, vb, ea, eb⟩ := q_v_lt hg hF w2
      have eL : m_Ne_onTheLeft (N (2 * ow k)) le = some (J (q_lf I (q_PP n I) F (2 * ow k))) := by unfold m_Ne_onTheLeft; rw [gI_N (by omega) (by omega), N_nat (by omega), (q_cp_side hc hlt).2.2.1]
      have eR := q_onR hg hc hlt
      rw [show q_rv (2 * ow k) = 2 * ow k + 1 from by unfold q_rv; rw [if_pos (by omega)]] at eR
      generalize hA : q_vA I (q_PP n I) F = A at *
      generalize hB : q_vB I (q_PP n I) F = B at *
      have ba := Nat.le_trans (q_rnd_le A B ow f (A (ow k)) (Nat.zero_le k)) (hf _)
      have bb := Nat.le_trans (q_rnd_le A B ow f (B (ow k)) (Nat.zero_le k)) (hf _)
      have es : q_rnd A B ow f (k + 1) = q_rlx (A (ow k)) (B (ow k)) (q_rnd A B ow f k) := rfl
      have fA := hfa (A (ow k)) (by omega)
      have fB := hfa (B (ow k)) (by omega)
      rw [if_neg (fun q => c ((N_le (by omega) (by omega)).mp q)), gI_N (by omega) (by omega), N_nat (by omega), w1, show 2 * N (ow k) = N (2 * ow k) from by rw [N_lit 2, N_mul], eL, bd1_i rfl, lt_e, ea, gI_N (by omega) (by omega), eR, bd1_i rfl, lt_e, eb, gI_N (by omega) (by omega), gI_N (by omega) (by omega), N_nat (by omega), N_nat (by omega), fA, fB,
        show N (q_rnd A B ow f k (A (ow k))) + 1 = N (q_rnd A B ow f k (A (ow k)) + 1) from by rw [N_lit 1, N_add], show N (q_rnd A B ow f k (B (ow k))) + 1 = N (q_rnd A B ow f k (B (ow k)) + 1) from by rw [N_lit 1, N_add]]
      by_cases c1 : q_rnd A B ow f k (A (ow k)) + 1 < q_rnd A B ow f k (B (ow k))
      · obtain ⟨fl', fa', e, r⟩ := ih (k + 1) True (upd fa (B (ow k)) (N (q_rnd A B ow f k (A (ow k)) + 1))) (by omega) (by omega) (fun v hv => by
          rw [es]; unfold q_rlx q_up2; rw [if_pos c1]
          by_cases ev : v = B (ow k)
          · rw [if_pos ev, ev, upd_s]
          · rw [if_neg ev, upd_n _ _ ev]; exact hfa v hv) (fun q => (q trivial).elim) (fun q => (q trivial).elim)
        refine ⟨fl', fa', ?_, r⟩
        rw [q_one_t trivial] at e
        rw [if_neg (fun q => by have := (N_le (by omega) (by omega)).mp q; omega), gI_N (by omega) (by omega), gI_N (by omega) (by omega), lt_e, bd2_i rfl, lt_e, show N k + 1 = N (k + 1) from by rw [N_lit 1, N_add]]
        exact e
      · rw [if_pos ((N_le (by omega) (by omega)).mpr (by omega)), gI_N (by omega) (by omega), gI_N (by omega) (by omega)]
        by_cases c2 : q_rnd A B ow f k (B (ow k)) + 1 < q_rnd A B ow f k (A (ow k))
        · obtain ⟨fl', fa', e, r⟩ := ih (k + 1) True (upd fa (A (ow k)) (N (q_rnd A B ow f k (B (ow k)) + 1))) (by omega) (by omega) (fun v hv => by
            rw [es]; unfold q_rlx q_up2; rw [if_neg c1, if_pos c2]
            by_cases ev : v = A (ow k)
            · rw [if_pos ev, ev, upd_s]
            · rw [if_neg ev, upd_n _ _ ev]; exact hfa v hv) (fun q => (q trivial).elim) (fun q => (q trivial).elim)
          refine ⟨fl', fa', ?_, r⟩
          rw [q_one_t trivial] at e
          rw [if_neg (fun q => by have := (N_le (by omega) (by omega)).mp q; omega), gI_N (by omega) (by omega), gI_N (by omega) (by omega), lt_e, bd2_i rfl, lt_e, show N k + 1 = N (k + 1) from by rw [N_lit 1, N_add]]
          exact e
        · have eq := q_rlx_eq (a := A (ow k)) (b := B (ow k)) (f := q_rnd A B ow f k) c1 c2
          obtain ⟨fl', fa', e, r⟩ := ih (k + 1) fl fa (by omega) (by omega) (fun v hv => by rw [es, eq]; exact hfa v hv) (fun q j hj => by
            by_cases ej : j = k
            · have z := h2 q
              rw [ej, ← z]; exact ⟨by rw [z] at c1 ⊢; exact c1, by rw [z] at c2 ⊢; exact c2⟩
            · exact h1 q j (by omega)) (fun q => by rw [es, eq]; exact h2 q)
          refine ⟨fl', fa', ?_, r⟩
          rw [if_pos ((N_le (by omega) (by omega)).mpr (by omega)), bd2_i rfl, lt_e, show N k + 1 = N (k + 1) from by rw [N_lit 1, N_add]]
          exact e
/-! Rounds: after i of them what is reached in j <= i steps is no farther than j. -/
def q_fs (adj : Nat → Nat → Prop) (s i : Nat) (f : Nat → Nat) : Prop := (∀ v, f v ≤ 1000) ∧ (∀ v, f v < 1000 → q_W adj s (f v) v) ∧ ∀ j v, j ≤ i → q_W adj s j v → f v ≤ j
theorem q_rnd_W {adj : Nat → Nat → Prop} {s : Nat} {A B ow : Nat → Nat} {f : Nat → Nat} {K : Nat} (had : ∀ k, k < K → adj (A (ow k)) (B (ow k)) ∧ adj (B (ow k)) (A (ow k))) (h1 : ∀ v, f v ≤ 1000) (h2 : ∀ v, f v < 1000 → q_W adj s (f v) v) :
    ∀ k, k ≤ K → (∀ v, q_rnd A B ow f k v ≤ 1000) ∧ ∀ v, q_rnd A B ow f k v < 1000 → q_W adj s (q_rnd A B ow f k v) v := by
  intro k
  induction k with
  | zero => intro _; exact ⟨h1, h2⟩
  | succ k ih =>
    intro hk
    obtain ⟨a, b⟩ := ih (by omega)
    obtain ⟨c, d⟩ := had k (by omega)
    have := q_rlx_W c d b a
    exact ⟨this.2, this.1⟩
theorem q_fs_rnd {K0 : Nat} {A B ow : Nat → Nat} {op : Nat → Prop} {s i : Nat} {f : Nat → Nat} {K : Nat} (ho1 : ∀ k, k < K → ow k < K0 ∧ op (ow k)) (ho2 : ∀ p, p < K0 → op p → ∃ k, k < K ∧ ow k = p) (h : q_fs (q_adj K0 A B op) s i f) : q_fs (q_adj K0 A B op) s (i + 1) (q_rnd A B ow f K) := by
  obtain ⟨h1, h2, h3⟩ := h
  have had : ∀ k, k < K → q_adj K0 A B op (A (ow k)) (B (ow k)) ∧ q_adj K0 A B op (B (ow k)) (A (ow k)) := fun k hk => by
    obtain ⟨a, b⟩ := ho1 k hk
    exact ⟨⟨ow k, a, b, Or.inl ⟨rfl, rfl⟩⟩, ⟨ow k, a, b, Or.inr ⟨rfl, rfl⟩⟩⟩
  obtain ⟨r1, r2⟩ := q_rnd_W had h1 h2 K (Nat.le_refl _)
  have le0 : ∀ v, q_rnd A B ow f K v ≤ f v := fun v => q_rnd_le A B ow f v (Nat.zero_le K)
  refine ⟨r1, r2, fun j v hj hw => ?_⟩
  by_cases c : j ≤ i
  · exact Nat.le_trans (le0 v) (h3 j v c hw)
  · have e : j = i + 1 := by omega
    subst e
    rcases hw with hw | ⟨u, hu, p, hp, hop, hab⟩
    · exact Nat.le_trans (le0 v) (Nat.le_trans (h3 i v (Nat.le_refl _) hw) (by omega))
    · obtain ⟨k, hk, ek⟩ := ho2 p hp hop
      have fu := h3 i u (Nat.le_refl _) hu
      have st : q_rnd A B ow f (k + 1) v ≤ q_rnd A B ow f k u + 1 := by
        have := q_rlx_ab (A (ow k)) (B (ow k)) (q_rnd A B ow f k)
        show q_rlx (A (ow k)) (B (ow k)) (q_rnd A B ow f k) v ≤ _
        rw [ek] at this ⊢
        rcases hab with ⟨x, y⟩ | ⟨x, y⟩
        · rw [x, y]; exact this.1
        · rw [x, y]; exact this.2
      have l1 : q_rnd A B ow f k u ≤ f u := q_rnd_le A B ow f u (Nat.zero_le k)
      have l2 : q_rnd A B ow f K v ≤ q_rnd A B ow f (k + 1) v := q_rnd_le A B ow f v (by omega)
      omega
theorem q_fs_stable {K0 : Nat} {A B ow : Nat → Nat} {op : Nat → Prop} {s : Nat} {f : Nat → Nat} {K : Nat} (ho2 : ∀ p, p < K0 → op p → ∃ k, k < K ∧ ow k = p) (h : q_fs (q_adj K0 A B op) s 0 f)
    (hst : ∀ j, j < K → ¬ f (A (ow j)) + 1 < f (B (ow j)) ∧ ¬ f (B (ow j)) + 1 < f (A (ow j))) : ∀ i, q_fs (q_adj K0 A B op) s i f := by
  obtain ⟨h1, h2, h3⟩ := h
  have key : ∀ j v, q_W (q_adj K0 A B op) s j v → f v ≤ j := by
    intro j
    induction j with
    | zero => intro v hw; exact h3 0 v (Nat.le_refl _) hw
    | succ j ih =>
      intro v hw
      rcases hw with hw | ⟨u, hu, p, hp, hop, hab⟩
      · exact Nat.le_trans (ih v hw) (by omega)
      · obtain ⟨k, hk, ek⟩ := ho2 p hp hop
        have a := ih u hu
        have b := hst k hk
        rw [ek] at b
        rcases hab with ⟨x, y⟩ | ⟨x, y⟩
        · rw [x] at a; rw [y]; omega
        · rw [x] at a; rw [y]; omega
  exact fun i => ⟨h1, h2, fun j v _ hw => key j v hw⟩
theorem q_way_L {n : Nat} {T I : Sto} {nx ny : Nat} {X Y : Nat → Nat} {F : Ce → Int} {ns : Nat} {dn df dt : Nat → Nat} {pl be di le fo : Nat → Int32} {K : Nat} {ow : Nat → Nat} {s : Nat} (hg : q_gi n I nx ny) (hF : q_labs n I nx ny F ns) (hc : q_cp n I F (q_NP n I) (q_PP n I) pl be di le) (ho : q_ow n (q_op T I (q_PP n I) X Y dn df dt) K ow fo (q_NP n I)) :
    ∀ fuel i (fl : Prop) fa f, 82 - i < fuel → i ≤ 82 → (∀ v, v < 82 → fa v = N (f v)) → q_fs (q_ad n T I F X Y dn df dt) s i f → (¬ fl → q_fs (q_ad n T I F X Y dn df dt) s 82 f) →
    ∃ (fa' : Nat → Int32) (f' : Nat → Nat), m_Wa_doorsOnTheWay_L31 (N K) fo le fuel (N (q_one fl)) (N i) fa = some fa' ∧ (∀ v, v < 82 → fa' v = N (f' v)) ∧ q_fs (q_ad n T I F X Y dn df dt) s 82 f' := by
  intro fuel
  induction fuel with
  | zero => intro i fl fa f h; omega
  | succ m ih =>
    intro i fl fa f hm hi hfa hfs hst
    rw [m_Wa_doorsOnTheWay_L31]
    by_cases c : 81 < i
    · rw [if_pos (by rw [N_lit 81]; exact (N_lt (by omega) (by omega)).mpr c)]
      have e : i = 82 := by omega
      subst e
      exact ⟨fa, f, rfl, hfa, hfs⟩
    · rw [if_neg (by rw [N_lit 81]; exact fun q => c ((N_lt (by omega) (by omega)).mp q))]
      by_cases z : fl
      · rw [if_neg (fun q => (q_one0 _).mp q z)]
        obtain ⟨fl', fa', e, r1, r2, r3⟩ := q_near_L (fo := fo) hg hF hc ho hfs.1 fu 0 False fa (by have : K ≤ 220 := (by rw [ho.1]; exact Nat.le_trans (q_cnt_le _ _) (q_NP_220 hg)); unfold fu; omega) (by omega) hfa (fun _ j hj => by omega) (fun _ => rfl)
        have o1 : ∀ k, k < K → ow k < q_NP n I ∧ q_op T I (q_PP n I) X Y dn df dt (ow k) := fun k hk => ⟨(ho.2.1 k hk).2.1, (ho.2.1 k hk).2.2⟩
        have fs' := q_fs_rnd (ow := ow) (K := K) o1 ho.2.2 hfs
        obtain ⟨fa2, f2, e2, x1, x2⟩ := ih (i + 1) fl' fa' _ (by omega) (by omega) r1 fs' (fun q => by
          rw [r3 q]
          exact q_fs_stable (ow := ow) (K := K) ho.2.2 ⟨hfs.1, hfs.2.1, fun j v hj => hfs.2.2 j v (by omega)⟩ (r2 q) 82)
        refine ⟨fa2, f2, ?_, x1, x2⟩
        rw [q_one_f (fun q => q)] at e
        have e' : m_Wa_findNearer (N K) fa fo le = some (N (q_one fl'), fa') := by
          unfold m_Wa_findNearer
          rw [show (0 : Int32) = N 0 from rfl, bd2_i e, gB_o]
        rw [bd2_i e', lt_e, N_lit 1, N_add]
        exact e2
      · rw [if_pos ((q_one0 _).mpr z)]
        exact ⟨fa, f, rfl, hfa, hst z⟩
/-! The answer of way: the number of steps, or -2. -/
theorem q_Cway {n : Nat} {T I : Sto} {nx ny : Nat} {X Y : Nat → Nat} {F : Ce → Int} {ns : Nat} {dn df dt : Nat → Nat} {fn ff ft f1 f2 f3 f4 pX pY pA pl be di le : Nat → Int32} (hok : q_ok n T) (hg : q_gi n I nx ny) (hi : q_ix n T I X Y) (hX : q_inc nx X) (hY : q_inc ny Y) (bX : q_bd nx X 500) (bY : q_bd ny Y 500) (hF : q_labs n I nx ny F ns) (hcl : q_cl n T f1 f2 f3 f4) (hd : q_dr n dn df dt fn ff ft) (hp : q_pr n I nx ny X Y (40 * nx) pX pY pA) (hc : q_cp n I F (q_NP n I) (q_PP n I) pl be di le)
    {a b : Nat} (ha : a ≤ ns) (hb : b ≤ ns) (vo : Int32) (fa fo : Nat → Int32) :
    ∃ r vo' fa' fo', m_Wa_doorsOnTheWay (J ((a : Int) - 1)) (J ((b : Int) - 1)) vo fa fo f1 f2 fn ff ft (N (q_NP n I)) pX pY pl be le = some (r, vo', fa', fo') ∧ ((∃ d, q_di (q_ad n T I F X Y dn df dt) a b d ∧ r = N d) ∨ ((∀ k, ¬ q_W (q_ad n T I F X Y dn df dt) a k b) ∧ r = J (-2))) := by
  have h220 := q_NP_220 hg
  have h81 := q_ns_81 hg hF
  have e0 : ∀ k : Nat, J ((k : Int) - 1) + 1 = N k := fun k => by rw [show (1 : Int32) = J 1 from rfl, J_add, N_J]; congr 1; omega
  obtain ⟨K, ow, fo', e1, ho⟩ := q_Copen_L hok hg hi hX hY bX bY hcl hd hp hc fu 0 0 (fun _ => 0) fo (by unfold fu; omega) (by omega) ⟨rfl, fun k h => by omega, fun p h => by omega⟩
  have e1' : m_Wa_findOpenPieces vo fo f1 f2 fn ff ft (N (q_NP n I)) pX pY pl be = some (N K, fo') := by
    unfold m_Wa_findOpenPieces; rw [show (0 : Int32) = N 0 from rfl, bd2_i e1]
  have e2 := q_fill0 (v := (1000 : Int32)) (n0 := 82) fa (by omega)
  have fs0 : q_fs (q_ad n T I F X Y dn df dt) a 0 (fun v => if v = a then 0 else 1000) := by
    refine ⟨fun v => ?_, fun v hv => ?_, fun j v hj hw => ?_⟩
    · dsimp only
      by_cases c : v = a
      · rw [if_pos c]; omega
      · rw [if_neg c]; omega
    · dsimp only at hv ⊢
      by_cases c : v = a
      · rw [if_pos c]; exact c
      · rw [if_neg c] at hv; omega
    · rw [show j = 0 by omega] at hw ⊢
      have : v = a := hw
      dsimp only
      rw [if_pos this]; omega
  obtain ⟨fa3, f3', e3, g1, g2⟩ := q_way_L (le := le) hg hF hc ho fu 0 True (upd (fun j => if j < 82 then 1000 else fa j) a 0) _ (by unfold fu; omega) (by omega) (fun v hv => by
    by_cases c : v = a
    · rw [if_pos c, c, upd_s]; rfl
    · rw [if_neg c, upd_n _ _ c, if_pos hv]; rfl) fs0 (fun q => (q trivial).elim)
  rw [q_one_t trivial] at e3
  have ha82 : ∀ u v, q_ad n T I F X Y dn df dt u v → v < ns + 1 := by
    intro u v ⟨p, hp1, _, h⟩
    have := q_v_lt hg hF hp1
    rcases h with h | h
    · rw [h.2]; exact this.2.1
    · rw [h.2]; exact this.1
  have bb := g2.1 b
  refine ⟨if 1000 ≤ f3' b then J (-2) else N (f3' b), N K, fa3, fo', ?_, ?_⟩
  · unfold m_Wa_doorsOnTheWay
    rw [bd2_i e1', e2, bd1_i rfl, e0, e0, gI_N (by omega) (by omega), lt_e, N_nat (by omega), show (1 : Int32) = N 1 from rfl, show (0 : Int32) = N 0 from rfl]
    have e3' : m_Wa_doorsOnTheWay_L31 (N K) fo' le fu (N 1) (N 0) (upd (fun j => if j < 82 then 1000 else fa j) a (N 0)) = some fa3 := e3
    rw [bd1_i e3', gI_N (by omega) (by omega), N_nat (by omega), g1 b (by omega), N_lit 1000]
    by_cases c : 1000 ≤ f3' b
    · rw [if_pos ((N_le (by omega) (by omega)).mpr c), if_pos c, bd1_i rfl]; rfl
    · rw [if_neg (fun q => c ((N_le (by omega) (by omega)).mp q)), if_neg c, gI_N (by omega) (by omega), bd1_i rfl]
  · by_cases c : 1000 ≤ f3' b
    · right
      rw [if_pos c]
      refine ⟨fun k hk => ?_, rfl⟩
      have w := q_W_M (s := a) (M := ns + 1) (by omega) ha82 k b hk
      have := g2.2.2 (ns + 1 - 1) b (by omega) w
      omega
    · left
      rw [if_neg c]
      have w := g2.2.1 b (by omega)
      obtain ⟨d, d1, d2⟩ := q_di_ex w
      have w2 := q_W_M (s := a) (M := ns + 1) (by omega) ha82 _ b w
      obtain ⟨d', d3, d4⟩ := q_di_ex w2
      have ed := q_di_eq d2 d4
      have := g2.2.2 d b (by omega) d2.1
      exact ⟨f3' b, by rw [show f3' b = d by omega]; exact d2, rfl⟩
theorem q_both {a b c d : Int} (ha : 0 ≤ a ∧ a ≤ 5000) (hb : 0 ≤ b ∧ b ≤ 5000) (hc : 0 ≤ c ∧ c ≤ 5000) (hd : 0 ≤ d ∧ d ≤ 5000) : ∃ z, m_Mo_both (J a) (J b) (J c) (J d) = some (J z) ∧ 0 ≤ z ∧ z ≤ 5000 ∧ (0 < z ↔ (a < b ∧ c < d ∧ a < d ∧ c < b)) ∧ z = (if (if d ≤ b then d else b) ≤ (if a ≤ c then c else a) then 0 else (if d ≤ b then d else b) - (if a ≤ c then c else a)) := by
  refine ⟨_, ?_, ?_, ?_, ?_, rfl⟩
  · unfold m_Mo_both
    have e1 : (if J a ≤ J c then some (J c) else some (J a)) = some (J (if a ≤ c then c else a)) := by
      by_cases z : a ≤ c
      · rw [if_pos ((J_le (by omega) (by omega) (by omega) (by omega)).mpr z), if_pos z]
      · rw [if_neg (fun q => z ((J_le (by omega) (by omega) (by omega) (by omega)).mp q)), if_neg z]
    have e2 : (if J d ≤ J b then some (J d) else some (J b)) = some (J (if d ≤ b then d else b)) := by
      by_cases z : d ≤ b
      · rw [if_pos ((J_le (by omega) (by omega) (by omega) (by omega)).mpr z), if_pos z]
      · rw [if_neg (fun q => z ((J_le (by omega) (by omega) (by omega) (by omega)).mp q)), if_neg z]
    have b1 : 0 ≤ (if a ≤ c then c else a) ∧ (if a ≤ c then c else a) ≤ 5000 := by split <;> omega
    have b2 : 0 ≤ (if d ≤ b then d else b) ∧ (if d ≤ b then d else b) ≤ 5000 := by split <;> omega
    rw [e1, bd1_i rfl, e2, bd1_i rfl]
    generalize (if a ≤ c then c else a) = lo at *
    generalize (if d ≤ b then d else b) = hi at *
    by_cases z : hi ≤ lo
    · rw [if_pos ((J_le (by omega) (by omega) (by omega) (by omega)).mpr z), if_pos z, bd1_i rfl]; rfl
    · rw [if_neg (fun q => z ((J_le (by omega) (by omega) (by omega) (by omega)).mp q)), if_neg z, J_sub, bd1_i rfl]
  · split <;> split <;> split <;> omega
  · split <;> split <;> split <;> omega
  · split <;> split <;> split <;> omega
theorem q_Rdoor_L {n : Nat} {dn df dt : Nat → Nat} {fn ff ft : Nat → Int32} (hn : n ≤ 20) (hd : q_dr n dn df dt fn ff ft) {l : Nat} (hl : l < n) {u w : Int} (hu : 0 ≤ u ∧ u ≤ 2000) (hw : 0 ≤ w ∧ w ≤ 2000) :
    ∀ fuel d, dn l - d < fuel → d ≤ dn l → m_Mo_passes_L72 (N l) (J u) (J w) fn ff ft fuel (N (q_one (∃ e, e < d ∧ q_dw dn df dt l u w e))) (N d) = some (N (q_one (∃ e, q_dw dn df dt l u w e))) := by
  obtain ⟨h1, h2, h3⟩ := hd l hl
  intro fuel
  induction fuel with
  | zero => intro d h; omega
  | succ m ih =>
    intro d hm hdn
    rw [m_Mo_passes_L72, gI_N (by omega) (by omega), N_nat (by omega), h1]
    by_cases c : dn l ≤ d
    · rw [if_pos ((N_le (by omega) (by omega)).mpr c)]
      congr 2
      exact q_one_c ⟨fun ⟨e, _, h⟩ => ⟨e, h⟩, fun ⟨e, h⟩ => ⟨e, by have := h.1; omega, h⟩⟩
    · obtain ⟨g1, g2, g3, g4⟩ := h3 d (by omega)
      obtain ⟨z, e1, e2, e3, e4, _⟩ := q_both (a := u) (b := w) (c := df (6 * l + d)) (d := dt (6 * l + d)) (by omega) (by omega) (by omega) (by omega)
      have i6 : 6 * N l + N d = N (6 * l + d) := by rw [N_lit 6, N_mul, N_add]
      have ev : (if N (q_one (∃ e, e < d ∧ q_dw dn df dt l u w e)) = 0 then gI (6 * N l + N d) 120 (gI (6 * N l + N d) 120 (bd1 (m_Mo_both (J u) (J w) (ff (6 * N l + N d).toNatClampNeg) (ft (6 * N l + N d).toNatClampNeg)) fun r27 => if r27 ≤ 0 then some (0 : Int32) else some 1)) else some 1) = some (N (q_one (∃ e, e < d + 1 ∧ q_dw dn df dt l u w e))) := by
        by_cases y : ∃ e, e < d ∧ q_dw dn df dt l u w e
        · rw [if_neg (fun q => (q_one0 _).mp q y), q_one_t (show ∃ e, e < d + 1 ∧ q_dw dn df dt l u w e from by obtain ⟨e, a, b⟩ := y; exact ⟨e, by omega, b⟩)]; rfl
        · have e1' : m_Mo_both (J u) (J w) (N (df (6 * l + d))) (N (dt (6 * l + d))) = some (J z) := e1
          rw [if_pos ((q_one0 _).mpr y), i6, gI_N (by omega) (by omega), gI_N (by omega) (by omega), N_nat (by omega), g1, g2, e1', bd1_i rfl, show (0 : Int32) = J 0 from rfl]
          by_cases x : q_dw dn df dt l u w d
          · rw [if_neg (fun q => by have := (J_le (by omega) (by omega) (by omega) (by omega)).mp q; have := e4.mpr (by unfold q_dw at x; omega); omega), q_one_t (show ∃ e, e < d + 1 ∧ q_dw dn df dt l u w e from ⟨d, by omega, x⟩)]; rfl
          · rw [if_pos ((J_le (by omega) (by omega) (by omega) (by omega)).mpr (by
              refine Classical.byContradiction (fun q => x ?_)
              have := e4.mp (by omega)
              unfold q_dw; omega)), q_one_f (show ¬ ∃ e, e < d + 1 ∧ q_dw dn df dt l u w e from fun ⟨e, a, b⟩ => by
              by_cases ee : e = d
              · subst ee; exact x b
              · exact y ⟨e, by omega, b⟩)]; rfl
      rw [if_neg (fun q => c ((N_le (by omega) (by omega)).mp q)), ev, bd1_i rfl, lt_e, N_lit 1, N_add]
      exact ih (d + 1) (by omega) (by omega)
def q_Np (A B : Nat → Nat) (op : Nat → Prop) (R : Nat → Prop) (p v : Nat) : Prop := ∃ p', p' < p ∧ op p' ∧ ∃ u, R u ∧ ((u = A p' ∧ v = B p') ∨ (u = B p' ∧ v = A p'))
/-! The reference's layers. -/
def q_ly (K : Nat) (A B : Nat → Nat) (op : Nat → Prop) (s so p : Nat) (g : Nat → Int) : Prop := ∀ v, (q_W (q_adj K A B op) s so v → ∃ d : Nat, d ≤ so ∧ q_di (q_adj K A B op) s v d ∧ g v = d) ∧ (¬ q_W (q_adj K A B op) s so v → (q_Np A B op (q_W (q_adj K A B op) s so) p v → g v = so + 1) ∧ (¬ q_Np A B op (q_W (q_adj K A B op) s so) p v → g v = -2))
noncomputable def q_stp2 (a b : Nat) (op : Prop) (so : Nat) (g : Nat → Int) : Nat → Int := fun v => @ite _ ((op ∧ g a = so ∧ g b = -2 ∧ v = b) ∨ (op ∧ g b = so ∧ g a = -2 ∧ v = a)) (Classical.propDecidable _) ((so : Int) + 1) (g v)
theorem q_ly_s {K : Nat} {A B : Nat → Nat} {op : Nat → Prop} {s so p : Nat} {g : Nat → Int} (hp : p < K) (h : q_ly K A B op s so p g) : q_ly K A B op s so (p + 1) (q_stp2 (A p) (B p) (op p) so g) := by
  -- what it means that g is so, and that it is -2
  have gso : ∀ v, g v = so → q_W (q_adj K A B op) s so v := by
    intro v e
    refine Classical.byContradiction (fun q => ?_)
    by_cases c : q_Np A B op (q_W (q_adj K A B op) s so) p v
    · have := ((h v).2 q).1 c; omega
    · have := ((h v).2 q).2 c; omega
  have g2 : ∀ v, g v = -2 → ¬ q_W (q_adj K A B op) s so v ∧ ¬ q_Np A B op (q_W (q_adj K A B op) s so) p v := by
    intro v e
    have a : ¬ q_W (q_adj K A B op) s so v := fun q => by obtain ⟨d, _, _, e2⟩ := (h v).1 q; omega
    exact ⟨a, fun q => by have := ((h v).2 a).1 q; omega⟩
  have far : ∀ u v, q_W (q_adj K A B op) s so u → ¬ q_W (q_adj K A B op) s so v → q_adj K A B op u v → g u = so := by
    intro u v hu hv ha
    obtain ⟨d, d1, d2, e⟩ := (h u).1 hu
    by_cases c : d = so
    · rw [e, c]
    · exact (hv (q_W_mono (k := d + 1) (by omega) (Or.inr ⟨u, d2.1, ha⟩))).elim
  intro v
  by_cases fire : (op p ∧ g (A p) = so ∧ g (B p) = -2 ∧ v = B p) ∨ (op p ∧ g (B p) = so ∧ g (A p) = -2 ∧ v = A p)
  · have e : q_stp2 (A p) (B p) (op p) so g v = so + 1 := if_pos fire
    have hv : g v = -2 := by
      rcases fire with ⟨_, _, x, y⟩ | ⟨_, _, x, y⟩
      · rw [y]; exact x
      · rw [y]; exact x
    have nv := g2 v hv
    refine ⟨fun q => (nv.1 q).elim, fun _ => ⟨fun _ => e, fun q => (q ?_).elim⟩⟩
    rcases fire with ⟨z, x, _, y⟩ | ⟨z, x, _, y⟩
    · exact ⟨p, by omega, z, A p, gso _ x, Or.inl ⟨rfl, y⟩⟩
    · exact ⟨p, by omega, z, B p, gso _ x, Or.inr ⟨rfl, y⟩⟩
  · have e : q_stp2 (A p) (B p) (op p) so g v = g v := if_neg fire
    rw [e]
    refine ⟨(h v).1, fun q => ⟨fun np => ?_, fun np => ((h v).2 q).2 (fun ⟨p', a, b⟩ => np ⟨p', by omega, b⟩)⟩⟩
    by_cases c : q_Np A B op (q_W (q_adj K A B op) s so) p v
    · exact ((h v).2 q).1 c
    · exfalso
      have gv := ((h v).2 q).2 c
      obtain ⟨p', a, b, u, hu, hab⟩ := np
      have ep : p' = p := by
        refine Classical.byContradiction (fun z => c ⟨p', by omega, b, u, hu, hab⟩)
      rw [ep] at b hab
      have gu := far u v hu q ⟨p, hp, b, hab⟩
      apply fire
      rcases hab with ⟨x, y⟩ | ⟨x, y⟩
      · exact Or.inl ⟨b, by rw [← x]; exact gu, by rw [← y]; exact gv, y⟩
      · exact Or.inr ⟨b, by rw [← x]; exact gu, by rw [← y]; exact gv, y⟩
theorem q_ly_0 {K : Nat} {A B : Nat → Nat} {op : Nat → Prop} {s so : Nat} {g : Nat → Int} (h : q_ly K A B op s so K g) : q_ly K A B op s (so + 1) 0 g ∧ ((∃ v, ¬ q_W (q_adj K A B op) s so v ∧ q_Np A B op (q_W (q_adj K A B op) s so) K v) ↔ ∃ v, q_W (q_adj K A B op) s (so + 1) v ∧ ¬ q_W (q_adj K A B op) s so v) := by
  have np : ∀ v, q_Np A B op (q_W (q_adj K A B op) s so) K v ↔ ∃ u, q_W (q_adj K A B op) s so u ∧ q_adj K A B op u v := by
    intro v
    constructor
    · intro ⟨p, a, b, u, hu, hab⟩; exact ⟨u, hu, p, a, b, hab⟩
    · intro ⟨u, hu, p, a, b, hab⟩; exact ⟨p, a, b, u, hu, hab⟩
  refine ⟨fun v => ⟨fun q => ?_, fun q => ⟨fun ⟨p, a, _⟩ => by omega, fun _ => ?_⟩⟩, ?_⟩
  · by_cases c : q_W (q_adj K A B op) s so v
    · obtain ⟨d, d1, d2, e⟩ := (h v).1 c
      exact ⟨d, by omega, d2, e⟩
    · have hu : ∃ u, q_W (q_adj K A B op) s so u ∧ q_adj K A B op u v := q.elim (fun z => (c z).elim) id
      refine ⟨so + 1, Nat.le_refl _, ⟨q, fun j hj z => c (q_W_mono (by omega) z)⟩, ?_⟩
      have := ((h v).2 c).1 ((np v).mpr hu)
      omega
  · have c : ¬ q_W (q_adj K A B op) s so v := fun z => q (Or.inl z)
    exact ((h v).2 c).2 (fun z => q (Or.inr ((np v).mp z)))
  · constructor
    · intro ⟨v, a, b⟩; exact ⟨v, Or.inr ((np v).mp b), a⟩
    · intro ⟨v, a, b⟩; exact ⟨v, b, (np v).mpr (a.elim (fun z => (b z).elim) id)⟩
theorem q_dvm {nx ny : Nat} (hx : nx ≤ 40) (hy : ny ≤ 40) (v : Nat × Nat) (v1 : v.1 < nx) (v2 : v.2 < ny) : N (q_nv v) / 42 = N v.1 ∧ N (q_nv v) - N (q_nv v) / 42 * 42 = N v.2 := by
  have e : N (q_nv v) / 42 = N v.1 := by show N (42 * v.1 + v.2) / 42 = _; rw [N_lit 42, N_div (by omega) (by omega)]; congr 1; omega
  refine ⟨e, ?_⟩
  rw [e]; show N (42 * v.1 + v.2) - N v.1 * 42 = _; rw [N_lit 42, N_mul, N_sub (by omega)]; congr 1; omega
theorem q_passes {n : Nat} {T I : Sto} {nx ny : Nat} {X Y : Nat → Nat} {F : Ce → Int} {ns : Nat} {dn df dt : Nat → Nat} {fn ff ft fx fy fI fA fL fH pl pb pe pf pr fa : Nat → Int32} (hok : q_ok n T) (hg : q_gi n I nx ny) (hi : q_ix n T I X Y) (hr : q_gr nx ny X Y fx fy) (hF : q_labs n I nx ny F ns) (hrl : q_rl n T fI fA fL fH) (hd : q_dr n dn df dt fn ff ft) (hc : q_rp I F (q_NP n I) (q_PP n I) pl pb pe pf pr)
    {p so : Nat} {g : Nat → Int} (hp : p < q_NP n I) (hso : so ≤ 200) (hfa : ∀ v, v < ns + 1 → fa v = J (g v) ∧ -2 ≤ g v ∧ g v ≤ 300) :
    ∃ fa', m_Mo_passes (N p) (N so) fI fL fn ff ft fx fy pl pb pe pf pr fa = some (N (q_one (q_op T I (q_PP n I) X Y dn df dt p ∧ ((g (q_vA I (q_PP n I) F p) = so ∧ g (q_vB I (q_PP n I) F p) = -2) ∨ (g (q_vB I (q_PP n I) F p) = so ∧ g (q_vA I (q_PP n I) F p) = -2)))), fa') ∧
      ∀ v, v < ns + 1 → fa' v = J (q_stp2 (q_vA I (q_PP n I) F p) (q_vB I (q_PP n I) F p) (q_op T I (q_PP n I) X Y dn df dt p) so g v) ∧ -2 ≤ q_stp2 (q_vA I (q_PP n I) F p) (q_vB I (q_PP n I) F p) (q_op T I (q_PP n I) X Y dn df dt p) so g v ∧ q_stp2 (q_vA I (q_PP n I) F p) (q_vB I (q_PP n I) F p) (q_op T I (q_PP n I) X Y dn df dt p) so g v ≤ 300 := by
  have h220 := q_NP_220 hg
  have h81 := q_ns_81 hg hF
  have hn := hg.1
  have hx := hg.2.1
  have hy := hg.2.2.1
  obtain ⟨rx, iX, bX, ry, iY, bY⟩ := hr
  have hr' : q_gr nx ny X Y fx fy := ⟨rx, iX, bX, ry, iY, bY⟩
  obtain ⟨c1, c2, c3, c4, c5⟩ := hc p hp
  obtain ⟨l1, l2⟩ := q_Rlr hg hF hc hp
  obtain ⟨a1, a2, a3, a4, _⟩ := q_pcA hg hp
  have hin := q_nd_in hg a1 (k := (q_PP n I p).2.1) (by omega)
  obtain ⟨dv1, dv2⟩ := q_dvm hx hy _ hin.1 hin.2
  obtain ⟨e1, e2, e3, e4⟩ := hi _ a1
  have hln := hg.2.2.2.1 _ a1
  have fT : (yl T (q_PP n I p).1 = yh T (q_PP n I p).1) ↔ (yl I (q_PP n I p).1 = yh I (q_PP n I p).1) := by rw [e2, e4, iY.eq_iff (by omega) (by omega)]
  obtain ⟨r1, r2, r3, r4⟩ := q_rl_g hrl a1
  have bu := q_u_bd hok hg hi iX iY bX bY hp
  have bl := q_len_p hg iX iY bX bY hp
  obtain ⟨va, vb, ea, eb⟩ := q_v_lt hg hF hp
  generalize hA : q_vA I (q_PP n I) F p = a at *
  generalize hB : q_vB I (q_PP n I) F p = b at *
  obtain ⟨fA, gA1, gA2⟩ := hfa a va
  obtain ⟨fB, gB1, gB2⟩ := hfa b vb
  have dr : m_Mo_passes_L72 (N (q_PP n I p).1) (J (q_u T I (q_PP n I) X Y p)) (J (q_u T I (q_PP n I) X Y p + q_len I (q_PP n I) X Y p)) fn ff ft fu (N 0) (N 0) = some (N (q_one (q_op T I (q_PP n I) X Y dn df dt p))) := by
    have := q_Rdoor_L hn hd a1 (u := q_u T I (q_PP n I) X Y p) (w := q_u T I (q_PP n I) X Y p + q_len I (q_PP n I) X Y p) (by omega) (by omega) fu 0 (by have := (hd _ a1).2.1; unfold fu; omega) (by omega)
    rw [q_one_f (show ¬ ∃ e, e < 0 ∧ q_dw dn df dt (q_PP n I p).1 (q_u T I (q_PP n I) X Y p) (q_u T I (q_PP n I) X Y p + q_len I (q_PP n I) X Y p) e from fun ⟨e, h, _⟩ => by omega)] at this
    exact this
  have e7 : (if fI (q_PP n I p).1 = 0 then gI (N p) 900 (gI (pb p - pb p / 42 * 42) 42 (some (fy (pb p - pb p / 42 * 42).toNatClampNeg))) else gI (N p) 900 (gI (pb p / 42) 42 (some (fx (pb p / 42).toNatClampNeg)))) = some (J (q_u T I (q_PP n I) X Y p + q_lo T (q_PP n I p).1)) := by
    rw [c2, dv2, dv1, gI_N (by omega) (by omega), gI_N (by omega) (by omega), gI_N (by omega) (by omega), gI_N (by omega) (by omega), N_nat (by omega), N_nat (by omega), rx _ hin.1, ry _ hin.2, r1]
    by_cases f : yl I (q_PP n I p).1 = yh I (q_PP n I p).1
    · rw [if_pos (fT.mpr f), if_neg (by decide), bu.2.2.1 f, N_J]; congr 2; omega
    · rw [if_neg (fun q => f (fT.mp q)), if_pos rfl, bu.2.2.2 f, N_J]; congr 2; omega
  generalize hop : q_op T I (q_PP n I) X Y dn df dt p = op at *
  -- the two tests
  have js : ∀ z : Int, -2 ≤ z → z ≤ 300 → ((J z = N so) ↔ z = so) := fun z h1 h2 => by rw [N_J, J_eq (by omega) (by omega) (by omega) (by omega)]
  have j2 : ∀ z : Int, -2 ≤ z → z ≤ 300 → ((J z = (-2 : Int32)) ↔ z = -2) := fun z h1 h2 => by rw [show (-2 : Int32) = J (-2) from rfl, J_eq (by omega) (by omega) (by omega) (by omega)]
  have ga : ∀ x : Option Int32, gI (N a) 201 x = x := fun x => gI_N (by omega) (by omega)
  have gb : ∀ x : Option Int32, gI (N b) 201 x = x := fun x => gI_N (by omega) (by omega)
  have test : ∀ (x y : Int), -2 ≤ x → x ≤ 300 → -2 ≤ y → y ≤ 300 → (if N (q_one op) = 0 then some (0 : Int32) else if J x = N so then if J y = (-2) then some 1 else some 0 else some 0) = some (N (q_one (op ∧ x = so ∧ y = -2))) := by
    intro x y h1 h2 h3 h4
    by_cases z : op
    · rw [if_neg (fun q => (q_one0 _).mp q z)]
      by_cases z1 : x = so
      · rw [if_pos ((js x h1 h2).mpr z1)]
        by_cases z2 : y = -2
        · rw [if_pos ((j2 y h3 h4).mpr z2), q_one_t ⟨z, z1, z2⟩]; rfl
        · rw [if_neg (fun q => z2 ((j2 y h3 h4).mp q)), q_one_f (fun q => z2 q.2.2)]; rfl
      · rw [if_neg (fun q => z1 ((js x h1 h2).mp q)), q_one_f (fun q => z1 q.2.1)]; rfl
    · rw [if_pos ((q_one0 _).mpr z), q_one_f (fun q => z q.1)]; rfl
  have t1 := test (g a) (g b) gA1 gA2 gB1 gB2
  have t2 := test (g b) (g a) gB1 gB2 gA1 gA2
  have nboth : ¬ ((op ∧ g a = so ∧ g b = -2) ∧ (op ∧ g b = so ∧ g a = -2)) := fun q => by have := q.1.2.1; have := q.2.2.2; omega
  -- what far becomes
  refine ⟨upd (upd fa b (if N (q_one (op ∧ g a = so ∧ g b = -2)) = 0 then fa b else N so + 1)) a (if N (q_one (op ∧ g b = so ∧ g a = -2)) = 0 then upd fa b (if N (q_one (op ∧ g a = so ∧ g b = -2)) = 0 then fa b else N so + 1) a else N so + 1), ?_, ?_⟩
  · unfold m_Mo_passes
    rw [gI_N (by omega) (by omega), N_nat (by omega), c1, lt_e, gI_N (by omega) (by omega), N_nat (by omega), e7, bd1_i rfl, gI_N (by omega) (by omega), r3, lt_e, N_J (q_lo T _), J_sub, show q_u T I (q_PP n I) X Y p + (q_lo T (q_PP n I p).1 : Int) - q_lo T (q_PP n I p).1 = q_u T I (q_PP n I) X Y p by omega, q_Rlen hg hr' hc hp, bd1_i rfl, lt_e, J_add, show (0 : Int32) = N 0 from rfl, dr, bd1_i rfl, gI_N (by omega) (by omega), lt_e, l1, ea, gI_N (by omega) (by omega), lt_e, l2, eb, N_nat (by omega), N_nat (by omega), ga, gb, fA, fB, ga, gb, show N 0 = (0 : Int32) from rfl, t1, bd1_i rfl, t2, bd1_i rfl]
    have e61 : (if N (q_one (op ∧ g a = so ∧ g b = -2)) = 0 then gI (N b) 201 (some (J (g b))) else some (N so + 1)) = some (if N (q_one (op ∧ g a = so ∧ g b = -2)) = 0 then J (g b) else N so + 1) := by
      rw [gb]; split <;> rfl
    rw [e61, bd1_i rfl, gI_N (by omega) (by omega), lt_e]
    have e69 : (if N (q_one (op ∧ g b = so ∧ g a = -2)) = 0 then gI (N a) 201 (some (upd fa b (if N (q_one (op ∧ g a = so ∧ g b = -2)) = 0 then J (g b) else N so + 1) a)) else some (N so + 1)) = some (if N (q_one (op ∧ g b = so ∧ g a = -2)) = 0 then upd fa b (if N (q_one (op ∧ g a = so ∧ g b = -2)) = 0 then J (g b) else N so + 1) a else N so + 1) := by
      rw [ga]; split <;> rfl
    rw [e69, bd1_i rfl, gI_N (by omega) (by omega), lt_e]
    have e77 : (if N (q_one (op ∧ g a = so ∧ g b = -2)) = 0 then if N (q_one (op ∧ g b = so ∧ g a = -2)) = 0 then some (0 : Int32) else some 1 else some 1) = some (N (q_one (op ∧ ((g a = so ∧ g b = -2) ∨ (g b = so ∧ g a = -2))))) := by
      by_cases z1 : op ∧ g a = so ∧ g b = -2
      · rw [if_neg (fun q => (q_one0 _).mp q z1), q_one_t ⟨z1.1, Or.inl z1.2⟩]; rfl
      · rw [if_pos ((q_one0 _).mpr z1)]
        by_cases z2 : op ∧ g b = so ∧ g a = -2
        · rw [if_neg (fun q => (q_one0 _).mp q z2), q_one_t ⟨z2.1, Or.inr z2.2⟩]; rfl
        · rw [if_pos ((q_one0 _).mpr z2), q_one_f (fun q => q.2.elim (fun x => z1 ⟨q.1, x⟩) (fun x => z2 ⟨q.1, x⟩))]; rfl
    rw [e77, bd1_i rfl, gB_o]
  · intro v hv
    obtain ⟨fV, gV1, gV2⟩ := hfa v hv
    have es1 : N so + 1 = J ((so : Int) + 1) := by rw [show (1 : Int32) = J 1 from rfl, N_J, J_add]
    by_cases fire : (op ∧ g a = so ∧ g b = -2 ∧ v = b) ∨ (op ∧ g b = so ∧ g a = -2 ∧ v = a)
    · have e : q_stp2 a b op so g v = so + 1 := if_pos fire
      rw [e]
      refine ⟨?_, by omega, by omega⟩
      rcases fire with ⟨z, x, y, w⟩ | ⟨z, x, y, w⟩
      · have nab : ¬ b = a := fun q => by rw [q] at y; omega
        rw [w, upd_n _ _ nab, upd_s, if_neg (fun q => (q_one0 _).mp q ⟨z, x, y⟩), es1]
      · rw [w, upd_s, if_neg (fun q => (q_one0 _).mp q ⟨z, x, y⟩), es1]
    · have e : q_stp2 a b op so g v = g v := if_neg fire
      rw [e]
      refine ⟨?_, gV1, gV2⟩
      have inner : upd fa b (if N (q_one (op ∧ g a = so ∧ g b = -2)) = 0 then fa b else N so + 1) v = J (g v) := by
        by_cases vb' : v = b
        · rw [vb', upd_s, if_pos ((q_one0 _).mpr (fun q => fire (Or.inl ⟨q.1, q.2.1, q.2.2, vb'⟩))), fB]
        · rw [upd_n _ _ vb', fV]
      by_cases va' : v = a
      · rw [va'] at inner ⊢
        rw [upd_s, if_pos ((q_one0 _).mpr (fun q => fire (Or.inr ⟨q.1, q.2.1, q.2.2, va'⟩))), inner]
      · rw [upd_n _ _ va', inner]
theorem q_Rlay_L {n : Nat} {T I : Sto} {nx ny : Nat} {X Y : Nat → Nat} {F : Ce → Int} {ns : Nat} {dn df dt : Nat → Nat} {fn ff ft fx fy fI fA fL fH pl pb pe pf pr : Nat → Int32} (hok : q_ok n T) (hg : q_gi n I nx ny) (hi : q_ix n T I X Y) (hr : q_gr nx ny X Y fx fy) (hF : q_labs n I nx ny F ns) (hrl : q_rl n T fI fA fL fH) (hd : q_dr n dn df dt fn ff ft) (hc : q_rp I F (q_NP n I) (q_PP n I) pl pb pe pf pr) {s so : Nat} (hso : so ≤ 200) :
    ∀ fuel p (mo : Prop) fa g, q_NP n I - p < fuel → p ≤ q_NP n I → (∀ v, v < ns + 1 → fa v = J (g v) ∧ -2 ≤ g v ∧ g v ≤ 300) → q_ly (q_NP n I) (q_vA I (q_PP n I) F) (q_vB I (q_PP n I) F) (q_op T I (q_PP n I) X Y dn df dt) s so p g →
    (mo ↔ ∃ v, ¬ q_W (q_ad n T I F X Y dn df dt) s so v ∧ q_Np (q_vA I (q_PP n I) F) (q_vB I (q_PP n I) F) (q_op T I (q_PP n I) X Y dn df dt) (q_W (q_ad n T I F X Y dn df dt) s so) p v) →
    ∃ (mo' : Prop) (fa' : Nat → Int32) (g' : Nat → Int), m_Mo_way_L88 (N so) (N (q_NP n I)) fI fL fn ff ft fx fy pl pb pe pf pr fuel (N (q_one mo)) (N p) fa = some (N (q_one mo'), fa') ∧ (∀ v, v < ns + 1 → fa' v = J (g' v) ∧ -2 ≤ g' v ∧ g' v ≤ 300) ∧ q_ly (q_NP n I) (q_vA I (q_PP n I) F) (q_vB I (q_PP n I) F) (q_op T I (q_PP n I) X Y dn df dt) s so (q_NP n I) g' ∧
      (mo' ↔ ∃ v, ¬ q_W (q_ad n T I F X Y dn df dt) s so v ∧ q_Np (q_vA I (q_PP n I) F) (q_vB I (q_PP n I) F) (q_op T I (q_PP n I) X Y dn df dt) (q_W (q_ad n T I F X Y dn df dt) s so) (q_NP n I) v) := by
  have h220 := q_NP_220 hg
  intro fuel
  induction fuel with
  | zero => intro p mo fa g h; omega
  | succ m ih =>
    intro p mo fa g hm hp hfa hly hmo
    rw [m_Mo_way_L88]
    by_cases c : q_NP n I ≤ p
    · rw [if_pos ((N_le (by omega) (by omega)).mpr c)]
      have e : p = q_NP n I := by omega
      subst e
      exact ⟨mo, fa, g, rfl, hfa, hly, hmo⟩
    · have hlt : p < q_NP n I := by omega
      obtain ⟨fa1, e1, f1⟩ := q_passes hok hg hi hr hF hrl hd hc hlt hso hfa
      have hly' := q_ly_s hlt hly
      unfold q_ad at ih hmo ⊢
      generalize hA : q_vA I (q_PP n I) F = A at *
      generalize hB : q_vB I (q_PP n I) F = B at *
      generalize hop : q_op T I (q_PP n I) X Y dn df dt = op at *
      have hmo' : (mo ∨ (op p ∧ ((g (A p) = so ∧ g (B p) = -2) ∨ (g (B p) = so ∧ g (A p) = -2)))) ↔ ∃ v, ¬ q_W (q_adj (q_NP n I) A B op) s so v ∧ q_Np A B op (q_W (q_adj (q_NP n I) A B op) s so) (p + 1) v := by
        have gso : ∀ v, g v = so → q_W (q_adj (q_NP n I) A B op) s so v := by
          intro v e
          refine Classical.byContradiction (fun q => ?_)
          by_cases c : q_Np A B op (q_W (q_adj (q_NP n I) A B op) s so) p v
          · have := ((hly v).2 q).1 c; omega
          · have := ((hly v).2 q).2 c; omega
        have g2 : ∀ v, g v = -2 → ¬ q_W (q_adj (q_NP n I) A B op) s so v := by
          intro v e q
          obtain ⟨d, _, _, e2⟩ := (hly v).1 q
          omega
        constructor
        · intro q
          rcases q with q | ⟨z, ⟨x, y⟩ | ⟨x, y⟩⟩
          · obtain ⟨v, a, p', b, b'⟩ := hmo.mp q
            exact ⟨v, a, p', by omega, b'⟩
          · exact ⟨B p, g2 _ y, p, by omega, z, A p, gso _ x, Or.inl ⟨rfl, rfl⟩⟩
          · exact ⟨A p, g2 _ y, p, by omega, z, B p, gso _ x, Or.inr ⟨rfl, rfl⟩⟩
        · intro ⟨v, a, np⟩
          by_cases old : q_Np A B op (q_W (q_adj (q_NP n I) A B op) s so) p v
          · exact Or.inl (hmo.mpr ⟨v, a, old⟩)
          · right
            have gv := ((hly v).2 a).2 old
            obtain ⟨p', b, z, u, hu, hab⟩ := np
            have ep : p' = p := Classical.byContradiction (fun q => old ⟨p', by omega, z, u, hu, hab⟩)
            rw [ep] at z hab
            have gu : g u = so := by
              obtain ⟨d, d1, d2, e⟩ := (hly u).1 hu
              by_cases c : d = so
              · rw [e, c]
              · exact (a (q_W_mono (k := d + 1) (by omega) (Or.inr ⟨u, d2.1, p, hlt, z, hab⟩))).elim
            rcases hab with ⟨x, y⟩ | ⟨x, y⟩
            · exact ⟨z, Or.inl ⟨by rw [← x]; exact gu, by rw [← y]; exact gv⟩⟩
            · exact ⟨z, Or.inr ⟨by rw [← x]; exact gu, by rw [← y]; exact gv⟩⟩
      obtain ⟨mo2, fa2, g2, e2, r1, r2, r3⟩ := ih (p + 1) _ fa1 _ (by omega) (by omega) f1 hly' hmo'
      refine ⟨mo2, fa2, g2, ?_, r1, r2, r3⟩
      have e38 : (if N (q_one mo) = 0 then if N (q_one (op p ∧ ((g (A p) = so ∧ g (B p) = -2) ∨ (g (B p) = so ∧ g (A p) = -2)))) = 0 then some (0 : Int32) else some 1 else some 1) = some (N (q_one (mo ∨ (op p ∧ ((g (A p) = so ∧ g (B p) = -2) ∨ (g (B p) = so ∧ g (A p) = -2)))))) := by
        by_cases z1 : mo
        · rw [if_neg (fun q => (q_one0 _).mp q z1), q_one_t (Or.inl z1)]; rfl
        · rw [if_pos ((q_one0 _).mpr z1)]
          by_cases z2 : op p ∧ ((g (A p) = so ∧ g (B p) = -2) ∨ (g (B p) = so ∧ g (A p) = -2))
          · rw [if_neg (fun q => (q_one0 _).mp q z2), q_one_t (Or.inr z2)]; rfl
          · rw [if_pos ((q_one0 _).mpr z2), q_one_f (fun q => q.elim z1 z2)]; rfl
      rw [if_neg (fun q => c ((N_le (by omega) (by omega)).mp q)), bd2_i e1, e38, bd1_i rfl, lt_e, N_lit 1, N_add]
      exact e2
theorem q_Rlays_L {n : Nat} {T I : Sto} {nx ny : Nat} {X Y : Nat → Nat} {F : Ce → Int} {ns : Nat} {dn df dt : Nat → Nat} {fn ff ft fx fy fI fA fL fH pl pb pe pf pr : Nat → Int32} (hok : q_ok n T) (hg : q_gi n I nx ny) (hi : q_ix n T I X Y) (hr : q_gr nx ny X Y fx fy) (hF : q_labs n I nx ny F ns) (hrl : q_rl n T fI fA fL fH) (hd : q_dr n dn df dt fn ff ft) (hc : q_rp I F (q_NP n I) (q_PP n I) pl pb pe pf pr) {s : Nat} (hs : s < ns + 1) :
    ∀ fuel so (mo : Prop) fa g, ns + 2 - so < fuel → so ≤ ns + 1 → (∀ v, v < ns + 1 → fa v = J (g v) ∧ -2 ≤ g v ∧ g v ≤ 300) → q_ly (q_NP n I) (q_vA I (q_PP n I) F) (q_vB I (q_PP n I) F) (q_op T I (q_PP n I) X Y dn df dt) s so 0 g →
    (mo → so + 1 ≤ q_cnt (q_W (q_ad n T I F X Y dn df dt) s so) (ns + 1)) → (¬ mo → ∀ k v, q_W (q_ad n T I F X Y dn df dt) s k v → q_W (q_ad n T I F X Y dn df dt) s so v) →
    ∃ so' fa' g', m_Mo_way_L77 (N (q_NP n I)) fI fL fn ff ft fx fy pl pb pe pf pr fuel (N so) (N (q_one mo)) fa = some fa' ∧ (∀ v, v < ns + 1 → fa' v = J (g' v)) ∧ q_ly (q_NP n I) (q_vA I (q_PP n I) F) (q_vB I (q_PP n I) F) (q_op T I (q_PP n I) X Y dn df dt) s so' 0 g' ∧ ∀ k v, q_W (q_ad n T I F X Y dn df dt) s k v → q_W (q_ad n T I F X Y dn df dt) s so' v := by
  have h220 := q_NP_220 hg
  have h81 := q_ns_81 hg hF
  have hlt : ∀ u v, q_ad n T I F X Y dn df dt u v → v < ns + 1 := by
    intro u v ⟨p, hp1, _, h⟩
    have := q_v_lt hg hF hp1
    rcases h with h | h
    · rw [h.2]; exact this.2.1
    · rw [h.2]; exact this.1
  intro fuel
  induction fuel with
  | zero => intro so mo fa g h; omega
  | succ m ih =>
    intro so mo fa g hm hso hfa hly h1 h2
    rw [m_Mo_way_L77]
    by_cases z : mo
    · have hcnt := h1 z
      have hle := q_cnt_le (q_W (q_ad n T I F X Y dn df dt) s so) (ns + 1)
      rw [if_neg (fun q => (q_one0 _).mp q z)]
      obtain ⟨mo', fa1, g1, e1, r1, r2, r3⟩ := q_Rlay_L (fI := fI) (fA := fA) (fL := fL) (fH := fH) (pl := pl) hok hg hi hr hF hrl hd hc (s := s) (so := so) (by omega) fu 0 False fa g (by unfold fu; omega) (by omega) hfa hly ⟨fun q => q.elim, fun ⟨v, _, p, h, _⟩ => by omega⟩
      obtain ⟨k1, k2⟩ := q_ly_0 r2
      obtain ⟨so2, fa2, g2, e2, x1, x2, x3⟩ := ih (so + 1) mo' fa1 g1 (by omega) (by omega) r1 k1 (fun q => by
          obtain ⟨v, a, b⟩ := k2.mp (r3.mp q)
          have := q_cnt_lt (p := q_W (q_ad n T I F X Y dn df dt) s so) (p' := q_W (q_ad n T I F X Y dn df dt) s (so + 1)) (k := v) (m := ns + 1) (fun i _ y => Or.inl y) (q_W_lt hs hlt a) a b
          omega) (fun q => by
          intro k v hk
          refine q_W_mono (by omega) (q_W_stable (k := so) (fun w hw => ?_) k v hk)
          exact Classical.byContradiction (fun y => q (r3.mpr (k2.mpr ⟨w, hw, y⟩))))
      refine ⟨so2, fa2, g2, ?_, x1, x2, x3⟩
      rw [q_one_f (fun q => q)] at e1
      rw [show (0 : Int32) = N 0 from rfl, bd2_i e1, lt_e, N_lit 1, N_add]
      exact e2
    · rw [if_pos ((q_one0 _).mpr z)]
      exact ⟨so, fa, g, rfl, fun v hv => (hfa v hv).1, hly, h2 z⟩
theorem q_Rfar_L {ns a : Nat} (hns : ns ≤ 81) (ha : a ≤ ns) : ∀ fuel k (f : Nat → Int32), ns + 1 - k < fuel → k ≤ ns + 1 → m_Mo_way_L39 (J ((a : Int) - 1)) (N ns) fuel (N k) f = some (fun j => if k ≤ j ∧ j < ns + 1 then (if j = a then N 0 else J (-2)) else f j) := by
  have e0 : J ((a : Int) - 1) + 1 = N a := by rw [show (1 : Int32) = J 1 from rfl, J_add, N_J]; congr 1; omega
  intro fuel
  induction fuel with
  | zero => intro k f h; omega
  | succ m ih =>
    intro k f h hk
    rw [m_Mo_way_L39]
    by_cases c : ns < k
    · rw [if_pos ((N_lt (by omega) (by omega)).mpr c)]
      congr 1; funext j; rw [if_neg (by omega)]
    · have ev : (if N k = J ((a : Int) - 1) + 1 then some (0 : Int32) else some (-2)) = some (if k = a then N 0 else J (-2)) := by
        rw [e0]
        by_cases z : k = a
        · rw [if_pos (by rw [z]), if_pos z]; rfl
        · rw [if_neg (fun q => z ((N_eq (by omega) (by omega)).mp q)), if_neg z]; rfl
      rw [if_neg (fun q => c ((N_lt (by omega) (by omega)).mp q)), ev, bd1_i rfl, gI_N (by omega) (by omega), lt_e, lt_e, N_nat (by omega), N_lit 1, N_add, ih _ _ (by omega) (by omega)]
      congr 1; funext j
      by_cases e : j = k
      · subst e; rw [if_neg (show ¬ (j + 1 ≤ j ∧ j < ns + 1) by omega), if_pos (show j ≤ j ∧ j < ns + 1 by omega), upd_s]
      · rw [upd_n _ _ e]
        by_cases c2 : k ≤ j ∧ j < ns + 1
        · rw [if_pos c2, if_pos (show k + 1 ≤ j ∧ j < ns + 1 by omega)]
        · rw [if_neg c2, if_neg (show ¬ (k + 1 ≤ j ∧ j < ns + 1) by omega)]
theorem q_Rway {n : Nat} {T I : Sto} {nx ny : Nat} {X Y : Nat → Nat} {F : Ce → Int} {ns : Nat} {dn df dt : Nat → Nat} {fn ff ft fx fy fI fA fL fH pl pb pe pf pr : Nat → Int32} (hok : q_ok n T) (hg : q_gi n I nx ny) (hi : q_ix n T I X Y) (hr : q_gr nx ny X Y fx fy) (hF : q_labs n I nx ny F ns) (hrl : q_rl n T fI fA fL fH) (hd : q_dr n dn df dt fn ff ft) (hc : q_rp I F (q_NP n I) (q_PP n I) pl pb pe pf pr) {a b : Nat} (ha : a ≤ ns) (hb : b ≤ ns) (fa : Nat → Int32) :
    ∃ fa1 fa2, m_Mo_way_L39 (J ((a : Int) - 1)) (N ns) fu (N 0) fa = some fa1 ∧ m_Mo_way_L77 (N (q_NP n I)) fI fL fn ff ft fx fy pl pb pe pf pr fu (N 0) (N 1) fa1 = some fa2 ∧ ((∃ d, q_di (q_ad n T I F X Y dn df dt) a b d ∧ fa2 b = N d) ∨ ((∀ k, ¬ q_W (q_ad n T I F X Y dn df dt) a k b) ∧ fa2 b = J (-2))) := by
  have h81 := q_ns_81 hg hF
  have e1 := q_Rfar_L h81 ha fu 0 fa (by unfold fu; omega) (by omega)
  obtain ⟨so, fa2, g, e2, x1, x2, x3⟩ := q_Rlays_L (fI := fI) (fA := fA) (fL := fL) (fH := fH) (pl := pl) hok hg hi hr hF hrl hd hc (s := a) (by omega) fu 0 True (fun j => if 0 ≤ j ∧ j < ns + 1 then (if j = a then N 0 else J (-2)) else fa j) (fun v => if v = a then 0 else -2) (by unfold fu; omega) (by omega) (fun v hv => by
      rw [if_pos (show 0 ≤ v ∧ v < ns + 1 by omega)]
      by_cases z : v = a
      · rw [if_pos z, if_pos z]; exact ⟨rfl, by omega, by omega⟩
      · rw [if_neg z, if_neg z]; exact ⟨rfl, by omega, by omega⟩) (fun v => ⟨fun q => ⟨0, Nat.le_refl _, ⟨q, fun j h => by omega⟩, by dsimp only; rw [if_pos (show v = a from q)]; rfl⟩, fun q => ⟨fun ⟨p, h, _⟩ => by omega, fun _ => by dsimp only; rw [if_neg (show ¬ v = a from q)]⟩⟩)
    (fun _ => q_cnt_pos (p := q_W (q_ad n T I F X Y dn df dt) a 0) (k := a) (by omega) rfl) (fun q => (q trivial).elim)
  rw [q_one_t trivial] at e2
  refine ⟨_, fa2, e1, e2, ?_⟩
  by_cases w : q_W (q_ad n T I F X Y dn df dt) a so b
  · obtain ⟨d, d1, d2, e⟩ := (x2 b).1 w
    left
    exact ⟨d, d2, by rw [x1 b (by omega), e]; rfl⟩
  · right
    refine ⟨fun k hk => w (x3 k b hk), ?_⟩
    rw [x1 b (by omega), ((x2 b).2 w).2 (fun ⟨p, h, _⟩ => by omega)]
