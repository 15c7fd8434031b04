def K (z : Int) : Int64 := Int64.ofInt z
theorem K_toInt {z : Int} (h : -9223372036854775808 ≤ z) (h' : z < 9223372036854775808) : (K z).toInt = z := by
  unfold K
  rw [Int64.toInt_ofInt_of_le (by simpa using h) (by simpa using h')]
theorem K_lt {a b : Int} (h1 : -9223372036854775808 ≤ a) (h2 : a < 9223372036854775808) (h3 : -9223372036854775808 ≤ b) (h4 : b < 9223372036854775808) : (K a < K b) ↔ a < b := by
  rw [Int64.lt_iff_toInt_lt, K_toInt h1 h2, K_toInt h3 h4]
theorem K_eq {a b : Int} (h1 : -9223372036854775808 ≤ a) (h2 : a < 9223372036854775808) (h3 : -9223372036854775808 ≤ b) (h4 : b < 9223372036854775808) : (K a = K b) ↔ a = b := by
  rw [← Int64.toInt_inj, K_toInt h1 h2, K_toInt h3 h4]
theorem J_K {a : Int} (h1 : -2147483648 ≤ a) (h2 : a < 2147483648) : (J a).toInt64 = K a := by
  rw [← Int64.toInt_inj, Int32.toInt_toInt64, J_toInt h1 h2, K_toInt (by omega) (by omega)]
theorem N_K {a : Nat} (h2 : a < 2147483648) : (N a).toInt64 = K a := J_K (by omega) (by omega)
theorem K_add (a b : Int) : K a + K b = K (a + b) := by unfold K; rw [Int64.ofInt_add]
theorem K_lit (n : Nat) : (no_index (OfNat.ofNat n) : Int64) = K n := by
  show Int64.ofNat n = Int64.ofInt n
  rw [Int64.ofInt_eq_ofNat]
theorem q_cmp {a b : Int} (h1 : -9223372036854775808 ≤ a) (h2 : a < 9223372036854775808) (h3 : -9223372036854775808 ≤ b) (h4 : b < 9223372036854775808) : lg_cmp (K a) (K b) = if b < a then 1 else if a = b then 0 else -1 := by
  unfold lg_cmp
  by_cases c : b < a
  · rw [if_pos ((K_lt h3 h4 h1 h2).mpr c), if_pos c]
  · rw [if_neg (fun q => c ((K_lt h3 h4 h1 h2).mp q)), if_neg c]
    by_cases e : a = b
    · rw [if_pos ((K_eq h1 h2 h3 h4).mpr e), if_pos e]
    · rw [if_neg (fun q => e ((K_eq h1 h2 h3 h4).mp q)), if_neg e]
theorem q_isIn {a b c : Int} (h1 : -9223372036854775808 ≤ a) (h2 : a < 9223372036854775808) (h3 : -9223372036854775808 ≤ b) (h4 : b < 9223372036854775808) (h5 : -9223372036854775808 ≤ c) (h6 : c < 9223372036854775808) :
    m_Mo_isIn (K a) (K b) (K c) = some (if b ≤ a ∧ a ≤ c then 1 else 0) := by
  unfold m_Mo_isIn
  rw [q_cmp h1 h2 h3 h4, q_cmp h1 h2 h5 h6]
  by_cases x1 : a < b
  · rw [if_neg (show ¬ b < a by omega), if_neg (show ¬ a = b by omega), if_pos (show (-1 : Int32) < 0 by decide), bd1_i rfl, gB_0, if_neg (by omega)]
  · have e0 : ¬ ((if b < a then (1 : Int32) else if a = b then 0 else -1) < 0) := by
      by_cases q : b < a
      · rw [if_pos q]; decide
      · rw [if_neg q, if_pos (by omega)]; decide
    rw [if_neg e0]
    by_cases x2 : c < a
    · rw [if_pos x2, if_pos (by decide), bd1_i rfl, gB_0, if_neg (by omega)]
    · have e1 : ¬ ((0 : Int32) < (if c < a then (1 : Int32) else if a = c then 0 else -1)) := by
        rw [if_neg x2]
        by_cases q : a = c
        · rw [if_pos q]; decide
        · rw [if_neg q]; decide
      rw [if_neg e1, bd1_i rfl, gB_1, if_pos (by omega)]
/-! The reference's walls. -/
def q_re (nx ny : Nat) (fe ue : Nat → Int32) (E M : Nat → Nat → Prop) : Prop := ∀ i j, i < nx → j < ny →
  ((E i (j + 1) ∧ ∃ l, l < 20 ∧ ue (42 * i + j) = N l) ∨ (¬ E i (j + 1) ∧ ue (42 * i + j) = J (-1))) ∧ ((M (i + 1) j ∧ ∃ l, l < 20 ∧ fe (42 * i + j) = N l) ∨ (¬ M (i + 1) j ∧ fe (42 * i + j) = J (-1)))
theorem q_edgeF_L {nx ny l st to_ : Nat} {fI : Nat → Int32} {E : Nat → Nat → Prop} (hx : nx ≤ 40) (hy : ny ≤ 40) (hl : l < 20) (hf : fI l = 1) (hs : st < ny) (ht : to_ < nx) :
    ∀ fuel k fe ue (M : Nat → Nat → Prop), to_ - k < fuel → k ≤ to_ → q_re nx ny fe ue E M →
    ∃ fe', m_Mo_layGrid_L331 (N l) (N st) (N to_) fI fuel (N k) fe ue = some (fe', ue) ∧ q_re nx ny fe' ue E (fun c r => M c r ∨ (r = st ∧ k + 1 ≤ c ∧ c ≤ to_)) := by
  intro fuel
  induction fuel with
  | zero => intro k fe ue M h; omega
  | succ m ih =>
    intro k fe ue M hm hk hq
    rw [m_Mo_layGrid_L331]
    by_cases c : to_ ≤ k
    · rw [if_pos ((N_le (by omega) (by omega)).mpr c)]
      refine ⟨fe, rfl, fun i j hi hj => ⟨(hq i j hi hj).1, ?_⟩⟩
      rcases (hq i j hi hj).2 with a | a
      · exact Or.inl ⟨Or.inl a.1, a.2⟩
      · exact Or.inr ⟨fun q => q.elim a.1 (fun q => by omega), a.2⟩
    · have e1 : (42 * N k + N st) = N (42 * k + st) := by rw [N_lit 42, N_mul, N_add]
      obtain ⟨fe', z, hz⟩ := ih (k + 1) (upd fe (42 * k + st) (N l)) ue (fun c r => M c r ∨ (r = st ∧ c = k + 1)) (by omega) (by omega) (by
        intro i j hi hj
        refine ⟨(hq i j hi hj).1, ?_⟩
        by_cases ec : i = k ∧ j = st
        · obtain ⟨a, b⟩ := ec; subst a; subst b
          rw [upd_s]; exact Or.inl ⟨Or.inr ⟨rfl, rfl⟩, l, hl, rfl⟩
        · rw [upd_n _ _ (fun q => ec (by obtain ⟨u, v⟩ := q_enc (w := 42) (by omega) (by omega) q; exact ⟨u, v⟩))]
          rcases (hq i j hi hj).2 with a | a
          · exact Or.inl ⟨Or.inl a.1, a.2⟩
          · exact Or.inr ⟨fun q => q.elim a.1 (fun q => ec (by omega)), a.2⟩)
      refine ⟨fe', ?_, fun i j hi hj => ⟨(hz i j hi hj).1, ?_⟩⟩
      · rw [if_neg (fun q => c ((N_le (by omega) (by omega)).mp q)), gI_N (by omega) (by omega), N_nat (by omega), hf, if_neg (by decide), e1, gI_N (by omega) (by omega), lt_e, N_nat (by omega), bd2_i rfl, lt_e, N_lit 1, N_add]
        exact z
      · rcases (hz i j hi hj).2 with a | a
        · refine Or.inl ⟨?_, a.2⟩
          rcases a.1 with (q | q) | q
          · exact Or.inl q
          · exact Or.inr (by omega)
          · exact Or.inr (by omega)
        · refine Or.inr ⟨fun q => a.1 ?_, a.2⟩
          rcases q with q | q
          · exact Or.inl (Or.inl q)
          · by_cases ek : i = k
            · exact Or.inl (Or.inr (by omega))
            · exact Or.inr (by omega)
theorem q_edgeU_L {nx ny l st to_ : Nat} {fI : Nat → Int32} {M : Nat → Nat → Prop} (hx : nx ≤ 40) (hy : ny ≤ 40) (hl : l < 20) (hf : fI l = 0) (hs : st < nx) (ht : to_ < ny) :
    ∀ fuel k fe ue (E : Nat → Nat → Prop), to_ - k < fuel → k ≤ to_ → q_re nx ny fe ue E M →
    ∃ ue', m_Mo_layGrid_L331 (N l) (N st) (N to_) fI fuel (N k) fe ue = some (fe, ue') ∧ q_re nx ny fe ue' (fun c r => E c r ∨ (c = st ∧ k + 1 ≤ r ∧ r ≤ to_)) M := by
  intro fuel
  induction fuel with
  | zero => intro k fe ue M h; omega
  | succ m ih =>
    intro k fe ue E hm hk hq
    rw [m_Mo_layGrid_L331]
    by_cases c : to_ ≤ k
    · rw [if_pos ((N_le (by omega) (by omega)).mpr c)]
      refine ⟨ue, rfl, fun i j hi hj => ⟨?_, (hq i j hi hj).2⟩⟩
      rcases (hq i j hi hj).1 with a | a
      · exact Or.inl ⟨Or.inl a.1, a.2⟩
      · exact Or.inr ⟨fun q => q.elim a.1 (fun q => by omega), a.2⟩
    · have e1 : (42 * N st + N k) = N (42 * st + k) := by rw [N_lit 42, N_mul, N_add]
      obtain ⟨ue', z, hz⟩ := ih (k + 1) fe (upd ue (42 * st + k) (N l)) (fun c r => E c r ∨ (c = st ∧ r = k + 1)) (by omega) (by omega) (by
        intro i j hi hj
        refine ⟨?_, (hq i j hi hj).2⟩
        by_cases ec : i = st ∧ j = k
        · obtain ⟨a, b⟩ := ec; subst a; subst b
          rw [upd_s]; exact Or.inl ⟨Or.inr ⟨rfl, rfl⟩, l, hl, rfl⟩
        · rw [upd_n _ _ (fun q => ec (by obtain ⟨u, v⟩ := q_enc (w := 42) (by omega) (by omega) q; exact ⟨u, v⟩))]
          rcases (hq i j hi hj).1 with a | a
          · exact Or.inl ⟨Or.inl a.1, a.2⟩
          · exact Or.inr ⟨fun q => q.elim a.1 (fun q => ec (by omega)), a.2⟩)
      refine ⟨ue', ?_, fun i j hi hj => ⟨?_, (hz i j hi hj).2⟩⟩
      · rw [if_neg (fun q => c ((N_le (by omega) (by omega)).mp q)), gI_N (by omega) (by omega), N_nat (by omega), hf, if_pos rfl, e1, gI_N (by omega) (by omega), lt_e, N_nat (by omega), bd2_i rfl, lt_e, N_lit 1, N_add]
        exact z
      · rcases (hz i j hi hj).1 with a | a
        · refine Or.inl ⟨?_, a.2⟩
          rcases a.1 with (q | q) | q
          · exact Or.inl q
          · exact Or.inr (by omega)
          · exact Or.inr (by omega)
        · refine Or.inr ⟨fun q => a.1 ?_, a.2⟩
          rcases q with q | q
          · exact Or.inl (Or.inl q)
          · by_cases ek : j = k
            · exact Or.inl (Or.inr (by omega))
            · exact Or.inr (by omega)
theorem q_re.congr {nx ny : Nat} {fe ue : Nat → Int32} {E M E' M' : Nat → Nat → Prop} (h : q_re nx ny fe ue E M) (h1 : ∀ c r, E c r ↔ E' c r) (h2 : ∀ c r, M c r ↔ M' c r) : q_re nx ny fe ue E' M' := by
  intro i j hi hj
  rw [← h1, ← h2]; exact h i j hi hj
theorem q_edges_L {n : Nat} {T I : Sto} {nx ny : Nat} {X Y : Nat → Nat} {fx fy fI fA fL fH : Nat → Int32} (hg : q_gi n I nx ny) (hi : q_ix n T I X Y) (hc : q_rl n T fI fA fL fH) (hr : q_gr nx ny X Y fx fy) :
    ∀ fuel l fe ue, n - l < fuel → l ≤ n → q_re nx ny fe ue (q_wE l I) (q_wN l I) →
    ∃ fe' ue', m_Mo_layGrid_L202 (N n) fI fA fL fH fx fy fuel (N l) fe ue = some (fe', ue') ∧ q_re nx ny fe' ue' (q_wE n I) (q_wN n I) := by
  have hg' := hg
  obtain ⟨hn, hx, hy, hln, _⟩ := hg
  obtain ⟨rx, ix, bx, ry, iy, by_⟩ := hr
  intro fuel
  induction fuel with
  | zero => intro l fe ue h; omega
  | succ m ih =>
    intro l fe ue hm hl hq
    rw [m_Mo_layGrid_L202]
    by_cases c : n ≤ l
    · rw [if_pos ((N_le (by omega) (by omega)).mpr c)]
      have e : l = n := by omega
      subst e
      exact ⟨fe, ue, rfl, hq⟩
    · have hl' : l < n := by omega
      obtain ⟨a1, a2, a3⟩ := hln l hl'
      obtain ⟨e1, e2, e3, e4⟩ := hi l hl'
      have fxx : yl T l = yh T l ↔ yl I l = yh I l := by rw [e2, e4, iy.eq_iff (by omega) a2]
      rw [if_neg (fun q => c ((N_le (by omega) (by omega)).mp q)), gI_N (by omega) (by omega), N_nat (by omega)]
      by_cases fl : yl T l = yh T l
      · obtain ⟨g1, g2, g3, g4⟩ := (hc l hl').1 fl
        have fl' := fxx.mp fl
        obtain ⟨fe1, z1, w1⟩ := q_edgeF_L (nx := nx) (ny := ny) (l := l) (st := yl I l) (to_ := xh I l) (fI := fI) (E := q_wE l I) hx hy (by omega) g1 (by omega) (by omega) fu (xl I l) fe ue (q_wN l I) (by unfold fu; omega) (by omega) hq
        obtain ⟨fe2, ue2, z2, w2⟩ := ih (l + 1) fe1 ue (by omega) (by omega) (w1.congr (fun c r => by rw [q_wE_s]; exact ⟨Or.inl, fun q => q.elim id (fun q => by omega)⟩) (fun c r => (q_wN_s l I c r).symm))
        refine ⟨fe2, ue2, ?_, w2⟩
        rw [g1, g2, g3, g4, e1, e2, e3, if_neg (by decide), gI_N (by omega) (by omega), q_find ry iy (by omega) by_ (by omega), bd1_i rfl, bd1_i rfl, gI_N (by omega) (by omega), if_neg (by decide), gI_N (by omega) (by omega), q_find rx ix (by omega) bx (by omega), bd1_i rfl, bd1_i rfl, gI_N (by omega) (by omega), if_neg (by decide), gI_N (by omega) (by omega), q_find rx ix (by omega) bx (by omega), bd1_i rfl, bd1_i rfl, bd2_i z1, lt_e, N_lit 1, N_add]
        exact z2
      · obtain ⟨g1, g2, g3, g4⟩ := (hc l hl').2 fl
        have fl' : ¬ yl I l = yh I l := fun q => fl (fxx.mpr q)
        obtain ⟨ue1, z1, w1⟩ := q_edgeU_L (nx := nx) (ny := ny) (l := l) (st := xl I l) (to_ := yh I l) (fI := fI) (M := q_wN l I) hx hy (by omega) g1 (by omega) (by omega) fu (yl I l) fe ue (q_wE l I) (by unfold fu; omega) (by omega) hq
        obtain ⟨fe2, ue2, z2, w2⟩ := ih (l + 1) fe ue1 (by omega) (by omega) (w1.congr (fun c r => (q_wE_s l I c r).symm) (fun c r => by rw [q_wN_s]; exact ⟨Or.inl, fun q => q.elim id (fun q => by omega)⟩))
        refine ⟨fe2, ue2, ?_, w2⟩
        rw [g1, g2, g3, g4, e1, e2, e4, if_pos rfl, gI_N (by omega) (by omega), q_find rx ix (by omega) bx (by omega), bd1_i rfl, bd1_i rfl, gI_N (by omega) (by omega), if_pos rfl, gI_N (by omega) (by omega), q_find ry iy (by omega) by_ (by omega), bd1_i rfl, bd1_i rfl, gI_N (by omega) (by omega), if_pos rfl, gI_N (by omega) (by omega), q_find ry iy (by omega) by_ (by omega), bd1_i rfl, bd1_i rfl, bd2_i z1, lt_e, N_lit 1, N_add]
        exact z2
theorem q_nar0 : vp_nar .boolean 0 = 0 := by rfl
theorem q_nar1 : vp_nar .boolean 1 = 1 := by rfl
theorem q_noE {n : Nat} {I : Sto} {nx ny : Nat} (hg : q_gi n I nx ny) {c r : Nat} (h : r = 0 ∨ ny ≤ r ∨ nx ≤ c) : ¬ q_wE n I c r := by
  intro ⟨l, hl, a, b, d⟩
  have := hg.2.2.2.1 l hl
  omega
theorem q_noN {n : Nat} {I : Sto} {nx ny : Nat} (hg : q_gi n I nx ny) {c r : Nat} (h : c = 0 ∨ nx ≤ c ∨ ny ≤ r) : ¬ q_wN n I c r := by
  intro ⟨l, hl, a, b, d⟩
  have := hg.2.2.2.1 l hl
  omega
theorem q_freeE {n : Nat} {I : Sto} {nx ny : Nat} {fe ue : Nat → Int32} (hg : q_gi n I nx ny) (he : q_re nx ny fe ue (q_wE n I) (q_wN n I)) {c r : Nat} (hc : c < nx) (hr : r ≤ ny) :
    (q_wE n I c r → m_Mo_isFree (N c) (N r) 1 (N nx) (N ny) fe ue = some 0) ∧ (¬ q_wE n I c r → m_Mo_isFree (N c) (N r) 1 (N nx) (N ny) fe ue = some 1) := by
  have hx := hg.2.1
  have hy := hg.2.2.1
  unfold m_Mo_isFree
  rw [if_neg (show ¬ (1 : Int32) = 0 by decide)]
  by_cases a : r = 0
  · subst a
    rw [if_pos (by decide), gB_1]
    exact ⟨fun q => (q_noE hg (Or.inl rfl) q).elim, fun _ => rfl⟩
  · rw [if_neg (fun q => by rw [N_lit 0] at q; exact a ((N_eq (by omega) (by omega)).mp q))]
    by_cases b : r = ny
    · rw [if_pos (by rw [b]), gB_1]
      exact ⟨fun q => (q_noE hg (Or.inr (Or.inl (by omega))) q).elim, fun _ => rfl⟩
    · rw [if_neg (fun q => b ((N_eq (by omega) (by omega)).mp q)), N_lit 42, N_mul, N_add, show N (42 * c + r) - 1 = N (42 * c + (r - 1)) from by rw [N_lit 1, N_sub (by omega)]; congr 1; omega, gI_N (by omega) (by omega), N_nat (by omega)]
      have h := (he c (r - 1) hc (by omega)).1
      rw [show r - 1 + 1 = r by omega] at h
      rcases h with ⟨h, l, hl, e⟩ | ⟨h, e⟩
      · rw [e, if_neg (by rw [N_J, show (-1 : Int32) = J (-1) from rfl, J_eq (by omega) (by omega) (by omega) (by omega)]; omega), gB_0]
        exact ⟨fun _ => rfl, fun q => (q h).elim⟩
      · rw [e, if_pos (by rfl), gB_1]
        exact ⟨fun q => (h q).elim, fun _ => rfl⟩
theorem q_freeN {n : Nat} {I : Sto} {nx ny : Nat} {fe ue : Nat → Int32} (hg : q_gi n I nx ny) (he : q_re nx ny fe ue (q_wE n I) (q_wN n I)) {c r : Nat} (hc : c ≤ nx) (hr : r < ny) :
    (q_wN n I c r → m_Mo_isFree (N c) (N r) 0 (N nx) (N ny) fe ue = some 0) ∧ (¬ q_wN n I c r → m_Mo_isFree (N c) (N r) 0 (N nx) (N ny) fe ue = some 1) := by
  have hx := hg.2.1
  have hy := hg.2.2.1
  unfold m_Mo_isFree
  rw [if_pos rfl]
  by_cases a : c = 0
  · subst a
    rw [if_pos (by decide), bd1_i rfl, gB_1]
    exact ⟨fun q => (q_noN hg (Or.inl rfl) q).elim, fun _ => rfl⟩
  · rw [if_neg (fun q => by rw [N_lit 0] at q; exact a ((N_eq (by omega) (by omega)).mp q))]
    by_cases b : c = nx
    · rw [if_pos (by rw [b]), bd1_i rfl, gB_1]
      exact ⟨fun q => (q_noN hg (Or.inr (Or.inl (by omega))) q).elim, fun _ => rfl⟩
    · rw [if_neg (fun q => b ((N_eq (by omega) (by omega)).mp q)), show 42 * (N c - 1) + N r = N (42 * (c - 1) + r) from by rw [N_lit 1, N_sub (by omega), N_lit 42, N_mul, N_add], gI_N (by omega) (by omega), N_nat (by omega)]
      have h := (he (c - 1) r (by omega) hr).2
      rw [show c - 1 + 1 = c by omega] at h
      rcases h with ⟨h, l, hl, e⟩ | ⟨h, e⟩
      · rw [e, if_neg (by rw [N_J, show (-1 : Int32) = J (-1) from rfl, J_eq (by omega) (by omega) (by omega) (by omega)]; omega), bd1_i rfl, gB_0]
        exact ⟨fun _ => rfl, fun q => (q h).elim⟩
      · rw [e, if_pos (by rfl), bd1_i rfl, gB_1]
        exact ⟨fun q => (h q).elim, fun _ => rfl⟩
/-! The reference's step into a cell that is free to come to. -/
theorem q_Rwet {nx ny : Nat} {A : Ce → Ce → Prop} {lab : Int} {F0 : Ce → Int} {u0 : Ce} {X : Ce → Prop} {ce wa : Nat → Int32} {F : Ce → Int} {k : Nat} {s : Nat → Ce}
    (hx : nx ≤ 40) (hy : ny ≤ 40) (h : q_st 42 nx ny A (-3) lab F0 u0 X ce wa F k s) {c r : Nat} (hc : c ≤ nx) (hr : r ≤ ny) (hq : q_con A u0 (c, r)) (hl : lab ≠ -3) (hb : -3 ≤ lab ∧ lab ≤ 1000) (hk : k + q_dry nx ny (-3) F ≤ 1681) :
    ∃ ce' wa' F' k' s', (gI (42 * N c + N r) 1764 <| if (ce (42 * N c + N r).toNatClampNeg) = (-3) then (gI (42 * N c + N r) 1764 <| lt_ (upd ce (42 * N c + N r).toNatClampNeg (J lab)) fun f67 => gI (N k) 1764 <| lt_ (upd wa (N k).toNatClampNeg (42 * N c + N r)) fun f69 => lt_ (N k + 1) fun x70 => some (x70, f67, f69)) else some (N k, ce, wa)) = some (N k', ce', wa') ∧
      q_st 42 nx ny A (-3) lab F0 u0 X ce' wa' F' k' s' ∧ F' (c, r) ≠ -3 ∧ (∀ v, F v ≠ -3 → F' v ≠ -3) ∧ k' + q_dry nx ny (-3) F' = k + q_dry nx ny (-3) F := by
  have hF := h.1 (c, r)
  have hce := h.2.1 c r hc hr
  rw [show 42 * N c + N r = N (42 * c + r) from by rw [N_lit 42, N_mul, N_add], gI_N (by omega) (by omega), N_nat (by omega), hce, show (-3 : Int32) = J (-3) from rfl]
  by_cases e : F (c, r) = -3
  · have hd := q_dry_set (nx := nx) (ny := ny) (D := -3) (lab := lab) hc hr hx hy e hl
    refine ⟨_, _, _, _, _, ?_, q_st_wet h hc hr (by omega) e hq hl hb, ?_, fun v hv => ?_, ?_⟩
    · rw [if_pos (by rw [e]), gI_N (by omega) (by omega), lt_e, gI_N (by omega) (by omega), lt_e, lt_e, N_nat (by omega), N_lit 1, N_add]
    · unfold q_set; rw [if_pos rfl]; exact hl
    · unfold q_set
      by_cases e2 : v = (c, r)
      · rw [if_pos e2]; exact hl
      · rw [if_neg e2]; exact hv
    · omega
  · refine ⟨ce, wa, F, k, s, ?_, h, e, fun v hv => hv, rfl⟩
    rw [if_neg (fun q => e ((J_eq (by omega) (by omega) (by omega) (by omega)).mp q))]
theorem q_RgoE {n : Nat} {I : Sto} {nx ny : Nat} {lab : Int} {F0 : Ce → Int} {u0 : Ce} {fe ue : Nat → Int32} (hg : q_gi n I nx ny) (he : q_re nx ny fe ue (q_wE n I) (q_wN n I)) (hl : lab ≠ -3) (hb : -3 ≤ lab ∧ lab ≤ 1000)
    {c r : Nat} (hc : c ≤ nx) (hr : r ≤ ny) (hcon : q_con (q_A n I nx ny) u0 (c, r)) {X : Ce → Prop} {ce wa : Nat → Int32} {F : Ce → Int} {k : Nat} {s : Nat → Ce} (hp : q_st 42 nx ny (q_A n I nx ny) (-3) lab F0 u0 X ce wa F k s) (hk : k + q_dry nx ny (-3) F ≤ 1681) (m : Nat) :
    ∃ ce' wa' F' k' s', m_Mo_fill_L48 (J lab) (N c) (N r) (N nx) (N ny) fe ue (m + 1) (N k) 0 ce wa = m_Mo_fill_L48 (J lab) (N c) (N r) (N nx) (N ny) fe ue m (N k') 1 ce' wa' ∧ q_st 42 nx ny (q_A n I nx ny) (-3) lab F0 u0 X ce' wa' F' k' s' ∧
      (∀ v, v = (c + 1, r) ∧ q_A n I nx ny (c, r) v → F' v ≠ -3) ∧ (∀ v, F v ≠ -3 → F' v ≠ -3) ∧ k' + q_dry nx ny (-3) F' = k + q_dry nx ny (-3) F := by
  have hx := hg.2.1
  have hy := hg.2.2.1
  have e0 : (0 : Int32) + 1 = 1 := by decide
  rw [m_Mo_fill_L48, if_neg (show ¬ (4 : Int32) ≤ 0 by decide)]
  rw [if_pos rfl, bd1_i rfl]
  rw [if_neg (by decide), if_neg (by decide), bd1_i rfl]
  by_cases c1 : c + 1 ≤ nx
  · have ev : N c + 1 = N (c + 1) := by rw [N_lit 1, N_add]
    rw [ev, N_K (a := c + 1) (by omega), N_K (a := nx) (by omega), show (0 : Int64) = K 0 from rfl, q_isIn (by omega) (by omega) (by omega) (by omega) (by omega) (by omega), if_pos (by omega), bd1_i rfl, if_neg (by decide), N_K (a := r) (by omega), N_K (a := ny) (by omega), q_isIn (by omega) (by omega) (by omega) (by omega) (by omega) (by omega), if_pos (by omega), bd1_i rfl, if_neg (by decide), bd1_i rfl, if_neg (by decide), if_pos ((N_le (by omega) (by omega)).mpr (by omega)), bd1_i rfl, if_pos ((N_le (by omega) (by omega)).mpr (by omega)), bd1_i rfl, if_pos (by decide), bd1_i rfl]
    by_cases c2 : q_wE n I c r
    · refine ⟨ce, wa, F, k, s, ?_, hp, fun v hv => ?_, fun v hv => hv, rfl⟩
      · rw [(q_freeE hg he (c := c) (r := r) (by omega) hr).1 c2, bd1_i rfl, if_pos rfl, bd1_i rfl, if_pos rfl, bd3_i rfl, lt_e, e0]
      · exfalso
        obtain ⟨e, a⟩ := hv
        subst e
        obtain ⟨_, _, _, _, a⟩ := a
        dsimp only at a
        rcases a with a | a | a | a
        · exact a.2 c2
        · have := congrArg Prod.fst a.1; have := congrArg Prod.snd a.1; dsimp only at *; omega
        · have := congrArg Prod.fst a.1; have := congrArg Prod.snd a.1; dsimp only at *; omega
        · have := congrArg Prod.fst a.1; have := congrArg Prod.snd a.1; dsimp only at *; omega
    · have hadj : q_A n I nx ny (c, r) (c + 1, r) := ⟨hc, hr, by dsimp only; omega, by dsimp only; omega, Or.inl ⟨rfl, c2⟩⟩
      obtain ⟨ce', wa', F', k', s', e1, e2, e3, e4, e5⟩ := q_Rwet hx hy hp (c := c + 1) (r := r) (by omega) (by omega) (hcon.step hadj) hl hb hk
      refine ⟨ce', wa', F', k', s', ?_, e2, fun v hv => by rw [hv.1]; exact e3, e4, e5⟩
      rw [(q_freeE hg he (c := c) (r := r) (by omega) hr).2 c2, bd1_i rfl, if_neg (by decide), bd1_i rfl, if_neg (by decide), bd3_i e1, lt_e, e0]
  · have ev : N c + 1 = N (c + 1) := by rw [N_lit 1, N_add]
    refine ⟨ce, wa, F, k, s, ?_, hp, fun v hv => by have := hv.2.2.2.1; rw [hv.1] at this; dsimp only at this; omega, fun v hv => hv, rfl⟩
    rw [ev, N_K (by omega), N_K (a := nx) (by omega), show (0 : Int64) = K 0 from rfl, q_isIn (by omega) (by omega) (by omega) (by omega) (by omega) (by omega), if_neg (by omega), bd1_i rfl, if_pos rfl, bd1_i rfl, if_pos rfl, bd1_i rfl, if_pos rfl, bd3_i rfl, lt_e]
    rw [e0]
theorem q_RgoN {n : Nat} {I : Sto} {nx ny : Nat} {lab : Int} {F0 : Ce → Int} {u0 : Ce} {fe ue : Nat → Int32} (hg : q_gi n I nx ny) (he : q_re nx ny fe ue (q_wE n I) (q_wN n I)) (hl : lab ≠ -3) (hb : -3 ≤ lab ∧ lab ≤ 1000)
    {c r : Nat} (hc : c ≤ nx) (hr : r ≤ ny) (hcon : q_con (q_A n I nx ny) u0 (c, r)) {X : Ce → Prop} {ce wa : Nat → Int32} {F : Ce → Int} {k : Nat} {s : Nat → Ce} (hp : q_st 42 nx ny (q_A n I nx ny) (-3) lab F0 u0 X ce wa F k s) (hk : k + q_dry nx ny (-3) F ≤ 1681) (m : Nat) :
    ∃ ce' wa' F' k' s', m_Mo_fill_L48 (J lab) (N c) (N r) (N nx) (N ny) fe ue (m + 1) (N k) 1 ce wa = m_Mo_fill_L48 (J lab) (N c) (N r) (N nx) (N ny) fe ue m (N k') 2 ce' wa' ∧ q_st 42 nx ny (q_A n I nx ny) (-3) lab F0 u0 X ce' wa' F' k' s' ∧
      (∀ v, v = (c, r + 1) ∧ q_A n I nx ny (c, r) v → F' v ≠ -3) ∧ (∀ v, F v ≠ -3 → F' v ≠ -3) ∧ k' + q_dry nx ny (-3) F' = k + q_dry nx ny (-3) F := by
  have hx := hg.2.1
  have hy := hg.2.2.1
  have e0 : (1 : Int32) + 1 = 2 := by decide
  rw [m_Mo_fill_L48, if_neg (show ¬ (4 : Int32) ≤ 1 by decide)]
  rw [if_neg (by decide), if_neg (by decide), bd1_i rfl]
  rw [if_pos rfl, bd1_i rfl]
  by_cases c1 : r + 1 ≤ ny
  · have ev : N r + 1 = N (r + 1) := by rw [N_lit 1, N_add]
    rw [ev, N_K (a := c) (by omega), N_K (a := nx) (by omega), show (0 : Int64) = K 0 from rfl, q_isIn (by omega) (by omega) (by omega) (by omega) (by omega) (by omega), if_pos (by omega), bd1_i rfl, if_neg (by decide), N_K (a := r + 1) (by omega), N_K (a := ny) (by omega), q_isIn (by omega) (by omega) (by omega) (by omega) (by omega) (by omega), if_pos (by omega), bd1_i rfl, if_neg (by decide), bd1_i rfl, if_neg (by decide), if_pos ((N_le (by omega) (by omega)).mpr (by omega)), bd1_i rfl, if_pos ((N_le (by omega) (by omega)).mpr (by omega)), bd1_i rfl, if_neg (by decide), bd1_i rfl]
    by_cases c2 : q_wN n I c r
    · refine ⟨ce, wa, F, k, s, ?_, hp, fun v hv => ?_, fun v hv => hv, rfl⟩
      · rw [(q_freeN hg he (c := c) (r := r) hc (by omega)).1 c2, bd1_i rfl, if_pos rfl, bd1_i rfl, if_pos rfl, bd3_i rfl, lt_e, e0]
      · exfalso
        obtain ⟨e, a⟩ := hv
        subst e
        obtain ⟨_, _, _, _, a⟩ := a
        dsimp only at a
        rcases a with a | a | a | a
        · have := congrArg Prod.fst a.1; have := congrArg Prod.snd a.1; dsimp only at *; omega
        · have := congrArg Prod.fst a.1; have := congrArg Prod.snd a.1; dsimp only at *; omega
        · exact a.2 c2
        · have := congrArg Prod.fst a.1; have := congrArg Prod.snd a.1; dsimp only at *; omega
    · have hadj : q_A n I nx ny (c, r) (c, r + 1) := ⟨hc, hr, by dsimp only; omega, by dsimp only; omega, Or.inr (Or.inr (Or.inl ⟨rfl, c2⟩))⟩
      obtain ⟨ce', wa', F', k', s', e1, e2, e3, e4, e5⟩ := q_Rwet hx hy hp (c := c) (r := r + 1) (by omega) (by omega) (hcon.step hadj) hl hb hk
      refine ⟨ce', wa', F', k', s', ?_, e2, fun v hv => by rw [hv.1]; exact e3, e4, e5⟩
      rw [(q_freeN hg he (c := c) (r := r) hc (by omega)).2 c2, bd1_i rfl, if_neg (by decide), bd1_i rfl, if_neg (by decide), bd3_i e1, lt_e, e0]
  · have ev : N r + 1 = N (r + 1) := by rw [N_lit 1, N_add]
    refine ⟨ce, wa, F, k, s, ?_, hp, fun v hv => by have := hv.2.2.2.2.1; rw [hv.1] at this; dsimp only at this; omega, fun v hv => hv, rfl⟩
    rw [N_K (a := c) (by omega), N_K (a := nx) (by omega), show (0 : Int64) = K 0 from rfl, q_isIn (by omega) (by omega) (by omega) (by omega) (by omega) (by omega), if_pos (by omega), bd1_i rfl, if_neg (by decide), ev, N_K (by omega), N_K (a := ny) (by omega), q_isIn (by omega) (by omega) (by omega) (by omega) (by omega) (by omega), if_neg (by omega), bd1_i rfl, if_pos rfl, bd1_i rfl, if_pos rfl, bd1_i rfl, if_pos rfl, bd3_i rfl, lt_e]
    rw [e0]
theorem q_RgoW {n : Nat} {I : Sto} {nx ny : Nat} {lab : Int} {F0 : Ce → Int} {u0 : Ce} {fe ue : Nat → Int32} (hg : q_gi n I nx ny) (he : q_re nx ny fe ue (q_wE n I) (q_wN n I)) (hl : lab ≠ -3) (hb : -3 ≤ lab ∧ lab ≤ 1000)
    {c r : Nat} (hc : c ≤ nx) (hr : r ≤ ny) (hcon : q_con (q_A n I nx ny) u0 (c, r)) {X : Ce → Prop} {ce wa : Nat → Int32} {F : Ce → Int} {k : Nat} {s : Nat → Ce} (hp : q_st 42 nx ny (q_A n I nx ny) (-3) lab F0 u0 X ce wa F k s) (hk : k + q_dry nx ny (-3) F ≤ 1681) (m : Nat) :
    ∃ ce' wa' F' k' s', m_Mo_fill_L48 (J lab) (N c) (N r) (N nx) (N ny) fe ue (m + 1) (N k) 2 ce wa = m_Mo_fill_L48 (J lab) (N c) (N r) (N nx) (N ny) fe ue m (N k') 3 ce' wa' ∧ q_st 42 nx ny (q_A n I nx ny) (-3) lab F0 u0 X ce' wa' F' k' s' ∧
      (∀ v, v = (c - 1, r) ∧ q_A n I nx ny (c, r) v → F' v ≠ -3) ∧ (∀ v, F v ≠ -3 → F' v ≠ -3) ∧ k' + q_dry nx ny (-3) F' = k + q_dry nx ny (-3) F := by
  have hx := hg.2.1
  have hy := hg.2.2.1
  have e0 : (2 : Int32) + 1 = 3 := by decide
  rw [m_Mo_fill_L48, if_neg (show ¬ (4 : Int32) ≤ 2 by decide)]
  rw [if_neg (by decide), if_pos rfl, bd1_i rfl]
  rw [if_neg (by decide), if_neg (by decide), bd1_i rfl]
  by_cases c1 : 1 ≤ c
  · have ev : N c - 1 = N (c - 1) := by rw [N_lit 1, N_sub c1]
    rw [ev, N_K (a := c - 1) (by omega), N_K (a := nx) (by omega), show (0 : Int64) = K 0 from rfl, q_isIn (by omega) (by omega) (by omega) (by omega) (by omega) (by omega), if_pos (by omega), bd1_i rfl, if_neg (by decide), N_K (a := r) (by omega), N_K (a := ny) (by omega), q_isIn (by omega) (by omega) (by omega) (by omega) (by omega) (by omega), if_pos (by omega), bd1_i rfl, if_neg (by decide), bd1_i rfl, if_neg (by decide), if_neg (fun q => by have := (N_le (by omega) (by omega)).mp q; omega), bd1_i rfl, if_pos ((N_le (by omega) (by omega)).mpr (by omega)), bd1_i rfl, if_pos (by decide), bd1_i rfl]
    by_cases c2 : q_wE n I (c - 1) r
    · refine ⟨ce, wa, F, k, s, ?_, hp, fun v hv => ?_, fun v hv => hv, rfl⟩
      · rw [(q_freeE hg he (c := c - 1) (r := r) (by omega) hr).1 c2, bd1_i rfl, if_pos rfl, bd1_i rfl, if_pos rfl, bd3_i rfl, lt_e, e0]
      · exfalso
        obtain ⟨e, a⟩ := hv
        subst e
        obtain ⟨_, _, _, _, a⟩ := a
        dsimp only at a
        rcases a with a | a | a | a
        · have := congrArg Prod.fst a.1; have := congrArg Prod.snd a.1; dsimp only at *; omega
        · exact a.2 c2
        · have := congrArg Prod.fst a.1; have := congrArg Prod.snd a.1; dsimp only at *; omega
        · have := congrArg Prod.fst a.1; have := congrArg Prod.snd a.1; dsimp only at *; omega
    · have hadj : q_A n I nx ny (c, r) (c - 1, r) := ⟨hc, hr, by dsimp only; omega, by dsimp only; omega, Or.inr (Or.inl ⟨by dsimp only; congr 1; omega, c2⟩)⟩
      obtain ⟨ce', wa', F', k', s', e1, e2, e3, e4, e5⟩ := q_Rwet hx hy hp (c := c - 1) (r := r) (by omega) (by omega) (hcon.step hadj) hl hb hk
      refine ⟨ce', wa', F', k', s', ?_, e2, fun v hv => by rw [hv.1]; exact e3, e4, e5⟩
      rw [(q_freeE hg he (c := c - 1) (r := r) (by omega) hr).2 c2, bd1_i rfl, if_neg (by decide), bd1_i rfl, if_neg (by decide), bd3_i e1, lt_e, e0]
  · have ev : N c - 1 = J (-1) := by rw [show c = 0 by omega]; decide
    refine ⟨ce, wa, F, k, s, ?_, hp, fun v hv => by obtain ⟨e, _, _, _, _, a⟩ := hv; subst e; dsimp only at a; rcases a with a | a | a | a <;> (have := congrArg Prod.fst a.1; have := congrArg Prod.snd a.1; dsimp only at *; omega), fun v hv => hv, rfl⟩
    rw [ev, J_K (by omega) (by omega), N_K (a := nx) (by omega), show (0 : Int64) = K 0 from rfl, q_isIn (by omega) (by omega) (by omega) (by omega) (by omega) (by omega), if_neg (by omega), bd1_i rfl, if_pos rfl, bd1_i rfl, if_pos rfl, bd1_i rfl, if_pos rfl, bd3_i rfl, lt_e]
    rw [e0]
theorem q_RgoS {n : Nat} {I : Sto} {nx ny : Nat} {lab : Int} {F0 : Ce → Int} {u0 : Ce} {fe ue : Nat → Int32} (hg : q_gi n I nx ny) (he : q_re nx ny fe ue (q_wE n I) (q_wN n I)) (hl : lab ≠ -3) (hb : -3 ≤ lab ∧ lab ≤ 1000)
    {c r : Nat} (hc : c ≤ nx) (hr : r ≤ ny) (hcon : q_con (q_A n I nx ny) u0 (c, r)) {X : Ce → Prop} {ce wa : Nat → Int32} {F : Ce → Int} {k : Nat} {s : Nat → Ce} (hp : q_st 42 nx ny (q_A n I nx ny) (-3) lab F0 u0 X ce wa F k s) (hk : k + q_dry nx ny (-3) F ≤ 1681) (m : Nat) :
    ∃ ce' wa' F' k' s', m_Mo_fill_L48 (J lab) (N c) (N r) (N nx) (N ny) fe ue (m + 1) (N k) 3 ce wa = m_Mo_fill_L48 (J lab) (N c) (N r) (N nx) (N ny) fe ue m (N k') 4 ce' wa' ∧ q_st 42 nx ny (q_A n I nx ny) (-3) lab F0 u0 X ce' wa' F' k' s' ∧
      (∀ v, v = (c, r - 1) ∧ q_A n I nx ny (c, r) v → F' v ≠ -3) ∧ (∀ v, F v ≠ -3 → F' v ≠ -3) ∧ k' + q_dry nx ny (-3) F' = k + q_dry nx ny (-3) F := by
  have hx := hg.2.1
  have hy := hg.2.2.1
  have e0 : (3 : Int32) + 1 = 4 := by decide
  rw [m_Mo_fill_L48, if_neg (show ¬ (4 : Int32) ≤ 3 by decide)]
  rw [if_neg (by decide), if_neg (by decide), bd1_i rfl]
  rw [if_neg (by decide), if_pos rfl, bd1_i rfl]
  by_cases c1 : 1 ≤ r
  · have ev : N r - 1 = N (r - 1) := by rw [N_lit 1, N_sub c1]
    rw [ev, N_K (a := c) (by omega), N_K (a := nx) (by omega), show (0 : Int64) = K 0 from rfl, q_isIn (by omega) (by omega) (by omega) (by omega) (by omega) (by omega), if_pos (by omega), bd1_i rfl, if_neg (by decide), N_K (a := r - 1) (by omega), N_K (a := ny) (by omega), q_isIn (by omega) (by omega) (by omega) (by omega) (by omega) (by omega), if_pos (by omega), bd1_i rfl, if_neg (by decide), bd1_i rfl, if_neg (by decide), if_pos ((N_le (by omega) (by omega)).mpr (by omega)), bd1_i rfl, if_neg (fun q => by have := (N_le (by omega) (by omega)).mp q; omega), bd1_i rfl, if_neg (by decide), bd1_i rfl]
    by_cases c2 : q_wN n I c (r - 1)
    · refine ⟨ce, wa, F, k, s, ?_, hp, fun v hv => ?_, fun v hv => hv, rfl⟩
      · rw [(q_freeN hg he (c := c) (r := r - 1) hc (by omega)).1 c2, bd1_i rfl, if_pos rfl, bd1_i rfl, if_pos rfl, bd3_i rfl, lt_e, e0]
      · exfalso
        obtain ⟨e, a⟩ := hv
        subst e
        obtain ⟨_, _, _, _, a⟩ := a
        dsimp only at a
        rcases a with a | a | a | a
        · have := congrArg Prod.fst a.1; have := congrArg Prod.snd a.1; dsimp only at *; omega
        · have := congrArg Prod.fst a.1; have := congrArg Prod.snd a.1; dsimp only at *; omega
        · have := congrArg Prod.fst a.1; have := congrArg Prod.snd a.1; dsimp only at *; omega
        · exact a.2 c2
    · have hadj : q_A n I nx ny (c, r) (c, r - 1) := ⟨hc, hr, by dsimp only; omega, by dsimp only; omega, Or.inr (Or.inr (Or.inr ⟨by dsimp only; congr 1; omega, c2⟩))⟩
      obtain ⟨ce', wa', F', k', s', e1, e2, e3, e4, e5⟩ := q_Rwet hx hy hp (c := c) (r := r - 1) (by omega) (by omega) (hcon.step hadj) hl hb hk
      refine ⟨ce', wa', F', k', s', ?_, e2, fun v hv => by rw [hv.1]; exact e3, e4, e5⟩
      rw [(q_freeN hg he (c := c) (r := r - 1) hc (by omega)).2 c2, bd1_i rfl, if_neg (by decide), bd1_i rfl, if_neg (by decide), bd3_i e1, lt_e, e0]
  · have ev : N r - 1 = J (-1) := by rw [show r = 0 by omega]; decide
    refine ⟨ce, wa, F, k, s, ?_, hp, fun v hv => by obtain ⟨e, _, _, _, _, a⟩ := hv; subst e; dsimp only at a; rcases a with a | a | a | a <;> (have := congrArg Prod.fst a.1; have := congrArg Prod.snd a.1; dsimp only at *; omega), fun v hv => hv, rfl⟩
    rw [N_K (a := c) (by omega), N_K (a := nx) (by omega), show (0 : Int64) = K 0 from rfl, q_isIn (by omega) (by omega) (by omega) (by omega) (by omega) (by omega), if_pos (by omega), bd1_i rfl, if_neg (by decide), ev, J_K (by omega) (by omega), N_K (a := ny) (by omega), q_isIn (by omega) (by omega) (by omega) (by omega) (by omega) (by omega), if_neg (by omega), bd1_i rfl, if_pos rfl, bd1_i rfl, if_pos rfl, bd1_i rfl, if_pos rfl, bd3_i rfl, lt_e]
    rw [e0]
theorem q_Rfill_L {n : Nat} {I : Sto} {nx ny : Nat} {lab : Int} {F0 : Ce → Int} {u0 : Ce} {fe ue : Nat → Int32} (hg : q_gi n I nx ny) (he : q_re nx ny fe ue (q_wE n I) (q_wN n I)) (hl : lab ≠ -3) (hb : -3 ≤ lab ∧ lab ≤ 1000) :
    ∀ fuel k ce wa F s, k + q_dry nx ny (-3) F < fuel → k + q_dry nx ny (-3) F ≤ 1681 → q_st 42 nx ny (q_A n I nx ny) (-3) lab F0 u0 (fun _ => False) ce wa F k s →
    ∃ ce' wa' F' s', m_Mo_fill_L16 (J lab) (N nx) (N ny) fe ue fuel (N k) ce wa = some (ce', wa') ∧ q_st 42 nx ny (q_A n I nx ny) (-3) lab F0 u0 (fun _ => False) ce' wa' F' 0 s' ∧ (∀ v, F v ≠ -3 → F' v ≠ -3) := by
  have hx := hg.2.1
  have hy := hg.2.2.1
  intro fuel
  induction fuel with
  | zero => intro k ce wa F s h; omega
  | succ m ih =>
    intro k ce wa F s ht hm hst
    rw [m_Mo_fill_L16]
    cases k with
    | zero =>
      refine ⟨ce, wa, F, s, ?_, hst, fun v hv => hv⟩
      rw [if_pos (by decide)]
    | succ k =>
      rcases q_st_pop hst with ⟨hp, hcon⟩ | hbad
      case inr => exact (hl hbad).elim
      obtain ⟨ew, hc, hr⟩ := hst.2.2.1 k (by omega)
      generalize hu : s k = u at hp hcon ew hc hr
      obtain ⟨c, r⟩ := u
      dsimp only at ew hc hr
      have e0 : N (k + 1) + (-1) = N k := by rw [show (-1 : Int32) = J (-1) from rfl, N_pred (by omega)]; rfl
      have e10 : N (42 * c + r) / 42 = N c := by rw [N_lit 42, N_div (by omega) (by omega)]; congr 1; omega
      have e11 : N (42 * c + r) - N c * 42 = N r := by rw [N_lit 42, N_mul, N_sub (by omega)]; congr 1; omega
      rw [if_neg (by rw [N_lit 0]; exact fun q => by have := (N_le (by omega) (by omega)).mp q; omega), lt_e, e0, gI_N (by omega) (by omega), N_nat (by omega), lt_e, ew, gI_N (by omega) (by omega), lt_e, e10, e11]
      obtain ⟨ce1, wa1, F1, k1, s1, z1, p1, g1, m1, d1⟩ := q_RgoE hg he hl hb hc hr hcon hp (by omega) 999999
      obtain ⟨ce2, wa2, F2, k2, s2, z2, p2, g2, m2, d2⟩ := q_RgoN hg he hl hb hc hr hcon p1 (by omega) 999998
      obtain ⟨ce3, wa3, F3, k3, s3, z3, p3, g3, m3, d3⟩ := q_RgoW hg he hl hb hc hr hcon p2 (by omega) 999997
      obtain ⟨ce4, wa4, F4, k4, s4, z4, p4, g4, m4, d4⟩ := q_RgoS hg he hl hb hc hr hcon p3 (by omega) 999996
      have z5 : m_Mo_fill_L48 (J lab) (N c) (N r) (N nx) (N ny) fe ue 999996 (N k4) 4 ce4 wa4 = some (N k4, ce4, wa4) := by
        rw [show (999996 : Nat) = 999995 + 1 from rfl, m_Mo_fill_L48, if_pos (by decide)]
      have z : m_Mo_fill_L48 (J lab) (N c) (N r) (N nx) (N ny) fe ue fu (N k) 0 ce wa = some (N k4, ce4, wa4) := by
        rw [show fu = 999999 + 1 from rfl, z1, show (999999 : Nat) = 999998 + 1 from rfl, z2, show (999998 : Nat) = 999997 + 1 from rfl, z3, show (999997 : Nat) = 999996 + 1 from rfl, z4, z5]
      rw [bd3_i z]
      obtain ⟨ce', wa', F', s', e, q, mm⟩ := ih k4 ce4 wa4 F4 s4 (by omega) (by omega) (q_st_close p4 (fun v hv => by
        have hv' := hv
        obtain ⟨_, _, _, _, a⟩ := hv
        rcases a with a | a | a | a
        · exact m4 _ (m3 _ (m2 _ (g1 v ⟨a.1, hv'⟩)))
        · refine m4 _ (g3 v ⟨?_, hv'⟩)
          have e1 := congrArg Prod.fst a.1; have e2 := congrArg Prod.snd a.1; dsimp only at e1 e2
          rw [e1, e2]; rfl
        · exact m4 _ (m3 _ (g2 v ⟨a.1, hv'⟩))
        · refine g4 v ⟨?_, hv'⟩
          have e1 := congrArg Prod.fst a.1; have e2 := congrArg Prod.snd a.1; dsimp only at e1 e2
          rw [e1, e2]; rfl))
      exact ⟨ce', wa', F', s', e, q, fun v hv => mm v (m4 _ (m3 _ (m2 _ (m1 _ hv))))⟩
theorem q_Rfill {n : Nat} {I : Sto} {nx ny : Nat} {lab : Int} {F0 : Ce → Int} {fe ue wa ce : Nat → Int32} {c r : Nat} (hg : q_gi n I nx ny) (he : q_re nx ny fe ue (q_wE n I) (q_wN n I)) (hl : lab ≠ -3) (hb : -3 ≤ lab ∧ lab ≤ 1000)
    (hc : c ≤ nx) (hr : r ≤ ny) (hF : ∀ v, -3 ≤ F0 v ∧ F0 v ≤ 1000) (hce : ∀ c r, c ≤ nx → r ≤ ny → ce (42 * c + r) = J (F0 (c, r))) (hd : F0 (c, r) = -3) (hcl : ∀ a b, F0 a ≠ -3 → q_A n I nx ny a b → F0 b ≠ -3) :
    ∃ ce' wa', ∃ F' : Ce → Int, m_Mo_fill (N (42 * c + r)) (J lab) (N nx) (N ny) ce fe ue wa = some (ce', wa') ∧ (∀ v, -3 ≤ F' v ∧ F' v ≤ 1000) ∧ (∀ c r, c ≤ nx → r ≤ ny → ce' (42 * c + r) = J (F' (c, r))) ∧
      ∀ v, (q_con (q_A n I nx ny) (c, r) v → F' v = lab ∧ F0 v = -3) ∧ (¬ q_con (q_A n I nx ny) (c, r) v → F' v = F0 v) := by
  have hx := hg.2.1
  have hy := hg.2.2.1
  have h0 : q_st 42 nx ny (q_A n I nx ny) (-3) lab F0 (c, r) (fun _ => False) ce wa F0 0 (fun _ => (0, 0)) :=
    ⟨hF, hce, fun i h => by omega, ⟨fun v => Or.inl rfl, fun i h => by omega⟩, fun u hu hu0 => (hl (hu.symm.trans hu0)).elim⟩
  have hk : q_dry nx ny (-3) F0 ≤ 1681 := by have := q_cnt_le (fun i => i / 41 ≤ nx ∧ i % 41 ≤ ny ∧ F0 (i / 41, i % 41) = -3) 1681; unfold q_dry; omega
  have h1 := q_st_wet h0 hc hr (by omega) hd (q_con.refl _) hl hb
  have hd1 := q_dry_set (nx := nx) (ny := ny) (D := -3) (lab := lab) hc hr hx hy hd hl
  obtain ⟨ce2, wa2, F2, s2, z2, p2, m2⟩ := q_Rfill_L hg he hl hb fu 1 _ _ _ _ (by unfold fu; omega) (by omega) h1
  refine ⟨ce2, wa2, F2, ?_, p2.1, p2.2.1, ?_⟩
  · unfold m_Mo_fill
    rw [show (0 : Int32) = N 0 from rfl, gI_N (by omega) (by omega), lt_e, N_nat (by omega), gI_N (by omega) (by omega), lt_e, N_nat (by omega), show (1 : Int32) = N 1 from rfl, bd2_i z2]
  · refine q_fl_end q_A_symm hcl p2.2.2.2.1 p2.2.2.2.2 ?_ hd
    rcases p2.2.2.2.1.1 (c, r) with e | e
    · exact ((m2 (c, r) (by unfold q_set; rw [if_pos rfl]; exact hl)) (e.trans hd)).elim
    · exact e.2.1
theorem q_Rdry_L : ∀ fuel k (ce : Nat → Int32), 1764 - k < fuel → k ≤ 1764 → m_Mo_findSpaces_L2 fuel (N k) ce = some (fun j => if k ≤ j ∧ j < 1764 then J (-3) else ce j) := by
  intro fuel
  induction fuel with
  | zero => intro k ce h; omega
  | succ m ih =>
    intro k ce h hk
    rw [m_Mo_findSpaces_L2]
    by_cases c : 1764 ≤ k
    · rw [if_pos (by rw [N_lit 1764]; exact (N_le (by omega) (by omega)).mpr c)]
      congr 1; funext j; rw [if_neg (by omega)]
    · rw [if_neg (by rw [N_lit 1764]; exact fun q => c ((N_le (by omega) (by omega)).mp q)), gI_N (by omega) (by omega), lt_e, lt_e, N_nat (by omega), N_lit 1, N_add, ih _ _ (by omega) (by omega)]
      congr 1; funext j
      by_cases e : j = k
      · subst e; rw [if_neg (by omega), if_pos (by omega), upd_s]; rfl
      · rw [upd_n _ _ e]
        by_cases c2 : k ≤ j ∧ j < 1764
        · rw [if_pos c2, if_pos (by omega)]
        · rw [if_neg c2, if_neg (by omega)]
theorem q_Rnum_L46 {n : Nat} {I : Sto} {nx ny : Nat} {fe ue : Nat → Int32} {c : Nat} (hg : q_gi n I nx ny) (he : q_re nx ny fe ue (q_wE n I) (q_wN n I)) (hc : c ≤ nx) :
    ∀ fuel r wa ns ce F, ny + 1 - r < fuel → r ≤ ny + 1 → q_cc 42 nx ny ce F → q_se n I nx ny (-3) F ns (41 * c + r) →
    ∃ wa' ns' ce' F', m_Mo_findSpaces_L46 (N c) (N nx) (N ny) fe ue fuel (N r) (N ns) ce wa = some (N ns', ce', wa') ∧ q_cc 42 nx ny ce' F' ∧ q_se n I nx ny (-3) F' ns' (41 * c + (ny + 1)) := by
  have hx := hg.2.1
  have hy := hg.2.2.1
  intro fuel
  induction fuel with
  | zero => intro r wa ns ce F h; omega
  | succ m ih =>
    intro r wa ns ce F hm hr hce hse
    rw [m_Mo_findSpaces_L46]
    by_cases c1 : ny < r
    · rw [if_pos ((N_lt (by omega) (by omega)).mpr c1)]
      exact ⟨wa, ns, ce, F, rfl, hce, by rw [show ny + 1 = r by omega]; exact hse⟩
    · have hns : ns ≤ 81 := by rw [hse.2.2.2.2.1]; exact q_fc_81 hg (by omega)
      have hF := hse.1 (c, r)
      rw [if_neg (fun q => c1 ((N_lt (by omega) (by omega)).mp q)), show 42 * N c + N r = N (42 * c + r) from by rw [N_lit 42, N_mul, N_add], gI_N (by omega) (by omega), N_nat (by omega), hce c r (by omega) (by omega), show (-3 : Int32) = J (-3) from rfl]
      by_cases e : F (c, r) = -3
      · have hb : ∀ x : Nat, x ≤ 81 → (-3 : Int) ≤ x ∧ (x : Int) ≤ 1000 := fun x h => by omega
        obtain ⟨ce', wa', F', z1, b1, b2, b3⟩ := q_Rfill (n := n) (I := I) (wa := wa) (lab := (ns : Int)) hg he (by omega) (hb ns hns) (c := c) (r := r) (by omega) (by omega) hse.1 hce e hse.2.1
        obtain ⟨hf, hse'⟩ := q_se_new hy hse (by omega) (by omega) e (by omega) b1 b3
        have hns' : ns + 1 ≤ 81 := by rw [hse'.2.2.2.2.1]; exact q_fc_81 hg (by omega)
        obtain ⟨wa1, ns1, ce1, F1, k1, k2, k3⟩ := ih (r + 1) wa' (ns + 1) ce' F' (by omega) (by omega) b2 (by rw [← Nat.add_assoc]; exact hse')
        refine ⟨wa1, ns1, ce1, F1, ?_, k2, k3⟩
        rw [e, if_pos rfl, show N ns = J (ns : Int) from rfl, bd2_i z1, lt_e, bd3_i rfl, lt_e, show J (ns : Int) + 1 = N (ns + 1) from by rw [N_lit 1, ← N_J, N_add], N_lit 1, N_add]
        exact k1
      · obtain ⟨wa1, ns1, ce1, F1, k1, k2, k3⟩ := ih (r + 1) wa ns ce F (by omega) (by omega) hce (by
          rw [← Nat.add_assoc]
          exact q_se_on hy hse (fun v hv ev => by
            have : v = (c, r) := q_en_inj (Nat.le_trans hv.2 hy) (by dsimp only; omega) ev
            rw [this]; exact e))
        refine ⟨wa1, ns1, ce1, F1, ?_, k2, k3⟩
        rw [if_neg (fun q => e ((J_eq (by omega) (by omega) (by omega) (by omega)).mp q)), bd3_i rfl, lt_e, N_lit 1, N_add]
        exact k1
theorem q_Rnum_L36 {n : Nat} {I : Sto} {nx ny : Nat} {fe ue : Nat → Int32} (hg : q_gi n I nx ny) (he : q_re nx ny fe ue (q_wE n I) (q_wN n I)) :
    ∀ fuel c wa ns ce F, nx + 1 - c < fuel → c ≤ nx + 1 → q_cc 42 nx ny ce F → q_se n I nx ny (-3) F ns (41 * c) →
    ∃ wa' ns' ce' F', m_Mo_findSpaces_L36 (N nx) (N ny) fe ue fuel (N c) (N ns) ce wa = some (N ns', ce', wa') ∧ q_cc 42 nx ny ce' F' ∧ q_se n I nx ny (-3) F' ns' 1681 := by
  have hx := hg.2.1
  have hy := hg.2.2.1
  intro fuel
  induction fuel with
  | zero => intro c wa ns ce F h; omega
  | succ m ih =>
    intro c wa ns ce F hm hc hce hse
    rw [m_Mo_findSpaces_L36]
    by_cases c1 : nx < c
    · rw [if_pos ((N_lt (by omega) (by omega)).mpr c1)]
      refine ⟨wa, ns, ce, F, rfl, hce, ?_⟩
      have := q_se_to hy (1681 - 41 * c) (41 * c) hse (fun v hv a b => by have := hv.1; have := hv.2; unfold q_en at a; omega)
      rw [show 41 * c + (1681 - 41 * c) = 1681 by omega] at this
      exact this
    · obtain ⟨wa1, ns1, ce1, F1, k1, k2, k3⟩ := q_Rnum_L46 hg he (c := c) (by omega) fu 0 wa ns ce F (by unfold fu; omega) (by omega) hce hse
      have h2 := q_se_to hy (40 - ny) (41 * c + (ny + 1)) k3 (fun v hv a b => by have := hv.1; have := hv.2; unfold q_en at a b; omega)
      rw [show 41 * c + (ny + 1) + (40 - ny) = 41 * (c + 1) by omega] at h2
      obtain ⟨wa2, ns2, ce2, F2, j1, j2, j3⟩ := ih (c + 1) wa1 ns1 ce1 F1 (by omega) (by omega) k2 h2
      refine ⟨wa2, ns2, ce2, F2, ?_, j2, j3⟩
      rw [if_neg (fun q => c1 ((N_lt (by omega) (by omega)).mp q)), show (0 : Int32) = N 0 from rfl, bd3_i k1, lt_e, N_lit 1, N_add]
      exact j1
theorem q_Rflood {n : Nat} {I : Sto} {nx ny : Nat} {fe ue : Nat → Int32} (hg : q_gi n I nx ny) (he : q_re nx ny fe ue (q_wE n I) (q_wN n I)) (vs : Int32) (ce wa : Nat → Int32) :
    ∃ ns ce' wa' F, m_Mo_findSpaces (N nx) (N ny) vs ce fe ue wa = some (N ns, ce', wa') ∧ q_cc 42 nx ny ce' F ∧ q_labs n I nx ny F ns := by
  have hx := hg.2.1
  have hy := hg.2.2.1
  have e1 := q_Rdry_L fu 0 ce (by unfold fu; omega) (by omega)
  obtain ⟨ce3, wa3, F3, e3, b1, b2, b3⟩ := q_Rfill (n := n) (I := I) (wa := wa) (ce := fun j => if 0 ≤ j ∧ j < 1764 then J (-3) else ce j) (lab := -1) (F0 := fun _ => -3) hg he (by omega) (by omega) (c := 0) (r := 0) (by omega) (by omega) (fun v => by omega) (fun c r hc hr => by rw [if_pos (by omega)]) rfl (fun a b h => (h rfl).elim)
  have hse0 : q_se n I nx ny (-3) F3 0 0 := by
    refine ⟨b1, fun a b ha hab => ?_, fun v hv hd => ?_, fun v _ h => by omega, rfl, fun v hv => ?_⟩
    · by_cases q : q_C n I nx ny (0, 0) a
      · rw [((b3 b).1 (q.step hab)).1]; omega
      · exact (ha ((b3 a).2 q)).elim
    · by_cases q : q_C n I nx ny (0, 0) v
      · exact Or.inl ⟨q, ((b3 v).1 q).1⟩
      · exact (hd ((b3 v).2 q)).elim
    · rw [((b3 v).1 hv).1]; omega
  obtain ⟨wa4, ns4, ce4, F4, e4, k1, k2⟩ := q_Rnum_L36 hg he fu 0 wa3 0 ce3 F3 (by unfold fu; omega) (by omega) b2 hse0
  refine ⟨ns4, ce4, wa4, F4, ?_, k1, q_se_end hx hy k2⟩
  unfold m_Mo_findSpaces
  rw [show (0 : Int32) = N 0 from rfl, bd1_i e1, show (-1 : Int32) = J (-1) from rfl, show N 0 = N (42 * 0 + 0) from rfl, bd2_i e3, show N (42 * 0 + 0) = N 0 from rfl, bd3_i e4]
theorem q_labs_same {n : Nat} {I : Sto} {nx ny : Nat} {F F' : Ce → Int} {ns ns' : Nat} (hy : ny ≤ 40) (h : q_labs n I nx ny F ns) (h' : q_labs n I nx ny F' ns') : ns = ns' ∧ ∀ v, q_in nx ny v → F v = F' v :=
  ⟨h.2.trans h'.2.symm, fun v hv => q_isl_eq hy (h.1 v hv) (h'.1 v hv)⟩
/-! Nodes: on a line, its end, a point. -/
def q_on (I : Sto) (l i j : Nat) : Prop := xl I l ≤ i ∧ i ≤ xh I l ∧ yl I l ≤ j ∧ j ≤ yh I l
def q_end (I : Sto) (l i j : Nat) : Prop := (i = xl I l ∧ j = yl I l) ∨ (i = xh I l ∧ j = yh I l)
def q_pt (n : Nat) (I : Sto) (i j : Nat) : Prop := (∃ l, l < n ∧ q_end I l i j) ∨ ∃ l m, l < n ∧ m < n ∧ l ≠ m ∧ q_on I l i j ∧ q_on I m i j
noncomputable def q_wt (n : Nat) (I : Sto) (i j : Nat) : Nat := q_cnt (fun l => q_on I l i j) n + q_cnt (fun l => q_end I l i j) n
theorem q_cnt_two {p : Nat → Prop} : ∀ {n}, 2 ≤ q_cnt p n → ∃ l m, l < n ∧ m < n ∧ l ≠ m ∧ p l ∧ p m := by
  intro n
  induction n with
  | zero => intro h; unfold q_cnt at h; omega
  | succ n ih =>
    intro h
    have h0 : 2 ≤ q_cnt p n + q_one (p n) := h
    by_cases c : p n
    · rw [q_one_t c] at h0
      by_cases e : ∃ l, l < n ∧ p l
      · obtain ⟨l, hl, hp⟩ := e
        exact ⟨l, n, by omega, by omega, by omega, hp, c⟩
      · rw [q_cnt_none (fun i hi q => e ⟨i, hi, q⟩)] at h0; omega
    · rw [q_one_f c] at h0
      obtain ⟨l, m, a, b, d⟩ := ih (by omega)
      exact ⟨l, m, by omega, by omega, d⟩
theorem q_two_cnt {p : Nat → Prop} : ∀ {n l m}, l < n → m < n → l ≠ m → p l → p m → 2 ≤ q_cnt p n := by
  intro n l m hl hm hne h1 h2
  have a := q_cnt_lt (p := fun i => p i ∧ i ≠ l) (p' := p) (k := l) (m := n) (fun i _ q => q.1) hl h1 (fun q => q.2 rfl)
  have b := q_cnt_pos (p := fun i => p i ∧ i ≠ l) (k := m) hm ⟨h2, fun q => hne q.symm⟩
  omega
theorem q_wt_pt {n : Nat} {I : Sto} {nx ny : Nat} (hg : q_gi n I nx ny) (i j : Nat) : 2 ≤ q_wt n I i j ↔ q_pt n I i j := by
  have hon : ∀ l, l < n → q_end I l i j → q_on I l i j := by
    intro l hl h
    have := hg.2.2.2.1 l hl
    unfold q_end at h
    unfold q_on
    omega
  constructor
  · intro h
    by_cases c : ∃ l, l < n ∧ q_end I l i j
    · exact Or.inl c
    · unfold q_wt at h
      rw [q_cnt_none (p := fun l => q_end I l i j) (fun l hl q => c ⟨l, hl, q⟩)] at h
      exact Or.inr (q_cnt_two h)
  · intro h
    unfold q_wt
    rcases h with ⟨l, hl, h⟩ | ⟨l, m, hl, hm, hne, h1, h2⟩
    · have a := q_cnt_pos (p := fun l => q_end I l i j) hl h
      have b := q_cnt_pos (p := fun l => q_on I l i j) hl (hon l hl h)
      omega
    · have := q_two_cnt (p := fun l => q_on I l i j) hl hm hne h1 h2; omega
theorem q_node (c r : Nat) : m_Ne_node (N c) (N r) = some (N (40 * c + r)) := by
  unfold m_Ne_node; rw [N_lit 40, N_mul, N_add, Nat.mul_comm]
def q_nr (nx ny : Nat) (f : Nat → Int32) (W : Nat → Nat → Nat) : Prop := ∀ i j, i < nx → j < ny → f (40 * i + j) = N (W i j)
theorem q_nr.congr {nx ny : Nat} {f : Nat → Int32} {W W' : Nat → Nat → Nat} (h : q_nr nx ny f W) (e : ∀ i j, i < nx → j < ny → W i j = W' i j) : q_nr nx ny f W' := fun i j hi hj => by rw [h i j hi hj, e i j hi hj]
theorem q_weigh0_L {nx ny : Nat} (hx : nx ≤ 40) (hy : ny ≤ 40) : ∀ fuel k f, nx - k < fuel → k ≤ nx → q_nr k ny f (fun _ _ => 0) → ∃ f', m_Ne_weigh_L2 (N nx) (N ny) fuel (N k) f = some f' ∧ q_nr nx ny f' (fun _ _ => 0) := by
  intro fuel
  induction fuel with
  | zero => intro k f h; omega
  | succ m ih =>
    intro k f h hk hq
    rw [m_Ne_weigh_L2]
    by_cases c : nx ≤ k
    · rw [if_pos ((N_le (by omega) (by omega)).mpr c)]
      exact ⟨f, rfl, by rw [show nx = k by omega]; exact hq⟩
    · rw [if_neg (fun q => c ((N_le (by omega) (by omega)).mp q)), N_lit 0, q_node, bd1_i rfl, q_node, bd1_i rfl, q_fill1 _ (by omega) (by omega) (by omega), bd1_i rfl, lt_e, N_lit 1, N_add]
      refine ih (k + 1) _ (by omega) (by omega) (fun i j hi hj => ?_)
      by_cases e : i = k
      · subst e; rw [if_pos (by omega)]
      · rw [if_neg (by omega)]; exact hq i j (by omega) hj
/-! Weights along a flat line, along an upright one. -/
theorem q_weighF_L {nx ny a b row : Nat} (hx : nx ≤ 40) (hy : ny ≤ 40) (hb : b < nx) (hr : row < ny) : ∀ fuel k f W, b + 1 - k < fuel → a ≤ k → k ≤ b + 1 → q_nr nx ny f W →
    ∃ f', m_Ne_weigh_L135 (N (40 * a + row)) (N (40 * b + row)) 40 fuel (N (40 * k + row)) f = some f' ∧ q_nr nx ny f' (fun i j => W i j + (if j = row ∧ k ≤ i ∧ i ≤ b then (if i = a ∨ i = b then 2 else 1) else 0)) := by
  intro fuel
  induction fuel with
  | zero => intro k f W h; omega
  | succ m ih =>
    intro k f W h hak hk hq
    rw [m_Ne_weigh_L135]
    by_cases c : b < k
    · rw [if_pos ((N_lt (by omega) (by omega)).mpr (by omega))]
      exact ⟨f, rfl, hq.congr (fun i j _ _ => by rw [if_neg (by omega)]; rfl)⟩
    · have ew : (if N (40 * k + row) = N (40 * a + row) then some (2 : Int32) else if N (40 * k + row) = N (40 * b + row) then some 2 else some 1) = some (N (if k = a ∨ k = b then 2 else 1)) := by
        by_cases e1 : k = a
        · rw [if_pos (by rw [e1]), if_pos (Or.inl e1)]; rfl
        · rw [if_neg (fun q => e1 (by have := (N_eq (by omega) (by omega)).mp q; omega))]
          by_cases e2 : k = b
          · rw [if_pos (by rw [e2]), if_pos (Or.inr e2)]; rfl
          · rw [if_neg (fun q => e2 (by have := (N_eq (by omega) (by omega)).mp q; omega)), if_neg (by omega)]; rfl
      obtain ⟨f', z, hz⟩ := ih (k + 1) (upd f (40 * k + row) (N (W k row + (if k = a ∨ k = b then 2 else 1)))) (fun i j => if i = k ∧ j = row then W k row + (if k = a ∨ k = b then 2 else 1) else W i j) (by omega) (by omega) (by omega) (by
        intro i j hi hj
        dsimp only
        by_cases e : i = k ∧ j = row
        · rw [if_pos e, e.1, e.2, upd_s]
        · rw [if_neg e, upd_n _ _ (fun q => e (by obtain ⟨u, v⟩ := q_enc (w := 40) (by omega) (by omega) q; exact ⟨u, v⟩))]; exact hq i j hi hj)
      refine ⟨f', ?_, hz.congr (fun i j hi hj => ?_)⟩
      · rw [if_neg (fun q => c (by have := (N_lt (by omega) (by omega)).mp q; omega)), gI_N (by omega) (by omega), ew, bd1_i rfl, gI_N (by omega) (by omega), lt_e, lt_e, N_nat (by omega), hq k row (by omega) hr, N_add, N_lit 40, N_add, show 40 * k + row + 40 = 40 * (k + 1) + row by omega]
        exact z
      · by_cases e : i = k ∧ j = row
        · obtain ⟨e1, e2⟩ := e; subst e1; subst e2
          rw [if_pos ⟨rfl, rfl⟩]
          generalize (if i = a ∨ i = b then 2 else 1) = w
          rw [if_neg (show ¬ (j = j ∧ i + 1 ≤ i ∧ i ≤ b) by omega), if_pos (show j = j ∧ i ≤ i ∧ i ≤ b by omega)]; rfl
        · rw [if_neg e]
          by_cases e3 : j = row ∧ k + 1 ≤ i ∧ i ≤ b
          · rw [if_pos e3, if_pos (show j = row ∧ k ≤ i ∧ i ≤ b by omega)]
          · rw [if_neg e3, if_neg (show ¬ (j = row ∧ k ≤ i ∧ i ≤ b) by omega)]
theorem q_weighU_L {nx ny a b col : Nat} (hx : nx ≤ 40) (hy : ny ≤ 40) (hb : b < ny) (hr : col < nx) : ∀ fuel k f W, b + 1 - k < fuel → a ≤ k → k ≤ b + 1 → q_nr nx ny f W →
    ∃ f', m_Ne_weigh_L135 (N (40 * col + a)) (N (40 * col + b)) 1 fuel (N (40 * col + k)) f = some f' ∧ q_nr nx ny f' (fun i j => W i j + (if i = col ∧ k ≤ j ∧ j ≤ b then (if j = a ∨ j = b then 2 else 1) else 0)) := by
  intro fuel
  induction fuel with
  | zero => intro k f W h; omega
  | succ m ih =>
    intro k f W h hak hk hq
    rw [m_Ne_weigh_L135]
    by_cases c : b < k
    · rw [if_pos ((N_lt (by omega) (by omega)).mpr (by omega))]
      exact ⟨f, rfl, hq.congr (fun i j _ _ => by rw [if_neg (by omega)]; rfl)⟩
    · have ew : (if N (40 * col + k) = N (40 * col + a) then some (2 : Int32) else if N (40 * col + k) = N (40 * col + b) then some 2 else some 1) = some (N (if k = a ∨ k = b then 2 else 1)) := by
        by_cases e1 : k = a
        · rw [if_pos (by rw [e1]), if_pos (Or.inl e1)]; rfl
        · rw [if_neg (fun q => e1 (by have := (N_eq (by omega) (by omega)).mp q; omega))]
          by_cases e2 : k = b
          · rw [if_pos (by rw [e2]), if_pos (Or.inr e2)]; rfl
          · rw [if_neg (fun q => e2 (by have := (N_eq (by omega) (by omega)).mp q; omega)), if_neg (by omega)]; rfl
      obtain ⟨f', z, hz⟩ := ih (k + 1) (upd f (40 * col + k) (N (W col k + (if k = a ∨ k = b then 2 else 1)))) (fun i j => if i = col ∧ j = k then W col k + (if k = a ∨ k = b then 2 else 1) else W i j) (by omega) (by omega) (by omega) (by
        intro i j hi hj
        dsimp only
        by_cases e : i = col ∧ j = k
        · rw [if_pos e, e.1, e.2, upd_s]
        · rw [if_neg e, upd_n _ _ (fun q => e (by obtain ⟨u, v⟩ := q_enc (w := 40) (by omega) (by omega) q; exact ⟨u, v⟩))]; exact hq i j hi hj)
      refine ⟨f', ?_, hz.congr (fun i j hi hj => ?_)⟩
      · rw [if_neg (fun q => c (by have := (N_lt (by omega) (by omega)).mp q; omega)), gI_N (by omega) (by omega), ew, bd1_i rfl, gI_N (by omega) (by omega), lt_e, lt_e, N_nat (by omega), hq col k hr (by omega), N_add, N_lit 1, N_add, show 40 * col + k + 1 = 40 * col + (k + 1) by omega]
        exact z
      · by_cases e : i = col ∧ j = k
        · obtain ⟨e1, e2⟩ := e; subst e1; subst e2
          rw [if_pos ⟨rfl, rfl⟩]
          generalize (if j = a ∨ j = b then 2 else 1) = w
          rw [if_neg (show ¬ (i = i ∧ j + 1 ≤ j ∧ j ≤ b) by omega), if_pos (show i = i ∧ j ≤ j ∧ j ≤ b by omega)]; rfl
        · rw [if_neg e]
          by_cases e3 : i = col ∧ k + 1 ≤ j ∧ j ≤ b
          · rw [if_pos e3, if_pos (show i = col ∧ k ≤ j ∧ j ≤ b by omega)]
          · rw [if_neg e3, if_neg (show ¬ (i = col ∧ k ≤ j ∧ j ≤ b) by omega)]
theorem q_isFlat {n : Nat} {T : Sto} {f1 f2 f3 f4 : Nat → Int32} (hok : q_ok n T) (hc : q_cl n T f1 f2 f3 f4) {l : Nat} (hl : l < n) : m_Li_isFlat (N l) f2 f4 = some (if yl T l = yh T l then 1 else 0) := by
  have hn := hok.1
  have := hok.2.1 l hl
  unfold q_ln at this
  obtain ⟨_, h2, _, h4⟩ := hc l hl
  unfold m_Li_isFlat
  rw [gI_N (by omega) (by omega), gI_N (by omega) (by omega), N_nat (by omega), h2, h4]
  by_cases e : yl T l = yh T l
  · rw [if_pos (by rw [e]), if_pos e, bd1_i rfl, gB_1]
  · rw [if_neg (fun q => e ((N_eq (by omega) (by omega)).mp q)), if_neg e, bd1_i rfl, gB_0]
theorem q_weigh_L {n : Nat} {T I : Sto} {nx ny : Nat} {X Y : Nat → Nat} {fx fy f1 f2 f3 f4 : Nat → Int32} (hok : q_ok n T) (hg : q_gi n I nx ny) (hi : q_ix n T I X Y) (hc : q_cl n T f1 f2 f3 f4) (hr : q_gr nx ny X Y fx fy) :
    ∀ fuel l f, n - l < fuel → l ≤ n → q_nr nx ny f (q_wt l I) → ∃ f', m_Ne_weigh_L45 (N n) f1 f2 f3 f4 (N nx) fx (N ny) fy fuel (N l) f = some f' ∧ q_nr nx ny f' (q_wt n I) := by
  have hg' := hg
  obtain ⟨hn, hx, hy, hln, _⟩ := hg
  have hr' := hr
  obtain ⟨rx, ix, bx, ry, iy, by_⟩ := hr
  intro fuel
  induction fuel with
  | zero => intro l f h; omega
  | succ m ih =>
    intro l f hm hl hq
    rw [m_Ne_weigh_L45]
    by_cases c : n ≤ l
    · rw [if_pos ((N_le (by omega) (by omega)).mpr c)]
      have e : l = n := by omega
      subst e
      exact ⟨f, rfl, hq⟩
    · have hl' : l < n := by omega
      obtain ⟨a1, a2, a3⟩ := hln l hl'
      obtain ⟨e1, e2, e3, e4⟩ := hi l hl'
      obtain ⟨g1, g2, g3, g4⟩ := hc l hl'
      have hfl := q_isFlat hok hc hl'
      have fxx : yl T l = yh T l ↔ yl I l = yh I l := by rw [e2, e4, iy.eq_iff (by omega) a2]
      rw [if_neg (fun q => c ((N_le (by omega) (by omega)).mp q)), gI_N (by omega) (by omega), N_nat (by omega), g1, g2, g3, g4, e1, e2, e3, e4, q_indexOf rx ix hx bx (by omega), bd1_i rfl, gI_N (by omega) (by omega), q_indexOf ry iy hy by_ (by omega), bd1_i rfl, q_node, bd1_i rfl,
        gI_N (by omega) (by omega), q_indexOf rx ix hx bx (by omega), bd1_i rfl, gI_N (by omega) (by omega), q_indexOf ry iy hy by_ (by omega), bd1_i rfl, q_node, bd1_i rfl, hfl, bd1_i rfl]
      by_cases fl : yl T l = yh T l
      · have fl' := fxx.mp fl
        obtain ⟨f', z, hz⟩ := q_weighF_L (nx := nx) (ny := ny) (a := xl I l) (b := xh I l) (row := yl I l) hx hy (by omega) (by omega) fu (xl I l) f (q_wt l I) (by unfold fu; omega) (by omega) (by omega) hq
        rw [if_pos fl, if_neg (by decide), bd1_i rfl, ← fl', bd1_i z, lt_e, N_lit 1, N_add]
        refine ih (l + 1) f' (by omega) (by omega) (hz.congr (fun i j hi' hj => ?_))
        unfold q_wt
        show _ = q_cnt (fun l => q_on I l i j) l + q_one (q_on I l i j) + (q_cnt (fun l => q_end I l i j) l + q_one (q_end I l i j))
        by_cases c1 : j = yl I l ∧ xl I l ≤ i ∧ i ≤ xh I l
        · rw [if_pos c1, q_one_t (show q_on I l i j by unfold q_on; omega)]
          by_cases c2 : i = xl I l ∨ i = xh I l
          · rw [if_pos c2, q_one_t (show q_end I l i j by unfold q_end; omega)]; omega
          · rw [if_neg c2, q_one_f (show ¬ q_end I l i j by unfold q_end; omega)]; omega
        · rw [if_neg c1, q_one_f (show ¬ q_on I l i j by unfold q_on; omega), q_one_f (show ¬ q_end I l i j by unfold q_end; omega)]; omega
      · have fl' : ¬ yl I l = yh I l := fun q => fl (fxx.mpr q)
        obtain ⟨f', z, hz⟩ := q_weighU_L (nx := nx) (ny := ny) (a := yl I l) (b := yh I l) (col := xl I l) hx hy (by omega) (by omega) fu (yl I l) f (q_wt l I) (by unfold fu; omega) (by omega) (by omega) hq
        have ex : xh I l = xl I l := by omega
        rw [if_neg fl, if_pos rfl, bd1_i rfl, ex, bd1_i z, lt_e, N_lit 1, N_add]
        refine ih (l + 1) f' (by omega) (by omega) (hz.congr (fun i j hi' hj => ?_))
        unfold q_wt
        show _ = q_cnt (fun l => q_on I l i j) l + q_one (q_on I l i j) + (q_cnt (fun l => q_end I l i j) l + q_one (q_end I l i j))
        by_cases c1 : i = xl I l ∧ yl I l ≤ j ∧ j ≤ yh I l
        · rw [if_pos c1, q_one_t (show q_on I l i j by unfold q_on; omega)]
          by_cases c2 : j = yl I l ∨ j = yh I l
          · rw [if_pos c2, q_one_t (show q_end I l i j by unfold q_end; omega)]; omega
          · rw [if_neg c2, q_one_f (show ¬ q_end I l i j by unfold q_end; omega)]; omega
        · rw [if_neg c1, q_one_f (show ¬ q_on I l i j by unfold q_on; omega), q_one_f (show ¬ q_end I l i j by unfold q_end; omega)]; omega
theorem q_weigh {n : Nat} {T I : Sto} {nx ny : Nat} {X Y : Nat → Nat} {fx fy f1 f2 f3 f4 : Nat → Int32} (hok : q_ok n T) (hg : q_gi n I nx ny) (hi : q_ix n T I X Y) (hc : q_cl n T f1 f2 f3 f4) (hr : q_gr nx ny X Y fx fy) (f : Nat → Int32) :
    ∃ f', m_Ne_weigh f (N n) f1 f2 f3 f4 (N nx) fx (N ny) fy = some f' ∧ q_nr nx ny f' (q_wt n I) := by
  obtain ⟨fa, e1, h1⟩ := q_weigh0_L hg.2.1 hg.2.2.1 fu 0 f (by have := hg.2.1; unfold fu; omega) (by omega) (fun i j h => by omega)
  obtain ⟨fb, e2, h2⟩ := q_weigh_L hok hg hi hc hr fu 0 fa (by have := hg.1; unfold fu; omega) (by omega) h1
  refine ⟨fb, ?_, h2⟩
  unfold m_Ne_weigh
  rw [show (0 : Int32) = N 0 from rfl, bd1_i e1, bd1_i e2]
noncomputable def q_pn (n : Nat) (I : Sto) (t : Nat) : Nat := q_cnt (fun t => q_pt n I (t / 40) (t % 40)) t
theorem q_pn_s {n : Nat} {I : Sto} {i j : Nat} (hj : j < 40) : q_pn n I (40 * i + j + 1) = q_pn n I (40 * i + j) + q_one (q_pt n I i j) := by
  show q_cnt _ _ + q_one (q_pt n I ((40 * i + j) / 40) ((40 * i + j) % 40)) = _
  rw [show (40 * i + j) / 40 = i by omega, show (40 * i + j) % 40 = j by omega]; rfl
theorem q_pt_in {n : Nat} {I : Sto} {nx ny : Nat} (hg : q_gi n I nx ny) {i j : Nat} (h : q_pt n I i j) : i < nx ∧ j < ny := by
  rcases h with ⟨l, hl, h⟩ | ⟨l, m, hl, hm, hne, h1, h2⟩
  · have := hg.2.2.2.1 l hl; unfold q_end at h; omega
  · have := hg.2.2.2.1 l hl; unfold q_on at h1; omega
theorem q_cnt_orle {p a b : Nat → Prop} : ∀ {m}, (∀ i, i < m → p i → a i ∨ b i) → q_cnt p m ≤ q_cnt a m + q_cnt b m := by
  intro m
  induction m with
  | zero => intro _; exact Nat.zero_le _
  | succ m ih =>
    intro h
    have := ih (fun i hi => h i (by omega))
    show q_cnt p m + q_one (p m) ≤ q_cnt a m + q_one (a m) + (q_cnt b m + q_one (b m))
    by_cases c : p m
    · rw [q_one_t c]
      rcases h m (by omega) c with q | q
      · rw [q_one_t q]; omega
      · rw [q_one_t q]; omega
    · rw [q_one_f c]; omega
/-! Two lines through one inner node of both stand square. -/
theorem q_cross {n : Nat} {I : Sto} {nx ny : Nat} (hg : q_gi n I nx ny) {l m i j : Nat} (hl : l < n) (hm : m < n) (hne : l ≠ m) (h1 : q_on I l i j) (h2 : q_on I m i j) (he : ¬ q_end I l i j) :
    (yl I l < yh I l ∧ ¬ yl I m < yh I m ∧ i = xl I l ∧ j = yl I m) ∨ (yl I m < yh I m ∧ ¬ yl I l < yh I l ∧ i = xl I m ∧ j = yl I l) := by
  have a := hg.2.2.2.1 l hl
  have b := hg.2.2.2.1 m hm
  have c := hg.2.2.2.2 l m hl hm hne
  unfold q_on at h1 h2
  unfold q_end at he
  unfold q_apart at c
  omega
theorem q_100 {p q : Nat} (h : p + q ≤ 20) : p * q ≤ 100 := by
  have k : ∀ p, p < 21 → p * (20 - p) ≤ 100 := by decide
  exact Nat.le_trans (Nat.mul_le_mul_left p (show q ≤ 20 - p by omega)) (k p (by omega))
theorem q_pn_140 {n : Nat} {I : Sto} {nx ny : Nat} (hg : q_gi n I nx ny) {t : Nat} (ht : t ≤ 1600) : q_pn n I t ≤ 140 := by
  have hg' := hg
  obtain ⟨hn, hx, hy, hln, _⟩ := hg
  refine Nat.le_trans (q_cnt_monot (m' := 40 * 40) ht) ?_
  have h1 := q_cnt_orle (m := 40 * 40) (p := fun t => q_pt n I (t / 40) (t % 40)) (a := fun t => (∃ l, l < n ∧ True ∧ 40 * xl I l + yl I l = t) ∨ ∃ l, l < n ∧ True ∧ 40 * xh I l + yh I l = t)
    (b := fun t => (∃ l, l < n ∧ yl I l < yh I l ∧ xl I l = t / 40) ∧ ∃ l, l < n ∧ ¬ yl I l < yh I l ∧ yl I l = t % 40) (by
      intro t ht h
      by_cases e : ∃ l, l < n ∧ q_end I l (t / 40) (t % 40)
      · obtain ⟨l, hl, e⟩ := e
        left
        rcases e with e | e
        · exact Or.inl ⟨l, hl, trivial, by omega⟩
        · exact Or.inr ⟨l, hl, trivial, by omega⟩
      · rcases h with h | ⟨l, m, hl, hm, hne, a, b⟩
        · exact (e h).elim
        · right
          rcases q_cross hg' hl hm hne a b (fun q => e ⟨l, hl, q⟩) with ⟨c1, c2, c3, c4⟩ | ⟨c1, c2, c3, c4⟩
          · exact ⟨⟨l, hl, c1, c3.symm⟩, ⟨m, hm, c2, c4.symm⟩⟩
          · exact ⟨⟨m, hm, c1, c3.symm⟩, ⟨l, hl, c2, c4.symm⟩⟩)
  have h2 := q_cnt_orle (m := 40 * 40) (p := fun t => (∃ l, l < n ∧ True ∧ 40 * xl I l + yl I l = t) ∨ ∃ l, l < n ∧ True ∧ 40 * xh I l + yh I l = t) (a := fun t => ∃ l, l < n ∧ True ∧ 40 * xl I l + yl I l = t) (b := fun t => ∃ l, l < n ∧ True ∧ 40 * xh I l + yh I l = t) (fun i _ h => h)
  have h3 := q_cnt_img (U := fun _ => True) (f := fun l => 40 * xl I l + yl I l) (M := 40 * 40) n
  have h4 := q_cnt_img (U := fun _ => True) (f := fun l => 40 * xh I l + yh I l) (M := 40 * 40) n
  have h5 := q_cnt_le (fun _ => True) n
  have h6 := q_cnt_prod (w := 40) (A := fun c => ∃ l, l < n ∧ yl I l < yh I l ∧ xl I l = c) (B := fun r => ∃ l, l < n ∧ ¬ yl I l < yh I l ∧ yl I l = r) (p := fun t => (∃ l, l < n ∧ yl I l < yh I l ∧ xl I l = t / 40) ∧ ∃ l, l < n ∧ ¬ yl I l < yh I l ∧ yl I l = t % 40) (by omega) (fun i h => h) 40
  have h7 := q_cnt_img (U := fun l => yl I l < yh I l) (f := fun l => xl I l) (M := 40) n
  have h8 := q_cnt_img (U := fun l => ¬ yl I l < yh I l) (f := fun l => yl I l) (M := 40) n
  have h9 := q_cnt_part (U := fun l => yl I l < yh I l) n
  have h10 := Nat.le_trans h6 (Nat.le_trans (Nat.mul_le_mul h7 h8) (q_100 (by omega)))
  omega
def q_pr (n : Nat) (I : Sto) (nx ny : Nat) (X Y : Nat → Nat) (t : Nat) (pX pY pA : Nat → Int32) : Prop := ∀ i j, i < nx → j < ny → 40 * i + j < t →
  (q_pt n I i j → pA (40 * i + j) = N (q_pn n I (40 * i + j)) ∧ pX (q_pn n I (40 * i + j)) = N (X i) ∧ pY (q_pn n I (40 * i + j)) = N (Y j)) ∧ (¬ q_pt n I i j → pA (40 * i + j) = J (-1))
theorem q_pn_lt {n : Nat} {I : Sto} {i j t : Nat} (hj : j < 40) (h : q_pt n I i j) (ht : 40 * i + j < t) : q_pn n I (40 * i + j) < q_pn n I t := by
  have a := q_pn_s (n := n) (I := I) (i := i) hj
  rw [q_one_t h] at a
  have b : q_pn n I (40 * i + j + 1) ≤ q_pn n I t := q_cnt_monot (by omega)
  omega
theorem q_Cpts_L20 {n : Nat} {I : Sto} {nx ny : Nat} {X Y : Nat → Nat} {fx fy w : Nat → Int32} (hg : q_gi n I nx ny) (hr : q_gr nx ny X Y fx fy) (hw : q_nr nx ny w (q_wt n I)) {i : Nat} (hi : i < nx) :
    ∀ fuel j pX pY pA, ny - j < fuel → j ≤ ny → q_pr n I nx ny X Y (40 * i + j) pX pY pA →
    ∃ pX' pY' pA', m_Ne_numberPoints_L20 (N i) w fx (N ny) fy fuel (N j) (N (q_pn n I (40 * i + j))) pX pY pA = some (N (q_pn n I (40 * i + ny)), pX', pY', pA') ∧ q_pr n I nx ny X Y (40 * i + ny) pX' pY' pA' := by
  have hx := hg.2.1
  have hy := hg.2.2.1
  intro fuel
  induction fuel with
  | zero => intro j pX pY pA h; omega
  | succ m ih =>
    intro j pX pY pA hm hj hq
    rw [m_Ne_numberPoints_L20]
    by_cases c : ny ≤ j
    · rw [if_pos ((N_le (by omega) (by omega)).mpr c)]
      have e : j = ny := by omega
      subst e
      exact ⟨pX, pY, pA, rfl, hq⟩
    · have hb := q_pn_140 hg (t := 40 * i + j) (by omega)
      have hb' := q_pn_140 hg (t := 40 * i + j + 1) (by omega)
      have hs := q_pn_s (n := n) (I := I) (i := i) (j := j) (by omega)
      have hwb : q_wt n I i j ≤ 40 := by have := q_cnt_le (fun l => q_on I l i j) n; have := q_cnt_le (fun l => q_end I l i j) n; have := hg.1; unfold q_wt; omega
      rw [if_neg (fun q => c ((N_le (by omega) (by omega)).mp q)), q_node, bd1_i rfl, gI_N (by omega) (by omega), lt_e, gI_N (by omega) (by omega), N_nat (by omega), hw i j hi (by omega)]
      by_cases e : q_pt n I i j
      · have e2 := (q_wt_pt hg i j).mpr e
        rw [q_one_t e] at hs
        obtain ⟨pX', pY', pA', z, hz⟩ := ih (j + 1) (upd pX (q_pn n I (40 * i + j)) (N (X i))) (upd pY (q_pn n I (40 * i + j)) (N (Y j))) (upd (upd pA (40 * i + j) (-1)) (40 * i + j) (N (q_pn n I (40 * i + j)))) (by omega) (by omega) (by
          intro i' j' hi' hj' ht
          by_cases ec : 40 * i' + j' = 40 * i + j
          · obtain ⟨u, v⟩ := q_enc (w := 40) (by omega) (by omega) ec
            subst u; subst v
            rw [upd_s, upd_s, upd_s]
            exact ⟨fun _ => ⟨rfl, rfl, rfl⟩, fun q => (q e).elim⟩
          · rw [upd_n _ _ ec, upd_n _ _ ec]
            obtain ⟨h1, h2⟩ := hq i' j' hi' hj' (by omega)
            refine ⟨fun q => ?_, h2⟩
            have := q_pn_lt (n := n) (I := I) (t := 40 * i + j) (by omega) q (by omega)
            rw [upd_n _ _ (by omega), upd_n _ _ (by omega)]; exact h1 q)
        refine ⟨pX', pY', pA', ?_, hz⟩
        rw [N_lit 2, if_neg (fun q => by have := (N_lt (by omega) (by omega)).mp q; omega), N_lit 140, if_neg (fun q => by have := (N_le (by omega) (by omega)).mp q; omega), gI_N (by omega) (by omega), lt_e, gI_N (by omega) (by omega), gI_N (by omega) (by omega), lt_e, gI_N (by omega) (by omega), gI_N (by omega) (by omega), lt_e, lt_e, bd4_i rfl, lt_e,
          N_nat (by omega), N_nat (by omega), N_nat (by omega), hr.1 i hi, hr.2.2.2.1 j (by omega), N_lit 1, N_add, N_add, ← hs]
        exact z
      · have e2 : ¬ 2 ≤ q_wt n I i j := fun q => e ((q_wt_pt hg i j).mp q)
        rw [q_one_f e] at hs
        obtain ⟨pX', pY', pA', z, hz⟩ := ih (j + 1) pX pY (upd pA (40 * i + j) (-1)) (by omega) (by omega) (by
          intro i' j' hi' hj' ht
          by_cases ec : 40 * i' + j' = 40 * i + j
          · obtain ⟨u, v⟩ := q_enc (w := 40) (by omega) (by omega) ec
            subst u; subst v
            rw [upd_s]
            exact ⟨fun q => (e q).elim, fun _ => rfl⟩
          · rw [upd_n _ _ ec]; exact hq i' j' hi' hj' (by omega))
        refine ⟨pX', pY', pA', ?_, hz⟩
        rw [N_lit 2, if_pos ((N_lt (by omega) (by omega)).mpr (by omega)), bd4_i rfl, lt_e, N_lit 1, N_add]
        rw [show 40 * i + (j + 1) = 40 * i + j + 1 from rfl, hs, Nat.add_zero] at z
        exact z
theorem q_pn_to {n : Nat} {I : Sto} {nx ny : Nat} (hg : q_gi n I nx ny) {i : Nat} : ∀ j, j ≤ 40 → ny ≤ j → q_pn n I (40 * i + j) = q_pn n I (40 * i + ny) := by
  intro j
  induction j with
  | zero => intro _ h; rw [show ny = 0 by omega]
  | succ j ih =>
    intro h1 h2
    by_cases c : ny = j + 1
    · rw [c]
    · rw [show 40 * i + (j + 1) = 40 * i + j + 1 from rfl, q_pn_s (by omega), q_one_f (fun q => by have := (q_pt_in hg q).2; omega), ih (by omega) (by omega)]; rfl
theorem q_Cpts_L7 {n : Nat} {I : Sto} {nx ny : Nat} {X Y : Nat → Nat} {fx fy w : Nat → Int32} (hg : q_gi n I nx ny) (hr : q_gr nx ny X Y fx fy) (hw : q_nr nx ny w (q_wt n I)) :
    ∀ fuel i pX pY pA, nx - i < fuel → i ≤ nx → q_pr n I nx ny X Y (40 * i) pX pY pA →
    ∃ pX' pY' pA', m_Ne_numberPoints_L7 w (N nx) fx (N ny) fy fuel (N i) (N (q_pn n I (40 * i))) pX pY pA = some (N (q_pn n I (40 * nx)), pX', pY', pA') ∧ q_pr n I nx ny X Y (40 * nx) pX' pY' pA' := by
  have hx := hg.2.1
  have hy := hg.2.2.1
  intro fuel
  induction fuel with
  | zero => intro i pX pY pA h; omega
  | succ m ih =>
    intro i pX pY pA hm hi hq
    rw [m_Ne_numberPoints_L7]
    by_cases c : nx ≤ i
    · rw [if_pos ((N_le (by omega) (by omega)).mpr c)]
      have e : i = nx := by omega
      subst e
      exact ⟨pX, pY, pA, rfl, hq⟩
    · obtain ⟨a1, a2, a3, z1, h1⟩ := q_Cpts_L20 hg hr hw (i := i) (by omega) fu 0 pX pY pA (by unfold fu; omega) (by omega) hq
      obtain ⟨b1, b2, b3, z2, h2⟩ := ih (i + 1) a1 a2 a3 (by omega) (by omega) (fun i' j' hi' hj' ht => h1 i' j' hi' hj' (by omega))
      refine ⟨b1, b2, b3, ?_, h2⟩
      have e := q_pn_to hg (i := i) 40 (by omega) hy
      rw [if_neg (fun q => c ((N_le (by omega) (by omega)).mp q)), show (0 : Int32) = N 0 from rfl, show q_pn n I (40 * i) = q_pn n I (40 * i + 0) from rfl, bd4_i z1, lt_e, N_lit 1, N_add, ← e, show 40 * i + 40 = 40 * (i + 1) by omega]
      exact z2
/-! All points: q_pn at the end. -/
noncomputable def q_np (n : Nat) (I : Sto) (nx : Nat) : Nat := q_pn n I (40 * nx)
theorem q_Cpts {n : Nat} {I : Sto} {nx ny : Nat} {X Y : Nat → Nat} {fx fy w : Nat → Int32} (hg : q_gi n I nx ny) (hr : q_gr nx ny X Y fx fy) (hw : q_nr nx ny w (q_wt n I)) (v0 : Int32) (pX pY so pA : Nat → Int32) :
    ∃ pX' pY' so' pA', m_Ne_numberPoints v0 pX pY so w pA (N nx) fx (N ny) fy = some (N (q_np n I nx), pX', pY', so', pA') ∧ q_pr n I nx ny X Y (40 * nx) pX' pY' pA' ∧ ∀ k, k < 4 * q_np n I nx → so' k = J (-1) := by
  have hx := hg.2.1
  have hb := q_pn_140 hg (t := 40 * nx) (by omega)
  obtain ⟨a1, a2, a3, z1, h1⟩ := q_Cpts_L7 hg hr hw fu 0 pX pY pA (by unfold fu; omega) (by omega) (fun i j _ _ h => by omega)
  refine ⟨a1, a2, fun j => if 0 ≤ j ∧ j < q_np n I nx * 4 then J (-1) else so j, a3, ?_, h1, fun k hk => by dsimp only; rw [if_pos (by omega)]⟩
  unfold m_Ne_numberPoints
  rw [show N (q_pn n I (40 * 0)) = N 0 from rfl] at z1
  rw [show (0 : Int32) = N 0 from rfl, bd4_i z1, N_lit 4, N_mul, show (-1 : Int32) = J (-1) from rfl, q_fill1 _ (by omega) (by omega) (by omega), bd1_i rfl]
  rfl
theorem q_one0 (P : Prop) : (N (q_one P) = 0) ↔ ¬ P := by
  by_cases c : P
  · rw [q_one_t c]; exact ⟨fun q => absurd q (by decide), fun q => (q c).elim⟩
  · rw [q_one_f c]; exact ⟨fun _ => c, fun _ => rfl⟩
theorem gB_o {α : Type} (P : Prop) (x : Option α) : gB (N (q_one P)) x = x := by
  by_cases c : P
  · rw [q_one_t c]; exact gB_1 x
  · rw [q_one_f c]; exact gB_0 x
theorem q_ite1 {P : Prop} [Decidable P] : (if P then (1 : Int32) else 0) = N (q_one P) := by
  by_cases c : P
  · rw [if_pos c, q_one_t c]; rfl
  · rw [if_neg c, q_one_f c]; rfl
theorem q_isOn {n : Nat} {T : Sto} {fI fA fL fH : Nat → Int32} (hok : q_ok n T) (hc : q_rl n T fI fA fL fH) {l x y : Nat} (hl : l < n) (hx : x ≤ 500) (hy : y ≤ 500) : m_Mo_isOn (N l) (N x) (N y) fI fA fL fH = some (N (q_one (q_on T l x y))) := by
  have hn := hok.1
  have hq := hok.2.1 l hl
  unfold q_ln at hq
  unfold m_Mo_isOn
  rw [gI_N (by omega) (by omega), N_nat (by omega)]
  by_cases fl : yl T l = yh T l
  · obtain ⟨h1, h2, h3, h4⟩ := (hc l hl).1 fl
    rw [h1, h2, h3, h4, if_neg (by decide), gI_N (by omega) (by omega)]
    by_cases e : yl T l = y
    · rw [if_pos (by rw [e]), gI_N (by omega) (by omega), gI_N (by omega) (by omega), N_K (by omega), N_K (by omega), N_K (by omega), q_isIn (by omega) (by omega) (by omega) (by omega) (by omega) (by omega), bd1_i rfl]
      by_cases c : (xl T l : Int) ≤ x ∧ (x : Int) ≤ xh T l
      · rw [if_pos c, if_neg (by decide), bd1_i rfl, gB_1, q_one_t (show q_on T l x y by unfold q_on; omega)]; rfl
      · rw [if_neg c, if_pos rfl, bd1_i rfl, gB_0, q_one_f (show ¬ q_on T l x y by unfold q_on; omega)]; rfl
    · rw [if_neg (fun q => e ((N_eq (by omega) (by omega)).mp q)), bd1_i rfl, gB_0, q_one_f (show ¬ q_on T l x y by unfold q_on; omega)]; rfl
  · obtain ⟨h1, h2, h3, h4⟩ := (hc l hl).2 fl
    rw [h1, h2, h3, h4, if_pos rfl, gI_N (by omega) (by omega)]
    by_cases e : xl T l = x
    · rw [if_pos (by rw [e]), gI_N (by omega) (by omega), gI_N (by omega) (by omega), N_K (by omega), N_K (by omega), N_K (by omega), q_isIn (by omega) (by omega) (by omega) (by omega) (by omega) (by omega), bd1_i rfl]
      by_cases c : (yl T l : Int) ≤ y ∧ (y : Int) ≤ yh T l
      · rw [if_pos c, if_neg (by decide), bd1_i rfl, gB_1, q_one_t (show q_on T l x y by unfold q_on; omega)]; rfl
      · rw [if_neg c, if_pos rfl, bd1_i rfl, gB_0, q_one_f (show ¬ q_on T l x y by unfold q_on; omega)]; rfl
    · rw [if_neg (fun q => e ((N_eq (by omega) (by omega)).mp q)), bd1_i rfl, gB_0, q_one_f (show ¬ q_on T l x y by unfold q_on; omega)]; rfl
theorem q_isEnd {n : Nat} {T : Sto} {fI fA fL fH : Nat → Int32} (hok : q_ok n T) (hc : q_rl n T fI fA fL fH) {l x y : Nat} (hl : l < n) (hx : x ≤ 500) (hy : y ≤ 500) : m_Mo_isEnd (N l) (N x) (N y) fI fA fL fH = some (N (q_one (q_end T l x y))) := by
  have hn := hok.1
  have hq := hok.2.1 l hl
  unfold q_ln at hq
  unfold m_Mo_isEnd
  rw [q_isOn hok hc hl hx hy, bd1_i rfl]
  by_cases o : q_on T l x y
  · have o' := o
    unfold q_on at o'
    rw [if_neg (fun q => (q_one0 _).mp q o), gI_N (by omega) (by omega), N_nat (by omega)]
    by_cases fl : yl T l = yh T l
    · obtain ⟨h1, h2, h3, h4⟩ := (hc l hl).1 fl
      rw [h1, h3, h4, if_neg (by decide), gI_N (by omega) (by omega)]
      by_cases e : x = xl T l
      · rw [if_pos (by rw [e]), bd1_i rfl, gB_1, q_one_t (show q_end T l x y by unfold q_end; omega)]; rfl
      · rw [if_neg (fun q => e ((N_eq (by omega) (by omega)).mp q)), gI_N (by omega) (by omega)]
        by_cases e2 : x = xh T l
        · rw [if_pos (by rw [e2]), bd1_i rfl, gB_1, q_one_t (show q_end T l x y by unfold q_end; omega)]; rfl
        · rw [if_neg (fun q => e2 ((N_eq (by omega) (by omega)).mp q)), bd1_i rfl, gB_0, q_one_f (show ¬ q_end T l x y by unfold q_end; omega)]; rfl
    · obtain ⟨h1, h2, h3, h4⟩ := (hc l hl).2 fl
      rw [h1, h3, h4, if_pos rfl, gI_N (by omega) (by omega)]
      by_cases e : y = yl T l
      · rw [if_pos (by rw [e]), bd1_i rfl, gB_1, q_one_t (show q_end T l x y by unfold q_end; omega)]; rfl
      · rw [if_neg (fun q => e ((N_eq (by omega) (by omega)).mp q)), gI_N (by omega) (by omega)]
        by_cases e2 : y = yh T l
        · rw [if_pos (by rw [e2]), bd1_i rfl, gB_1, q_one_t (show q_end T l x y by unfold q_end; omega)]; rfl
        · rw [if_neg (fun q => e2 ((N_eq (by omega) (by omega)).mp q)), bd1_i rfl, gB_0, q_one_f (show ¬ q_end T l x y by unfold q_end; omega)]; rfl
  · rw [if_pos ((q_one0 _).mpr o), bd1_i rfl, gB_0, q_one_f (show ¬ q_end T l x y by unfold q_end; unfold q_on at o; omega)]; rfl
theorem q_on_ix {n : Nat} {T I : Sto} {nx ny : Nat} {X Y : Nat → Nat} (hg : q_gi n I nx ny) (hi : q_ix n T I X Y) (hX : q_inc nx X) (hY : q_inc ny Y) {l i j : Nat} (hl : l < n) (h1 : i < nx) (h2 : j < ny) : q_on T l (X i) (Y j) ↔ q_on I l i j := by
  obtain ⟨e1, e2, e3, e4⟩ := hi l hl
  have := hg.2.2.2.1 l hl
  unfold q_on
  rw [e1, e2, e3, e4, hX.le_iff (by omega) h1, hX.le_iff h1 (by omega), hY.le_iff (by omega) h2, hY.le_iff h2 (by omega)]
theorem q_end_ix {n : Nat} {T I : Sto} {nx ny : Nat} {X Y : Nat → Nat} (hg : q_gi n I nx ny) (hi : q_ix n T I X Y) (hX : q_inc nx X) (hY : q_inc ny Y) {l i j : Nat} (hl : l < n) (h1 : i < nx) (h2 : j < ny) : q_end T l (X i) (Y j) ↔ q_end I l i j := by
  obtain ⟨e1, e2, e3, e4⟩ := hi l hl
  have := hg.2.2.2.1 l hl
  unfold q_end
  rw [e1, e2, e3, e4, hX.eq_iff h1 (by omega), hX.eq_iff h1 (by omega), hY.eq_iff h2 (by omega), hY.eq_iff h2 (by omega)]
theorem q_Rpt_L421 {n : Nat} {T I : Sto} {nx ny : Nat} {X Y : Nat → Nat} {fx fy fI fA fL fH : Nat → Int32} (hok : q_ok n T) (hg : q_gi n I nx ny) (hi : q_ix n T I X Y) (hc : q_rl n T fI fA fL fH) (hr : q_gr nx ny X Y fx fy) {i j : Nat} (hin : i < nx) (hjn : j < ny) :
    ∀ fuel l, n - l < fuel → l ≤ n → m_Mo_layGrid_L421 (N i) (N j) (N n) fI fA fL fH fx fy fuel (N (q_cnt (fun l => q_on I l i j) l)) (N (q_one (∃ m, m < l ∧ q_end I m i j))) (N l) = some (N (q_cnt (fun l => q_on I l i j) n), N (q_one (∃ m, m < n ∧ q_end I m i j))) := by
  have hx := hg.2.1
  have hy := hg.2.2.1
  have hn := hg.1
  have hXb := hr.2.2.1 i hin
  have hYb := hr.2.2.2.2.2 j hjn
  intro fuel
  induction fuel with
  | zero => intro l h; omega
  | succ m ih =>
    intro l hm hl
    rw [m_Mo_layGrid_L421]
    by_cases c : n ≤ l
    · rw [if_pos ((N_le (by omega) (by omega)).mpr c), show l = n by omega]
    · have hl' : l < n := by omega
      have e1 := q_isOn hok hc hl' hXb hYb
      have e2 := q_isEnd hok hc hl' hXb hYb
      rw [q_one_c (q_on_ix hg hi hr.2.1 hr.2.2.2.2.1 hl' hin hjn)] at e1
      rw [q_one_c (q_end_ix hg hi hr.2.1 hr.2.2.2.2.1 hl' hin hjn)] at e2
      have e3 : (if N (q_one (q_on I l i j)) = 0 then some (0 : Int32) else some 1) = some (N (q_one (q_on I l i j))) := by
        by_cases o : q_on I l i j
        · rw [if_neg (fun q => (q_one0 _).mp q o), q_one_t o]; rfl
        · rw [if_pos ((q_one0 _).mpr o), q_one_f o]; rfl
      have e4 : (if N (q_one (∃ m, m < l ∧ q_end I m i j)) = 0 then gI (N i) 42 (gI (N j) 42 (bd1 (some (N (q_one (q_end I l i j)))) fun r149 => if r149 = 0 then some (0 : Int32) else some 1)) else some 1) = some (N (q_one (∃ m, m < l + 1 ∧ q_end I m i j))) := by
        by_cases o : ∃ m, m < l ∧ q_end I m i j
        · rw [if_neg (fun q => (q_one0 _).mp q o), q_one_t (show ∃ m, m < l + 1 ∧ q_end I m i j from by obtain ⟨m, a, b⟩ := o; exact ⟨m, by omega, b⟩)]; rfl
        · rw [if_pos ((q_one0 _).mpr o), gI_N (by omega) (by omega), gI_N (by omega) (by omega), bd1_i rfl]
          by_cases o2 : q_end I l i j
          · rw [if_neg (fun q => (q_one0 _).mp q o2), q_one_t (show ∃ m, m < l + 1 ∧ q_end I m i j from ⟨l, by omega, o2⟩)]; rfl
          · rw [if_pos ((q_one0 _).mpr o2), q_one_f (show ¬ ∃ m, m < l + 1 ∧ q_end I m i j from fun ⟨m, a, b⟩ => by
              by_cases e : m = l
              · subst e; exact o2 b
              · exact o ⟨m, by omega, b⟩)]; rfl
      rw [if_neg (fun q => c ((N_le (by omega) (by omega)).mp q)), gI_N (by omega) (by omega), gI_N (by omega) (by omega), N_nat (by omega), N_nat (by omega), hr.1 i hin, hr.2.2.2.1 j hjn, e1, bd1_i rfl, e3, bd1_i rfl, lt_e, N_add, e2, e4, bd1_i rfl, lt_e, N_lit 1, N_add]
      exact ih (l + 1) (by omega) (by omega)
def q_ir (n : Nat) (I : Sto) (nx ny : Nat) (t : Nat) (f : Nat → Int32) : Prop := ∀ i j, i < nx → j < ny → 40 * i + j < t → f (42 * i + j) = N (q_one (q_pt n I i j))
theorem q_Rpt_L405 {n : Nat} {T I : Sto} {nx ny : Nat} {X Y : Nat → Nat} {fx fy fI fA fL fH : Nat → Int32} (hok : q_ok n T) (hg : q_gi n I nx ny) (hi : q_ix n T I X Y) (hc : q_rl n T fI fA fL fH) (hr : q_gr nx ny X Y fx fy) {i : Nat} (hin : i < nx) :
    ∀ fuel j f, ny - j < fuel → j ≤ ny → q_ir n I nx ny (40 * i + j) f → ∃ f', m_Mo_layGrid_L405 (N i) (N n) (N ny) fI fA fL fH fx fy fuel (N j) (N (q_pn n I (40 * i + j))) f = some (N (q_pn n I (40 * i + ny)), f') ∧ q_ir n I nx ny (40 * i + ny) f' := by
  have hx := hg.2.1
  have hy := hg.2.2.1
  have hn := hg.1
  intro fuel
  induction fuel with
  | zero => intro j f h; omega
  | succ m ih =>
    intro j f hm hj hq
    rw [m_Mo_layGrid_L405]
    by_cases c : ny ≤ j
    · rw [if_pos ((N_le (by omega) (by omega)).mpr c)]
      have e : j = ny := by omega
      subst e
      exact ⟨f, rfl, hq⟩
    · have hjn : j < ny := by omega
      have z := q_Rpt_L421 hok hg hi hc hr hin hjn fu 0 (by unfold fu; omega) (by omega)
      rw [q_one_f (show ¬ ∃ m, m < 0 ∧ q_end I m i j from fun ⟨m, a, _⟩ => by omega), show q_cnt (fun l => q_on I l i j) 0 = 0 from rfl] at z
      have hcb := q_cnt_le (fun l => q_on I l i j) n
      have e3 : (if N (q_one (∃ m, m < n ∧ q_end I m i j)) = 0 then if N (q_cnt (fun l => q_on I l i j) n) ≤ 1 then some (0 : Int32) else some 1 else some 1) = some (N (q_one (q_pt n I i j))) := by
        by_cases o : ∃ m, m < n ∧ q_end I m i j
        · rw [if_neg (fun q => (q_one0 _).mp q o), q_one_t (show q_pt n I i j from Or.inl o)]; rfl
        · rw [if_pos ((q_one0 _).mpr o), N_lit 1]
          by_cases o2 : q_cnt (fun l => q_on I l i j) n ≤ 1
          · rw [if_pos ((N_le (by omega) (by omega)).mpr o2), q_one_f]; rfl
            intro q
            rcases q with q | ⟨a, b, h1, h2, h3, h4, h5⟩
            · exact o q
            · have := q_two_cnt (p := fun l => q_on I l i j) h1 h2 h3 h4 h5; omega
          · rw [if_neg (fun q => o2 ((N_le (by omega) (by omega)).mp q)), q_one_t (show q_pt n I i j from Or.inr (q_cnt_two (by omega)))]
      have nar : vp_nar .boolean (N (q_one (q_pt n I i j))) = N (q_one (q_pt n I i j)) := by
        by_cases o : q_pt n I i j
        · rw [q_one_t o]; exact q_nar1
        · rw [q_one_f o]; exact q_nar0
      obtain ⟨f', z2, h2⟩ := ih (j + 1) (upd f (42 * i + j) (N (q_one (q_pt n I i j)))) (by omega) (by omega) (by
        intro i' j' hi' hj' ht
        by_cases ec : 40 * i' + j' = 40 * i + j
        · obtain ⟨u, v⟩ := q_enc (w := 40) (by omega) (by omega) ec
          subst u; subst v
          rw [upd_s]
        · rw [upd_n _ _ (fun q => ec (by obtain ⟨u, v⟩ := q_enc (w := 42) (by omega) (by omega) q; rw [u, v]))]; exact hq i' j' hi' hj' (by omega))
      refine ⟨f', ?_, h2⟩
      rw [if_neg (fun q => c ((N_le (by omega) (by omega)).mp q)), show (0 : Int32) = N 0 from rfl, bd2_i z, show N 0 = (0 : Int32) from rfl, e3, bd1_i rfl, nar, show 42 * N i + N j = N (42 * i + j) from by rw [N_lit 42, N_mul, N_add], gI_N (by omega) (by omega), lt_e, N_nat (by omega), bd1_i rfl, lt_e, lt_e, N_add, N_lit 1, N_add, ← q_pn_s (by omega)]
      exact z2
theorem q_Rpt_L395 {n : Nat} {T I : Sto} {nx ny : Nat} {X Y : Nat → Nat} {fx fy fI fA fL fH : Nat → Int32} (hok : q_ok n T) (hg : q_gi n I nx ny) (hi : q_ix n T I X Y) (hc : q_rl n T fI fA fL fH) (hr : q_gr nx ny X Y fx fy) :
    ∀ fuel i f, nx - i < fuel → i ≤ nx → q_ir n I nx ny (40 * i) f → ∃ f', m_Mo_layGrid_L395 (N n) (N nx) (N ny) fI fA fL fH fx fy fuel (N i) (N (q_pn n I (40 * i))) f = some (N (q_np n I nx), f') ∧ q_ir n I nx ny (40 * nx) f' := by
  have hx := hg.2.1
  have hy := hg.2.2.1
  intro fuel
  induction fuel with
  | zero => intro i f h; omega
  | succ m ih =>
    intro i f hm hi' hq
    rw [m_Mo_layGrid_L395]
    by_cases c : nx ≤ i
    · rw [if_pos ((N_le (by omega) (by omega)).mpr c)]
      have e : i = nx := by omega
      subst e
      exact ⟨f, rfl, hq⟩
    · obtain ⟨f1, z1, h1⟩ := q_Rpt_L405 hok hg hi hc hr (i := i) (by omega) fu 0 f (by unfold fu; omega) (by omega) hq
      obtain ⟨f2, z2, h2⟩ := ih (i + 1) f1 (by omega) (by omega) (fun i' j' hi' hj' ht => h1 i' j' hi' hj' (by omega))
      refine ⟨f2, ?_, h2⟩
      have e := q_pn_to hg (i := i) 40 (by omega) hy
      rw [if_neg (fun q => c ((N_le (by omega) (by omega)).mp q)), show (0 : Int32) = N 0 from rfl, show q_pn n I (40 * i) = q_pn n I (40 * i + 0) from rfl, bd2_i z1, lt_e, N_lit 1, N_add, ← e, show 40 * i + 40 = 40 * (i + 1) by omega]
      exact z2
theorem q_Rinit_L : ∀ fuel k (fe ue fp : Nat → Int32), 1764 - k < fuel → k ≤ 1764 → m_Mo_layGrid_L166 fuel (N k) fe ue fp = some ((fun j => if k ≤ j ∧ j < 1764 then J (-1) else fe j), (fun j => if k ≤ j ∧ j < 1764 then J (-1) else ue j), (fun j => if k ≤ j ∧ j < 1764 then N 0 else fp j)) := by
  intro fuel
  induction fuel with
  | zero => intro k fe ue fp h; omega
  | succ m ih =>
    intro k fe ue fp h hk
    rw [m_Mo_layGrid_L166]
    by_cases c : 1764 ≤ k
    · rw [if_pos (by rw [N_lit 1764]; exact (N_le (by omega) (by omega)).mpr c)]
      congr 1; refine Prod.ext ?_ (Prod.ext ?_ ?_) <;> (funext j; dsimp only; rw [if_neg (by omega)])
    · rw [if_neg (by rw [N_lit 1764]; exact fun q => c ((N_le (by omega) (by omega)).mp q)), gI_N (by omega) (by omega), lt_e, gI_N (by omega) (by omega), lt_e, gI_N (by omega) (by omega), lt_e, lt_e, N_nat (by omega), N_lit 1, N_add, ih _ _ _ _ (by omega) (by omega), q_nar0]
      congr 1
      refine Prod.ext ?_ (Prod.ext ?_ ?_) <;>
      · funext j
        dsimp only
        by_cases e : j = k
        · subst e; rw [if_neg (by omega), if_pos (by omega), upd_s]; rfl
        · rw [upd_n _ _ e]
          by_cases c2 : k ≤ j ∧ j < 1764
          · rw [if_pos c2, if_pos (by omega)]
          · rw [if_neg c2, if_neg (by omega)]
/-! The reference's grid. -/
theorem q_Rgrid {n : Nat} {T : Sto} {fI fA fL fH : Nat → Int32} (hok : q_ok n T) (hc : q_rl n T fI fA fL fH) (v1 v2 v3 : Int32) (fx fy fe ue fp : Nat → Int32) :
    ∃ nx ny X Y I fx' fy' fe' ue' fp', m_Mo_layGrid (N n) v1 v2 v3 fI fA fL fH fx fy fe ue fp = some (N nx, N ny, N (q_np n I nx), fx', fy', fe', ue', fp') ∧ q_cut nx X (q_SX n T) ∧ q_cut ny Y (q_SY n T) ∧ q_gr nx ny X Y fx' fy' ∧ q_ix n T I X Y ∧ q_gi n I nx ny ∧ q_re nx ny fe' ue' (q_wE n I) (q_wN n I) ∧ q_ir n I nx ny (40 * nx) fp' := by
  have hn := hok.1
  obtain ⟨nx, fx', X, ny, fy', Y, e1, h1, h2, h3, h4⟩ := q_layGrid_L hok hc fu 0 0 fx (fun _ => 0) 0 fy (fun _ => 0) (by unfold fu; omega) (by omega) (by omega) (by omega) (q_row0 _ _ _ (fun v ⟨l, h, _⟩ => by omega)) (q_row0 _ _ _ (fun v ⟨l, h, _⟩ => by omega))
  obtain ⟨I, hI, hg⟩ := q_ix_ex hok h3.2.1 h4.2.1 (by omega) (by omega)
  have hr : q_gr nx ny X Y fx' fy' := ⟨h3.1, h3.2.1.1, h3.2.2, h4.1, h4.2.1.1, h4.2.2⟩
  have e2 := q_Rinit_L fu 0 fe ue fp (by unfold fu; omega) (by omega)
  obtain ⟨fe3, ue3, e3, h5⟩ := q_edges_L hg hI hc hr fu 0 (fun j => if 0 ≤ j ∧ j < 1764 then J (-1) else fe j) (fun j => if 0 ≤ j ∧ j < 1764 then J (-1) else ue j) (by unfold fu; omega) (by omega) (fun i j hi hj => by
    dsimp only
    rw [if_pos (by omega), if_pos (by omega)]
    exact ⟨Or.inr ⟨fun ⟨l, q, _⟩ => by omega, rfl⟩, Or.inr ⟨fun ⟨l, q, _⟩ => by omega, rfl⟩⟩)
  obtain ⟨fp4, e4, h6⟩ := q_Rpt_L395 hok hg hI hc hr fu 0 (fun j => if 0 ≤ j ∧ j < 1764 then N 0 else fp j) (by have := hg.2.1; unfold fu; omega) (by omega) (fun i j _ _ h => by omega)
  refine ⟨nx, ny, X, Y, I, fx', fy', fe3, ue3, fp4, ?_, h3.2.1, h4.2.1, hr, hI, hg, h5, h6⟩
  unfold m_Mo_layGrid
  rw [show N (q_pn n I (40 * 0)) = N 0 from rfl] at e4
  rw [show (0 : Int32) = N 0 from rfl, bd4_i e1, bd3_i e2, bd2_i e3, bd2_i e4]
/-! Pieces. A place k along line l is the node q_nd l k; lines go from q_lo to q_hi. -/
def q_lo (I : Sto) (l : Nat) : Nat := if yl I l = yh I l then xl I l else yl I l
def q_hi (I : Sto) (l : Nat) : Nat := if yl I l = yh I l then xh I l else yh I l
def q_nd (I : Sto) (l k : Nat) : Nat × Nat := if yl I l = yh I l then (k, yl I l) else (xl I l, k)
def q_d0 (I : Sto) (l : Nat) : Nat := if yl I l = yh I l then 0 else 1
def q_lc (I : Sto) (l k : Nat) : Ce := if yl I l = yh I l then (k, yl I l + 1) else (xl I l, k)
def q_rc (I : Sto) (l k : Nat) : Ce := if yl I l = yh I l then (k, yl I l) else (xl I l + 1, k)
abbrev q_isp (n : Nat) (I : Sto) (l k : Nat) : Prop := q_pt n I (q_nd I l k).1 (q_nd I l k).2
abbrev Pcs := Nat → Nat × Nat × Nat
noncomputable def q_sk (n : Nat) (I : Sto) (l : Nat) (s : Nat × Pcs) : Nat → Nat × Pcs × Nat
  | 0 => (s.1, s.2, q_lo I l)
  | d + 1 => @ite _ (q_isp n I l (q_lo I l + d + 1)) (Classical.propDecidable _)
      ((q_sk n I l s d).1 + 1, (fun p => if p = (q_sk n I l s d).1 then (l, (q_sk n I l s d).2.2, q_lo I l + d + 1) else (q_sk n I l s d).2.1 p), q_lo I l + d + 1)
      (q_sk n I l s d)
noncomputable def q_sl (n : Nat) (I : Sto) : Nat → Nat × Pcs
  | 0 => (0, fun _ => (0, 0, 0))
  | l + 1 => ((q_sk n I l (q_sl n I l) (q_hi I l - q_lo I l)).1, (q_sk n I l (q_sl n I l) (q_hi I l - q_lo I l)).2.1)
theorem q_sk_t {n : Nat} {I : Sto} {l : Nat} {s : Nat × Pcs} {d : Nat} (h : q_isp n I l (q_lo I l + d + 1)) : q_sk n I l s (d + 1) = ((q_sk n I l s d).1 + 1, (fun p => if p = (q_sk n I l s d).1 then (l, (q_sk n I l s d).2.2, q_lo I l + d + 1) else (q_sk n I l s d).2.1 p), q_lo I l + d + 1) := if_pos h
theorem q_sk_f {n : Nat} {I : Sto} {l : Nat} {s : Nat × Pcs} {d : Nat} (h : ¬ q_isp n I l (q_lo I l + d + 1)) : q_sk n I l s (d + 1) = q_sk n I l s d := if_neg h
theorem q_sk_cnt {n : Nat} {I : Sto} {l : Nat} {s : Nat × Pcs} : ∀ d, (q_sk n I l s d).1 = s.1 + q_cnt (fun t => q_isp n I l (q_lo I l + t + 1)) d := by
  intro d
  induction d with
  | zero => rfl
  | succ d ih =>
    show _ = s.1 + (q_cnt _ d + q_one (q_isp n I l (q_lo I l + d + 1)))
    by_cases c : q_isp n I l (q_lo I l + d + 1)
    · rw [q_sk_t c, q_one_t c]; show (q_sk n I l s d).1 + 1 = _; omega
    · rw [q_sk_f c, q_one_f c]; omega
theorem q_lohi {n : Nat} {I : Sto} {nx ny : Nat} (hg : q_gi n I nx ny) {l : Nat} (hl : l < n) : q_lo I l < q_hi I l := by
  have := hg.2.2.2.1 l hl
  unfold q_lo q_hi
  by_cases c : yl I l = yh I l
  · rw [if_pos c, if_pos c]; omega
  · rw [if_neg c, if_neg c]; omega
theorem q_nd_on {n : Nat} {I : Sto} {nx ny : Nat} (hg : q_gi n I nx ny) {l k : Nat} (hl : l < n) (h1 : q_lo I l ≤ k) (h2 : k ≤ q_hi I l) : q_on I l (q_nd I l k).1 (q_nd I l k).2 := by
  have := hg.2.2.2.1 l hl
  unfold q_lo at h1
  unfold q_hi at h2
  unfold q_nd q_on
  by_cases c : yl I l = yh I l
  · rw [if_pos c] at h1 h2 ⊢; dsimp only; omega
  · rw [if_neg c] at h1 h2 ⊢; dsimp only; omega
theorem q_nd_end {n : Nat} {I : Sto} {nx ny : Nat} (hg : q_gi n I nx ny) {l k : Nat} (hl : l < n) : q_end I l (q_nd I l k).1 (q_nd I l k).2 ↔ k = q_lo I l ∨ k = q_hi I l := by
  have := hg.2.2.2.1 l hl
  unfold q_nd q_end q_lo q_hi
  by_cases c : yl I l = yh I l
  · rw [if_pos c, if_pos c, if_pos c]; dsimp only; omega
  · rw [if_neg c, if_neg c, if_neg c]; dsimp only; omega
theorem q_nd_in {n : Nat} {I : Sto} {nx ny : Nat} (hg : q_gi n I nx ny) {l k : Nat} (hl : l < n) (h2 : k ≤ q_hi I l) : (q_nd I l k).1 < nx ∧ (q_nd I l k).2 < ny := by
  have := hg.2.2.2.1 l hl
  unfold q_hi at h2
  unfold q_nd
  by_cases c : yl I l = yh I l
  · rw [if_pos c] at h2 ⊢; dsimp only; omega
  · rw [if_neg c] at h2 ⊢; dsimp only; omega
theorem q_pt_lo {n : Nat} {I : Sto} {nx ny : Nat} (hg : q_gi n I nx ny) {l : Nat} (hl : l < n) : q_isp n I l (q_lo I l) := Or.inl ⟨l, hl, (q_nd_end hg hl).mpr (Or.inl rfl)⟩
theorem q_pt_hi {n : Nat} {I : Sto} {nx ny : Nat} (hg : q_gi n I nx ny) {l : Nat} (hl : l < n) : q_isp n I l (q_hi I l) := Or.inl ⟨l, hl, (q_nd_end hg hl).mpr (Or.inr rfl)⟩
/-! Who else goes through an inner point of a line stands square to it. -/
theorem q_inner {n : Nat} {I : Sto} {nx ny : Nat} (hg : q_gi n I nx ny) {l k : Nat} (hl : l < n) (h1 : q_lo I l < k) (h2 : k < q_hi I l) (h : q_isp n I l k) :
    ∃ m, m < n ∧ ((yl I l = yh I l ∧ yl I m < yh I m ∧ xl I m = k) ∨ (¬ yl I l = yh I l ∧ ¬ yl I m < yh I m ∧ yl I m = k)) := by
  have hne : ¬ q_end I l (q_nd I l k).1 (q_nd I l k).2 := fun q => by have := (q_nd_end hg hl).mp q; omega
  have hon := q_nd_on hg hl (Nat.le_of_lt h1) (Nat.le_of_lt h2)
  have hm : ∃ m, m < n ∧ l ≠ m ∧ q_on I m (q_nd I l k).1 (q_nd I l k).2 := by
    rcases h with ⟨m, hm, e⟩ | ⟨a, b, ha, hb, hab, oa, ob⟩
    · refine ⟨m, hm, fun q => hne (by rw [q]; rw [← q]; rw [← q] at e; exact e), ?_⟩
      have := hg.2.2.2.1 m hm
      unfold q_end at e
      unfold q_on
      omega
    · by_cases c : l = a
      · exact ⟨b, hb, by omega, ob⟩
      · exact ⟨a, ha, c, oa⟩
  obtain ⟨m, hm, hlm, om⟩ := hm
  refine ⟨m, hm, ?_⟩
  have := hg.2.2.2.1 l hl
  have hc := q_cross hg hl hm hlm hon om hne
  unfold q_nd at hc
  by_cases c : yl I l = yh I l
  · rw [if_pos c] at hc; dsimp only at hc; omega
  · rw [if_neg c] at hc; dsimp only at hc; omega
noncomputable def q_up1 (n : Nat) (I : Sto) : Nat := q_cnt (fun l => yl I l < yh I l) n
noncomputable def q_fl1 (n : Nat) (I : Sto) : Nat := q_cnt (fun l => ¬ yl I l < yh I l) n
theorem q_cnt_eq1 {k : Nat} : ∀ m, q_cnt (fun t => t = k) m ≤ 1 := by
  intro m
  have := q_cnt_or1 (p := fun _ => False) (p' := fun t => t = k) (k := k) (m := m) (fun i _ h => Or.inr h)
  rw [q_cnt_none (fun i _ h => h)] at this
  have := q_one_le (k < m)
  omega
theorem q_sk_le {n : Nat} {I : Sto} {nx ny : Nat} (hg : q_gi n I nx ny) {l : Nat} (hl : l < n) {s : Nat × Pcs} {d : Nat} (hd : d ≤ q_hi I l - q_lo I l) : (q_sk n I l s d).1 ≤ s.1 + 1 + (if yl I l = yh I l then q_up1 n I else q_fl1 n I) := by
  rw [q_sk_cnt]
  have hlh := q_lohi hg hl
  have h0 := q_cnt_eq1 (k := q_hi I l - q_lo I l - 1) d
  by_cases c : yl I l = yh I l
  · rw [if_pos c]
    have h1 := q_cnt_orle (m := d) (p := fun t => q_isp n I l (q_lo I l + t + 1)) (a := fun t => t = q_hi I l - q_lo I l - 1) (b := fun t => ∃ m, m < n ∧ yl I m < yh I m ∧ xl I m - q_lo I l - 1 = t) (fun t ht h => by
      by_cases e : t = q_hi I l - q_lo I l - 1
      · exact Or.inl e
      · obtain ⟨m, hm, a | a⟩ := q_inner hg hl (k := q_lo I l + t + 1) (by omega) (by omega) h
        · exact Or.inr ⟨m, hm, a.2.1, by omega⟩
        · exact (a.1 c).elim)
    have h2 := q_cnt_img (U := fun m => yl I m < yh I m) (f := fun m => xl I m - q_lo I l - 1) (M := d) n
    unfold q_up1
    omega
  · rw [if_neg c]
    have h1 := q_cnt_orle (m := d) (p := fun t => q_isp n I l (q_lo I l + t + 1)) (a := fun t => t = q_hi I l - q_lo I l - 1) (b := fun t => ∃ m, m < n ∧ ¬ yl I m < yh I m ∧ yl I m - q_lo I l - 1 = t) (fun t ht h => by
      by_cases e : t = q_hi I l - q_lo I l - 1
      · exact Or.inl e
      · obtain ⟨m, hm, a | a⟩ := q_inner hg hl (k := q_lo I l + t + 1) (by omega) (by omega) h
        · exact (c a.1).elim
        · exact Or.inr ⟨m, hm, a.2.1, by omega⟩)
    have h2 := q_cnt_img (U := fun m => ¬ yl I m < yh I m) (f := fun m => yl I m - q_lo I l - 1) (M := d) n
    unfold q_fl1
    omega
theorem q_sl_le {n : Nat} {I : Sto} {nx ny : Nat} (hg : q_gi n I nx ny) : ∀ l, l ≤ n → (q_sl n I l).1 ≤ l + q_cnt (fun l => ¬ yl I l < yh I l) l * q_up1 n I + q_cnt (fun l => yl I l < yh I l) l * q_fl1 n I := by
  intro l
  induction l with
  | zero => intro _; exact Nat.zero_le _
  | succ l ih =>
    intro hl
    have h1 := ih (by omega)
    have h2 := q_sk_le hg (l := l) (by omega) (s := q_sl n I l) (Nat.le_refl (q_hi I l - q_lo I l))
    have := hg.2.2.2.1 l (by omega)
    show (q_sk n I l (q_sl n I l) (q_hi I l - q_lo I l)).1 ≤ l + 1 + (q_cnt (fun l => ¬ yl I l < yh I l) l + q_one (¬ yl I l < yh I l)) * q_up1 n I + (q_cnt (fun l => yl I l < yh I l) l + q_one (yl I l < yh I l)) * q_fl1 n I
    by_cases c : yl I l = yh I l
    · rw [if_pos c] at h2
      rw [q_one_t (show ¬ yl I l < yh I l by omega), q_one_f (show ¬ yl I l < yh I l by omega)]; simp only [Nat.add_mul, Nat.one_mul, Nat.add_zero, Nat.zero_mul]; omega
    · rw [if_neg c] at h2
      rw [q_one_f (show ¬ ¬ yl I l < yh I l by omega), q_one_t (show yl I l < yh I l by omega)]; simp only [Nat.add_mul, Nat.one_mul, Nat.add_zero, Nat.zero_mul]; omega
theorem q_220 {n : Nat} {I : Sto} {nx ny : Nat} (hg : q_gi n I nx ny) {l : Nat} (hl : l < n) {d : Nat} (hd : d ≤ q_hi I l - q_lo I l) : (q_sk n I l (q_sl n I l) d).1 ≤ 220 := by
  have h1 := q_sl_le hg (l + 1) (by omega)
  have hn := hg.1
  have h3 := q_cnt_part (U := fun l => yl I l < yh I l) n
  have h4 : q_cnt (fun l => ¬ yl I l < yh I l) (l + 1) ≤ q_fl1 n I := q_cnt_monot (by omega)
  have h5 : q_cnt (fun l => yl I l < yh I l) (l + 1) ≤ q_up1 n I := q_cnt_monot (by omega)
  have h6 := Nat.mul_le_mul_right (q_up1 n I) h4
  have h7 := Nat.mul_le_mul_right (q_fl1 n I) h5
  have h8 := q_100 (p := q_fl1 n I) (q := q_up1 n I) (by unfold q_fl1 q_up1; omega)
  have h9 := q_100 (p := q_up1 n I) (q := q_fl1 n I) (by unfold q_fl1 q_up1; omega)
  have h10 : (q_sk n I l (q_sl n I l) d).1 ≤ (q_sl n I (l + 1)).1 := by
    show _ ≤ (q_sk n I l (q_sl n I l) (q_hi I l - q_lo I l)).1
    rw [q_sk_cnt, q_sk_cnt]
    have := q_cnt_monot (p := fun t => q_isp n I l (q_lo I l + t + 1)) hd
    omega
  omega
def q_qb (I : Sto) (P : Pcs) (h : Nat) : Nat × Nat := if h % 2 = 0 then q_nd I (P (h / 2)).1 (P (h / 2)).2.1 else q_nd I (P (h / 2)).1 (P (h / 2)).2.2
def q_qd (I : Sto) (P : Pcs) (h : Nat) : Nat := q_d0 I (P (h / 2)).1 + (if h % 2 = 0 then 0 else 2)
def q_ou (n : Nat) (I : Sto) (np : Nat) (P : Pcs) (g : Nat → Nat → Nat → Int32) : Prop := ∀ i j d, q_pt n I i j → d < 4 →
  (∃ h, h < 2 * np ∧ q_qb I P h = (i, j) ∧ q_qd I P h = d ∧ g i j d = N h) ∨ ((∀ h, h < 2 * np → ¬ (q_qb I P h = (i, j) ∧ q_qd I P h = d)) ∧ g i j d = J (-1))
def q_pad (P : Pcs) (np l a b : Nat) : Pcs := fun p => if p = np then (l, a, b) else P p
theorem q_pad_o {P : Pcs} {np l a b p : Nat} (h : p < np) : q_pad P np l a b p = P p := if_neg (by omega)
theorem q_pad_n {P : Pcs} {np l a b : Nat} : q_pad P np l a b np = (l, a, b) := if_pos rfl
theorem q_ou_add {n : Nat} {I : Sto} {np : Nat} {P : Pcs} {g g' : Nat → Nat → Nat → Int32} {l a b : Nat} (h : q_ou n I np P g)
    (hg : ∀ i j d, q_pt n I i j → d < 4 → g' i j d = if (i, j) = q_nd I l b ∧ d = q_d0 I l + 2 then N (2 * np + 1) else if (i, j) = q_nd I l a ∧ d = q_d0 I l then N (2 * np) else g i j d) : q_ou n I (np + 1) (q_pad P np l a b) g' := by
  have eb0 : q_qb I (q_pad P np l a b) (2 * np) = q_nd I l a := by unfold q_qb; rw [if_pos (by omega), show 2 * np / 2 = np by omega, q_pad_n]
  have eb1 : q_qb I (q_pad P np l a b) (2 * np + 1) = q_nd I l b := by unfold q_qb; rw [if_neg (by omega), show (2 * np + 1) / 2 = np by omega, q_pad_n]
  have ed0 : q_qd I (q_pad P np l a b) (2 * np) = q_d0 I l := by unfold q_qd; rw [if_pos (by omega), show 2 * np / 2 = np by omega, q_pad_n]; rfl
  have ed1 : q_qd I (q_pad P np l a b) (2 * np + 1) = q_d0 I l + 2 := by unfold q_qd; rw [if_neg (by omega), show (2 * np + 1) / 2 = np by omega, q_pad_n]
  have ebo : ∀ h, h < 2 * np → q_qb I (q_pad P np l a b) h = q_qb I P h := fun h hh => by unfold q_qb; rw [q_pad_o (by omega)]
  have edo : ∀ h, h < 2 * np → q_qd I (q_pad P np l a b) h = q_qd I P h := fun h hh => by unfold q_qd; rw [q_pad_o (by omega)]
  intro i j d hp hd
  rw [hg i j d hp hd]
  by_cases c1 : (i, j) = q_nd I l b ∧ d = q_d0 I l + 2
  · rw [if_pos c1]
    exact Or.inl ⟨2 * np + 1, by omega, by rw [eb1, c1.1], by rw [ed1, c1.2], rfl⟩
  · rw [if_neg c1]
    by_cases c2 : (i, j) = q_nd I l a ∧ d = q_d0 I l
    · rw [if_pos c2]
      exact Or.inl ⟨2 * np, by omega, by rw [eb0, c2.1], by rw [ed0, c2.2], rfl⟩
    · rw [if_neg c2]
      rcases h i j d hp hd with ⟨s, hs, e1, e2, e3⟩ | ⟨hn, e⟩
      · exact Or.inl ⟨s, by omega, by rw [ebo s hs, e1], by rw [edo s hs, e2], e3⟩
      · refine Or.inr ⟨fun s hs ⟨q1, q2⟩ => ?_, e⟩
        by_cases k : s < 2 * np
        · exact hn s k ⟨by rw [← ebo s k, q1], by rw [← edo s k, q2]⟩
        · by_cases k2 : s = 2 * np
          · subst k2; exact c2 ⟨by rw [← q1, eb0], by rw [← q2, ed0]⟩
          · have k3 : s = 2 * np + 1 := by omega
            subst k3; exact c1 ⟨by rw [← q1, eb1], by rw [← q2, ed1]⟩
noncomputable abbrev q_pv (n : Nat) (I : Sto) (v : Nat × Nat) : Nat := q_pn n I (40 * v.1 + v.2)
def q_cp (n : Nat) (I : Sto) (F : Ce → Int) (np : Nat) (P : Pcs) (pl be di le : Nat → Int32) : Prop := ∀ p, p < np →
  pl p = N (P p).1 ∧ be (2 * p) = N (q_pv n I (q_nd I (P p).1 (P p).2.1)) ∧ be (2 * p + 1) = N (q_pv n I (q_nd I (P p).1 (P p).2.2)) ∧ di (2 * p) = N (q_d0 I (P p).1) ∧ di (2 * p + 1) = N (q_d0 I (P p).1 + 2) ∧
  le (2 * p) = J (F (q_lc I (P p).1 (P p).2.2)) ∧ le (2 * p + 1) = J (F (q_rc I (P p).1 (P p).2.2))
theorem q_addSide {s q d : Nat} {x : Int32} {so be di le : Nat → Int32} (hs : s < 440) (hq : q < 140) (hd : d < 4) :
    m_Ne_addSide (N s) (N q) (N d) x so be di le = some (upd so (4 * q + d) (N s), upd be s (N q), upd di s (N d), upd le s x) := by
  unfold m_Ne_addSide
  rw [gI_N (by omega) (by omega), lt_e, gI_N (by omega) (by omega), lt_e, gI_N (by omega) (by omega), lt_e, N_lit 4, N_mul, N_add, gI_N (by omega) (by omega), lt_e, N_nat (by omega), N_nat (by omega), Nat.mul_comm]
theorem q_cp_add {n : Nat} {I : Sto} {F : Ce → Int} {np : Nat} {P : Pcs} {pl be di le : Nat → Int32} {l a b : Nat} (h : q_cp n I F np P pl be di le) :
    q_cp n I F (np + 1) (q_pad P np l a b) (upd pl np (N l)) (upd (upd be (2 * np) (N (q_pv n I (q_nd I l a)))) (2 * np + 1) (N (q_pv n I (q_nd I l b)))) (upd (upd di (2 * np) (N (q_d0 I l))) (2 * np + 1) (N (q_d0 I l + 2)))
      (upd (upd le (2 * np) (J (F (q_lc I l b)))) (2 * np + 1) (J (F (q_rc I l b)))) := by
  intro p hp
  by_cases e : p = np
  · subst e
    rw [q_pad_n, upd_s, upd_s, upd_s, upd_s, upd_n _ _ (by omega), upd_s, upd_n _ _ (by omega), upd_s, upd_n _ _ (by omega), upd_s]
    exact ⟨rfl, rfl, rfl, rfl, rfl, rfl, rfl⟩
  · rw [q_pad_o (by omega), upd_n _ _ e]
    repeat rw [upd_n _ _ (by omega)]
    exact h p (by omega)
theorem q_pv_lt {n : Nat} {I : Sto} {nx ny : Nat} (hg : q_gi n I nx ny) {v : Nat × Nat} (h : q_pt n I v.1 v.2) : q_pv n I v < 140 := by
  have a := q_pt_in hg h
  have b := q_pn_lt (n := n) (I := I) (i := v.1) (j := v.2) (t := 1600) (by have := hg.2.2.1; omega) h (by have := hg.2.2.1; have := hg.2.1; omega)
  have c := q_pn_140 hg (t := 1600) (by omega)
  show q_pn n I (40 * v.1 + v.2) < 140
  omega
theorem q_pv_inj {n : Nat} {I : Sto} {nx ny : Nat} (hg : q_gi n I nx ny) {u v : Nat × Nat} (hu : q_pt n I u.1 u.2) (hv : q_pt n I v.1 v.2) (e : q_pv n I u = q_pv n I v) : u = v := by
  have a := q_pt_in hg hu
  have b := q_pt_in hg hv
  have hy := hg.2.2.1
  have e : q_pn n I (40 * u.1 + u.2) = q_pn n I (40 * v.1 + v.2) := e
  by_cases c : 40 * u.1 + u.2 < 40 * v.1 + v.2
  · have := q_pn_lt (n := n) (I := I) (by omega) hu c; omega
  · by_cases c' : 40 * v.1 + v.2 < 40 * u.1 + u.2
    · have := q_pn_lt (n := n) (I := I) (by omega) hv c'; omega
    · obtain ⟨x, y⟩ := q_enc (w := 40) (by omega) (by omega) (show 40 * u.1 + u.2 = 40 * v.1 + v.2 by omega)
      exact Prod.ext x y
theorem q_d0_lt (I : Sto) (l : Nat) : q_d0 I l < 2 := by
  unfold q_d0
  by_cases c : yl I l = yh I l
  · rw [if_pos c]; omega
  · rw [if_neg c]; omega
theorem q_cu_add {n : Nat} {I : Sto} {nx ny : Nat} (hg : q_gi n I nx ny) {np : Nat} {P : Pcs} {so : Nat → Int32} {l a b : Nat} (ha : q_isp n I l a) (hb : q_isp n I l b) (h : q_ou n I np P (fun i j d => so (4 * q_pn n I (40 * i + j) + d))) :
    q_ou n I (np + 1) (q_pad P np l a b) (fun i j d => upd (upd so (4 * q_pv n I (q_nd I l a) + q_d0 I l) (N (2 * np))) (4 * q_pv n I (q_nd I l b) + (q_d0 I l + 2)) (N (2 * np + 1)) (4 * q_pn n I (40 * i + j) + d)) := by
  have hd := q_d0_lt I l
  have key : ∀ i j d k e, q_pt n I i j → d < 4 → e < 4 → q_isp n I l k → 4 * q_pn n I (40 * i + j) + d = 4 * q_pv n I (q_nd I l k) + e → (i, j) = q_nd I l k ∧ d = e := by
    intro i j d k e hp hd he hk q
    have h1 : q_pv n I (i, j) = q_pv n I (q_nd I l k) := by show q_pn n I (40 * i + j) = _; omega
    exact ⟨q_pv_inj hg hp hk h1, by have h1 : q_pn n I (40 * i + j) = q_pv n I (q_nd I l k) := h1; omega⟩
  refine q_ou_add h (fun i j d hp hd' => ?_)
  by_cases c1 : (i, j) = q_nd I l b ∧ d = q_d0 I l + 2
  · rw [if_pos c1, ← c1.1, c1.2]; exact upd_s _ _ _
  · rw [if_neg c1, upd_n _ _ (fun q => c1 (key i j d b _ hp hd' (by omega) hb q))]
    by_cases c2 : (i, j) = q_nd I l a ∧ d = q_d0 I l
    · rw [if_pos c2, ← c2.1, c2.2]; exact upd_s _ _ _
    · rw [if_neg c2, upd_n _ _ (fun q => c2 (key i j d a _ hp hd' (by omega) ha q))]
theorem q_sk_bg {n : Nat} {I : Sto} {nx ny : Nat} (hg : q_gi n I nx ny) {l : Nat} (hl : l < n) {s : Nat × Pcs} : ∀ d, d ≤ q_hi I l - q_lo I l → q_isp n I l (q_sk n I l s d).2.2 ∧ q_lo I l ≤ (q_sk n I l s d).2.2 ∧ (q_sk n I l s d).2.2 ≤ q_lo I l + d ∧ ∀ k, (q_sk n I l s d).2.2 < k → k ≤ q_lo I l + d → ¬ q_isp n I l k := by
  intro d
  induction d with
  | zero => intro _; exact ⟨q_pt_lo hg hl, Nat.le_refl _, Nat.le_refl _, fun k h1 h2 => by have h1 : q_lo I l < k := h1; omega⟩
  | succ d ih =>
    intro hd
    obtain ⟨h1, h2, h3, h4⟩ := ih (by omega)
    by_cases c : q_isp n I l (q_lo I l + d + 1)
    · rw [q_sk_t c]; dsimp only; exact ⟨c, by omega, by omega, fun k a b => by omega⟩
    · rw [q_sk_f c]
      refine ⟨h1, h2, by omega, fun k a b => ?_⟩
      by_cases e : k = q_lo I l + d + 1
      · rw [e]; exact c
      · exact h4 k a (by omega)
theorem q_nd_lt {n : Nat} {I : Sto} {nx ny : Nat} (hg : q_gi n I nx ny) {l k : Nat} (hl : l < n) (h : k ≤ q_hi I l) : 40 * (q_nd I l k).1 + (q_nd I l k).2 < 1600 := by
  have := q_nd_in hg hl h
  have := hg.2.1
  have := hg.2.2.1
  omega
theorem q_cells {n : Nat} {I : Sto} {nx ny : Nat} (hg : q_gi n I nx ny) {l k : Nat} (hl : l < n) (h : k ≤ q_hi I l) : q_in nx ny (q_lc I l k) ∧ q_in nx ny (q_rc I l k) := by
  have := hg.2.2.2.1 l hl
  unfold q_hi at h
  unfold q_lc q_rc q_in
  by_cases c : yl I l = yh I l
  · rw [if_pos c] at h
    rw [if_pos c, if_pos c]; dsimp only; omega
  · rw [if_neg c] at h
    rw [if_neg c, if_neg c]; dsimp only; omega
theorem q_Ccut_L {n : Nat} {I : Sto} {nx ny : Nat} {X Y : Nat → Nat} {F : Ce → Int} {pX pY pA ce : Nat → Int32} (hg : q_gi n I nx ny) (hp : q_pr n I nx ny X Y (40 * nx) pX pY pA) (hce : q_cc 41 nx ny ce F) {l : Nat} (hl : l < n) :
    ∀ fuel d so pl be di le, q_hi I l - q_lo I l - d < fuel → d ≤ q_hi I l - q_lo I l →
    q_cp n I F (q_sk n I l (q_sl n I l) d).1 (q_sk n I l (q_sl n I l) d).2.1 pl be di le → q_ou n I (q_sk n I l (q_sl n I l) d).1 (q_sk n I l (q_sl n I l) d).2.1 (fun i j d => so (4 * q_pn n I (40 * i + j) + d)) →
    ∃ so' pl' be' di' le', m_Ne_cutIntoPieces_L85 (N l) (if yl I l = yh I l then 1 else 0) (N (xl I l)) (N (yl I l)) (N (q_hi I l - q_lo I l)) pA ce fuel (N (q_pv n I (q_nd I l (q_sk n I l (q_sl n I l) d).2.2))) (N (d + 1)) (N (q_sk n I l (q_sl n I l) d).1) so pl be di le = some (N (q_sl n I (l + 1)).1, so', pl', be', di', le') ∧
      q_cp n I F (q_sl n I (l + 1)).1 (q_sl n I (l + 1)).2 pl' be' di' le' ∧ q_ou n I (q_sl n I (l + 1)).1 (q_sl n I (l + 1)).2 (fun i j d => so' (4 * q_pn n I (40 * i + j) + d)) := by
  have hx := hg.2.1
  have hy := hg.2.2.1
  have hn := hg.1
  have hlh := q_lohi hg hl
  have hln := hg.2.2.2.1 l hl
  have hd0 := q_d0_lt I l
  have hhi : q_hi I l ≤ 40 := by
    unfold q_hi
    by_cases c : yl I l = yh I l
    · rw [if_pos c]; omega
    · rw [if_neg c]; omega
  intro fuel
  induction fuel with
  | zero => intro d so pl be di le h; omega
  | succ m ih =>
    intro d so pl be di le hm hd hcp hou
    rw [m_Ne_cutIntoPieces_L85]
    by_cases c : q_hi I l - q_lo I l < d + 1
    · rw [if_pos ((N_lt (by omega) (by omega)).mpr c)]
      have e : d = q_hi I l - q_lo I l := by omega
      subst e
      exact ⟨so, pl, be, di, le, rfl, hcp, hou⟩
    · have hk : q_lo I l + d + 1 ≤ q_hi I l := by omega
      have hin := q_nd_in hg hl hk
      have hlt := q_nd_lt hg hl hk
      obtain ⟨hcl, hcr⟩ := q_cells hg hl hk
      obtain ⟨bg1, bg2, bg3, bg4⟩ := q_sk_bg hg hl (s := q_sl n I l) d hd
      have e24 : (if (if yl I l = yh I l then (1 : Int32) else 0) = 0 then some (N (xl I l)) else some (N (xl I l) + N (d + 1))) = some (N (q_nd I l (q_lo I l + d + 1)).1) := by
        unfold q_nd q_lo
        by_cases f : yl I l = yh I l
        · rw [if_pos f, if_pos f, if_pos f, if_neg (by decide), N_add]; rfl
        · rw [if_neg f, if_neg f, if_pos rfl]
      have e29 : (if (if yl I l = yh I l then (1 : Int32) else 0) = 0 then some (N (yl I l) + N (d + 1)) else some (N (yl I l))) = some (N (q_nd I l (q_lo I l + d + 1)).2) := by
        unfold q_nd q_lo
        by_cases f : yl I l = yh I l
        · rw [if_pos f, if_pos f, if_neg (by decide)]
        · rw [if_neg f, if_neg f, if_pos rfl, if_neg f, N_add]; rfl
      rw [if_neg (fun q => c ((N_lt (by omega) (by omega)).mp q)), e24, bd1_i rfl, e29, bd1_i rfl, q_node, bd1_i rfl, gI_N (by omega) (by omega), lt_e, N_nat (by omega)]
      have hpA := hp (q_nd I l (q_lo I l + d + 1)).1 (q_nd I l (q_lo I l + d + 1)).2 hin.1 hin.2 (by omega)
      by_cases e : q_isp n I l (q_lo I l + d + 1)
      · have hb : (q_sk n I l (q_sl n I l) (d + 1)).1 ≤ 220 := q_220 hg hl (by omega)
        have es := q_sk_t (n := n) (I := I) (l := l) (s := q_sl n I l) (d := d) e
        have hq1 := q_pv_lt hg e
        have hq2 := q_pv_lt hg bg1
        rw [es] at hb
        dsimp only at hb
        have eA : pA (40 * (q_nd I l (q_lo I l + d + 1)).1 + (q_nd I l (q_lo I l + d + 1)).2) = N (q_pv n I (q_nd I l (q_lo I l + d + 1))) := (hpA.1 e).1
        have e50 : (if (if yl I l = yh I l then (1 : Int32) else 0) = 0 then bd1 (m_Gr_cell (N (q_nd I l (q_lo I l + d + 1)).1) (N (q_nd I l (q_lo I l + d + 1)).2)) fun r52 => gI r52 1681 (some (ce r52.toNatClampNeg)) else bd1 (m_Gr_cell (N (q_nd I l (q_lo I l + d + 1)).1) (N (q_nd I l (q_lo I l + d + 1)).2 + 1)) fun r55 => gI r55 1681 (some (ce r55.toNatClampNeg))) = some (J (F (q_lc I l (q_lo I l + d + 1)))) := by
          have hc1 := hcl.1
          have hc2 := hcl.2
          have := hce _ _ hc1 hc2
          unfold q_lc at this hc1 hc2 ⊢
          unfold q_nd
          by_cases f : yl I l = yh I l
          · rw [if_pos f] at this hc1 hc2 ⊢
            rw [if_neg (by decide), if_pos f, N_lit 1, N_add, q_cell, bd1_i rfl]; dsimp only at *; rw [gI_N (by omega) (by omega), N_nat (by omega), this, if_pos f]
          · rw [if_neg f] at this hc1 hc2 ⊢
            rw [if_pos rfl, if_neg f, q_cell, bd1_i rfl]; dsimp only at *; rw [gI_N (by omega) (by omega), N_nat (by omega), this, if_neg f]
        have e61 : (if (if yl I l = yh I l then (1 : Int32) else 0) = 0 then bd1 (m_Gr_cell (N (q_nd I l (q_lo I l + d + 1)).1 + 1) (N (q_nd I l (q_lo I l + d + 1)).2)) fun r52 => gI r52 1681 (some (ce r52.toNatClampNeg)) else bd1 (m_Gr_cell (N (q_nd I l (q_lo I l + d + 1)).1) (N (q_nd I l (q_lo I l + d + 1)).2)) fun r55 => gI r55 1681 (some (ce r55.toNatClampNeg))) = some (J (F (q_rc I l (q_lo I l + d + 1)))) := by
          have hc1 := hcr.1
          have hc2 := hcr.2
          have := hce _ _ hc1 hc2
          unfold q_rc at this hc1 hc2 ⊢
          unfold q_nd
          by_cases f : yl I l = yh I l
          · rw [if_pos f] at this hc1 hc2 ⊢
            rw [if_neg (by decide), if_pos f, q_cell, bd1_i rfl]; dsimp only at *; rw [gI_N (by omega) (by omega), N_nat (by omega), this, if_pos f]
          · rw [if_neg f] at this hc1 hc2 ⊢
            rw [if_pos rfl, if_neg f, N_lit 1, N_add, q_cell, bd1_i rfl]; dsimp only at *; rw [gI_N (by omega) (by omega), N_nat (by omega), this, if_neg f]
        have e74 : (if (if yl I l = yh I l then (1 : Int32) else 0) = 0 then some (1 : Int32) else some 0) = some (N (q_d0 I l)) := by
          unfold q_d0
          by_cases f : yl I l = yh I l
          · rw [if_pos f, if_pos f, if_neg (by decide)]; rfl
          · rw [if_neg f, if_neg f, if_pos rfl]; rfl
        have e84 : (if (if yl I l = yh I l then (1 : Int32) else 0) = 0 then some (3 : Int32) else some 2) = some (N (q_d0 I l + 2)) := by
          unfold q_d0
          by_cases f : yl I l = yh I l
          · rw [if_pos f, if_pos f, if_neg (by decide)]; rfl
          · rw [if_neg f, if_neg f, if_pos rfl]; rfl
        have nn : ∀ q, q < 140 → ¬ N q = (-1) := fun q hq => by rw [N_J, show (-1 : Int32) = J (-1) from rfl, J_eq (by omega) (by omega) (by omega) (by omega)]; omega
        have s1 : ∀ q, N q + 1 = N (q + 1) := fun q => by rw [N_lit 1, N_add]
        have h2p : 2 * N (q_sk n I l (q_sl n I l) d).1 = N (2 * (q_sk n I l (q_sl n I l) d).1) := by rw [N_lit 2, N_mul]
        obtain ⟨so', pl', be', di', le', z, r1, r2⟩ := ih (d + 1) _ _ _ _ _ (by omega) (by omega) (by rw [es]; exact q_cp_add hcp) (by rw [es]; exact q_cu_add hg bg1 e hou)
        refine ⟨so', pl', be', di', le', ?_, r1, r2⟩
        rw [es] at z
        dsimp only at z
        rw [eA, if_neg (nn _ hq1), if_neg (nn _ hq2), N_lit 220, if_neg (fun q => by have := (N_le (by omega) (by omega)).mp q; omega), e50, bd1_i rfl, e61, bd1_i rfl, gI_N (by omega) (by omega), lt_e, e74, bd1_i rfl, h2p, q_addSide (by omega) hq2 (by omega), bd4_i rfl, e84, bd1_i rfl, s1, q_addSide (by omega) hq1 (by omega), bd4_i rfl, lt_e, s1, bd6_i rfl, if_neg (nn _ hq1), bd1_i rfl, lt_e, s1, N_nat (by omega)]
        exact z
      · have es := q_sk_f (n := n) (I := I) (l := l) (s := q_sl n I l) (d := d) e
        obtain ⟨so', pl', be', di', le', z, r1, r2⟩ := ih (d + 1) so pl be di le (by omega) (by omega) (by rw [es]; exact hcp) (by rw [es]; exact hou)
        refine ⟨so', pl', be', di', le', ?_, r1, r2⟩
        rw [es] at z
        rw [hpA.2 e, if_pos (by rfl), bd6_i rfl, if_pos (by rfl), bd1_i rfl, lt_e, N_lit 1, N_add]
        exact z
