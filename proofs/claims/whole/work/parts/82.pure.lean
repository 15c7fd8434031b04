theorem q_Ccut {n : Nat} {T I : Sto} {nx ny : Nat} {X Y : Nat → Nat} {F : Ce → Int} {fx fy f1 f2 f3 f4 pX pY pA ce so pl be di le : Nat → Int32} (hok : q_ok n T) (hg : q_gi n I nx ny) (hi : q_ix n T I X Y) (hc : q_cl n T f1 f2 f3 f4) (hr : q_gr nx ny X Y fx fy)
    (hp : q_pr n I nx ny X Y (40 * nx) pX pY pA) (hce : q_cc 41 nx ny ce F) {l : Nat} (hl : l < n) (hcp : q_cp n I F (q_sl n I l).1 (q_sl n I l).2 pl be di le) (hou : q_ou n I (q_sl n I l).1 (q_sl n I l).2 (fun i j d => so (4 * q_pn n I (40 * i + j) + d))) :
    ∃ so' pl' be' di' le', m_Ne_cutIntoPieces (N l) (N (q_sl n I l).1) so pl be di le pA f1 f2 f3 f4 (N nx) fx (N ny) fy ce = some (N (q_sl n I (l + 1)).1, so', pl', be', di', le') ∧
      q_cp n I F (q_sl n I (l + 1)).1 (q_sl n I (l + 1)).2 pl' be' di' le' ∧ q_ou n I (q_sl n I (l + 1)).1 (q_sl n I (l + 1)).2 (fun i j d => so' (4 * q_pn n I (40 * i + j) + d)) := by
  have hg' := hg
  obtain ⟨hn, hx, hy, hln, _⟩ := hg
  obtain ⟨rx, ix, bx, ry, iy, by_⟩ := hr
  obtain ⟨a1, a2, a3⟩ := hln l hl
  obtain ⟨e1, e2, e3, e4⟩ := hi l hl
  obtain ⟨g1, g2, g3, g4⟩ := hc l hl
  have hlh := q_lohi hg' hl
  have fxx : yl T l = yh T l ↔ yl I l = yh I l := by rw [e2, e4, iy.eq_iff (by omega) a2]
  have hfl : m_Li_isFlat (N l) f2 f4 = some (if yl I l = yh I l then 1 else 0) := by
    rw [q_isFlat hok hc hl]
    by_cases f : yl I l = yh I l
    · rw [if_pos f, if_pos (fxx.mpr f)]
    · rw [if_neg f, if_neg (fun q => f (fxx.mp q))]
  obtain ⟨so', pl', be', di', le', z, r1, r2⟩ := q_Ccut_L hg' hp hce hl 999999 0 so pl be di le (by have := a1; have := a2; unfold q_hi; by_cases c : yl I l = yh I l; (rw [if_pos c]; omega); (rw [if_neg c]; omega)) (by omega) hcp hou
  refine ⟨so', pl', be', di', le', ?_, r1, r2⟩
  have e12 : (if (if yl I l = yh I l then (1 : Int32) else 0) = 0 then gI (N l) 20 (bd1 (m_Cu_indexOf (N (Y (yh I l))) (N ny) fy) fun r15 => some (r15 - N (yl I l))) else gI (N l) 20 (bd1 (m_Cu_indexOf (N (X (xh I l))) (N nx) fx) fun r18 => some (r18 - N (xl I l)))) = some (N (q_hi I l - q_lo I l)) := by
    unfold q_hi q_lo
    by_cases f : yl I l = yh I l
    · rw [if_pos f, if_pos f, if_pos f, if_neg (by decide), gI_N (by omega) (by omega), q_indexOf rx ix hx bx (by omega), bd1_i rfl, N_sub (by omega)]
    · rw [if_neg f, if_neg f, if_neg f, if_pos rfl, gI_N (by omega) (by omega), q_indexOf ry iy hy by_ (by omega), bd1_i rfl, N_sub (by omega)]
  have hin := q_nd_in hg' hl (Nat.le_of_lt hlh)
  have hlt := q_nd_lt hg' hl (Nat.le_of_lt hlh)
  have hpA := ((hp (q_nd I l (q_lo I l)).1 (q_nd I l (q_lo I l)).2 hin.1 hin.2 (by omega)).1 (q_pt_lo hg' hl)).1
  have hq1 := q_pv_lt hg' (q_pt_lo hg' hl)
  have first : m_Ne_cutIntoPieces_L85 (N l) (if yl I l = yh I l then 1 else 0) (N (xl I l)) (N (yl I l)) (N (q_hi I l - q_lo I l)) pA ce fu (-1) 0 (N (q_sl n I l).1) so pl be di le =
      m_Ne_cutIntoPieces_L85 (N l) (if yl I l = yh I l then 1 else 0) (N (xl I l)) (N (yl I l)) (N (q_hi I l - q_lo I l)) pA ce 999999 (N (q_pv n I (q_nd I l (q_lo I l)))) (N 1) (N (q_sl n I l).1) so pl be di le := by
    have e24 : (if (if yl I l = yh I l then (1 : Int32) else 0) = 0 then some (N (xl I l)) else some (N (xl I l) + 0)) = some (N (q_nd I l (q_lo I l)).1) := by
      unfold q_nd q_lo
      by_cases f : yl I l = yh I l
      · rw [if_pos f, if_pos f, if_pos f, if_neg (by decide), N_lit 0, N_add]; rfl
      · rw [if_neg f, if_neg f, if_pos rfl]
    have e29 : (if (if yl I l = yh I l then (1 : Int32) else 0) = 0 then some (N (yl I l) + 0) else some (N (yl I l))) = some (N (q_nd I l (q_lo I l)).2) := by
      unfold q_nd q_lo
      by_cases f : yl I l = yh I l
      · rw [if_pos f, if_pos f, if_neg (by decide)]
      · rw [if_neg f, if_neg f, if_pos rfl, if_neg f, N_lit 0, N_add]; rfl
    have nn : ∀ q, q < 140 → ¬ N q = (-1) := fun q hq => by rw [N_J, show (-1 : Int32) = J (-1) from rfl, J_eq (by omega) (by omega) (by omega) (by omega)]; omega
    have hhi : q_hi I l - q_lo I l < 2147483648 := by
      unfold q_hi
      by_cases c : yl I l = yh I l
      · rw [if_pos c]; omega
      · rw [if_neg c]; omega
    rw [show fu = 999999 + 1 from rfl, m_Ne_cutIntoPieces_L85, if_neg (fun q => by rw [N_lit 0] at q; have := (N_lt (by omega) (by omega)).mp q; omega), e24, bd1_i rfl, e29, bd1_i rfl, q_node, bd1_i rfl, gI_N (by omega) (by omega), lt_e, N_nat (by omega), hpA, if_neg (nn _ hq1), if_pos rfl, bd6_i rfl, if_neg (nn _ hq1), bd1_i rfl, lt_e]
    rfl
  unfold m_Ne_cutIntoPieces
  rw [hfl, bd1_i rfl, gI_N (by omega) (by omega), N_nat (by omega), g1, g2, g3, g4, e1, e2, e3, e4, q_indexOf rx ix hx bx (by omega), bd1_i rfl, gI_N (by omega) (by omega), q_indexOf ry iy hy by_ (by omega), bd1_i rfl, e12, bd1_i rfl, first]
  have z' : m_Ne_cutIntoPieces_L85 (N l) (if yl I l = yh I l then 1 else 0) (N (xl I l)) (N (yl I l)) (N (q_hi I l - q_lo I l)) pA ce 999999 (N (q_pv n I (q_nd I l (q_lo I l)))) (N 1) (N (q_sl n I l).1) so pl be di le = _ := z
  rw [bd6_i z']
theorem q_Cbuild_L {n : Nat} {T I : Sto} {nx ny : Nat} {X Y : Nat → Nat} {F : Ce → Int} {fx fy f1 f2 f3 f4 pX pY pA ce : Nat → Int32} (hok : q_ok n T) (hg : q_gi n I nx ny) (hi : q_ix n T I X Y) (hc : q_cl n T f1 f2 f3 f4) (hr : q_gr nx ny X Y fx fy)
    (hp : q_pr n I nx ny X Y (40 * nx) pX pY pA) (hce : q_cc 41 nx ny ce F) :
    ∀ fuel l so pl be di le, n - l < fuel → l ≤ n → q_cp n I F (q_sl n I l).1 (q_sl n I l).2 pl be di le → q_ou n I (q_sl n I l).1 (q_sl n I l).2 (fun i j d => so (4 * q_pn n I (40 * i + j) + d)) →
    ∃ so' pl' be' di' le', m_Ne_build_L18 pA (N n) f1 f2 f3 f4 (N nx) fx (N ny) fy ce fuel (N l) (N (q_sl n I l).1) so pl be di le = some (N (q_sl n I n).1, so', pl', be', di', le') ∧
      q_cp n I F (q_sl n I n).1 (q_sl n I n).2 pl' be' di' le' ∧ q_ou n I (q_sl n I n).1 (q_sl n I n).2 (fun i j d => so' (4 * q_pn n I (40 * i + j) + d)) := by
  have hn := hg.1
  intro fuel
  induction fuel with
  | zero => intro l so pl be di le h; omega
  | succ m ih =>
    intro l so pl be di le hm hl hcp hou
    rw [m_Ne_build_L18]
    by_cases c : n ≤ l
    · rw [if_pos ((N_le (by omega) (by omega)).mpr c)]
      have e : l = n := by omega
      subst e
      exact ⟨so, pl, be, di, le, rfl, hcp, hou⟩
    · obtain ⟨so1, pl1, be1, di1, le1, z1, r1, r2⟩ := q_Ccut hok hg hi hc hr hp hce (l := l) (by omega) hcp hou
      obtain ⟨so2, pl2, be2, di2, le2, z2, s1, s2⟩ := ih (l + 1) so1 pl1 be1 di1 le1 (by omega) (by omega) r1 r2
      refine ⟨so2, pl2, be2, di2, le2, ?_, s1, s2⟩
      rw [if_neg (fun q => c ((N_le (by omega) (by omega)).mp q)), bd6_i z1, lt_e, N_lit 1, N_add]
      exact z2
abbrev q_nv (v : Nat × Nat) : Nat := 42 * v.1 + v.2
def q_rp (I : Sto) (F : Ce → Int) (np : Nat) (P : Pcs) (pl pb pe pf pr : Nat → Int32) : Prop := ∀ p, p < np →
  pl p = N (P p).1 ∧ pb p = N (q_nv (q_nd I (P p).1 (P p).2.1)) ∧ pe p = N (q_nv (q_nd I (P p).1 (P p).2.2)) ∧ pf p = J (F (q_lc I (P p).1 ((P p).2.1 + 1))) ∧ pr p = J (F (q_rc I (P p).1 ((P p).2.1 + 1)))
theorem q_rp_add {I : Sto} {F : Ce → Int} {np : Nat} {P : Pcs} {pl pb pe pf pr : Nat → Int32} {l a b : Nat} (h : q_rp I F np P pl pb pe pf pr) :
    q_rp I F (np + 1) (q_pad P np l a b) (upd pl np (N l)) (upd pb np (N (q_nv (q_nd I l a)))) (upd pe np (N (q_nv (q_nd I l b)))) (upd pf np (J (F (q_lc I l (a + 1))))) (upd pr np (J (F (q_rc I l (a + 1))))) := by
  intro p hp
  by_cases e : p = np
  · subst e
    rw [q_pad_n, upd_s, upd_s, upd_s, upd_s, upd_s]
    exact ⟨rfl, rfl, rfl, rfl, rfl⟩
  · rw [q_pad_o (by omega)]
    repeat rw [upd_n _ _ e]
    exact h p (by omega)
theorem q_ru_add {n : Nat} {I : Sto} {nx ny : Nat} (hg : q_gi n I nx ny) {np : Nat} {P : Pcs} {so : Nat → Int32} {l a b : Nat} (ha : q_isp n I l a) (hb : q_isp n I l b) (h : q_ou n I np P (fun i j d => so (4 * (42 * i + j) + d))) :
    q_ou n I (np + 1) (q_pad P np l a b) (fun i j d => upd (upd so (4 * q_nv (q_nd I l a) + q_d0 I l) (N (2 * np))) (4 * q_nv (q_nd I l b) + (q_d0 I l + 2)) (N (2 * np + 1)) (4 * (42 * i + j) + d)) := by
  have hd := q_d0_lt I l
  have key : ∀ i j d k e, q_pt n I i j → d < 4 → e < 4 → q_isp n I l k → 4 * (42 * i + j) + d = 4 * q_nv (q_nd I l k) + e → (i, j) = q_nd I l k ∧ d = e := by
    intro i j d k e hp hd he hk q
    have a1 := q_pt_in hg hp
    have a2 := q_pt_in hg hk
    have := hg.2.2.1
    have q2 : 4 * (42 * i + j) + d = 4 * (42 * (q_nd I l k).1 + (q_nd I l k).2) + e := q
    obtain ⟨x, y⟩ := q_enc (w := 42) (c := i) (r := j) (c' := (q_nd I l k).1) (r' := (q_nd I l k).2) (by omega) (by omega) (by omega)
    exact ⟨Prod.ext x y, by omega⟩
  refine q_ou_add h (fun i j d hp hd' => ?_)
  by_cases c1 : (i, j) = q_nd I l b ∧ d = q_d0 I l + 2
  · rw [if_pos c1, ← c1.1, c1.2]; exact upd_s _ _ _
  · rw [if_neg c1, upd_n _ _ (fun q => c1 (key i j d b _ hp hd' (by omega) hb q))]
    by_cases c2 : (i, j) = q_nd I l a ∧ d = q_d0 I l
    · rw [if_pos c2, ← c2.1, c2.2]; exact upd_s _ _ _
    · rw [if_neg c2, upd_n _ _ (fun q => c2 (key i j d a _ hp hd' (by omega) ha q))]
def q_stay (I : Sto) (l : Nat) : Nat := if yl I l = yh I l then yl I l else xl I l
theorem q_Rcut_L {n : Nat} {I : Sto} {nx ny : Nat} {F : Ce → Int} {fp ce : Nat → Int32} (hg : q_gi n I nx ny) (hp : q_ir n I nx ny (40 * nx) fp) (hce : q_cc 42 nx ny ce F) {l : Nat} (hl : l < n) :
    ∀ fuel d pl pb pe pf pr so, q_hi I l - q_lo I l - d < fuel → d ≤ q_hi I l - q_lo I l →
    q_rp I F (q_sk n I l (q_sl n I l) d).1 (q_sk n I l (q_sl n I l) d).2.1 pl pb pe pf pr → q_ou n I (q_sk n I l (q_sl n I l) d).1 (q_sk n I l (q_sl n I l) d).2.1 (fun i j d => so (4 * (42 * i + j) + d)) →
    ∃ pl' pb' pe' pf' pr' so', m_Mo_findPieces_L158 (N l) (if yl I l = yh I l then 1 else 0) (N (q_stay I l)) (N (q_hi I l)) ce fp fuel (N (q_sk n I l (q_sl n I l) d).2.2) (N (q_lo I l + d + 1)) (N (q_sk n I l (q_sl n I l) d).1) pl pb pe pf pr so = some (N (q_sl n I (l + 1)).1, pl', pb', pe', pf', pr', so') ∧
      q_rp I F (q_sl n I (l + 1)).1 (q_sl n I (l + 1)).2 pl' pb' pe' pf' pr' ∧ q_ou n I (q_sl n I (l + 1)).1 (q_sl n I (l + 1)).2 (fun i j d => so' (4 * (42 * i + j) + d)) := by
  have hx := hg.2.1
  have hy := hg.2.2.1
  have hn := hg.1
  have hlh := q_lohi hg hl
  have hln := hg.2.2.2.1 l hl
  have hd0 := q_d0_lt I l
  have hhi : q_hi I l ≤ 40 := by
    unfold q_hi
    by_cases c : yl I l = yh I l
    · rw [if_pos c]; omega
    · rw [if_neg c]; omega
  intro fuel
  induction fuel with
  | zero => intro d pl pb pe pf pr so h; omega
  | succ m ih =>
    intro d pl pb pe pf pr so hm hd hcp hou
    rw [m_Mo_findPieces_L158]
    by_cases c : q_hi I l < q_lo I l + d + 1
    · rw [if_pos ((N_lt (by omega) (by omega)).mpr c)]
      have e : d = q_hi I l - q_lo I l := by omega
      subst e
      exact ⟨pl, pb, pe, pf, pr, so, rfl, hcp, hou⟩
    · have hk : q_lo I l + d + 1 ≤ q_hi I l := by omega
      have hin := q_nd_in hg hl hk
      obtain ⟨bg1, bg2, bg3, bg4⟩ := q_sk_bg hg hl (s := q_sl n I l) d hd
      have nde : ∀ k, (if (if yl I l = yh I l then (1 : Int32) else 0) = 0 then some (42 * N (q_stay I l) + N k) else some (42 * N k + N (q_stay I l))) = some (N (q_nv (q_nd I l k))) := by
        intro k
        unfold q_nd q_stay q_nv
        by_cases f : yl I l = yh I l
        · rw [if_pos f, if_pos f, if_pos f, if_neg (by decide), N_lit 42, N_mul, N_add]
        · rw [if_neg f, if_neg f, if_neg f, if_pos rfl, N_lit 42, N_mul, N_add]
      have hpA := hp (q_nd I l (q_lo I l + d + 1)).1 (q_nd I l (q_lo I l + d + 1)).2 hin.1 hin.2 (by omega)
      have hnv : q_nv (q_nd I l (q_lo I l + d + 1)) < 1764 := by unfold q_nv; omega
      have hpA' : fp (q_nv (q_nd I l (q_lo I l + d + 1))) = N (q_one (q_isp n I l (q_lo I l + d + 1))) := hpA
      rw [if_neg (fun q => c ((N_lt (by omega) (by omega)).mp q)), nde, bd1_i rfl, gI_N hnv (by omega), N_nat (by omega), hpA']
      by_cases e : q_isp n I l (q_lo I l + d + 1)
      · have hb : (q_sk n I l (q_sl n I l) (d + 1)).1 ≤ 220 := q_220 hg hl (by omega)
        have es := q_sk_t (n := n) (I := I) (l := l) (s := q_sl n I l) (d := d) e
        rw [es] at hb
        dsimp only at hb
        generalize hbg : (q_sk n I l (q_sl n I l) d).2.2 = bg at *
        have hbgin := q_nd_in hg hl (k := bg) (by omega)
        have hbnv : q_nv (q_nd I l bg) < 1764 := by unfold q_nv; omega
        obtain ⟨hcl, hcr⟩ := q_cells hg hl (k := bg + 1) (by omega)
        have e80 : (if (if yl I l = yh I l then (1 : Int32) else 0) = 0 then gI (42 * N (q_stay I l) + N bg + 1) 1764 (some (ce (42 * N (q_stay I l) + N bg + 1).toNatClampNeg)) else gI (42 * (N bg + 1) + N (q_stay I l) + 1) 1764 (some (ce (42 * (N bg + 1) + N (q_stay I l) + 1).toNatClampNeg))) = some (J (F (q_lc I l (bg + 1)))) := by
          have hc1 := hcl.1
          have hc2 := hcl.2
          have := hce _ _ hc1 hc2
          unfold q_lc at this hc1 hc2 ⊢
          unfold q_stay
          by_cases f : yl I l = yh I l
          · rw [if_pos f] at this hc1 hc2
            rw [if_pos f, if_pos f, if_pos f, if_neg (by decide), N_lit 1, N_add, N_lit 42, N_mul, N_add, N_add]; dsimp only at *; rw [gI_N (by omega) (by omega), N_nat (by omega), ← this]; rfl
          · rw [if_neg f] at this hc1 hc2
            rw [if_neg f, if_neg f, if_neg f, if_pos rfl, N_lit 42, N_mul, N_add, N_lit 1, N_add]; dsimp only at *; rw [gI_N (by omega) (by omega), N_nat (by omega), ← this]; rfl
        have e89 : (if (if yl I l = yh I l then (1 : Int32) else 0) = 0 then gI (42 * (N (q_stay I l) + 1) + N bg + 1) 1764 (some (ce (42 * (N (q_stay I l) + 1) + N bg + 1).toNatClampNeg)) else gI (42 * (N bg + 1) + N (q_stay I l)) 1764 (some (ce (42 * (N bg + 1) + N (q_stay I l)).toNatClampNeg))) = some (J (F (q_rc I l (bg + 1)))) := by
          have hc1 := hcr.1
          have hc2 := hcr.2
          have := hce _ _ hc1 hc2
          unfold q_rc at this hc1 hc2 ⊢
          unfold q_stay
          by_cases f : yl I l = yh I l
          · rw [if_pos f] at this hc1 hc2
            rw [if_pos f, if_pos f, if_pos f, if_neg (by decide), N_lit 1, N_add, N_lit 42, N_mul, N_add]; dsimp only at *; rw [gI_N (by omega) (by omega), N_nat (by omega), ← this]
          · rw [if_neg f] at this hc1 hc2
            rw [if_neg f, if_neg f, if_neg f, if_pos rfl, N_lit 1, N_add, N_lit 42, N_mul, N_add, N_add]; dsimp only at *; rw [gI_N (by omega) (by omega), N_nat (by omega), ← this]; rfl
        have e98 : (if (if yl I l = yh I l then (1 : Int32) else 0) = 0 then some (1 : Int32) else some 0) = some (N (q_d0 I l)) := by
          unfold q_d0
          by_cases f : yl I l = yh I l
          · rw [if_pos f, if_pos f, if_neg (by decide)]; rfl
          · rw [if_neg f, if_neg f, if_pos rfl]; rfl
        have e105 : (if (if yl I l = yh I l then (1 : Int32) else 0) = 0 then some (3 : Int32) else some 2) = some (N (q_d0 I l + 2)) := by
          unfold q_d0
          by_cases f : yl I l = yh I l
          · rw [if_pos f, if_pos f, if_neg (by decide)]; rfl
          · rw [if_neg f, if_neg f, if_pos rfl]; rfl
        have s1 : ∀ q, N q + 1 = N (q + 1) := fun q => by rw [N_lit 1, N_add]
        have s2 : ∀ q, 2 * N q = N (2 * q) := fun q => by rw [N_lit 2, N_mul]
        have s4 : ∀ q r, 4 * N q + N r = N (4 * q + r) := fun q r => by rw [N_lit 4, N_mul, N_add]
        obtain ⟨pl', pb', pe', pf', pr', so', z, r1, r2⟩ := ih (d + 1) _ _ _ _ _ _ (by omega) (by omega) (by rw [es]; exact q_rp_add hcp) (by rw [es]; exact q_ru_add hg bg1 e hou)
        refine ⟨pl', pb', pe', pf', pr', so', ?_, r1, r2⟩
        rw [es] at z
        dsimp only at z
        rw [if_neg (fun q => (q_one0 _).mp q e), nde, bd1_i rfl, gI_N (by omega) (by omega), lt_e, gI_N (by omega) (by omega), lt_e, gI_N (by omega) (by omega), lt_e, e80, bd1_i rfl, gI_N (by omega) (by omega), lt_e, e89, bd1_i rfl, gI_N (by omega) (by omega), lt_e, e98, bd1_i rfl, s4, gI_N (by omega) (by omega), lt_e, e105, bd1_i rfl, s4, gI_N (by omega) (by omega), lt_e, lt_e, s1, bd8_i rfl, lt_e, s1, s2, s1, N_nat (by omega), N_nat (by omega), N_nat (by omega)]
        exact z
      · have es := q_sk_f (n := n) (I := I) (l := l) (s := q_sl n I l) (d := d) e
        obtain ⟨pl', pb', pe', pf', pr', so', z, r1, r2⟩ := ih (d + 1) pl pb pe pf pr so (by omega) (by omega) (by rw [es]; exact hcp) (by rw [es]; exact hou)
        refine ⟨pl', pb', pe', pf', pr', so', ?_, r1, r2⟩
        rw [es] at z
        rw [if_pos ((q_one0 _).mpr e), bd8_i rfl, lt_e, N_lit 1, N_add]
        exact z
theorem q_Rpcs_L {n : Nat} {T I : Sto} {nx ny : Nat} {X Y : Nat → Nat} {F : Ce → Int} {fx fy fI fA fL fH fp ce : Nat → Int32} (hg : q_gi n I nx ny) (hi : q_ix n T I X Y) (hc : q_rl n T fI fA fL fH) (hr : q_gr nx ny X Y fx fy)
    (hp : q_ir n I nx ny (40 * nx) fp) (hce : q_cc 42 nx ny ce F) :
    ∀ fuel l pl pb pe pf pr so, n - l < fuel → l ≤ n → q_rp I F (q_sl n I l).1 (q_sl n I l).2 pl pb pe pf pr → q_ou n I (q_sl n I l).1 (q_sl n I l).2 (fun i j d => so (4 * (42 * i + j) + d)) →
    ∃ pl' pb' pe' pf' pr' so', m_Mo_findPieces_L29 (N n) fI fA fL fH fx fy ce fp fuel (N l) (N (q_sl n I l).1) pl pb pe pf pr so = some (N (q_sl n I n).1, pl', pb', pe', pf', pr', so') ∧
      q_rp I F (q_sl n I n).1 (q_sl n I n).2 pl' pb' pe' pf' pr' ∧ q_ou n I (q_sl n I n).1 (q_sl n I n).2 (fun i j d => so' (4 * (42 * i + j) + d)) := by
  have hg' := hg
  obtain ⟨hn, hx, hy, hln, _⟩ := hg
  obtain ⟨rx, ix, bx, ry, iy, by_⟩ := hr
  intro fuel
  induction fuel with
  | zero => intro l pl pb pe pf pr so h; omega
  | succ m ih =>
    intro l pl pb pe pf pr so hm hl hcp hou
    rw [m_Mo_findPieces_L29]
    by_cases c : n ≤ l
    · rw [if_pos ((N_le (by omega) (by omega)).mpr c)]
      have e : l = n := by omega
      subst e
      exact ⟨pl, pb, pe, pf, pr, so, rfl, hcp, hou⟩
    · have hl' : l < n := by omega
      obtain ⟨a1, a2, a3⟩ := hln l hl'
      obtain ⟨e1, e2, e3, e4⟩ := hi l hl'
      have hlh := q_lohi hg' hl'
      have hhi : q_hi I l ≤ 40 := by
        unfold q_hi
        by_cases c : yl I l = yh I l
        · rw [if_pos c]; omega
        · rw [if_neg c]; omega
      have fxx : yl T l = yh T l ↔ yl I l = yh I l := by rw [e2, e4, iy.eq_iff (by omega) a2]
      obtain ⟨pl1, pb1, pe1, pf1, pr1, so1, z1, r1, r2⟩ := q_Rcut_L hg' hp hce hl' fu 0 pl pb pe pf pr so (by unfold fu; omega) (by omega) hcp hou
      obtain ⟨pl2, pb2, pe2, pf2, pr2, so2, z2, s1, s2⟩ := ih (l + 1) pl1 pb1 pe1 pf1 pr1 so1 (by omega) (by omega) r1 r2
      refine ⟨pl2, pb2, pe2, pf2, pr2, so2, ?_, s1, s2⟩
      have z1' : m_Mo_findPieces_L158 (N l) (if yl I l = yh I l then 1 else 0) (N (q_stay I l)) (N (q_hi I l)) ce fp fu (N (q_lo I l)) (N (q_lo I l + 1)) (N (q_sl n I l).1) pl pb pe pf pr so = _ := z1
      rw [if_neg (fun q => c ((N_le (by omega) (by omega)).mp q)), gI_N (by omega) (by omega), N_nat (by omega), lt_e]
      by_cases f : yl I l = yh I l
      · obtain ⟨g1, g2, g3, g4⟩ := (hc l hl').1 (fxx.mpr f)
        rw [if_pos f, show q_stay I l = yl I l from if_pos f, show q_hi I l = xh I l from if_pos f, show q_lo I l = xl I l from if_pos f] at z1'
        rw [g1, g2, g3, g4, e1, e2, e3, if_neg (by decide), gI_N (by omega) (by omega), q_find ry iy (by omega) by_ (by omega), bd1_i rfl, bd1_i rfl, if_neg (by decide), gI_N (by omega) (by omega), q_find rx ix (by omega) bx (by omega), bd1_i rfl, bd1_i rfl, if_neg (by decide), gI_N (by omega) (by omega), q_find rx ix (by omega) bx (by omega), bd1_i rfl, bd1_i rfl, lt_e, show N (xl I l) + 1 = N (xl I l + 1) from by rw [N_lit 1, N_add], bd7_i z1', lt_e, N_lit 1, N_add]
        exact z2
      · obtain ⟨g1, g2, g3, g4⟩ := (hc l hl').2 (fun q => f (fxx.mp q))
        rw [if_neg f, show q_stay I l = xl I l from if_neg f, show q_hi I l = yh I l from if_neg f, show q_lo I l = yl I l from if_neg f] at z1'
        rw [g1, g2, g3, g4, e1, e2, e4, if_pos rfl, gI_N (by omega) (by omega), q_find rx ix (by omega) bx (by omega), bd1_i rfl, bd1_i rfl, if_pos rfl, gI_N (by omega) (by omega), q_find ry iy (by omega) by_ (by omega), bd1_i rfl, bd1_i rfl, if_pos rfl, gI_N (by omega) (by omega), q_find ry iy (by omega) by_ (by omega), bd1_i rfl, bd1_i rfl, lt_e, show N (yl I l) + 1 = N (yl I l + 1) from by rw [N_lit 1, N_add], bd7_i z1', lt_e, N_lit 1, N_add]
        exact z2
theorem q_Routs_L : ∀ fuel k (f : Nat → Int32), 7056 - k < fuel → k ≤ 7056 → m_Mo_findPieces_L7 fuel (N k) f = some (fun j => if k ≤ j ∧ j < 7056 then J (-1) else f j) := by
  intro fuel
  induction fuel with
  | zero => intro k f h; omega
  | succ m ih =>
    intro k f h hk
    rw [m_Mo_findPieces_L7]
    by_cases c : 7056 ≤ k
    · rw [if_pos (by rw [N_lit 7056]; exact (N_le (by omega) (by omega)).mpr c)]
      congr 1; funext j; rw [if_neg (by omega)]
    · rw [if_neg (by rw [N_lit 7056]; exact fun q => c ((N_le (by omega) (by omega)).mp q)), gI_N (by omega) (by omega), lt_e, lt_e, N_nat (by omega), N_lit 1, N_add, ih _ _ (by omega) (by omega)]
      congr 1; funext j
      by_cases e : j = k
      · subst e; rw [if_neg (by omega), if_pos (by omega), upd_s]; rfl
      · rw [upd_n _ _ e]
        by_cases c2 : k ≤ j ∧ j < 7056
        · rw [if_pos c2, if_pos (by omega)]
        · rw [if_neg c2, if_neg (by omega)]
theorem q_Rpcs {n : Nat} {T I : Sto} {nx ny : Nat} {X Y : Nat → Nat} {F : Ce → Int} {fx fy fI fA fL fH fp ce : Nat → Int32} (hg : q_gi n I nx ny) (hi : q_ix n T I X Y) (hc : q_rl n T fI fA fL fH) (hr : q_gr nx ny X Y fx fy)
    (hp : q_ir n I nx ny (40 * nx) fp) (hce : q_cc 42 nx ny ce F) (v0 : Int32) (pl pb pe pf pr so : Nat → Int32) :
    ∃ pl' pb' pe' pf' pr' so', m_Mo_findPieces (N n) v0 fI fA fL fH fx fy ce fp pl pb pe pf pr so = some (N (q_sl n I n).1, pl', pb', pe', pf', pr', so') ∧
      q_rp I F (q_sl n I n).1 (q_sl n I n).2 pl' pb' pe' pf' pr' ∧ q_ou n I (q_sl n I n).1 (q_sl n I n).2 (fun i j d => so' (4 * (42 * i + j) + d)) := by
  have hn := hg.1
  have e1 := q_Routs_L fu 0 so (by unfold fu; omega) (by omega)
  obtain ⟨a1, a2, a3, a4, a5, a6, z, r1, r2⟩ := q_Rpcs_L hg hi hc hr hp hce fu 0 pl pb pe pf pr (fun j => if 0 ≤ j ∧ j < 7056 then J (-1) else so j) (by unfold fu; omega) (by omega) (fun p h => by have h : p < 0 := h; omega) (fun i j d hp hd => Or.inr ⟨fun h hh => by have hh : h < 2 * 0 := hh; omega, by
    have := q_pt_in hg hp; have := hg.2.1; have := hg.2.2.1; dsimp only; rw [if_pos (by omega)]⟩)
  refine ⟨a1, a2, a3, a4, a5, a6, ?_, r1, r2⟩
  unfold m_Mo_findPieces
  have z' : m_Mo_findPieces_L29 (N n) fI fA fL fH fx fy ce fp fu (N 0) (N 0) pl pb pe pf pr (fun j => if 0 ≤ j ∧ j < 7056 then J (-1) else so j) = _ := z
  rw [show (0 : Int32) = N 0 from rfl, bd1_i e1, bd7_i z']
/-! What the pieces are. -/
def q_pa (n : Nat) (I : Sto) (P : Pcs) (p : Nat) : Prop := (P p).1 < n ∧ q_lo I (P p).1 ≤ (P p).2.1 ∧ (P p).2.1 < (P p).2.2 ∧ (P p).2.2 ≤ q_hi I (P p).1 ∧ q_isp n I (P p).1 (P p).2.1 ∧ q_isp n I (P p).1 (P p).2.2 ∧ ∀ k, (P p).2.1 < k → k < (P p).2.2 → ¬ q_isp n I (P p).1 k
def q_pi (n : Nat) (I : Sto) (l bg np : Nat) (P : Pcs) : Prop :=
  (∀ p, p < np → q_pa n I P p ∧ ((P p).1 < l ∨ ((P p).1 = l ∧ (P p).2.2 ≤ bg))) ∧
  (∀ m t, m < n → (m < l ∨ (m = l ∧ t < bg)) → q_lo I m ≤ t → t < q_hi I m → ∃ p, p < np ∧ (P p).1 = m ∧ (P p).2.1 ≤ t ∧ t < (P p).2.2) ∧
  (∀ p q t, p < np → q < np → (P p).1 = (P q).1 → (P p).2.1 ≤ t → t < (P p).2.2 → (P q).2.1 ≤ t → t < (P q).2.2 → p = q)
theorem q_pi_add {n : Nat} {I : Sto} {l bg np k : Nat} {P : Pcs} (h : q_pi n I l bg np P) (hl : l < n) (h1 : q_lo I l ≤ bg) (h2 : bg < k) (h3 : k ≤ q_hi I l) (h4 : q_isp n I l bg) (h5 : q_isp n I l k) (h6 : ∀ t, bg < t → t < k → ¬ q_isp n I l t) : q_pi n I l k (np + 1) (q_pad P np l bg k) := by
  obtain ⟨a, b, c⟩ := h
  refine ⟨fun p hp => ?_, fun m t hm hml ht1 ht2 => ?_, fun p q t hp hq e x1 x2 x3 x4 => ?_⟩
  · by_cases e : p = np
    · subst e; unfold q_pa; rw [q_pad_n]; exact ⟨⟨hl, h1, h2, h3, h4, h5, h6⟩, Or.inr ⟨rfl, Nat.le_refl _⟩⟩
    · unfold q_pa; rw [q_pad_o (by omega)]
      obtain ⟨y1, y2⟩ := a p (by omega)
      exact ⟨y1, y2.elim Or.inl (fun q => Or.inr ⟨q.1, by omega⟩)⟩
  · by_cases e : m = l ∧ bg ≤ t
    · exact ⟨np, by omega, by rw [q_pad_n]; exact ⟨e.1.symm, e.2, by dsimp only; omega⟩⟩
    · obtain ⟨p, y1, y2⟩ := b m t hm (by omega) ht1 ht2
      exact ⟨p, by omega, by rw [q_pad_o y1]; exact y2⟩
  · by_cases e1 : p = np
    · by_cases e2 : q = np
      · omega
      · exfalso
        rw [e1, q_pad_n, q_pad_o (show q < np by omega)] at e
        rw [e1, q_pad_n] at x1 x2
        rw [q_pad_o (show q < np by omega)] at x3 x4
        dsimp only at e x1 x2
        have := (a q (by omega)).2
        omega
    · by_cases e2 : q = np
      · exfalso
        rw [e2, q_pad_n, q_pad_o (show p < np by omega)] at e
        rw [e2, q_pad_n] at x3 x4
        rw [q_pad_o (show p < np by omega)] at x1 x2
        dsimp only at e x3 x4
        have := (a p (by omega)).2
        omega
      · rw [q_pad_o (show p < np by omega)] at e x1 x2
        rw [q_pad_o (show q < np by omega)] at e x3 x4
        exact c p q t (by omega) (by omega) e x1 x2 x3 x4
theorem q_pi_k {n : Nat} {I : Sto} {nx ny : Nat} (hg : q_gi n I nx ny) {l : Nat} (hl : l < n) (h : q_pi n I l (q_lo I l) (q_sl n I l).1 (q_sl n I l).2) : ∀ d, d ≤ q_hi I l - q_lo I l →
    q_pi n I l (q_sk n I l (q_sl n I l) d).2.2 (q_sk n I l (q_sl n I l) d).1 (q_sk n I l (q_sl n I l) d).2.1 := by
  intro d
  induction d with
  | zero => intro _; exact h
  | succ d ih =>
    intro hd
    have ih' := ih (by omega)
    obtain ⟨b1, b2, b3, b4⟩ := q_sk_bg hg hl (s := q_sl n I l) d (by omega)
    by_cases c : q_isp n I l (q_lo I l + d + 1)
    · rw [q_sk_t c]
      show q_pi n I l (q_lo I l + d + 1) ((q_sk n I l (q_sl n I l) d).1 + 1) (q_pad (q_sk n I l (q_sl n I l) d).2.1 (q_sk n I l (q_sl n I l) d).1 l (q_sk n I l (q_sl n I l) d).2.2 (q_lo I l + d + 1))
      exact q_pi_add ih' hl b2 (by omega) (by omega) b1 c (fun t y1 y2 => b4 t y1 (by omega))
    · rw [q_sk_f c]; exact ih'
theorem q_pi_l {n : Nat} {I : Sto} {nx ny : Nat} (hg : q_gi n I nx ny) : ∀ l, l ≤ n → q_pi n I l (q_lo I l) (q_sl n I l).1 (q_sl n I l).2 := by
  intro l
  induction l with
  | zero => intro _; exact ⟨fun p h => by have h : p < 0 := h; omega, fun m t _ h h1 _ => by
      rcases h with h | ⟨h, h'⟩
      · omega
      · subst h; omega, fun p q t h => by have h : p < 0 := h; omega⟩
  | succ l ih =>
    intro hl
    have hlh := q_lohi hg (show l < n by omega)
    have h := q_pi_k hg (l := l) (by omega) (ih (by omega)) (q_hi I l - q_lo I l) (Nat.le_refl _)
    obtain ⟨b1, b2, b3, b4⟩ := q_sk_bg hg (show l < n by omega) (s := q_sl n I l) (q_hi I l - q_lo I l) (Nat.le_refl _)
    have hbg : (q_sk n I l (q_sl n I l) (q_hi I l - q_lo I l)).2.2 = q_hi I l := by
      refine Classical.byContradiction (fun q => ?_)
      exact b4 (q_hi I l) (by omega) (by omega) (q_pt_hi hg (by omega))
    rw [hbg] at h
    obtain ⟨x, y, z⟩ := h
    refine ⟨fun p hp => ?_, fun m t hm hml h1 h2 => ?_, z⟩
    · obtain ⟨x1, x2⟩ := x p hp
      exact ⟨x1, Or.inl (Nat.lt_succ_of_le (x2.elim Nat.le_of_lt (fun q => Nat.le_of_eq q.1)))⟩
    · refine y m t hm ?_ h1 h2
      by_cases e : m = l
      · subst e; exact Or.inr ⟨rfl, h2⟩
      · rcases hml with q | q
        · exact Or.inl (by omega)
        · exfalso; obtain ⟨q1, q2⟩ := q; subst q1; omega
noncomputable abbrev q_NP (n : Nat) (I : Sto) : Nat := (q_sl n I n).1
noncomputable abbrev q_PP (n : Nat) (I : Sto) : Pcs := (q_sl n I n).2
theorem q_pcA {n : Nat} {I : Sto} {nx ny : Nat} (hg : q_gi n I nx ny) {p : Nat} (hp : p < q_NP n I) : q_pa n I (q_PP n I) p := ((q_pi_l hg n (Nat.le_refl _)).1 p hp).1
theorem q_pcB {n : Nat} {I : Sto} {nx ny : Nat} (hg : q_gi n I nx ny) {m t : Nat} (hm : m < n) (h1 : q_lo I m ≤ t) (h2 : t < q_hi I m) : ∃ p, p < q_NP n I ∧ (q_PP n I p).1 = m ∧ (q_PP n I p).2.1 ≤ t ∧ t < (q_PP n I p).2.2 := (q_pi_l hg n (Nat.le_refl _)).2.1 m t hm (Or.inl hm) h1 h2
theorem q_pcC {n : Nat} {I : Sto} {nx ny : Nat} (hg : q_gi n I nx ny) {p q t : Nat} (hp : p < q_NP n I) (hq : q < q_NP n I) (e : (q_PP n I p).1 = (q_PP n I q).1) (h1 : (q_PP n I p).2.1 ≤ t) (h2 : t < (q_PP n I p).2.2) (h3 : (q_PP n I q).2.1 ≤ t) (h4 : t < (q_PP n I q).2.2) : p = q :=
  (q_pi_l hg n (Nat.le_refl _)).2.2 p q t hp hq e h1 h2 h3 h4
theorem q_NP_220 {n : Nat} {I : Sto} {nx ny : Nat} (hg : q_gi n I nx ny) : q_NP n I ≤ 220 := by
  cases n with
  | zero => exact Nat.zero_le _
  | succ n => exact q_220 hg (l := n) (by omega) (Nat.le_refl _)
/-! Which lines give a wall in a direction out of a node. -/
def q_wd (n : Nat) (I : Sto) (i j d : Nat) : Prop := (d = 0 ∧ q_wN n I (i + 1) j) ∨ (d = 1 ∧ q_wE n I i (j + 1)) ∨ (d = 2 ∧ q_wN n I i j) ∨ (d = 3 ∧ q_wE n I i j)
theorem q_out_wd {n : Nat} {I : Sto} {nx ny : Nat} (hg : q_gi n I nx ny) {h : Nat} (hh : h < 2 * q_NP n I) : q_wd n I (q_qb I (q_PP n I) h).1 (q_qb I (q_PP n I) h).2 (q_qd I (q_PP n I) h) := by
  obtain ⟨h1, h2, h3, h4, h5, h6, h7⟩ := q_pcA hg (p := h / 2) (by omega)
  have hln := hg.2.2.2.1 _ h1
  generalize hm : (q_PP n I (h / 2)).1 = m at *
  generalize ha : (q_PP n I (h / 2)).2.1 = a at *
  generalize hb : (q_PP n I (h / 2)).2.2 = b at *
  unfold q_qb q_qd q_wd
  rw [hm, ha, hb]
  unfold q_nd q_d0
  unfold q_lo at h2
  unfold q_hi at h4
  by_cases f : yl I m = yh I m
  · rw [if_pos f] at h2 h4
    rw [if_pos f, if_pos f, if_pos f]
    by_cases c : h % 2 = 0
    · rw [if_pos c, if_pos c]; exact Or.inl ⟨rfl, m, h1, by dsimp only, by dsimp only; omega, by dsimp only; omega⟩
    · rw [if_neg c, if_neg c]; exact Or.inr (Or.inr (Or.inl ⟨rfl, m, h1, by dsimp only, by dsimp only; omega, by dsimp only; omega⟩))
  · rw [if_neg f] at h2 h4
    rw [if_neg f, if_neg f, if_neg f]
    by_cases c : h % 2 = 0
    · rw [if_pos c, if_pos c]; exact Or.inr (Or.inl ⟨rfl, m, h1, by dsimp only, by dsimp only; omega, by dsimp only; omega⟩)
    · rw [if_neg c, if_neg c]; exact Or.inr (Or.inr (Or.inr ⟨rfl, m, h1, by dsimp only, by dsimp only; omega, by dsimp only; omega⟩))
theorem q_wd_out {n : Nat} {I : Sto} {nx ny : Nat} (hg : q_gi n I nx ny) {i j d : Nat} (hp : q_pt n I i j) (hw : q_wd n I i j d) : ∃ h, h < 2 * q_NP n I ∧ q_qb I (q_PP n I) h = (i, j) ∧ q_qd I (q_PP n I) h = d := by
  have key : ∀ m t, m < n → q_lo I m ≤ t → t < q_hi I m → ∃ p a b, p < q_NP n I ∧ q_PP n I p = (m, a, b) ∧ a ≤ t ∧ t < b ∧ (∀ k, a < k → k < b → ¬ q_isp n I m k) := by
    intro m t hm h1 h2
    obtain ⟨p, a1, a2, a3, a4⟩ := q_pcB hg hm h1 h2
    have := (q_pcA hg a1).2.2.2.2.2.2
    rw [a2] at this
    exact ⟨p, (q_PP n I p).2.1, (q_PP n I p).2.2, a1, by rw [← a2], a3, a4, this⟩
  have ev : ∀ p, (2 * p) / 2 = p ∧ (2 * p) % 2 = 0 ∧ (2 * p + 1) / 2 = p ∧ ¬ (2 * p + 1) % 2 = 0 := fun p => by omega
  rcases hw with ⟨hd, l, hl, e1, e2, e3⟩ | ⟨hd, l, hl, e1, e2, e3⟩ | ⟨hd, l, hl, e1, e2, e3⟩ | ⟨hd, l, hl, e1, e2, e3⟩
  · have hln := hg.2.2.2.1 l hl
    have f : yl I l = yh I l := by omega
    obtain ⟨p, a, b, x1, x2, x3, x4, x5⟩ := key l i hl (by unfold q_lo; rw [if_pos f]; omega) (by unfold q_hi; rw [if_pos f]; omega)
    have ea : a = i := by
      refine Classical.byContradiction (fun q => x5 i (by omega) x4 ?_)
      unfold q_isp q_nd; rw [if_pos f, e1]; exact hp
    refine ⟨2 * p, by omega, ?_, ?_⟩
    · unfold q_qb; rw [(ev p).1, if_pos (ev p).2.1, x2]; unfold q_nd; rw [if_pos f, ea, e1]
    · unfold q_qd; rw [(ev p).1, if_pos (ev p).2.1, x2]; unfold q_d0; rw [if_pos f, hd]
  · have hln := hg.2.2.2.1 l hl
    have f : ¬ yl I l = yh I l := by omega
    obtain ⟨p, a, b, x1, x2, x3, x4, x5⟩ := key l j hl (by unfold q_lo; rw [if_neg f]; omega) (by unfold q_hi; rw [if_neg f]; omega)
    have ea : a = j := by
      refine Classical.byContradiction (fun q => x5 j (by omega) x4 ?_)
      unfold q_isp q_nd; rw [if_neg f, e1]; exact hp
    refine ⟨2 * p, by omega, ?_, ?_⟩
    · unfold q_qb; rw [(ev p).1, if_pos (ev p).2.1, x2]; unfold q_nd; rw [if_neg f, ea, e1]
    · unfold q_qd; rw [(ev p).1, if_pos (ev p).2.1, x2]; unfold q_d0; rw [if_neg f, hd]
  · have hln := hg.2.2.2.1 l hl
    have f : yl I l = yh I l := by omega
    obtain ⟨p, a, b, x1, x2, x3, x4, x5⟩ := key l (i - 1) hl (by unfold q_lo; rw [if_pos f]; omega) (by unfold q_hi; rw [if_pos f]; omega)
    have ea : b = i := by
      refine Classical.byContradiction (fun q => x5 i (by omega) (by omega) ?_)
      unfold q_isp q_nd; rw [if_pos f, e1]; exact hp
    refine ⟨2 * p + 1, by omega, ?_, ?_⟩
    · unfold q_qb; rw [(ev p).2.2.1, if_neg (ev p).2.2.2, x2]; unfold q_nd; rw [if_pos f, ea, e1]
    · unfold q_qd; rw [(ev p).2.2.1, if_neg (ev p).2.2.2, x2]; unfold q_d0; rw [if_pos f, hd]
  · have hln := hg.2.2.2.1 l hl
    have f : ¬ yl I l = yh I l := by omega
    obtain ⟨p, a, b, x1, x2, x3, x4, x5⟩ := key l (j - 1) hl (by unfold q_lo; rw [if_neg f]; omega) (by unfold q_hi; rw [if_neg f]; omega)
    have ea : b = j := by
      refine Classical.byContradiction (fun q => x5 j (by omega) (by omega) ?_)
      unfold q_isp q_nd; rw [if_neg f, e1]; exact hp
    refine ⟨2 * p + 1, by omega, ?_, ?_⟩
    · unfold q_qb; rw [(ev p).2.2.1, if_neg (ev p).2.2.2, x2]; unfold q_nd; rw [if_neg f, ea, e1]
    · unfold q_qd; rw [(ev p).2.2.1, if_neg (ev p).2.2.2, x2]; unfold q_d0; rw [if_neg f, hd]
/-! A side is fixed by where it begins and its direction. -/
theorem q_out_inj {n : Nat} {I : Sto} {nx ny : Nat} (hg : q_gi n I nx ny) {h h' : Nat} (hh : h < 2 * q_NP n I) (hh' : h' < 2 * q_NP n I) (e1 : q_qb I (q_PP n I) h = q_qb I (q_PP n I) h') (e2 : q_qd I (q_PP n I) h = q_qd I (q_PP n I) h') : h = h' := by
  obtain ⟨a1, a2, a3, a4, _⟩ := q_pcA hg (p := h / 2) (by omega)
  obtain ⟨b1, b2, b3, b4, _⟩ := q_pcA hg (p := h' / 2) (by omega)
  have C := @q_pcC n I nx ny hg (h / 2) (h' / 2)
  have hA := hg.2.2.2.1 _ a1
  have hB := hg.2.2.2.1 _ b1
  have hap := hg.2.2.2.2 _ _ a1 b1
  generalize ep : q_PP n I (h / 2) = x at *
  generalize ep' : q_PP n I (h' / 2) = y at *
  obtain ⟨m, a, b⟩ := x
  obtain ⟨m', a', b'⟩ := y
  dsimp only at *
  have d1 := q_d0_lt I m
  have d2 := q_d0_lt I m'
  unfold q_qb at e1
  unfold q_qd at e2
  rw [ep, ep'] at e1 e2
  dsimp only at e1 e2
  have par : h % 2 = h' % 2 := by
    by_cases c : h % 2 = 0
    · rw [if_pos c] at e2
      by_cases c' : h' % 2 = 0
      · omega
      · rw [if_neg c'] at e2; omega
    · rw [if_neg c] at e2
      by_cases c' : h' % 2 = 0
      · rw [if_pos c'] at e2; omega
      · omega
  have ed : q_d0 I m = q_d0 I m' := by rw [par] at e2; omega
  have ef : (yl I m = yh I m) ↔ (yl I m' = yh I m') := by
    unfold q_d0 at ed
    by_cases f : yl I m = yh I m
    · rw [if_pos f] at ed
      by_cases f' : yl I m' = yh I m'
      · exact ⟨fun _ => f', fun _ => f⟩
      · rw [if_neg f'] at ed; omega
    · rw [if_neg f] at ed
      by_cases f' : yl I m' = yh I m'
      · rw [if_pos f'] at ed; omega
      · exact ⟨fun q => (f q).elim, fun q => (f' q).elim⟩
  suffices hs : m = m' ∧ ∃ t, a ≤ t ∧ t < b ∧ a' ≤ t ∧ t < b' by
    obtain ⟨em, t, t1, t2, t3, t4⟩ := hs
    have := C (t := t) (by omega) (by omega) em t1 t2 t3 t4
    omega
  unfold q_lo at a2 b2
  unfold q_hi at a4 b4
  unfold q_nd at e1
  unfold q_apart at hap
  by_cases f : yl I m = yh I m
  · have f' := ef.mp f
    rw [if_pos f] at a2 a4
    rw [if_pos f'] at b2 b4
    rw [if_pos f, if_pos f', if_pos f, if_pos f'] at e1
    by_cases c : h % 2 = 0
    · rw [if_pos c, if_pos (show h' % 2 = 0 by omega)] at e1
      injection e1 with x1 x2
      refine ⟨Classical.byContradiction (fun q => ?_), a, by omega⟩
      have := (hap q).1 f f' x2
      omega
    · rw [if_neg c, if_neg (show ¬ h' % 2 = 0 by omega)] at e1
      injection e1 with x1 x2
      refine ⟨Classical.byContradiction (fun q => ?_), b - 1, by omega⟩
      have := (hap q).1 f f' x2
      omega
  · have f' : ¬ yl I m' = yh I m' := fun q => f (ef.mpr q)
    rw [if_neg f] at a2 a4
    rw [if_neg f'] at b2 b4
    rw [if_neg f, if_neg f', if_neg f, if_neg f'] at e1
    by_cases c : h % 2 = 0
    · rw [if_pos c, if_pos (show h' % 2 = 0 by omega)] at e1
      injection e1 with x1 x2
      refine ⟨Classical.byContradiction (fun q => ?_), a, by omega⟩
      have := (hap q).2 (by omega) (by omega) x1
      omega
    · rw [if_neg c, if_neg (show ¬ h' % 2 = 0 by omega)] at e1
      injection e1 with x1 x2
      refine ⟨Classical.byContradiction (fun q => ?_), b - 1, by omega⟩
      have := (hap q).2 (by omega) (by omega) x1
      omega
/-! Labels of neighbours, along pieces, around nodes. -/
theorem q_isl_con {n : Nat} {I : Sto} {nx ny : Nat} {u v : Ce} {z : Int} (h : q_isl n I nx ny u z) (hc : q_C n I nx ny u v) : q_isl n I nx ny v z := by
  rcases h with ⟨a, e⟩ | ⟨a, p, b1, b2, e⟩
  · exact Or.inl ⟨a.trans hc, e⟩
  · exact Or.inr ⟨fun q => a (q.trans (hc.symm q_A_symm)), p, b1, b2.trans hc, e⟩
theorem q_F_con {n : Nat} {I : Sto} {nx ny : Nat} {F : Ce → Int} {ns : Nat} (hy : ny ≤ 40) (hF : q_labs n I nx ny F ns) {u v : Ce} (hu : q_in nx ny u) (hv : q_in nx ny v) (hc : q_C n I nx ny u v) : F u = F v :=
  q_isl_eq hy (q_isl_con (hF.1 u hu) hc) (hF.1 v hv)
theorem q_F_adj {n : Nat} {I : Sto} {nx ny : Nat} {F : Ce → Int} {ns : Nat} (hy : ny ≤ 40) (hF : q_labs n I nx ny F ns) {u v : Ce} (h : q_A n I nx ny u v) : F u = F v :=
  q_F_con hy hF ⟨h.1, h.2.1⟩ ⟨h.2.2.1, h.2.2.2.1⟩ ((q_con.refl _).step h)
theorem q_con_F {n : Nat} {I : Sto} {nx ny : Nat} {F : Ce → Int} {ns : Nat} (hy : ny ≤ 40) (hF : q_labs n I nx ny F ns) {u v : Ce} (hu : q_in nx ny u) (hv : q_in nx ny v) (e : F u = F v) : q_C n I nx ny u v := by
  rcases hF.1 u hu with ⟨a, x⟩ | ⟨a, p, b1, b2, x⟩
  · rcases hF.1 v hv with ⟨a', x'⟩ | ⟨a', p', b1', b2', x'⟩
    · exact (a.symm q_A_symm).trans a'
    · omega
  · rcases hF.1 v hv with ⟨a', x'⟩ | ⟨a', p', b1', b2', x'⟩
    · omega
    · have key : ∀ p p', q_fst n I nx ny p → q_fst n I nx ny p' → q_en p < q_en p' → q_fc n I nx ny (q_en p) < q_fc n I nx ny (q_en p') := by
        intro p p' h h' hlt
        have h1 : q_fc n I nx ny (q_en p + 1) = q_fc n I nx ny (q_en p) + 1 := by
          show q_cnt _ (q_en p) + q_one _ = _
          rw [q_one_t (by show q_fst n I nx ny (q_de (q_en p)); rw [q_de_en h.1.2 hy]; exact h)]; rfl
        have h2 : q_fc n I nx ny (q_en p + 1) ≤ q_fc n I nx ny (q_en p') := q_cnt_monot (by omega)
        omega
      have : p = p' := by
        refine q_en_inj (Nat.le_trans b1.1.2 hy) (Nat.le_trans b1'.1.2 hy) ?_
        by_cases c : q_en p < q_en p'
        · have := key p p' b1 b1' c; omega
        · by_cases c' : q_en p' < q_en p
          · have := key p' p b1' b1 c'; omega
          · omega
      subst this
      exact (b2.symm q_A_symm).trans b2'
def q_c4 (i j d : Nat) : Ce := if d % 4 = 0 then (i + 1, j + 1) else if d % 4 = 1 then (i, j + 1) else if d % 4 = 2 then (i, j) else (i + 1, j)
theorem q_c4_in {nx ny i j : Nat} (hi : i < nx) (hj : j < ny) (d : Nat) : q_in nx ny (q_c4 i j d) := by
  unfold q_c4 q_in
  by_cases c0 : d % 4 = 0
  · rw [if_pos c0]; dsimp only; omega
  · rw [if_neg c0]
    by_cases c1 : d % 4 = 1
    · rw [if_pos c1]; dsimp only; omega
    · rw [if_neg c1]
      by_cases c2 : d % 4 = 2
      · rw [if_pos c2]; dsimp only; omega
      · rw [if_neg c2]; dsimp only; omega
theorem q_around {n : Nat} {I : Sto} {nx ny : Nat} {F : Ce → Int} {ns : Nat} (hy : ny ≤ 40) (hF : q_labs n I nx ny F ns) {i j : Nat} (hi : i < nx) (hj : j < ny) {d : Nat} (hw : ¬ q_wd n I i j (d % 4)) : F (q_c4 i j d) = F (q_c4 i j (d + 3)) := by
  have h4 : d % 4 = 0 ∨ d % 4 = 1 ∨ d % 4 = 2 ∨ d % 4 = 3 := by omega
  rcases h4 with e | e | e | e
  · have e1 : q_c4 i j d = (i + 1, j + 1) := by unfold q_c4; rw [if_pos e]
    have e2 : q_c4 i j (d + 3) = (i + 1, j) := by unfold q_c4; rw [if_neg (by omega), if_neg (by omega), if_neg (by omega)]
    rw [e1, e2]
    exact q_F_adj hy hF ⟨by dsimp only; omega, by dsimp only; omega, by dsimp only; omega, by dsimp only; omega, Or.inr (Or.inr (Or.inr ⟨rfl, fun q => hw (Or.inl ⟨e, q⟩)⟩))⟩
  · have e1 : q_c4 i j d = (i, j + 1) := by unfold q_c4; rw [if_neg (by omega), if_pos e]
    have e2 : q_c4 i j (d + 3) = (i + 1, j + 1) := by unfold q_c4; rw [if_pos (by omega)]
    rw [e1, e2]
    exact q_F_adj hy hF ⟨by dsimp only; omega, by dsimp only; omega, by dsimp only; omega, by dsimp only; omega, Or.inl ⟨rfl, fun q => hw (Or.inr (Or.inl ⟨e, q⟩))⟩⟩
  · have e1 : q_c4 i j d = (i, j) := by unfold q_c4; rw [if_neg (by omega), if_neg (by omega), if_pos e]
    have e2 : q_c4 i j (d + 3) = (i, j + 1) := by unfold q_c4; rw [if_neg (by omega), if_pos (by omega)]
    rw [e1, e2]
    exact q_F_adj hy hF ⟨by dsimp only; omega, by dsimp only; omega, by dsimp only; omega, by dsimp only; omega, Or.inr (Or.inr (Or.inl ⟨rfl, fun q => hw (Or.inr (Or.inr (Or.inl ⟨e, q⟩)))⟩))⟩
  · have e1 : q_c4 i j d = (i + 1, j) := by unfold q_c4; rw [if_neg (by omega), if_neg (by omega), if_neg (by omega)]
    have e2 : q_c4 i j (d + 3) = (i, j) := by unfold q_c4; rw [if_neg (by omega), if_neg (by omega), if_pos (by omega)]
    rw [e1, e2]
    exact q_F_adj hy hF ⟨by dsimp only; omega, by dsimp only; omega, by dsimp only; omega, by dsimp only; omega, Or.inr (Or.inl ⟨rfl, fun q => hw (Or.inr (Or.inr (Or.inr ⟨e, q⟩)))⟩)⟩
theorem q_c4_mod (i j d : Nat) : q_c4 i j (d % 4) = q_c4 i j d := by
  unfold q_c4; rw [show d % 4 % 4 = d % 4 by omega]
/-! Along a piece both sides keep their spaces. -/
theorem q_along {n : Nat} {I : Sto} {nx ny : Nat} {F : Ce → Int} {ns : Nat} (hg : q_gi n I nx ny) (hF : q_labs n I nx ny F ns) {m k : Nat} (hm : m < n) (h1 : q_lo I m < k) (h2 : k < q_hi I m) (hp : ¬ q_isp n I m k) : F (q_lc I m k) = F (q_lc I m (k + 1)) ∧ F (q_rc I m k) = F (q_rc I m (k + 1)) := by
  have hy := hg.2.2.1
  have hln := hg.2.2.2.1 m hm
  have hon := q_nd_on hg hm (Nat.le_of_lt h1) (Nat.le_of_lt h2)
  have other : ∀ l, l < n → q_on I l (q_nd I m k).1 (q_nd I m k).2 → l = m := fun l hl ho => Classical.byContradiction (fun q => hp (Or.inr ⟨l, m, hl, hm, q, ho, hon⟩))
  unfold q_nd at other
  unfold q_lo at h1
  unfold q_hi at h2
  unfold q_lc q_rc
  by_cases f : yl I m = yh I m
  · rw [if_pos f] at other h1 h2
    rw [if_pos f, if_pos f, if_pos f, if_pos f]
    dsimp only at other
    constructor
    · refine q_F_adj hy hF ⟨by dsimp only; omega, by dsimp only; omega, by dsimp only; omega, by dsimp only; omega, Or.inl ⟨rfl, fun ⟨l, hl, a, b, c⟩ => ?_⟩⟩
      dsimp only at a b c
      have hl2 := hg.2.2.2.1 l hl
      have := other l hl (by unfold q_on; omega)
      subst this; omega
    · refine q_F_adj hy hF ⟨by dsimp only; omega, by dsimp only; omega, by dsimp only; omega, by dsimp only; omega, Or.inl ⟨rfl, fun ⟨l, hl, a, b, c⟩ => ?_⟩⟩
      dsimp only at a b c
      have hl2 := hg.2.2.2.1 l hl
      have := other l hl (by unfold q_on; omega)
      subst this; omega
  · rw [if_neg f] at other h1 h2
    rw [if_neg f, if_neg f, if_neg f, if_neg f]
    dsimp only at other
    constructor
    · refine q_F_adj hy hF ⟨by dsimp only; omega, by dsimp only; omega, by dsimp only; omega, by dsimp only; omega, Or.inr (Or.inr (Or.inl ⟨rfl, fun ⟨l, hl, a, b, c⟩ => ?_⟩))⟩
      dsimp only at a b c
      have hl2 := hg.2.2.2.1 l hl
      have := other l hl (by unfold q_on; omega)
      subst this; omega
    · refine q_F_adj hy hF ⟨by dsimp only; omega, by dsimp only; omega, by dsimp only; omega, by dsimp only; omega, Or.inr (Or.inr (Or.inl ⟨rfl, fun ⟨l, hl, a, b, c⟩ => ?_⟩))⟩
      dsimp only at a b c
      have hl2 := hg.2.2.2.1 l hl
      have := other l hl (by unfold q_on; omega)
      subst this; omega
theorem q_alongs {n : Nat} {I : Sto} {nx ny : Nat} {F : Ce → Int} {ns : Nat} (hg : q_gi n I nx ny) (hF : q_labs n I nx ny F ns) {p : Nat} (hp : p < q_NP n I) : ∀ t, (q_PP n I p).2.1 < t → t ≤ (q_PP n I p).2.2 →
    F (q_lc I (q_PP n I p).1 t) = F (q_lc I (q_PP n I p).1 ((q_PP n I p).2.1 + 1)) ∧ F (q_rc I (q_PP n I p).1 t) = F (q_rc I (q_PP n I p).1 ((q_PP n I p).2.1 + 1)) := by
  obtain ⟨h1, h2, h3, h4, h5, h6, h7⟩ := q_pcA hg hp
  intro t
  induction t with
  | zero => intro h; omega
  | succ t ih =>
    intro x y
    by_cases c : t = (q_PP n I p).2.1
    · rw [c]; exact ⟨rfl, rfl⟩
    · obtain ⟨i1, i2⟩ := ih (by omega) (by omega)
      obtain ⟨j1, j2⟩ := q_along hg hF h1 (k := t) (by omega) (by omega) (h7 t (by omega) (by omega))
      exact ⟨by rw [← j1, i1], by rw [← j2, i2]⟩
/-! The label on the left of a side. -/
def q_lf (I : Sto) (P : Pcs) (F : Ce → Int) (h : Nat) : Int := if h % 2 = 0 then F (q_lc I (P (h / 2)).1 (P (h / 2)).2.2) else F (q_rc I (P (h / 2)).1 (P (h / 2)).2.2)
def q_rv (h : Nat) : Nat := if h % 2 = 0 then h + 1 else h - 1
theorem q_rv_rv (h : Nat) : q_rv (q_rv h) = h := by
  unfold q_rv
  by_cases c : h % 2 = 0
  · rw [if_pos c, if_neg (by omega)]; rfl
  · rw [if_neg c, if_pos (by omega)]; omega
theorem q_rv_lt {h m : Nat} (hh : h < 2 * m) : q_rv h < 2 * m := by
  unfold q_rv
  by_cases c : h % 2 = 0
  · rw [if_pos c]; omega
  · rw [if_neg c]; omega
theorem q_rv_d (h : Nat) : q_rv h / 2 = h / 2 ∧ (q_rv h % 2 = 0 ↔ ¬ h % 2 = 0) := by
  unfold q_rv
  by_cases c : h % 2 = 0
  · rw [if_pos c]; omega
  · rw [if_neg c]; omega
theorem q_lf_c4 {n : Nat} {I : Sto} {nx ny : Nat} {F : Ce → Int} {ns : Nat} (hg : q_gi n I nx ny) (hF : q_labs n I nx ny F ns) {h : Nat} (hh : h < 2 * q_NP n I) :
    F (q_c4 (q_qb I (q_PP n I) h).1 (q_qb I (q_PP n I) h).2 (q_qd I (q_PP n I) h)) = q_lf I (q_PP n I) F h ∧ F (q_c4 (q_qb I (q_PP n I) h).1 (q_qb I (q_PP n I) h).2 (q_qd I (q_PP n I) h + 3)) = q_lf I (q_PP n I) F (q_rv h) := by
  have hA := q_alongs hg hF (p := h / 2) (by omega)
  obtain ⟨h1, h2, h3, h4, h5, h6, h7⟩ := q_pcA hg (p := h / 2) (by omega)
  have hE := hA _ h3 (Nat.le_refl _)
  unfold q_qb q_qd q_lf
  obtain ⟨r1, r2⟩ := q_rv_d h
  rw [r1]
  generalize hm : (q_PP n I (h / 2)).1 = m at *
  generalize ha : (q_PP n I (h / 2)).2.1 = a at *
  generalize hb : (q_PP n I (h / 2)).2.2 = b at *
  by_cases c : h % 2 = 0
  · rw [if_pos c, if_pos c, if_pos c, if_neg (fun q => r2.mp q c), hE.1, hE.2]
    unfold q_nd q_d0 q_lc q_rc
    by_cases f : yl I m = yh I m
    · rw [if_pos f, if_pos f, if_pos f, if_pos f]; exact ⟨rfl, rfl⟩
    · rw [if_neg f, if_neg f, if_neg f, if_neg f]; exact ⟨rfl, rfl⟩
  · rw [if_neg c, if_neg c, if_neg c, if_pos (r2.mpr c)]
    unfold q_nd q_d0 q_lc q_rc
    by_cases f : yl I m = yh I m
    · rw [if_pos f, if_pos f, if_pos f, if_pos f]; exact ⟨rfl, rfl⟩
    · rw [if_neg f, if_neg f, if_neg f, if_neg f]; exact ⟨rfl, rfl⟩
theorem q_xor1 : ∀ h, h < 440 → N h ^^^ 1 = N (q_rv h) := by decide +kernel
theorem q_qd_lt (I : Sto) (P : Pcs) (h : Nat) : q_qd I P h < 4 := by
  have := q_d0_lt I (P (h / 2)).1
  unfold q_qd
  by_cases c : h % 2 = 0
  · rw [if_pos c]; omega
  · rw [if_neg c]; omega
theorem q_qd_rv (I : Sto) (P : Pcs) (h : Nat) : q_qd I P (q_rv h) = (q_qd I P h + 2) % 4 := by
  have := q_d0_lt I (P (h / 2)).1
  obtain ⟨r1, r2⟩ := q_rv_d h
  unfold q_qd
  rw [r1]
  by_cases c : h % 2 = 0
  · rw [if_pos c, if_neg (fun q => r2.mp q c)]; omega
  · rw [if_neg c, if_pos (r2.mpr c)]; omega
theorem q_qb_pt {n : Nat} {I : Sto} {nx ny : Nat} (hg : q_gi n I nx ny) {h : Nat} (hh : h < 2 * q_NP n I) : q_pt n I (q_qb I (q_PP n I) h).1 (q_qb I (q_PP n I) h).2 := by
  obtain ⟨h1, h2, h3, h4, h5, h6, h7⟩ := q_pcA hg (p := h / 2) (by omega)
  unfold q_qb
  by_cases c : h % 2 = 0
  · rw [if_pos c]; exact h5
  · rw [if_neg c]; exact h6
theorem q_qb_ne {n : Nat} {I : Sto} {nx ny : Nat} (hg : q_gi n I nx ny) {h : Nat} (hh : h < 2 * q_NP n I) : q_qb I (q_PP n I) (q_rv h) ≠ q_qb I (q_PP n I) h := by
  obtain ⟨h1, h2, h3, h4, h5, h6, h7⟩ := q_pcA hg (p := h / 2) (by omega)
  obtain ⟨r1, r2⟩ := q_rv_d h
  have nd : ∀ m a b, q_nd I m a = q_nd I m b → a = b := by
    intro m a b e
    unfold q_nd at e
    by_cases f : yl I m = yh I m
    · rw [if_pos f, if_pos f] at e; injection e
    · rw [if_neg f, if_neg f] at e; injection e
  unfold q_qb
  rw [r1]
  intro q
  by_cases c : h % 2 = 0
  · rw [if_pos c, if_neg (fun q => r2.mp q c)] at q; have := nd _ _ _ q; omega
  · rw [if_neg c, if_pos (r2.mpr c)] at q; have := nd _ _ _ q; omega
/-! Turning to the right about a node. -/
def q_cw (b : Nat → Bool) (e : Nat) : Nat := if b ((e + 3) % 4) then (e + 3) % 4 else if b ((e + 2) % 4) then (e + 2) % 4 else if b ((e + 1) % 4) then (e + 1) % 4 else e
theorem q_cw_ok {b : Nat → Bool} {e : Nat} (he : e < 4) (hb : b e = true) : q_cw b e < 4 ∧ b (q_cw b e) = true := by
  unfold q_cw
  by_cases c1 : b ((e + 3) % 4) = true
  · rw [if_pos c1]; exact ⟨by omega, c1⟩
  · rw [if_neg c1]
    by_cases c2 : b ((e + 2) % 4) = true
    · rw [if_pos c2]; exact ⟨by omega, c2⟩
    · rw [if_neg c2]
      by_cases c3 : b ((e + 1) % 4) = true
      · rw [if_pos c3]; exact ⟨by omega, c3⟩
      · rw [if_neg c3]; exact ⟨he, hb⟩
theorem q_cw_inj {b : Nat → Bool} {e e' : Nat} (he : e < 4) (he' : e' < 4) (hb : b e = true) (hb' : b e' = true) (q : q_cw b e = q_cw b e') : e = e' := by
  have h4 : e = 0 ∨ e = 1 ∨ e = 2 ∨ e = 3 := by omega
  have h4' : e' = 0 ∨ e' = 1 ∨ e' = 2 ∨ e' = 3 := by omega
  unfold q_cw at q
  rcases h4 with r | r | r | r <;> rcases h4' with r' | r' | r' | r' <;> subst r <;> subst r' <;> simp only [Nat.reduceAdd, Nat.reduceMod] at q <;> first | rfl | (exfalso; simp only [hb, hb', if_true] at q; repeat (split at q <;> try omega))
theorem q_cw_sum {b : Nat → Bool} (o : Nat → Int) : (if b 0 then o (q_cw b 0) else 0) + (if b 1 then o (q_cw b 1) else 0) + (if b 2 then o (q_cw b 2) else 0) + (if b 3 then o (q_cw b 3) else 0) = (if b 0 then o 0 else 0) + (if b 1 then o 1 else 0) + (if b 2 then o 2 else 0) + (if b 3 then o 3 else 0) := by
  unfold q_cw
  simp only [Nat.reduceAdd, Nat.reduceMod]
  cases b 0 <;> cases b 1 <;> cases b 2 <;> cases b 3 <;> simp <;> omega
noncomputable def q_bb (n : Nat) (I : Sto) (i j d : Nat) : Bool := @decide (q_wd n I i j d) (Classical.propDecidable _)
theorem q_bb_t {n : Nat} {I : Sto} {i j d : Nat} : q_bb n I i j d = true ↔ q_wd n I i j d := @decide_eq_true_iff _ (Classical.propDecidable _)
noncomputable def q_o (n : Nat) (I : Sto) (v : Nat × Nat) (d : Nat) : Nat := @dite _ (∃ h, h < 2 * q_NP n I ∧ q_qb I (q_PP n I) h = v ∧ q_qd I (q_PP n I) h = d) (Classical.propDecidable _) (fun h => Classical.choose h) (fun _ => 0)
theorem q_o_spec {n : Nat} {I : Sto} {nx ny : Nat} (hg : q_gi n I nx ny) {v : Nat × Nat} {d : Nat} (hp : q_pt n I v.1 v.2) (hw : q_wd n I v.1 v.2 d) : q_o n I v d < 2 * q_NP n I ∧ q_qb I (q_PP n I) (q_o n I v d) = v ∧ q_qd I (q_PP n I) (q_o n I v d) = d := by
  have h := q_wd_out hg hp hw
  have e : q_o n I v d = Classical.choose h := dif_pos h
  rw [e]; exact Classical.choose_spec h
theorem q_o_eq {n : Nat} {I : Sto} {nx ny : Nat} (hg : q_gi n I nx ny) {h : Nat} (hh : h < 2 * q_NP n I) : q_o n I (q_qb I (q_PP n I) h) (q_qd I (q_PP n I) h) = h := by
  obtain ⟨a, b, c⟩ := q_o_spec hg (q_qb_pt hg hh) (q_out_wd hg hh)
  exact q_out_inj hg a hh b c
noncomputable def q_nxt (n : Nat) (I : Sto) (h : Nat) : Nat := q_o n I (q_qb I (q_PP n I) (q_rv h)) (q_cw (q_bb n I (q_qb I (q_PP n I) (q_rv h)).1 (q_qb I (q_PP n I) (q_rv h)).2) (q_qd I (q_PP n I) (q_rv h)))
theorem q_nxt_s {n : Nat} {I : Sto} {nx ny : Nat} (hg : q_gi n I nx ny) {h : Nat} (hh : h < 2 * q_NP n I) : q_nxt n I h < 2 * q_NP n I ∧ q_qb I (q_PP n I) (q_nxt n I h) = q_qb I (q_PP n I) (q_rv h) ∧
    q_qd I (q_PP n I) (q_nxt n I h) = q_cw (q_bb n I (q_qb I (q_PP n I) (q_rv h)).1 (q_qb I (q_PP n I) (q_rv h)).2) (q_qd I (q_PP n I) (q_rv h)) := by
  have hr := q_rv_lt hh
  have := q_cw_ok (q_qd_lt I (q_PP n I) (q_rv h)) (q_bb_t.mpr (q_out_wd hg hr))
  exact q_o_spec hg (q_qb_pt hg hr) (q_bb_t.mp this.2)
theorem q_nxt_inj {n : Nat} {I : Sto} {nx ny : Nat} (hg : q_gi n I nx ny) {h g : Nat} (hh : h < 2 * q_NP n I) (hg' : g < 2 * q_NP n I) (e : q_nxt n I h = q_nxt n I g) : h = g := by
  obtain ⟨a1, a2, a3⟩ := q_nxt_s hg hh
  obtain ⟨b1, b2, b3⟩ := q_nxt_s hg hg'
  have e1 : q_qb I (q_PP n I) (q_rv h) = q_qb I (q_PP n I) (q_rv g) := by rw [← a2, ← b2, e]
  have w1 := q_out_wd hg (q_rv_lt hh)
  have w2 := q_out_wd hg (q_rv_lt hg')
  have e2 : q_qd I (q_PP n I) (q_rv h) = q_qd I (q_PP n I) (q_rv g) := by
    refine q_cw_inj (b := q_bb n I (q_qb I (q_PP n I) (q_rv h)).1 (q_qb I (q_PP n I) (q_rv h)).2) (q_qd_lt _ _ _) (q_qd_lt _ _ _) (q_bb_t.mpr w1) (by rw [e1]; exact q_bb_t.mpr w2) ?_
    rw [← a3, e, b3, e1]
  have := q_out_inj hg (q_rv_lt hh) (q_rv_lt hg') e1 e2
  rw [← q_rv_rv h, this, q_rv_rv]
theorem q_nxt_ne {n : Nat} {I : Sto} {nx ny : Nat} (hg : q_gi n I nx ny) {h : Nat} (hh : h < 2 * q_NP n I) : q_nxt n I h ≠ h := by
  intro q
  have := (q_nxt_s hg hh).2.1
  rw [q] at this
  exact q_qb_ne hg hh this.symm
/-! A ring has one space on its left. -/
theorem q_nxt_lf {n : Nat} {I : Sto} {nx ny : Nat} {F : Ce → Int} {ns : Nat} (hg : q_gi n I nx ny) (hF : q_labs n I nx ny F ns) {h : Nat} (hh : h < 2 * q_NP n I) : q_lf I (q_PP n I) F (q_nxt n I h) = q_lf I (q_PP n I) F h := by
  have hy := hg.2.2.1
  have hr := q_rv_lt hh
  obtain ⟨a1, a2, a3⟩ := q_nxt_s hg hh
  have l1 := (q_lf_c4 hg hF hr).2
  rw [q_rv_rv] at l1
  have l2 := (q_lf_c4 hg hF a1).1
  rw [a2, a3] at l2
  have hin := q_pt_in hg (q_qb_pt hg hr)
  have hd := q_qd_lt I (q_PP n I) (q_rv h)
  rw [← l1, ← l2]
  generalize (q_qb I (q_PP n I) (q_rv h)).1 = i at *
  generalize (q_qb I (q_PP n I) (q_rv h)).2 = j at *
  generalize q_qd I (q_PP n I) (q_rv h) = e at *
  have ar : ∀ d, ¬ q_bb n I i j (d % 4) = true → F (q_c4 i j d) = F (q_c4 i j (d + 3)) := fun d hb => q_around hy hF hin.1 hin.2 (fun q => hb (q_bb_t.mpr q))
  have md : ∀ d d', d % 4 = d' % 4 → q_c4 i j d = q_c4 i j d' := fun d d' q => by rw [← q_c4_mod, q, q_c4_mod]
  unfold q_cw
  by_cases c1 : q_bb n I i j ((e + 3) % 4) = true
  · rw [if_pos c1, q_c4_mod]
  · rw [if_neg c1, ar _ c1, md (e + 3 + 3) (e + 2) (by omega)]
    by_cases c2 : q_bb n I i j ((e + 2) % 4) = true
    · rw [if_pos c2, q_c4_mod]
    · rw [if_neg c2, ar _ c2, md (e + 2 + 3) (e + 1) (by omega)]
      by_cases c3 : q_bb n I i j ((e + 1) % 4) = true
      · rw [if_pos c3, q_c4_mod]
      · rw [if_neg c3, ar _ c3, md (e + 1 + 3) e (by omega)]
/-! How often a set of rings goes round a cell. -/
def q_eH (n : Nat) (I : Sto) (S : Nat → Prop) (s i j : Nat) : Prop := ∃ p, p < q_NP n I ∧ yl I (q_PP n I p).1 = yh I (q_PP n I p).1 ∧ yl I (q_PP n I p).1 = j ∧ (q_PP n I p).2.1 ≤ i ∧ i < (q_PP n I p).2.2 ∧ S (2 * p + s)
def q_eV (n : Nat) (I : Sto) (S : Nat → Prop) (s i j : Nat) : Prop := ∃ p, p < q_NP n I ∧ ¬ yl I (q_PP n I p).1 = yh I (q_PP n I p).1 ∧ xl I (q_PP n I p).1 = i ∧ (q_PP n I p).2.1 ≤ j ∧ j < (q_PP n I p).2.2 ∧ S (2 * p + s)
theorem q_cvH {n : Nat} {I : Sto} {nx ny : Nat} (hg : q_gi n I nx ny) {p q i : Nat} (hp : p < q_NP n I) (hq : q < q_NP n I) (f : yl I (q_PP n I p).1 = yh I (q_PP n I p).1) (f' : yl I (q_PP n I q).1 = yh I (q_PP n I q).1) (e : yl I (q_PP n I p).1 = yl I (q_PP n I q).1)
    (h1 : (q_PP n I p).2.1 ≤ i) (h2 : i < (q_PP n I p).2.2) (h3 : (q_PP n I q).2.1 ≤ i) (h4 : i < (q_PP n I q).2.2) : p = q := by
  obtain ⟨a1, a2, a3, a4, _⟩ := q_pcA hg hp
  obtain ⟨b1, b2, b3, b4, _⟩ := q_pcA hg hq
  refine q_pcC hg hp hq (Classical.byContradiction (fun c => ?_)) h1 h2 h3 h4
  have := (hg.2.2.2.2 _ _ a1 b1 c).1 f f' e
  unfold q_lo at a2 b2
  unfold q_hi at a4 b4
  rw [if_pos f] at a2 a4
  rw [if_pos f'] at b2 b4
  omega
theorem q_cvV {n : Nat} {I : Sto} {nx ny : Nat} (hg : q_gi n I nx ny) {p q j : Nat} (hp : p < q_NP n I) (hq : q < q_NP n I) (f : ¬ yl I (q_PP n I p).1 = yh I (q_PP n I p).1) (f' : ¬ yl I (q_PP n I q).1 = yh I (q_PP n I q).1) (e : xl I (q_PP n I p).1 = xl I (q_PP n I q).1)
    (h1 : (q_PP n I p).2.1 ≤ j) (h2 : j < (q_PP n I p).2.2) (h3 : (q_PP n I q).2.1 ≤ j) (h4 : j < (q_PP n I q).2.2) : p = q := by
  obtain ⟨a1, a2, a3, a4, _⟩ := q_pcA hg hp
  obtain ⟨b1, b2, b3, b4, _⟩ := q_pcA hg hq
  have l1 := hg.2.2.2.1 _ a1
  have l2 := hg.2.2.2.1 _ b1
  refine q_pcC hg hp hq (Classical.byContradiction (fun c => ?_)) h1 h2 h3 h4
  have := (hg.2.2.2.2 _ _ a1 b1 c).2 (by omega) (by omega) e
  unfold q_lo at a2 b2
  unfold q_hi at a4 b4
  rw [if_neg f] at a2 a4
  rw [if_neg f'] at b2 b4
  omega
/-! A side out of a node, and the edge that it takes first. -/
theorem q_side {n : Nat} {I : Sto} {nx ny : Nat} (hg : q_gi n I nx ny) (S : Nat → Prop) {h i j : Nat} (hh : h < 2 * q_NP n I) (hb : q_qb I (q_PP n I) h = (i, j)) :
    (q_qd I (q_PP n I) h = 0 → (q_eH n I S 0 i j ↔ S h) ∧ (q_eH n I S 1 i j ↔ S (q_rv h))) ∧ (q_qd I (q_PP n I) h = 1 → (q_eV n I S 0 i j ↔ S h) ∧ (q_eV n I S 1 i j ↔ S (q_rv h))) ∧
    (q_qd I (q_PP n I) h = 2 → 1 ≤ i ∧ (q_eH n I S 1 (i - 1) j ↔ S h) ∧ (q_eH n I S 0 (i - 1) j ↔ S (q_rv h))) ∧ (q_qd I (q_PP n I) h = 3 → 1 ≤ j ∧ (q_eV n I S 1 i (j - 1) ↔ S h) ∧ (q_eV n I S 0 i (j - 1) ↔ S (q_rv h))) := by
  have hp : h / 2 < q_NP n I := by omega
  obtain ⟨a1, a2, a3, a4, _⟩ := q_pcA hg hp
  have d0 := q_d0_lt I (q_PP n I (h / 2)).1
  have eH : ∀ s t, yl I (q_PP n I (h / 2)).1 = yh I (q_PP n I (h / 2)).1 → yl I (q_PP n I (h / 2)).1 = j → (q_PP n I (h / 2)).2.1 ≤ t → t < (q_PP n I (h / 2)).2.2 → (q_eH n I S s t j ↔ S (2 * (h / 2) + s)) := by
    intro s t f e x y
    constructor
    · intro ⟨p, b1, b2, b3, b4, b5, b6⟩
      have := q_cvH hg b1 hp b2 f (by omega) b4 b5 x y
      rw [← this]; exact b6
    · intro q; exact ⟨h / 2, hp, f, e, x, y, q⟩
  have eV : ∀ s t, ¬ yl I (q_PP n I (h / 2)).1 = yh I (q_PP n I (h / 2)).1 → xl I (q_PP n I (h / 2)).1 = i → (q_PP n I (h / 2)).2.1 ≤ t → t < (q_PP n I (h / 2)).2.2 → (q_eV n I S s i t ↔ S (2 * (h / 2) + s)) := by
    intro s t f e x y
    constructor
    · intro ⟨p, b1, b2, b3, b4, b5, b6⟩
      have := q_cvV hg b1 hp b2 f (by omega) b4 b5 x y
      rw [← this]; exact b6
    · intro q; exact ⟨h / 2, hp, f, e, x, y, q⟩
  have ev : h % 2 = 0 → 2 * (h / 2) + 0 = h ∧ 2 * (h / 2) + 1 = q_rv h := fun c => by unfold q_rv; rw [if_pos c]; omega
  have od : ¬ h % 2 = 0 → 2 * (h / 2) + 1 = h ∧ 2 * (h / 2) + 0 = q_rv h := fun c => by unfold q_rv; rw [if_neg c]; omega
  unfold q_qb at hb
  unfold q_qd
  unfold q_d0 at d0 ⊢
  unfold q_nd at hb
  by_cases c : h % 2 = 0
  · obtain ⟨v1, v2⟩ := ev c
    rw [if_pos c] at hb
    rw [if_pos c]
    by_cases f : yl I (q_PP n I (h / 2)).1 = yh I (q_PP n I (h / 2)).1
    · rw [if_pos f] at hb ⊢
      injection hb with x1 x2
      refine ⟨fun _ => ⟨?_, ?_⟩, fun q => by omega, fun q => by omega, fun q => by omega⟩
      · have := eH 0 i f x2 (by omega) (by omega); rw [v1] at this; exact this
      · have := eH 1 i f x2 (by omega) (by omega); rw [v2] at this; exact this
    · rw [if_neg f] at hb ⊢
      injection hb with x1 x2
      refine ⟨fun q => by omega, fun _ => ⟨?_, ?_⟩, fun q => by omega, fun q => by omega⟩
      · have := eV 0 j f x1 (by omega) (by omega); rw [v1] at this; exact this
      · have := eV 1 j f x1 (by omega) (by omega); rw [v2] at this; exact this
  · obtain ⟨v1, v2⟩ := od c
    rw [if_neg c] at hb
    rw [if_neg c]
    by_cases f : yl I (q_PP n I (h / 2)).1 = yh I (q_PP n I (h / 2)).1
    · rw [if_pos f] at hb ⊢
      injection hb with x1 x2
      refine ⟨fun q => by omega, fun q => by omega, fun _ => ⟨by omega, ?_, ?_⟩, fun q => by omega⟩
      · have := eH 1 (i - 1) f x2 (by omega) (by omega); rw [v1] at this; exact this
      · have := eH 0 (i - 1) f x2 (by omega) (by omega); rw [v2] at this; exact this
    · rw [if_neg f] at hb ⊢
      injection hb with x1 x2
      refine ⟨fun q => by omega, fun q => by omega, fun q => by omega, fun _ => ⟨by omega, ?_, ?_⟩⟩
      · have := eV 1 (j - 1) f x1 (by omega) (by omega); rw [v1] at this; exact this
      · have := eV 0 (j - 1) f x1 (by omega) (by omega); rw [v2] at this; exact this
theorem q_eH_w {n : Nat} {I : Sto} {nx ny : Nat} (hg : q_gi n I nx ny) {S : Nat → Prop} {s i j : Nat} (h : q_eH n I S s i j) : q_wN n I (i + 1) j := by
  obtain ⟨p, b1, b2, b3, b4, b5, b6⟩ := h
  obtain ⟨a1, a2, a3, a4, _⟩ := q_pcA hg b1
  unfold q_lo at a2
  unfold q_hi at a4
  rw [if_pos b2] at a2 a4
  exact ⟨_, a1, b3, by omega, by omega⟩
theorem q_eV_w {n : Nat} {I : Sto} {nx ny : Nat} (hg : q_gi n I nx ny) {S : Nat → Prop} {s i j : Nat} (h : q_eV n I S s i j) : q_wE n I i (j + 1) := by
  obtain ⟨p, b1, b2, b3, b4, b5, b6⟩ := h
  obtain ⟨a1, a2, a3, a4, _⟩ := q_pcA hg b1
  unfold q_lo at a2
  unfold q_hi at a4
  rw [if_neg b2] at a2 a4
  exact ⟨_, a1, b3, by omega, by omega⟩
noncomputable def q_ph (n : Nat) (I : Sto) (S : Nat → Prop) (c j : Nat) : Int := if c = 0 then 0 else (q_one (q_eH n I S 0 (c - 1) j) : Int) - q_one (q_eH n I S 1 (c - 1) j)
noncomputable def q_pv2 (n : Nat) (I : Sto) (S : Nat → Prop) (i r : Nat) : Int := if r = 0 then 0 else (q_one (q_eV n I S 0 i (r - 1)) : Int) - q_one (q_eV n I S 1 i (r - 1))
theorem q_ph0 {n : Nat} {I : Sto} {nx ny : Nat} (hg : q_gi n I nx ny) {S : Nat → Prop} {c j : Nat} (h : ¬ q_wN n I c j) : q_ph n I S c j = 0 := by
  unfold q_ph
  by_cases e : c = 0
  · rw [if_pos e]
  · rw [if_neg e, q_one_f (fun q => h (by have := q_eH_w hg q; rw [show c - 1 + 1 = c by omega] at this; exact this)), q_one_f (fun q => h (by have := q_eH_w hg q; rw [show c - 1 + 1 = c by omega] at this; exact this))]; rfl
theorem q_pv0 {n : Nat} {I : Sto} {nx ny : Nat} (hg : q_gi n I nx ny) {S : Nat → Prop} {i r : Nat} (h : ¬ q_wE n I i r) : q_pv2 n I S i r = 0 := by
  unfold q_pv2
  by_cases e : r = 0
  · rw [if_pos e]
  · rw [if_neg e, q_one_f (fun q => h (by have := q_eV_w hg q; rw [show r - 1 + 1 = r by omega] at this; exact this)), q_one_f (fun q => h (by have := q_eV_w hg q; rw [show r - 1 + 1 = r by omega] at this; exact this))]; rfl
/-! What comes to a node goes on from it. -/
theorem q_flow {n : Nat} {I : Sto} {nx ny : Nat} (hg : q_gi n I nx ny) {S : Nat → Prop} (hS : ∀ h, h < 2 * q_NP n I → (S h ↔ S (q_nxt n I h))) (i j : Nat) :
    q_ph n I S (i + 1) j - q_ph n I S i j + q_pv2 n I S i (j + 1) - q_pv2 n I S i j = 0 := by
  by_cases hp : q_pt n I i j
  · have sp : ∀ d, q_wd n I i j d → q_o n I (i, j) d < 2 * q_NP n I ∧ q_qb I (q_PP n I) (q_o n I (i, j) d) = (i, j) ∧ q_qd I (q_PP n I) (q_o n I (i, j) d) = d := fun d hw => q_o_spec hg (v := (i, j)) hp hw
    have sr : ∀ d, q_wd n I i j d → (S (q_rv (q_o n I (i, j) d)) ↔ S (q_o n I (i, j) (q_cw (q_bb n I i j) d))) := by
      intro d hw
      obtain ⟨s1, s2, s3⟩ := sp d hw
      rw [hS _ (q_rv_lt s1)]
      unfold q_nxt
      rw [q_rv_rv, s2, s3]
    have e0 : q_ph n I S (i + 1) j = (if q_bb n I i j 0 then (q_one (S (q_o n I (i, j) 0)) : Int) else 0) - (if q_bb n I i j 0 then (q_one (S (q_o n I (i, j) (q_cw (q_bb n I i j) 0))) : Int) else 0) := by
      by_cases c : q_bb n I i j 0 = true
      · have hw := q_bb_t.mp c
        obtain ⟨s1, s2, s3⟩ := sp 0 hw
        obtain ⟨t1, t2⟩ := (q_side hg S s1 s2).1 s3
        rw [if_pos c, if_pos c, ← q_one_c (sr 0 hw), ← q_one_c t1, ← q_one_c t2]
        unfold q_ph; rw [if_neg (by omega)]; rfl
      · rw [if_neg c, if_neg c, q_ph0 hg (fun q => c (q_bb_t.mpr (Or.inl ⟨rfl, q⟩)))]; rfl
    have e1 : q_pv2 n I S i (j + 1) = (if q_bb n I i j 1 then (q_one (S (q_o n I (i, j) 1)) : Int) else 0) - (if q_bb n I i j 1 then (q_one (S (q_o n I (i, j) (q_cw (q_bb n I i j) 1))) : Int) else 0) := by
      by_cases c : q_bb n I i j 1 = true
      · have hw := q_bb_t.mp c
        obtain ⟨s1, s2, s3⟩ := sp 1 hw
        obtain ⟨t1, t2⟩ := (q_side hg S s1 s2).2.1 s3
        rw [if_pos c, if_pos c, ← q_one_c (sr 1 hw), ← q_one_c t1, ← q_one_c t2]
        unfold q_pv2; rw [if_neg (by omega)]; rfl
      · rw [if_neg c, if_neg c, q_pv0 hg (fun q => c (q_bb_t.mpr (Or.inr (Or.inl ⟨rfl, q⟩))))]; rfl
    have e2 : - q_ph n I S i j = (if q_bb n I i j 2 then (q_one (S (q_o n I (i, j) 2)) : Int) else 0) - (if q_bb n I i j 2 then (q_one (S (q_o n I (i, j) (q_cw (q_bb n I i j) 2))) : Int) else 0) := by
      by_cases c : q_bb n I i j 2 = true
      · have hw := q_bb_t.mp c
        obtain ⟨s1, s2, s3⟩ := sp 2 hw
        obtain ⟨t0, t1, t2⟩ := (q_side hg S s1 s2).2.2.1 s3
        rw [if_pos c, if_pos c, ← q_one_c (sr 2 hw), ← q_one_c t1, ← q_one_c t2]
        unfold q_ph; rw [if_neg (by omega)]; omega
      · rw [if_neg c, if_neg c, q_ph0 hg (fun q => c (q_bb_t.mpr (Or.inr (Or.inr (Or.inl ⟨rfl, q⟩)))))]; rfl
    have e3 : - q_pv2 n I S i j = (if q_bb n I i j 3 then (q_one (S (q_o n I (i, j) 3)) : Int) else 0) - (if q_bb n I i j 3 then (q_one (S (q_o n I (i, j) (q_cw (q_bb n I i j) 3))) : Int) else 0) := by
      by_cases c : q_bb n I i j 3 = true
      · have hw := q_bb_t.mp c
        obtain ⟨s1, s2, s3⟩ := sp 3 hw
        obtain ⟨t0, t1, t2⟩ := (q_side hg S s1 s2).2.2.2 s3
        rw [if_pos c, if_pos c, ← q_one_c (sr 3 hw), ← q_one_c t1, ← q_one_c t2]
        unfold q_pv2; rw [if_neg (by omega)]; omega
      · rw [if_neg c, if_neg c, q_pv0 hg (fun q => c (q_bb_t.mpr (Or.inr (Or.inr (Or.inr ⟨rfl, q⟩)))))]; rfl
    have sum := q_cw_sum (b := q_bb n I i j) (fun d => (q_one (S (q_o n I (i, j) d)) : Int))
    omega
  · have hH : ∀ p, p < q_NP n I → yl I (q_PP n I p).1 = yh I (q_PP n I p).1 → yl I (q_PP n I p).1 = j → (q_PP n I p).2.1 ≠ i ∧ (q_PP n I p).2.2 ≠ i := by
      intro p h1 f e
      obtain ⟨a1, a2, a3, a4, a5, a6, _⟩ := q_pcA hg h1
      unfold q_isp q_nd at a5 a6
      rw [if_pos f] at a5 a6
      dsimp only at a5 a6
      rw [e] at a5 a6
      exact ⟨fun q => hp (by rw [← q]; exact a5), fun q => hp (by rw [← q]; exact a6)⟩
    have hV : ∀ p, p < q_NP n I → ¬ yl I (q_PP n I p).1 = yh I (q_PP n I p).1 → xl I (q_PP n I p).1 = i → (q_PP n I p).2.1 ≠ j ∧ (q_PP n I p).2.2 ≠ j := by
      intro p h1 f e
      obtain ⟨a1, a2, a3, a4, a5, a6, _⟩ := q_pcA hg h1
      unfold q_isp q_nd at a5 a6
      rw [if_neg f] at a5 a6
      dsimp only at a5 a6
      rw [e] at a5 a6
      exact ⟨fun q => hp (by rw [← q]; exact a5), fun q => hp (by rw [← q]; exact a6)⟩
    have e1 : q_ph n I S (i + 1) j = q_ph n I S i j := by
      unfold q_ph
      rw [if_neg (by omega), show i + 1 - 1 = i from rfl]
      by_cases c : i = 0
      · rw [if_pos c]
        have : ∀ s, ¬ q_eH n I S s i j := fun s ⟨p, b1, b2, b3, b4, b5, b6⟩ => by have := hH p b1 b2 b3; omega
        rw [q_one_f (this 0), q_one_f (this 1)]; rfl
      · rw [if_neg c]
        have : ∀ s, q_eH n I S s i j ↔ q_eH n I S s (i - 1) j := by
          intro s
          constructor
          · intro ⟨p, b1, b2, b3, b4, b5, b6⟩
            have := hH p b1 b2 b3
            exact ⟨p, b1, b2, b3, by omega, by omega, b6⟩
          · intro ⟨p, b1, b2, b3, b4, b5, b6⟩
            have := hH p b1 b2 b3
            exact ⟨p, b1, b2, b3, by omega, by omega, b6⟩
        rw [q_one_c (this 0), q_one_c (this 1)]
    have e2 : q_pv2 n I S i (j + 1) = q_pv2 n I S i j := by
      unfold q_pv2
      rw [if_neg (by omega), show j + 1 - 1 = j from rfl]
      by_cases c : j = 0
      · rw [if_pos c]
        have : ∀ s, ¬ q_eV n I S s i j := fun s ⟨p, b1, b2, b3, b4, b5, b6⟩ => by have := hV p b1 b2 b3; omega
        rw [q_one_f (this 0), q_one_f (this 1)]; rfl
      · rw [if_neg c]
        have : ∀ s, q_eV n I S s i j ↔ q_eV n I S s i (j - 1) := by
          intro s
          constructor
          · intro ⟨p, b1, b2, b3, b4, b5, b6⟩
            have := hV p b1 b2 b3
            exact ⟨p, b1, b2, b3, by omega, by omega, b6⟩
          · intro ⟨p, b1, b2, b3, b4, b5, b6⟩
            have := hV p b1 b2 b3
            exact ⟨p, b1, b2, b3, by omega, by omega, b6⟩
        rw [q_one_c (this 0), q_one_c (this 1)]
    omega
noncomputable def q_wi (n : Nat) (I : Sto) (S : Nat → Prop) (c : Nat) : Nat → Int
  | 0 => 0
  | r + 1 => q_wi n I S c r + q_ph n I S c r
theorem q_wi_e {n : Nat} {I : Sto} {nx ny : Nat} (hg : q_gi n I nx ny) {S : Nat → Prop} (hS : ∀ h, h < 2 * q_NP n I → (S h ↔ S (q_nxt n I h))) (c : Nat) : ∀ r, q_wi n I S (c + 1) r = q_wi n I S c r - q_pv2 n I S c r := by
  intro r
  induction r with
  | zero => rfl
  | succ r ih =>
    have := q_flow hg hS c r
    show q_wi n I S (c + 1) r + q_ph n I S (c + 1) r = q_wi n I S c r + q_ph n I S c r - q_pv2 n I S c (r + 1)
    omega
theorem q_wi_con {n : Nat} {I : Sto} {nx ny : Nat} (hg : q_gi n I nx ny) {S : Nat → Prop} (hS : ∀ h, h < 2 * q_NP n I → (S h ↔ S (q_nxt n I h))) {u v : Ce} (hc : q_C n I nx ny u v) : q_wi n I S u.1 u.2 = q_wi n I S v.1 v.2 := by
  have adj : ∀ a b, q_A n I nx ny a b → q_wi n I S a.1 a.2 = q_wi n I S b.1 b.2 := by
    intro a b ⟨_, _, _, _, h⟩
    rcases h with ⟨e, w⟩ | ⟨e, w⟩ | ⟨e, w⟩ | ⟨e, w⟩
    · rw [e]; dsimp only; rw [q_wi_e hg hS, q_pv0 hg w]; omega
    · rw [e]; dsimp only; rw [q_wi_e hg hS, q_pv0 hg w]; omega
    · rw [e]; show _ = q_wi n I S a.1 a.2 + q_ph n I S a.1 a.2; rw [q_ph0 hg w]; omega
    · rw [e]; show q_wi n I S b.1 b.2 + q_ph n I S b.1 b.2 = _; rw [q_ph0 hg w]; omega
  exact hc (fun x => q_wi n I S u.1 u.2 = q_wi n I S x.1 x.2) rfl (fun a b ha hab => ha.trans (adj a b hab))
/-! An upright piece with one space on both sides: one ring has both its sides. -/
theorem q_bridge {n : Nat} {I : Sto} {nx ny : Nat} {F : Ce → Int} {ns : Nat} (hg : q_gi n I nx ny) (hF : q_labs n I nx ny F ns) {S : Nat → Prop} (hS : ∀ h, h < 2 * q_NP n I → (S h ↔ S (q_nxt n I h))) {p : Nat} (hp : p < q_NP n I)
    (f : ¬ yl I (q_PP n I p).1 = yh I (q_PP n I p).1) (e : q_lf I (q_PP n I) F (2 * p) = q_lf I (q_PP n I) F (2 * p + 1)) : S (2 * p) ↔ S (2 * p + 1) := by
  obtain ⟨a1, a2, a3, a4, _⟩ := q_pcA hg hp
  obtain ⟨c1, c2⟩ := q_cells hg a1 a4
  unfold q_lf at e
  rw [if_pos (by omega), if_neg (by omega), show 2 * p / 2 = p by omega, show (2 * p + 1) / 2 = p by omega] at e
  have hc := q_con_F hg.2.2.1 hF c1 c2 e
  have hw := q_wi_con hg hS hc
  unfold q_lc q_rc at hw
  rw [if_neg f, if_neg f] at hw
  dsimp only at hw
  rw [q_wi_e hg hS] at hw
  have h0 : q_pv2 n I S (xl I (q_PP n I p).1) (q_PP n I p).2.2 = 0 := by omega
  unfold q_pv2 at h0
  rw [if_neg (by omega)] at h0
  have eV : ∀ s, q_eV n I S s (xl I (q_PP n I p).1) ((q_PP n I p).2.2 - 1) ↔ S (2 * p + s) := by
    intro s
    constructor
    · intro ⟨q, b1, b2, b3, b4, b5, b6⟩
      have := q_cvV hg b1 hp b2 f b3 b4 b5 (by omega) (by omega)
      rw [← this]; exact b6
    · intro q; exact ⟨p, hp, f, rfl, by omega, by omega, q⟩
  rw [q_one_c (eV 0), q_one_c (eV 1)] at h0
  by_cases x : S (2 * p)
  · by_cases y : S (2 * p + 1)
    · exact ⟨fun _ => y, fun _ => x⟩
    · rw [q_one_t (show S (2 * p + 0) from x), q_one_f y] at h0; omega
  · by_cases y : S (2 * p + 1)
    · rw [q_one_f (show ¬ S (2 * p + 0) from x), q_one_t y] at h0; omega
    · exact ⟨fun q => (x q).elim, fun q => (y q).elim⟩
/-! Rounds of a function that is one to one. -/
def q_it (f : Nat → Nat) : Nat → Nat → Nat
  | 0, h => h
  | k + 1, h => f (q_it f k h)
theorem q_it_s (f : Nat → Nat) (h : Nat) : ∀ k, q_it f (k + 1) h = q_it f k (f h) := by
  intro k
  induction k with
  | zero => rfl
  | succ k ih => show f (q_it f (k + 1) h) = f (q_it f k (f h)); rw [ih]
theorem q_it_add (f : Nat → Nat) (h : Nat) (j : Nat) : ∀ k, q_it f (k + j) h = q_it f k (q_it f j h) := by
  intro k
  induction k with
  | zero => rw [Nat.zero_add]; rfl
  | succ k ih => rw [show k + 1 + j = (k + j) + 1 by omega]; show f (q_it f (k + j) h) = f (q_it f k (q_it f j h)); rw [ih]
def q_fn (f : Nat → Nat) (M : Nat) : Prop := (∀ h, h < M → f h < M) ∧ ∀ h g, h < M → g < M → f h = f g → h = g
theorem q_it_lt {f : Nat → Nat} {M : Nat} (hf : q_fn f M) {h : Nat} (hh : h < M) : ∀ k, q_it f k h < M := by
  intro k
  induction k with
  | zero => exact hh
  | succ k ih => exact hf.1 _ ih
def q_cyc (f : Nat → Nat) (h k : Nat) : Prop := 0 < k ∧ q_it f k h = h ∧ ∀ j, 0 < j → j < k → q_it f j h ≠ h
theorem q_cyc_eq {f : Nat → Nat} {h k k' : Nat} (a : q_cyc f h k) (b : q_cyc f h k') : k = k' := by
  by_cases c : k < k'
  · exact (b.2.2 k a.1 c a.2.1).elim
  · by_cases c' : k' < k
    · exact (a.2.2 k' b.1 c' b.2.1).elim
    · omega
def q_fr (f : Nat → Nat) (G : Nat → Prop) (h k : Nat) : Prop := ∀ i, i < k → ¬ G (q_it f i h) ∧ ∀ j, j < i → q_it f j h ≠ q_it f i h
def q_Gk (f : Nat → Nat) (G : Nat → Prop) (h k : Nat) (g : Nat) : Prop := G g ∨ ∃ j, j < k ∧ q_it f j h = g
theorem q_fr_s {f : Nat → Nat} {G : Nat → Prop} {h k : Nat} (a : q_fr f G h k) (b : ¬ q_Gk f G h k (q_it f k h)) : q_fr f G h (k + 1) := by
  intro i hi
  by_cases e : i = k
  · subst e; exact ⟨fun q => b (Or.inl q), fun j hj q => b (Or.inr ⟨j, hj, q⟩)⟩
  · exact a i (by omega)
theorem q_stop {f : Nat → Nat} {M : Nat} (hf : q_fn f M) {G : Nat → Prop} (hG : ∀ h, h < M → (G h ↔ G (f h))) {h k : Nat} (hh : h < M) (hk : 0 < k) (hfr : q_fr f G h k) (hs : q_Gk f G h k (q_it f k h)) : q_cyc f h k := by
  have e : q_it f k h = h := by
    obtain ⟨k, rfl⟩ : ∃ k', k = k' + 1 := ⟨k - 1, by omega⟩
    rcases hs with hs | ⟨j, hj, e⟩
    · exact ((hfr k (by omega)).1 ((hG _ (q_it_lt hf hh k)).mpr hs)).elim
    · cases j with
      | zero => exact e.symm
      | succ j =>
        have := hf.2 _ _ (q_it_lt hf hh j) (q_it_lt hf hh k) e
        exact ((hfr k (by omega)).2 j (by omega) this).elim
  refine ⟨hk, e, fun j h1 h2 q => ?_⟩
  exact (hfr j h2).2 0 h1 q.symm
theorem q_Gk_closed {f : Nat → Nat} {M : Nat} (hf : q_fn f M) {G : Nat → Prop} (hG : ∀ h, h < M → (G h ↔ G (f h))) {h k : Nat} (hh : h < M) (hc : q_cyc f h k) : ∀ g, g < M → (q_Gk f G h k g ↔ q_Gk f G h k (f g)) := by
  obtain ⟨c1, c2, c3⟩ := hc
  intro g hg
  constructor
  · intro q
    rcases q with q | ⟨j, hj, e⟩
    · exact Or.inl ((hG g hg).mp q)
    · right
      by_cases e2 : j + 1 = k
      · exact ⟨0, c1, by rw [← e]; show h = q_it f (j + 1) h; rw [e2, c2]⟩
      · exact ⟨j + 1, by omega, by rw [← e]; rfl⟩
  · intro q
    rcases q with q | ⟨j, hj, e⟩
    · exact Or.inl ((hG g hg).mpr q)
    · right
      cases j with
      | zero =>
        refine ⟨k - 1, by omega, hf.2 _ _ (q_it_lt hf hh _) hg ?_⟩
        show q_it f (k - 1 + 1) h = f g
        rw [show k - 1 + 1 = k by omega, c2]; exact e
      | succ j => exact ⟨j, by omega, hf.2 _ _ (q_it_lt hf hh _) hg e⟩
theorem q_Gk_cnt {f : Nat → Nat} {M : Nat} (hf : q_fn f M) {G : Nat → Prop} {h : Nat} (hh : h < M) : ∀ k, q_fr f G h k → q_cnt (q_Gk f G h k) M = q_cnt G M + k := by
  intro k
  induction k with
  | zero => intro _; exact q_cnt_c (fun i _ => ⟨fun q => q.elim id (fun ⟨j, hj, _⟩ => by omega), Or.inl⟩)
  | succ k ih =>
    intro a
    have a0 : q_fr f G h k := fun i hi => a i (by omega)
    have := ih a0
    have b := a k (by omega)
    rw [q_cnt_add (p := q_Gk f G h k) (p' := q_Gk f G h (k + 1)) (k := q_it f k h) (q_it_lt hf hh k) ?_ ?_ ?_, this]; rfl
    · intro q
      rcases q with q | ⟨j, hj, e⟩
      · exact b.1 q
      · exact b.2 j hj e
    · exact Or.inr ⟨k, by omega, rfl⟩
    · intro i hi hne
      constructor
      · intro q
        rcases q with q | ⟨j, hj, e⟩
        · exact Or.inl q
        · exact Or.inr ⟨j, by omega, e⟩
      · intro q
        rcases q with q | ⟨j, hj, e⟩
        · exact Or.inl q
        · by_cases ej : j = k
          · subst ej; exact (hne e.symm).elim
          · exact Or.inr ⟨j, by omega, e⟩
theorem q_G_it {f : Nat → Nat} {M : Nat} (hf : q_fn f M) {G : Nat → Prop} (hG : ∀ h, h < M → (G h ↔ G (f h))) {h : Nat} (hh : h < M) : ∀ k, G (q_it f k h) ↔ G h := by
  intro k
  induction k with
  | zero => exact Iff.rfl
  | succ k ih => exact (hG _ (q_it_lt hf hh k)).symm.trans ih
/-! The one of a round with the least key. -/
def q_ldr (f : Nat → Nat) (K : Nat → Nat) (M h : Nat) : Prop := h < M ∧ ∀ k, K h ≤ K (q_it f k h)
theorem q_cyc_mod {f : Nat → Nat} {h k : Nat} (c : q_cyc f h k) : ∀ m, ∃ j, j < k ∧ q_it f m h = q_it f j h := by
  intro m
  induction m with
  | zero => exact ⟨0, c.1, rfl⟩
  | succ m ih =>
    obtain ⟨j, hj, e⟩ := ih
    by_cases e2 : j + 1 = k
    · exact ⟨0, c.1, by show f (q_it f m h) = h; rw [e]; show q_it f (j + 1) h = h; rw [e2, c.2.1]⟩
    · exact ⟨j + 1, by omega, by show f (q_it f m h) = f (q_it f j h); rw [e]⟩
theorem q_cyc_back {f : Nat → Nat} {h k : Nat} (c : q_cyc f h k) (m : Nat) : ∃ j, q_it f j (q_it f m h) = h := by
  obtain ⟨j, hj, e⟩ := q_cyc_mod c m
  refine ⟨k - j, ?_⟩
  rw [e, ← q_it_add, show k - j + j = k by omega, c.2.1]
theorem q_cyc_it {f : Nat → Nat} {M : Nat} (hf : q_fn f M) {h k : Nat} (hh : h < M) (c : q_cyc f h k) (m : Nat) : q_cyc f (q_it f m h) k := by
  have inj : ∀ m a b, q_it f m a = q_it f m b → a < M → b < M → a = b := by
    intro m
    induction m with
    | zero => intro a b e _ _; exact e
    | succ m ih => intro a b e ha hb; exact ih a b (hf.2 _ _ (q_it_lt hf ha m) (q_it_lt hf hb m) e) ha hb
  refine ⟨c.1, ?_, fun j h1 h2 q => ?_⟩
  · rw [← q_it_add, Nat.add_comm, q_it_add, c.2.1]
  · rw [← q_it_add, Nat.add_comm, q_it_add] at q
    exact c.2.2 j h1 h2 (inj m _ _ q (q_it_lt hf hh j) hh)
/-! As many, one to one. -/
theorem q_cnt_inj {U : Nat → Prop} {f : Nat → Nat} {M : Nat} : ∀ n, (∀ l, l < n → U l → f l < M) → (∀ l m, l < n → m < n → U l → U m → f l = f m → l = m) → q_cnt (fun c => ∃ l, l < n ∧ U l ∧ f l = c) M = q_cnt U n := by
  intro n
  induction n with
  | zero => intro _ _; exact q_cnt_none (fun i _ ⟨l, h, _⟩ => by omega)
  | succ n ih =>
    intro h1 h2
    have ih' := ih (fun l hl => h1 l (by omega)) (fun l m hl hm => h2 l m (by omega) (by omega))
    show _ = q_cnt U n + q_one (U n)
    by_cases c : U n
    · rw [q_one_t c, ← ih']
      refine q_cnt_add (k := f n) (h1 n (by omega) c) ?_ ⟨n, by omega, c, rfl⟩ (fun i hi hne => ?_)
      · intro ⟨l, hl, hU, e⟩
        have := h2 l n (by omega) (by omega) hU c e
        omega
      · constructor
        · intro ⟨l, hl, hU, e⟩; exact ⟨l, by omega, hU, e⟩
        · intro ⟨l, hl, hU, e⟩
          by_cases el : l = n
          · subst el; exact (hne e.symm).elim
          · exact ⟨l, by omega, hU, e⟩
    · rw [q_one_f c, Nat.add_zero, ← ih']
      refine q_cnt_c (fun i hi => ⟨fun ⟨l, hl, hU, e⟩ => ?_, fun ⟨l, hl, hU, e⟩ => ⟨l, by omega, hU, e⟩⟩)
      by_cases el : l = n
      · subst el; exact (c hU).elim
      · exact ⟨l, by omega, hU, e⟩
/-! A row of all leaders, each once. -/
def q_enu (f K : Nat → Nat) (M nr : Nat) (ld : Nat → Nat) : Prop := (∀ x, x < nr → q_ldr f K M (ld x)) ∧ (∀ h, q_ldr f K M h → ∃ x, x < nr ∧ ld x = h) ∧ ∀ x y, x < nr → y < nr → ld x = ld y → x = y
noncomputable def q_rk (f K : Nat → Nat) (M : Nat) (L : Nat → Int) (B : Nat) (s : Int) (t : Nat) : Nat := q_cnt (fun c => c < t ∧ ∃ h, q_ldr f K M h ∧ L h = s ∧ K h = c) B
theorem q_enu_rk {f K : Nat → Nat} {M nr : Nat} {ld : Nat → Nat} {L : Nat → Int} {B : Nat} (he : q_enu f K M nr ld) (hK : ∀ h g, h < M → g < M → K h = K g → h = g) (hB : ∀ h, h < M → K h < B) (s : Int) (t : Nat) :
    q_rk f K M L B s t = q_cnt (fun x => L (ld x) = s ∧ K (ld x) < t) nr := by
  rw [← q_cnt_inj (U := fun x => L (ld x) = s ∧ K (ld x) < t) (f := fun x => K (ld x)) (M := B) nr (fun x hx _ => hB _ (he.1 x hx).1) (fun x y hx hy _ _ e => he.2.2 x y hx hy (hK _ _ (he.1 x hx).1 (he.1 y hy).1 e))]
  refine q_cnt_c (fun c hc => ⟨fun ⟨h1, h, h2, h3, h4⟩ => ?_, fun ⟨x, hx, ⟨h1, h2⟩, h3⟩ => ?_⟩)
  · obtain ⟨x, hx, e⟩ := he.2.1 h h2
    exact ⟨x, hx, ⟨by rw [e]; exact h3, by rw [e]; omega⟩, by show K (ld x) = c; rw [e]; exact h4⟩
  · exact ⟨by omega, ld x, he.1 x hx, h1, h3⟩
theorem q_rk_inj {f K : Nat → Nat} {M : Nat} {L : Nat → Int} {B : Nat} (hK : ∀ h g, h < M → g < M → K h = K g → h = g) (hB : ∀ h, h < M → K h < B) {s : Int} {h g : Nat} (h1 : q_ldr f K M h) (h2 : q_ldr f K M g) (l1 : L h = s) (l2 : L g = s) (e : q_rk f K M L B s (K h) = q_rk f K M L B s (K g)) : h = g := by
  have lt : ∀ a b, q_ldr f K M a → L a = s → K a < K b → q_rk f K M L B s (K a) < q_rk f K M L B s (K b) := by
    intro a b ha la hab
    exact q_cnt_lt (k := K a) (fun i _ ⟨x, y⟩ => ⟨by omega, y⟩) (hB a ha.1) ⟨hab, a, ha, la, rfl⟩ (fun ⟨x, _⟩ => by omega)
  refine hK h g h1.1 h2.1 ?_
  by_cases c : K h < K g
  · have := lt h g h1 l1 c; omega
  · by_cases c' : K g < K h
    · have := lt g h h2 l2 c'; omega
    · omega
theorem q_cp_side {n : Nat} {I : Sto} {F : Ce → Int} {pl be di le : Nat → Int32} (hc : q_cp n I F (q_NP n I) (q_PP n I) pl be di le) {h : Nat} (hh : h < 2 * q_NP n I) :
    be h = N (q_pv n I (q_qb I (q_PP n I) h)) ∧ di h = N (q_qd I (q_PP n I) h) ∧ le h = J (q_lf I (q_PP n I) F h) ∧ pl (h / 2) = N (q_PP n I (h / 2)).1 := by
  obtain ⟨c1, c2, c3, c4, c5, c6, c7⟩ := hc (h / 2) (by omega)
  unfold q_qb q_qd q_lf
  by_cases c : h % 2 = 0
  · rw [if_pos c, if_pos c, if_pos c]
    rw [show 2 * (h / 2) = h by omega] at c2 c4 c6
    exact ⟨c2, c4, c6, c1⟩
  · rw [if_neg c, if_neg c, if_neg c]
    rw [show 2 * (h / 2) + 1 = h by omega] at c3 c5 c7
    exact ⟨c3, c5, c7, c1⟩
theorem q_ou_o {n : Nat} {I : Sto} {nx ny : Nat} (hg : q_gi n I nx ny) {g : Nat → Nat → Nat → Int32} (ho : q_ou n I (q_NP n I) (q_PP n I) g) {v : Nat × Nat} {d : Nat} (hp : q_pt n I v.1 v.2) (hd : d < 4) :
    (q_wd n I v.1 v.2 d → g v.1 v.2 d = N (q_o n I v d)) ∧ (¬ q_wd n I v.1 v.2 d → g v.1 v.2 d = J (-1)) := by
  rcases ho v.1 v.2 d hp hd with ⟨h, h1, h2, h3, h4⟩ | ⟨h1, h2⟩
  · constructor
    · intro hw
      obtain ⟨s1, s2, s3⟩ := q_o_spec hg hp hw
      rw [h4, q_out_inj hg h1 s1 (by rw [h2, s2]) (by rw [h3, s3])]
    · intro hw
      have := q_out_wd hg h1
      rw [h2, h3] at this
      exact (hw this).elim
  · constructor
    · intro hw
      obtain ⟨s1, s2, s3⟩ := q_o_spec hg hp hw
      exact (h1 _ s1 ⟨s2, s3⟩).elim
    · intro _; exact h2
theorem q_turn1 : ∀ d, d < 4 → m_Sp_turned (N d) 1 = some (N ((d + 1) % 4)) := by decide
theorem q_turn3 : ∀ d, d < 4 → m_Sp_turned (N d) 3 = some (N ((d + 3) % 4)) := by decide
theorem q_neg1 {q : Nat} (h : q < 1000000) : ¬ N q = (-1) := by rw [N_J, show (-1 : Int32) = J (-1) from rfl, J_eq (by omega) (by omega) (by omega) (by omega)]; omega
theorem q_sideFrom {q d : Nat} (hq : q < 140) (hd : d < 4) (so : Nat → Int32) : m_Ne_sideFrom (N q) (N d) so = some (so (4 * q + d)) := by
  unfold m_Ne_sideFrom
  rw [N_lit 4, N_mul, N_add, gI_N (by omega) (by omega), N_nat (by omega), Nat.mul_comm]
theorem q_Cnext {n : Nat} {I : Sto} {nx ny : Nat} {F : Ce → Int} {so pl be di le : Nat → Int32} (hg : q_gi n I nx ny) (hc : q_cp n I F (q_NP n I) (q_PP n I) pl be di le) (ho : q_ou n I (q_NP n I) (q_PP n I) (fun i j d => so (4 * q_pn n I (40 * i + j) + d))) {h : Nat} (hh : h < 2 * q_NP n I) :
    m_Ne_next (N h) so be di = some (N (q_nxt n I h)) := by
  have h220 := q_NP_220 hg
  have hr := q_rv_lt hh
  obtain ⟨b1, b2, _⟩ := q_cp_side hc hr
  obtain ⟨_, d2, _⟩ := q_cp_side hc hh
  have hp := q_qb_pt hg hr
  have hq := q_pv_lt hg hp
  have hd := q_qd_lt I (q_PP n I) h
  have ed := q_qd_rv I (q_PP n I) h
  have o := fun d (hd : d < 4) => q_ou_o hg ho (v := q_qb I (q_PP n I) (q_rv h)) (d := d) hp hd
  have nn : ∀ d, q_wd n I (q_qb I (q_PP n I) (q_rv h)).1 (q_qb I (q_PP n I) (q_rv h)).2 d → ¬ N (q_o n I (q_qb I (q_PP n I) (q_rv h)) d) = (-1) := fun d hw => q_neg1 (by have := (q_o_spec hg hp hw).1; omega)
  have m1 : (q_qd I (q_PP n I) (q_rv h) + 3) % 4 = (q_qd I (q_PP n I) h + 1) % 4 := by rw [ed]; omega
  have m2 : (q_qd I (q_PP n I) (q_rv h) + 2) % 4 = q_qd I (q_PP n I) h := by rw [ed]; omega
  have m3 : (q_qd I (q_PP n I) (q_rv h) + 1) % 4 = (q_qd I (q_PP n I) h + 3) % 4 := by rw [ed]; omega
  have lastw : q_o n I (q_qb I (q_PP n I) (q_rv h)) (q_qd I (q_PP n I) (q_rv h)) = q_rv h := q_o_eq hg hr
  unfold m_Ne_next m_Ne_endOf
  rw [q_xor1 h (by omega), gI_N (by omega) (by omega), N_nat (by omega), b1, bd1_i rfl, gI_N (by omega) (by omega), N_nat (by omega), d2, q_turn1 _ hd, bd1_i rfl, q_sideFrom hq (by omega), bd1_i rfl, gI_N (by omega) (by omega), q_sideFrom hq hd, bd1_i rfl, gI_N (by omega) (by omega), q_turn3 _ hd, bd1_i rfl, q_sideFrom hq (by omega), bd1_i rfl]
  unfold q_nxt q_cw
  rw [m1, m2, m3]
  generalize hv : q_qb I (q_PP n I) (q_rv h) = v at *
  by_cases c1 : q_wd n I v.1 v.2 ((q_qd I (q_PP n I) h + 1) % 4)
  · have e1 := (o _ (by omega)).1 c1
    have e1' : so (4 * q_pv n I v + (q_qd I (q_PP n I) h + 1) % 4) = _ := e1
    rw [e1', if_neg (nn _ c1), if_pos (q_bb_t.mpr c1)]
  · have e1 : so (4 * q_pv n I v + (q_qd I (q_PP n I) h + 1) % 4) = _ := (o _ (by omega)).2 c1
    rw [e1, if_pos (by rfl), if_neg (fun q => c1 (q_bb_t.mp q))]
    by_cases c2 : q_wd n I v.1 v.2 (q_qd I (q_PP n I) h)
    · have e2 : so (4 * q_pv n I v + q_qd I (q_PP n I) h) = _ := (o _ hd).1 c2
      rw [e2, if_neg (nn _ c2), if_pos (q_bb_t.mpr c2)]
    · have e2 : so (4 * q_pv n I v + q_qd I (q_PP n I) h) = _ := (o _ hd).2 c2
      rw [e2, if_pos (by rfl), if_neg (fun q => c2 (q_bb_t.mp q))]
      by_cases c3 : q_wd n I v.1 v.2 ((q_qd I (q_PP n I) h + 3) % 4)
      · have e3 : so (4 * q_pv n I v + (q_qd I (q_PP n I) h + 3) % 4) = _ := (o _ (by omega)).1 c3
        rw [e3, if_neg (nn _ c3), if_pos (q_bb_t.mpr c3), bd1_i rfl]
      · have e3 : so (4 * q_pv n I v + (q_qd I (q_PP n I) h + 3) % 4) = _ := (o _ (by omega)).2 c3
        rw [e3, if_pos (by rfl), if_neg (fun q => c3 (q_bb_t.mp q)), bd1_i rfl, lastw]
theorem q_fnx {n : Nat} {I : Sto} {nx ny : Nat} (hg : q_gi n I nx ny) : q_fn (q_nxt n I) (2 * q_NP n I) := ⟨fun h hh => (q_nxt_s hg hh).1, fun h g hh hg' e => q_nxt_inj hg hh hg' e⟩
noncomputable def q_K (n : Nat) (I : Sto) (h : Nat) : Nat := 4 * q_pv n I (q_qb I (q_PP n I) h) + q_qd I (q_PP n I) h
theorem q_K_inj {n : Nat} {I : Sto} {nx ny : Nat} (hg : q_gi n I nx ny) {h g : Nat} (hh : h < 2 * q_NP n I) (hg' : g < 2 * q_NP n I) (e : q_K n I h = q_K n I g) : h = g := by
  have := q_qd_lt I (q_PP n I) h
  have := q_qd_lt I (q_PP n I) g
  unfold q_K at e
  exact q_out_inj hg hh hg' (q_pv_inj hg (q_qb_pt hg hh) (q_qb_pt hg hg') (by omega)) (by omega)
theorem q_K_lt {n : Nat} {I : Sto} {nx ny : Nat} (hg : q_gi n I nx ny) {h : Nat} (hh : h < 2 * q_NP n I) : q_K n I h < 560 := by
  have := q_qd_lt I (q_PP n I) h
  have := q_pv_lt hg (q_qb_pt hg hh)
  unfold q_K; omega
theorem q_two {n : Nat} {I : Sto} {nx ny : Nat} (hg : q_gi n I nx ny) {h k : Nat} (hh : h < 2 * q_NP n I) (c : q_cyc (q_nxt n I) h k) : 2 ≤ k := by
  have := c.1
  by_cases e : k = 1
  · subst e; exact (q_nxt_ne hg hh c.2.1).elim
  · omega
theorem q_go_L {n : Nat} {I : Sto} {nx ny : Nat} {F : Ce → Int} {so pl be di le : Nat → Int32} (hg : q_gi n I nx ny) (hc : q_cp n I F (q_NP n I) (q_PP n I) pl be di le) (ho : q_ou n I (q_NP n I) (q_PP n I) (fun i j d => so (4 * q_pn n I (40 * i + j) + d)))
    {G : Nat → Prop} (hG : ∀ h, h < 2 * q_NP n I → (G h ↔ G (q_nxt n I h))) {f fl : Nat} (hf : f < 2 * q_NP n I) (hnG : ¬ G f) (hfl : fl = q_cnt G (2 * q_NP n I)) (or0 : Nat → Int32) :
    ∀ fuel k ord gn, 2 * q_NP n I - k < fuel → k ≤ 2 * q_NP n I → q_fr (q_nxt n I) G f k → (∀ h, h < 2 * q_NP n I → gn h = N (q_one (q_Gk (q_nxt n I) G f k h))) → (∀ j, j < k → ord (fl + j) = N (q_it (q_nxt n I) j f)) → (∀ x, x < fl → ord x = or0 x) →
    ∃ z ord' gn', m_Ri_goRound_L32 (N (q_NP n I)) so be di fuel (N (q_it (q_nxt n I) k f)) (N k) (N (fl + k)) ord gn = some (N (fl + z), ord', gn') ∧ q_cyc (q_nxt n I) f z ∧ q_fr (q_nxt n I) G f z ∧ (∀ h, h < 2 * q_NP n I → gn' h = N (q_one (q_Gk (q_nxt n I) G f z h))) ∧ (∀ j, j < z → ord' (fl + j) = N (q_it (q_nxt n I) j f)) ∧ (∀ x, x < fl → ord' x = or0 x) := by
  have h220 := q_NP_220 hg
  have hfn := q_fnx hg
  intro fuel
  induction fuel with
  | zero => intro k ord gn h; omega
  | succ m ih =>
    intro k ord gn hm hk hfr hgn hord hor
    have hcur := q_it_lt hfn hf k
    have hcnt := q_Gk_cnt hfn hf k hfr
    have hle := q_cnt_le (q_Gk (q_nxt n I) G f k) (2 * q_NP n I)
    rw [m_Ri_goRound_L32]
    by_cases gone : q_Gk (q_nxt n I) G f k (q_it (q_nxt n I) k f)
    · have hk0 : 0 < k := by
        cases k with
        | zero =>
          rcases gone with q | ⟨j, hj, _⟩
          · exact (hnG q).elim
          · omega
        | succ k => omega
      refine ⟨k, ord, gn, ?_, q_stop hfn hG hf hk0 hfr gone, hfr, hgn, hord, hor⟩
      by_cases c : 2 * q_NP n I ≤ k
      · rw [if_pos (by rw [N_lit 2, N_mul]; exact (N_le (by omega) (by omega)).mpr c)]
      · rw [if_neg (by rw [N_lit 2, N_mul]; exact fun q => c ((N_le (by omega) (by omega)).mp q)), gI_N (by omega) (by omega), N_nat (by omega), hgn _ hcur, if_neg (fun q => (q_one0 _).mp q gone)]
    · have hlt : q_cnt (q_Gk (q_nxt n I) G f k) (2 * q_NP n I) < 2 * q_NP n I := by
        refine Classical.byContradiction (fun q => gone (q_cnt_full (by omega) _ hcur))
      have hfr' := q_fr_s hfr gone
      obtain ⟨z, ord', gn', e, r1, r2, r3, r4, r5⟩ := ih (k + 1) (upd ord (fl + k) (N (q_it (q_nxt n I) k f))) (upd gn (q_it (q_nxt n I) k f) 1) (by omega) (by omega) hfr' (by
        intro h hh
        by_cases eh : h = q_it (q_nxt n I) k f
        · rw [eh, upd_s, q_one_t (show q_Gk (q_nxt n I) G f (k + 1) (q_it (q_nxt n I) k f) from Or.inr ⟨k, by omega, rfl⟩)]; rfl
        · rw [upd_n _ _ eh, hgn h hh]
          congr 1
          refine q_one_c ⟨fun q => ?_, fun q => ?_⟩
          · rcases q with q | ⟨j, hj, e⟩
            · exact Or.inl q
            · exact Or.inr ⟨j, by omega, e⟩
          · rcases q with q | ⟨j, hj, e⟩
            · exact Or.inl q
            · by_cases ej : j = k
              · subst ej; exact (eh e.symm).elim
              · exact Or.inr ⟨j, by omega, e⟩) (by
        intro j hj
        by_cases ej : j = k
        · subst ej; rw [upd_s]
        · rw [upd_n _ _ (by omega)]; exact hord j (by omega)) (fun x hx => by rw [upd_n _ _ (by omega)]; exact hor x hx)
      refine ⟨z, ord', gn', ?_, r1, r2, r3, r4, r5⟩
      rw [if_neg (by rw [N_lit 2, N_mul]; exact fun q => by have := (N_le (by omega) (by omega)).mp q; omega), gI_N (by omega) (by omega), N_nat (by omega), hgn _ hcur, if_pos ((q_one0 _).mpr gone), N_lit 440, if_neg (fun q => by have := (N_le (by omega) (by omega)).mp q; omega), gI_N (by omega) (by omega), lt_e, gI_N (by omega) (by omega), lt_e, N_nat (by omega), lt_e, q_Cnext hg hc ho hcur, bd1_i rfl, lt_e, q_nar1, N_lit 1, N_add, N_add]
      exact e
/-! The class's rows of rings. -/
def q_cri (n : Nat) (I : Sto) (F : Ce → Int) (nr : Nat) (ld : Nat → Nat) (fl : Nat) (ord st sp : Nat → Int32) : Prop := ∀ r, r < nr → sp r = J (q_lf I (q_PP n I) F (ld r)) ∧ ∃ s z, st r = N s ∧ st (r + 1) = N (s + z) ∧ q_cyc (q_nxt n I) (ld r) z ∧ s + z ≤ fl ∧ (r + 1 = nr → s + z = fl) ∧ ∀ j, j < z → ord (s + j) = N (q_it (q_nxt n I) j (ld r))
def q_cst (n : Nat) (I : Sto) (t : Nat) (G : Nat → Prop) (nr : Nat) (ld : Nat → Nat) (fl : Nat) : Prop :=
  (∀ h, h < 2 * q_NP n I → q_K n I h < t → G h) ∧ (∀ h, h < 2 * q_NP n I → (G h ↔ G (q_nxt n I h))) ∧ (∀ r, r < nr → q_ldr (q_nxt n I) (q_K n I) (2 * q_NP n I) (ld r) ∧ q_K n I (ld r) < t) ∧ (∀ r r', r < r' → r' < nr → q_K n I (ld r) < q_K n I (ld r')) ∧
  (∀ h, h < 2 * q_NP n I → G h → ∃ r k, r < nr ∧ q_it (q_nxt n I) k (ld r) = h) ∧ fl = q_cnt G (2 * q_NP n I) ∧ 2 * nr ≤ fl
theorem q_goRound {n : Nat} {I : Sto} {nx ny : Nat} {F : Ce → Int} {so pl be di le : Nat → Int32} (hg : q_gi n I nx ny) (hc : q_cp n I F (q_NP n I) (q_PP n I) pl be di le) (ho : q_ou n I (q_NP n I) (q_PP n I) (fun i j d => so (4 * q_pn n I (40 * i + j) + d)))
    {G : Nat → Prop} {f t nr fl : Nat} {ld : Nat → Nat} {ord gn st sp : Nat → Int32} (hf : f < 2 * q_NP n I) (hK : q_K n I f = t) (hnG : ¬ G f) (hs : q_cst n I t G nr ld fl) (hr : q_cri n I F nr ld fl ord st sp) (hgn : ∀ h, h < 2 * q_NP n I → gn h = N (q_one (G h))) :
    ∃ G' ld' fl' ord' gn' st' sp', m_Ri_goRound (N f) (N nr) (N fl) ord gn st sp (N (q_NP n I)) so be di le = some (N (nr + 1), N fl', ord', gn', st', sp') ∧ q_cst n I (t + 1) G' (nr + 1) ld' fl' ∧ q_cri n I F (nr + 1) ld' fl' ord' st' sp' ∧ ∀ h, h < 2 * q_NP n I → gn' h = N (q_one (G' h)) := by
  obtain ⟨s1, s2, s3, s4, s5, s6, s7⟩ := hs
  have h220 := q_NP_220 hg
  have hfn := q_fnx hg
  obtain ⟨z, ord', gn', e, r1, r2, r3, r4, r5⟩ := q_go_L hg hc ho s2 hf hnG s6 ord fu 0 ord gn (by unfold fu; omega) (by omega) (fun i hi => by omega) (fun h hh => by rw [hgn h hh]; congr 1; exact q_one_c ⟨Or.inl, fun q => q.elim id (fun ⟨j, hj, _⟩ => by omega)⟩) (fun j hj => by omega) (fun x _ => rfl)
  have hz := q_two hg hf r1
  have hcnt := q_Gk_cnt hfn hf z r2
  have hle := q_cnt_le (q_Gk (q_nxt n I) G f z) (2 * q_NP n I)
  have hldr : q_ldr (q_nxt n I) (q_K n I) (2 * q_NP n I) f := by
    refine ⟨hf, fun k => Classical.byContradiction (fun q => ?_)⟩
    exact hnG ((q_G_it hfn s2 hf k).mp (s1 _ (q_it_lt hfn hf k) (by omega)))
  refine ⟨q_Gk (q_nxt n I) G f z, fun r => if r = nr then f else ld r, fl + z, ord', gn', upd (upd st nr (N fl)) (nr + 1) (N (fl + z)), upd sp nr (J (q_lf I (q_PP n I) F f)), ?_, ⟨?_, q_Gk_closed hfn s2 hf r1, ?_, ?_, ?_, by omega, by omega⟩, ?_, r3⟩
  · unfold m_Ri_goRound m_Ne_onTheLeft
    rw [gI_N (by omega) (by omega), N_nat (by omega), (q_cp_side hc hf).2.2.1, bd1_i rfl, gI_N (by omega) (by omega), lt_e, gI_N (by omega) (by omega), lt_e, N_nat (by omega), show (0 : Int32) = N 0 from rfl, show N fl = N (fl + 0) from rfl]
    have e' : m_Ri_goRound_L32 (N (q_NP n I)) so be di fu (N f) (N 0) (N (fl + 0)) ord gn = _ := e
    rw [bd3_i e', lt_e, N_lit 1, N_add, gI_N (by omega) (by omega), lt_e, N_nat (by omega)]
  · intro h hh hk
    by_cases c : q_K n I h < t
    · exact Or.inl (s1 h hh c)
    · have := q_K_inj hg hh hf (by omega)
      exact Or.inr ⟨0, by omega, this.symm⟩
  · intro r hr'
    dsimp only
    by_cases er : r = nr
    · rw [if_pos er]; exact ⟨hldr, by omega⟩
    · rw [if_neg er]; have := s3 r (by omega); exact ⟨this.1, by omega⟩
  · intro r r' h1 h2
    dsimp only
    by_cases er : r' = nr
    · rw [if_pos er, if_neg (by omega), hK]; exact (s3 r (by omega)).2
    · rw [if_neg er, if_neg (by omega)]; exact s4 r r' h1 (by omega)
  · intro h hh q
    rcases q with q | ⟨j, hj, e⟩
    · obtain ⟨r, k, a, b⟩ := s5 h hh q
      exact ⟨r, k, by omega, by dsimp only; rw [if_neg (by omega)]; exact b⟩
    · exact ⟨nr, j, by omega, by dsimp only; rw [if_pos rfl]; exact e⟩
  · intro r hr'
    dsimp only
    by_cases er : r = nr
    · subst er
      rw [if_pos rfl, upd_s]
      exact ⟨rfl, fl, z, by rw [upd_n _ _ (by omega), upd_s], by rw [upd_s], r1, by omega, fun _ => rfl, r4⟩
    · rw [if_neg er, upd_n _ _ er]
      obtain ⟨a, s, z', b1, b2, b3, b4, b5, b6⟩ := hr r (by omega)
      refine ⟨a, s, z', by rw [upd_n _ _ (by omega), upd_n _ _ er, b1], ?_, b3, by omega, fun q => by omega, fun j hj => by rw [r5 _ (by omega)]; exact b6 j hj⟩
      rw [upd_n _ _ (by omega)]
      by_cases e2 : r + 1 = nr
      · rw [e2, upd_s, ← b5 e2]
      · rw [upd_n _ _ e2, b2]
theorem q_cnt_sur {p : Nat → Prop} {q : Nat} : ∀ {m}, q < q_cnt p m → ∃ i, i < m ∧ p i ∧ q_cnt p i = q := by
  intro m
  induction m with
  | zero => intro h; unfold q_cnt at h; omega
  | succ m ih =>
    intro h
    have h0 : q < q_cnt p m + q_one (p m) := h
    by_cases c : q < q_cnt p m
    · obtain ⟨i, a, b⟩ := ih c
      exact ⟨i, by omega, b⟩
    · by_cases d : p m
      · rw [q_one_t d] at h0; exact ⟨m, by omega, d, by omega⟩
      · rw [q_one_f d] at h0; omega
theorem q_pt_sur {n : Nat} {I : Sto} {nx : Nat} {q : Nat} (h : q < q_np n I nx) : ∃ v : Nat × Nat, q_pt n I v.1 v.2 ∧ q_pv n I v = q := by
  obtain ⟨t, h1, h2, h3⟩ := q_cnt_sur (p := fun t => q_pt n I (t / 40) (t % 40)) h
  refine ⟨(t / 40, t % 40), h2, ?_⟩
  show q_pn n I (40 * (t / 40) + t % 40) = q
  rw [show 40 * (t / 40) + t % 40 = t by omega]; exact h3
theorem q_pv_np {n : Nat} {I : Sto} {nx ny : Nat} (hg : q_gi n I nx ny) {v : Nat × Nat} (h : q_pt n I v.1 v.2) : q_pv n I v < q_np n I nx := by
  have a := q_pt_in hg h
  exact q_pn_lt (by have := hg.2.2.1; omega) h (by have := hg.2.2.1; have := hg.2.1; omega)
theorem q_cst_skip {n : Nat} {I : Sto} {t : Nat} {G : Nat → Prop} {nr : Nat} {ld : Nat → Nat} {fl : Nat} (h : q_cst n I t G nr ld fl) (hn : ∀ h, h < 2 * q_NP n I → q_K n I h = t → G h) : q_cst n I (t + 1) G nr ld fl := by
  obtain ⟨s1, s2, s3, s4, s5, s6, s7⟩ := h
  refine ⟨fun h hh hk => ?_, s2, fun r hr => ⟨(s3 r hr).1, by have := (s3 r hr).2; omega⟩, s4, s5, s6, s7⟩
  by_cases c : q_K n I h < t
  · exact s1 h hh c
  · exact hn h hh (by omega)
theorem q_fol_L47 {n : Nat} {I : Sto} {nx ny : Nat} {F : Ce → Int} {so pl be di le : Nat → Int32} (hg : q_gi n I nx ny) (hc : q_cp n I F (q_NP n I) (q_PP n I) pl be di le) (ho : q_ou n I (q_NP n I) (q_PP n I) (fun i j d => so (4 * q_pn n I (40 * i + j) + d)))
    {q : Nat} (hq : q < q_np n I nx) :
    ∀ fuel d G nr ld fl ord gn st sp, 4 - d < fuel → d ≤ 4 → q_cst n I (4 * q + d) G nr ld fl → q_cri n I F nr ld fl ord st sp → (∀ h, h < 2 * q_NP n I → gn h = N (q_one (G h))) →
    ∃ G' nr' ld' fl' ord' gn' st' sp', m_Ri_follow_L47 (N q) (N (q_NP n I)) so be di le fuel (N d) (N nr) (N fl) ord gn st sp = some (N nr', N fl', ord', gn', st', sp') ∧ q_cst n I (4 * q + 4) G' nr' ld' fl' ∧ q_cri n I F nr' ld' fl' ord' st' sp' ∧ ∀ h, h < 2 * q_NP n I → gn' h = N (q_one (G' h)) := by
  have h220 := q_NP_220 hg
  obtain ⟨v, hv, ev⟩ := q_pt_sur hq
  have hq140 := q_pv_lt hg hv
  intro fuel
  induction fuel with
  | zero => intro d G nr ld fl ord gn st sp h; omega
  | succ m ih =>
    intro d G nr ld fl ord gn st sp hm hd hs hr hgn
    rw [m_Ri_follow_L47]
    by_cases c : 4 ≤ d
    · rw [if_pos (by rw [N_lit 4]; exact (N_le (by omega) (by omega)).mpr c)]
      have e : d = 4 := by omega
      subst e
      exact ⟨G, nr, ld, fl, ord, gn, st, sp, rfl, hs, hr, hgn⟩
    · have ho' := q_ou_o hg ho (v := v) (d := d) hv (by omega)
      have es : ∀ x, (fun i j d => so (4 * q_pn n I (40 * i + j) + d)) v.1 v.2 d = x → so (4 * q + d) = x := fun x h => by rw [← ev]; exact h
      rw [if_neg (by rw [N_lit 4]; exact fun q => c ((N_le (by omega) (by omega)).mp q)), q_sideFrom (by omega) (by omega), bd1_i rfl]
      by_cases w : q_wd n I v.1 v.2 d
      · obtain ⟨w1, w2, w3⟩ := q_o_spec hg hv w
        have eK : q_K n I (q_o n I v d) = 4 * q + d := by unfold q_K; rw [w2, w3, ev]
        rw [es _ (ho'.1 w), if_neg (q_neg1 (by omega)), gI_N (by omega) (by omega), N_nat (by omega), hgn _ w1]
        by_cases g : G (q_o n I v d)
        · obtain ⟨G', nr', ld', fl', ord', gn', st', sp', e, r1, r2, r3⟩ := ih (d + 1) G nr ld fl ord gn st sp (by omega) (by omega) (q_cst_skip (t := 4 * q + d) hs (fun h hh hk => by rw [q_K_inj hg hh w1 (by omega)]; exact g)) hr hgn
          refine ⟨G', nr', ld', fl', ord', gn', st', sp', ?_, r1, r2, r3⟩
          rw [if_neg (fun q => (q_one0 _).mp q g), bd6_i rfl, lt_e, N_lit 1, N_add]
          exact e
        · have hlt : q_cnt G (2 * q_NP n I) < 2 * q_NP n I := Classical.byContradiction (fun q => g (q_cnt_full (by omega) _ w1))
          have hnr : 2 * nr ≤ fl := hs.2.2.2.2.2.2
          have hfl := hs.2.2.2.2.2.1
          obtain ⟨G1, ld1, fl1, ord1, gn1, st1, sp1, e1, x1, x2, x3⟩ := q_goRound hg hc ho w1 eK g hs hr hgn
          obtain ⟨G', nr', ld', fl', ord', gn', st', sp', e, r1, r2, r3⟩ := ih (d + 1) G1 (nr + 1) ld1 fl1 ord1 gn1 st1 sp1 (by omega) (by omega) x1 x2 x3
          refine ⟨G', nr', ld', fl', ord', gn', st', sp', ?_, r1, r2, r3⟩
          rw [if_pos ((q_one0 _).mpr g), N_lit 220, if_neg (fun q => by have := (N_le (by omega) (by omega)).mp q; omega), bd6_i e1, bd6_i rfl, lt_e, N_lit 1, N_add]
          exact e
      · obtain ⟨G', nr', ld', fl', ord', gn', st', sp', e, r1, r2, r3⟩ := ih (d + 1) G nr ld fl ord gn st sp (by omega) (by omega) (q_cst_skip (t := 4 * q + d) hs (fun h hh hk => by
          exfalso
          have hd4 := q_qd_lt I (q_PP n I) h
          unfold q_K at hk
          have e1 := q_pv_inj hg (q_qb_pt hg hh) hv (by omega)
          have := q_out_wd hg hh
          rw [e1, show q_qd I (q_PP n I) h = d by omega] at this
          exact w this)) hr hgn
        refine ⟨G', nr', ld', fl', ord', gn', st', sp', ?_, r1, r2, r3⟩
        rw [es _ (ho'.2 w), if_pos (by rfl), bd6_i rfl, lt_e, N_lit 1, N_add]
        exact e
theorem q_fol_L37 {n : Nat} {I : Sto} {nx ny : Nat} {F : Ce → Int} {so pl be di le : Nat → Int32} (hg : q_gi n I nx ny) (hc : q_cp n I F (q_NP n I) (q_PP n I) pl be di le) (ho : q_ou n I (q_NP n I) (q_PP n I) (fun i j d => so (4 * q_pn n I (40 * i + j) + d))) :
    ∀ fuel q G nr ld fl ord gn st sp, q_np n I nx - q < fuel → q ≤ q_np n I nx → q_cst n I (4 * q) G nr ld fl → q_cri n I F nr ld fl ord st sp → (∀ h, h < 2 * q_NP n I → gn h = N (q_one (G h))) →
    ∃ G' nr' ld' fl' ord' gn' st' sp', m_Ri_follow_L37 (N (q_np n I nx)) (N (q_NP n I)) so be di le fuel (N q) (N nr) (N fl) ord gn st sp = some (N nr', N fl', ord', gn', st', sp') ∧ q_cst n I (4 * q_np n I nx) G' nr' ld' fl' ∧ q_cri n I F nr' ld' fl' ord' st' sp' := by
  have h140 : q_np n I nx ≤ 140 := q_pn_140 hg (by have := hg.2.1; omega)
  intro fuel
  induction fuel with
  | zero => intro q G nr ld fl ord gn st sp h; omega
  | succ m ih =>
    intro q G nr ld fl ord gn st sp hm hq hs hr hgn
    rw [m_Ri_follow_L37]
    by_cases c : q_np n I nx ≤ q
    · rw [if_pos ((N_le (by omega) (by omega)).mpr c)]
      have e : q = q_np n I nx := by omega
      subst e
      exact ⟨G, nr, ld, fl, ord, gn, st, sp, rfl, hs, hr⟩
    · obtain ⟨G1, nr1, ld1, fl1, ord1, gn1, st1, sp1, e1, x1, x2, x3⟩ := q_fol_L47 hg hc ho (q := q) (by omega) fu 0 G nr ld fl ord gn st sp (by unfold fu; omega) (by omega) hs hr hgn
      obtain ⟨G', nr', ld', fl', ord', gn', st', sp', e, r1, r2⟩ := ih (q + 1) G1 nr1 ld1 fl1 ord1 gn1 st1 sp1 (by omega) (by omega) x1 x2 x3
      refine ⟨G', nr', ld', fl', ord', gn', st', sp', ?_, r1, r2⟩
      rw [if_neg (fun z => c ((N_le (by omega) (by omega)).mp z)), show (0 : Int32) = N 0 from rfl, bd6_i e1, lt_e, N_lit 1, N_add]
      exact e
theorem q_fol_L12 {M : Nat} (hM : M ≤ 220) : ∀ fuel k (f : Nat → Int32), 2 * M - k < fuel → k ≤ 2 * M → m_Ri_follow_L12 (N M) fuel (N k) f = some (fun j => if k ≤ j ∧ j < 2 * M then N 0 else f j) := by
  intro fuel
  induction fuel with
  | zero => intro k f h; omega
  | succ m ih =>
    intro k f h hk
    rw [m_Ri_follow_L12]
    by_cases c : 2 * M ≤ k
    · rw [if_pos (by rw [N_lit 2, N_mul]; exact (N_le (by omega) (by omega)).mpr c)]
      congr 1; funext j; rw [if_neg (by omega)]
    · rw [if_neg (by rw [N_lit 2, N_mul]; exact fun q => c ((N_le (by omega) (by omega)).mp q)), gI_N (by omega) (by omega), lt_e, lt_e, N_nat (by omega), N_lit 1, N_add, ih _ _ (by omega) (by omega), q_nar0]
      congr 1; funext j
      by_cases e : j = k
      · subst e; rw [if_neg (by omega), if_pos (by omega), upd_s]; rfl
      · rw [upd_n _ _ e]
        by_cases c2 : k ≤ j ∧ j < 2 * M
        · rw [if_pos c2, if_pos (by omega)]
        · rw [if_neg c2, if_neg (by omega)]
/-! The class's rings: all leaders by their keys. -/
theorem q_follow {n : Nat} {I : Sto} {nx ny : Nat} {F : Ce → Int} {so pl be di le : Nat → Int32} (hg : q_gi n I nx ny) (hc : q_cp n I F (q_NP n I) (q_PP n I) pl be di le) (ho : q_ou n I (q_NP n I) (q_PP n I) (fun i j d => so (4 * q_pn n I (40 * i + j) + d))) (v1 v2 : Int32) (ord gn st sp : Nat → Int32) :
    ∃ nr ld fl ord' gn' st' sp', m_Ri_follow v1 v2 ord gn st sp (N (q_np n I nx)) (N (q_NP n I)) so be di le = some (N nr, N fl, ord', gn', st', sp') ∧ q_cri n I F nr ld fl ord' st' sp' ∧ q_enu (q_nxt n I) (q_K n I) (2 * q_NP n I) nr ld ∧ (∀ r r', r < r' → r' < nr → q_K n I (ld r) < q_K n I (ld r')) ∧ nr ≤ 220 ∧ fl ≤ 440 := by
  have h220 := q_NP_220 hg
  have h140 : q_np n I nx ≤ 140 := q_pn_140 hg (by have := hg.2.1; omega)
  have hfn := q_fnx hg
  have e1 := q_fol_L12 h220 fu 0 gn (by unfold fu; omega) (by omega)
  obtain ⟨G, nr, ld, fl, ord', gn', st', sp', e2, hs, hr⟩ := q_fol_L37 hg hc ho fu 0 (fun _ => False) 0 (fun _ => 0) 0 ord (fun j => if 0 ≤ j ∧ j < 2 * q_NP n I then N 0 else gn j) st sp (by unfold fu; omega) (by omega)
    ⟨fun h _ hk => by omega, fun h _ => Iff.rfl, fun r h => by omega, fun r r' _ h => by omega, fun h _ q => q.elim, (q_cnt_none (fun i _ q => q)).symm, by omega⟩ (fun r h => by omega) (fun h hh => by rw [if_pos (by omega), q_one_f (fun q => q)])
  obtain ⟨s1, s2, s3, s4, s5, s6, s7⟩ := hs
  have hle := q_cnt_le G (2 * q_NP n I)
  refine ⟨nr, ld, fl, ord', gn', st', sp', ?_, hr, ⟨fun x hx => (s3 x hx).1, fun h hl => ?_, fun x y hx hy e => ?_⟩, s4, by omega, by omega⟩
  · unfold m_Ri_follow
    rw [show (0 : Int32) = N 0 from rfl, bd1_i e1, bd6_i e2]
  · have hK : q_K n I h < 4 * q_np n I nx := by
      have := q_pv_np hg (q_qb_pt hg hl.1)
      have := q_qd_lt I (q_PP n I) h
      unfold q_K; omega
    obtain ⟨r, k, a, b⟩ := s5 h hl.1 (s1 h hl.1 hK)
    obtain ⟨_, s, z, _, _, hc', _⟩ := hr r a
    obtain ⟨j, ej⟩ := q_cyc_back hc' k
    rw [b] at ej
    refine ⟨r, a, q_K_inj hg (s3 r a).1.1 hl.1 ?_⟩
    have h1 := (s3 r a).1.2 k
    have h2 := hl.2 j
    rw [b] at h1
    rw [ej] at h2
    omega
  · by_cases c : x < y
    · have := s4 x y c hy; rw [e] at this; omega
    · by_cases c' : y < x
      · have := s4 y x c' hx; rw [e] at this; omega
      · omega
/-! The reference's sides. -/
def q_fI (n : Nat) (I : Sto) (fI : Nat → Int32) : Prop := ∀ l, l < n → fI l = if yl I l = yh I l then 1 else 0
theorem q_half {h : Nat} (hh : h < 1000) : N h / 2 = N (h / 2) ∧ (N h - N h / 2 * 2 = 0 ↔ h % 2 = 0) := by
  have e : N h / 2 = N (h / 2) := by rw [N_lit 2, N_div (by omega) (by omega)]
  refine ⟨e, ?_⟩
  rw [e, N_lit 2, N_mul, N_sub (by omega), N_lit 0, N_eq (by omega) (by omega)]; omega
theorem q_Rside {n : Nat} {I : Sto} {nx ny : Nat} {F : Ce → Int} {ns : Nat} {fI pl pb pe pf pr : Nat → Int32} (hg : q_gi n I nx ny) (hF : q_labs n I nx ny F ns) (hfI : q_fI n I fI) (hc : q_rp I F (q_NP n I) (q_PP n I) pl pb pe pf pr) {h : Nat} (hh : h < 2 * q_NP n I) :
    m_Mo_beginOf (N h) pb pe = some (N (q_nv (q_qb I (q_PP n I) h))) ∧ m_Mo_directionOf (N h) fI pl = some (N (q_qd I (q_PP n I) h)) ∧ m_Mo_leftOf (N h) pf pr = some (J (q_lf I (q_PP n I) F h)) := by
  have h220 := q_NP_220 hg
  have hn := hg.1
  obtain ⟨c1, c2, c3, c4, c5⟩ := hc (h / 2) (by omega)
  obtain ⟨a1, a2, a3, a4, _⟩ := q_pcA hg (p := h / 2) (by omega)
  have hE := q_alongs hg hF (p := h / 2) (by omega) _ a3 (Nat.le_refl _)
  obtain ⟨e1, e2⟩ := q_half (h := h) (by omega)
  unfold m_Mo_beginOf m_Mo_directionOf m_Mo_leftOf
  have e1' : (N h / 2).toNatClampNeg = h / 2 := by rw [e1, N_nat (by omega)]
  have g1 : ∀ {α : Type} (x : Option α), gI (N h / 2) 900 x = x := fun x => by rw [e1, gI_N (by omega) (by omega)]
  rw [e1', g1, g1, g1, g1, g1, c1, c2, c3, c4, c5, gI_N (by omega) (by omega), N_nat (by omega), hfI _ a1]
  unfold q_qb q_qd q_lf q_d0
  by_cases c : h % 2 = 0
  · rw [if_pos (e2.mpr c), if_pos (e2.mpr c), if_pos (e2.mpr c), if_pos c, if_pos c, if_pos c, hE.1]
    refine ⟨rfl, ?_, rfl⟩
    by_cases f : yl I (q_PP n I (h / 2)).1 = yh I (q_PP n I (h / 2)).1
    · rw [if_pos f, if_pos f, if_neg (by decide)]; rfl
    · rw [if_neg f, if_neg f, if_pos rfl]; rfl
  · rw [if_neg (fun q => c (e2.mp q)), if_neg (fun q => c (e2.mp q)), if_neg (fun q => c (e2.mp q)), if_neg c, if_neg c, if_neg c, hE.2]
    refine ⟨rfl, ?_, rfl⟩
    by_cases f : yl I (q_PP n I (h / 2)).1 = yh I (q_PP n I (h / 2)).1
    · rw [if_pos f, if_pos f, if_neg (by decide)]; rfl
    · rw [if_neg f, if_neg f, if_pos rfl]; rfl
theorem q_mod4 {d : Nat} (h : d < 100) : N d - N d / 4 * 4 = N (d % 4) := by
  rw [N_lit 4, N_div (by omega) (by omega), N_mul, N_sub (by omega)]; congr 1; omega
theorem q_neg0 {q : Nat} (h : q < 1000000) : ¬ N q < 0 := by rw [N_lit 0, N_lt (by omega) (by omega)]; omega
theorem q_Rnext {n : Nat} {I : Sto} {nx ny : Nat} {F : Ce → Int} {ns : Nat} {fI pl pb pe pf pr so : Nat → Int32} (hg : q_gi n I nx ny) (hF : q_labs n I nx ny F ns) (hfI : q_fI n I fI) (hc : q_rp I F (q_NP n I) (q_PP n I) pl pb pe pf pr)
    (ho : q_ou n I (q_NP n I) (q_PP n I) (fun i j d => so (4 * (42 * i + j) + d))) {h : Nat} (hh : h < 2 * q_NP n I) : m_Mo_next (N h) fI pl pb pe so = some (N (q_nxt n I h)) := by
  have h220 := q_NP_220 hg
  have hr := q_rv_lt hh
  obtain ⟨_, d1, _⟩ := q_Rside hg hF hfI hc hh
  obtain ⟨b1, _, _⟩ := q_Rside hg hF hfI hc hr
  obtain ⟨e1, e2⟩ := q_half (h := h) (by omega)
  have erv : (if N h - N h / 2 * 2 = 0 then some (N h + 1) else some (N h - 1)) = some (N (q_rv h)) := by
    unfold q_rv
    by_cases c : h % 2 = 0
    · rw [if_pos (e2.mpr c), if_pos c, N_lit 1, N_add]
    · rw [if_neg (fun q => c (e2.mp q)), if_neg c, N_lit 1, N_sub (by omega)]
  have hp := q_qb_pt hg hr
  have hin := q_pt_in hg hp
  have hx := hg.2.1
  have hy := hg.2.2.1
  have hd := q_qd_lt I (q_PP n I) h
  have ed := q_qd_rv I (q_PP n I) h
  have o := fun d (hd : d < 4) => q_ou_o hg ho (v := q_qb I (q_PP n I) (q_rv h)) (d := d) hp hd
  have nn : ∀ d, q_wd n I (q_qb I (q_PP n I) (q_rv h)).1 (q_qb I (q_PP n I) (q_rv h)).2 d → ¬ N (q_o n I (q_qb I (q_PP n I) (q_rv h)) d) < 0 := fun d hw => q_neg0 (by have := (q_o_spec hg hp hw).1; omega)
  have m1 : (q_qd I (q_PP n I) (q_rv h) + 3) % 4 = (q_qd I (q_PP n I) h + 1) % 4 := by rw [ed]; omega
  have m2 : (q_qd I (q_PP n I) (q_rv h) + 2) % 4 = q_qd I (q_PP n I) h := by rw [ed]; omega
  have m3 : (q_qd I (q_PP n I) (q_rv h) + 1) % 4 = (q_qd I (q_PP n I) h + 3) % 4 := by rw [ed]; omega
  have lastw : q_o n I (q_qb I (q_PP n I) (q_rv h)) (q_qd I (q_PP n I) (q_rv h)) = q_rv h := q_o_eq hg hr
  have lww := q_out_wd hg hr
  have jn : (J (-1)) < 0 := by decide
  unfold m_Mo_next
  have s4 : ∀ q r, 4 * N q + N r = N (4 * q + r) := fun q r => by rw [N_lit 4, N_mul, N_add]
  have s1 : ∀ q r, N q + N r = N (q + r) := N_add
  have nvl : q_nv (q_qb I (q_PP n I) (q_rv h)) < 1764 := by show 42 * _ + _ < 1764; omega
  rw [d1, bd1_i rfl, erv, bd1_i rfl, b1, bd1_i rfl, show N (q_qd I (q_PP n I) h) + 1 = N (q_qd I (q_PP n I) h + 1) from by rw [N_lit 1, N_add], show N (q_qd I (q_PP n I) h) + 3 = N (q_qd I (q_PP n I) h + 3) from by rw [N_lit 3, N_add], show N (q_qd I (q_PP n I) h) + 2 = N (q_qd I (q_PP n I) h + 2) from by rw [N_lit 2, N_add],
    q_mod4 (by omega), q_mod4 (by omega), q_mod4 (by omega), s4, s4, s4, s4, gI_N (by omega) (by omega), lt_e, gI_N (by omega) (by omega), lt_e, gI_N (by omega) (by omega), lt_e, gI_N (by omega) (by omega), N_nat (by omega), N_nat (by omega), N_nat (by omega), N_nat (by omega), ← ed]
  unfold q_nxt q_cw
  rw [m1, m2, m3]
  generalize hv : q_qb I (q_PP n I) (q_rv h) = v at *
  by_cases c1 : q_wd n I v.1 v.2 ((q_qd I (q_PP n I) h + 1) % 4)
  · have e1 : so (4 * q_nv v + (q_qd I (q_PP n I) h + 1) % 4) = _ := (o _ (by omega)).1 c1
    rw [e1, if_neg (nn _ c1), if_pos (q_bb_t.mpr c1), bd1_i rfl]
  · have e1 : so (4 * q_nv v + (q_qd I (q_PP n I) h + 1) % 4) = _ := (o _ (by omega)).2 c1
    rw [e1, if_pos jn, if_neg (fun q => c1 (q_bb_t.mp q))]
    by_cases c2 : q_wd n I v.1 v.2 (q_qd I (q_PP n I) h)
    · have e2 : so (4 * q_nv v + q_qd I (q_PP n I) h) = _ := (o _ hd).1 c2
      rw [e2, if_neg (nn _ c2), if_pos (q_bb_t.mpr c2), bd1_i rfl]
    · have e2 : so (4 * q_nv v + q_qd I (q_PP n I) h) = _ := (o _ hd).2 c2
      rw [e2, if_pos jn, if_neg (fun q => c2 (q_bb_t.mp q))]
      by_cases c3 : q_wd n I v.1 v.2 ((q_qd I (q_PP n I) h + 3) % 4)
      · have e3 : so (4 * q_nv v + (q_qd I (q_PP n I) h + 3) % 4) = _ := (o _ (by omega)).1 c3
        rw [e3, if_neg (nn _ c3), if_pos (q_bb_t.mpr c3), bd1_i rfl]
      · have e3 : so (4 * q_nv v + (q_qd I (q_PP n I) h + 3) % 4) = _ := (o _ (by omega)).2 c3
        have e4 : so (4 * q_nv v + q_qd I (q_PP n I) (q_rv h)) = _ := (o _ (q_qd_lt _ _ _)).1 lww
        rw [e3, if_pos jn, if_neg (fun q => c3 (q_bb_t.mp q)), e4, bd1_i rfl]
/-! Nodes are by their numbers as points are. -/
theorem q_nv_pv {n : Nat} {I : Sto} {nx ny : Nat} (hg : q_gi n I nx ny) {u v : Nat × Nat} (hu : q_pt n I u.1 u.2) (hv : q_pt n I v.1 v.2) : (q_nv u < q_nv v ↔ q_pv n I u < q_pv n I v) ∧ (q_nv u = q_nv v ↔ u = v) := by
  have a := q_pt_in hg hu
  have b := q_pt_in hg hv
  have hy := hg.2.2.1
  have k1 : q_nv u < q_nv v ↔ 40 * u.1 + u.2 < 40 * v.1 + v.2 := by
    show 42 * u.1 + u.2 < 42 * v.1 + v.2 ↔ _; omega
  refine ⟨k1.trans ⟨fun q => q_pn_lt (by omega) hu q, fun q => ?_⟩, fun e => ?_, fun e => by rw [e]⟩
  · refine Classical.byContradiction (fun c => ?_)
    have : q_pv n I v ≤ q_pv n I u := q_cnt_monot (by omega)
    omega
  · obtain ⟨x, y⟩ := q_enc (w := 42) (by omega) (by omega) (show 42 * u.1 + u.2 = 42 * v.1 + v.2 from e)
    exact Prod.ext x y
theorem q_Rring_L {n : Nat} {I : Sto} {nx ny : Nat} {F : Ce → Int} {ns : Nat} {fI pl pb pe pf pr so : Nat → Int32} (hg : q_gi n I nx ny) (hF : q_labs n I nx ny F ns) (hfI : q_fI n I fI) (hc : q_rp I F (q_NP n I) (q_PP n I) pl pb pe pf pr)
    (ho : q_ou n I (q_NP n I) (q_PP n I) (fun i j d => so (4 * (42 * i + j) + d))) {G : Nat → Prop} (hG : ∀ h, h < 2 * q_NP n I → (G h ↔ G (q_nxt n I h))) {h : Nat} (hh : h < 2 * q_NP n I) (hnG : ¬ G h) :
    ∀ fuel k s sn, 2 * q_NP n I - k < fuel → q_fr (q_nxt n I) G h k → (0 < k → q_it (q_nxt n I) k h ≠ h) → (∃ j, (j < k ∨ j = 0) ∧ s = q_it (q_nxt n I) j h) → (∀ j, j < k → q_K n I s ≤ q_K n I (q_it (q_nxt n I) j h)) → (∀ g, g < 2 * q_NP n I → sn g = N (q_one (q_Gk (q_nxt n I) G h k g))) →
    ∃ z s' sn' j, m_Mo_findRings_L63 (N h) fI pl pb pe so fuel (N s) (N k) (N (q_it (q_nxt n I) k h)) sn = some (N s', N z, sn') ∧ q_cyc (q_nxt n I) h z ∧ q_fr (q_nxt n I) G h z ∧ s' = q_it (q_nxt n I) j h ∧ (∀ j, j < z → q_K n I s' ≤ q_K n I (q_it (q_nxt n I) j h)) ∧ (∀ g, g < 2 * q_NP n I → sn' g = N (q_one (q_Gk (q_nxt n I) G h z g))) := by
  have h220 := q_NP_220 hg
  have hfn := q_fnx hg
  intro fuel
  induction fuel with
  | zero => intro k s sn h; omega
  | succ m ih =>
    intro k s sn hm hfr hne ⟨j, hj, hs⟩ hmin hsn
    have hcur := q_it_lt hfn hh k
    have hsl : s < 2 * q_NP n I := by rw [hs]; exact q_it_lt hfn hh j
    have hgone : ¬ q_Gk (q_nxt n I) G h k (q_it (q_nxt n I) k h) := by
      intro q
      cases k with
      | zero =>
        rcases q with q | ⟨j, hj, _⟩
        · exact hnG q
        · omega
      | succ k => exact hne (by omega) (q_stop hfn hG hh (by omega) hfr q).2.1
    have hcnt := q_Gk_cnt hfn hh k hfr
    have hlt : q_cnt (q_Gk (q_nxt n I) G h k) (2 * q_NP n I) < 2 * q_NP n I := Classical.byContradiction (fun q => hgone (q_cnt_full (by omega) _ hcur))
    have hfr' := q_fr_s hfr hgone
    have hsn' : ∀ g, g < 2 * q_NP n I → upd sn (q_it (q_nxt n I) k h) 1 g = N (q_one (q_Gk (q_nxt n I) G h (k + 1) g)) := by
      intro g hg'
      by_cases eh : g = q_it (q_nxt n I) k h
      · rw [eh, upd_s, q_one_t (show q_Gk (q_nxt n I) G h (k + 1) (q_it (q_nxt n I) k h) from Or.inr ⟨k, by omega, rfl⟩)]; rfl
      · rw [upd_n _ _ eh, hsn g hg']
        congr 1
        refine q_one_c ⟨fun q => ?_, fun q => ?_⟩
        · rcases q with q | ⟨j, hj, e⟩
          · exact Or.inl q
          · exact Or.inr ⟨j, by omega, e⟩
        · rcases q with q | ⟨j, hj, e⟩
          · exact Or.inl q
          · by_cases ej : j = k
            · subst ej; exact (eh e.symm).elim
            · exact Or.inr ⟨j, by omega, e⟩
    obtain ⟨b1, d1, _⟩ := q_Rside hg hF hfI hc hcur
    obtain ⟨b2, d2, _⟩ := q_Rside hg hF hfI hc hsl
    obtain ⟨o1, o2⟩ := q_nv_pv hg (q_qb_pt hg hcur) (q_qb_pt hg hsl)
    have hx := hg.2.1
    have hy := hg.2.2.1
    have i1 := q_pt_in hg (q_qb_pt hg hcur)
    have i2 := q_pt_in hg (q_qb_pt hg hsl)
    have n1 : q_nv (q_qb I (q_PP n I) (q_it (q_nxt n I) k h)) < 1764 := by show 42 * _ + _ < 1764; omega
    have n2 : q_nv (q_qb I (q_PP n I) s) < 1764 := by show 42 * _ + _ < 1764; omega
    have q1 := q_qd_lt I (q_PP n I) (q_it (q_nxt n I) k h)
    have q2 := q_qd_lt I (q_PP n I) s
    have eb : (if N (q_nv (q_qb I (q_PP n I) (q_it (q_nxt n I) k h))) < N (q_nv (q_qb I (q_PP n I) s)) then some (1 : Int32) else if N (q_nv (q_qb I (q_PP n I) (q_it (q_nxt n I) k h))) = N (q_nv (q_qb I (q_PP n I) s)) then (if N (q_qd I (q_PP n I) s) ≤ N (q_qd I (q_PP n I) (q_it (q_nxt n I) k h)) then some (0 : Int32) else some 1) else some 0) = some (N (q_one (q_K n I (q_it (q_nxt n I) k h) < q_K n I s))) := by
      by_cases c1 : q_nv (q_qb I (q_PP n I) (q_it (q_nxt n I) k h)) < q_nv (q_qb I (q_PP n I) s)
      · rw [if_pos ((N_lt (by omega) (by omega)).mpr c1), q_one_t (by have := o1.mp c1; unfold q_K; omega)]; rfl
      · rw [if_neg (fun q => c1 ((N_lt (by omega) (by omega)).mp q))]
        by_cases c2 : q_nv (q_qb I (q_PP n I) (q_it (q_nxt n I) k h)) = q_nv (q_qb I (q_PP n I) s)
        · have e := o2.mp c2
          rw [if_pos (by rw [c2])]
          by_cases c3 : q_qd I (q_PP n I) s ≤ q_qd I (q_PP n I) (q_it (q_nxt n I) k h)
          · rw [if_pos ((N_le (by omega) (by omega)).mpr c3), q_one_f (by unfold q_K; rw [e]; omega)]; rfl
          · rw [if_neg (fun q => c3 ((N_le (by omega) (by omega)).mp q)), q_one_t (by unfold q_K; rw [e]; omega)]; rfl
        · rw [if_neg (fun q => c2 ((N_eq (by omega) (by omega)).mp q)), q_one_f]; rfl
          intro q
          have c1' : ¬ q_pv n I (q_qb I (q_PP n I) (q_it (q_nxt n I) k h)) < q_pv n I (q_qb I (q_PP n I) s) := fun q => c1 (o1.mpr q)
          have c2' : ¬ q_pv n I (q_qb I (q_PP n I) (q_it (q_nxt n I) k h)) = q_pv n I (q_qb I (q_PP n I) s) := fun q => c2 (o2.mpr (q_pv_inj hg (q_qb_pt hg hcur) (q_qb_pt hg hsl) q))
          unfold q_K at q; omega
    have est : ∃ s', (if N (q_one (q_K n I (q_it (q_nxt n I) k h) < q_K n I s)) = 0 then some (N s) else some (N (q_it (q_nxt n I) k h))) = some (N s') ∧ (∃ j, (j < k + 1 ∨ j = 0) ∧ s' = q_it (q_nxt n I) j h) ∧ ∀ j, j < k + 1 → q_K n I s' ≤ q_K n I (q_it (q_nxt n I) j h) := by
      by_cases c : q_K n I (q_it (q_nxt n I) k h) < q_K n I s
      · refine ⟨q_it (q_nxt n I) k h, by rw [if_neg (fun q => (q_one0 _).mp q c)], ⟨k, by omega, rfl⟩, fun j hj => ?_⟩
        by_cases ej : j = k
        · rw [ej]; exact Nat.le_refl _
        · have := hmin j (by omega); omega
      · refine ⟨s, by rw [if_pos ((q_one0 _).mpr c)], ⟨j, by omega, hs⟩, fun j hj => ?_⟩
        by_cases ej : j = k
        · rw [ej]; omega
        · exact hmin j (by omega)
    obtain ⟨s', es, ⟨j', hj', hs'⟩, hmin'⟩ := est
    rw [m_Mo_findRings_L63, gI_N (by omega) (by omega), lt_e, N_nat (by omega), q_nar1, lt_e, b1, bd1_i rfl, b2, bd1_i rfl, bd1_i rfl, bd1_i rfl, d1, bd1_i rfl, d2, bd1_i rfl, eb, bd1_i rfl, es, bd1_i rfl, q_Rnext hg hF hfI hc ho hcur, bd1_i rfl, N_lit 1, N_add]
    have hnx := q_it_lt hfn hh (k + 1)
    by_cases e : q_it (q_nxt n I) (k + 1) h = h
    · refine ⟨k + 1, s', upd sn (q_it (q_nxt n I) k h) 1, j', ?_, q_stop hfn hG hh (by omega) hfr' (Or.inr ⟨0, by omega, e.symm⟩), hfr', hs', hmin', hsn'⟩
      have e' : q_nxt n I (q_it (q_nxt n I) k h) = h := e
      rw [e', if_pos rfl]
      rfl
    · obtain ⟨z, s2, sn2, j2, y1, y2, y3, y4, y5, y6⟩ := ih (k + 1) s' (upd sn (q_it (q_nxt n I) k h) 1) (by omega) hfr' (fun _ => e) ⟨j', hj', hs'⟩ hmin' hsn'
      refine ⟨z, s2, sn2, j2, ?_, y2, y3, y4, y5, y6⟩
      have e' : ¬ N (q_nxt n I (q_it (q_nxt n I) k h)) = N h := fun q => e ((N_eq (by omega) (by omega)).mp q)
      rw [if_neg e']
      exact y1
