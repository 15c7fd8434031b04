/-! No two rings of one space have one least point. -/
theorem q_notie {n : Nat} {I : Sto} {nx ny : Nat} {F : Ce → Int} {ns : Nat} (hg : q_gi n I nx ny) (hF : q_labs n I nx ny F ns) {h g : Nat} (h1 : q_ldr (q_nxt n I) (q_K n I) (2 * q_NP n I) h) (h2 : q_ldr (q_nxt n I) (q_K n I) (2 * q_NP n I) g)
    (e : q_qb I (q_PP n I) h = q_qb I (q_PP n I) g) (el : q_lf I (q_PP n I) F h = q_lf I (q_PP n I) F g) : h = g := by
  have hfn := q_fnx hg
  -- a leader goes right or up
  have dir : ∀ x, q_ldr (q_nxt n I) (q_K n I) (2 * q_NP n I) x → q_qd I (q_PP n I) x < 2 := by
    intro x hx
    refine Classical.byContradiction (fun c => ?_)
    have hd := q_qd_lt I (q_PP n I) x
    have hk := hx.2 1
    have hn1 : q_it (q_nxt n I) 1 x = q_nxt n I x := rfl
    rw [hn1] at hk
    obtain ⟨a1, a2, a3⟩ := q_nxt_s hg hx.1
    have hp1 := q_qb_pt hg hx.1
    have hp2 := q_qb_pt hg (q_rv_lt hx.1)
    have hpv : q_pv n I (q_qb I (q_PP n I) (q_rv x)) < q_pv n I (q_qb I (q_PP n I) x) := by
      refine (q_nv_pv hg hp2 hp1).1.mp ?_
      obtain ⟨b1, b2, b3, b4, _⟩ := q_pcA hg (p := x / 2) (by have := hx.1; omega)
      obtain ⟨r1, r2⟩ := q_rv_d x
      have odd : ¬ x % 2 = 0 := by
        intro q
        unfold q_qd at c
        rw [if_pos q] at c
        have := q_d0_lt I (q_PP n I (x / 2)).1
        omega
      unfold q_qb
      rw [r1, if_pos (r2.mpr odd), if_neg odd]
      unfold q_nd
      by_cases f : yl I (q_PP n I (x / 2)).1 = yh I (q_PP n I (x / 2)).1
      · rw [if_pos f, if_pos f]; show 42 * _ + _ < 42 * _ + _; omega
      · rw [if_neg f, if_neg f]; show 42 * _ + _ < 42 * _ + _; omega
    have hd2 := q_qd_lt I (q_PP n I) (q_nxt n I x)
    unfold q_K at hk
    rw [a2] at hk
    omega
  -- the one that goes up and the one that goes right
  have key : ∀ x y, q_ldr (q_nxt n I) (q_K n I) (2 * q_NP n I) x → q_ldr (q_nxt n I) (q_K n I) (2 * q_NP n I) y → q_qb I (q_PP n I) x = q_qb I (q_PP n I) y → q_lf I (q_PP n I) F x = q_lf I (q_PP n I) F y → q_qd I (q_PP n I) x = 0 → q_qd I (q_PP n I) y = 1 → False := by
    intro x y hx hy exy elf dx dy
    have hyr := q_rv_lt hy.1
    obtain ⟨c1, c2⟩ := q_lf_c4 hg hF hy.1
    obtain ⟨c3, _⟩ := q_lf_c4 hg hF hx.1
    rw [dx, exy] at c3
    rw [dy] at c2
    have e4 : q_c4 (q_qb I (q_PP n I) y).1 (q_qb I (q_PP n I) y).2 (1 + 3) = q_c4 (q_qb I (q_PP n I) y).1 (q_qb I (q_PP n I) y).2 0 := by rw [← q_c4_mod]
    rw [e4, c3, elf] at c2
    have even : y % 2 = 0 := by
      refine Classical.byContradiction (fun q => ?_)
      unfold q_qd at dy
      rw [if_neg q] at dy
      omega
    have f : ¬ yl I (q_PP n I (y / 2)).1 = yh I (q_PP n I (y / 2)).1 := by
      intro q
      unfold q_qd q_d0 at dy
      rw [if_pos q, if_pos even] at dy
      omega
    have ey : y = 2 * (y / 2) := by omega
    have erv : q_rv y = 2 * (y / 2) + 1 := by unfold q_rv; rw [if_pos even]; omega
    -- the set: what is on the ring of y
    have nx1 : q_nxt n I (q_rv y) = x := by
      unfold q_nxt
      rw [q_rv_rv, dy, ← exy]
      have : q_cw (q_bb n I (q_qb I (q_PP n I) x).1 (q_qb I (q_PP n I) x).2) 1 = 0 := by
        unfold q_cw
        have w := q_out_wd hg hx.1
        rw [dx] at w
        rw [show (1 + 3) % 4 = 0 from rfl, if_pos (q_bb_t.mpr w)]
      rw [this, ← dx]
      exact q_o_eq hg hx.1
    have hS : ∀ h, h < 2 * q_NP n I → ((∀ G : Nat → Prop, (∀ h, h < 2 * q_NP n I → (G h ↔ G (q_nxt n I h))) → G y → G h) ↔ (∀ G : Nat → Prop, (∀ h, h < 2 * q_NP n I → (G h ↔ G (q_nxt n I h))) → G y → G (q_nxt n I h))) := by
      intro h hh
      exact ⟨fun q G hG hy' => (hG h hh).mp (q G hG hy'), fun q G hG hy' => (hG h hh).mpr (q G hG hy')⟩
    have br := q_bridge hg hF hS (p := y / 2) (by have := hy.1; omega) f (by rw [← erv, ← ey]; exact c2)
    have hrv := br.mp (by rw [← ey]; exact fun G _ q => q)
    rw [← erv] at hrv
    have hxS := (hS (q_rv y) hyr).mp hrv
    rw [nx1] at hxS
    -- a closed set that holds y holds x: that of the keys from K y on
    have hxK := hxS (fun h => ∀ k, q_K n I y ≤ q_K n I (q_it (q_nxt n I) k h)) (by
      intro h hh
      constructor
      · intro q k; rw [← q_it_s]; exact q (k + 1)
      · intro q k
        -- go round: h is some way on from its next
        obtain ⟨z, hz⟩ : ∃ z, q_cyc (q_nxt n I) h z := by
          refine Classical.byContradiction (fun nz => ?_)
          have fr : ∀ k, q_fr (q_nxt n I) (fun _ => False) h k := by
            intro k
            induction k with
            | zero => intro i hi; omega
            | succ k ih =>
              refine q_fr_s ih (fun s => ?_)
              cases k with
              | zero =>
                rcases s with s | ⟨j, hj, _⟩
                · exact s
                · omega
              | succ k => exact nz ⟨k + 1, q_stop hfn (fun _ _ => Iff.rfl) hh (by omega) ih s⟩
          have c := q_Gk_cnt hfn hh (2 * q_NP n I + 1) (fr _)
          have := q_cnt_le (q_Gk (q_nxt n I) (fun _ => False) h (2 * q_NP n I + 1)) (2 * q_NP n I)
          omega
        cases k with
        | zero =>
          have := q (z - 1)
          rw [← q_it_s, show z - 1 + 1 = z by have := hz.1; omega, hz.2.1] at this
          exact this
        | succ k => rw [q_it_s]; exact q k) (fun k => hy.2 k)
    have := hxK 0
    have e0 : q_it (q_nxt n I) 0 x = x := rfl
    rw [e0] at this
    unfold q_K at this
    rw [exy, dx, dy] at this
    omega
  have d1 := dir h h1
  have d2 := dir g h2
  by_cases c : q_qd I (q_PP n I) h = q_qd I (q_PP n I) g
  · exact q_out_inj hg h1.1 h2.1 e c
  · by_cases c0 : q_qd I (q_PP n I) h = 0
    · exact (key h g h1 h2 e el c0 (by omega)).elim
    · exact (key g h h2 h1 e.symm el.symm (by omega) (by omega)).elim
/-! The reference's rows of rings. -/
def q_rri (n : Nat) (I : Sto) (F : Ce → Int) (nr : Nat) (ld : Nat → Nat) (rs rt rz rl : Nat → Int32) : Prop := ∀ x, x < nr → rs x = J (q_lf I (q_PP n I) F (ld x)) ∧ rt x = N (ld x) ∧ (∃ z, rz x = N z ∧ q_cyc (q_nxt n I) (ld x) z) ∧ rl x = N (q_nv (q_qb I (q_PP n I) (ld x))) ∧ ld x < 2 * q_NP n I
def q_gt (n : Nat) (I : Sto) (F : Ce → Int) (a h : Nat) : Prop := q_lf I (q_PP n I) F h < q_lf I (q_PP n I) F a ∨ (q_lf I (q_PP n I) F a = q_lf I (q_PP n I) F h ∧ q_nv (q_qb I (q_PP n I) h) < q_nv (q_qb I (q_PP n I) a))
def q_sh {α : Type} (k m : Nat) (f : Nat → α) : Nat → α := fun y => if k < y ∧ y ≤ m then f (y - 1) else f y
theorem q_lf_bd {n : Nat} {I : Sto} {nx ny : Nat} {F : Ce → Int} {ns : Nat} (hg : q_gi n I nx ny) (hF : q_labs n I nx ny F ns) {h : Nat} (hh : h < 2 * q_NP n I) : -1 ≤ q_lf I (q_PP n I) F h ∧ q_lf I (q_PP n I) F h < ns := by
  obtain ⟨a1, a2, a3, a4, _⟩ := q_pcA hg (p := h / 2) (by omega)
  obtain ⟨c1, c2⟩ := q_cells hg a1 a4
  have key : ∀ v, q_in nx ny v → -1 ≤ F v ∧ F v < ns := by
    intro v hv
    rcases hF.1 v hv with ⟨_, e⟩ | ⟨_, p, b1, _, e⟩
    · rw [e]; omega
    · have h1 : q_fc n I nx ny (q_en p + 1) = q_fc n I nx ny (q_en p) + 1 := by
        show q_cnt _ (q_en p) + q_one _ = _
        rw [q_one_t (by show q_fst n I nx ny (q_de (q_en p)); rw [q_de_en b1.1.2 hg.2.2.1]; exact b1)]; rfl
      have h2 : q_fc n I nx ny (q_en p + 1) ≤ q_fc n I nx ny 1681 := q_cnt_monot (by have := b1.1.1; have := b1.1.2; have := hg.2.1; have := hg.2.2.1; unfold q_en; omega)
      have h3 := hF.2
      omega
  unfold q_lf
  by_cases c : h % 2 = 0
  · rw [if_pos c]; exact key _ c1
  · rw [if_neg c]; exact key _ c2
theorem q_ns_81 {n : Nat} {I : Sto} {nx ny : Nat} {F : Ce → Int} {ns : Nat} (hg : q_gi n I nx ny) (hF : q_labs n I nx ny F ns) : ns ≤ 81 := by rw [hF.2]; exact q_fc_81 hg (Nat.le_refl _)
theorem q_sh_s {α : Type} {k m : Nat} (f : Nat → α) (h : k < m) : q_sh k (m - 1) (fun y => if y = m then f (m - 1) else f y) = q_sh k m f := by
  funext y
  unfold q_sh
  dsimp only
  by_cases e : y = m
  · subst e; rw [if_neg (by omega), if_pos rfl, if_pos (by omega)]
  · by_cases c : k < y ∧ y ≤ m
    · rw [if_pos (by omega), if_neg (by omega), if_pos c]
    · rw [if_neg (by omega), if_neg e, if_neg c]
theorem q_addR_L {n : Nat} {I : Sto} {nx ny : Nat} {F : Ce → Int} {ns : Nat} (hg : q_gi n I nx ny) (hF : q_labs n I nx ny F ns) {nr : Nat} {ld : Nat → Nat} {h : Nat} (hh : h < 2 * q_NP n I) (hnr : nr ≤ 220) :
    ∀ fuel m rs rt rz rl, m < fuel → m ≤ nr → q_rri n I F m ld rs rt rz rl →
    ∃ k, m_Mo_addRing_L6 (J (q_lf I (q_PP n I) F h)) (N (q_nv (q_qb I (q_PP n I) h))) fuel (N m) rs rt rz rl = some (N k, q_sh k m rs, q_sh k m rt, q_sh k m rz, q_sh k m rl) ∧ k ≤ m ∧ (∀ y, k ≤ y → y < m → q_gt n I F (ld y) h) ∧ (0 < k → ¬ q_gt n I F (ld (k - 1)) h) := by
  have h81 := q_ns_81 hg hF
  have hx := hg.2.1
  have hy := hg.2.2.1
  have bh := q_lf_bd hg hF hh
  have nvb : ∀ g, g < 2 * q_NP n I → q_nv (q_qb I (q_PP n I) g) < 1764 := fun g hg' => by have := q_pt_in hg (q_qb_pt hg hg'); show 42 * _ + _ < 1764; omega
  have nh := nvb h hh
  intro fuel
  induction fuel with
  | zero => intro m rs rt rz rl h; omega
  | succ q ih =>
    intro m rs rt rz rl hm hmr hr
    rw [m_Mo_addRing_L6]
    have sh0 : ∀ (f : Nat → Int32) k, q_sh k k f = f := fun f k => by funext y; unfold q_sh; rw [if_neg (by omega)]
    by_cases c0 : m = 0
    · subst c0
      rw [if_pos (by decide)]
      exact ⟨0, by rw [sh0, sh0, sh0, sh0], Nat.le_refl _, fun y _ h => by omega, fun h => by omega⟩
    · obtain ⟨r1, r2, ⟨z, r3, r3'⟩, r4, r5⟩ := hr (m - 1) (by omega)
      have bm := q_lf_bd hg hF r5
      have nm := nvb _ r5
      have em : N m - 1 = N (m - 1) := by rw [N_lit 1, N_sub (by omega)]
      have em' : N m + (-1) = N (m - 1) := by rw [show (-1 : Int32) = J (-1) from rfl, N_pred (by omega)]
      have updsh : ∀ (f : Nat → Int32) v, upd f m v = (fun y => if y = m then v else f y) := fun f v => rfl
      have go : q_gt n I F (ld (m - 1)) h → ∃ k, m_Mo_addRing_L6 (J (q_lf I (q_PP n I) F h)) (N (q_nv (q_qb I (q_PP n I) h))) q (N (m - 1)) (upd rs m (rs (m - 1))) (upd rt m (rt (m - 1))) (upd rz m (rz (m - 1))) (upd rl m (rl (m - 1))) = some (N k, q_sh k m rs, q_sh k m rt, q_sh k m rz, q_sh k m rl) ∧ k ≤ m ∧ (∀ y, k ≤ y → y < m → q_gt n I F (ld y) h) ∧ (0 < k → ¬ q_gt n I F (ld (k - 1)) h) := by
        intro hgt
        obtain ⟨k, e, k1, k2, k3⟩ := ih (m - 1) (upd rs m (rs (m - 1))) (upd rt m (rt (m - 1))) (upd rz m (rz (m - 1))) (upd rl m (rl (m - 1))) (by omega) (by omega) (fun x hx => by
          repeat rw [upd_n _ _ (by omega)]
          exact hr x (by omega))
        refine ⟨k, ?_, by omega, fun y h1 h2 => ?_, k3⟩
        · rw [e, updsh, updsh, updsh, updsh, q_sh_s rs (by omega), q_sh_s rt (by omega), q_sh_s rz (by omega), q_sh_s rl (by omega)]
        · by_cases ey : y = m - 1
          · rw [ey]; exact hgt
          · exact k2 y h1 (by omega)
      rw [if_neg (by rw [N_lit 0]; exact fun q => by have := (N_le (by omega) (by omega)).mp q; omega), em, gI_N (by omega) (by omega), N_nat (by omega), N_nat (by omega), r1]
      by_cases c1 : q_lf I (q_PP n I) F h < q_lf I (q_PP n I) F (ld (m - 1))
      · obtain ⟨k, e, rest⟩ := go (Or.inl c1)
        refine ⟨k, ?_, rest⟩
        rw [if_pos ((J_lt (by omega) (by omega) (by omega) (by omega)).mpr c1)]
        repeat rw [gI_N (by omega) (by omega)]
        rw [lt_e, gI_N (by omega) (by omega), gI_N (by omega) (by omega), lt_e, gI_N (by omega) (by omega), gI_N (by omega) (by omega), lt_e, gI_N (by omega) (by omega), gI_N (by omega) (by omega), lt_e, lt_e, em', ← r1]
        exact e
      · rw [if_neg (fun q => c1 ((J_lt (by omega) (by omega) (by omega) (by omega)).mp q)), gI_N (by omega) (by omega)]
        by_cases c2 : q_lf I (q_PP n I) F (ld (m - 1)) = q_lf I (q_PP n I) F h
        · rw [if_pos (by rw [c2]), gI_N (by omega) (by omega), r4]
          by_cases c3 : q_nv (q_qb I (q_PP n I) (ld (m - 1))) ≤ q_nv (q_qb I (q_PP n I) h)
          · rw [if_pos ((N_le (by omega) (by omega)).mpr c3)]
            exact ⟨m, by rw [sh0, sh0, sh0, sh0], Nat.le_refl _, fun y a b => by omega, fun _ q => by rcases q with q | q; (exact c1 q); (omega)⟩
          · obtain ⟨k, e, rest⟩ := go (Or.inr ⟨c2, by omega⟩)
            refine ⟨k, ?_, rest⟩
            rw [if_neg (fun q => c3 ((N_le (by omega) (by omega)).mp q))]
            rw [gI_N (by omega) (by omega), gI_N (by omega) (by omega), lt_e, gI_N (by omega) (by omega), gI_N (by omega) (by omega), lt_e, gI_N (by omega) (by omega), gI_N (by omega) (by omega), lt_e, gI_N (by omega) (by omega), gI_N (by omega) (by omega), lt_e, lt_e, em', ← r1, ← r4]
            exact e
        · rw [if_neg (fun q => c2 ((J_eq (by omega) (by omega) (by omega) (by omega)).mp q))]
          exact ⟨m, by rw [sh0, sh0, sh0, sh0], Nat.le_refl _, fun y a b => by omega, fun _ q => by rcases q with q | q; (exact c1 q); (exact c2 q.1)⟩
def q_insA (ld : Nat → Nat) (k h : Nat) : Nat → Nat := fun y => if y < k then ld y else if y = k then h else ld (y - 1)
theorem q_addRing {n : Nat} {I : Sto} {nx ny : Nat} {F : Ce → Int} {ns : Nat} (hg : q_gi n I nx ny) (hF : q_labs n I nx ny F ns) {nr : Nat} {ld : Nat → Nat} {h z : Nat} (hh : h < 2 * q_NP n I) (hnr : nr ≤ 220) {rs rt rz rl : Nat → Int32} (hr : q_rri n I F nr ld rs rt rz rl) (hz : q_cyc (q_nxt n I) h z) :
    ∃ k rs' rt' rz' rl', m_Mo_addRing (J (q_lf I (q_PP n I) F h)) (N h) (N z) (N (q_nv (q_qb I (q_PP n I) h))) (N nr) rs rt rz rl = some (N (nr + 1), rs', rt', rz', rl') ∧ q_rri n I F (nr + 1) (q_insA ld k h) rs' rt' rz' rl' ∧ k ≤ nr ∧ (∀ y, k ≤ y → y < nr → q_gt n I F (ld y) h) ∧ (0 < k → ¬ q_gt n I F (ld (k - 1)) h) := by
  have h220 := q_NP_220 hg
  obtain ⟨k, e, k1, k2, k3⟩ := q_addR_L hg hF hh hnr fu nr rs rt rz rl (by unfold fu; omega) (Nat.le_refl _) hr
  refine ⟨k, upd (q_sh k nr rs) k (J (q_lf I (q_PP n I) F h)), upd (q_sh k nr rt) k (N h), upd (q_sh k nr rz) k (N z), upd (q_sh k nr rl) k (N (q_nv (q_qb I (q_PP n I) h))), ?_, ?_, k1, k2, k3⟩
  · unfold m_Mo_addRing
    rw [bd5_i e, gI_N (by omega) (by omega), lt_e, gI_N (by omega) (by omega), lt_e, gI_N (by omega) (by omega), lt_e, gI_N (by omega) (by omega), lt_e, lt_e, N_nat (by omega), N_lit 1, N_add]
  · intro x hx
    unfold q_insA
    by_cases a : x < k
    · rw [if_pos a]
      have : ∀ f : Nat → Int32, q_sh k nr f x = f x := fun f => by unfold q_sh; rw [if_neg (by omega)]
      rw [upd_n _ _ (by omega), upd_n _ _ (by omega), upd_n _ _ (by omega), upd_n _ _ (by omega), this, this, this, this]
      exact hr x (by omega)
    · rw [if_neg a]
      by_cases b : x = k
      · rw [if_pos b, b, upd_s, upd_s, upd_s, upd_s]
        exact ⟨rfl, rfl, ⟨z, rfl, hz⟩, rfl, hh⟩
      · rw [if_neg b]
        have : ∀ f : Nat → Int32, q_sh k nr f x = f (x - 1) := fun f => by unfold q_sh; rw [if_pos (by omega)]
        rw [upd_n _ _ b, upd_n _ _ b, upd_n _ _ b, upd_n _ _ b, this, this, this, this]
        exact hr (x - 1) (by omega)
/-! Sorted by space, then by least point. -/
def q_srt (n : Nat) (I : Sto) (F : Ce → Int) (nr : Nat) (ld : Nat → Nat) : Prop := ∀ x y, x < y → y < nr → ¬ q_gt n I F (ld x) (ld y)
theorem q_gt_tr {n : Nat} {I : Sto} {F : Ce → Int} {a b c : Nat} (h1 : ¬ q_gt n I F a b) (h2 : ¬ q_gt n I F b c) : ¬ q_gt n I F a c := by
  unfold q_gt at *
  omega
theorem q_gt_as {n : Nat} {I : Sto} {F : Ce → Int} {a b : Nat} (h : q_gt n I F a b) : ¬ q_gt n I F b a := by
  unfold q_gt at *
  omega
theorem q_srt_ins {n : Nat} {I : Sto} {F : Ce → Int} {nr : Nat} {ld : Nat → Nat} {k h : Nat} (hs : q_srt n I F nr ld) (hk : k ≤ nr) (h1 : ∀ y, k ≤ y → y < nr → q_gt n I F (ld y) h) (h2 : 0 < k → ¬ q_gt n I F (ld (k - 1)) h) : q_srt n I F (nr + 1) (q_insA ld k h) := by
  have low : ∀ x, x < k → ¬ q_gt n I F (ld x) h := by
    intro x hx
    by_cases e : x = k - 1
    · rw [e]; exact h2 (by omega)
    · exact q_gt_tr (hs x (k - 1) (by omega) (by omega)) (h2 (by omega))
  intro x y hxy hy
  unfold q_insA
  by_cases a : y < k
  · rw [if_pos a, if_pos (by omega)]; exact hs x y hxy (by omega)
  · rw [if_neg a]
    by_cases b : y = k
    · rw [if_pos b, if_pos (by omega)]; exact low x (by omega)
    · rw [if_neg b]
      by_cases c : x < k
      · rw [if_pos c]
        exact q_gt_tr (low x c) (q_gt_as (h1 (y - 1) (by omega) (by omega)))
      · rw [if_neg c]
        by_cases d : x = k
        · rw [if_pos d]; exact q_gt_as (h1 (y - 1) (by omega) (by omega))
        · rw [if_neg d]; exact hs _ _ (by omega) (by omega)
def q_rst (n : Nat) (I : Sto) (F : Ce → Int) (t : Nat) (G : Nat → Prop) (nr : Nat) (ld : Nat → Nat) (os : Nat) : Prop :=
  (∀ g, g < 2 * q_NP n I → g < t → G g) ∧ (∀ h, h < 2 * q_NP n I → (G h ↔ G (q_nxt n I h))) ∧ (∀ x, x < nr → q_ldr (q_nxt n I) (q_K n I) (2 * q_NP n I) (ld x) ∧ G (ld x)) ∧ (∀ x y, x < nr → y < nr → ld x = ld y → x = y) ∧
  (∀ g, g < 2 * q_NP n I → G g → ∃ x k, x < nr ∧ q_it (q_nxt n I) k (ld x) = g) ∧ 2 * nr ≤ q_cnt G (2 * q_NP n I) ∧ os = q_cnt (fun g => G g ∧ q_lf I (q_PP n I) F g = -1) (2 * q_NP n I) ∧ q_srt n I F nr ld
theorem q_lf_it {n : Nat} {I : Sto} {nx ny : Nat} {F : Ce → Int} {ns : Nat} (hg : q_gi n I nx ny) (hF : q_labs n I nx ny F ns) {h : Nat} (hh : h < 2 * q_NP n I) : ∀ k, q_lf I (q_PP n I) F (q_it (q_nxt n I) k h) = q_lf I (q_PP n I) F h := by
  intro k
  induction k with
  | zero => rfl
  | succ k ih => show q_lf I (q_PP n I) F (q_nxt n I (q_it (q_nxt n I) k h)) = _; rw [q_nxt_lf hg hF (q_it_lt (q_fnx hg) hh k), ih]
theorem q_Rrings_L {n : Nat} {I : Sto} {nx ny : Nat} {F : Ce → Int} {ns : Nat} {fI pl pb pe pf pr so : Nat → Int32} (hg : q_gi n I nx ny) (hF : q_labs n I nx ny F ns) (hfI : q_fI n I fI) (hc : q_rp I F (q_NP n I) (q_PP n I) pl pb pe pf pr)
    (ho : q_ou n I (q_NP n I) (q_PP n I) (fun i j d => so (4 * (42 * i + j) + d))) :
    ∀ fuel h G nr ld os sn rs rt rz rl, 2 * q_NP n I - h < fuel → h ≤ 2 * q_NP n I → q_rst n I F h G nr ld os → q_rri n I F nr ld rs rt rz rl → (∀ g, g < 2 * q_NP n I → sn g = N (q_one (G g))) →
    ∃ G' nr' ld' os' sn' rs' rt' rz' rl', m_Mo_findRings_L37 (N (q_NP n I)) fI pl pb pe pf pr so fuel (N h) (N nr) (N os) sn rs rt rz rl = some (N nr', N os', sn', rs', rt', rz', rl') ∧ q_rst n I F (2 * q_NP n I) G' nr' ld' os' ∧ q_rri n I F nr' ld' rs' rt' rz' rl' := by
  have h220 := q_NP_220 hg
  have hfn := q_fnx hg
  intro fuel
  induction fuel with
  | zero => intro h G nr ld os sn rs rt rz rl h; omega
  | succ m ih =>
    intro h G nr ld os sn rs rt rz rl hm hh hs hr hsn
    rw [m_Mo_findRings_L37]
    by_cases c : 2 * q_NP n I ≤ h
    · rw [if_pos (by rw [N_lit 2, N_mul]; exact (N_le (by omega) (by omega)).mpr c)]
      have e : h = 2 * q_NP n I := by omega
      subst e
      exact ⟨G, nr, ld, os, sn, rs, rt, rz, rl, rfl, hs, hr⟩
    · have hlt : h < 2 * q_NP n I := by omega
      have hs' := hs
      obtain ⟨s1, s2, s3, s4, s5, s6, s7, s8⟩ := hs
      rw [if_neg (by rw [N_lit 2, N_mul]; exact fun q => c ((N_le (by omega) (by omega)).mp q)), gI_N (by omega) (by omega), N_nat (by omega), hsn h hlt]
      by_cases g : G h
      · obtain ⟨G', nr', ld', os', sn', rs', rt', rz', rl', e, r1, r2⟩ := ih (h + 1) G nr ld os sn rs rt rz rl (by omega) (by omega) ⟨fun x hx hx' => by
          by_cases e : x = h
          · rw [e]; exact g
          · exact s1 x hx (by omega), s2, s3, s4, s5, s6, s7, s8⟩ hr hsn
        refine ⟨G', nr', ld', os', sn', rs', rt', rz', rl', ?_, r1, r2⟩
        rw [if_neg (fun q => (q_one0 _).mp q g), bd7_i rfl, lt_e, N_lit 1, N_add]
        exact e
      · obtain ⟨z, s, sn1, j, e1, y1, y2, y3, y4, y5⟩ := q_Rring_L hg hF hfI hc ho s2 hlt g fu 0 h sn (by unfold fu; omega) (fun i hi => by omega) (fun q => by omega) ⟨0, Or.inr rfl, rfl⟩ (fun j hj => by omega) (fun x hx => by rw [hsn x hx]; congr 1; exact q_one_c ⟨Or.inl, fun q => q.elim id (fun ⟨j, hj, _⟩ => by omega)⟩)
        have hsl : s < 2 * q_NP n I := by rw [y3]; exact q_it_lt hfn hlt j
        have hsc : q_cyc (q_nxt n I) s z := by rw [y3]; exact q_cyc_it hfn hlt y1 j
        have hldr : q_ldr (q_nxt n I) (q_K n I) (2 * q_NP n I) s := by
          refine ⟨hsl, fun k => ?_⟩
          have : q_it (q_nxt n I) k s = q_it (q_nxt n I) (k + j) h := by rw [y3, ← q_it_add]
          obtain ⟨j', hj', ej⟩ := q_cyc_mod y1 (k + j)
          rw [this, ej]; exact y4 j' hj'
        have els : q_lf I (q_PP n I) F s = q_lf I (q_PP n I) F h := by rw [y3, q_lf_it hg hF hlt]
        have hz := q_two hg hlt y1
        have hcnt := q_Gk_cnt hfn hlt z y2
        have hcle := q_cnt_le (q_Gk (q_nxt n I) G h z) (2 * q_NP n I)
        have hsG : ¬ G s := by rw [y3]; exact fun q => g ((q_G_it hfn s2 hlt j).mp q)
        have hbh := q_lf_bd hg hF hlt
        have h81 := q_ns_81 hg hF
        obtain ⟨k, rs1, rt1, rz1, rl1, e2, x1, x2, x3, x4⟩ := q_addRing hg hF (h := s) (z := z) hsl (by omega) hr hsc
        obtain ⟨jb, hjb⟩ := q_cyc_back y1 j
        rw [← y3] at hjb
        have hos : ∃ w, (if J (q_lf I (q_PP n I) F h) = (-1) then some (N z) else some 0) = some (N w) ∧ os + w = q_cnt (fun g => q_Gk (q_nxt n I) G h z g ∧ q_lf I (q_PP n I) F g = -1) (2 * q_NP n I) := by
          by_cases cl : q_lf I (q_PP n I) F h = -1
          · refine ⟨z, by rw [if_pos (by rw [cl]; rfl)], ?_⟩
            have fr2 : q_fr (q_nxt n I) (fun g => G g ∧ q_lf I (q_PP n I) F g = -1) h z := fun i hi => ⟨fun q => (y2 i hi).1 q.1, (y2 i hi).2⟩
            have := q_Gk_cnt hfn hlt z fr2
            rw [s7, ← this]
            refine q_cnt_c (fun x hx => ⟨fun q => ?_, fun q => ?_⟩)
            · rcases q with q | ⟨i, hi, e⟩
              · exact ⟨Or.inl q.1, q.2⟩
              · exact ⟨Or.inr ⟨i, hi, e⟩, by rw [← e, q_lf_it hg hF hlt, cl]⟩
            · rcases q.1 with q1 | ⟨i, hi, e⟩
              · exact Or.inl ⟨q1, q.2⟩
              · exact Or.inr ⟨i, hi, e⟩
          · refine ⟨0, by rw [if_neg (by rw [show (-1 : Int32) = J (-1) from rfl]; exact fun q => cl ((J_eq (by omega) (by omega) (by omega) (by omega)).mp q))]; rfl, ?_⟩
            rw [s7, Nat.add_zero]
            refine q_cnt_c (fun x hx => ⟨fun q => ⟨Or.inl q.1, q.2⟩, fun q => ?_⟩)
            rcases q.1 with q1 | ⟨i, hi, e⟩
            · exact ⟨q1, q.2⟩
            · exact (cl (by rw [← q_lf_it hg hF hlt i, e]; exact q.2)).elim
        obtain ⟨w, ew, hw⟩ := hos
        obtain ⟨G', nr', ld', os', sn', rs', rt', rz', rl', e, r1, r2⟩ := ih (h + 1) (q_Gk (q_nxt n I) G h z) (nr + 1) (q_insA ld k s) (os + w) sn1 rs1 rt1 rz1 rl1 (by omega) (by omega) ⟨fun x hx hx' => by
            by_cases e : x = h
            · exact Or.inr ⟨0, by omega, e.symm⟩
            · exact Or.inl (s1 x hx (by omega)), q_Gk_closed hfn s2 hlt y1, fun x hx => by
            unfold q_insA
            by_cases a : x < k
            · rw [if_pos a]; exact ⟨(s3 x (by omega)).1, Or.inl (s3 x (by omega)).2⟩
            · rw [if_neg a]
              by_cases b : x = k
              · rw [if_pos b]
                obtain ⟨j', hj', ej⟩ := q_cyc_mod y1 j
                exact ⟨hldr, Or.inr ⟨j', hj', by rw [← ej, y3]⟩⟩
              · rw [if_neg b]; exact ⟨(s3 (x - 1) (by omega)).1, Or.inl (s3 (x - 1) (by omega)).2⟩, fun x y hx hy e => by
            unfold q_insA at e
            have nes : ∀ x, x < nr → ld x ≠ s := fun x hx q => hsG (by rw [← q]; exact (s3 x hx).2)
            by_cases a : x < k
            · rw [if_pos a] at e
              by_cases a' : y < k
              · rw [if_pos a'] at e; exact s4 x y (by omega) (by omega) e
              · rw [if_neg a'] at e
                by_cases b' : y = k
                · rw [if_pos b'] at e; exact (nes x (by omega) e).elim
                · rw [if_neg b'] at e; have := s4 x (y - 1) (by omega) (by omega) e; omega
            · rw [if_neg a] at e
              by_cases b : x = k
              · rw [if_pos b] at e
                by_cases a' : y < k
                · rw [if_pos a'] at e; exact (nes y (by omega) e.symm).elim
                · rw [if_neg a'] at e
                  by_cases b' : y = k
                  · omega
                  · rw [if_neg b'] at e; exact (nes (y - 1) (by omega) e.symm).elim
              · rw [if_neg b] at e
                by_cases a' : y < k
                · rw [if_pos a'] at e; have := s4 (x - 1) y (by omega) (by omega) e; omega
                · rw [if_neg a'] at e
                  by_cases b' : y = k
                  · rw [if_pos b'] at e; exact (nes (x - 1) (by omega) e).elim
                  · rw [if_neg b'] at e; have := s4 (x - 1) (y - 1) (by omega) (by omega) e; omega, fun x hx q => by
            rcases q with q | ⟨i, hi, e⟩
            · obtain ⟨y, i, hy, e⟩ := s5 x hx q
              by_cases a : y < k
              · exact ⟨y, i, by omega, by unfold q_insA; rw [if_pos a]; exact e⟩
              · exact ⟨y + 1, i, by omega, by unfold q_insA; rw [if_neg (by omega), if_neg (by omega), Nat.add_sub_cancel]; exact e⟩
            · exact ⟨k, i + jb, by omega, by unfold q_insA; rw [if_neg (by omega), if_pos rfl, q_it_add, hjb]; exact e⟩, by omega, hw, q_srt_ins s8 x2 x3 x4⟩ x1 y5
        refine ⟨G', nr', ld', os', sn', rs', rt', rz', rl', ?_, r1, r2⟩
        have e1' : m_Mo_findRings_L63 (N h) fI pl pb pe so fu (N h) (N 0) (N h) sn = _ := e1
        rw [if_pos ((q_one0 _).mpr g), show (0 : Int32) = N 0 from rfl, bd3_i e1', (q_Rside hg hF hfI hc hlt).2.2, bd1_i rfl, show N 0 = (0 : Int32) from rfl, ew, bd1_i rfl, lt_e, N_add, bd1_i rfl, (q_Rside hg hF hfI hc hsl).1, bd1_i rfl, ← els, bd5_i e2, bd7_i rfl, lt_e, N_lit 1, N_add]
        exact e
theorem q_Rrings0_L {M : Nat} (hM : M ≤ 220) : ∀ fuel k (f : Nat → Int32), 2 * M - k < fuel → k ≤ 2 * M → m_Mo_findRings_L12 (N M) fuel (N k) f = some (fun j => if k ≤ j ∧ j < 2 * M then N 0 else f j) := by
  intro fuel
  induction fuel with
  | zero => intro k f h; omega
  | succ m ih =>
    intro k f h hk
    rw [m_Mo_findRings_L12]
    by_cases c : 2 * M ≤ k
    · rw [if_pos (by rw [N_lit 2, N_mul]; exact (N_le (by omega) (by omega)).mpr c)]
      congr 1; funext j; rw [if_neg (by omega)]
    · rw [if_neg (by rw [N_lit 2, N_mul]; exact fun q => c ((N_le (by omega) (by omega)).mp q)), gI_N (by omega) (by omega), lt_e, lt_e, N_nat (by omega), N_lit 1, N_add, ih _ _ (by omega) (by omega), q_nar0]
      congr 1; funext j
      by_cases e : j = k
      · subst e; rw [if_neg (by omega), if_pos (by omega), upd_s]; rfl
      · rw [upd_n _ _ e]
        by_cases c2 : k ≤ j ∧ j < 2 * M
        · rw [if_pos c2, if_pos (by omega)]
        · rw [if_neg c2, if_neg (by omega)]
/-! The reference's rings: all leaders, by their spaces, then by their keys. -/
def q_ord2 (n : Nat) (I : Sto) (F : Ce → Int) (nr : Nat) (ld : Nat → Nat) : Prop := ∀ x y, x < y → y < nr → q_lf I (q_PP n I) F (ld x) < q_lf I (q_PP n I) F (ld y) ∨ (q_lf I (q_PP n I) F (ld x) = q_lf I (q_PP n I) F (ld y) ∧ q_K n I (ld x) < q_K n I (ld y))
theorem q_Rrings {n : Nat} {I : Sto} {nx ny : Nat} {F : Ce → Int} {ns : Nat} {fI pl pb pe pf pr so : Nat → Int32} (hg : q_gi n I nx ny) (hF : q_labs n I nx ny F ns) (hfI : q_fI n I fI) (hc : q_rp I F (q_NP n I) (q_PP n I) pl pb pe pf pr)
    (ho : q_ou n I (q_NP n I) (q_PP n I) (fun i j d => so (4 * (42 * i + j) + d))) (v1 v2 : Int32) (sn rs rt rz rl : Nat → Int32) :
    ∃ nr ld sn' rs' rt' rz' rl', m_Mo_findRings (N (q_NP n I)) v1 v2 fI pl pb pe pf pr so sn rs rt rz rl = some (N nr, N (q_cnt (fun g => q_lf I (q_PP n I) F g = -1) (2 * q_NP n I)), sn', rs', rt', rz', rl') ∧ q_rri n I F nr ld rs' rt' rz' rl' ∧ q_enu (q_nxt n I) (q_K n I) (2 * q_NP n I) nr ld ∧ q_ord2 n I F nr ld ∧ nr ≤ 220 := by
  have h220 := q_NP_220 hg
  have e1 := q_Rrings0_L h220 fu 0 sn (by unfold fu; omega) (by omega)
  obtain ⟨G, nr, ld, os, sn', rs', rt', rz', rl', e2, hs, hr⟩ := q_Rrings_L hg hF hfI hc ho fu 0 (fun _ => False) 0 (fun _ => 0) 0 (fun j => if 0 ≤ j ∧ j < 2 * q_NP n I then N 0 else sn j) rs rt rz rl (by unfold fu; omega) (by omega)
    ⟨fun g _ h => by omega, fun _ _ => Iff.rfl, fun x h => by omega, fun x y h => by omega, fun g _ q => q.elim, by omega, (q_cnt_none (fun i _ q => q.1)).symm, fun x y _ h => by omega⟩ (fun x h => by omega) (fun g hg' => by rw [if_pos (by omega), q_one_f (fun q => q)])
  obtain ⟨s1, s2, s3, s4, s5, s6, s7, s8⟩ := hs
  have hle := q_cnt_le G (2 * q_NP n I)
  refine ⟨nr, ld, sn', rs', rt', rz', rl', ?_, hr, ⟨fun x hx => (s3 x hx).1, fun h hl => ?_, s4⟩, fun x y hxy hy => ?_, by omega⟩
  · unfold m_Mo_findRings
    rw [show (0 : Int32) = N 0 from rfl, bd1_i e1, bd7_i e2, s7]
    congr 3
    congr 1
    exact q_cnt_c (fun g hg' => ⟨fun q => q.2, fun q => ⟨s1 g hg' hg', q⟩⟩)
  · obtain ⟨x, k, a, b⟩ := s5 h hl.1 (s1 h hl.1 hl.1)
    obtain ⟨_, _, ⟨z, _, hcy⟩, _, _⟩ := hr x a
    obtain ⟨j, ej⟩ := q_cyc_back hcy k
    rw [b] at ej
    refine ⟨x, a, q_K_inj hg (s3 x a).1.1 hl.1 ?_⟩
    have h1 := (s3 x a).1.2 k
    have h2 := hl.2 j
    rw [b] at h1
    rw [ej] at h2
    omega
  · have hng := s8 x y hxy hy
    have lx := (s3 x (by omega)).1
    have ly := (s3 y hy).1
    unfold q_gt at hng
    by_cases c : q_lf I (q_PP n I) F (ld x) < q_lf I (q_PP n I) F (ld y)
    · exact Or.inl c
    · have el : q_lf I (q_PP n I) F (ld x) = q_lf I (q_PP n I) F (ld y) := by omega
      refine Or.inr ⟨el, ?_⟩
      have ne : q_qb I (q_PP n I) (ld x) ≠ q_qb I (q_PP n I) (ld y) := fun q => by
        have := s4 x y (by omega) hy (q_notie hg hF lx ly q el)
        omega
      obtain ⟨o1, o2⟩ := q_nv_pv hg (q_qb_pt hg lx.1) (q_qb_pt hg ly.1)
      have hnv : q_nv (q_qb I (q_PP n I) (ld x)) < q_nv (q_qb I (q_PP n I) (ld y)) := by
        have : q_nv (q_qb I (q_PP n I) (ld x)) ≠ q_nv (q_qb I (q_PP n I) (ld y)) := fun q => ne (o2.mp q)
        omega
      have := o1.mp hnv
      have := q_qd_lt I (q_PP n I) (ld x)
      unfold q_K; omega
theorem q_cnt_iv {a b : Nat} : ∀ m, b ≤ m → a ≤ b → q_cnt (fun x => a ≤ x ∧ x < b) m = b - a := by
  intro m
  induction m with
  | zero => intro h h'; rw [show b - a = 0 by omega]; rfl
  | succ m ih =>
    intro h h'
    show q_cnt _ m + q_one (a ≤ m ∧ m < b) = b - a
    by_cases c : b = m + 1
    · subst c
      by_cases d : a ≤ m
      · rw [q_one_t ⟨d, by omega⟩]
        have : ∀ m', m' ≤ m → q_cnt (fun x => a ≤ x ∧ x < m + 1) m' = m' - a := by
          intro m'
          induction m' with
          | zero => intro _; rw [show 0 - a = 0 by omega]; rfl
          | succ m' ih' =>
            intro hm
            show q_cnt _ m' + q_one (a ≤ m' ∧ m' < m + 1) = _
            rw [ih' (by omega)]
            by_cases d' : a ≤ m'
            · rw [q_one_t ⟨d', by omega⟩]; omega
            · rw [q_one_f (fun q => d' q.1)]; omega
        rw [this m (Nat.le_refl _)]; omega
      · rw [q_one_f (fun q => d q.1), q_cnt_none (fun i hi q => by omega)]; omega
    · rw [ih (by omega) h', q_one_f (fun q => by omega)]; omega
theorem q_cnt_low {p : Nat → Prop} {r : Nat} : ∀ m, r ≤ m → q_cnt (fun x => p x ∧ x < r) m = q_cnt p r := by
  intro m
  induction m with
  | zero => intro h; rw [show r = 0 by omega]; rfl
  | succ m ih =>
    intro h
    by_cases c : r = m + 1
    · subst c; exact q_cnt_c (fun i hi => ⟨fun q => q.1, fun q => ⟨q, hi⟩⟩)
    · show q_cnt _ m + q_one (p m ∧ m < r) = _
      rw [ih (by omega), q_one_f (fun q => by omega)]; rfl
/-! Rings of a space, by number. -/
noncomputable def q_rn (n : Nat) (I : Sto) (F : Ce → Int) (s : Int) : Nat := q_rk (q_nxt n I) (q_K n I) (2 * q_NP n I) (q_lf I (q_PP n I) F) 560 s 560
def q_rg (n : Nat) (I : Sto) (F : Ce → Int) (s : Int) (k h : Nat) : Prop := q_ldr (q_nxt n I) (q_K n I) (2 * q_NP n I) h ∧ q_lf I (q_PP n I) F h = s ∧ q_rk (q_nxt n I) (q_K n I) (2 * q_NP n I) (q_lf I (q_PP n I) F) 560 s (q_K n I h) = k
theorem q_rg_eq {n : Nat} {I : Sto} {nx ny : Nat} {F : Ce → Int} (hg : q_gi n I nx ny) {s : Int} {k h h' : Nat} (a : q_rg n I F s k h) (b : q_rg n I F s k h') : h = h' :=
  q_rk_inj (fun x y hx hy e => q_K_inj hg hx hy e) (fun x hx => q_K_lt hg hx) a.1 b.1 a.2.1 b.2.1 (a.2.2.trans b.2.2.symm)
theorem q_rn_cnt {n : Nat} {I : Sto} {nx ny : Nat} {F : Ce → Int} (hg : q_gi n I nx ny) {nr : Nat} {ld : Nat → Nat} (he : q_enu (q_nxt n I) (q_K n I) (2 * q_NP n I) nr ld) (s : Int) : q_rn n I F s = q_cnt (fun x => q_lf I (q_PP n I) F (ld x) = s) nr := by
  unfold q_rn
  rw [q_enu_rk he (fun x y hx hy e => q_K_inj hg hx hy e) (fun x hx => q_K_lt hg hx)]
  exact q_cnt_c (fun x hx => ⟨fun q => q.1, fun q => ⟨q, q_K_lt hg (he.1 x hx).1⟩⟩)
/-! The class finds them so. -/
theorem q_CringsOf_L {n : Nat} {I : Sto} {nx ny : Nat} {F : Ce → Int} {ns : Nat} (hg : q_gi n I nx ny) (hF : q_labs n I nx ny F ns) {nr fl : Nat} {ld : Nat → Nat} {ord st sp : Nat → Int32} (hr : q_cri n I F nr ld fl ord st sp) (hl : ∀ x, x < nr → ld x < 2 * q_NP n I) (hnr : nr ≤ 220) {s : Int} (hs : -1 ≤ s ∧ s ≤ 1000) :
    ∀ fuel r, nr - r < fuel → r ≤ nr → m_Ri_ringsOf_L4 (J s) (N nr) sp fuel (N (q_cnt (fun x => q_lf I (q_PP n I) F (ld x) = s) r)) (N r) = some (N (q_cnt (fun x => q_lf I (q_PP n I) F (ld x) = s) nr)) := by
  have h81 := q_ns_81 hg hF
  intro fuel
  induction fuel with
  | zero => intro r h; omega
  | succ m ih =>
    intro r hm hrn
    rw [m_Ri_ringsOf_L4]
    by_cases c : nr ≤ r
    · rw [if_pos ((N_le (by omega) (by omega)).mpr c), show r = nr by omega]
    · have hb := q_lf_bd hg hF (hl r (by omega))
      rw [if_neg (fun q => c ((N_le (by omega) (by omega)).mp q)), gI_N (by omega) (by omega), N_nat (by omega), (hr r (by omega)).1]
      have ih' := ih (r + 1) (by omega) (by omega)
      by_cases e : q_lf I (q_PP n I) F (ld r) = s
      · have ec : q_cnt (fun x => q_lf I (q_PP n I) F (ld x) = s) (r + 1) = q_cnt (fun x => q_lf I (q_PP n I) F (ld x) = s) r + 1 := by show q_cnt _ r + q_one _ = _; rw [q_one_t e]
        rw [ec] at ih'
        rw [if_pos (by rw [e]), lt_e, bd1_i rfl, lt_e, N_lit 1, N_add, N_add]
        exact ih'
      · have ec : q_cnt (fun x => q_lf I (q_PP n I) F (ld x) = s) (r + 1) = q_cnt (fun x => q_lf I (q_PP n I) F (ld x) = s) r := by show q_cnt _ r + q_one _ = _; rw [q_one_f e]; rfl
        rw [ec] at ih'
        rw [if_neg (fun q => e ((J_eq (by omega) (by omega) (by omega) (by omega)).mp q)), bd1_i rfl, lt_e, N_lit 1, N_add]
        exact ih'
theorem q_CringsOf {n : Nat} {I : Sto} {nx ny : Nat} {F : Ce → Int} {ns : Nat} (hg : q_gi n I nx ny) (hF : q_labs n I nx ny F ns) {nr fl : Nat} {ld : Nat → Nat} {ord st sp : Nat → Int32} (hr : q_cri n I F nr ld fl ord st sp) (he : q_enu (q_nxt n I) (q_K n I) (2 * q_NP n I) nr ld) (hnr : nr ≤ 220) {s : Int} (hs : -1 ≤ s ∧ s ≤ 1000) :
    m_Ri_ringsOf (J s) (N nr) sp = some (N (q_rn n I F s)) := by
  unfold m_Ri_ringsOf
  have := q_CringsOf_L hg hF hr (fun x hx => (he.1 x hx).1) hnr hs fu 0 (by unfold fu; omega) (by omega)
  rw [q_rn_cnt hg he, show (0 : Int32) = N 0 from rfl]
  have e : m_Ri_ringsOf_L4 (J s) (N nr) sp fu (N 0) (N 0) = _ := this
  rw [bd1_i e]
theorem q_Cfind_L {n : Nat} {I : Sto} {nx ny : Nat} {F : Ce → Int} {ns : Nat} (hg : q_gi n I nx ny) (hF : q_labs n I nx ny F ns) {nr fl : Nat} {ld : Nat → Nat} {ord st sp : Nat → Int32} (hr : q_cri n I F nr ld fl ord st sp) (hl : ∀ x, x < nr → ld x < 2 * q_NP n I) (hnr : nr ≤ 220) {s : Int} (hs : -1 ≤ s ∧ s ≤ 1000) {k : Nat} (hk : k < 2147483648) :
    ∀ fuel r, nr - r < fuel → r ≤ nr → q_cnt (fun x => q_lf I (q_PP n I) F (ld x) = s) r ≤ k →
    (∃ r', r' < nr ∧ m_Ri_find_L5 (J s) (N nr) sp fuel (N (k - q_cnt (fun x => q_lf I (q_PP n I) F (ld x) = s) r)) (N r) = some (Sum.inl (N r')) ∧ q_lf I (q_PP n I) F (ld r') = s ∧ q_cnt (fun x => q_lf I (q_PP n I) F (ld x) = s) r' = k) ∨
    (m_Ri_find_L5 (J s) (N nr) sp fuel (N (k - q_cnt (fun x => q_lf I (q_PP n I) F (ld x) = s) r)) (N r) = some (Sum.inr ()) ∧ q_cnt (fun x => q_lf I (q_PP n I) F (ld x) = s) nr ≤ k) := by
  have h81 := q_ns_81 hg hF
  intro fuel
  induction fuel with
  | zero => intro r h; omega
  | succ m ih =>
    intro r hm hrn hle
    rw [m_Ri_find_L5]
    by_cases c : nr ≤ r
    · right
      rw [if_pos ((N_le (by omega) (by omega)).mpr c)]
      exact ⟨rfl, by rw [show nr = r by omega]; exact hle⟩
    · have hb := q_lf_bd hg hF (hl r (by omega))
      rw [if_neg (fun q => c ((N_le (by omega) (by omega)).mp q)), if_neg (by rw [N_lit 0]; exact fun q => by have := (N_lt (by omega) (by omega)).mp q; omega), gI_N (by omega) (by omega), N_nat (by omega), (hr r (by omega)).1]
      by_cases e : q_lf I (q_PP n I) F (ld r) = s
      · have ec : q_cnt (fun x => q_lf I (q_PP n I) F (ld x) = s) (r + 1) = q_cnt (fun x => q_lf I (q_PP n I) F (ld x) = s) r + 1 := by show q_cnt _ r + q_one _ = _; rw [q_one_t e]
        rw [if_pos (by rw [e])]
        by_cases z : q_cnt (fun x => q_lf I (q_PP n I) F (ld x) = s) r = k
        · left
          refine ⟨r, by omega, ?_, e, z⟩
          rw [z, Nat.sub_self, if_pos (show N 0 = (0 : Int32) from rfl)]; rfl
        · have ih' := ih (r + 1) (by omega) (by omega) (by omega)
          rw [ec, show k - (q_cnt (fun x => q_lf I (q_PP n I) F (ld x) = s) r + 1) = k - q_cnt (fun x => q_lf I (q_PP n I) F (ld x) = s) r - 1 by omega] at ih'
          have ev : (if N (k - q_cnt (fun x => q_lf I (q_PP n I) F (ld x) = s) r) = 0 then (some (Sum.inl (N r)) : Option (Sum Int32 Int32)) else lt_ (N (k - q_cnt (fun x => q_lf I (q_PP n I) F (ld x) = s) r) + (-1)) fun x10 => some (Sum.inr x10)) = some (Sum.inr (N (k - q_cnt (fun x => q_lf I (q_PP n I) F (ld x) = s) r - 1))) := by
            rw [if_neg (by rw [N_lit 0]; exact fun q => by have := (N_eq (by omega) (by omega)).mp q; omega), lt_e, show (-1 : Int32) = J (-1) from rfl, N_pred (by omega)]
          rw [ev]
          show (∃ r', _ ∧ lt_ (N r + 1) (fun x11 => m_Ri_find_L5 (J s) (N nr) sp m (N (k - q_cnt (fun x => q_lf I (q_PP n I) F (ld x) = s) r - 1)) x11) = _ ∧ _) ∨ (lt_ (N r + 1) (fun x11 => m_Ri_find_L5 (J s) (N nr) sp m (N (k - q_cnt (fun x => q_lf I (q_PP n I) F (ld x) = s) r - 1)) x11) = _ ∧ _)
          rw [lt_e, N_lit 1, N_add]
          exact ih'
      · have ec : q_cnt (fun x => q_lf I (q_PP n I) F (ld x) = s) (r + 1) = q_cnt (fun x => q_lf I (q_PP n I) F (ld x) = s) r := by show q_cnt _ r + q_one _ = _; rw [q_one_f e]; rfl
        have ih' := ih (r + 1) (by omega) (by omega) (by omega)
        rw [ec] at ih'
        rw [if_neg (fun q => e ((J_eq (by omega) (by omega) (by omega) (by omega)).mp q))]
        show (∃ r', _ ∧ lt_ (N r + 1) (fun x11 => m_Ri_find_L5 (J s) (N nr) sp m (N (k - q_cnt (fun x => q_lf I (q_PP n I) F (ld x) = s) r)) x11) = _ ∧ _) ∨ (lt_ (N r + 1) (fun x11 => m_Ri_find_L5 (J s) (N nr) sp m (N (k - q_cnt (fun x => q_lf I (q_PP n I) F (ld x) = s) r)) x11) = _ ∧ _)
        rw [lt_e, N_lit 1, N_add]
        exact ih'
theorem q_Cfind {n : Nat} {I : Sto} {nx ny : Nat} {F : Ce → Int} {ns : Nat} (hg : q_gi n I nx ny) (hF : q_labs n I nx ny F ns) {nr fl : Nat} {ld : Nat → Nat} {ord st sp : Nat → Int32} (hr : q_cri n I F nr ld fl ord st sp) (he : q_enu (q_nxt n I) (q_K n I) (2 * q_NP n I) nr ld) (hi : ∀ r r', r < r' → r' < nr → q_K n I (ld r) < q_K n I (ld r')) (hnr : nr ≤ 220) {s : Int} (hs : -1 ≤ s ∧ s ≤ 1000) {k : Int} (hk : -2147483648 ≤ k ∧ k < 2147483648) :
    (0 ≤ k ∧ k < q_rn n I F s ∧ ∃ r, r < nr ∧ m_Ri_find (J s) (J k) (N nr) sp = some (N r) ∧ q_rg n I F s k.toNat (ld r)) ∨ (¬ (0 ≤ k ∧ k < q_rn n I F s) ∧ m_Ri_find (J s) (J k) (N nr) sp = some (J (-1))) := by
  unfold m_Ri_find
  by_cases c : 0 ≤ k
  · obtain ⟨k, rfl⟩ : ∃ k' : Nat, k = k' := ⟨k.toNat, by omega⟩
    have := q_Cfind_L hg hF hr (fun x hx => (he.1 x hx).1) hnr hs (k := k) (by omega) fu 0 (by unfold fu; omega) (by omega) (Nat.zero_le _)
    rw [show q_cnt (fun x => q_lf I (q_PP n I) F (ld x) = s) 0 = 0 from rfl, Nat.sub_zero] at this
    rw [q_rn_cnt hg he]
    rcases this with ⟨r, h1, h2, h3, h4⟩ | ⟨h1, h2⟩
    · left
      refine ⟨by omega, ?_, r, h1, ?_, (he.1 r h1), h3, ?_⟩
      · have := q_cnt_lt (p := fun x => q_lf I (q_PP n I) F (ld x) = s ∧ x < r) (p' := fun x => q_lf I (q_PP n I) F (ld x) = s) (k := r) (m := nr) (fun i _ q => q.1) h1 h3 (fun q => by omega)
        rw [q_cnt_low nr (by omega), h4] at this; omega
      · rw [← N_J, show (0 : Int32) = N 0 from rfl, h2]; rfl
      · rw [q_enu_rk he (fun x y hx hy e => q_K_inj hg hx hy e) (fun x hx => q_K_lt hg hx), show (k : Int).toNat = k from rfl, ← h4, ← q_cnt_low (p := fun x => q_lf I (q_PP n I) F (ld x) = s) (r := r) nr (by omega)]
        refine q_cnt_c (fun x hx => ⟨fun q => ⟨q.1, ?_⟩, fun q => ⟨q.1, hi x r q.2 h1⟩⟩)
        refine Classical.byContradiction (fun d => ?_)
        by_cases ex : x = r
        · subst ex; have := q.2; omega
        · have := hi r x (by omega) hx; have := q.2; omega
    · right
      refine ⟨fun q => by omega, ?_⟩
      rw [← N_J, show (0 : Int32) = N 0 from rfl, h1]; rfl
  · right
    refine ⟨fun q => c q.1, ?_⟩
    have : m_Ri_find_L5 (J s) (N nr) sp fu (J k) 0 = some (Sum.inr ()) := by
      rw [show fu = 999999 + 1 from rfl, m_Ri_find_L5]
      by_cases d : nr ≤ 0
      · rw [if_pos (by rw [N_lit 0]; exact (N_le (by omega) (by omega)).mpr d)]
      · rw [if_neg (by rw [N_lit 0]; exact fun q => d ((N_le (by omega) (by omega)).mp q)), if_pos (by rw [show (0 : Int32) = J 0 from rfl]; exact (J_lt (by omega) (by omega) (by omega) (by omega)).mpr (by omega))]
    rw [this]; rfl
theorem q_cnt_init {p : Nat → Prop} : ∀ {m}, (∀ x y, x < y → y < m → p y → p x) → ∀ x, x < m → (p x ↔ x < q_cnt p m) := by
  intro m
  induction m with
  | zero => intro _ x h; omega
  | succ m ih =>
    intro h x hx
    have ih' := ih (fun x y a b => h x y a (by omega))
    show _ ↔ x < q_cnt p m + q_one (p m)
    by_cases c : p m
    · have all : ∀ i, i < m → p i := fun i hi => h i m hi (by omega) c
      have e : q_cnt p m = m := by
        have := q_cnt_le p m
        by_cases d : q_cnt p m = m
        · exact d
        · exfalso
          have := (ih' (q_cnt p m) (by omega)).mp (all _ (by omega))
          omega
      rw [q_one_t c, e]
      refine ⟨fun _ => hx, fun _ => ?_⟩
      by_cases ex : x = m
      · rw [ex]; exact c
      · exact all x (by omega)
    · rw [q_one_f c, Nat.add_zero]
      by_cases ex : x = m
      · subst ex
        have := q_cnt_le p x
        exact ⟨fun q => (c q).elim, fun q => by omega⟩
      · exact ih' x (by omega)
theorem q_RringsOf_L {n : Nat} {I : Sto} {nx ny : Nat} {F : Ce → Int} {ns : Nat} (hg : q_gi n I nx ny) (hF : q_labs n I nx ny F ns) {nr : Nat} {ld : Nat → Nat} {rs rt rz rl : Nat → Int32} (hr : q_rri n I F nr ld rs rt rz rl) (hnr : nr ≤ 220) {s : Int} (hs : -1 ≤ s ∧ s ≤ 1000) :
    ∀ fuel r, nr - r < fuel → r ≤ nr → m_Mo_ringsOf_L4 (J s) (N nr) rs fuel (N (q_cnt (fun x => q_lf I (q_PP n I) F (ld x) = s) r)) (N r) = some (N (q_cnt (fun x => q_lf I (q_PP n I) F (ld x) = s) nr)) := by
  have h81 := q_ns_81 hg hF
  intro fuel
  induction fuel with
  | zero => intro r h; omega
  | succ m ih =>
    intro r hm hrn
    rw [m_Mo_ringsOf_L4]
    by_cases c : nr ≤ r
    · rw [if_pos ((N_le (by omega) (by omega)).mpr c), show r = nr by omega]
    · obtain ⟨r1, _, _, _, r5⟩ := hr r (by omega)
      have hb := q_lf_bd hg hF r5
      have e1 : (if J (q_lf I (q_PP n I) F (ld r)) = J s then some (1 : Int32) else some 0) = some (N (q_one (q_lf I (q_PP n I) F (ld r) = s))) := by
        by_cases e : q_lf I (q_PP n I) F (ld r) = s
        · rw [if_pos (by rw [e]), q_one_t e]; rfl
        · rw [if_neg (fun q => e ((J_eq (by omega) (by omega) (by omega) (by omega)).mp q)), q_one_f e]; rfl
      rw [if_neg (fun q => c ((N_le (by omega) (by omega)).mp q)), gI_N (by omega) (by omega), N_nat (by omega), r1, e1, bd1_i rfl, lt_e, lt_e, N_add, N_lit 1, N_add]
      exact ih (r + 1) (by omega) (by omega)
theorem q_RringsOf {n : Nat} {I : Sto} {nx ny : Nat} {F : Ce → Int} {ns : Nat} (hg : q_gi n I nx ny) (hF : q_labs n I nx ny F ns) {nr : Nat} {ld : Nat → Nat} {rs rt rz rl : Nat → Int32} (hr : q_rri n I F nr ld rs rt rz rl) (he : q_enu (q_nxt n I) (q_K n I) (2 * q_NP n I) nr ld) (hnr : nr ≤ 220) {s : Int} (hs : -1 ≤ s ∧ s ≤ 1000) :
    m_Mo_ringsOf (J s) (N nr) rs = some (N (q_rn n I F s)) := by
  unfold m_Mo_ringsOf
  have := q_RringsOf_L hg hF hr hnr hs fu 0 (by unfold fu; omega) (by omega)
  rw [q_rn_cnt hg he, show (0 : Int32) = N 0 from rfl]
  have e : m_Mo_ringsOf_L4 (J s) (N nr) rs fu (N 0) (N 0) = _ := this
  rw [bd1_i e]
theorem q_Rfirst_L {n : Nat} {I : Sto} {nx ny : Nat} {F : Ce → Int} {ns : Nat} (hg : q_gi n I nx ny) (hF : q_labs n I nx ny F ns) {nr : Nat} {ld : Nat → Nat} {rs rt rz rl : Nat → Int32} (hr : q_rri n I F nr ld rs rt rz rl) (hnr : nr ≤ 220) {s : Int} (hs : -1 ≤ s ∧ s ≤ 1000) {c0 : Nat} (hc : c0 ≤ nr) (h0 : ∀ x, x < nr → (q_lf I (q_PP n I) F (ld x) < s ↔ x < c0)) :
    ∀ fuel r, c0 - r < fuel → r ≤ c0 → m_Mo_firstRing_L2 (J s) (N nr) rs fuel (N r) = some (N c0) := by
  have h81 := q_ns_81 hg hF
  intro fuel
  induction fuel with
  | zero => intro r h; omega
  | succ m ih =>
    intro r hm hrn
    rw [m_Mo_firstRing_L2]
    by_cases c : nr ≤ r
    · rw [if_pos ((N_le (by omega) (by omega)).mpr c), show r = c0 by omega]
    · obtain ⟨r1, _, _, _, r5⟩ := hr r (by omega)
      have hb := q_lf_bd hg hF r5
      have h0' := h0 r (by omega)
      rw [if_neg (fun q => c ((N_le (by omega) (by omega)).mp q)), gI_N (by omega) (by omega), N_nat (by omega), r1]
      by_cases e : r = c0
      · rw [if_pos ((J_le (by omega) (by omega) (by omega) (by omega)).mpr (by omega)), e]
      · rw [if_neg (fun q => by have := (J_le (by omega) (by omega) (by omega) (by omega)).mp q; omega), lt_e, N_lit 1, N_add]
        exact ih (r + 1) (by omega) (by omega)
theorem q_Rring {n : Nat} {I : Sto} {nx ny : Nat} {F : Ce → Int} {ns : Nat} (hg : q_gi n I nx ny) (hF : q_labs n I nx ny F ns) {nr : Nat} {ld : Nat → Nat} {rs rt rz rl : Nat → Int32} (hr : q_rri n I F nr ld rs rt rz rl) (he : q_enu (q_nxt n I) (q_K n I) (2 * q_NP n I) nr ld) (ho : q_ord2 n I F nr ld) (hnr : nr ≤ 220) {s : Int} (hs : -1 ≤ s ∧ s ≤ 1000) :
    ∃ c0, m_Mo_firstRing (J s) (N nr) rs = some (N c0) ∧ ∀ k, k < q_rn n I F s → c0 + k < nr ∧ q_rg n I F s k (ld (c0 + k)) := by
  have i0 := q_cnt_init (p := fun x => q_lf I (q_PP n I) F (ld x) < s) (m := nr) (fun x y h1 h2 h3 => by rcases ho x y h1 h2 with q | q <;> omega)
  have i1 := q_cnt_init (p := fun x => q_lf I (q_PP n I) F (ld x) ≤ s) (m := nr) (fun x y h1 h2 h3 => by rcases ho x y h1 h2 with q | q <;> omega)
  have l0 := q_cnt_le (fun x => q_lf I (q_PP n I) F (ld x) < s) nr
  have l1 := q_cnt_le (fun x => q_lf I (q_PP n I) F (ld x) ≤ s) nr
  generalize h0 : q_cnt (fun x => q_lf I (q_PP n I) F (ld x) < s) nr = c0 at *
  generalize h1 : q_cnt (fun x => q_lf I (q_PP n I) F (ld x) ≤ s) nr = c1 at *
  have h01 : c0 ≤ c1 := by rw [← h0, ← h1]; exact q_cnt_mono (fun i _ h => by omega)
  have hn : q_rn n I F s = c1 - c0 := by
    rw [q_rn_cnt hg he, ← q_cnt_iv (a := c0) (b := c1) nr l1 h01]
    exact q_cnt_c (fun x hx => by have := i0 x hx; have := i1 x hx; constructor <;> intro q <;> omega)
  refine ⟨c0, ?_, fun k hk => ⟨by omega, he.1 _ (by omega), ?_, ?_⟩⟩
  · unfold m_Mo_firstRing
    rw [show (0 : Int32) = N 0 from rfl, q_Rfirst_L hg hF hr hnr hs l0 i0 fu 0 (by unfold fu; omega) (by omega), bd1_i rfl]
  · have a := i0 (c0 + k) (by omega)
    have b := i1 (c0 + k) (by omega)
    omega
  · have es : ∀ x, x < nr → (q_lf I (q_PP n I) F (ld x) = s ↔ c0 ≤ x ∧ x < c1) := fun x hx => by have := i0 x hx; have := i1 x hx; omega
    have ek := (es (c0 + k) (by omega)).mpr (by omega)
    rw [q_enu_rk he (fun x y hx hy e => q_K_inj hg hx hy e) (fun x hx => q_K_lt hg hx)]
    refine Eq.trans ?_ ((q_cnt_iv (a := c0) (b := c0 + k) nr (by omega) (by omega)).trans (by omega))
    refine q_cnt_c (fun x hx => ⟨fun q => ?_, fun q => ?_⟩)
    · have a := (es x hx).mp q.1
      refine ⟨a.1, Classical.byContradiction (fun d => ?_)⟩
      by_cases ex : x = c0 + k
      · rw [ex] at q; have := q.2; omega
      · rcases ho (c0 + k) x (by omega) hx with z | z
        · have := q.1; omega
        · have := q.2; omega
    · have a := (es x hx).mpr (by omega)
      refine ⟨a, ?_⟩
      rcases ho x (c0 + k) q.2 (by omega) with z | z
      · omega
      · exact z.2
/-! The k-th side of a ring in the reference. -/
theorem q_Rit_L {n : Nat} {I : Sto} {nx ny : Nat} {F : Ce → Int} {ns : Nat} {fI pl pb pe pf pr so : Nat → Int32} (hg : q_gi n I nx ny) (hF : q_labs n I nx ny F ns) (hfI : q_fI n I fI) (hc : q_rp I F (q_NP n I) (q_PP n I) pl pb pe pf pr)
    (ho : q_ou n I (q_NP n I) (q_PP n I) (fun i j d => so (4 * (42 * i + j) + d))) {h k : Nat} (hh : h < 2 * q_NP n I) (hk : k ≤ 440) :
    ∀ fuel i, k - i < fuel → i ≤ k → m_Mo_side_L93 (N k) fI pl pb pe so fuel (N (q_it (q_nxt n I) i h)) (N i) = some (N (q_it (q_nxt n I) k h)) := by
  intro fuel
  induction fuel with
  | zero => intro i h; omega
  | succ m ih =>
    intro i hm hi
    rw [m_Mo_side_L93]
    by_cases c : k ≤ i
    · rw [if_pos ((N_le (by omega) (by omega)).mpr c), show i = k by omega]
    · rw [if_neg (fun q => c ((N_le (by omega) (by omega)).mp q)), q_Rnext hg hF hfI hc ho (q_it_lt (q_fnx hg) hh i), bd1_i rfl, lt_e, N_lit 1, N_add]
      exact ih (i + 1) (by omega) (by omega)
theorem q_cyc_le {n : Nat} {I : Sto} {nx ny : Nat} (hg : q_gi n I nx ny) {h z : Nat} (hh : h < 2 * q_NP n I) (c : q_cyc (q_nxt n I) h z) : z ≤ 440 := by
  have h220 := q_NP_220 hg
  have hfn := q_fnx hg
  have fr : q_fr (q_nxt n I) (fun _ => False) h z := by
    intro i hi
    refine ⟨fun q => q, fun j hj e => ?_⟩
    have inj : ∀ m a b, q_it (q_nxt n I) m a = q_it (q_nxt n I) m b → a < 2 * q_NP n I → b < 2 * q_NP n I → a = b := by
      intro m
      induction m with
      | zero => intro a b e _ _; exact e
      | succ m ih => intro a b e ha hb; exact ih a b (hfn.2 _ _ (q_it_lt hfn ha m) (q_it_lt hfn hb m) e) ha hb
    have e2 : q_it (q_nxt n I) j h = q_it (q_nxt n I) j (q_it (q_nxt n I) (i - j) h) := by rw [← q_it_add, show j + (i - j) = i by omega]; exact e
    have := inj j _ _ e2 hh (q_it_lt hfn hh _)
    exact c.2.2 (i - j) (by omega) (by omega) this.symm
  have a := q_Gk_cnt hfn hh z fr
  have b := q_cnt_le (q_Gk (q_nxt n I) (fun _ => False) h z) (2 * q_NP n I)
  omega
/-! Loose ends. -/
def q_ls (n : Nat) (I : Sto) (v : Nat × Nat) : Prop := ∃ l, l < n ∧ q_end I l v.1 v.2 ∧ ∀ m, m < n → m ≠ l → ¬ q_on I m v.1 v.2
def q_SL (n : Nat) (I : Sto) (q : Nat) : Prop := ∃ v : Nat × Nat, q_pt n I v.1 v.2 ∧ q_pv n I v = q ∧ q_ls n I v
theorem q_cnt4 {p : Nat → Prop} : q_cnt p 4 = q_one (p 0) + q_one (p 1) + q_one (p 2) + q_one (p 3) := by
  show 0 + q_one (p 0) + q_one (p 1) + q_one (p 2) + q_one (p 3) = _; omega
/-! The line of a direction; the direction of a line. -/
theorem q_wd_on {n : Nat} {I : Sto} {nx ny : Nat} (hg : q_gi n I nx ny) {i j d : Nat} (h : q_wd n I i j d) : ∃ l, l < n ∧ q_on I l i j ∧ ((yl I l = yh I l ∧ ((d = 0 ∧ yl I l = j ∧ xl I l ≤ i ∧ i < xh I l) ∨ (d = 2 ∧ yl I l = j ∧ xl I l < i ∧ i ≤ xh I l))) ∨ (¬ yl I l = yh I l ∧ ((d = 1 ∧ xl I l = i ∧ yl I l ≤ j ∧ j < yh I l) ∨ (d = 3 ∧ xl I l = i ∧ yl I l < j ∧ j ≤ yh I l)))) := by
  rcases h with ⟨hd, l, hl, a, b, c⟩ | ⟨hd, l, hl, a, b, c⟩ | ⟨hd, l, hl, a, b, c⟩ | ⟨hd, l, hl, a, b, c⟩ <;>
  · have := hg.2.2.2.1 l hl
    refine ⟨l, hl, by unfold q_on; omega, by omega⟩
theorem q_on_wd {n : Nat} {I : Sto} {nx ny : Nat} (hg : q_gi n I nx ny) {i j l : Nat} (hl : l < n) (h : q_on I l i j) : ∃ d, d < 4 ∧ q_wd n I i j d ∧ ((yl I l = yh I l ∧ ((d = 0 ∧ i < xh I l) ∨ (d = 2 ∧ xl I l < i))) ∨ (¬ yl I l = yh I l ∧ ((d = 1 ∧ j < yh I l) ∨ (d = 3 ∧ yl I l < j)))) := by
  have hln := hg.2.2.2.1 l hl
  unfold q_on at h
  by_cases f : yl I l = yh I l
  · by_cases c : i < xh I l
    · exact ⟨0, by omega, Or.inl ⟨rfl, l, hl, by omega, by omega, by omega⟩, Or.inl ⟨f, Or.inl ⟨rfl, c⟩⟩⟩
    · exact ⟨2, by omega, Or.inr (Or.inr (Or.inl ⟨rfl, l, hl, by omega, by omega, by omega⟩)), Or.inl ⟨f, Or.inr ⟨rfl, by omega⟩⟩⟩
  · by_cases c : j < yh I l
    · exact ⟨1, by omega, Or.inr (Or.inl ⟨rfl, l, hl, by omega, by omega, by omega⟩), Or.inr ⟨f, Or.inl ⟨rfl, c⟩⟩⟩
    · exact ⟨3, by omega, Or.inr (Or.inr (Or.inr ⟨rfl, l, hl, by omega, by omega, by omega⟩)), Or.inr ⟨f, Or.inr ⟨rfl, by omega⟩⟩⟩
theorem q_cnt_one {p : Nat → Prop} {m : Nat} (h : q_cnt p m = 1) : ∃ d, d < m ∧ p d ∧ ∀ d', d' < m → p d' → d' = d := by
  obtain ⟨d, h1, h2, h3⟩ := q_cnt_sur (p := p) (q := 0) (m := m) (by omega)
  refine ⟨d, h1, h2, fun d' h4 h5 => Classical.byContradiction (fun c => ?_)⟩
  have := q_two_cnt h4 h1 c h5 h2
  omega
theorem q_one_cnt {p : Nat → Prop} {m d : Nat} (h1 : d < m) (h2 : p d) (h3 : ∀ d', d' < m → p d' → d' = d) : q_cnt p m = 1 := by
  have a := q_cnt_pos h1 h2
  by_cases c : 2 ≤ q_cnt p m
  · obtain ⟨x, y, b1, b2, b3, b4, b5⟩ := q_cnt_two c
    have := h3 x b1 b4; have := h3 y b2 b5; omega
  · omega
theorem q_ls_cnt {n : Nat} {I : Sto} {nx ny : Nat} (hg : q_gi n I nx ny) {v : Nat × Nat} (hp : q_pt n I v.1 v.2) : q_cnt (q_wd n I v.1 v.2) 4 = 1 ↔ q_ls n I v := by
  constructor
  · intro h
    obtain ⟨d, h1, h2, h3⟩ := q_cnt_one h
    obtain ⟨l, hl, hon, hd⟩ := q_wd_on hg h2
    have only : ∀ m, m < n → m ≠ l → ¬ q_on I m v.1 v.2 := by
      intro m hm hne ho
      obtain ⟨d', a1, a2, a3⟩ := q_on_wd hg hm ho
      have ed := h3 d' a1 a2
      have b1 := hg.2.2.2.1 l hl
      have b2 := hg.2.2.2.1 m hm
      have b3 := hg.2.2.2.2 l m hl hm (Ne.symm hne)
      unfold q_apart at b3
      unfold q_on at ho
      omega
    refine ⟨l, hl, ?_, only⟩
    rcases hp with ⟨m, hm, e⟩ | ⟨a, b, ha, hb, hab, oa, ob⟩
    · by_cases em : m = l
      · rw [em] at e; exact e
      · exfalso
        refine only m hm em ?_
        have := hg.2.2.2.1 m hm
        unfold q_end at e
        unfold q_on
        omega
    · exfalso
      by_cases ea : a = l
      · exact only b hb (by omega) ob
      · exact only a ha ea oa
  · intro ⟨l, hl, he, ho⟩
    have hln := hg.2.2.2.1 l hl
    have hon : q_on I l v.1 v.2 := by unfold q_end at he; unfold q_on; omega
    obtain ⟨d, h1, h2, h3⟩ := q_on_wd hg hl hon
    refine q_one_cnt h1 h2 (fun d' h4 h5 => ?_)
    obtain ⟨m, hm, b1, b2⟩ := q_wd_on hg h5
    have em : m = l := Classical.byContradiction (fun q => ho m hm q b1)
    subst em
    unfold q_end at he
    omega
/-! At most 40 of them. -/
theorem q_SL_40 {n : Nat} {I : Sto} (hn : n ≤ 20) (t : Nat) : q_cnt (q_SL n I) t ≤ 40 := by
  have h1 := q_cnt_orle (m := t) (p := q_SL n I) (a := fun q => ∃ l, l < n ∧ True ∧ q_pv n I (xl I l, yl I l) = q) (b := fun q => ∃ l, l < n ∧ True ∧ q_pv n I (xh I l, yh I l) = q) (fun q _ ⟨v, _, e, l, hl, he, _⟩ => by
    rcases he with he | he
    · exact Or.inl ⟨l, hl, trivial, by rw [← e, ← he.1, ← he.2]⟩
    · exact Or.inr ⟨l, hl, trivial, by rw [← e, ← he.1, ← he.2]⟩)
  have h2 := q_cnt_img (U := fun _ => True) (f := fun l => q_pv n I (xl I l, yl I l)) (M := t) n
  have h3 := q_cnt_img (U := fun _ => True) (f := fun l => q_pv n I (xh I l, yh I l)) (M := t) n
  have h4 := q_cnt_le (fun _ => True) n
  omega
def q_cls (n : Nat) (I : Sto) (nl : Nat) (gk : Nat → Nat) (ls : Nat → Int32) : Prop := ∀ k, k < nl → ∃ v d, q_pt n I v.1 v.2 ∧ q_pv n I v = gk k ∧ q_ls n I v ∧ d < 4 ∧ q_wd n I v.1 v.2 d ∧ ls k = N (q_o n I v d)
theorem q_Clo_L22 {n : Nat} {I : Sto} {nx ny : Nat} {so : Nat → Int32} (hg : q_gi n I nx ny) (ho : q_ou n I (q_NP n I) (q_PP n I) (fun i j d => so (4 * q_pn n I (40 * i + j) + d))) {v : Nat × Nat} (hp : q_pt n I v.1 v.2) :
    ∀ fuel d f, 4 - d < fuel → d ≤ 4 → (q_cnt (q_wd n I v.1 v.2) d = 1 → ∃ e, e < d ∧ q_wd n I v.1 v.2 e ∧ f = N (q_o n I v e)) →
    ∃ f', m_Ne_findLooseEnds_L22 (N (q_pv n I v)) so fuel f (N (q_cnt (q_wd n I v.1 v.2) d)) (N d) = some (f', N (q_cnt (q_wd n I v.1 v.2) 4)) ∧ (q_cnt (q_wd n I v.1 v.2) 4 = 1 → ∃ e, e < 4 ∧ q_wd n I v.1 v.2 e ∧ f' = N (q_o n I v e)) := by
  have h220 := q_NP_220 hg
  have hq := q_pv_lt hg hp
  intro fuel
  induction fuel with
  | zero => intro d f h; omega
  | succ m ih =>
    intro d f hm hd hf
    rw [m_Ne_findLooseEnds_L22]
    by_cases c : 4 ≤ d
    · rw [if_pos (by rw [N_lit 4]; exact (N_le (by omega) (by omega)).mpr c)]
      have e : d = 4 := by omega
      subst e
      exact ⟨f, rfl, hf⟩
    · have o := q_ou_o hg ho (v := v) (d := d) hp (by omega)
      have es : ∀ x, (fun i j d => so (4 * q_pn n I (40 * i + j) + d)) v.1 v.2 d = x → so (4 * q_pv n I v + d) = x := fun x h => h
      have ec : q_cnt (q_wd n I v.1 v.2) (d + 1) = q_cnt (q_wd n I v.1 v.2) d + q_one (q_wd n I v.1 v.2 d) := rfl
      rw [if_neg (by rw [N_lit 4]; exact fun q => c ((N_le (by omega) (by omega)).mp q)), q_sideFrom hq (by omega), bd1_i rfl]
      by_cases w : q_wd n I v.1 v.2 d
      · have wl := (q_o_spec hg hp w).1
        rw [q_one_t w] at ec
        obtain ⟨f', e1, e2⟩ := ih (d + 1) (N (q_o n I v d)) (by omega) (by omega) (fun _ => ⟨d, by omega, w, rfl⟩)
        refine ⟨f', ?_, e2⟩
        rw [ec] at e1
        rw [es _ (o.1 w), if_neg (q_neg1 (by omega)), lt_e, bd2_i rfl, lt_e, N_lit 1, N_add, N_add]
        exact e1
      · rw [q_one_f w, Nat.add_zero] at ec
        obtain ⟨f', e1, e2⟩ := ih (d + 1) f (by omega) (by omega) (fun h => by
          rw [ec] at h
          obtain ⟨e, a, b⟩ := hf h
          exact ⟨e, by omega, b⟩)
        refine ⟨f', ?_, e2⟩
        rw [ec] at e1
        rw [es _ (o.2 w), if_pos (by rfl), bd2_i rfl, lt_e, N_lit 1, N_add]
        exact e1
theorem q_Clo_L7 {n : Nat} {I : Sto} {nx ny : Nat} {so : Nat → Int32} (hg : q_gi n I nx ny) (ho : q_ou n I (q_NP n I) (q_PP n I) (fun i j d => so (4 * q_pn n I (40 * i + j) + d))) :
    ∀ fuel q nl gk ls, q_np n I nx - q < fuel → q ≤ q_np n I nx → nl = q_cnt (q_SL n I) q → q_cut nl gk (fun x => q_SL n I x ∧ x < q) → q_cls n I nl gk ls →
    ∃ nl' gk' ls', m_Ne_findLooseEnds_L7 (N (q_np n I nx)) so fuel (N q) (N nl) ls = some (N nl', ls') ∧ nl' ≤ 40 ∧ q_cut nl' gk' (q_SL n I) ∧ q_cls n I nl' gk' ls' := by
  have h140 : q_np n I nx ≤ 140 := q_pn_140 hg (by have := hg.2.1; omega)
  have hn := hg.1
  intro fuel
  induction fuel with
  | zero => intro q nl gk ls h; omega
  | succ m ih =>
    intro q nl gk ls hm hq hnl hcut hcls
    rw [m_Ne_findLooseEnds_L7]
    by_cases c : q_np n I nx ≤ q
    · rw [if_pos ((N_le (by omega) (by omega)).mpr c)]
      refine ⟨nl, gk, ls, rfl, by rw [hnl]; exact q_SL_40 hn _, hcut.congr (fun x => ⟨fun h => h.1, fun h => ⟨h, ?_⟩⟩), hcls⟩
      obtain ⟨v, hv, e, _⟩ := h
      have := q_pv_np hg hv
      omega
    · obtain ⟨v, hv, ev⟩ := q_pt_sur (show q < q_np n I nx by omega)
      obtain ⟨f', e1, e2⟩ := q_Clo_L22 hg ho hv fu 0 (-1) (by unfold fu; omega) (by omega) (fun h => by have h : 0 = 1 := h; omega)
      have e1' : m_Ne_findLooseEnds_L22 (N q) so fu (-1) (N 0) (N 0) = some (f', N (q_cnt (q_wd n I v.1 v.2) 4)) := by rw [← ev]; exact e1
      have b4 := q_cnt_le (q_wd n I v.1 v.2) 4
      have ec : q_cnt (q_SL n I) (q + 1) = q_cnt (q_SL n I) q + q_one (q_SL n I q) := rfl
      have slq : q_SL n I q ↔ q_ls n I v := ⟨fun ⟨u, hu, eu, lu⟩ => by rw [← q_pv_inj hg hu hv (eu.trans ev.symm)]; exact lu, fun h => ⟨v, hv, ev, h⟩⟩
      rw [if_neg (fun z => c ((N_le (by omega) (by omega)).mp z)), show (0 : Int32) = N 0 from rfl, bd2_i e1']
      have hA : q_np n I nx - (q + 1) < m := by omega
      have hB : q + 1 ≤ q_np n I nx := by omega
      by_cases w : q_ls n I v
      · have w1 := (q_ls_cnt hg hv).mpr w
        obtain ⟨e, he, hw, hf⟩ := e2 w1
        clear e2
        have h40 := q_SL_40 (I := I) hn (q + 1)
        rw [ec, q_one_t (slq.mpr w)] at h40
        rw [q_one_t (slq.mpr w)] at ec
        obtain ⟨nl', gk', ls', z, r1, r2, r3⟩ := ih (q + 1) (nl + 1) (q_ins gk nl q) (upd ls nl f') hA hB (by rw [ec, hnl]) (q_cut.congr (q_ins_cut hcut (Nat.le_refl _) (fun i hi => by
            have := (hcut.2 (gk i)).mpr ⟨i, hi, rfl⟩; exact this.2) (fun i a b => by omega)) (fun x => ⟨fun h => by
            rcases h with h | h
            · rw [h]; exact ⟨slq.mpr w, by omega⟩
            · exact ⟨h.1, by omega⟩, fun h => by
            by_cases ex : x = q
            · exact Or.inl ex
            · exact Or.inr ⟨h.1, by omega⟩⟩)) (fun k hk => by
            unfold q_ins
            by_cases ek : k = nl
            · rw [if_neg (by omega), if_pos ek, ek, upd_s]
              exact ⟨v, e, hv, ev, w, he, hw, hf⟩
            · rw [if_pos (by omega), upd_n _ _ ek]; exact hcls k (by omega))
        refine ⟨nl', gk', ls', ?_, r1, r2, r3⟩
        rw [w1, if_pos (by rfl), N_lit 40, if_neg (fun z => by have := (N_le (by omega) (by omega)).mp z; omega), gI_N (by omega) (by omega), lt_e, lt_e, N_nat (by omega), bd2_i rfl, lt_e, N_lit 1, N_add, N_add]
        exact z
      · have w1 : ¬ q_cnt (q_wd n I v.1 v.2) 4 = 1 := fun h => w ((q_ls_cnt hg hv).mp h)
        rw [q_one_f (fun h => w (slq.mp h))] at ec
        obtain ⟨nl', gk', ls', z, r1, r2, r3⟩ := ih (q + 1) nl gk ls (by omega) (by omega) (by omega) (hcut.congr (fun x => ⟨fun h => ⟨h.1, by omega⟩, fun h => ⟨h.1, by
            by_cases ex : x = q
            · rw [ex] at h; exact (w (slq.mp h.1)).elim
            · omega⟩⟩)) hcls
        refine ⟨nl', gk', ls', ?_, r1, r2, r3⟩
        rw [if_neg (by rw [N_lit 1]; exact fun z => w1 ((N_eq (by omega) (by omega)).mp z)), bd2_i rfl, lt_e, N_lit 1, N_add]
        exact z
theorem q_Clo {n : Nat} {I : Sto} {nx ny : Nat} {so : Nat → Int32} (hg : q_gi n I nx ny) (ho : q_ou n I (q_NP n I) (q_PP n I) (fun i j d => so (4 * q_pn n I (40 * i + j) + d))) (v0 : Int32) (ls : Nat → Int32) :
    ∃ nl gk ls', m_Ne_findLooseEnds (N (q_np n I nx)) v0 ls so = some (N nl, ls') ∧ nl ≤ 40 ∧ q_cut nl gk (q_SL n I) ∧ q_cls n I nl gk ls' := by
  have h140 : q_np n I nx ≤ 140 := q_pn_140 hg (by have := hg.2.1; omega)
  obtain ⟨nl, gk, ls', e, r1, r2, r3⟩ := q_Clo_L7 hg ho fu 0 0 (fun _ => 0) ls (by unfold fu; omega) (by omega) rfl ⟨fun i j _ h => by omega, fun x => ⟨fun h => by omega, fun ⟨i, h, _⟩ => by omega⟩⟩ (fun k h => by omega)
  refine ⟨nl, gk, ls', ?_, r1, r2, r3⟩
  unfold m_Ne_findLooseEnds
  rw [show (0 : Int32) = N 0 from rfl, bd2_i e]
/-! The end t of the lines: 2 l is the low one of l, 2 l + 1 the high one. -/
def q_ev (I : Sto) (t : Nat) : Nat × Nat := if t % 2 = 0 then (xl I (t / 2), yl I (t / 2)) else (xh I (t / 2), yh I (t / 2))
def q_al (n : Nat) (I : Sto) (t : Nat) : Prop := ∀ m, m < n → m ≠ t / 2 → ¬ q_on I m (q_ev I t).1 (q_ev I t).2
def q_SLt (n : Nat) (I : Sto) (t0 q : Nat) : Prop := ∃ t, t < t0 ∧ q_al n I t ∧ q_pv n I (q_ev I t) = q
theorem q_ev_end (I : Sto) (t : Nat) : q_end I (t / 2) (q_ev I t).1 (q_ev I t).2 := by
  unfold q_ev q_end
  by_cases c : t % 2 = 0
  · rw [if_pos c]; exact Or.inl ⟨rfl, rfl⟩
  · rw [if_neg c]; exact Or.inr ⟨rfl, rfl⟩
theorem q_ev_pt {n : Nat} (I : Sto) {t : Nat} (h : t < 2 * n) : q_pt n I (q_ev I t).1 (q_ev I t).2 := Or.inl ⟨t / 2, by omega, q_ev_end I t⟩
theorem q_SLt_all {n : Nat} {I : Sto} (q : Nat) : q_SLt n I (2 * n) q ↔ q_SL n I q := by
  constructor
  · intro ⟨t, h1, h2, h3⟩
    exact ⟨q_ev I t, q_ev_pt I h1, h3, t / 2, by omega, q_ev_end I t, h2⟩
  · intro ⟨v, h1, h2, l, hl, he, ho⟩
    rcases he with he | he
    · refine ⟨2 * l, by omega, ?_, ?_⟩
      · unfold q_al q_ev; rw [if_pos (by omega), show 2 * l / 2 = l by omega]; dsimp only; rw [← he.1, ← he.2]; exact ho
      · unfold q_ev; rw [if_pos (by omega), show 2 * l / 2 = l by omega, ← he.1, ← he.2]; exact h2
    · refine ⟨2 * l + 1, by omega, ?_, ?_⟩
      · unfold q_al q_ev; rw [if_neg (by omega), show (2 * l + 1) / 2 = l by omega]; dsimp only; rw [← he.1, ← he.2]; exact ho
      · unfold q_ev; rw [if_neg (by omega), show (2 * l + 1) / 2 = l by omega, ← he.1, ← he.2]; exact h2
/-! The nearest of those ahead. -/
def q_rea (D : Nat → Int) : Nat → Int
  | 0 => -1
  | o + 1 => if 0 < D o ∧ (q_rea D o = -1 ∨ D o < q_rea D o) then D o else q_rea D o
theorem q_rea_same {D D' : Nat → Int} : ∀ {n}, (∀ o, o < n → (0 < D o ∨ 0 < D' o) → D o = D' o) → q_rea D n = q_rea D' n := by
  intro n
  induction n with
  | zero => intro _; rfl
  | succ n ih =>
    intro h
    have ih' := ih (fun o ho => h o (by omega))
    unfold q_rea
    rw [ih']
    by_cases c : 0 < D n ∨ 0 < D' n
    · rw [h n (by omega) c]
    · rw [if_neg (by omega), if_neg (by omega)]
theorem q_rea_bd {D : Nat → Int} {B : Int} (hB : 0 ≤ B) : ∀ {n}, (∀ o, o < n → D o ≤ B) → -1 ≤ q_rea D n ∧ q_rea D n ≤ B := by
  intro n
  induction n with
  | zero => intro _; exact ⟨by unfold q_rea; omega, by unfold q_rea; omega⟩
  | succ n ih =>
    intro h
    have := ih (fun o ho => h o (by omega))
    have := h n (by omega)
    unfold q_rea
    by_cases c : 0 < D n ∧ (q_rea D n = -1 ∨ D n < q_rea D n)
    · rw [if_pos c]; omega
    · rw [if_neg c]; omega
theorem q_rea_st {D : Nat → Int} {B : Int} (hB : 0 ≤ B) (hB2 : B ≤ 1000) {n : Nat} (h : ∀ o, o < n + 1 → -1000 ≤ D o ∧ D o ≤ B) :
    (if J (D n) ≤ 0 then some (J (q_rea D n)) else if J (q_rea D n) = (-1) then some (J (D n)) else if J (q_rea D n) ≤ J (D n) then some (J (q_rea D n)) else some (J (D n))) = some (J (q_rea D (n + 1))) := by
  have h1 := q_rea_bd hB (n := n) (fun o ho => (h o (by omega)).2)
  have h2 := h n (by omega)
  show _ = some (J (if 0 < D n ∧ (q_rea D n = -1 ∨ D n < q_rea D n) then D n else q_rea D n))
  rw [show (0 : Int32) = J 0 from rfl, show (-1 : Int32) = J (-1) from rfl]
  by_cases c : D n ≤ 0
  · rw [if_pos ((J_le (by omega) (by omega) (by omega) (by omega)).mpr c), if_neg (by omega)]
  · rw [if_neg (fun q => c ((J_le (by omega) (by omega) (by omega) (by omega)).mp q))]
    by_cases d : q_rea D n = -1
    · rw [if_pos (by rw [d]), if_pos (by omega)]
    · rw [if_neg (fun q => d ((J_eq (by omega) (by omega) (by omega) (by omega)).mp q))]
      by_cases e : q_rea D n ≤ D n
      · rw [if_pos ((J_le (by omega) (by omega) (by omega) (by omega)).mpr e), if_neg (by omega)]
      · rw [if_neg (fun q => e ((J_le (by omega) (by omega) (by omega) (by omega)).mp q)), if_pos (by omega)]
/-! How far ahead: for the class by direction, for the reference by the line's end. -/
def q_Dc (T : Sto) (x y d o : Nat) : Int := if d = 0 then (if yl T o ≤ y ∧ y ≤ yh T o then (xl T o : Int) - x else 0) else if d = 1 then (if xl T o ≤ x ∧ x ≤ xh T o then (yl T o : Int) - y else 0)
  else if d = 2 then (if yl T o ≤ y ∧ y ≤ yh T o then (x : Int) - xh T o else 0) else (if xl T o ≤ x ∧ x ≤ xh T o then (y : Int) - yh T o else 0)
theorem q_NJ (a b : Nat) : N a - N b = J ((a : Int) - b) := by rw [N_J, N_J, J_sub]
theorem q_ahead {n : Nat} {T : Sto} {f1 f2 f3 f4 : Nat → Int32} (hok : q_ok n T) (hc : q_cl n T f1 f2 f3 f4) {o x y d : Nat} (ho : o < n) (hx : x ≤ 500) (hy : y ≤ 500) (hd : d < 4) : m_Li_ahead (N o) (N x) (N y) (N d) f1 f2 f3 f4 = some (J (q_Dc T x y d o)) := by
  have hn := hok.1
  have hq := hok.2.1 o ho
  unfold q_ln at hq
  obtain ⟨g1, g2, g3, g4⟩ := hc o ho
  unfold m_Li_ahead
  rw [gI_N (by omega) (by omega), N_nat (by omega), g1, g2, g3, g4]
  repeat rw [gI_N (by omega) (by omega)]
  have e5 : (if N y < N (yl T o) then some (0 : Int32) else if N (yh T o) < N y then some 0 else some 1) = some (N (q_one (yl T o ≤ y ∧ y ≤ yh T o))) := by
    by_cases c : y < yl T o
    · rw [if_pos ((N_lt (by omega) (by omega)).mpr c), q_one_f (by omega)]; rfl
    · rw [if_neg (fun q => c ((N_lt (by omega) (by omega)).mp q))]
      by_cases c' : yh T o < y
      · rw [if_pos ((N_lt (by omega) (by omega)).mpr c'), q_one_f (by omega)]; rfl
      · rw [if_neg (fun q => c' ((N_lt (by omega) (by omega)).mp q)), q_one_t (by omega)]; rfl
  have e13 : (if N x < N (xl T o) then some (0 : Int32) else if N (xh T o) < N x then some 0 else some 1) = some (N (q_one (xl T o ≤ x ∧ x ≤ xh T o))) := by
    by_cases c : x < xl T o
    · rw [if_pos ((N_lt (by omega) (by omega)).mpr c), q_one_f (by omega)]; rfl
    · rw [if_neg (fun q => c ((N_lt (by omega) (by omega)).mp q))]
      by_cases c' : xh T o < x
      · rw [if_pos ((N_lt (by omega) (by omega)).mpr c'), q_one_f (by omega)]; rfl
      · rw [if_neg (fun q => c' ((N_lt (by omega) (by omega)).mp q)), q_one_t (by omega)]; rfl
  rw [e5, bd1_i rfl, gI_N (by omega) (by omega), e13, bd1_i rfl, q_NJ, q_NJ, q_NJ, q_NJ]
  have h4 : d = 0 ∨ d = 1 ∨ d = 2 ∨ d = 3 := by omega
  unfold q_Dc
  rcases h4 with r | r | r | r <;> subst r
  · rw [if_pos (show N 0 = 0 from rfl), if_pos (show (0 : Nat) = 0 from rfl)]
    by_cases c : yl T o ≤ y ∧ y ≤ yh T o
    · rw [if_neg (fun q => (q_one0 _).mp q c), if_pos c]
    · rw [if_pos ((q_one0 _).mpr c), if_neg c]; rfl
  · rw [if_neg (show ¬ N 1 = 0 by decide), if_pos (show N 1 = 1 from rfl), if_neg (show ¬ (1 : Nat) = 0 by decide), if_pos (show (1 : Nat) = 1 from rfl)]
    by_cases c : xl T o ≤ x ∧ x ≤ xh T o
    · rw [if_neg (fun q => (q_one0 _).mp q c), if_pos c]
    · rw [if_pos ((q_one0 _).mpr c), if_neg c]; rfl
  · rw [if_neg (show ¬ N 2 = 0 by decide), if_neg (show ¬ N 2 = 1 by decide), if_pos (show N 2 = 2 from rfl), if_neg (show ¬ (2 : Nat) = 0 by decide), if_neg (show ¬ (2 : Nat) = 1 by decide), if_pos (show (2 : Nat) = 2 from rfl)]
    by_cases c : yl T o ≤ y ∧ y ≤ yh T o
    · rw [if_neg (fun q => (q_one0 _).mp q c), if_pos c]
    · rw [if_pos ((q_one0 _).mpr c), if_neg c]; rfl
  · rw [if_neg (show ¬ N 3 = 0 by decide), if_neg (show ¬ N 3 = 1 by decide), if_neg (show ¬ N 3 = 2 by decide), if_neg (show ¬ (3 : Nat) = 0 by decide), if_neg (show ¬ (3 : Nat) = 1 by decide), if_neg (show ¬ (3 : Nat) = 2 by decide)]
    by_cases c : xl T o ≤ x ∧ x ≤ xh T o
    · rw [if_neg (fun q => (q_one0 _).mp q c), if_pos c, bd1_i rfl]
    · rw [if_pos ((q_one0 _).mpr c), if_neg c, bd1_i rfl]; rfl
theorem q_Dc_bd {n : Nat} {T : Sto} (hok : q_ok n T) {x y d o : Nat} (hx : x ≤ 500) (hy : y ≤ 500) (ho : o < n) : -1000 ≤ q_Dc T x y d o ∧ q_Dc T x y d o ≤ 500 := by
  have hq := hok.2.1 o ho
  unfold q_ln at hq
  unfold q_Dc
  by_cases c0 : d = 0
  · rw [if_pos c0]
    by_cases c : yl T o ≤ y ∧ y ≤ yh T o
    · rw [if_pos c]; omega
    · rw [if_neg c]; omega
  · rw [if_neg c0]
    by_cases c1 : d = 1
    · rw [if_pos c1]
      by_cases c : xl T o ≤ x ∧ x ≤ xh T o
      · rw [if_pos c]; omega
      · rw [if_neg c]; omega
    · rw [if_neg c1]
      by_cases c2 : d = 2
      · rw [if_pos c2]
        by_cases c : yl T o ≤ y ∧ y ≤ yh T o
        · rw [if_pos c]; omega
        · rw [if_neg c]; omega
      · rw [if_neg c2]
        by_cases c : xl T o ≤ x ∧ x ≤ xh T o
        · rw [if_pos c]; omega
        · rw [if_neg c]; omega
theorem q_Creach_L {n : Nat} {T : Sto} {f1 f2 f3 f4 : Nat → Int32} (hok : q_ok n T) (hc : q_cl n T f1 f2 f3 f4) {x y d : Nat} (hx : x ≤ 500) (hy : y ≤ 500) (hd : d < 4) :
    ∀ fuel o, n - o < fuel → o ≤ n → m_Li_reach_L6 (N x) (N y) (N d) (N n) f1 f2 f3 f4 fuel (J (q_rea (q_Dc T x y d) o)) (N o) = some (J (q_rea (q_Dc T x y d) n)) := by
  have hn := hok.1
  intro fuel
  induction fuel with
  | zero => intro o h; omega
  | succ m ih =>
    intro o hm ho
    rw [m_Li_reach_L6]
    by_cases c : n ≤ o
    · rw [if_pos ((N_le (by omega) (by omega)).mpr c), show o = n by omega]
    · rw [if_neg (fun q => c ((N_le (by omega) (by omega)).mp q)), q_ahead hok hc (by omega) hx hy hd, bd1_i rfl, q_rea_st (D := q_Dc T x y d) (n := o) (B := 500) (by omega) (by omega) (fun o' ho' => q_Dc_bd hok hx hy (by omega)), bd1_i rfl, lt_e, N_lit 1, N_add]
      exact ih (o + 1) (by omega) (by omega)
theorem q_Creach {n : Nat} {T : Sto} {f1 f2 f3 f4 : Nat → Int32} (hok : q_ok n T) (hc : q_cl n T f1 f2 f3 f4) {x y d : Nat} (hx : x ≤ 500) (hy : y ≤ 500) (hd : d < 4) : m_Li_reach (N x) (N y) (N d) (N n) f1 f2 f3 f4 = some (J (q_rea (q_Dc T x y d) n)) := by
  have hn := hok.1
  unfold m_Li_reach
  have e : m_Li_reach_L6 (N x) (N y) (N d) (N n) f1 f2 f3 f4 fu (J (-1)) (N 0) = _ := q_Creach_L hok hc hx hy hd fu 0 (by unfold fu; omega) (by omega)
  rw [show (-1 : Int32) = J (-1) from rfl, show (0 : Int32) = N 0 from rfl, bd1_i e]
theorem q_rl_g {n : Nat} {T : Sto} {fI fA fL fH : Nat → Int32} (hc : q_rl n T fI fA fL fH) {l : Nat} (hl : l < n) : fI l = (if yl T l = yh T l then 1 else 0) ∧ fA l = N (q_stay T l) ∧ fL l = N (q_lo T l) ∧ fH l = N (q_hi T l) := by
  obtain ⟨a, b⟩ := hc l hl
  unfold q_stay q_lo q_hi
  by_cases f : yl T l = yh T l
  · rw [if_pos f, if_pos f, if_pos f, if_pos f]; exact a f
  · rw [if_neg f, if_neg f, if_neg f, if_neg f]; exact b f
theorem q_bdT {n : Nat} {T : Sto} (hok : q_ok n T) {l : Nat} (hl : l < n) : q_stay T l ≤ 500 ∧ q_lo T l ≤ 500 ∧ q_hi T l ≤ 500 := by
  have hq := hok.2.1 l hl
  unfold q_ln at hq
  unfold q_stay q_lo q_hi
  by_cases f : yl T l = yh T l
  · rw [if_pos f, if_pos f, if_pos f]; omega
  · rw [if_neg f, if_neg f, if_neg f]; omega
def q_Dr (T : Sto) (l e o : Nat) : Int := if o ≠ l ∧ ((yl T o = yh T o) ↔ (yl T l = yh T l)) ∧ q_stay T o = q_stay T l then (if e = 0 then (q_lo T l : Int) - q_hi T o else (q_lo T o : Int) - q_hi T l)
  else if ¬ ((yl T o = yh T o) ↔ (yl T l = yh T l)) ∧ q_lo T o ≤ q_stay T l ∧ q_stay T l ≤ q_hi T o then (if e = 0 then (q_lo T l : Int) - q_stay T o else (q_stay T o : Int) - q_hi T l) else -1
theorem q_Dr_bd {n : Nat} {T : Sto} (hok : q_ok n T) {l e o : Nat} (hl : l < n) (ho : o < n) : -1000 ≤ q_Dr T l e o ∧ q_Dr T l e o ≤ 500 := by
  have h1 := q_bdT hok hl
  have h2 := q_bdT hok ho
  unfold q_Dr
  by_cases c : o ≠ l ∧ ((yl T o = yh T o) ↔ (yl T l = yh T l)) ∧ q_stay T o = q_stay T l
  · rw [if_pos c]
    by_cases c0 : e = 0
    · rw [if_pos c0]; omega
    · rw [if_neg c0]; omega
  · rw [if_neg c]
    by_cases c' : ¬ ((yl T o = yh T o) ↔ (yl T l = yh T l)) ∧ q_lo T o ≤ q_stay T l ∧ q_stay T l ≤ q_hi T o
    · rw [if_pos c']
      by_cases c0 : e = 0
      · rw [if_pos c0]; omega
      · rw [if_neg c0]; omega
    · rw [if_neg c']; omega
/-! Class and reference see the same lines ahead. -/
theorem q_D_same {n : Nat} {T : Sto} (hok : q_ok n T) {l e o : Nat} (hl : l < n) (ho : o < n) (he : e < 2) :
    (0 < q_Dc T (q_ev T (2 * l + e)).1 (q_ev T (2 * l + e)).2 ((q_d0 T l + 2 * (1 - e)) % 4) o ∨ 0 < q_Dr T l e o) → q_Dc T (q_ev T (2 * l + e)).1 (q_ev T (2 * l + e)).2 ((q_d0 T l + 2 * (1 - e)) % 4) o = q_Dr T l e o := by
  have h1 := hok.2.1 l hl
  have h2 := hok.2.1 o ho
  have h3 := fun h => hok.2.2 l o hl ho h
  unfold q_ln at h1 h2
  unfold q_apart at h3
  have e2 : e = 0 ∨ e = 1 := by omega
  rcases e2 with r | r <;> subst r
  · have ev : q_ev T (2 * l + 0) = (xl T l, yl T l) := by unfold q_ev; rw [if_pos (by omega), show (2 * l + 0) / 2 = l by omega]
    rw [ev]
    unfold q_Dr q_Dc q_d0 q_stay q_lo q_hi
    by_cases f : yl T l = yh T l <;> by_cases g : yl T o = yh T o <;> simp only [f, g, if_true, if_false, true_iff, iff_true, false_iff, iff_false, not_true, not_false_eq_true, and_true, true_and, false_and, and_false, Nat.reduceMul, Nat.reduceAdd, Nat.reduceSub, Nat.reduceMod, Nat.reduceEqDiff, ite_true, ite_false] <;> intro hq <;> (by_cases eo : o = l) <;> (try subst eo) <;> rcases hq with hq | hq <;> split at hq <;> (repeat' split) <;> omega
  · have ev : q_ev T (2 * l + 1) = (xh T l, yh T l) := by unfold q_ev; rw [if_neg (by omega), show (2 * l + 1) / 2 = l by omega]
    rw [ev]
    unfold q_Dr q_Dc q_d0 q_stay q_lo q_hi
    by_cases f : yl T l = yh T l <;> by_cases g : yl T o = yh T o <;> simp only [f, g, if_true, if_false, true_iff, iff_true, false_iff, iff_false, not_true, not_false_eq_true, and_true, true_and, false_and, and_false, Nat.reduceMul, Nat.reduceAdd, Nat.reduceSub, Nat.reduceMod, Nat.reduceEqDiff, ite_true, ite_false] <;> intro hq <;> (by_cases eo : o = l) <;> (try subst eo) <;> rcases hq with hq | hq <;> split at hq <;> (repeat' split) <;> omega
theorem q_Rreach_L {n : Nat} {T : Sto} {fI fA fL fH : Nat → Int32} (hok : q_ok n T) (hc : q_rl n T fI fA fL fH) {l e : Nat} (hl : l < n) (he : e < 2) :
    ∀ fuel o, n - o < fuel → o ≤ n → m_Mo_reach_L26 (N l) (N e) (N (if e = 0 then q_lo T l else q_hi T l)) (N n) fI fA fL fH fuel (J (q_rea (q_Dr T l e) o)) (N o) = some (J (q_rea (q_Dr T l e) n)) := by
  have hn := hok.1
  obtain ⟨l1, l2, l3, l4⟩ := q_rl_g hc hl
  have bl := q_bdT hok hl
  intro fuel
  induction fuel with
  | zero => intro o h; omega
  | succ m ih =>
    intro o hm ho
    rw [m_Mo_reach_L26]
    by_cases c : n ≤ o
    · rw [if_pos ((N_le (by omega) (by omega)).mpr c), show o = n by omega]
    · have hon : o < n := by omega
      obtain ⟨o1, o2, o3, o4⟩ := q_rl_g hc hon
      have bo := q_bdT hok hon
      have eI : (fI o = fI l) ↔ ((yl T o = yh T o) ↔ (yl T l = yh T l)) := by
        rw [o1, l1]
        by_cases f : yl T o = yh T o
        · by_cases g : yl T l = yh T l
          · rw [if_pos f, if_pos g]; exact ⟨fun _ => ⟨fun _ => g, fun _ => f⟩, fun _ => rfl⟩
          · rw [if_pos f, if_neg g]; exact ⟨fun q => absurd q (by decide), fun q => (g (q.mp f)).elim⟩
        · by_cases g : yl T l = yh T l
          · rw [if_neg f, if_pos g]; exact ⟨fun q => absurd q (by decide), fun q => (f (q.mpr g)).elim⟩
          · rw [if_neg f, if_neg g]; exact ⟨fun _ => ⟨fun q => (f q).elim, fun q => (g q).elim⟩, fun _ => rfl⟩
      have cross : ∀ (h : ¬ fI o = fI l), (gI (N l) 20 <| gI (N o) 20 <| gI (N o) 20 <| bd1 (m_Mo_isIn (Int32.toInt64 (fA l)) (Int32.toInt64 (fL o)) (Int32.toInt64 (fH o))) fun r20 => if r20 = 0 then some (-1) else bd1 (if N e = 0 then gI (N o) 20 <| some (N (if e = 0 then q_lo T l else q_hi T l) - (fA o)) else gI (N o) 20 <| some ((fA o) - N (if e = 0 then q_lo T l else q_hi T l))) fun (x26 : Int32) => some x26) = some (J (q_Dr T l e o)) := by
        intro h
        have h' : ¬ ((yl T o = yh T o) ↔ (yl T l = yh T l)) := fun q => h (eI.mpr q)
        rw [gI_N (by omega) (by omega), gI_N (by omega) (by omega), gI_N (by omega) (by omega), l2, o2, o3, o4, N_K (by omega), N_K (by omega), N_K (by omega), q_isIn (by omega) (by omega) (by omega) (by omega) (by omega) (by omega), bd1_i rfl]
        unfold q_Dr
        rw [if_neg (show ¬ (o ≠ l ∧ ((yl T o = yh T o) ↔ (yl T l = yh T l)) ∧ q_stay T o = q_stay T l) from fun q => h' q.2.1)]
        by_cases ci : q_lo T o ≤ q_stay T l ∧ q_stay T l ≤ q_hi T o
        · rw [if_pos (show (q_lo T o : Int) ≤ q_stay T l ∧ (q_stay T l : Int) ≤ q_hi T o by omega), if_neg (show ¬ (1 : Int32) = 0 by decide), if_pos (show ¬ ((yl T o = yh T o) ↔ (yl T l = yh T l)) ∧ q_lo T o ≤ q_stay T l ∧ q_stay T l ≤ q_hi T o from ⟨h', ci⟩)]
          by_cases c0 : e = 0
          · rw [if_pos c0, if_pos c0, if_pos (by rw [c0]; rfl), gI_N (by omega) (by omega), q_NJ, bd1_i rfl]
          · rw [if_neg c0, if_neg c0, if_neg (by rw [N_lit 0]; exact fun q => c0 ((N_eq (by omega) (by omega)).mp q)), gI_N (by omega) (by omega), q_NJ, bd1_i rfl]
        · rw [if_neg (show ¬ ((q_lo T o : Int) ≤ q_stay T l ∧ (q_stay T l : Int) ≤ q_hi T o) by omega), if_pos rfl, if_neg (fun q => ci q.2)]; rfl
      have found : (if N o = N l then (gI (N o) 20 <| gI (N l) 20 <| if (fI o) = (fI l) then some (-1) else gI (N l) 20 <| gI (N o) 20 <| gI (N o) 20 <| bd1 (m_Mo_isIn (Int32.toInt64 (fA l)) (Int32.toInt64 (fL o)) (Int32.toInt64 (fH o))) fun r20 => if r20 = 0 then some (-1) else bd1 (if N e = 0 then gI (N o) 20 <| some (N (if e = 0 then q_lo T l else q_hi T l) - (fA o)) else gI (N o) 20 <| some ((fA o) - N (if e = 0 then q_lo T l else q_hi T l))) fun (x26 : Int32) => some x26)
          else (gI (N o) 20 <| gI (N l) 20 <| if (fI o) = (fI l) then (gI (N o) 20 <| gI (N l) 20 <| if (fA o) = (fA l) then (bd1 (if N e = 0 then gI (N o) 20 <| some (N (if e = 0 then q_lo T l else q_hi T l) - (fH o)) else gI (N o) 20 <| some ((fL o) - N (if e = 0 then q_lo T l else q_hi T l))) fun (x71 : Int32) => some x71)
            else (gI (N o) 20 <| gI (N l) 20 <| if (fI o) = (fI l) then some (-1) else gI (N l) 20 <| gI (N o) 20 <| gI (N o) 20 <| bd1 (m_Mo_isIn (Int32.toInt64 (fA l)) (Int32.toInt64 (fL o)) (Int32.toInt64 (fH o))) fun r58 => if r58 = 0 then some (-1) else bd1 (if N e = 0 then gI (N o) 20 <| some (N (if e = 0 then q_lo T l else q_hi T l) - (fA o)) else gI (N o) 20 <| some ((fA o) - N (if e = 0 then q_lo T l else q_hi T l))) fun (x64 : Int32) => some x64))
          else (gI (N o) 20 <| gI (N l) 20 <| if (fI o) = (fI l) then some (-1) else gI (N l) 20 <| gI (N o) 20 <| gI (N o) 20 <| bd1 (m_Mo_isIn (Int32.toInt64 (fA l)) (Int32.toInt64 (fL o)) (Int32.toInt64 (fH o))) fun r39 => if r39 = 0 then some (-1) else bd1 (if N e = 0 then gI (N o) 20 <| some (N (if e = 0 then q_lo T l else q_hi T l) - (fA o)) else gI (N o) 20 <| some ((fA o) - N (if e = 0 then q_lo T l else q_hi T l))) fun (x45 : Int32) => some x45))) = some (J (q_Dr T l e o)) := by
        have gl : ∀ (x : Option Int32), gI (N l) 20 x = x := fun x => gI_N (by omega) (by omega)
        have go : ∀ (x : Option Int32), gI (N o) 20 x = x := fun x => gI_N (by omega) (by omega)
        by_cases eo : o = l
        · subst eo
          rw [if_pos rfl, go, go, if_pos rfl]
          unfold q_Dr
          rw [if_neg (fun q => q.1 rfl), if_neg (fun q => q.1 Iff.rfl)]; rfl
        · rw [if_neg (fun q => eo ((N_eq (by omega) (by omega)).mp q)), go, gl]
          by_cases ei : fI o = fI l
          · have ei' := eI.mp ei
            rw [if_pos ei, go, gl, o2, l2]
            unfold q_Dr
            by_cases ea : q_stay T o = q_stay T l
            · rw [if_pos (show N (q_stay T o) = N (q_stay T l) by rw [ea]), if_pos (show o ≠ l ∧ ((yl T o = yh T o) ↔ (yl T l = yh T l)) ∧ q_stay T o = q_stay T l from ⟨eo, ei', ea⟩), o3, o4]
              by_cases c0 : e = 0
              · rw [if_pos (show N e = 0 by rw [c0]; rfl), if_pos c0, if_pos c0, go, q_NJ, bd1_i rfl]
              · rw [if_neg (by rw [N_lit 0]; exact fun q => c0 ((N_eq (by omega) (by omega)).mp q)), if_neg c0, if_neg c0, go, q_NJ, bd1_i rfl]
            · rw [if_neg (fun q => ea ((N_eq (by omega) (by omega)).mp q)), go, gl, if_pos ei, if_neg (fun q => ea q.2.2), if_neg (fun q => q.1 ei')]; rfl
          · rw [if_neg ei, go, gl, if_neg ei]
            exact cross ei
      rw [if_neg (fun q => c ((N_le (by omega) (by omega)).mp q)), N_nat (by omega), N_nat (by omega), found, bd1_i rfl, q_rea_st (D := q_Dr T l e) (n := o) (B := 500) (by omega) (by omega) (fun o' ho' => q_Dr_bd hok hl (by omega)), bd1_i rfl, lt_e, N_lit 1, N_add]
      exact ih (o + 1) (by omega) (by omega)
theorem q_Rreach {n : Nat} {T : Sto} {fI fA fL fH : Nat → Int32} (hok : q_ok n T) (hc : q_rl n T fI fA fL fH) {l e : Nat} (hl : l < n) (he : e < 2) : m_Mo_reach (N l) (N e) (N n) fI fA fL fH = some (J (q_rea (q_Dr T l e) n)) := by
  have hn := hok.1
  obtain ⟨l1, l2, l3, l4⟩ := q_rl_g hc hl
  unfold m_Mo_reach
  have e4 : (if N e = 0 then gI (N l) 20 (some (fL (N l).toNatClampNeg)) else gI (N l) 20 (some (fH (N l).toNatClampNeg))) = some (N (if e = 0 then q_lo T l else q_hi T l)) := by
    rw [N_nat (by omega), l3, l4, gI_N (by omega) (by omega), gI_N (by omega) (by omega)]
    by_cases c0 : e = 0
    · rw [if_pos (by rw [c0]; rfl), if_pos c0]
    · rw [if_neg (by rw [N_lit 0]; exact fun q => c0 ((N_eq (by omega) (by omega)).mp q)), if_neg c0]
  have z : m_Mo_reach_L26 (N l) (N e) (N (if e = 0 then q_lo T l else q_hi T l)) (N n) fI fA fL fH fu (J (-1)) (N 0) = _ := q_Rreach_L hok hc hl he fu 0 (by unfold fu; omega) (by omega)
  rw [e4, bd1_i rfl, show (-1 : Int32) = J (-1) from rfl, show (0 : Int32) = N 0 from rfl, bd1_i z]
/-! The reference's row of loose ends. -/
def q_rls (n : Nat) (T I : Sto) (X Y : Nat → Nat) (nl : Nat) (gk : Nat → Nat) (LL LX LY LR : Nat → Int32) : Prop := ∀ k, k < nl → ∃ t, t < 2 * n ∧ q_al n I t ∧ q_pv n I (q_ev I t) = gk k ∧ LL k = N (t / 2) ∧ LX k = N (X (q_ev I t).1) ∧ LY k = N (Y (q_ev I t).2) ∧ LR k = J (q_rea (q_Dr T (t / 2) (t % 2)) n)
theorem q_ev_T {n : Nat} {T I : Sto} {X Y : Nat → Nat} (hi : q_ix n T I X Y) {t : Nat} (h : t < 2 * n) : (q_ev T t).1 = X (q_ev I t).1 ∧ (q_ev T t).2 = Y (q_ev I t).2 := by
  obtain ⟨e1, e2, e3, e4⟩ := hi (t / 2) (by omega)
  unfold q_ev
  by_cases c : t % 2 = 0
  · rw [if_pos c, if_pos c]; exact ⟨e1, e2⟩
  · rw [if_neg c, if_neg c]; exact ⟨e3, e4⟩
theorem q_al_L {n : Nat} {T I : Sto} {nx ny : Nat} {X Y : Nat → Nat} {fI fA fL fH : Nat → Int32} (hok : q_ok n T) (hg : q_gi n I nx ny) (hi : q_ix n T I X Y) (hX : q_inc nx X) (hY : q_inc ny Y) (bX : q_bd nx X 500) (bY : q_bd ny Y 500) (hc : q_rl n T fI fA fL fH) {t : Nat} (ht : t < 2 * n) (vc : Int32) (LL LX LY LR : Nat → Int32) :
    ∀ fuel o, n - o < fuel → o ≤ n → (∀ m, m < o → m ≠ t / 2 → ¬ q_on I m (q_ev I t).1 (q_ev I t).2) →
    (q_al n I t ∧ m_Mo_addLoose_L65 (N (t / 2)) (N (X (q_ev I t).1)) (N (Y (q_ev I t).2)) (N n) vc fI fA fL fH LL LX LY LR fuel (N o) = some (Sum.inr ())) ∨
    (¬ q_al n I t ∧ m_Mo_addLoose_L65 (N (t / 2)) (N (X (q_ev I t).1)) (N (Y (q_ev I t).2)) (N n) vc fI fA fL fH LL LX LY LR fuel (N o) = some (Sum.inl (vc, LL, LX, LY, LR))) := by
  have hn := hok.1
  have hin := q_pt_in hg (q_ev_pt I ht)
  have b1 := bX _ hin.1
  have b2 := bY _ hin.2
  intro fuel
  induction fuel with
  | zero => intro o h; omega
  | succ m ih =>
    intro o hm ho hal
    rw [m_Mo_addLoose_L65]
    by_cases c : n ≤ o
    · rw [if_pos ((N_le (by omega) (by omega)).mpr c)]
      exact Or.inl ⟨fun m hm hne => hal m (by omega) hne, rfl⟩
    · rw [if_neg (fun q => c ((N_le (by omega) (by omega)).mp q))]
      by_cases eo : o = t / 2
      · rw [if_pos (by rw [eo])]
        show (_ ∧ lt_ (N o + 1) _ = _) ∨ (_ ∧ lt_ (N o + 1) _ = _)
        rw [lt_e, N_lit 1, N_add]
        exact ih (o + 1) (by omega) (by omega) (fun m hm hne => hal m (by omega) hne)
      · rw [if_neg (fun q => eo ((N_eq (by omega) (by omega)).mp q)), q_isOn hok hc (show o < n by omega) b1 b2, bd1_i rfl]
        have hx := q_on_ix hg hi hX hY (show o < n by omega) hin.1 hin.2
        by_cases on : q_on I o (q_ev I t).1 (q_ev I t).2
        · rw [if_neg (fun q => (q_one0 _).mp q (hx.mpr on))]
          exact Or.inr ⟨fun q => q o (by omega) eo on, rfl⟩
        · rw [if_pos ((q_one0 _).mpr (fun q => on (hx.mp q)))]
          show (_ ∧ lt_ (N o + 1) _ = _) ∨ (_ ∧ lt_ (N o + 1) _ = _)
          rw [lt_e, N_lit 1, N_add]
          exact ih (o + 1) (by omega) (by omega) (fun m hm hne => by
            by_cases em : m = o
            · rw [em]; exact on
            · exact hal m (by omega) hne)
theorem q_insL_L {n : Nat} {T I : Sto} {nx ny : Nat} {X Y : Nat → Nat} (hg : q_gi n I nx ny) (hX : q_inc nx X) (hY : q_inc ny Y) (bX : q_bd nx X 500) (bY : q_bd ny Y 500) {v : Nat × Nat} (hv : q_pt n I v.1 v.2) {nl : Nat} {gk : Nat → Nat} (hnl : nl < 40) :
    ∀ fuel m LL LX LY LR, m < fuel → m ≤ nl → q_rls n T I X Y m gk LL LX LY LR →
    ∃ k, m_Mo_addLoose_L106 (N (Y v.2)) (N (X v.1)) fuel (N m) LL LX LY LR = some (N k, q_sh k m LL, q_sh k m LX, q_sh k m LY, q_sh k m LR) ∧ k ≤ m ∧ (∀ y, k ≤ y → y < m → q_pv n I v < gk y) ∧ (0 < k → gk (k - 1) ≤ q_pv n I v) := by
  have hin := q_pt_in hg hv
  have b1 := bX _ hin.1
  have b2 := bY _ hin.2
  have hy := hg.2.2.1
  intro fuel
  induction fuel with
  | zero => intro m LL LX LY LR h; omega
  | succ q ih =>
    intro m LL LX LY LR hm hmr hr
    rw [m_Mo_addLoose_L106]
    have sh0 : ∀ (f : Nat → Int32) k, q_sh k k f = f := fun f k => by funext y; unfold q_sh; rw [if_neg (by omega)]
    by_cases c0 : m = 0
    · subst c0
      rw [if_pos (by decide)]
      exact ⟨0, by rw [sh0, sh0, sh0, sh0], Nat.le_refl _, fun y _ h => by omega, fun h => by omega⟩
    · obtain ⟨t, r1, r2, r3, r4, r5, r6, r7⟩ := hr (m - 1) (by omega)
      have hpt := q_ev_pt I r1
      have hin' := q_pt_in hg hpt
      have b3 := bX _ hin'.1
      have b4 := bY _ hin'.2
      have eX := hX.lt_iff hin.1 hin'.1
      have eX2 := hX.eq_iff hin'.1 hin.1
      have eY := hY.le_iff hin'.2 hin.2
      obtain ⟨o1, o2⟩ := q_nv_pv hg hv hpt
      obtain ⟨o3, o4⟩ := q_nv_pv hg hpt hv
      have lex : q_nv v < q_nv (q_ev I t) ↔ (v.1 < (q_ev I t).1 ∨ (v.1 = (q_ev I t).1 ∧ v.2 < (q_ev I t).2)) := by
        show 42 * v.1 + v.2 < 42 * (q_ev I t).1 + (q_ev I t).2 ↔ _; omega
      have hz : ¬ N m ≤ (0 : Int32) := by rw [N_lit 0]; exact fun q => by have := (N_le (by omega) (by omega)).mp q; omega
      have em : N m - 1 = N (m - 1) := by rw [N_lit 1, N_sub (by omega)]
      have em' : N m + (-1) = N (m - 1) := by rw [show (-1 : Int32) = J (-1) from rfl, N_pred (by omega)]
      have updsh : ∀ (f : Nat → Int32) w, upd f m w = (fun y => if y = m then w else f y) := fun f w => rfl
      have go : q_pv n I v < gk (m - 1) → ∃ k, m_Mo_addLoose_L106 (N (Y v.2)) (N (X v.1)) q (N (m - 1)) (upd LL m (LL (m - 1))) (upd LX m (LX (m - 1))) (upd LY m (LY (m - 1))) (upd LR m (LR (m - 1))) = some (N k, q_sh k m LL, q_sh k m LX, q_sh k m LY, q_sh k m LR) ∧ k ≤ m ∧ (∀ y, k ≤ y → y < m → q_pv n I v < gk y) ∧ (0 < k → gk (k - 1) ≤ q_pv n I v) := by
        intro hgt
        obtain ⟨k, e, k1, k2, k3⟩ := ih (m - 1) (upd LL m (LL (m - 1))) (upd LX m (LX (m - 1))) (upd LY m (LY (m - 1))) (upd LR m (LR (m - 1))) (by omega) (by omega) (fun x hx => by
          repeat rw [upd_n _ _ (by omega)]
          exact hr x (by omega))
        refine ⟨k, ?_, by omega, fun y h1 h2 => ?_, k3⟩
        · rw [e, updsh, updsh, updsh, updsh, q_sh_s LL (by omega), q_sh_s LX (by omega), q_sh_s LY (by omega), q_sh_s LR (by omega)]
        · by_cases ey : y = m - 1
          · rw [ey]; exact hgt
          · exact k2 y h1 (by omega)
      have stop : ¬ q_nv v < q_nv (q_ev I t) → ∃ k, (some (N m, LL, LX, LY, LR) : Option (Int32 × (Nat → Int32) × (Nat → Int32) × (Nat → Int32) × (Nat → Int32))) = some (N k, q_sh k m LL, q_sh k m LX, q_sh k m LY, q_sh k m LR) ∧ k ≤ m ∧ (∀ y, k ≤ y → y < m → q_pv n I v < gk y) ∧ (0 < k → gk (k - 1) ≤ q_pv n I v) := by
        intro h
        refine ⟨m, by rw [sh0, sh0, sh0, sh0], Nat.le_refl _, fun y a b => by omega, fun _ => ?_⟩
        rw [← r3]
        exact Nat.le_of_not_lt (fun z => h (o1.mpr z))
      rw [if_neg hz, em, gI_N (by omega) (by omega), N_nat (by omega), N_nat (by omega), r5]
      by_cases c1 : X v.1 < X (q_ev I t).1
      · obtain ⟨k, e, rest⟩ := go (by rw [← r3]; exact o1.mp (lex.mpr (Or.inl (eX.mp c1))))
        refine ⟨k, ?_, rest⟩
        rw [if_pos ((N_lt (by omega) (by omega)).mpr c1), gI_N (by omega) (by omega), gI_N (by omega) (by omega), lt_e, gI_N (by omega) (by omega), gI_N (by omega) (by omega), lt_e, gI_N (by omega) (by omega), gI_N (by omega) (by omega), lt_e, gI_N (by omega) (by omega), gI_N (by omega) (by omega), lt_e, lt_e, em', ← r5]
        exact e
      · rw [if_neg (fun q => c1 ((N_lt (by omega) (by omega)).mp q)), gI_N (by omega) (by omega)]
        by_cases c2 : X (q_ev I t).1 = X v.1
        · rw [if_pos (by rw [c2]), gI_N (by omega) (by omega), r6]
          by_cases c3 : Y (q_ev I t).2 ≤ Y v.2
          · rw [if_pos ((N_le (by omega) (by omega)).mpr c3)]
            exact stop (fun z => by have := lex.mp z; have := eY.mp c3; have := eX2.mp c2; clear go stop ih; omega)
          · obtain ⟨k, e, rest⟩ := go (by rw [← r3]; exact o1.mp (lex.mpr (Or.inr ⟨(eX2.mp c2).symm, by have : ¬ (q_ev I t).2 ≤ v.2 := fun z => c3 (eY.mpr z); omega⟩)))
            refine ⟨k, ?_, rest⟩
            rw [if_neg (fun q => c3 ((N_le (by omega) (by omega)).mp q)), gI_N (by omega) (by omega), gI_N (by omega) (by omega), lt_e, gI_N (by omega) (by omega), gI_N (by omega) (by omega), lt_e, gI_N (by omega) (by omega), gI_N (by omega) (by omega), lt_e, gI_N (by omega) (by omega), gI_N (by omega) (by omega), lt_e, lt_e, em', ← r5, ← r6]
            exact e
        · rw [if_neg (fun q => c2 ((N_eq (by omega) (by omega)).mp q))]
          exact stop (fun z => by
            have l := lex.mp z
            have n1 : ¬ v.1 < (q_ev I t).1 := fun y => c1 (eX.mpr y)
            have n2 : ¬ (q_ev I t).1 = v.1 := fun y => c2 (eX2.mpr y)
            clear go stop ih
            omega)
theorem q_addLoose {n : Nat} {T I : Sto} {nx ny : Nat} {X Y : Nat → Nat} {fI fA fL fH : Nat → Int32} (hok : q_ok n T) (hg : q_gi n I nx ny) (hi : q_ix n T I X Y) (hX : q_inc nx X) (hY : q_inc ny Y) (bX : q_bd nx X 500) (bY : q_bd ny Y 500) (hc : q_rl n T fI fA fL fH) {t : Nat} (ht : t < 2 * n) {nl : Nat} {gk : Nat → Nat} {LL LX LY LR : Nat → Int32}
    (hnl : nl ≤ t) (hcut : q_cut nl gk (q_SLt n I t)) (hr : q_rls n T I X Y nl gk LL LX LY LR) :
    ∃ nl' gk' LL' LX' LY' LR', m_Mo_addLoose (N (t / 2)) (N (t % 2)) (N n) (N nl) fI fA fL fH LL LX LY LR = some (N nl', LL', LX', LY', LR') ∧ nl' ≤ t + 1 ∧ q_cut nl' gk' (q_SLt n I (t + 1)) ∧ q_rls n T I X Y nl' gk' LL' LX' LY' LR' := by
  have hn := hok.1
  have hl : t / 2 < n := by omega
  obtain ⟨l1, l2, l3, l4⟩ := q_rl_g hc hl
  have hqln := hok.2.1 _ hl
  unfold q_ln at hqln
  obtain ⟨ev1, ev2⟩ := q_ev_T hi ht
  have hpt := q_ev_pt I ht
  have e4 : (if N (t % 2) = 0 then gI (N (t / 2)) 20 (some (fL (N (t / 2)).toNatClampNeg)) else gI (N (t / 2)) 20 (some (fH (N (t / 2)).toNatClampNeg))) = some (N (if t % 2 = 0 then q_lo T (t / 2) else q_hi T (t / 2))) := by
    rw [N_nat (by omega), l3, l4, gI_N (by omega) (by omega), gI_N (by omega) (by omega)]
    by_cases c0 : t % 2 = 0
    · rw [if_pos (by rw [c0]; rfl), if_pos c0]
    · rw [if_neg (by rw [N_lit 0]; exact fun q => c0 ((N_eq (by omega) (by omega)).mp q)), if_neg c0]
  have sp : (yl T (t / 2) = yh T (t / 2) → q_stay T (t / 2) = yl T (t / 2) ∧ q_lo T (t / 2) = xl T (t / 2) ∧ q_hi T (t / 2) = xh T (t / 2)) ∧ (¬ yl T (t / 2) = yh T (t / 2) → q_stay T (t / 2) = xl T (t / 2) ∧ q_lo T (t / 2) = yl T (t / 2) ∧ q_hi T (t / 2) = yh T (t / 2)) := by
    unfold q_stay q_lo q_hi
    exact ⟨fun f => by rw [if_pos f, if_pos f, if_pos f]; exact ⟨rfl, rfl, rfl⟩, fun f => by rw [if_neg f, if_neg f, if_neg f]; exact ⟨rfl, rfl, rfl⟩⟩
  have evs : (t % 2 = 0 → q_ev T t = (xl T (t / 2), yl T (t / 2))) ∧ (¬ t % 2 = 0 → q_ev T t = (xh T (t / 2), yh T (t / 2))) := by
    unfold q_ev
    exact ⟨fun c => by rw [if_pos c], fun c => by rw [if_neg c]⟩
  have e12 : (if fI (N (t / 2)).toNatClampNeg = 0 then gI (N (t / 2)) 20 (some (fA (N (t / 2)).toNatClampNeg)) else some (N (if t % 2 = 0 then q_lo T (t / 2) else q_hi T (t / 2)))) = some (N (X (q_ev I t).1)) := by
    rw [N_nat (by omega), l1, l2, gI_N (by omega) (by omega), ← ev1]
    by_cases f : yl T (t / 2) = yh T (t / 2)
    · obtain ⟨s1, s2, s3⟩ := sp.1 f
      rw [if_pos f, if_neg (by decide), s2, s3]
      by_cases c0 : t % 2 = 0
      · rw [if_pos c0, evs.1 c0]
      · rw [if_neg c0, evs.2 c0]
    · obtain ⟨s1, s2, s3⟩ := sp.2 f
      rw [if_neg f, if_pos rfl, s1]
      by_cases c0 : t % 2 = 0
      · rw [evs.1 c0]
      · rw [evs.2 c0]; show some (N (xl T (t / 2))) = some (N (xh T (t / 2))); congr 2; omega
  have e19 : (if fI (N (t / 2)).toNatClampNeg = 0 then some (N (if t % 2 = 0 then q_lo T (t / 2) else q_hi T (t / 2))) else gI (N (t / 2)) 20 (some (fA (N (t / 2)).toNatClampNeg))) = some (N (Y (q_ev I t).2)) := by
    rw [N_nat (by omega), l1, l2, gI_N (by omega) (by omega), ← ev2]
    by_cases f : yl T (t / 2) = yh T (t / 2)
    · obtain ⟨s1, s2, s3⟩ := sp.1 f
      rw [if_pos f, if_neg (by decide), s1]
      by_cases c0 : t % 2 = 0
      · rw [evs.1 c0]
      · rw [evs.2 c0]; show some (N (yl T (t / 2))) = some (N (yh T (t / 2))); congr 2
    · obtain ⟨s1, s2, s3⟩ := sp.2 f
      rw [if_neg f, if_pos rfl, s2, s3]
      by_cases c0 : t % 2 = 0
      · rw [if_pos c0, evs.1 c0]
      · rw [if_neg c0, evs.2 c0]
  have key := q_al_L hok hg hi hX hY bX bY hc ht (N nl) LL LX LY LR fu 0 (by unfold fu; omega) (by omega) (fun m h => by omega)
  unfold m_Mo_addLoose
  rw [e4, bd1_i rfl, gI_N (by omega) (by omega), e12, bd1_i rfl, gI_N (by omega) (by omega), e19, bd1_i rfl]
  rcases key with ⟨al, e⟩ | ⟨al, e⟩
  · obtain ⟨k, e2, k1, k2, k3⟩ := q_insL_L hg hX hY bX bY hpt (by omega) fu nl LL LX LY LR (by unfold fu; omega) (Nat.le_refl _) hr
    -- the node is new
    have new : ∀ y, y < nl → gk y ≠ q_pv n I (q_ev I t) := by
      intro y hy q
      obtain ⟨t', a1, a2, a3⟩ := (hcut.2 (gk y)).mpr ⟨y, hy, rfl⟩
      have ee : q_ev I t' = q_ev I t := q_pv_inj hg (q_ev_pt I (by omega)) hpt (a3.trans q)
      by_cases el : t' / 2 = t / 2
      · have hln := hg.2.2.2.1 (t / 2) hl
        unfold q_ev at ee
        rw [el] at ee
        by_cases p : t % 2 = 0
        · rw [if_pos p, if_neg (by omega)] at ee
          injection ee with x1 x2; omega
        · rw [if_neg p, if_pos (by omega)] at ee
          injection ee with x1 x2; omega
      · refine al (t' / 2) (by omega) el ?_
        rw [← ee]
        have hln := hg.2.2.2.1 (t' / 2) (by omega)
        have := q_ev_end I t'
        unfold q_end at this
        unfold q_on
        omega
    have lowk : ∀ i, i < k → gk i < q_pv n I (q_ev I t) := by
      intro i hi'
      have a := k3 (by omega)
      have b := new i (by omega)
      have d := new (k - 1) (by omega)
      by_cases ei : i = k - 1
      · rw [ei]; omega
      · have := hcut.1 i (k - 1) (by omega) (by omega); omega
    refine ⟨nl + 1, q_ins gk k (q_pv n I (q_ev I t)), upd (q_sh k nl LL) k (N (t / 2)), upd (q_sh k nl LX) k (N (X (q_ev I t).1)), upd (q_sh k nl LY) k (N (Y (q_ev I t).2)), upd (q_sh k nl LR) k (J (q_rea (q_Dr T (t / 2) (t % 2)) n)), ?_, by omega, ?_, ?_⟩
    · rw [show (0 : Int32) = N 0 from rfl, e]
      show bd5 _ _ = _
      rw [bd5_i e2, gI_N (by omega) (by omega), lt_e, gI_N (by omega) (by omega), lt_e, gI_N (by omega) (by omega), lt_e, q_Rreach hok hc hl (by omega), bd1_i rfl, gI_N (by omega) (by omega), lt_e, lt_e, N_nat (by omega), N_lit 1, N_add]
    · refine (q_ins_cut hcut k1 lowk k2).congr (fun x => ⟨fun h => ?_, fun ⟨t', a1, a2, a3⟩ => ?_⟩)
      · rcases h with h | ⟨t', a1, a2⟩
        · exact ⟨t, by omega, al, h.symm⟩
        · exact ⟨t', by omega, a2⟩
      · by_cases et : t' = t
        · rw [et] at a3; exact Or.inl a3.symm
        · exact Or.inr ⟨t', by omega, a2, a3⟩
    · intro x hx
      unfold q_ins
      by_cases a : x < k
      · rw [if_pos a]
        have : ∀ f : Nat → Int32, q_sh k nl f x = f x := fun f => by unfold q_sh; rw [if_neg (by omega)]
        rw [upd_n _ _ (by omega), upd_n _ _ (by omega), upd_n _ _ (by omega), upd_n _ _ (by omega), this, this, this, this]
        exact hr x (by omega)
      · rw [if_neg a]
        by_cases b : x = k
        · rw [if_pos b, b, upd_s, upd_s, upd_s, upd_s]
          exact ⟨t, ht, al, rfl, rfl, rfl, rfl, rfl⟩
        · rw [if_neg b]
          have : ∀ f : Nat → Int32, q_sh k nl f x = f (x - 1) := fun f => by unfold q_sh; rw [if_pos (by omega)]
          rw [upd_n _ _ b, upd_n _ _ b, upd_n _ _ b, upd_n _ _ b, this, this, this, this]
          exact hr (x - 1) (by omega)
  · refine ⟨nl, gk, LL, LX, LY, LR, ?_, by omega, hcut.congr (fun x => ⟨fun ⟨t', a1, a2⟩ => ⟨t', by omega, a2⟩, fun ⟨t', a1, a2, a3⟩ => ?_⟩), hr⟩
    · rw [show (0 : Int32) = N 0 from rfl, e]; rfl
    · by_cases et : t' = t
      · rw [et] at a2; exact (al a2).elim
      · exact ⟨t', by omega, a2, a3⟩
theorem q_Rloose_L {n : Nat} {T I : Sto} {nx ny : Nat} {X Y : Nat → Nat} {fI fA fL fH : Nat → Int32} (hok : q_ok n T) (hg : q_gi n I nx ny) (hi : q_ix n T I X Y) (hX : q_inc nx X) (hY : q_inc ny Y) (bX : q_bd nx X 500) (bY : q_bd ny Y 500) (hc : q_rl n T fI fA fL fH) :
    ∀ fuel l nl gk LL LX LY LR, n - l < fuel → l ≤ n → nl ≤ 2 * l → q_cut nl gk (q_SLt n I (2 * l)) → q_rls n T I X Y nl gk LL LX LY LR →
    ∃ nl' gk' LL' LX' LY' LR', m_Mo_run_L54 (N n) fI fA fL fH fuel (N l) (N nl) LL LX LY LR = some (N nl', LL', LX', LY', LR') ∧ nl' ≤ 40 ∧ q_cut nl' gk' (q_SL n I) ∧ q_rls n T I X Y nl' gk' LL' LX' LY' LR' := by
  have hn := hok.1
  intro fuel
  induction fuel with
  | zero => intro l nl gk LL LX LY LR h; omega
  | succ m ih =>
    intro l nl gk LL LX LY LR hm hl hnl hcut hr
    rw [m_Mo_run_L54]
    by_cases c : n ≤ l
    · rw [if_pos ((N_le (by omega) (by omega)).mpr c)]
      have e : l = n := by omega
      subst e
      exact ⟨nl, gk, LL, LX, LY, LR, rfl, by omega, hcut.congr (fun x => q_SLt_all x), hr⟩
    · obtain ⟨n1, g1, a1, a2, a3, a4, z1, x1, x2, x3⟩ := q_addLoose hok hg hi hX hY bX bY hc (t := 2 * l) (by omega) hnl hcut hr
      obtain ⟨n2, g2, b1, b2, b3, b4, z2, y1, y2, y3⟩ := q_addLoose hok hg hi hX hY bX bY hc (t := 2 * l + 1) (by omega) x1 x2 x3
      obtain ⟨n3, g3, d1, d2, d3, d4, z3, w1, w2, w3⟩ := ih (l + 1) n2 g2 b1 b2 b3 b4 (by omega) (by omega) (by omega) y2 y3
      refine ⟨n3, g3, d1, d2, d3, d4, ?_, w1, w2, w3⟩
      rw [show 2 * l / 2 = l by omega, show 2 * l % 2 = 0 by omega] at z1
      rw [show (2 * l + 1) / 2 = l by omega, show (2 * l + 1) % 2 = 1 by omega] at z2
      rw [if_neg (fun q => c ((N_le (by omega) (by omega)).mp q)), show (0 : Int32) = N 0 from rfl, bd5_i z1, show (1 : Int32) = N 1 from rfl, bd5_i z2, lt_e, N_add]
      exact z3
theorem q_Rloose {n : Nat} {T I : Sto} {nx ny : Nat} {X Y : Nat → Nat} {fI fA fL fH : Nat → Int32} (hok : q_ok n T) (hg : q_gi n I nx ny) (hi : q_ix n T I X Y) (hX : q_inc nx X) (hY : q_inc ny Y) (bX : q_bd nx X 500) (bY : q_bd ny Y 500) (hc : q_rl n T fI fA fL fH) (LL LX LY LR : Nat → Int32) :
    ∃ nl gk LL' LX' LY' LR', m_Mo_run_L54 (N n) fI fA fL fH fu (N 0) (N 0) LL LX LY LR = some (N nl, LL', LX', LY', LR') ∧ nl ≤ 40 ∧ q_cut nl gk (q_SL n I) ∧ q_rls n T I X Y nl gk LL' LX' LY' LR' :=
  q_Rloose_L hok hg hi hX hY bX bY hc fu 0 0 (fun _ => 0) LL LX LY LR (by have := hok.1; unfold fu; omega) (by omega) (by omega) ⟨fun i j _ h => by omega, fun x => ⟨fun ⟨t, h, _⟩ => by omega, fun ⟨i, h, _⟩ => by omega⟩⟩ (fun k h => by omega)
