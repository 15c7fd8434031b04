theorem q_Chold_L {n : Nat} {T : Sto} {f1 f2 f3 f4 : Nat → Int32} (hok : q_ok n T) (hc : q_cl n T f1 f2 f3 f4) {x y : Nat} (hx : x ≤ 500) (hy : y ≤ 500) :
    ∀ fuel l, n - l < fuel → l ≤ n → (∀ m, m < l → ¬ q_on T m x y) → ((∃ m, m < n ∧ q_on T m x y) ∧ m_Li_someHold_L2 (N x) (N y) (N n) f1 f2 f3 f4 fuel (N l) = some (Sum.inl 1)) ∨ ((¬ ∃ m, m < n ∧ q_on T m x y) ∧ m_Li_someHold_L2 (N x) (N y) (N n) f1 f2 f3 f4 fuel (N l) = some (Sum.inr ())) := by
  have hn := hok.1
  intro fuel
  induction fuel with
  | zero => intro l h; omega
  | succ m ih =>
    intro l hm hl hno
    rw [m_Li_someHold_L2]
    by_cases c : n ≤ l
    · right
      rw [if_pos ((N_le (by omega) (by omega)).mpr c)]
      exact ⟨fun ⟨m, a, b⟩ => hno m (by omega) b, rfl⟩
    · have hl' : l < n := by omega
      obtain ⟨g1, g2, g3, g4⟩ := hc l hl'
      have hq := hok.2.1 l hl'
      unfold q_ln at hq
      rw [if_neg (fun q => c ((N_le (by omega) (by omega)).mp q)), gI_N (by omega) (by omega), N_nat (by omega), g1, g2, g3, g4, gI_N (by omega) (by omega), gI_N (by omega) (by omega), gI_N (by omega) (by omega)]
      have go : ¬ q_on T l x y → (if N x < N (xl T l) then (some (Sum.inr ()) : Option (Sum Int32 Unit)) else if N (xh T l) < N x then some (Sum.inr ()) else if N y < N (yl T l) then some (Sum.inr ()) else if N (yh T l) < N y then some (Sum.inr ()) else gB 1 (some (Sum.inl 1))) = some (Sum.inr ()) := by
        intro z
        unfold q_on at z
        by_cases z1 : x < xl T l
        · rw [if_pos ((N_lt (by omega) (by omega)).mpr z1)]
        · rw [if_neg (fun q => z1 ((N_lt (by omega) (by omega)).mp q))]
          by_cases z2 : xh T l < x
          · rw [if_pos ((N_lt (by omega) (by omega)).mpr z2)]
          · rw [if_neg (fun q => z2 ((N_lt (by omega) (by omega)).mp q))]
            by_cases z3 : y < yl T l
            · rw [if_pos ((N_lt (by omega) (by omega)).mpr z3)]
            · rw [if_neg (fun q => z3 ((N_lt (by omega) (by omega)).mp q)), if_pos ((N_lt (by omega) (by omega)).mpr (by omega))]
      by_cases z : q_on T l x y
      · left
        refine ⟨⟨l, hl', z⟩, ?_⟩
        unfold q_on at z
        rw [if_neg (fun q => by have := (N_lt (by omega) (by omega)).mp q; omega), if_neg (fun q => by have := (N_lt (by omega) (by omega)).mp q; omega), if_neg (fun q => by have := (N_lt (by omega) (by omega)).mp q; omega), if_neg (fun q => by have := (N_lt (by omega) (by omega)).mp q; omega), gB_1]
        rfl
      · rw [go z]
        show (_ ∧ lt_ (N l + 1) _ = _) ∨ (_ ∧ lt_ (N l + 1) _ = _)
        rw [lt_e, N_lit 1, N_add]
        exact ih (l + 1) (by omega) (by omega) (fun m hm => by
          by_cases e : m = l
          · rw [e]; exact z
          · exact hno m (by omega))
theorem q_Chold {n : Nat} {T : Sto} {f1 f2 f3 f4 : Nat → Int32} (hok : q_ok n T) (hc : q_cl n T f1 f2 f3 f4) {x y : Nat} (hx : x ≤ 500) (hy : y ≤ 500) : m_Li_someHold (N x) (N y) (N n) f1 f2 f3 f4 = some (N (q_one (∃ m, m < n ∧ q_on T m x y))) := by
  have hn := hok.1
  unfold m_Li_someHold
  rw [show (0 : Int32) = N 0 from rfl]
  rcases q_Chold_L hok hc hx hy fu 0 (by unfold fu; omega) (by omega) (fun m h => by omega) with ⟨a, e⟩ | ⟨a, e⟩
  · rw [e, q_one_t a]; rfl
  · rw [e, q_one_f a]; show gB (N 0) (some (N 0)) = _; exact gB_0 _
theorem q_up_eq {n : Nat} {g : Nat → Nat} {v k k' : Nat} (h : q_up n g v k) (h' : q_up n g v k') : k = k' := by
  by_cases c : k < k'
  · have := h'.2.1 k c; have := h.2.2 k (Nat.le_refl _) (by have := h'.1; omega); omega
  · by_cases c' : k' < k
    · have := h.2.1 k' c'; have := h'.2.2 k' (Nat.le_refl _) (by have := h.1; omega); omega
    · omega
theorem q_Rat69 {f : Nat → Int32} {n : Nat} {g : Nat → Nat} {v : Nat} (hA : q_rep f n g) (hi : q_inc n g) (hn : n ≤ 40) (hb : q_bd n g 500) (hv : v < 2147483648) :
    ∀ fuel k, n - k < fuel → k ≤ n → (∀ i, i < k → g i ≤ v) → ∃ k', m_Mo_at_L69 (N v) (N n) f fuel (N k) = some (N k') ∧ q_up n g v k' := by
  intro fuel
  induction fuel with
  | zero => intro k h; omega
  | succ m ih =>
    intro k hk hkn hlow
    rw [m_Mo_at_L69]
    by_cases h : n ≤ k
    · rw [if_pos ((N_le (by omega) (by omega)).mpr h)]
      exact ⟨k, rfl, hkn, hlow, fun i a b => by omega⟩
    · have hg := hb k (by omega)
      rw [if_neg (fun q => h ((N_le (by omega) (by omega)).mp q)), gI_N (by omega) (by omega), N_nat (by omega), hA k (by omega)]
      by_cases h' : v < g k
      · rw [if_pos ((N_lt (by omega) (by omega)).mpr h')]
        exact ⟨k, rfl, hkn, hlow, fun i a b => Nat.lt_of_lt_of_le h' (hi.le a b)⟩
      · rw [if_neg (fun q => h' ((N_lt (by omega) (by omega)).mp q)), lt_e, N_lit 1, N_add]
        refine ih (k + 1) (by omega) (by omega) (fun i hi' => ?_)
        by_cases e : i = k
        · subst e; omega
        · exact hlow i (by omega)
theorem q_Rat96 {f : Nat → Int32} {n : Nat} {g : Nat → Nat} {v : Nat} (hA : q_rep f n g) (hi : q_inc n g) (hn : n ≤ 40) (hb : q_bd n g 500) (hv : v < 2147483648) :
    ∀ fuel k, n - k < fuel → k ≤ n → (∀ i, i < k → g i ≤ v) → ∃ k', m_Mo_at_L96 (N v) (N n) f fuel (N k) = some (N k') ∧ q_up n g v k' := by
  intro fuel
  induction fuel with
  | zero => intro k h; omega
  | succ m ih =>
    intro k hk hkn hlow
    rw [m_Mo_at_L96]
    by_cases h : n ≤ k
    · rw [if_pos ((N_le (by omega) (by omega)).mpr h)]
      exact ⟨k, rfl, hkn, hlow, fun i a b => by omega⟩
    · have hg := hb k (by omega)
      rw [if_neg (fun q => h ((N_le (by omega) (by omega)).mp q)), gI_N (by omega) (by omega), N_nat (by omega), hA k (by omega)]
      by_cases h' : v < g k
      · rw [if_pos ((N_lt (by omega) (by omega)).mpr h')]
        exact ⟨k, rfl, hkn, hlow, fun i a b => Nat.lt_of_lt_of_le h' (hi.le a b)⟩
      · rw [if_neg (fun q => h' ((N_lt (by omega) (by omega)).mp q)), lt_e, N_lit 1, N_add]
        refine ih (k + 1) (by omega) (by omega) (fun i hi' => ?_)
        by_cases e : i = k
        · subst e; omega
        · exact hlow i (by omega)
theorem q_Rat40 {n : Nat} {T : Sto} {fI fA fL fH : Nat → Int32} (hok : q_ok n T) (hc : q_rl n T fI fA fL fH) {x y : Nat} (hx : x ≤ 500) (hy : y ≤ 500) (vc : Int32) :
    ∀ fuel l, n - l < fuel → l ≤ n → (∀ m, m < l → ¬ q_on T m x y) → ((∃ m, m < n ∧ q_on T m x y) ∧ m_Mo_at_L40 (N x) (N y) vc (N n) fI fA fL fH fuel (N l) = some (Sum.inl (J (-2), vc))) ∨ ((¬ ∃ m, m < n ∧ q_on T m x y) ∧ m_Mo_at_L40 (N x) (N y) vc (N n) fI fA fL fH fuel (N l) = some (Sum.inr ())) := by
  have hn := hok.1
  intro fuel
  induction fuel with
  | zero => intro l h; omega
  | succ m ih =>
    intro l hm hl hno
    rw [m_Mo_at_L40]
    by_cases c : n ≤ l
    · right
      rw [if_pos ((N_le (by omega) (by omega)).mpr c)]
      exact ⟨fun ⟨m, a, b⟩ => hno m (by omega) b, rfl⟩
    · rw [if_neg (fun q => c ((N_le (by omega) (by omega)).mp q)), q_isOn hok hc (show l < n by omega) hx hy, bd1_i rfl]
      by_cases z : q_on T l x y
      · left
        rw [if_neg (fun q => (q_one0 _).mp q z)]
        exact ⟨⟨l, by omega, z⟩, rfl⟩
      · rw [if_pos ((q_one0 _).mpr z), lt_e, N_lit 1, N_add]
        exact ih (l + 1) (by omega) (by omega) (fun m hm => by
          by_cases e : m = l
          · rw [e]; exact z
          · exact hno m (by omega))
/-! Widths in common. -/
def q_bw (g g' : Nat → Nat) (i j : Nat) : Int := if (if (g' j : Int) ≤ g i then (g' j : Int) else g i) ≤ (if (g (i - 1) : Int) ≤ g' (j - 1) then (g' (j - 1) : Int) else g (i - 1)) then 0 else (if (g' j : Int) ≤ g i then (g' j : Int) else g i) - (if (g (i - 1) : Int) ≤ g' (j - 1) then (g' (j - 1) : Int) else g (i - 1))
theorem q_bw_p {n n' : Nat} {g g' : Nat → Nat} (hb : q_bd n g 500) (hb' : q_bd n' g' 500) {i j : Nat} (hi : i < n) (hj : j < n') : 0 ≤ q_bw g g' i j ∧ q_bw g g' i j ≤ 500 ∧ (0 < q_bw g g' i j ↔ (g (i - 1) < g i ∧ g' (j - 1) < g' j ∧ g (i - 1) < g' j ∧ g' (j - 1) < g i)) := by
  have h1 := hb i hi
  have h2 := hb' j hj
  unfold q_bw
  refine ⟨?_, ?_, ?_⟩ <;> split <;> split <;> split <;> omega
/-! The strips: all pairs of gaps with a part in common, row by row. -/
def q_stv (n n' : Nat) (g g' : Nat → Nat) (i j cnt : Nat) (wd og ng : Nat → Int32) (ow : Nat → Nat) (on : Nat → Nat) (w : Nat → Int) : Prop :=
  (∀ k, k < cnt → wd k = J (w k) ∧ og k = N (ow k) ∧ ng k = N (on k) ∧ 1 ≤ ow k ∧ ow k < n ∧ 1 ≤ on k ∧ on k < n' ∧ w k = q_bw g g' (ow k) (on k) ∧ 0 < w k ∧ k + 2 ≤ ow k + on k ∧ (ow k < i ∨ (ow k = i ∧ on k < j))) ∧
  ∀ f : Nat → Nat → Int, q_sum (fun k => w k * f (ow k) (on k)) cnt = q_sum (fun a => q_ci (1 ≤ a) (q_sum (fun b => q_ci (1 ≤ b) (q_bw g g' a b * f a b)) n')) i + q_ci (1 ≤ i) (q_sum (fun b => q_ci (1 ≤ b) (q_bw g g' i b * f i b)) j)
theorem q_stv_skip {n n' : Nat} {g g' : Nat → Nat} {i j cnt : Nat} {wd og ng : Nat → Int32} {ow on : Nat → Nat} {w : Nat → Int} (h : q_stv n n' g g' i j cnt wd og ng ow on w) (hz : q_bw g g' i j = 0) : q_stv n n' g g' i (j + 1) cnt wd og ng ow on w := by
  refine ⟨fun k hk => ?_, fun f => ?_⟩
  · obtain ⟨a1, a2, a3, a4, a5, a6, a7, a8, a9, a10, a11⟩ := h.1 k hk
    exact ⟨a1, a2, a3, a4, a5, a6, a7, a8, a9, a10, by omega⟩
  · rw [h.2 f]
    congr 2
    show _ = q_sum (fun b => q_ci (1 ≤ b) (q_bw g g' i b * f i b)) j + q_ci (1 ≤ j) (q_bw g g' i j * f i j)
    rw [hz, Int.zero_mul]
    unfold q_ci; rw [Int.mul_zero, Int.add_zero]
theorem q_stv_add {n n' : Nat} {g g' : Nat → Nat} {i j cnt : Nat} {wd og ng : Nat → Int32} {ow on : Nat → Nat} {w : Nat → Int} (hi : q_inc n g) (hi' : q_inc n' g') (hb : q_bd n g 500) (hb' : q_bd n' g' 500) (h : q_stv n n' g g' i j cnt wd og ng ow on w) (hz : 0 < q_bw g g' i j) (h1 : 1 ≤ i) (h2 : i < n) (h3 : 1 ≤ j) (h4 : j < n') :
    cnt + 2 ≤ i + j ∧ q_stv n n' g g' i (j + 1) (cnt + 1) (upd wd cnt (J (q_bw g g' i j))) (upd og cnt (N i)) (upd ng cnt (N j)) (fun k => if k = cnt then i else ow k) (fun k => if k = cnt then j else on k) (fun k => if k = cnt then q_bw g g' i j else w k) := by
  have hc : cnt + 2 ≤ i + j := by
    cases cnt with
    | zero => omega
    | succ k =>
      obtain ⟨a1, a2, a3, a4, a5, a6, a7, a8, a9, a10, a11⟩ := h.1 k (by omega)
      have p1 := ((q_bw_p hb hb' a5 a7).2.2).mp (by rw [← a8]; exact a9)
      have p2 := ((q_bw_p hb hb' h2 h4).2.2).mp hz
      rcases a11 with q | q
      · -- an earlier old gap: its new gap is not later
        have : on k ≤ j := by
          refine Classical.byContradiction (fun z => ?_)
          have x1 := hi.le (i := ow k) (j := i - 1) (by omega) (by omega)
          have x2 := hi'.le (i := j) (j := on k - 1) (by omega) (by omega)
          omega
        omega
      · omega
  refine ⟨hc, fun k hk => ?_, fun f => ?_⟩
  · dsimp only
    by_cases e : k = cnt
    · rw [e, upd_s, upd_s, upd_s, if_pos rfl, if_pos rfl, if_pos rfl]
      exact ⟨rfl, rfl, rfl, h1, h2, h3, h4, rfl, hz, hc, by omega⟩
    · rw [upd_n _ _ e, upd_n _ _ e, upd_n _ _ e, if_neg e, if_neg e, if_neg e]
      obtain ⟨a1, a2, a3, a4, a5, a6, a7, a8, a9, a10, a11⟩ := h.1 k (by omega)
      exact ⟨a1, a2, a3, a4, a5, a6, a7, a8, a9, a10, by omega⟩
  · have e1 : q_sum (fun k => (if k = cnt then q_bw g g' i j else w k) * f (if k = cnt then i else ow k) (if k = cnt then j else on k)) (cnt + 1) = q_sum (fun k => w k * f (ow k) (on k)) cnt + q_bw g g' i j * f i j := by
      show q_sum _ cnt + (if cnt = cnt then q_bw g g' i j else w cnt) * f (if cnt = cnt then i else ow cnt) (if cnt = cnt then j else on cnt) = _
      rw [if_pos rfl, if_pos rfl, if_pos rfl]
      congr 1
      exact q_sum_c (fun k hk => by rw [if_neg (by omega), if_neg (by omega), if_neg (by omega)])
    rw [e1, h.2 f]
    have e2 : q_sum (fun b => q_ci (1 ≤ b) (q_bw g g' i b * f i b)) (j + 1) = q_sum (fun b => q_ci (1 ≤ b) (q_bw g g' i b * f i b)) j + q_bw g g' i j * f i j := by
      show _ + q_ci (1 ≤ j) _ = _
      rw [q_ci_t h3]
    rw [e2, q_ci_t h1, q_ci_t h1]; omega
theorem q_jminN {a b : Nat} (ha : a ≤ 500) (hb : b ≤ 500) : jmin (N a) (N b) = J (if (b : Int) ≤ a then (b : Int) else a) := by
  unfold jmin
  by_cases c : b < a
  · rw [if_pos ((N_lt (by omega) (by omega)).mpr c), if_pos (by omega)]; rfl
  · rw [if_neg (fun q => c ((N_lt (by omega) (by omega)).mp q))]
    by_cases d : (b : Int) ≤ a
    · rw [if_pos d, show b = a by omega]; rfl
    · rw [if_neg d]; rfl
theorem q_jmaxN {a b : Nat} (ha : a ≤ 500) (hb : b ≤ 500) : jmax (N a) (N b) = J (if (a : Int) ≤ b then (b : Int) else a) := by
  unfold jmax
  by_cases c : a < b
  · rw [if_pos ((N_lt (by omega) (by omega)).mpr c), if_pos (by omega)]; rfl
  · rw [if_neg (fun q => c ((N_lt (by omega) (by omega)).mp q))]
    by_cases d : (a : Int) ≤ b
    · rw [if_pos d, show a = b by omega]; rfl
    · rw [if_neg d]; rfl
theorem q_St18 {n n' : Nat} {g g' : Nat → Nat} {fo fw : Nat → Int32} (ho : q_rep fo n g) (hi : q_inc n g) (hb : q_bd n g 500) (hn : n ≤ 40) (ho' : q_rep fw n' g') (hi' : q_inc n' g') (hb' : q_bd n' g' 500) (hn' : n' ≤ 40) {i : Nat} (h1 : 1 ≤ i) (h2 : i < n) :
    ∀ fuel j cnt wd og ng ow on w, n' - j < fuel → 1 ≤ j → (j ≤ n' ∨ j = 1) → q_stv n n' g g' i j cnt wd og ng ow on w →
    ∃ cnt' wd' og' ng' ow' on' w', m_St_find_L18 (N i) fo (N n') fw fuel (N j) (N cnt) wd og ng = some (N cnt', wd', og', ng') ∧ q_stv n n' g g' i (if j ≤ n' then n' else j) cnt' wd' og' ng' ow' on' w' := by
  intro fuel
  induction fuel with
  | zero => intro j cnt wd og ng ow on w h; omega
  | succ m ih =>
    intro j cnt wd og ng ow on w hm hj hjn hs
    rw [m_St_find_L18]
    by_cases c : n' ≤ j
    · rw [if_pos ((N_le (by omega) (by omega)).mpr c)]
      refine ⟨cnt, wd, og, ng, ow, on, w, rfl, ?_⟩
      by_cases e : j ≤ n'
      · rw [if_pos e]; have ej : j = n' := by omega
        subst ej; exact hs
      · rw [if_neg e]; exact hs
    · have a1 := hb i h2
      have a2 := hb (i - 1) (by omega)
      have a3 := hb' j (by omega)
      have a4 := hb' (j - 1) (by omega)
      have bw := q_bw_p hb hb' h2 (show j < n' by omega)
      have ei : N i - 1 = N (i - 1) := by rw [N_lit 1, N_sub h1]
      have ej : N j - 1 = N (j - 1) := by rw [N_lit 1, N_sub hj]
      rw [if_neg (fun q => c ((N_le (by omega) (by omega)).mp q)), ei, ej, gI_N (by omega) (by omega), gI_N (by omega) (by omega), N_nat (by omega), N_nat (by omega), ho _ (show i - 1 < n by omega), ho' _ (show j - 1 < n' by omega), lt_e, gI_N (by omega) (by omega), gI_N (by omega) (by omega), N_nat (by omega), N_nat (by omega), ho _ h2, ho' _ (show j < n' by omega), lt_e, q_jmaxN a2 a4, q_jminN a1 a3, if_pos (show j ≤ n' by omega)]
      have key : ∀ lo hi : Int, 0 ≤ lo → lo ≤ 500 → 0 ≤ hi → hi ≤ 500 → ((J hi ≤ J lo) ↔ hi ≤ lo) := fun lo hi b1 b2 b3 b4 => J_le (by omega) (by omega) (by omega) (by omega)
      have bl : 0 ≤ (if (g (i - 1) : Int) ≤ g' (j - 1) then (g' (j - 1) : Int) else g (i - 1)) ∧ (if (g (i - 1) : Int) ≤ g' (j - 1) then (g' (j - 1) : Int) else g (i - 1)) ≤ 500 := by split <;> omega
      have bh : 0 ≤ (if (g' j : Int) ≤ g i then (g' j : Int) else g i) ∧ (if (g' j : Int) ≤ g i then (g' j : Int) else g i) ≤ 500 := by split <;> omega
      have kk := key _ _ bl.1 bl.2 bh.1 bh.2
      by_cases z : (if (g' j : Int) ≤ g i then (g' j : Int) else g i) ≤ (if (g (i - 1) : Int) ≤ g' (j - 1) then (g' (j - 1) : Int) else g (i - 1))
      · have z0 : q_bw g g' i j = 0 := by unfold q_bw; rw [if_pos z]
        obtain ⟨cnt', wd', og', ng', ow', on', w', e, r⟩ := ih (j + 1) cnt wd og ng ow on w (by omega) (by omega) (Or.inl (by omega)) (q_stv_skip hs z0)
        refine ⟨cnt', wd', og', ng', ow', on', w', ?_, by rw [if_pos (show j + 1 ≤ n' by omega)] at r; exact r⟩
        rw [if_pos (kk.mpr z), bd4_i rfl, lt_e, N_lit 1, N_add]
        exact e
      · have z0 : q_bw g g' i j = (if (g' j : Int) ≤ g i then (g' j : Int) else g i) - (if (g (i - 1) : Int) ≤ g' (j - 1) then (g' (j - 1) : Int) else g (i - 1)) := by unfold q_bw; rw [if_neg z]
        obtain ⟨hc, hs'⟩ := q_stv_add hi hi' hb hb' hs (by omega) h1 h2 hj (by omega)
        obtain ⟨cnt', wd', og', ng', ow', on', w', e, r⟩ := ih (j + 1) (cnt + 1) _ _ _ _ _ _ (by omega) (by omega) (Or.inl (by omega)) hs'
        refine ⟨cnt', wd', og', ng', ow', on', w', ?_, by rw [if_pos (show j + 1 ≤ n' by omega)] at r; exact r⟩
        rw [if_neg (fun q => z (kk.mp q)), N_lit 80, if_neg (fun q => by have := (N_le (by omega) (by omega)).mp q; omega), gI_N (by omega) (by omega), lt_e, gI_N (by omega) (by omega), lt_e, gI_N (by omega) (by omega), lt_e, lt_e, bd4_i rfl, lt_e, N_nat (by omega), J_sub, ← z0, N_lit 1, N_add, N_add]
        exact e
theorem q_St7 {n n' : Nat} {g g' : Nat → Nat} {fo fw : Nat → Int32} (ho : q_rep fo n g) (hi : q_inc n g) (hb : q_bd n g 500) (hn : n ≤ 40) (ho' : q_rep fw n' g') (hi' : q_inc n' g') (hb' : q_bd n' g' 500) (hn' : n' ≤ 40) :
    ∀ fuel i cnt wd og ng ow on w, n - i < fuel → 1 ≤ i → (i ≤ n ∨ i = 1) → q_stv n n' g g' i 1 cnt wd og ng ow on w →
    ∃ cnt' wd' og' ng' ow' on' w', m_St_find_L7 (N n) fo (N n') fw fuel (N i) (N cnt) wd og ng = some (N cnt', wd', og', ng') ∧ q_stv n n' g g' (if i ≤ n then n else i) 1 cnt' wd' og' ng' ow' on' w' := by
  intro fuel
  induction fuel with
  | zero => intro j cnt wd og ng ow on w h; omega
  | succ m ih =>
    intro i cnt wd og ng ow on w hm h1 hin hs
    rw [m_St_find_L7]
    by_cases c : n ≤ i
    · rw [if_pos ((N_le (by omega) (by omega)).mpr c)]
      refine ⟨cnt, wd, og, ng, ow, on, w, rfl, ?_⟩
      by_cases e : i ≤ n
      · rw [if_pos e]; have ej : i = n := by omega
        subst ej; exact hs
      · rw [if_neg e]; exact hs
    · obtain ⟨cnt1, wd1, og1, ng1, ow1, on1, w1, e1, r1⟩ := q_St18 ho hi hb hn ho' hi' hb' hn' h1 (show i < n by omega) fu 1 cnt wd og ng ow on w (by unfold fu; omega) (by omega) (Or.inr rfl) hs
      have r2 : q_stv n n' g g' (i + 1) 1 cnt1 wd1 og1 ng1 ow1 on1 w1 := by
        refine ⟨fun k hk => ?_, fun f => ?_⟩
        · obtain ⟨a1, a2, a3, a4, a5, a6, a7, a8, a9, a10, a11⟩ := r1.1 k hk
          exact ⟨a1, a2, a3, a4, a5, a6, a7, a8, a9, a10, by omega⟩
        · rw [r1.2 f]
          have z0 : q_sum (fun b => q_ci (1 ≤ b) (q_bw g g' (i + 1) b * f (i + 1) b)) 1 = 0 := by
            show 0 + q_ci (1 ≤ 0) _ = 0
            rw [q_ci_f (by omega)]; rfl
          rw [z0]
          have zz : q_ci (1 ≤ i + 1) 0 = 0 := q_ci_t (by omega) _
          rw [zz, Int.add_zero]
          show _ = q_sum (fun a => q_ci (1 ≤ a) (q_sum (fun b => q_ci (1 ≤ b) (q_bw g g' a b * f a b)) n')) i + q_ci (1 ≤ i) (q_sum (fun b => q_ci (1 ≤ b) (q_bw g g' i b * f i b)) n')
          congr 2
          by_cases e : 1 ≤ n'
          · rw [if_pos e]
          · rw [if_neg e, show n' = 0 by omega]
            show 0 + q_ci (1 ≤ 0) _ = 0
            rw [q_ci_f (by omega)]; rfl
      obtain ⟨cnt2, wd2, og2, ng2, ow2, on2, w2, e2, r3⟩ := ih (i + 1) cnt1 wd1 og1 ng1 ow1 on1 w1 (by omega) (by omega) (Or.inl (by omega)) r2
      refine ⟨cnt2, wd2, og2, ng2, ow2, on2, w2, ?_, by rw [if_pos (show i + 1 ≤ n by omega)] at r3; rw [if_pos (show i ≤ n by omega)]; exact r3⟩
      rw [if_neg (fun q => c ((N_le (by omega) (by omega)).mp q)), show (1 : Int32) = N 1 from rfl, bd4_i e1, lt_e, N_add]
      exact e2
/-! All of them, and what they sum to. -/
noncomputable def q_S2 (n n' : Nat) (g g' : Nat → Nat) (f : Nat → Nat → Int) : Int := q_sum (fun a => q_ci (1 ≤ a) (q_sum (fun b => q_ci (1 ≤ b) (q_bw g g' a b * f a b)) n')) n
def q_sts (n n' : Nat) (g g' : Nat → Nat) (cnt : Nat) (wd og ng : Nat → Int32) (ow on : Nat → Nat) (w : Nat → Int) : Prop :=
  cnt ≤ 78 ∧ (∀ k, k < cnt → wd k = J (w k) ∧ og k = N (ow k) ∧ ng k = N (on k) ∧ 1 ≤ ow k ∧ ow k < n ∧ 1 ≤ on k ∧ on k < n' ∧ 0 < w k ∧ w k ≤ 500) ∧ ∀ f : Nat → Nat → Int, q_sum (fun k => w k * f (ow k) (on k)) cnt = q_S2 n n' g g' f
theorem q_St {n n' : Nat} {g g' : Nat → Nat} {fo fw : Nat → Int32} (ho : q_rep fo n g) (hi : q_inc n g) (hb : q_bd n g 500) (hn : n ≤ 40) (ho' : q_rep fw n' g') (hi' : q_inc n' g') (hb' : q_bd n' g' 500) (hn' : n' ≤ 40) (v0 : Int32) (wd og ng : Nat → Int32) :
    ∃ cnt wd' og' ng' ow on w, m_St_find v0 wd og ng (N n) fo (N n') fw = some (N cnt, wd', og', ng') ∧ q_sts n n' g g' cnt wd' og' ng' ow on w := by
  have s0 : q_stv n n' g g' 1 1 0 wd og ng (fun _ => 0) (fun _ => 0) (fun _ => 0) := by
    refine ⟨fun k h => by omega, fun f => ?_⟩
    show 0 = 0 + q_ci (1 ≤ 0) _ + q_ci (1 ≤ 1) (0 + q_ci (1 ≤ 0) _)
    rw [q_ci_f (show ¬ 1 ≤ 0 by omega), q_ci_t (by omega), q_ci_f (show ¬ 1 ≤ 0 by omega)]; rfl
  obtain ⟨cnt, wd', og', ng', ow, on, w, e, r⟩ := q_St7 ho hi hb hn ho' hi' hb' hn' fu 1 0 wd og ng _ _ _ (by unfold fu; omega) (by omega) (Or.inr rfl) s0
  refine ⟨cnt, wd', og', ng', ow, on, w, ?_, ?_, fun k hk => ?_, fun f => ?_⟩
  · unfold m_St_find
    rw [show (1 : Int32) = N 1 from rfl, show (0 : Int32) = N 0 from rfl, bd4_i e]
  · refine Classical.byContradiction (fun z => ?_)
    obtain ⟨a1, a2, a3, a4, a5, a6, a7, a8, a9, a10, a11⟩ := r.1 (cnt - 1) (by omega)
    omega
  · obtain ⟨a1, a2, a3, a4, a5, a6, a7, a8, a9, a10, a11⟩ := r.1 k hk
    have := q_bw_p hb hb' a5 a7
    exact ⟨a1, a2, a3, a4, a5, a6, a7, a9, by rw [a8]; exact this.2.1⟩
  · rw [r.2 f]
    have z0 : ∀ i, q_sum (fun b => q_ci (1 ≤ b) (q_bw g g' i b * f i b)) 1 = 0 := fun i => by
      show 0 + q_ci (1 ≤ 0) _ = 0
      rw [q_ci_f (by omega)]; rfl
    rw [z0]
    have zz : ∀ p : Prop, q_ci p 0 = 0 := fun p => by unfold q_ci; exact Int.mul_zero _
    rw [zz, Int.add_zero]
    unfold q_S2
    by_cases c : 1 ≤ n
    · rw [if_pos c]
    · rw [if_neg c, show n = 0 by omega]
      show 0 + q_ci (1 ≤ 0) _ = 0
      rw [q_ci_f (by omega)]; rfl
/-! What an old and a new space have in common. -/
noncomputable def q_in2 (F' F : Ce → Int) (o s : Nat) (a c b d : Nat) : Int := (q_one (F' (a, c) = o ∧ F (b, d) = s) : Int)
noncomputable def q_ov (nx' nx ny' ny : Nat) (X' X Y' Y : Nat → Nat) (F' F : Ce → Int) (o s : Nat) : Int := q_S2 nx' nx X' X (fun a b => q_S2 ny' ny Y' Y (fun c d => q_in2 F' F o s a c b d))
def q_lb (w nx ny : Nat) (ce : Nat → Int32) (F : Ce → Int) (ns : Nat) : Prop := ∀ c r, 1 ≤ c → c < nx → 1 ≤ r → r < ny → ce (w * c + r) = J (F (c, r)) ∧ -1 ≤ F (c, r) ∧ F (c, r) < ns
def q_tb (w ns' ns : Nat) (ar : Nat → Int32) (A : Nat → Nat → Int) : Prop := ∀ o s, o < ns' → s < ns → ar (w * o + s) = J (A o s)
theorem q_tb_add {w ns' ns : Nat} {ar : Nat → Int32} {A : Nat → Nat → Int} (hw : ns ≤ w) (h : q_tb w ns' ns ar A) {o s : Nat} (ho : o < ns') (hs : s < ns) (x : Int) : q_tb w ns' ns (upd ar (w * o + s) (J (A o s + x))) (fun o' s' => A o' s' + (q_one (o = o' ∧ s = s') : Int) * x) := by
  intro o' s' ho' hs'
  dsimp only
  by_cases e : o = o' ∧ s = s'
  · obtain ⟨e1, e2⟩ := e; subst e1; subst e2
    rw [upd_s, q_one_t (show o = o ∧ s = s from ⟨rfl, rfl⟩)]; congr 1; show _ = A o s + ((1 : Nat) : Int) * x; rw [show ((1 : Nat) : Int) * x = x from Int.one_mul x]
  · rw [upd_n _ _ (fun q => e (by obtain ⟨u, v⟩ := q_enc (by omega) (by omega) q; exact ⟨u.symm, v.symm⟩)), h o' s' ho' hs', q_one_f e]
    congr 1; show _ = A o' s' + ((0 : Nat) : Int) * x; rw [show ((0 : Nat) : Int) * x = 0 from Int.zero_mul x, Int.add_zero]
theorem q_tb.congr {w ns' ns : Nat} {ar : Nat → Int32} {A B : Nat → Nat → Int} (h : q_tb w ns' ns ar A) (e : ∀ o s, o < ns' → s < ns → A o s = B o s) : q_tb w ns' ns ar B := fun o s ho hs => by rw [h o s ho hs, e o s ho hs]
theorem q_Co75 {nx' nx ny' ny ns' ns : Nat} {Y' Y : Nat → Nat} {F' F : Ce → Int} {c1 c2 cwd cog cng wd og ng : Nat → Int32} {cnt : Nat} {ow on : Nat → Nat} {w : Nat → Int} (hs' : ns' ≤ 81) (hs : ns ≤ 81) (hx' : nx' ≤ 40) (hx : nx ≤ 40) (hy' : ny' ≤ 40) (hy : ny ≤ 40) (l1 : q_lb 41 nx' ny' c1 F' ns') (l2 : q_lb 41 nx ny c2 F ns) (hr : q_sts ny' ny Y' Y cnt wd og ng ow on w)
    {cs i j : Nat} {wc : Int} (hcs : cs < 80) (hi : 1 ≤ i ∧ i < nx') (hj : 1 ≤ j ∧ j < nx) (hwc : cwd cs = J wc ∧ cog cs = N i ∧ cng cs = N j) (A0 : Nat → Nat → Int) :
    ∀ fuel k ar, cnt - k < fuel → k ≤ cnt → q_tb 81 ns' ns ar (fun o s => A0 o s + wc * q_sum (fun k => w k * q_in2 F' F o s i (ow k) j (on k)) k) →
    ∃ ar', m_Co_find_L75 (N cs) cwd cog cng (N cnt) wd og ng c1 c2 fuel (N k) ar = some ar' ∧ q_tb 81 ns' ns ar' (fun o s => A0 o s + wc * q_sum (fun k => w k * q_in2 F' F o s i (ow k) j (on k)) cnt) := by
  obtain ⟨r1, r2, r3⟩ := hr
  obtain ⟨w1, w2, w3⟩ := hwc
  intro fuel
  induction fuel with
  | zero => intro k ar h; omega
  | succ m ih =>
    intro k ar hm hk ht
    rw [m_Co_find_L75]
    by_cases c : cnt ≤ k
    · rw [if_pos ((N_le (by omega) (by omega)).mpr c)]
      have e : k = cnt := by omega
      subst e
      exact ⟨ar, rfl, ht⟩
    · obtain ⟨a1, a2, a3, a4, a5, a6, a7, a8, a9⟩ := r2 k (by omega)
      obtain ⟨f1, f2, f3⟩ := l1 i (ow k) hi.1 hi.2 a4 a5
      obtain ⟨g1, g2, g3⟩ := l2 j (on k) hj.1 hj.2 a6 a7
      have es : ∀ o s, q_sum (fun k => w k * q_in2 F' F o s i (ow k) j (on k)) (k + 1) = q_sum (fun k => w k * q_in2 F' F o s i (ow k) j (on k)) k + w k * q_in2 F' F o s i (ow k) j (on k) := fun o s => rfl
      rw [if_neg (fun q => c ((N_le (by omega) (by omega)).mp q)), gI_N (by omega) (by omega), gI_N (by omega) (by omega), N_nat (by omega), N_nat (by omega), w2, a2, q_cell, bd1_i rfl, gI_N (by omega) (by omega), N_nat (by omega), f1, lt_e, gI_N (by omega) (by omega), gI_N (by omega) (by omega), w3, a3, q_cell, bd1_i rfl, gI_N (by omega) (by omega), N_nat (by omega), g1, lt_e, show (0 : Int32) = J 0 from rfl]
      by_cases z1 : F' (i, ow k) < 0
      · obtain ⟨ar', e, r⟩ := ih (k + 1) ar (by omega) (by omega) (ht.congr (fun o s _ _ => by
          have : q_in2 F' F o s i (ow k) j (on k) = 0 := by unfold q_in2; rw [q_one_f (fun q => by omega)]; rfl
          rw [es, this, Int.mul_zero, Int.add_zero]))
        refine ⟨ar', ?_, r⟩
        rw [if_pos ((J_lt (by omega) (by omega) (by omega) (by omega)).mpr z1), bd1_i rfl, lt_e, N_lit 1, N_add]
        exact e
      · rw [if_neg (fun q => z1 ((J_lt (by omega) (by omega) (by omega) (by omega)).mp q))]
        by_cases z2 : F (j, on k) < 0
        · obtain ⟨ar', e, r⟩ := ih (k + 1) ar (by omega) (by omega) (ht.congr (fun o s _ _ => by
            have : q_in2 F' F o s i (ow k) j (on k) = 0 := by unfold q_in2; rw [q_one_f (fun q => by omega)]; rfl
            rw [es, this, Int.mul_zero, Int.add_zero]))
          refine ⟨ar', ?_, r⟩
          rw [if_pos ((J_lt (by omega) (by omega) (by omega) (by omega)).mpr z2), bd1_i rfl, lt_e, N_lit 1, N_add]
          exact e
        · obtain ⟨o, eo⟩ : ∃ o : Nat, F' (i, ow k) = o := ⟨(F' (i, ow k)).toNat, by omega⟩
          obtain ⟨s, es2⟩ : ∃ s : Nat, F (j, on k) = s := ⟨(F (j, on k)).toNat, by omega⟩
          have ho : o < ns' := by omega
          have hs2 : s < ns := by omega
          have ev := ht o s ho hs2
          have add := q_tb_add (w := 81) (by omega) ht ho hs2 (wc * w k)
          obtain ⟨ar', e, r⟩ := ih (k + 1) _ (by omega) (by omega) (add.congr (fun o' s' _ _ => by
            have : q_in2 F' F o' s' i (ow k) j (on k) = (q_one (o = o' ∧ s = s') : Int) := by
              unfold q_in2; congr 1; exact q_one_c ⟨fun q => by omega, fun q => by omega⟩
            rw [es, this]
            generalize (q_one (o = o' ∧ s = s') : Int) = u
            rw [Int.mul_add, Int.add_assoc]
            congr 2
            grind))
          refine ⟨ar', ?_, r⟩
          rw [if_neg (fun q => z2 ((J_lt (by omega) (by omega) (by omega) (by omega)).mp q)), eo, es2, show J (o : Int) * 81 + J (s : Int) = N (81 * o + s) from by rw [N_lit 81, ← N_J, ← N_J, N_mul, N_add, Nat.mul_comm], gI_N (by omega) (by omega), gI_N (by omega) (by omega), gI_N (by omega) (by omega), gI_N (by omega) (by omega), lt_e, N_nat (by omega), w1, a1, ev, J_mul, J_add, bd1_i rfl, lt_e, N_lit 1, N_add]
          exact e
theorem q_Co61 {nx' nx ny' ny ns' ns : Nat} {X' X Y' Y : Nat → Nat} {F' F : Ce → Int} {c1 c2 cwd cog cng wd og ng : Nat → Int32} {cc cnt : Nat} {cow con ow on : Nat → Nat} {cw w : Nat → Int} (hs' : ns' ≤ 81) (hs : ns ≤ 81) (hx' : nx' ≤ 40) (hx : nx ≤ 40) (hy' : ny' ≤ 40) (hy : ny ≤ 40) (l1 : q_lb 41 nx' ny' c1 F' ns') (l2 : q_lb 41 nx ny c2 F ns) (hcl : q_sts nx' nx X' X cc cwd cog cng cow con cw) (hr : q_sts ny' ny Y' Y cnt wd og ng ow on w) :
    ∀ fuel k ar, cc - k < fuel → k ≤ cc → q_tb 81 ns' ns ar (fun o s => q_sum (fun c => cw c * q_sum (fun k => w k * q_in2 F' F o s (cow c) (ow k) (con c) (on k)) cnt) k) →
    ∃ ar', m_Co_find_L61 (N cc) cwd cog cng (N cnt) wd og ng c1 c2 fuel (N k) ar = some ar' ∧ q_tb 81 ns' ns ar' (fun o s => q_sum (fun c => cw c * q_sum (fun k => w k * q_in2 F' F o s (cow c) (ow k) (con c) (on k)) cnt) cc) := by
  obtain ⟨k1, k2, k3⟩ := hcl
  intro fuel
  induction fuel with
  | zero => intro k ar h; omega
  | succ m ih =>
    intro k ar hm hk ht
    rw [m_Co_find_L61]
    by_cases c : cc ≤ k
    · rw [if_pos ((N_le (by omega) (by omega)).mpr c)]
      have e : k = cc := by omega
      subst e
      exact ⟨ar, rfl, ht⟩
    · obtain ⟨a1, a2, a3, a4, a5, a6, a7, a8, a9⟩ := k2 k (by omega)
      obtain ⟨ar1, e1, t1⟩ := q_Co75 (cwd := cwd) (cog := cog) (cng := cng) hs' hs hx' hx hy' hy l1 l2 hr (cs := k) (wc := cw k) (by omega) ⟨a4, a5⟩ ⟨a6, a7⟩ ⟨a1, a2, a3⟩ (fun o s => q_sum (fun c => cw c * q_sum (fun k => w k * q_in2 F' F o s (cow c) (ow k) (con c) (on k)) cnt) k) fu 0 ar (by have := hr.1; unfold fu; omega) (by omega) (ht.congr (fun o s _ _ => by
        show _ = _ + cw k * 0
        rw [Int.mul_zero, Int.add_zero]))
      obtain ⟨ar2, e2, t2⟩ := ih (k + 1) ar1 (by omega) (by omega) t1
      refine ⟨ar2, ?_, t2⟩
      rw [if_neg (fun q => c ((N_le (by omega) (by omega)).mp q)), show (0 : Int32) = N 0 from rfl, bd1_i e1, lt_e, N_lit 1, N_add]
      exact e2
/-! The class's common areas. -/
theorem q_Cfind2 {nx' nx ny' ny ns' ns : Nat} {X' X Y' Y : Nat → Nat} {F' F : Ce → Int} {c1 c2 fx' fx fy' fy : Nat → Int32} (hs' : ns' ≤ 81) (hs : ns ≤ 81) (hx' : nx' ≤ 40) (hx : nx ≤ 40) (hy' : ny' ≤ 40) (hy : ny ≤ 40) (l1 : q_lb 41 nx' ny' c1 F' ns') (l2 : q_lb 41 nx ny c2 F ns) (g1 : q_gr nx' ny' X' Y' fx' fy') (g2 : q_gr nx ny X Y fx fy)
    {kn : Prop} (v1 v2 : Int32) (a1 a2 a3 a4 a5 a6 ar : Nat → Int32) (hk : kn → q_tb 81 ns' ns ar (q_ov nx' nx ny' ny X' X Y' Y F' F)) :
    ∃ w1 b1 b2 b3 w2 b4 b5 b6 ar', m_Co_find (N (q_one kn)) v1 a1 a2 a3 v2 a4 a5 a6 ar (N ns') (N nx') fx' (N ny') fy' c1 (N nx) fx (N ny) fy c2 = some (1, w1, b1, b2, b3, w2, b4, b5, b6, ar') ∧ q_tb 81 ns' ns ar' (q_ov nx' nx ny' ny X' X Y' Y F' F) := by
  unfold m_Co_find
  by_cases z : kn
  · rw [if_neg (fun q => (q_one0 _).mp q z), q_one_t z]
    exact ⟨v1, a1, a2, a3, v2, a4, a5, a6, ar, rfl, hk z⟩
  · rw [if_pos ((q_one0 _).mpr z)]
    obtain ⟨cc, cwd, cog, cng, cow, con, cw, e1, s1⟩ := q_St g1.1 g1.2.1 g1.2.2.1 hx' g2.1 g2.2.1 g2.2.2.1 hx v1 a1 a2 a3
    obtain ⟨cnt, wd, og, ng, ow, on, w, e2, s2⟩ := q_St g1.2.2.2.1 g1.2.2.2.2.1 g1.2.2.2.2.2 hy' g2.2.2.2.1 g2.2.2.2.2.1 g2.2.2.2.2.2 hy v2 a4 a5 a6
    have t0 : q_tb 81 ns' ns (fun j => if 0 ≤ j ∧ j < ns' * 81 then (0 : Int32) else ar j) (fun o s => q_sum (fun c => cw c * q_sum (fun k => w k * q_in2 F' F o s (cow c) (ow k) (con c) (on k)) cnt) 0) := by
      intro o s ho hs2
      dsimp only
      rw [if_pos (by omega)]; rfl
    obtain ⟨ar', e3, t3⟩ := q_Co61 hs' hs hx' hx hy' hy l1 l2 s1 s2 fu 0 _ (by have := s1.1; unfold fu; omega) (by omega) t0
    refine ⟨N cc, cwd, cog, cng, N cnt, wd, og, ng, ar', ?_, t3.congr (fun o s _ _ => ?_)⟩
    · rw [N_lit 81, N_mul, show (0 : Int32) = N 0 from rfl, q_fill1 _ (by omega) (by omega) (by omega), bd1_i rfl, bd4_i e1, bd4_i e2]
      have e3' : m_Co_find_L61 (N cc) cwd cog cng (N cnt) wd og ng c1 c2 fu (N 0) (fun j => if 0 ≤ j ∧ j < ns' * 81 then N 0 else ar j) = some ar' := e3
      rw [bd1_i e3']
    · unfold q_ov
      rw [← s1.2.2 (fun a b => q_S2 ny' ny Y' Y (fun c d => q_in2 F' F o s a c b d))]
      refine q_sum_c (fun c _ => ?_)
      rw [← s2.2.2 (fun x y => q_in2 F' F o s (cow c) x (con c) y)]
/-! Bounds. -/
theorem q_ov_bd {nx' nx ny' ny : Nat} {X' X Y' Y : Nat → Nat} {F' F : Ce → Int} {fx' fx fy' fy : Nat → Int32} (hx' : nx' ≤ 40) (hx : nx ≤ 40) (hy' : ny' ≤ 40) (hy : ny ≤ 40) (g1 : q_gr nx' ny' X' Y' fx' fy') (g2 : q_gr nx ny X Y fx fy) (o s : Nat) : 0 ≤ q_ov nx' nx ny' ny X' X Y' Y F' F o s ∧ q_ov nx' nx ny' ny X' X Y' Y F' F o s ≤ 1600000000 := by
  obtain ⟨cc, cwd, cog, cng, cow, con, cw, e1, s1, s2, s3⟩ := q_St g1.1 g1.2.1 g1.2.2.1 hx' g2.1 g2.2.1 g2.2.2.1 hx 0 fx fx fx
  obtain ⟨cnt, wd, og, ng, ow, on, w, e2, t1, t2, t3⟩ := q_St g1.2.2.2.1 g1.2.2.2.2.1 g1.2.2.2.2.2 hy' g2.2.2.2.1 g2.2.2.2.2.1 g2.2.2.2.2.2 hy 0 fx fx fx
  have row : ∀ a b, 0 ≤ q_S2 ny' ny Y' Y (fun c d => q_in2 F' F o s a c b d) ∧ q_S2 ny' ny Y' Y (fun c d => q_in2 F' F o s a c b d) ≤ 39000 := by
    intro a b
    rw [← t3]
    have bd : ∀ k, k < cnt → 0 ≤ w k * q_in2 F' F o s a (ow k) b (on k) ∧ w k * q_in2 F' F o s a (ow k) b (on k) ≤ 500 := by
      intro k hk
      obtain ⟨_, _, _, _, _, _, _, z1, z2⟩ := t2 k hk
      unfold q_in2
      by_cases c : F' (a, ow k) = o ∧ F (b, on k) = s
      · rw [q_one_t c, show w k * ((1 : Nat) : Int) = w k from Int.mul_one _]; omega
      · rw [q_one_f c, show w k * ((0 : Nat) : Int) = 0 from Int.mul_zero _]; omega
    refine ⟨q_sum_nn (fun k hk => (bd k hk).1), ?_⟩
    have := q_sum_le (f := fun k => w k * q_in2 F' F o s a (ow k) b (on k)) (B := 500) (by omega) (m := cnt) (fun k hk => (bd k hk).2)
    omega
  unfold q_ov
  rw [← s3]
  have bd : ∀ k, k < cc → 0 ≤ cw k * q_S2 ny' ny Y' Y (fun c d => q_in2 F' F o s (cow k) c (con k) d) ∧ cw k * q_S2 ny' ny Y' Y (fun c d => q_in2 F' F o s (cow k) c (con k) d) ≤ 19500000 := by
    intro k hk
    obtain ⟨_, _, _, _, _, _, _, z1, z2⟩ := s2 k hk
    have r := row (cow k) (con k)
    refine ⟨Int.mul_nonneg (by omega) r.1, ?_⟩
    have m1 := Int.mul_le_mul z2 r.2 r.1 (by omega)
    omega
  refine ⟨q_sum_nn (fun k hk => (bd k hk).1), ?_⟩
  have := q_sum_le (f := fun k => cw k * q_S2 ny' ny Y' Y (fun c d => q_in2 F' F o s (cow k) c (con k) d)) (B := 19500000) (by omega) (m := cc) (fun k hk => (bd k hk).2)
  omega
theorem q_bothN {n n' : Nat} {g g' : Nat → Nat} {f f' : Nat → Int32} (ho : q_rep f n g) (hb : q_bd n g 500) (hn : n ≤ 40) (ho' : q_rep f' n' g') (hb' : q_bd n' g' 500) (hn' : n' ≤ 40) {i j : Nat} (h1 : 1 ≤ i) (h2 : i < n) (h3 : 1 ≤ j) (h4 : j < n') :
    m_Mo_both (f (i - 1)) (f i) (f' (j - 1)) (f' j) = some (J (q_bw g g' i j)) := by
  have a1 := hb i h2
  have a2 := hb (i - 1) (by omega)
  have a3 := hb' j h4
  have a4 := hb' (j - 1) (by omega)
  rw [ho i h2, ho (i - 1) (by omega), ho' j h4, ho' (j - 1) (by omega), N_J, N_J, N_J, N_J]
  obtain ⟨z, e, _, _, _, ez⟩ := q_both (a := g (i - 1)) (b := g i) (c := g' (j - 1)) (d := g' j) (by omega) (by omega) (by omega) (by omega)
  rw [e, ez]; rfl
theorem q_R15 {nx' nx ny' ny ns' ns : Nat} {Y' Y : Nat → Nat} {F' F : Ce → Int} {c1 c2 fy' fy : Nat → Int32} (hs' : ns' ≤ 81) (hs : ns ≤ 81) (hx' : nx' ≤ 40) (hx : nx ≤ 40) (hy' : ny' ≤ 40) (hy : ny ≤ 40) (l1 : q_lb 42 nx' ny' c1 F' ns') (l2 : q_lb 42 nx ny c2 F ns) (o1 : q_rep fy' ny' Y') (b1 : q_bd ny' Y' 500) (o2 : q_rep fy ny Y) (b2 : q_bd ny Y 500)
    {i j c : Nat} {wc : Int} (hi : 1 ≤ i ∧ i < nx') (hj : 1 ≤ j ∧ j < nx) (hc : 1 ≤ c ∧ c < ny') (A0 : Nat → Nat → Int) :
    ∀ fuel d ar, ny - d < fuel → 1 ≤ d → (d ≤ ny ∨ d = 1) → q_tb 200 ns' ns ar (fun o s => A0 o s + wc * q_sum (fun d => q_ci (1 ≤ d) (q_bw Y' Y c d * q_in2 F' F o s i c j d)) d) →
    ∃ ar', m_Mo_compareColumns_L15 (N i) (N j) (J wc) (N c) (N ny) fy c2 fy' c1 fuel (N d) ar = some ar' ∧ q_tb 200 ns' ns ar' (fun o s => A0 o s + wc * q_sum (fun d => q_ci (1 ≤ d) (q_bw Y' Y c d * q_in2 F' F o s i c j d)) (if d ≤ ny then ny else d)) := by
  intro fuel
  induction fuel with
  | zero => intro d ar h; omega
  | succ m ih =>
    intro d ar hm hd hdn ht
    rw [m_Mo_compareColumns_L15]
    by_cases k : ny ≤ d
    · rw [if_pos ((N_le (by omega) (by omega)).mpr k)]
      refine ⟨ar, rfl, ?_⟩
      by_cases e : d ≤ ny
      · have ed : d = ny := by omega
        subst ed; rw [if_pos e]; exact ht
      · rw [if_neg e]; exact ht
    · obtain ⟨f1, f2, f3⟩ := l1 i c hi.1 hi.2 hc.1 hc.2
      obtain ⟨g1, g2, g3⟩ := l2 j d hj.1 hj.2 hd (by omega)
      have es : ∀ o s, q_sum (fun d => q_ci (1 ≤ d) (q_bw Y' Y c d * q_in2 F' F o s i c j d)) (d + 1) = q_sum (fun d => q_ci (1 ≤ d) (q_bw Y' Y c d * q_in2 F' F o s i c j d)) d + q_bw Y' Y c d * q_in2 F' F o s i c j d := fun o s => by
        show _ + q_ci (1 ≤ d) _ = _
        rw [q_ci_t hd]
      have fin : ∀ ar', q_tb 200 ns' ns ar' (fun o s => A0 o s + wc * q_sum (fun d => q_ci (1 ≤ d) (q_bw Y' Y c d * q_in2 F' F o s i c j d)) (if d + 1 ≤ ny then ny else d + 1)) → q_tb 200 ns' ns ar' (fun o s => A0 o s + wc * q_sum (fun d => q_ci (1 ≤ d) (q_bw Y' Y c d * q_in2 F' F o s i c j d)) (if d ≤ ny then ny else d)) := by
        intro ar' h
        rw [if_pos (show d + 1 ≤ ny by omega)] at h
        rw [if_pos (show d ≤ ny by omega)]; exact h
      rw [if_neg (fun q => k ((N_le (by omega) (by omega)).mp q)), show 42 * N i + N c = N (42 * i + c) from by rw [N_lit 42, N_mul, N_add], show 42 * N j + N d = N (42 * j + d) from by rw [N_lit 42, N_mul, N_add], gI_N (by omega) (by omega), N_nat (by omega), f1, lt_e, gI_N (by omega) (by omega), N_nat (by omega), g1, lt_e, show (0 : Int32) = J 0 from rfl]
      by_cases z1 : F' (i, c) < 0
      · obtain ⟨ar', e, r⟩ := ih (d + 1) ar (by omega) (by omega) (Or.inl (by omega)) (ht.congr (fun o s _ _ => by
          have : q_in2 F' F o s i c j d = 0 := by unfold q_in2; rw [q_one_f (fun q => by omega)]; rfl
          rw [es, this, Int.mul_zero, Int.add_zero]))
        refine ⟨ar', ?_, fin ar' r⟩
        rw [if_pos ((J_lt (by omega) (by omega) (by omega) (by omega)).mpr z1), bd1_i rfl, lt_e, N_lit 1, N_add]
        exact e
      · rw [if_neg (fun q => z1 ((J_lt (by omega) (by omega) (by omega) (by omega)).mp q))]
        by_cases z2 : F (j, d) < 0
        · obtain ⟨ar', e, r⟩ := ih (d + 1) ar (by omega) (by omega) (Or.inl (by omega)) (ht.congr (fun o s _ _ => by
            have : q_in2 F' F o s i c j d = 0 := by unfold q_in2; rw [q_one_f (fun q => by omega)]; rfl
            rw [es, this, Int.mul_zero, Int.add_zero]))
          refine ⟨ar', ?_, fin ar' r⟩
          rw [if_pos ((J_lt (by omega) (by omega) (by omega) (by omega)).mpr z2), bd1_i rfl, lt_e, N_lit 1, N_add]
          exact e
        · obtain ⟨o, eo⟩ : ∃ o : Nat, F' (i, c) = o := ⟨(F' (i, c)).toNat, by omega⟩
          obtain ⟨s, es2⟩ : ∃ s : Nat, F (j, d) = s := ⟨(F (j, d)).toNat, by omega⟩
          have ho : o < ns' := by omega
          have hs2 : s < ns := by omega
          have ev := ht o s ho hs2
          have add := q_tb_add (w := 200) (by omega) ht ho hs2 (wc * q_bw Y' Y c d)
          obtain ⟨ar', e, r⟩ := ih (d + 1) _ (by omega) (by omega) (Or.inl (by omega)) (add.congr (fun o' s' _ _ => by
            have : q_in2 F' F o' s' i c j d = (q_one (o = o' ∧ s = s') : Int) := by
              unfold q_in2; congr 1; exact q_one_c ⟨fun q => by omega, fun q => by omega⟩
            rw [es, this]
            generalize (q_one (o = o' ∧ s = s') : Int) = u
            rw [Int.mul_add, Int.add_assoc]
            congr 2
            grind))
          refine ⟨ar', ?_, fin ar' r⟩
          have bt := q_bothN o1 b1 hy' o2 b2 hy hc.1 hc.2 hd (show d < ny by omega)
          rw [if_neg (fun q => z2 ((J_lt (by omega) (by omega) (by omega) (by omega)).mp q)), eo, es2, show 200 * J (o : Int) + J (s : Int) = N (200 * o + s) from by rw [N_lit 200, ← N_J, ← N_J, N_mul, N_add], gI_N (by omega) (by omega), show N c - 1 = N (c - 1) from by rw [N_lit 1, N_sub hc.1], show N d - 1 = N (d - 1) from by rw [N_lit 1, N_sub hd], gI_N (by omega) (by omega), gI_N (by omega) (by omega), gI_N (by omega) (by omega), gI_N (by omega) (by omega), N_nat (by omega), N_nat (by omega), N_nat (by omega), N_nat (by omega), bt, bd1_i rfl, gI_N (by omega) (by omega), lt_e, N_nat (by omega), ev, J_mul, J_add, bd1_i rfl, lt_e, N_lit 1, N_add]
          exact e
theorem q_R3 {nx' nx ny' ny ns' ns : Nat} {Y' Y : Nat → Nat} {F' F : Ce → Int} {c1 c2 fy' fy : Nat → Int32} (hs' : ns' ≤ 81) (hs : ns ≤ 81) (hx' : nx' ≤ 40) (hx : nx ≤ 40) (hy' : ny' ≤ 40) (hy : ny ≤ 40) (l1 : q_lb 42 nx' ny' c1 F' ns') (l2 : q_lb 42 nx ny c2 F ns) (o1 : q_rep fy' ny' Y') (b1 : q_bd ny' Y' 500) (o2 : q_rep fy ny Y) (b2 : q_bd ny Y 500)
    {i j : Nat} {wc : Int} (hi : 1 ≤ i ∧ i < nx') (hj : 1 ≤ j ∧ j < nx) (A0 : Nat → Nat → Int) :
    ∀ fuel c ar, ny' - c < fuel → 1 ≤ c → (c ≤ ny' ∨ c = 1) → q_tb 200 ns' ns ar (fun o s => A0 o s + wc * q_sum (fun c => q_ci (1 ≤ c) (q_sum (fun d => q_ci (1 ≤ d) (q_bw Y' Y c d * q_in2 F' F o s i c j d)) ny)) c) →
    ∃ ar', m_Mo_compareColumns_L3 (N i) (N j) (J wc) (N ny) (N ny') fy c2 fy' c1 fuel (N c) ar = some ar' ∧ q_tb 200 ns' ns ar' (fun o s => A0 o s + wc * q_sum (fun c => q_ci (1 ≤ c) (q_sum (fun d => q_ci (1 ≤ d) (q_bw Y' Y c d * q_in2 F' F o s i c j d)) ny)) (if c ≤ ny' then ny' else c)) := by
  intro fuel
  induction fuel with
  | zero => intro d ar h; omega
  | succ m ih =>
    intro c ar hm hc hcn ht
    rw [m_Mo_compareColumns_L3]
    by_cases k : ny' ≤ c
    · rw [if_pos ((N_le (by omega) (by omega)).mpr k)]
      refine ⟨ar, rfl, ?_⟩
      by_cases e : c ≤ ny'
      · have ed : c = ny' := by omega
        subst ed; rw [if_pos e]; exact ht
      · rw [if_neg e]; exact ht
    · obtain ⟨ar1, e1, t1⟩ := q_R15 hs' hs hx' hx hy' hy l1 l2 o1 b1 o2 b2 (wc := wc) hi hj ⟨hc, show c < ny' by omega⟩ (fun o s => A0 o s + wc * q_sum (fun c => q_ci (1 ≤ c) (q_sum (fun d => q_ci (1 ≤ d) (q_bw Y' Y c d * q_in2 F' F o s i c j d)) ny)) c) fu 1 ar (by unfold fu; omega) (by omega) (Or.inr rfl) (ht.congr (fun o s _ _ => by
        have z0 : q_sum (fun d => q_ci (1 ≤ d) (q_bw Y' Y c d * q_in2 F' F o s i c j d)) 1 = 0 := by
          show 0 + q_ci (1 ≤ 0) _ = 0
          rw [q_ci_f (by omega)]; rfl
        rw [z0, Int.mul_zero, Int.add_zero]))
      have t2 : q_tb 200 ns' ns ar1 (fun o s => A0 o s + wc * q_sum (fun c => q_ci (1 ≤ c) (q_sum (fun d => q_ci (1 ≤ d) (q_bw Y' Y c d * q_in2 F' F o s i c j d)) ny)) (c + 1)) := t1.congr (fun o s _ _ => by
        have ee : q_sum (fun d => q_ci (1 ≤ d) (q_bw Y' Y c d * q_in2 F' F o s i c j d)) (if 1 ≤ ny then ny else 1) = q_sum (fun d => q_ci (1 ≤ d) (q_bw Y' Y c d * q_in2 F' F o s i c j d)) ny := by
          by_cases e : 1 ≤ ny
          · rw [if_pos e]
          · rw [if_neg e, show ny = 0 by omega]
            show 0 + q_ci (1 ≤ 0) _ = 0
            rw [q_ci_f (by omega)]; rfl
        rw [ee]
        show _ = A0 o s + wc * (q_sum (fun c => q_ci (1 ≤ c) (q_sum (fun d => q_ci (1 ≤ d) (q_bw Y' Y c d * q_in2 F' F o s i c j d)) ny)) c + q_ci (1 ≤ c) (q_sum (fun d => q_ci (1 ≤ d) (q_bw Y' Y c d * q_in2 F' F o s i c j d)) ny))
        rw [q_ci_t hc, Int.mul_add, Int.add_assoc])
      obtain ⟨ar2, e2, t3⟩ := ih (c + 1) ar1 (by omega) (by omega) (Or.inl (by omega)) t2
      refine ⟨ar2, ?_, by rw [if_pos (show c + 1 ≤ ny' by omega)] at t3; rw [if_pos (show c ≤ ny' by omega)]; exact t3⟩
      rw [if_neg (fun q => k ((N_le (by omega) (by omega)).mp q)), show (1 : Int32) = N 1 from rfl, bd1_i e1, lt_e, N_add]
      exact e2
theorem q_R33 {nx' nx ny' ny ns' ns : Nat} {X' X Y' Y : Nat → Nat} {F' F : Ce → Int} {c1 c2 fx' fx fy' fy : Nat → Int32} (hs' : ns' ≤ 81) (hs : ns ≤ 81) (hx' : nx' ≤ 40) (hx : nx ≤ 40) (hy' : ny' ≤ 40) (hy : ny ≤ 40) (l1 : q_lb 42 nx' ny' c1 F' ns') (l2 : q_lb 42 nx ny c2 F ns) (g1 : q_gr nx' ny' X' Y' fx' fy') (g2 : q_gr nx ny X Y fx fy)
    {i : Nat} (hi : 1 ≤ i ∧ i < nx') (A0 : Nat → Nat → Int) :
    ∀ fuel j ar, nx - j < fuel → 1 ≤ j → (j ≤ nx ∨ j = 1) → q_tb 200 ns' ns ar (fun o s => A0 o s + q_sum (fun b => q_ci (1 ≤ b) (q_bw X' X i b * q_S2 ny' ny Y' Y (fun c d => q_in2 F' F o s i c b d))) j) →
    ∃ ar', m_Mo_compareRuns_L33 (N i) (N nx) (N ny) (N ny') fx fy c2 fx' fy' c1 fuel (N j) ar = some ar' ∧ q_tb 200 ns' ns ar' (fun o s => A0 o s + q_sum (fun b => q_ci (1 ≤ b) (q_bw X' X i b * q_S2 ny' ny Y' Y (fun c d => q_in2 F' F o s i c b d))) (if j ≤ nx then nx else j)) := by
  intro fuel
  induction fuel with
  | zero => intro d ar h; omega
  | succ m ih =>
    intro j ar hm hj hjn ht
    rw [m_Mo_compareRuns_L33]
    by_cases k : nx ≤ j
    · rw [if_pos ((N_le (by omega) (by omega)).mpr k)]
      refine ⟨ar, rfl, ?_⟩
      by_cases e : j ≤ nx
      · have ed : j = nx := by omega
        subst ed; rw [if_pos e]; exact ht
      · rw [if_neg e]; exact ht
    · have bt := q_bothN g1.1 g1.2.2.1 hx' g2.1 g2.2.2.1 hx hi.1 hi.2 hj (show j < nx by omega)
      have bw := q_bw_p g1.2.2.1 g2.2.2.1 hi.2 (show j < nx by omega)
      have es : ∀ o s, q_sum (fun b => q_ci (1 ≤ b) (q_bw X' X i b * q_S2 ny' ny Y' Y (fun c d => q_in2 F' F o s i c b d))) (j + 1) = q_sum (fun b => q_ci (1 ≤ b) (q_bw X' X i b * q_S2 ny' ny Y' Y (fun c d => q_in2 F' F o s i c b d))) j + q_bw X' X i j * q_S2 ny' ny Y' Y (fun c d => q_in2 F' F o s i c j d) := fun o s => by
        show _ + q_ci (1 ≤ j) _ = _
        rw [q_ci_t hj]
      rw [if_neg (fun q => k ((N_le (by omega) (by omega)).mp q)), show N i - 1 = N (i - 1) from by rw [N_lit 1, N_sub hi.1], show N j - 1 = N (j - 1) from by rw [N_lit 1, N_sub hj], gI_N (by omega) (by omega), gI_N (by omega) (by omega), gI_N (by omega) (by omega), gI_N (by omega) (by omega), N_nat (by omega), N_nat (by omega), N_nat (by omega), N_nat (by omega), bt, bd1_i rfl, show (0 : Int32) = J 0 from rfl]
      by_cases z : q_bw X' X i j ≤ 0
      · obtain ⟨ar', e, r⟩ := ih (j + 1) ar (by omega) (by omega) (Or.inl (by omega)) (ht.congr (fun o s _ _ => by rw [es, show q_bw X' X i j = 0 by omega, Int.zero_mul, Int.add_zero]))
        refine ⟨ar', ?_, by rw [if_pos (show j + 1 ≤ nx by omega)] at r; rw [if_pos (show j ≤ nx by omega)]; exact r⟩
        rw [if_pos ((J_le (by omega) (by omega) (by omega) (by omega)).mpr z), bd1_i rfl, lt_e, N_lit 1, N_add]
        exact e
      · obtain ⟨ar1, e1, t1⟩ := q_R3 hs' hs hx' hx hy' hy l1 l2 g1.2.2.2.1 g1.2.2.2.2.2 g2.2.2.2.1 g2.2.2.2.2.2 (wc := q_bw X' X i j) hi ⟨hj, show j < nx by omega⟩ (fun o s => A0 o s + q_sum (fun b => q_ci (1 ≤ b) (q_bw X' X i b * q_S2 ny' ny Y' Y (fun c d => q_in2 F' F o s i c b d))) j) fu 1 ar (by unfold fu; omega) (by omega) (Or.inr rfl) (ht.congr (fun o s _ _ => by
          have z0 : q_sum (fun c => q_ci (1 ≤ c) (q_sum (fun d => q_ci (1 ≤ d) (q_bw Y' Y c d * q_in2 F' F o s i c j d)) ny)) 1 = 0 := by
            show 0 + q_ci (1 ≤ 0) _ = 0
            rw [q_ci_f (by omega)]; rfl
          rw [z0, Int.mul_zero, Int.add_zero]))
        obtain ⟨ar2, e2, t3⟩ := ih (j + 1) ar1 (by omega) (by omega) (Or.inl (by omega)) (t1.congr (fun o s _ _ => by
          have ee : q_sum (fun c => q_ci (1 ≤ c) (q_sum (fun d => q_ci (1 ≤ d) (q_bw Y' Y c d * q_in2 F' F o s i c j d)) ny)) (if 1 ≤ ny' then ny' else 1) = q_S2 ny' ny Y' Y (fun c d => q_in2 F' F o s i c j d) := by
            unfold q_S2
            by_cases e : 1 ≤ ny'
            · rw [if_pos e]
            · rw [if_neg e, show ny' = 0 by omega]
              show 0 + q_ci (1 ≤ 0) _ = 0
              rw [q_ci_f (by omega)]; rfl
          rw [ee, es, Int.add_assoc]))
        refine ⟨ar2, ?_, by rw [if_pos (show j + 1 ≤ nx by omega)] at t3; rw [if_pos (show j ≤ nx by omega)]; exact t3⟩
        have e1' : m_Mo_compareColumns (N i) (N j) (J (q_bw X' X i j)) (N ny) (N ny') fy c2 fy' c1 ar = some ar1 := by
          unfold m_Mo_compareColumns
          rw [show (1 : Int32) = N 1 from rfl, bd1_i e1]
        rw [if_neg (fun q => z ((J_le (by omega) (by omega) (by omega) (by omega)).mp q)), bd1_i e1', bd1_i rfl, lt_e, N_lit 1, N_add]
        exact e2
theorem q_R23 {nx' nx ny' ny ns' ns : Nat} {X' X Y' Y : Nat → Nat} {F' F : Ce → Int} {c1 c2 fx' fx fy' fy : Nat → Int32} (hs' : ns' ≤ 81) (hs : ns ≤ 81) (hx' : nx' ≤ 40) (hx : nx ≤ 40) (hy' : ny' ≤ 40) (hy : ny ≤ 40) (l1 : q_lb 42 nx' ny' c1 F' ns') (l2 : q_lb 42 nx ny c2 F ns) (g1 : q_gr nx' ny' X' Y' fx' fy') (g2 : q_gr nx ny X Y fx fy) :
    ∀ fuel i ar, nx' - i < fuel → 1 ≤ i → (i ≤ nx' ∨ i = 1) → q_tb 200 ns' ns ar (fun o s => q_sum (fun a => q_ci (1 ≤ a) (q_sum (fun b => q_ci (1 ≤ b) (q_bw X' X a b * q_S2 ny' ny Y' Y (fun c d => q_in2 F' F o s a c b d))) nx)) i) →
    ∃ ar', m_Mo_compareRuns_L23 (N nx) (N ny) (N nx') (N ny') fx fy c2 fx' fy' c1 fuel (N i) ar = some ar' ∧ q_tb 200 ns' ns ar' (fun o s => q_sum (fun a => q_ci (1 ≤ a) (q_sum (fun b => q_ci (1 ≤ b) (q_bw X' X a b * q_S2 ny' ny Y' Y (fun c d => q_in2 F' F o s a c b d))) nx)) (if i ≤ nx' then nx' else i)) := by
  intro fuel
  induction fuel with
  | zero => intro d ar h; omega
  | succ m ih =>
    intro i ar hm hi hin ht
    rw [m_Mo_compareRuns_L23]
    by_cases k : nx' ≤ i
    · rw [if_pos ((N_le (by omega) (by omega)).mpr k)]
      refine ⟨ar, rfl, ?_⟩
      by_cases e : i ≤ nx'
      · have ed : i = nx' := by omega
        subst ed; rw [if_pos e]; exact ht
      · rw [if_neg e]; exact ht
    · obtain ⟨ar1, e1, t1⟩ := q_R33 hs' hs hx' hx hy' hy l1 l2 g1 g2 ⟨hi, show i < nx' by omega⟩ (fun o s => q_sum (fun a => q_ci (1 ≤ a) (q_sum (fun b => q_ci (1 ≤ b) (q_bw X' X a b * q_S2 ny' ny Y' Y (fun c d => q_in2 F' F o s a c b d))) nx)) i) fu 1 ar (by unfold fu; omega) (by omega) (Or.inr rfl) (ht.congr (fun o s _ _ => by
        have z0 : q_sum (fun b => q_ci (1 ≤ b) (q_bw X' X i b * q_S2 ny' ny Y' Y (fun c d => q_in2 F' F o s i c b d))) 1 = 0 := by
          show 0 + q_ci (1 ≤ 0) _ = 0
          rw [q_ci_f (by omega)]; rfl
        rw [z0, Int.add_zero]))
      obtain ⟨ar2, e2, t3⟩ := ih (i + 1) ar1 (by omega) (by omega) (Or.inl (by omega)) (t1.congr (fun o s _ _ => by
        have ee : q_sum (fun b => q_ci (1 ≤ b) (q_bw X' X i b * q_S2 ny' ny Y' Y (fun c d => q_in2 F' F o s i c b d))) (if 1 ≤ nx then nx else 1) = q_sum (fun b => q_ci (1 ≤ b) (q_bw X' X i b * q_S2 ny' ny Y' Y (fun c d => q_in2 F' F o s i c b d))) nx := by
          by_cases e : 1 ≤ nx
          · rw [if_pos e]
          · rw [if_neg e, show nx = 0 by omega]
            show 0 + q_ci (1 ≤ 0) _ = 0
            rw [q_ci_f (by omega)]; rfl
        rw [ee]
        show _ = q_sum (fun a => q_ci (1 ≤ a) (q_sum (fun b => q_ci (1 ≤ b) (q_bw X' X a b * q_S2 ny' ny Y' Y (fun c d => q_in2 F' F o s a c b d))) nx)) i + q_ci (1 ≤ i) _
        rw [q_ci_t hi]))
      refine ⟨ar2, ?_, by rw [if_pos (show i + 1 ≤ nx' by omega)] at t3; rw [if_pos (show i ≤ nx' by omega)]; exact t3⟩
      rw [if_neg (fun q => k ((N_le (by omega) (by omega)).mp q)), show (1 : Int32) = N 1 from rfl, bd1_i e1, lt_e, N_add]
      exact e2
theorem q_Rcom0 : ∀ fuel k (f : Nat → Int32), 40000 - k < fuel → k ≤ 40000 → m_Mo_compareRuns_L2 fuel (N k) f = some (fun j => if k ≤ j ∧ j < 40000 then N 0 else f j) := by
  intro fuel
  induction fuel with
  | zero => intro k f h; omega
  | succ m ih =>
    intro k f h hk
    rw [m_Mo_compareRuns_L2]
    by_cases c : 40000 ≤ k
    · rw [if_pos (by rw [N_lit 40000]; exact (N_le (by omega) (by omega)).mpr c)]
      congr 1; funext j; rw [if_neg (by omega)]
    · rw [if_neg (by rw [N_lit 40000]; exact fun q => c ((N_le (by omega) (by omega)).mp q)), gI_N (by omega) (by omega), lt_e, lt_e, N_nat (by omega), N_lit 1, N_add, ih _ _ (by omega) (by omega)]
      congr 1; funext j
      by_cases e : j = k
      · subst e; rw [if_neg (by omega), if_pos (by omega), upd_s]; rfl
      · rw [upd_n _ _ e]
        by_cases c2 : k ≤ j ∧ j < 40000
        · rw [if_pos c2, if_pos (by omega)]
        · rw [if_neg c2, if_neg (by omega)]
theorem q_Rcom {nx' nx ny' ny ns' ns : Nat} {X' X Y' Y : Nat → Nat} {F' F : Ce → Int} {c1 c2 fx' fx fy' fy : Nat → Int32} (hs' : ns' ≤ 81) (hs : ns ≤ 81) (hx' : nx' ≤ 40) (hx : nx ≤ 40) (hy' : ny' ≤ 40) (hy : ny ≤ 40) (l1 : q_lb 42 nx' ny' c1 F' ns') (l2 : q_lb 42 nx ny c2 F ns) (g1 : q_gr nx' ny' X' Y' fx' fy') (g2 : q_gr nx ny X Y fx fy) (ar : Nat → Int32) :
    ∃ ar', m_Mo_compareRuns (N nx) (N ny) (N nx') (N ny') fx fy c2 fx' fy' c1 ar = some ar' ∧ q_tb 200 ns' ns ar' (q_ov nx' nx ny' ny X' X Y' Y F' F) := by
  have e0 := q_Rcom0 fu 0 ar (by unfold fu; omega) (by omega)
  obtain ⟨ar', e1, t1⟩ := q_R23 hs' hs hx' hx hy' hy l1 l2 g1 g2 fu 1 (fun j => if 0 ≤ j ∧ j < 40000 then N 0 else ar j) (by unfold fu; omega) (by omega) (Or.inr rfl) (fun o s ho hs2 => by
    dsimp only
    rw [if_pos (by omega)]
    have z0 : q_sum (fun a => q_ci (1 ≤ a) (q_sum (fun b => q_ci (1 ≤ b) (q_bw X' X a b * q_S2 ny' ny Y' Y (fun c d => q_in2 F' F o s a c b d))) nx)) 1 = 0 := by
      show 0 + q_ci (1 ≤ 0) _ = 0
      rw [q_ci_f (by omega)]; rfl
    rw [z0]; rfl)
  refine ⟨ar', ?_, t1.congr (fun o s _ _ => ?_)⟩
  · unfold m_Mo_compareRuns
    rw [show (0 : Int32) = N 0 from rfl, bd1_i e0, show (1 : Int32) = N 1 from rfl, bd1_i e1]
  · unfold q_ov q_S2
    by_cases e : 1 ≤ nx'
    · rw [if_pos e]
    · rw [if_neg e, show nx' = 0 by omega]
      show 0 + q_ci (1 ≤ 0) _ = 0
      rw [q_ci_f (by omega)]; rfl
/-! Names pass on. -/
def q_bst (f : Nat → Int) : Nat → Int × Int
  | 0 => (-1, 0)
  | s + 1 => if f s ≤ (q_bst f s).2 then q_bst f s else ((s : Int), f s)
theorem q_bst_bd {f : Nat → Int} {B : Int} (hB : 0 ≤ B) (hf : ∀ s, f s ≤ B) : ∀ s, -1 ≤ (q_bst f s).1 ∧ (q_bst f s).1 < s ∧ 0 ≤ (q_bst f s).2 ∧ (q_bst f s).2 ≤ B := by
  intro s
  induction s with
  | zero => exact ⟨by unfold q_bst; omega, by unfold q_bst; omega, by unfold q_bst; omega, by unfold q_bst; omega⟩
  | succ s ih =>
    have := hf s
    unfold q_bst
    by_cases c : f s ≤ (q_bst f s).2
    · rw [if_pos c]; omega
    · rw [if_neg c]; dsimp only; omega
noncomputable def q_nst (ns : Nat) (ov : Nat → Nat → Int) (nm : Nat → Nat) : Nat → (Nat → Nat) × (Nat → Int)
  | 0 => (fun _ => 0, fun _ => 0)
  | o + 1 => @ite _ (¬ nm o = 0 ∧ 0 ≤ (q_bst (ov o) ns).1 ∧ (q_nst ns ov nm o).2 (q_bst (ov o) ns).1.toNat < (q_bst (ov o) ns).2) (Classical.propDecidable _)
      (q_up2 (q_nst ns ov nm o).1 (q_bst (ov o) ns).1.toNat (nm o), fun s => if s = (q_bst (ov o) ns).1.toNat then (q_bst (ov o) ns).2 else (q_nst ns ov nm o).2 s) (q_nst ns ov nm o)
theorem q_nst_bd {ns : Nat} {ov : Nat → Nat → Int} {nm : Nat → Nat} (ho : ∀ o s, ov o s ≤ 1600000000) (hn : ∀ o, nm o ≤ 1000) : ∀ o s, (q_nst ns ov nm o).1 s ≤ 1000 ∧ 0 ≤ (q_nst ns ov nm o).2 s ∧ (q_nst ns ov nm o).2 s ≤ 1600000000 := by
  intro o
  induction o with
  | zero => intro s; exact ⟨by unfold q_nst; dsimp only; omega, by unfold q_nst; dsimp only; omega, by unfold q_nst; dsimp only; omega⟩
  | succ o ih =>
    intro s
    have b := q_bst_bd (f := ov o) (B := 1600000000) (by omega) (ho o) ns
    by_cases c : ¬ nm o = 0 ∧ 0 ≤ (q_bst (ov o) ns).1 ∧ (q_nst ns ov nm o).2 (q_bst (ov o) ns).1.toNat < (q_bst (ov o) ns).2
    · have e : q_nst ns ov nm (o + 1) = (q_up2 (q_nst ns ov nm o).1 (q_bst (ov o) ns).1.toNat (nm o), fun s => if s = (q_bst (ov o) ns).1.toNat then (q_bst (ov o) ns).2 else (q_nst ns ov nm o).2 s) := if_pos c
      rw [e]
      unfold q_up2
      dsimp only
      have := hn o
      have := ih s
      by_cases d : s = (q_bst (ov o) ns).1.toNat
      · rw [if_pos d, if_pos d]; omega
      · rw [if_neg d, if_neg d]; exact ih s
    · have e : q_nst ns ov nm (o + 1) = q_nst ns ov nm o := if_neg c
      rw [e]; exact ih s
theorem q_lv_L {ns' ns : Nat} {ar : Nat → Int32} {ov : Nat → Nat → Int} (hs' : ns' ≤ 81) (hs : ns ≤ 81) (ht : q_tb 81 ns' ns ar ov) (hb : ∀ o s, 0 ≤ ov o s ∧ ov o s ≤ 1600000000) {o : Nat} (ho : o < ns') :
    ∀ fuel s, ns - s < fuel → s ≤ ns → m_Na_leave_L9 (N o) (N ns) ar fuel (J (q_bst (ov o) s).1) (J (q_bst (ov o) s).2) (N s) = some (J (q_bst (ov o) ns).1, J (q_bst (ov o) ns).2) := by
  intro fuel
  induction fuel with
  | zero => intro s h; omega
  | succ m ih =>
    intro s hm hsn
    rw [m_Na_leave_L9]
    by_cases c : ns ≤ s
    · rw [if_pos ((N_le (by omega) (by omega)).mpr c), show s = ns by omega]
    · have b := q_bst_bd (f := ov o) (B := 1600000000) (by omega) (fun s => (hb o s).2) s
      have bo := hb o s
      have ea : m_Co_areaOf (N o) (N s) ar = some (J (ov o s)) := by
        unfold m_Co_areaOf
        rw [N_lit 81, N_mul, N_add, Nat.mul_comm, gI_N (by omega) (by omega), N_nat (by omega), ht o s ho (by omega)]
      have es : q_bst (ov o) (s + 1) = if ov o s ≤ (q_bst (ov o) s).2 then q_bst (ov o) s else ((s : Int), ov o s) := rfl
      have ih' := ih (s + 1) (by omega) (by omega)
      rw [if_neg (fun q => c ((N_le (by omega) (by omega)).mp q)), ea, bd1_i rfl]
      by_cases z : ov o s ≤ (q_bst (ov o) s).2
      · rw [if_pos ((J_le (by omega) (by omega) (by omega) (by omega)).mpr z), bd2_i rfl, lt_e, N_lit 1, N_add]
        rw [es, if_pos z] at ih'
        exact ih'
      · rw [if_neg (fun q => z ((J_le (by omega) (by omega) (by omega) (by omega)).mp q)), bd1_i rfl, bd2_i rfl, lt_e, N_lit 1, N_add]
        rw [es, if_neg z] at ih'
        exact ih'
def q_nrp (ns : Nat) (x : (Nat → Nat) × (Nat → Int)) (fp fs : Nat → Int32) : Prop := ∀ s, s < ns → fp s = N (x.1 s) ∧ fs s = J (x.2 s)
theorem q_leave {ns' ns : Nat} {ar gv fp fs : Nat → Int32} {ov : Nat → Nat → Int} {nm : Nat → Nat} (hs' : ns' ≤ 81) (hs : ns ≤ 81) (ht : q_tb 81 ns' ns ar ov) (hb : ∀ o s, 0 ≤ ov o s ∧ ov o s ≤ 1600000000) (hn : ∀ o, nm o ≤ 1000) (hg : ∀ o, o < ns' → gv o = N (nm o)) {o : Nat} (ho : o < ns') (hz : ¬ nm o = 0) (hr : q_nrp ns (q_nst ns ov nm o) fp fs) :
    ∃ fp' fs', m_Na_leave (N o) (N ns) gv fp fs ar = some (fp', fs') ∧ q_nrp ns (q_nst ns ov nm (o + 1)) fp' fs' := by
  have e1 : m_Na_leave_L9 (N o) (N ns) ar fu (J (-1)) (J 0) (N 0) = some (J (q_bst (ov o) ns).1, J (q_bst (ov o) ns).2) := q_lv_L hs' hs ht hb ho fu 0 (by unfold fu; omega) (by omega)
  have b := q_bst_bd (f := ov o) (B := 1600000000) (by omega) (fun s => (hb o s).2) ns
  unfold m_Na_leave
  rw [show (-1 : Int32) = J (-1) from rfl, show (0 : Int32) = J 0 from rfl]
  have e1' : m_Na_leave_L9 (N o) (N ns) ar fu (J (-1)) (J 0) (J 0) = some (J (q_bst (ov o) ns).1, J (q_bst (ov o) ns).2) := e1
  rw [bd2_i e1']
  by_cases z : (q_bst (ov o) ns).1 = -1
  · have e : q_nst ns ov nm (o + 1) = q_nst ns ov nm o := if_neg (fun q => by have := q.2.1; omega)
    rw [e]
    refine ⟨fp, fs, ?_, hr⟩
    rw [z, if_pos rfl, bd2_i rfl]
  · obtain ⟨h, eh⟩ : ∃ h : Nat, (q_bst (ov o) ns).1 = h := ⟨(q_bst (ov o) ns).1.toNat, by omega⟩
    have hh : h < ns := by omega
    have bn := q_nst_bd (ns := ns) (ov := ov) (nm := nm) (fun o s => (hb o s).2) hn o h
    obtain ⟨r1, r2⟩ := hr h hh
    have et : ((h : Nat) : Int).toNat = h := rfl
    rw [if_neg (fun q => z ((J_eq (by omega) (by omega) (by omega) (by omega)).mp q)), eh, ← N_J, gI_N (by omega) (by omega), N_nat (by omega), r2]
    by_cases y : (q_nst ns ov nm o).2 h < (q_bst (ov o) ns).2
    · have e : q_nst ns ov nm (o + 1) = (q_up2 (q_nst ns ov nm o).1 h (nm o), fun s => if s = h then (q_bst (ov o) ns).2 else (q_nst ns ov nm o).2 s) := by
        have e0 : q_nst ns ov nm (o + 1) = (q_up2 (q_nst ns ov nm o).1 (q_bst (ov o) ns).1.toNat (nm o), fun s => if s = (q_bst (ov o) ns).1.toNat then (q_bst (ov o) ns).2 else (q_nst ns ov nm o).2 s) := if_pos ⟨hz, by omega, by rw [eh, et]; exact y⟩
        rw [e0, eh, et]
      refine ⟨upd fp h (N (nm o)), upd fs h (J (q_bst (ov o) ns).2), ?_, fun s hs2 => ?_⟩
      · rw [if_neg (fun q => by have := (J_le (by omega) (by omega) (by omega) (by omega)).mp q; omega), gI_N (by omega) (by omega), lt_e, gI_N (by omega) (by omega), gI_N (by omega) (by omega), lt_e, N_nat (by omega), hg o ho, bd2_i rfl]
      · rw [e]
        unfold q_up2
        dsimp only
        by_cases d : s = h
        · rw [if_pos d, if_pos d, d, upd_s, upd_s]; exact ⟨rfl, rfl⟩
        · rw [if_neg d, if_neg d, upd_n _ _ d, upd_n _ _ d]; exact hr s hs2
    · have e : q_nst ns ov nm (o + 1) = q_nst ns ov nm o := if_neg (fun q => y (by have := q.2.2; rw [eh, et] at this; exact this))
      rw [e]
      refine ⟨fp, fs, ?_, hr⟩
      rw [if_pos ((J_le (by omega) (by omega) (by omega) (by omega)).mpr (by omega)), bd2_i rfl]
theorem q_nst_0 {ns : Nat} {ov : Nat → Nat → Int} {nm : Nat → Nat} {o : Nat} (h : nm o = 0) : q_nst ns ov nm (o + 1) = q_nst ns ov nm o := if_neg (fun q => q.1 h)
theorem q_pass_L {nx' nx ny' ny ns' ns : Nat} {X' X Y' Y : Nat → Nat} {F' F : Ce → Int} {c1 c2 fx' fx fy' fy gv : Nat → Int32} {nm : Nat → Nat} (hs' : ns' ≤ 81) (hs : ns ≤ 81) (hx' : nx' ≤ 40) (hx : nx ≤ 40) (hy' : ny' ≤ 40) (hy : ny ≤ 40) (l1 : q_lb 41 nx' ny' c1 F' ns') (l2 : q_lb 41 nx ny c2 F ns) (g1 : q_gr nx' ny' X' Y' fx' fy') (g2 : q_gr nx ny X Y fx fy) (hn : ∀ o, nm o ≤ 1000) (hg : ∀ o, o < ns' → gv o = N (nm o)) :
    ∀ fuel o fp fs (kn : Prop) v1 a1 a2 a3 v2 a4 a5 a6 ar, ns' - o < fuel → o ≤ ns' → q_nrp ns (q_nst ns (q_ov nx' nx ny' ny X' X Y' Y F' F) nm o) fp fs → (kn → q_tb 81 ns' ns ar (q_ov nx' nx ny' ny X' X Y' Y F' F)) →
    ∃ fp' fs' kn' w1 b1 b2 b3 w2 b4 b5 b6 ar', m_Na_passOn_L19 gv (N ns') (N nx') fx' (N ny') fy' c1 (N ns) (N nx) fx (N ny) fy c2 fuel (N o) fp fs (N (q_one kn)) v1 a1 a2 a3 v2 a4 a5 a6 ar = some (fp', fs', N (q_one kn'), w1, b1, b2, b3, w2, b4, b5, b6, ar') ∧ q_nrp ns (q_nst ns (q_ov nx' nx ny' ny X' X Y' Y F' F) nm ns') fp' fs' ∧ (kn' → q_tb 81 ns' ns ar' (q_ov nx' nx ny' ny X' X Y' Y F' F)) := by
  have hb := fun o s => q_ov_bd (F' := F') (F := F) hx' hx hy' hy g1 g2 o s
  intro fuel
  induction fuel with
  | zero => intro o fp fs kn v1 a1 a2 a3 v2 a4 a5 a6 ar h; omega
  | succ m ih =>
    intro o fp fs kn v1 a1 a2 a3 v2 a4 a5 a6 ar hm ho hr hk
    rw [m_Na_passOn_L19]
    by_cases c : ns' ≤ o
    · rw [if_pos ((N_le (by omega) (by omega)).mpr c)]
      have e : o = ns' := by omega
      subst e
      exact ⟨fp, fs, kn, v1, a1, a2, a3, v2, a4, a5, a6, ar, rfl, hr, hk⟩
    · have ho' : o < ns' := by omega
      have bn := hn o
      rw [if_neg (fun q => c ((N_le (by omega) (by omega)).mp q)), gI_N (by omega) (by omega), N_nat (by omega), hg o ho', show (0 : Int32) = N 0 from rfl]
      by_cases z : nm o = 0
      · obtain ⟨fp', fs', kn', w1, b1, b2, b3, w2, b4, b5, b6, ar', e, r1, r2⟩ := ih (o + 1) fp fs kn v1 a1 a2 a3 v2 a4 a5 a6 ar (by omega) (by omega) (by rw [q_nst_0 z]; exact hr) hk
        refine ⟨fp', fs', kn', w1, b1, b2, b3, w2, b4, b5, b6, ar', ?_, r1, r2⟩
        rw [if_pos (by rw [z]), bd12_i rfl, lt_e, N_lit 1, N_add]
        exact e
      · obtain ⟨w1, b1, b2, b3, w2, b4, b5, b6, ar1, e1, t1⟩ := q_Cfind2 hs' hs hx' hx hy' hy l1 l2 g1 g2 v1 v2 a1 a2 a3 a4 a5 a6 ar hk
        obtain ⟨fp1, fs1, e2, r1⟩ := q_leave hs' hs t1 hb hn hg ho' z hr
        obtain ⟨fp', fs', kn', w1', b1', b2', b3', w2', b4', b5', b6', ar', e, r2, r3⟩ := ih (o + 1) fp1 fs1 True w1 b1 b2 b3 w2 b4 b5 b6 ar1 (by omega) (by omega) r1 (fun _ => t1)
        refine ⟨fp', fs', kn', w1', b1', b2', b3', w2', b4', b5', b6', ar', ?_, r2, r3⟩
        rw [q_one_t trivial] at e
        rw [if_neg (fun q => z ((N_eq (by omega) (by omega)).mp q)), bd10_i e1, bd2_i e2, bd12_i rfl, lt_e, N_lit 1, N_add]
        exact e
theorem q_passOn {nx' nx ny' ny ns' ns : Nat} {X' X Y' Y : Nat → Nat} {F' F : Ce → Int} {c1 c2 fx' fx fy' fy gv : Nat → Int32} {nm : Nat → Nat} (hs' : ns' ≤ 81) (hs : ns ≤ 81) (hx' : nx' ≤ 40) (hx : nx ≤ 40) (hy' : ny' ≤ 40) (hy : ny ≤ 40) (l1 : q_lb 41 nx' ny' c1 F' ns') (l2 : q_lb 41 nx ny c2 F ns) (g1 : q_gr nx' ny' X' Y' fx' fy') (g2 : q_gr nx ny X Y fx fy) (hn : ∀ o, nm o ≤ 1000) (hg : ∀ o, o < ns' → gv o = N (nm o))
    (fp fs : Nat → Int32) (v1 v2 : Int32) (a1 a2 a3 a4 a5 a6 ar : Nat → Int32) :
    ∃ gv' fp' fs' kn w1 b1 b2 b3 w2 b4 b5 b6 ar', m_Na_passOn gv fp fs 0 v1 a1 a2 a3 v2 a4 a5 a6 ar (N ns') (N nx') fx' (N ny') fy' c1 (N ns) (N nx) fx (N ny) fy c2 = some (gv', fp', fs', N (q_one kn), w1, b1, b2, b3, w2, b4, b5, b6, ar') ∧ (∀ s, s < ns → gv' s = N ((q_nst ns (q_ov nx' nx ny' ny X' X Y' Y F' F) nm ns').1 s)) ∧ (kn → q_tb 81 ns' ns ar' (q_ov nx' nx ny' ny X' X Y' Y F' F)) := by
  have e1 := q_fill0 (v := (0 : Int32)) (n0 := 81) fp (by omega)
  have e2 := q_fill0 (v := (0 : Int32)) (n0 := 81) fs (by omega)
  obtain ⟨fp', fs', kn, w1, b1, b2, b3, w2, b4, b5, b6, ar', e, r1, r2⟩ := q_pass_L hs' hs hx' hx hy' hy l1 l2 g1 g2 hn hg fu 0 (fun j => if j < 81 then (0 : Int32) else fp j) (fun j => if j < 81 then (0 : Int32) else fs j) False v1 a1 a2 a3 v2 a4 a5 a6 ar (by unfold fu; omega) (by omega) (fun s hs2 => by
    dsimp only
    rw [if_pos (by omega), if_pos (by omega)]; exact ⟨rfl, rfl⟩) (fun q => q.elim)
  rw [q_one_f (fun q => q)] at e
  refine ⟨va_cpy fp' gv (0 : Int32).toNatClampNeg (0 : Int32).toNatClampNeg (81 : Int32).toNatClampNeg, fp', fs', kn, w1, b1, b2, b3, w2, b4, b5, b6, ar', ?_, fun s hs2 => ?_, r2⟩
  · unfold m_Na_passOn
    rw [e1, bd1_i rfl, e2, bd1_i rfl]
    have e' : m_Na_passOn_L19 gv (N ns') (N nx') fx' (N ny') fy' c1 (N ns) (N nx) fx (N ny) fy c2 fu 0 (fun j => if j < 81 then (0 : Int32) else fp j) (fun j => if j < 81 then (0 : Int32) else fs j) 0 v1 a1 a2 a3 v2 a4 a5 a6 ar = _ := e
    rw [bd12_i e']
    show gC 0 0 81 81 81 _ = _
    unfold gC
    rw [if_pos (by decide)]
    rfl
  · unfold va_cpy
    rw [if_pos (show (0 : Int32).toNatClampNeg ≤ s ∧ s < (0 : Int32).toNatClampNeg + (81 : Int32).toNatClampNeg from by
      rw [show (0 : Int32).toNatClampNeg = 0 from by decide, show (81 : Int32).toNatClampNeg = 81 from by decide]; omega)]
    rw [show (0 : Int32).toNatClampNeg = 0 from by decide, Nat.zero_add, Nat.sub_zero]
    exact (r1 s hs2).1
theorem q_gn0_L {ns : Nat} (hs : ns ≤ 81) : ∀ fuel k (f g : Nat → Int32), ns - k < fuel → k ≤ ns → m_Mo_giveNames_L2 (N ns) fuel (N k) f g = some ((fun j => if k ≤ j ∧ j < ns then N 0 else f j), (fun j => if k ≤ j ∧ j < ns then N 0 else g j)) := by
  intro fuel
  induction fuel with
  | zero => intro k f g h; omega
  | succ m ih =>
    intro k f g h hk
    rw [m_Mo_giveNames_L2]
    by_cases c : ns ≤ k
    · rw [if_pos ((N_le (by omega) (by omega)).mpr c)]
      congr 1; refine Prod.ext ?_ ?_ <;> (funext j; dsimp only; rw [if_neg (by omega)])
    · rw [if_neg (fun q => c ((N_le (by omega) (by omega)).mp q)), gI_N (by omega) (by omega), lt_e, gI_N (by omega) (by omega), lt_e, lt_e, N_nat (by omega), N_lit 1, N_add, ih _ _ _ (by omega) (by omega)]
      congr 1
      refine Prod.ext ?_ ?_ <;>
      · funext j
        dsimp only
        by_cases e : j = k
        · subst e; rw [if_neg (by omega), if_pos (by omega), upd_s]; rfl
        · rw [upd_n _ _ e]
          by_cases c2 : k ≤ j ∧ j < ns
          · rw [if_pos c2, if_pos (by omega)]
          · rw [if_neg c2, if_neg (by omega)]
theorem q_gn47_L {ns' ns : Nat} {ar : Nat → Int32} {ov : Nat → Nat → Int} (hs' : ns' ≤ 81) (hs : ns ≤ 81) (ht : q_tb 200 ns' ns ar ov) (hb : ∀ o s, 0 ≤ ov o s ∧ ov o s ≤ 1600000000) {o : Nat} (ho : o < ns') :
    ∀ fuel s, ns - s < fuel → s ≤ ns → m_Mo_giveNames_L47 (N o) (N ns) ar fuel (J (q_bst (ov o) s).1) (J (q_bst (ov o) s).2) (N s) = some (J (q_bst (ov o) ns).1, J (q_bst (ov o) ns).2) := by
  intro fuel
  induction fuel with
  | zero => intro s h; omega
  | succ m ih =>
    intro s hm hsn
    rw [m_Mo_giveNames_L47]
    by_cases c : ns ≤ s
    · rw [if_pos ((N_le (by omega) (by omega)).mpr c), show s = ns by omega]
    · have b := q_bst_bd (f := ov o) (B := 1600000000) (by omega) (fun s => (hb o s).2) s
      have bo := hb o s
      have es : q_bst (ov o) (s + 1) = if ov o s ≤ (q_bst (ov o) s).2 then q_bst (ov o) s else ((s : Int), ov o s) := rfl
      have ih' := ih (s + 1) (by omega) (by omega)
      rw [if_neg (fun q => c ((N_le (by omega) (by omega)).mp q)), show 200 * N o + N s = N (200 * o + s) from by rw [N_lit 200, N_mul, N_add], gI_N (by omega) (by omega), N_nat (by omega), ht o s ho (by omega)]
      by_cases z : ov o s ≤ (q_bst (ov o) s).2
      · rw [if_pos ((J_le (by omega) (by omega) (by omega) (by omega)).mpr z), bd2_i rfl, lt_e, N_lit 1, N_add]
        rw [es, if_pos z] at ih'
        exact ih'
      · rw [if_neg (fun q => z ((J_le (by omega) (by omega) (by omega) (by omega)).mp q)), gI_N (by omega) (by omega), lt_e, bd2_i rfl, lt_e, N_lit 1, N_add]
        rw [es, if_neg z] at ih'
        exact ih'
theorem q_gn32_L {ns' ns : Nat} {ar gv : Nat → Int32} {ov : Nat → Nat → Int} {nm : Nat → Nat} (hs' : ns' ≤ 81) (hs : ns ≤ 81) (ht : q_tb 200 ns' ns ar ov) (hb : ∀ o s, 0 ≤ ov o s ∧ ov o s ≤ 1600000000) (hn : ∀ o, nm o ≤ 1000) (hg : ∀ o, o < ns' → gv o = N (nm o)) :
    ∀ fuel o fp fs, ns' - o < fuel → o ≤ ns' → q_nrp ns (q_nst ns ov nm o) fp fs → ∃ fp' fs', m_Mo_giveNames_L32 (N ns) (N ns') gv ar fuel (N o) fp fs = some (fp', fs') ∧ q_nrp ns (q_nst ns ov nm ns') fp' fs' := by
  intro fuel
  induction fuel with
  | zero => intro o fp fs h; omega
  | succ m ih =>
    intro o fp fs hm ho hr
    rw [m_Mo_giveNames_L32]
    by_cases c : ns' ≤ o
    · rw [if_pos ((N_le (by omega) (by omega)).mpr c)]
      have e : o = ns' := by omega
      subst e
      exact ⟨fp, fs, rfl, hr⟩
    · have ho' : o < ns' := by omega
      have bn := hn o
      have e1 : m_Mo_giveNames_L47 (N o) (N ns) ar fu (J (-1)) (J 0) (N 0) = some (J (q_bst (ov o) ns).1, J (q_bst (ov o) ns).2) := q_gn47_L hs' hs ht hb ho' fu 0 (by unfold fu; omega) (by omega)
      have e1' : m_Mo_giveNames_L47 (N o) (N ns) ar fu (-1) 0 0 = some (J (q_bst (ov o) ns).1, J (q_bst (ov o) ns).2) := e1
      have b := q_bst_bd (f := ov o) (B := 1600000000) (by omega) (fun s => (hb o s).2) ns
      rw [if_neg (fun q => c ((N_le (by omega) (by omega)).mp q)), bd2_i e1', gI_N (by omega) (by omega), N_nat (by omega), hg o ho']
      have same : q_nst ns ov nm (o + 1) = q_nst ns ov nm o → (bd2 (some (fp, fs)) fun f37 f38 => lt_ (N o + 1) fun x48 => m_Mo_giveNames_L32 (N ns) (N ns') gv ar m x48 f37 f38) = m_Mo_giveNames_L32 (N ns) (N ns') gv ar m (N (o + 1)) fp fs := by
        intro _; rw [bd2_i rfl, lt_e, N_lit 1, N_add]
      have go := ih (o + 1)
      by_cases z : nm o = 0
      · have e := q_nst_0 (ns := ns) (ov := ov) z
        obtain ⟨fp', fs', e2, r⟩ := go fp fs (by omega) (by omega) (by rw [e]; exact hr)
        refine ⟨fp', fs', ?_, r⟩
        rw [if_pos (by rw [N_lit 0]; exact (N_le (by omega) (by omega)).mpr (by omega)), same e]; exact e2
      · rw [if_neg (by rw [N_lit 0]; exact fun q => by have := (N_le (by omega) (by omega)).mp q; omega)]
        by_cases y : (q_bst (ov o) ns).1 < 0
        · have e : q_nst ns ov nm (o + 1) = q_nst ns ov nm o := if_neg (fun q => by have := q.2.1; omega)
          obtain ⟨fp', fs', e2, r⟩ := go fp fs (by omega) (by omega) (by rw [e]; exact hr)
          refine ⟨fp', fs', ?_, r⟩
          rw [if_pos (by rw [show (0 : Int32) = J 0 from rfl]; exact (J_lt (by omega) (by omega) (by omega) (by omega)).mpr y), same e]; exact e2
        · obtain ⟨h, eh⟩ : ∃ h : Nat, (q_bst (ov o) ns).1 = h := ⟨(q_bst (ov o) ns).1.toNat, by omega⟩
          have hh : h < ns := by omega
          have et : ((h : Nat) : Int).toNat = h := rfl
          have bn2 := q_nst_bd (ns := ns) (ov := ov) (nm := nm) (fun o s => (hb o s).2) hn o h
          obtain ⟨r1, r2⟩ := hr h hh
          rw [if_neg (by rw [show (0 : Int32) = J 0 from rfl]; exact fun q => y ((J_lt (by omega) (by omega) (by omega) (by omega)).mp q)), eh, ← N_J, gI_N (by omega) (by omega), N_nat (by omega), r2]
          by_cases x : (q_nst ns ov nm o).2 h < (q_bst (ov o) ns).2
          · have e : q_nst ns ov nm (o + 1) = (q_up2 (q_nst ns ov nm o).1 h (nm o), fun s => if s = h then (q_bst (ov o) ns).2 else (q_nst ns ov nm o).2 s) := by
              have e0 : q_nst ns ov nm (o + 1) = (q_up2 (q_nst ns ov nm o).1 (q_bst (ov o) ns).1.toNat (nm o), fun s => if s = (q_bst (ov o) ns).1.toNat then (q_bst (ov o) ns).2 else (q_nst ns ov nm o).2 s) := if_pos ⟨z, by omega, by rw [eh, et]; exact x⟩
              rw [e0, eh, et]
            obtain ⟨fp', fs', e2, r⟩ := go (upd fp h (N (nm o))) (upd fs h (J (q_bst (ov o) ns).2)) (by omega) (by omega) (fun s hs2 => by
              rw [e]
              unfold q_up2
              dsimp only
              by_cases d : s = h
              · rw [if_pos d, if_pos d, d, upd_s, upd_s]; exact ⟨rfl, rfl⟩
              · rw [if_neg d, if_neg d, upd_n _ _ d, upd_n _ _ d]; exact hr s hs2)
            refine ⟨fp', fs', ?_, r⟩
            rw [if_neg (fun q => by have := (J_le (by omega) (by omega) (by omega) (by omega)).mp q; omega), gI_N (by omega) (by omega), lt_e, gI_N (by omega) (by omega), gI_N (by omega) (by omega), lt_e, bd2_i rfl, lt_e, N_lit 1, N_add]
            exact e2
          · have e : q_nst ns ov nm (o + 1) = q_nst ns ov nm o := if_neg (fun q => x (by have := q.2.2; rw [eh, et] at this; exact this))
            obtain ⟨fp', fs', e2, r⟩ := go fp fs (by omega) (by omega) (by rw [e]; exact hr)
            refine ⟨fp', fs', ?_, r⟩
            rw [if_pos ((J_le (by omega) (by omega) (by omega) (by omega)).mpr (by omega)), same e]; exact e2
theorem q_giveNames {ns' ns : Nat} {ar gv : Nat → Int32} {ov : Nat → Nat → Int} {nm : Nat → Nat} (hs' : ns' ≤ 81) (hs : ns ≤ 81) (ht : q_tb 200 ns' ns ar ov) (hb : ∀ o s, 0 ≤ ov o s ∧ ov o s ≤ 1600000000) (hn : ∀ o, nm o ≤ 1000) (hg : ∀ o, o < ns' → gv o = N (nm o)) (f g : Nat → Int32) :
    ∃ fp fs, m_Mo_giveNames (N ns) (N ns') f gv g ar = some (fp, fs) ∧ ∀ s, s < ns → fp s = N ((q_nst ns ov nm ns').1 s) := by
  have e0 := q_gn0_L hs fu 0 f g (by unfold fu; omega) (by omega)
  obtain ⟨fp, fs, e1, r⟩ := q_gn32_L hs' hs ht hb hn hg fu 0 (fun j => if 0 ≤ j ∧ j < ns then N 0 else f j) (fun j => if 0 ≤ j ∧ j < ns then N 0 else g j) (by unfold fu; omega) (by omega) (fun s hs2 => by
    dsimp only
    rw [if_pos (by omega), if_pos (by omega)]; exact ⟨rfl, rfl⟩)
  refine ⟨fp, fs, ?_, fun s hs2 => (r s hs2).1⟩
  unfold m_Mo_giveNames
  rw [show (0 : Int32) = N 0 from rfl, bd2_i e0, bd2_i e1]
/-! What the reference keeps of the run before. -/
theorem q_ko18 {fx fy : Nat → Int32} : ∀ fuel k (a b : Nat → Int32), 42 - k < fuel → k ≤ 42 → m_Mo_keepOld_L18 fx fy fuel (N k) a b = some ((fun j => if k ≤ j ∧ j < 42 then fx j else a j), (fun j => if k ≤ j ∧ j < 42 then fy j else b j)) := by
  intro fuel
  induction fuel with
  | zero => intro k f g h; omega
  | succ m ih =>
    intro k f g h hk
    rw [m_Mo_keepOld_L18]
    by_cases c : 42 ≤ k
    · rw [if_pos (by rw [N_lit 42]; exact (N_le (by omega) (by omega)).mpr c)]
      congr 1; refine Prod.ext ?_ ?_ <;> (funext j; dsimp only; rw [if_neg (by omega)])
    · rw [if_neg (by rw [N_lit 42]; exact fun q => c ((N_le (by omega) (by omega)).mp q)), gI_N (by omega) (by omega), gI_N (by omega) (by omega), lt_e, gI_N (by omega) (by omega), gI_N (by omega) (by omega), lt_e, lt_e, N_nat (by omega), N_lit 1, N_add, ih _ _ _ (by omega) (by omega)]
      congr 1
      refine Prod.ext ?_ ?_ <;>
      · funext j
        dsimp only
        by_cases e : j = k
        · subst e; rw [if_neg (by omega), if_pos (by omega), upd_s]
        · rw [upd_n _ _ e]
          by_cases c2 : k ≤ j ∧ j < 42
          · rw [if_pos c2, if_pos (by omega)]
          · rw [if_neg c2, if_neg (by omega)]
theorem q_ko56 {fl : Nat → Int32} : ∀ fuel k (a : Nat → Int32), 1764 - k < fuel → k ≤ 1764 → m_Mo_keepOld_L56 fl fuel (N k) a = some (fun j => if k ≤ j ∧ j < 1764 then fl j else a j) := by
  intro fuel
  induction fuel with
  | zero => intro k f h; omega
  | succ m ih =>
    intro k f h hk
    rw [m_Mo_keepOld_L56]
    by_cases c : 1764 ≤ k
    · rw [if_pos (by rw [N_lit 1764]; exact (N_le (by omega) (by omega)).mpr c)]
      congr 1; funext j; rw [if_neg (by omega)]
    · rw [if_neg (by rw [N_lit 1764]; exact fun q => c ((N_le (by omega) (by omega)).mp q)), gI_N (by omega) (by omega), gI_N (by omega) (by omega), lt_e, lt_e, N_nat (by omega), N_lit 1, N_add, ih _ _ (by omega) (by omega)]
      congr 1; funext j
      by_cases e : j = k
      · subst e; rw [if_neg (by omega), if_pos (by omega), upd_s]
      · rw [upd_n _ _ e]
        by_cases c2 : k ≤ j ∧ j < 1764
        · rw [if_pos c2, if_pos (by omega)]
        · rw [if_neg c2, if_neg (by omega)]
theorem q_ko91 {ns : Nat} (hs : ns ≤ 81) {fl : Nat → Int32} : ∀ fuel k (a : Nat → Int32), ns - k < fuel → k ≤ ns → m_Mo_keepOld_L91 (N ns) fl fuel (N k) a = some (fun j => if k ≤ j ∧ j < ns then fl j else a j) := by
  intro fuel
  induction fuel with
  | zero => intro k f h; omega
  | succ m ih =>
    intro k f h hk
    rw [m_Mo_keepOld_L91]
    by_cases c : ns ≤ k
    · rw [if_pos ((N_le (by omega) (by omega)).mpr c)]
      congr 1; funext j; rw [if_neg (by omega)]
    · rw [if_neg (fun q => c ((N_le (by omega) (by omega)).mp q)), gI_N (by omega) (by omega), gI_N (by omega) (by omega), lt_e, lt_e, N_nat (by omega), N_lit 1, N_add, ih _ _ (by omega) (by omega)]
      congr 1; funext j
      by_cases e : j = k
      · subst e; rw [if_neg (by omega), if_pos (by omega), upd_s]
      · rw [upd_n _ _ e]
        by_cases c2 : k ≤ j ∧ j < ns
        · rw [if_pos c2, if_pos (by omega)]
        · rw [if_neg c2, if_neg (by omega)]
theorem q_keepOld {ns nx ny : Nat} {X Y nm : Nat → Nat} {F : Ce → Int} {fx fy fl fn : Nat → Int32} (hs : ns ≤ 81) (hx : nx ≤ 40) (hy : ny ≤ 40) (g : q_gr nx ny X Y fx fy) (l : q_lb 42 nx ny fl F ns) (hn : ∀ o, o < ns → fn o = N (nm o)) (v1 v2 v3 : Int32) (a b c d : Nat → Int32) :
    ∃ a' b' c' d', m_Mo_keepOld (N nx) (N ny) (N ns) v1 v2 v3 fx fy fl a b c fn d = some (N nx, N ny, N ns, a', b', c', d') ∧ q_gr nx ny X Y a' b' ∧ q_lb 42 nx ny c' F ns ∧ ∀ o, o < ns → d' o = N (nm o) := by
  refine ⟨fun j => if 0 ≤ j ∧ j < 42 then fx j else a j, fun j => if 0 ≤ j ∧ j < 42 then fy j else b j, fun j => if 0 ≤ j ∧ j < 1764 then fl j else c j, fun j => if 0 ≤ j ∧ j < ns then fn j else d j, ?_, ?_, ?_, ?_⟩
  · unfold m_Mo_keepOld
    rw [show (0 : Int32) = N 0 from rfl, q_ko18 fu 0 a b (by unfold fu; omega) (by omega), bd2_i rfl, q_ko56 fu 0 c (by unfold fu; omega) (by omega), bd1_i rfl, q_ko91 hs fu 0 d (by unfold fu; omega) (by omega), bd1_i rfl]
  · obtain ⟨g1, g2, g3, g4, g5, g6⟩ := g
    exact ⟨fun i hi => by dsimp only; rw [if_pos (by omega)]; exact g1 i hi, g2, g3, fun i hi => by dsimp only; rw [if_pos (by omega)]; exact g4 i hi, g5, g6⟩
  · intro p r h1 h2 h3 h4
    dsimp only
    rw [if_pos (by omega)]; exact l p r h1 h2 h3 h4
  · intro o ho
    dsimp only
    rw [if_pos (by omega)]; exact hn o ho
/-! Lines that lie along one another. -/
abbrev Li4 := Nat × Nat × Nat × Nat
def q_ap (a b : Li4) : Prop := (a.2.1 = a.2.2.2 → b.2.1 = b.2.2.2 → a.2.1 = b.2.1 → a.2.2.1 ≤ b.1 ∨ b.2.2.1 ≤ a.1) ∧ (a.1 = a.2.2.1 → b.1 = b.2.2.1 → a.1 = b.1 → a.2.2.2 ≤ b.2.1 ∨ b.2.2.2 ≤ a.2.1)
def q_l4 (c : Li4) : Prop := c.2.2.1 ≤ 500 ∧ c.2.2.2 ≤ 500 ∧ ((c.1 < c.2.2.1 ∧ c.2.1 = c.2.2.2) ∨ (c.1 = c.2.2.1 ∧ c.2.1 < c.2.2.2))
theorem q_ap_s {a b : Li4} (h : q_ap a b) : q_ap b a := by
  unfold q_ap at *
  omega
theorem q_ap_T (T : Sto) (l : Nat) (c : Li4) : q_ap (T l) c ↔ ((yl T l = yh T l → c.2.1 = c.2.2.2 → yl T l = c.2.1 → xh T l ≤ c.1 ∨ c.2.2.1 ≤ xl T l) ∧ (xl T l = xh T l → c.1 = c.2.2.1 → xl T l = c.1 → yh T l ≤ c.2.1 ∨ c.2.2.2 ≤ yl T l)) := Iff.rfl
theorem q_Clie_L {n : Nat} {T : Sto} {f1 f2 f3 f4 : Nat → Int32} (hok : q_ok n T) (hc : q_cl n T f1 f2 f3 f4) {c : Li4} (h4 : q_l4 c) {k : Int} (hk : -1 ≤ k ∧ k ≤ 1000) :
    ∀ fuel l, n - l < fuel → l ≤ n → (∀ m : Nat, m < l → (m : Int) = k ∨ q_ap (T m) c) → ((∃ m : Nat, m < n ∧ (m : Int) ≠ k ∧ ¬ q_ap (T m) c) ∧ m_Li_someLieAlong_L3 (J k) (N c.1) (N c.2.1) (N c.2.2.1) (N c.2.2.2) (N n) f1 f2 f3 f4 fuel (N l) = some (Sum.inl 1)) ∨ ((¬ ∃ m : Nat, m < n ∧ (m : Int) ≠ k ∧ ¬ q_ap (T m) c) ∧ m_Li_someLieAlong_L3 (J k) (N c.1) (N c.2.1) (N c.2.2.1) (N c.2.2.2) (N n) f1 f2 f3 f4 fuel (N l) = some (Sum.inr ())) := by
  have hn := hok.1
  obtain ⟨x0, y0, x1, y1⟩ := c
  unfold q_l4 at h4
  dsimp only at h4
  intro fuel
  induction fuel with
  | zero => intro l h; omega
  | succ m ih =>
    intro l hm hl hno
    rw [m_Li_someLieAlong_L3]
    by_cases e : n ≤ l
    · right
      rw [if_pos ((N_le (by omega) (by omega)).mpr e)]
      exact ⟨fun ⟨m, a, b, d⟩ => (hno m (by omega)).elim b d, rfl⟩
    · have hl' : l < n := by omega
      obtain ⟨g1, g2, g3, g4⟩ := hc l hl'
      have hq := hok.2.1 l hl'
      unfold q_ln at hq
      dsimp only
      rw [if_neg (fun q => e ((N_le (by omega) (by omega)).mp q)), gI_N (by omega) (by omega), gI_N (by omega) (by omega), N_nat (by omega), g1, g2, g3, g4, lt_e, gI_N (by omega) (by omega), gI_N (by omega) (by omega), lt_e, q_jminN (by omega) (by omega), q_jmaxN (by omega) (by omega), q_jminN (by omega) (by omega), q_jmaxN (by omega) (by omega), J_sub, J_sub, show (0 : Int32) = J 0 from rfl, J_add]
      have bw : -1000 ≤ (if (x1 : Int) ≤ xh T l then (x1 : Int) else xh T l) - (if (xl T l : Int) ≤ x0 then (x0 : Int) else xl T l) ∧ (if (x1 : Int) ≤ xh T l then (x1 : Int) else xh T l) - (if (xl T l : Int) ≤ x0 then (x0 : Int) else xl T l) ≤ 1000 := by
        clear ih hno
        split <;> split <;> omega
      have bh : -1000 ≤ (if (y1 : Int) ≤ yh T l then (y1 : Int) else yh T l) - (if (yl T l : Int) ≤ y0 then (y0 : Int) else yl T l) ∧ (if (y1 : Int) ≤ yh T l then (y1 : Int) else yh T l) - (if (yl T l : Int) ≤ y0 then (y0 : Int) else yl T l) ≤ 1000 := by
        clear ih hno
        split <;> split <;> omega
      have key : (0 ≤ (if (x1 : Int) ≤ xh T l then (x1 : Int) else xh T l) - (if (xl T l : Int) ≤ x0 then (x0 : Int) else xl T l) ∧ 0 ≤ (if (y1 : Int) ≤ yh T l then (y1 : Int) else yh T l) - (if (yl T l : Int) ≤ y0 then (y0 : Int) else yl T l) ∧ 0 < ((if (x1 : Int) ≤ xh T l then (x1 : Int) else xh T l) - (if (xl T l : Int) ≤ x0 then (x0 : Int) else xl T l)) + ((if (y1 : Int) ≤ yh T l then (y1 : Int) else yh T l) - (if (yl T l : Int) ≤ y0 then (y0 : Int) else yl T l))) ↔ ¬ q_ap (T l) (x0, y0, x1, y1) := by
        clear ih hno
        rw [q_ap_T]
        dsimp only
        split <;> split <;> split <;> split <;> omega
      have next : ∀ hh : ((l : Int) = k ∨ q_ap (T l) (x0, y0, x1, y1)), ((∃ m : Nat, m < n ∧ (m : Int) ≠ k ∧ ¬ q_ap (T m) (x0, y0, x1, y1)) ∧ m_Li_someLieAlong_L3 (J k) (N x0) (N y0) (N x1) (N y1) (N n) f1 f2 f3 f4 m (N (l + 1)) = some (Sum.inl 1)) ∨ ((¬ ∃ m : Nat, m < n ∧ (m : Int) ≠ k ∧ ¬ q_ap (T m) (x0, y0, x1, y1)) ∧ m_Li_someLieAlong_L3 (J k) (N x0) (N y0) (N x1) (N y1) (N n) f1 f2 f3 f4 m (N (l + 1)) = some (Sum.inr ())) := by
        intro hh
        exact ih (l + 1) (by omega) (by omega) (fun m hm => by
          by_cases em : m = l
          · rw [em]; exact hh
          · exact hno m (by omega))
      clear ih hno
      generalize (if (x1 : Int) ≤ xh T l then (x1 : Int) else xh T l) - (if (xl T l : Int) ≤ x0 then (x0 : Int) else xl T l) = w at *
      generalize (if (y1 : Int) ≤ yh T l then (y1 : Int) else yh T l) - (if (yl T l : Int) ≤ y0 then (y0 : Int) else yl T l) = h at *
      have skip : ((l : Int) = k ∨ q_ap (T l) (x0, y0, x1, y1)) → (if N l = J k then (some (Sum.inr ()) : Option (Sum Int32 Unit)) else if J w < J 0 then some (Sum.inr ()) else if J h < J 0 then some (Sum.inr ()) else if J (w + h) ≤ J 0 then some (Sum.inr ()) else gB 1 (some (Sum.inl 1))) = some (Sum.inr ()) := by
        intro hh
        by_cases ek : (l : Int) = k
        · rw [if_pos (by rw [N_J, ek])]
        · rw [if_neg (fun q => ek (by rw [N_J] at q; exact (J_eq (by omega) (by omega) (by omega) (by omega)).mp q))]
          have na : ¬ (0 ≤ w ∧ 0 ≤ h ∧ 0 < w + h) := fun q => (key.mp q) (hh.elim (fun z => (ek z).elim) id)
          by_cases z1 : w < 0
          · rw [if_pos ((J_lt (by omega) (by omega) (by omega) (by omega)).mpr z1)]
          · rw [if_neg (fun q => z1 ((J_lt (by omega) (by omega) (by omega) (by omega)).mp q))]
            by_cases z2 : h < 0
            · rw [if_pos ((J_lt (by omega) (by omega) (by omega) (by omega)).mpr z2)]
            · rw [if_neg (fun q => z2 ((J_lt (by omega) (by omega) (by omega) (by omega)).mp q)), if_pos ((J_le (by omega) (by omega) (by omega) (by omega)).mpr (by omega))]
      by_cases hh : (l : Int) = k ∨ q_ap (T l) (x0, y0, x1, y1)
      · rw [skip hh]
        show (_ ∧ lt_ (N l + 1) _ = _) ∨ (_ ∧ lt_ (N l + 1) _ = _)
        rw [lt_e, N_lit 1, N_add]
        exact next hh
      · left
        have ek : (l : Int) ≠ k := fun q => hh (Or.inl q)
        have na : ¬ q_ap (T l) (x0, y0, x1, y1) := fun q => hh (Or.inr q)
        have kk := key.mpr na
        refine ⟨⟨l, hl', ek, na⟩, ?_⟩
        rw [if_neg (fun q => ek (by rw [N_J] at q; exact (J_eq (by omega) (by omega) (by omega) (by omega)).mp q)), if_neg (fun q => by have := (J_lt (by omega) (by omega) (by omega) (by omega)).mp q; omega), if_neg (fun q => by have := (J_lt (by omega) (by omega) (by omega) (by omega)).mp q; omega), if_neg (fun q => by have := (J_le (by omega) (by omega) (by omega) (by omega)).mp q; omega), gB_1]
        rfl
theorem q_Clie {n : Nat} {T : Sto} {f1 f2 f3 f4 : Nat → Int32} (hok : q_ok n T) (hc : q_cl n T f1 f2 f3 f4) {c : Li4} (h4 : q_l4 c) {k : Int} (hk : -1 ≤ k ∧ k ≤ 1000) : m_Li_someLieAlong (J k) (N c.1) (N c.2.1) (N c.2.2.1) (N c.2.2.2) (N n) f1 f2 f3 f4 = some (N (q_one (∃ m : Nat, m < n ∧ (m : Int) ≠ k ∧ ¬ q_ap (T m) c))) := by
  have hn := hok.1
  unfold m_Li_someLieAlong
  rw [show (0 : Int32) = N 0 from rfl]
  rcases q_Clie_L hok hc h4 hk fu 0 (by unfold fu; omega) (by omega) (fun m h => by omega) with ⟨a, e⟩ | ⟨a, e⟩
  · rw [e, q_one_t a]; rfl
  · rw [e, q_one_f a]; exact gB_0 _
def q_sty (c : Li4) : Nat := if c.2.1 = c.2.2.2 then c.2.1 else c.1
def q_loy (c : Li4) : Nat := if c.2.1 = c.2.2.2 then c.1 else c.2.1
def q_hiy (c : Li4) : Nat := if c.2.1 = c.2.2.2 then c.2.2.1 else c.2.2.2
theorem q_Rlie_L {n : Nat} {T : Sto} {fI fA fL fH : Nat → Int32} (hok : q_ok n T) (hc : q_rl n T fI fA fL fH) {c : Li4} (h4 : q_l4 c) {k : Int} (hk : -1 ≤ k ∧ k ≤ 1000) :
    ∀ fuel l, n - l < fuel → l ≤ n → m_Mo_lies_L6 (J k) (if c.2.1 = c.2.2.2 then 1 else 0) (N (q_sty c)) (N (q_loy c)) (N (q_hiy c)) (N n) fI fA fL fH fuel (N (q_one (∃ m : Nat, m < l ∧ (m : Int) ≠ k ∧ ¬ q_ap (T m) c))) (N l) = some (N (q_one (∃ m : Nat, m < n ∧ (m : Int) ≠ k ∧ ¬ q_ap (T m) c))) := by
  have hn := hok.1
  have bc : q_sty c ≤ 500 ∧ q_loy c ≤ 500 ∧ q_hiy c ≤ 500 := by
    unfold q_l4 at h4
    unfold q_sty q_loy q_hiy
    split <;> omega
  intro fuel
  induction fuel with
  | zero => intro l h; omega
  | succ m ih =>
    intro l hm hl
    rw [m_Mo_lies_L6]
    by_cases e : n ≤ l
    · rw [if_pos ((N_le (by omega) (by omega)).mpr e), show l = n by omega]
    · have hl' : l < n := by omega
      obtain ⟨r1, r2, r3, r4⟩ := q_rl_g hc hl'
      have bl := q_bdT hok hl'
      have hq := hok.2.1 l hl'
      have gl : ∀ x : Option Int32, gI (N l) 20 x = x := fun x => gI_N (by omega) (by omega)
      have ei : (fI l = (if c.2.1 = c.2.2.2 then 1 else 0)) ↔ ((yl T l = yh T l) ↔ (c.2.1 = c.2.2.2)) := by
        rw [r1]
        by_cases f : yl T l = yh T l
        · by_cases g : c.2.1 = c.2.2.2
          · rw [if_pos f, if_pos g]; exact ⟨fun _ => ⟨fun _ => g, fun _ => f⟩, fun _ => rfl⟩
          · rw [if_pos f, if_neg g]; exact ⟨fun q => absurd q (by decide), fun q => (g (q.mp f)).elim⟩
        · by_cases g : c.2.1 = c.2.2.2
          · rw [if_neg f, if_pos g]; exact ⟨fun q => absurd q (by decide), fun q => (f (q.mpr g)).elim⟩
          · rw [if_neg f, if_neg g]; exact ⟨fun _ => ⟨fun q => (f q).elim, fun q => (g q).elim⟩, fun _ => rfl⟩
      have e5 : (if N l = J k then some (0 : Int32) else gI (N l) 20 (if fI l = (if c.2.1 = c.2.2.2 then 1 else 0) then gI (N l) 20 (if fA l = N (q_sty c) then some 1 else some 0) else some 0)) = some (N (q_one ((l : Int) ≠ k ∧ ((yl T l = yh T l) ↔ (c.2.1 = c.2.2.2)) ∧ q_stay T l = q_sty c))) := by
        by_cases ek : (l : Int) = k
        · rw [if_pos (by rw [N_J, ek]), q_one_f (fun q => q.1 ek)]; rfl
        · rw [if_neg (fun q => ek (by rw [N_J] at q; exact (J_eq (by omega) (by omega) (by omega) (by omega)).mp q)), gl, gl, r2]
          by_cases z1 : (yl T l = yh T l) ↔ (c.2.1 = c.2.2.2)
          · rw [if_pos (ei.mpr z1)]
            by_cases z2 : q_stay T l = q_sty c
            · rw [if_pos (by rw [z2]), q_one_t ⟨ek, z1, z2⟩]; rfl
            · rw [if_neg (fun q => z2 ((N_eq (by omega) (by omega)).mp q)), q_one_f (fun q => z2 q.2.2)]; rfl
          · rw [if_neg (fun q => z1 (ei.mp q)), q_one_f (fun q => z1 q.2.1)]; rfl
      have key : ((l : Int) ≠ k ∧ ¬ q_ap (T l) c) ↔ (((l : Int) ≠ k ∧ ((yl T l = yh T l) ↔ (c.2.1 = c.2.2.2)) ∧ q_stay T l = q_sty c) ∧ ¬ ((if q_hi T l ≤ q_hiy c then q_hi T l else q_hiy c) ≤ (if q_loy c ≤ q_lo T l then q_lo T l else q_loy c))) := by
        unfold q_ln at hq
        unfold q_l4 at h4
        clear ih
        rw [q_ap_T]
        unfold q_stay q_sty q_hi q_lo q_hiy q_loy
        clear bl bc r1 r2 r3 r4 ei e5 gl hok hc hk
        by_cases ek : (l : Int) = k
        · exact ⟨fun q => (q.1 ek).elim, fun q => (q.1.1 ek).elim⟩
        · rcases hq with ⟨_, _, ⟨a1, a2⟩ | ⟨a1, a2⟩⟩ <;> rcases h4 with ⟨_, _, ⟨b1, b2⟩ | ⟨b1, b2⟩⟩
          · rw [if_pos a2, if_pos a2, if_pos a2, if_pos b2, if_pos b2, if_pos b2]
            by_cases z : yl T l = c.2.1
            · have : ((if xh T l ≤ c.2.2.1 then xh T l else c.2.2.1) ≤ (if c.1 ≤ xl T l then xl T l else c.1)) ↔ (xh T l ≤ c.1 ∨ c.2.2.1 ≤ xl T l) := by split <;> split <;> omega
              rw [this]
              exact ⟨fun q => ⟨⟨ek, ⟨fun _ => b2, fun _ => a2⟩, z⟩, fun w => q.2 ⟨fun _ _ _ => w, fun w => by omega⟩⟩, fun q => ⟨ek, fun w => q.2 (w.1 a2 b2 z)⟩⟩
            · exact ⟨fun q => (q.2 ⟨fun _ _ w => (z w).elim, fun w => by omega⟩).elim, fun q => (z q.1.2.2).elim⟩
          · exact ⟨fun q => (q.2 ⟨fun _ w => by omega, fun w => by omega⟩).elim, fun q => by have := q.1.2.1.mp a2; omega⟩
          · exact ⟨fun q => (q.2 ⟨fun w => by omega, fun _ w => by omega⟩).elim, fun q => by have := q.1.2.1.mpr b2; omega⟩
          · have a3 : ¬ yl T l = yh T l := by omega
            have b3 : ¬ c.2.1 = c.2.2.2 := by omega
            rw [if_neg a3, if_neg a3, if_neg a3, if_neg b3, if_neg b3, if_neg b3]
            by_cases z : xl T l = c.1
            · have : ((if yh T l ≤ c.2.2.2 then yh T l else c.2.2.2) ≤ (if c.2.1 ≤ yl T l then yl T l else c.2.1)) ↔ (yh T l ≤ c.2.1 ∨ c.2.2.2 ≤ yl T l) := by split <;> split <;> omega
              rw [this]
              exact ⟨fun q => ⟨⟨ek, ⟨fun w => (a3 w).elim, fun w => (b3 w).elim⟩, z⟩, fun w => q.2 ⟨fun w => (a3 w).elim, fun _ _ _ => w⟩⟩, fun q => ⟨ek, fun w => q.2 (w.2 a1 b1 z)⟩⟩
            · exact ⟨fun q => (q.2 ⟨fun w => (a3 w).elim, fun _ _ w => (z w).elim⟩).elim, fun q => (z q.1.2.2).elim⟩
      have e21 : (if N (q_loy c) ≤ fL l then gI (N l) 20 (some (fL l)) else some (N (q_loy c))) = some (N (if q_loy c ≤ q_lo T l then q_lo T l else q_loy c)) := by
        rw [gl, r3]
        by_cases z : q_loy c ≤ q_lo T l
        · rw [if_pos ((N_le (by omega) (by omega)).mpr z), if_pos z]
        · rw [if_neg (fun q => z ((N_le (by omega) (by omega)).mp q)), if_neg z]
      have e28 : (if fH l ≤ N (q_hiy c) then gI (N l) 20 (some (fH l)) else some (N (q_hiy c))) = some (N (if q_hi T l ≤ q_hiy c then q_hi T l else q_hiy c)) := by
        rw [gl, r4]
        by_cases z : q_hi T l ≤ q_hiy c
        · rw [if_pos ((N_le (by omega) (by omega)).mpr z), if_pos z]
        · rw [if_neg (fun q => z ((N_le (by omega) (by omega)).mp q)), if_neg z]
      have b21 : (if q_loy c ≤ q_lo T l then q_lo T l else q_loy c) ≤ 500 := by split <;> omega
      have b28 : (if q_hi T l ≤ q_hiy c then q_hi T l else q_hiy c) ≤ 500 := by split <;> omega
      rw [if_neg (fun q => e ((N_le (by omega) (by omega)).mp q)), N_nat (by omega), e5, bd1_i rfl, gI_N (by omega) (by omega), e21, bd1_i rfl, gI_N (by omega) (by omega), e28, bd1_i rfl]
      generalize (if q_loy c ≤ q_lo T l then q_lo T l else q_loy c) = lo at *
      generalize (if q_hi T l ≤ q_hiy c then q_hi T l else q_hiy c) = hi at *
      have e14 : (if N (q_one (∃ m : Nat, m < l ∧ (m : Int) ≠ k ∧ ¬ q_ap (T m) c)) = 0 then if N (q_one ((l : Int) ≠ k ∧ ((yl T l = yh T l) ↔ (c.2.1 = c.2.2.2)) ∧ q_stay T l = q_sty c)) = 0 then some (0 : Int32) else if N hi ≤ N lo then some 0 else some 1 else some 1) = some (N (q_one (∃ m : Nat, m < l + 1 ∧ (m : Int) ≠ k ∧ ¬ q_ap (T m) c))) := by
        have step : (∃ m : Nat, m < l + 1 ∧ (m : Int) ≠ k ∧ ¬ q_ap (T m) c) ↔ ((∃ m : Nat, m < l ∧ (m : Int) ≠ k ∧ ¬ q_ap (T m) c) ∨ ((l : Int) ≠ k ∧ ¬ q_ap (T l) c)) := by
          constructor
          · intro ⟨m, a, b⟩
            by_cases em : m = l
            · rw [em] at b; exact Or.inr b
            · exact Or.inl ⟨m, by omega, b⟩
          · intro q
            rcases q with ⟨m, a, b⟩ | q
            · exact ⟨m, by omega, b⟩
            · exact ⟨l, by omega, q⟩
        rw [q_one_c step]
        by_cases z0 : ∃ m : Nat, m < l ∧ (m : Int) ≠ k ∧ ¬ q_ap (T m) c
        · rw [if_neg (fun q => (q_one0 _).mp q z0), q_one_t (Or.inl z0)]; rfl
        · rw [if_pos ((q_one0 _).mpr z0)]
          by_cases z1 : (l : Int) ≠ k ∧ ((yl T l = yh T l) ↔ (c.2.1 = c.2.2.2)) ∧ q_stay T l = q_sty c
          · rw [if_neg (fun q => (q_one0 _).mp q z1)]
            by_cases z2 : hi ≤ lo
            · rw [if_pos ((N_le (by omega) (by omega)).mpr z2), q_one_f (fun q => q.elim z0 (fun q => (key.mp q).2 z2))]; rfl
            · rw [if_neg (fun q => z2 ((N_le (by omega) (by omega)).mp q)), q_one_t (Or.inr (key.mpr ⟨z1, z2⟩))]; rfl
          · rw [if_pos ((q_one0 _).mpr z1), q_one_f (fun q => q.elim z0 (fun q => z1 (key.mp q).1))]; rfl
      rw [e14, bd1_i rfl, lt_e, N_lit 1, N_add]
      exact ih (l + 1) (by omega) (by omega)
theorem q_Rlie {n : Nat} {T : Sto} {fI fA fL fH : Nat → Int32} (hok : q_ok n T) (hc : q_rl n T fI fA fL fH) {c : Li4} (h4 : q_l4 c) {k : Int} (hk : -1 ≤ k ∧ k ≤ 1000) : m_Mo_lies (J k) (if c.2.1 = c.2.2.2 then 1 else 0) (N (q_sty c)) (N (q_loy c)) (N (q_hiy c)) (N n) fI fA fL fH = some (N (q_one (∃ m : Nat, m < n ∧ (m : Int) ≠ k ∧ ¬ q_ap (T m) c))) := by
  have hn := hok.1
  unfold m_Mo_lies
  have := q_Rlie_L hok hc h4 hk fu 0 (by unfold fu; omega) (by omega)
  rw [q_one_f (show ¬ ∃ m : Nat, m < 0 ∧ (m : Int) ≠ k ∧ ¬ q_ap (T m) c from fun ⟨m, h, _⟩ => by omega)] at this
  rw [show (0 : Int32) = N 0 from rfl]
  have e : m_Mo_lies_L6 (J k) (if c.2.1 = c.2.2.2 then 1 else N 0) (N (q_sty c)) (N (q_loy c)) (N (q_hiy c)) (N n) fI fA fL fH fu (N 0) (N 0) = _ := this
  rw [bd1_i e, gB_o]
/-! The class's and the reference's line, move and door. -/
theorem J_of (p : Int32) : p = J p.toInt := by unfold J; rw [Int32.ofInt_toInt]
theorem J_bd (p : Int32) : -2147483648 ≤ p.toInt ∧ p.toInt < 2147483648 := ⟨Int32.le_toInt p, Int32.toInt_lt p⟩
theorem K_cm {a b : Int} (h1 : -9000000000 ≤ a ∧ a ≤ 9000000000) (h2 : -9000000000 ≤ b ∧ b ≤ 9000000000) : (lg_cmp (K a) (K b) < 0 ↔ a < b) ∧ (lg_cmp (K a) (K b) ≤ 0 ↔ a ≤ b) ∧ (0 < lg_cmp (K a) (K b) ↔ b < a) := by
  unfold lg_cmp
  have e1 : (K a > K b) ↔ b < a := K_lt (by omega) (by omega) (by omega) (by omega)
  have e2 : (K a = K b) ↔ a = b := K_eq (by omega) (by omega) (by omega) (by omega)
  by_cases c : b < a
  · rw [if_pos (e1.mpr c)]
    refine ⟨⟨fun q => absurd q (by decide), fun q => by omega⟩, ⟨fun q => absurd q (by decide), fun q => by omega⟩, ⟨fun _ => c, fun _ => by decide⟩⟩
  · rw [if_neg (fun q => c (e1.mp q))]
    by_cases d : a = b
    · rw [if_pos (e2.mpr d)]
      refine ⟨⟨fun q => absurd q (by decide), fun q => by omega⟩, ⟨fun _ => by omega, fun _ => by decide⟩, ⟨fun q => absurd q (by decide), fun q => by omega⟩⟩
    · rw [if_neg (fun q => d (e2.mp q))]
      refine ⟨⟨fun _ => by omega, fun _ => by decide⟩, ⟨fun _ => by omega, fun _ => by decide⟩, ⟨fun q => absurd q (by decide), fun q => by omega⟩⟩
theorem q_needC {a : Int} (h : -9000000000 ≤ a ∧ a ≤ 9000000000) : m_Sp_needCoordinate (K a) = some (if 0 ≤ a ∧ a ≤ 500 then Sum.inr () else Sum.inl 1) := by
  unfold m_Sp_needCoordinate
  rw [show (0 : Int64) = K 0 from rfl, show (500 : Int64) = K 500 from rfl]
  obtain ⟨e1, _, _⟩ := K_cm h (show -9000000000 ≤ (0 : Int) ∧ (0 : Int) ≤ 9000000000 by omega)
  obtain ⟨_, e2, _⟩ := K_cm h (show -9000000000 ≤ (500 : Int) ∧ (500 : Int) ≤ 9000000000 by omega)
  by_cases c : a < 0
  · rw [if_pos (e1.mpr c), if_neg (by omega)]
  · rw [if_neg (fun q => c (e1.mp q))]
    by_cases d : a ≤ 500
    · rw [if_pos (e2.mpr d), if_pos (by omega)]
    · rw [if_neg (fun q => d (e2.mp q)), if_neg (by omega)]
theorem q_in1 {a lo hi : Int} (h : -9000000000 ≤ a ∧ a ≤ 9000000000) (hl : -9000000000 ≤ lo ∧ lo ≤ 9000000000) (hh : -9000000000 ≤ hi ∧ hi ≤ 9000000000) : m_Mo_isIn (K a) (K lo) (K hi) = some (N (q_one (lo ≤ a ∧ a ≤ hi))) := by
  unfold m_Mo_isIn
  obtain ⟨e1, _, _⟩ := K_cm h hl
  obtain ⟨_, _, e2⟩ := K_cm h hh
  have e : (if lg_cmp (K a) (K lo) < 0 then some (0 : Int32) else if 0 < lg_cmp (K a) (K hi) then some 0 else some 1) = some (N (q_one (lo ≤ a ∧ a ≤ hi))) := by
    by_cases c : a < lo
    · rw [if_pos (e1.mpr c), q_one_f (by omega)]; rfl
    · rw [if_neg (fun q => c (e1.mp q))]
      by_cases d : hi < a
      · rw [if_pos (e2.mpr d), q_one_f (by omega)]; rfl
      · rw [if_neg (fun q => d (e2.mp q)), q_one_t (by omega)]; rfl
  rw [bd1_i e, gB_o]
theorem q_needB {a lo hi : Int} (h : -2147483648 ≤ a ∧ a < 2147483648) (hl : -2147483648 ≤ lo ∧ lo < 2147483648) (hh : -2147483648 ≤ hi ∧ hi < 2147483648) : m_Sp_needBetween (J a) (J lo) (J hi) = some (if lo ≤ a ∧ a ≤ hi then Sum.inr () else Sum.inl 1) := by
  unfold m_Sp_needBetween
  by_cases c : a < lo
  · rw [if_pos ((J_lt (by omega) (by omega) (by omega) (by omega)).mpr c), if_neg (by omega)]
  · rw [if_neg (fun q => c ((J_lt (by omega) (by omega) (by omega) (by omega)).mp q))]
    by_cases d : a ≤ hi
    · rw [if_pos ((J_le (by omega) (by omega) (by omega) (by omega)).mpr d), if_pos (by omega)]
    · rw [if_neg (fun q => d ((J_le (by omega) (by omega) (by omega) (by omega)).mp q)), if_neg (by omega)]
theorem q_needL {a : Int} {n : Nat} (h : -2147483648 ≤ a ∧ a < 2147483648) (hn : n ≤ 1000) : m_Sp_needLine (J a) (N n) = some (if 0 ≤ a ∧ a < n then Sum.inr () else Sum.inl 1) := by
  unfold m_Sp_needLine
  rw [show (0 : Int32) = J 0 from rfl, N_J]
  by_cases c : a < 0
  · rw [if_pos ((J_lt (by omega) (by omega) (by omega) (by omega)).mpr c), if_neg (by omega)]
  · rw [if_neg (fun q => c ((J_lt (by omega) (by omega) (by omega) (by omega)).mp q))]
    by_cases d : a < n
    · rw [if_pos ((J_lt (by omega) (by omega) (by omega) (by omega)).mpr d), if_pos (by omega)]
    · rw [if_neg (fun q => d ((J_lt (by omega) (by omega) (by omega) (by omega)).mp q)), if_neg (by omega)]
theorem q_isLine {a : Int} {n : Nat} (h : -2147483648 ≤ a ∧ a < 2147483648) (hn : n ≤ 1000) : m_Mo_isLine (J a) (N n) = some (N (q_one (0 ≤ a ∧ a < n))) := by
  unfold m_Mo_isLine
  rw [N_J, show (1 : Int32) = J 1 from rfl, J_sub, J_K (by omega) (by omega), J_K (by omega) (by omega), show (0 : Int64) = K 0 from rfl, bd1_i (q_in1 (by omega) (by omega) (by omega)), gB_o, q_one_c (show (0 ≤ a ∧ a ≤ (n : Int) - 1) ↔ (0 ≤ a ∧ a < n) by omega)]
theorem q_jmin {a b : Nat} (ha : a < 2147483648) (hb : b < 2147483648) : jmin (N a) (N b) = N (if b < a then b else a) := by
  unfold jmin
  by_cases c : b < a
  · rw [if_pos ((N_lt hb ha).mpr c), if_pos c]
  · rw [if_neg (fun q => c ((N_lt hb ha).mp q)), if_neg c]
theorem q_jmax {a b : Nat} (ha : a < 2147483648) (hb : b < 2147483648) : jmax (N a) (N b) = N (if a < b then b else a) := by
  unfold jmax
  by_cases c : a < b
  · rw [if_pos ((N_lt ha hb).mpr c), if_pos c]
  · rw [if_neg (fun q => c ((N_lt ha hb).mp q)), if_neg c]
/-! The storey's lines, thicknesses and doors, in both. -/
def q_LI (n : Nat) (T : Sto) (tk dn df dt : Nat → Nat) (f1 f2 f3 f4 th fn ff ft fI fA fL fH th' fn' ff' ft' : Nat → Int32) : Prop :=
  q_ok n T ∧ q_cl n T f1 f2 f3 f4 ∧ q_rl n T fI fA fL fH ∧ (∀ l, l < n → th l = N (tk l) ∧ tk l ≤ 60) ∧ (∀ l, l < n → th' l = N (tk l) ∧ tk l ≤ 60) ∧ q_dr n dn df dt fn ff ft ∧ q_dr n dn df dt fn' ff' ft' ∧ ∀ l, n ≤ l → l < 20 → fn l = 0
def q_sT (T : Sto) (n : Nat) (c : Li4) : Sto := fun l => if l = n then c else T l
theorem q_sT_s (T : Sto) (n : Nat) (c : Li4) : q_sT T n c n = c := if_pos rfl
theorem q_sT_n (T : Sto) {n l : Nat} (c : Li4) (h : l ≠ n) : q_sT T n c l = T l := if_neg h
def q_sN (f : Nat → Nat) (n v : Nat) : Nat → Nat := fun l => if l = n then v else f l
theorem q_ok_add {n : Nat} {T : Sto} (hok : q_ok n T) (hn : n < 20) {c : Li4} (h4 : q_l4 c) (ha : ¬ ∃ m : Nat, m < n ∧ (m : Int) ≠ -1 ∧ ¬ q_ap (T m) c) : q_ok (n + 1) (q_sT T n c) := by
  refine ⟨by omega, ?_, ?_⟩
  · intro l hl
    by_cases e : l = n
    · show q_l4 (q_sT T n c l)
      rw [e, q_sT_s]; exact h4
    · show q_l4 (q_sT T n c l)
      rw [q_sT_n T c e]; exact hok.2.1 l (by omega)
  · intro l m hl hm hlm
    show q_ap (q_sT T n c l) (q_sT T n c m)
    by_cases e : l = n
    · have e' : m ≠ n := by omega
      rw [e, q_sT_s, q_sT_n T c e']
      exact q_ap_s (Classical.byContradiction fun q => ha ⟨m, by omega, by omega, q⟩)
    · rw [q_sT_n T c e]
      by_cases e' : m = n
      · rw [e', q_sT_s]
        exact Classical.byContradiction fun q => ha ⟨l, by omega, by omega, q⟩
      · rw [q_sT_n T c e']
        exact hok.2.2 l m (by omega) (by omega) hlm
theorem q_ok_set {n : Nat} {T : Sto} (hok : q_ok n T) {k : Nat} (hk : k < n) {c : Li4} (h4 : q_l4 c) (ha : ¬ ∃ m : Nat, m < n ∧ (m : Int) ≠ k ∧ ¬ q_ap (T m) c) : q_ok n (q_sT T k c) := by
  refine ⟨hok.1, ?_, ?_⟩
  · intro l hl
    by_cases e : l = k
    · show q_l4 (q_sT T k c l)
      rw [e, q_sT_s]; exact h4
    · show q_l4 (q_sT T k c l)
      rw [q_sT_n T c e]; exact hok.2.1 l (by omega)
  · intro l m hl hm hlm
    show q_ap (q_sT T k c l) (q_sT T k c m)
    by_cases e : l = k
    · have e' : m ≠ k := by omega
      rw [e, q_sT_s, q_sT_n T c e']
      exact q_ap_s (Classical.byContradiction fun q => ha ⟨m, by omega, by omega, q⟩)
    · rw [q_sT_n T c e]
      by_cases e' : m = k
      · rw [e', q_sT_s]
        exact Classical.byContradiction fun q => ha ⟨l, by omega, by omega, q⟩
      · rw [q_sT_n T c e']
        exact hok.2.2 l m (by omega) (by omega) hlm
theorem q_cl_set {n m k : Nat} {T : Sto} {f1 f2 f3 f4 : Nat → Int32} (hc : q_cl n T f1 f2 f3 f4) (c : Li4) (hm : ∀ l, l < m → l ≠ k → l < n) : q_cl m (q_sT T k c) (upd f1 k (N c.1)) (upd f2 k (N c.2.1)) (upd f3 k (N c.2.2.1)) (upd f4 k (N c.2.2.2)) := by
  intro l hl
  unfold xl yl xh yh
  by_cases e : l = k
  · rw [e, q_sT_s, upd_s, upd_s, upd_s, upd_s]; exact ⟨rfl, rfl, rfl, rfl⟩
  · rw [q_sT_n T c e, upd_n _ _ e, upd_n _ _ e, upd_n _ _ e, upd_n _ _ e]; exact hc l (hm l hl e)
theorem q_rl_set {n m k : Nat} {T : Sto} {fI fA fL fH : Nat → Int32} (hc : q_rl n T fI fA fL fH) (c : Li4) (hm : ∀ l, l < m → l ≠ k → l < n) (gI' gA gL gH : Nat → Int32) (h1 : gI' k = if c.2.1 = c.2.2.2 then 1 else 0) (h2 : gA k = N (q_sty c)) (h3 : gL k = N (q_loy c)) (h4 : gH k = N (q_hiy c)) (hn : ∀ l, l ≠ k → gI' l = fI l ∧ gA l = fA l ∧ gL l = fL l ∧ gH l = fH l) : q_rl m (q_sT T k c) gI' gA gL gH := by
  intro l hl
  unfold xl yl xh yh
  by_cases e : l = k
  · rw [e, q_sT_s, h1, h2, h3, h4]
    unfold q_sty q_loy q_hiy
    constructor
    · intro q; rw [if_pos q, if_pos q, if_pos q, if_pos q]; exact ⟨rfl, rfl, rfl, rfl⟩
    · intro q; rw [if_neg q, if_neg q, if_neg q, if_neg q]; exact ⟨rfl, rfl, rfl, rfl⟩
  · obtain ⟨a1, a2, a3, a4⟩ := hn l e
    rw [q_sT_n T c e, a1, a2, a3, a4]; exact hc l (hm l hl e)
theorem q_nn (p : Int32) {z : Int} (h : p.toInt = z) (h0 : 0 ≤ z) : ∃ a : Nat, p = N a ∧ (a : Int) = z := ⟨z.toNat, by rw [J_of p, h]; unfold N; congr 1; omega, by omega⟩
theorem q_pre {p1 p2 p3 p4 p5 : Int32} {ρ : Type} (k : Int32 → Option ρ) :
  (bd1 (m_Mo_isIn (Int32.toInt64 p1) 0 500) fun r1 =>
  bd1 (
    if r1 = 0 then (
    some 0)
  else (
    bd1 (m_Mo_isIn (Int32.toInt64 p2) 0 500) fun r8 =>
    if r8 = 0 then (
      some 0)
    else (
      bd1 (m_Mo_isIn (Int32.toInt64 p3) 0 500) fun r11 =>
      if r11 = 0 then (
        some 0)
      else (
        bd1 (m_Mo_isIn (Int32.toInt64 p4) 0 500) fun r14 =>
        if r14 = 0 then (
          some 0)
        else (
          bd1 (m_Mo_isIn (Int32.toInt64 p5) 0 60) fun r17 =>
          if r17 = 0 then (
            some 0)
          else (
            if (p5 - p5 / 2 * 2) = 0 then (
              some 1)
            else (
              some 0))))))) k) = k (N (q_one ((0 ≤ p1.toInt ∧ p1.toInt ≤ 500) ∧ (0 ≤ p2.toInt ∧ p2.toInt ≤ 500) ∧ (0 ≤ p3.toInt ∧ p3.toInt ≤ 500) ∧ (0 ≤ p4.toInt ∧ p4.toInt ≤ 500) ∧ (0 ≤ p5.toInt ∧ p5.toInt ≤ 60) ∧ (p5 - p5 / 2 * 2) = 0))) := by
  have i5 : ∀ p : Int32, m_Mo_isIn (Int32.toInt64 p) 0 500 = some (N (q_one (0 ≤ p.toInt ∧ p.toInt ≤ 500))) := fun p => by
    have := J_bd p
    rw [show Int32.toInt64 p = K p.toInt by rw [← J_K this.1 this.2, ← J_of p], show (0 : Int64) = K 0 from rfl, show (500 : Int64) = K 500 from rfl, q_in1 (by omega) (by omega) (by omega)]
  have i6 : ∀ p : Int32, m_Mo_isIn (Int32.toInt64 p) 0 60 = some (N (q_one (0 ≤ p.toInt ∧ p.toInt ≤ 60))) := fun p => by
    have := J_bd p
    rw [show Int32.toInt64 p = K p.toInt by rw [← J_K this.1 this.2, ← J_of p], show (0 : Int64) = K 0 from rfl, show (60 : Int64) = K 60 from rfl, q_in1 (by omega) (by omega) (by omega)]
  rw [bd1_i (i5 p1)]
  by_cases c1 : 0 ≤ p1.toInt ∧ p1.toInt ≤ 500
  · rw [if_neg (fun q => (q_one0 _).mp q c1), bd1_i (i5 p2)]
    by_cases c2 : 0 ≤ p2.toInt ∧ p2.toInt ≤ 500
    · rw [if_neg (fun q => (q_one0 _).mp q c2), bd1_i (i5 p3)]
      by_cases c3 : 0 ≤ p3.toInt ∧ p3.toInt ≤ 500
      · rw [if_neg (fun q => (q_one0 _).mp q c3), bd1_i (i5 p4)]
        by_cases c4 : 0 ≤ p4.toInt ∧ p4.toInt ≤ 500
        · rw [if_neg (fun q => (q_one0 _).mp q c4), bd1_i (i6 p5)]
          by_cases c5 : 0 ≤ p5.toInt ∧ p5.toInt ≤ 60
          · rw [if_neg (fun q => (q_one0 _).mp q c5)]
            by_cases c6 : (p5 - p5 / 2 * 2) = 0
            · rw [if_pos c6, q_one_t ⟨c1, c2, c3, c4, c5, c6⟩]; rfl
            · rw [if_neg c6, q_one_f (fun q => c6 q.2.2.2.2.2)]; rfl
          · rw [if_pos ((q_one0 _).mpr c5), q_one_f (fun q => c5 q.2.2.2.2.1)]; rfl
        · rw [if_pos ((q_one0 _).mpr c4), q_one_f (fun q => c4 q.2.2.2.1)]; rfl
      · rw [if_pos ((q_one0 _).mpr c3), q_one_f (fun q => c3 q.2.2.1)]; rfl
    · rw [if_pos ((q_one0 _).mpr c2), q_one_f (fun q => c2 q.2.1)]; rfl
  · rw [if_pos ((q_one0 _).mpr c1), q_one_f (fun q => c1 q.1)]; rfl
theorem q_preC {p1 p2 p3 p4 p5 : Int32} {ρ : Type} (k : Option (Sum Nat ρ)) :
  (bx0 (m_Sp_needCoordinate (Int32.toInt64 p1)) <|
  bx0 (m_Sp_needCoordinate (Int32.toInt64 p2)) <|
  bx0 (m_Sp_needCoordinate (Int32.toInt64 p3)) <|
  bx0 (m_Sp_needCoordinate (Int32.toInt64 p4)) <|
  bx0 (m_Sp_needBetween p5 0 60) <|
  if (p5 - p5 / 2 * 2) = 0 then k else some (Sum.inl 1)) = if ((0 ≤ p1.toInt ∧ p1.toInt ≤ 500) ∧ (0 ≤ p2.toInt ∧ p2.toInt ≤ 500) ∧ (0 ≤ p3.toInt ∧ p3.toInt ≤ 500) ∧ (0 ≤ p4.toInt ∧ p4.toInt ≤ 500) ∧ (0 ≤ p5.toInt ∧ p5.toInt ≤ 60) ∧ (p5 - p5 / 2 * 2) = 0) then k else (some (Sum.inl 1)) := by
  have i5 : ∀ p : Int32, m_Sp_needCoordinate (Int32.toInt64 p) = some (if 0 ≤ p.toInt ∧ p.toInt ≤ 500 then Sum.inr () else Sum.inl 1) := fun p => by
    have := J_bd p
    rw [show Int32.toInt64 p = K p.toInt by rw [← J_K this.1 this.2, ← J_of p], q_needC (by omega)]
  have i6 : ∀ p : Int32, m_Sp_needBetween p 0 60 = some (if 0 ≤ p.toInt ∧ p.toInt ≤ 60 then Sum.inr () else Sum.inl 1) := fun p => by
    have := J_bd p
    have e := @q_needB p.toInt 0 60 (by omega) (by omega) (by omega)
    rw [← J_of p] at e
    exact e
  rw [i5, i5, i5, i5, i6]
  by_cases c1 : 0 ≤ p1.toInt ∧ p1.toInt ≤ 500
  · rw [if_pos c1]
    by_cases c2 : 0 ≤ p2.toInt ∧ p2.toInt ≤ 500
    · rw [if_pos c2]
      by_cases c3 : 0 ≤ p3.toInt ∧ p3.toInt ≤ 500
      · rw [if_pos c3]
        by_cases c4 : 0 ≤ p4.toInt ∧ p4.toInt ≤ 500
        · rw [if_pos c4]
          by_cases c5 : 0 ≤ p5.toInt ∧ p5.toInt ≤ 60
          · rw [if_pos c5]
            by_cases c6 : (p5 - p5 / 2 * 2) = 0
            · rw [if_pos c6]; exact (if_pos ⟨c1, c2, c3, c4, c5, c6⟩).symm
            · rw [if_neg c6]; exact (if_neg (fun q => c6 q.2.2.2.2.2)).symm
          · rw [if_neg c5]; exact (if_neg (fun q => c5 q.2.2.2.2.1)).symm
        · rw [if_neg c4]; exact (if_neg (fun q => c4 q.2.2.2.1)).symm
      · rw [if_neg c3]; exact (if_neg (fun q => c3 q.2.2.1)).symm
    · rw [if_neg c2]; exact (if_neg (fun q => c2 q.2.1)).symm
  · rw [if_neg c1]; exact (if_neg (fun q => c1 q.1)).symm
theorem q_LI_add {n : Nat} {T : Sto} {tk dn df dt : Nat → Nat} {f1 f2 f3 f4 th fn ff ft fI fA fL fH th' fn' ff' ft' : Nat → Int32} (h : q_LI n T tk dn df dt f1 f2 f3 f4 th fn ff ft fI fA fL fH th' fn' ff' ft') (hn : n < 20) {c : Li4} (h4 : q_l4 c) (ha : ¬ ∃ m : Nat, m < n ∧ (m : Int) ≠ -1 ∧ ¬ q_ap (T m) c) {w : Nat} (hw : w ≤ 60) (x : Int32) (hx : x = if c.2.1 = c.2.2.2 then 1 else 0) :
    q_LI (n + 1) (q_sT T n c) (q_sN tk n w) (q_sN dn n 0) df dt (upd f1 n (N c.1)) (upd f2 n (N c.2.1)) (upd f3 n (N c.2.2.1)) (upd f4 n (N c.2.2.2)) (upd th n (N w)) fn ff ft (upd fI n x) (upd fA n (N (q_sty c))) (upd fL n (N (q_loy c))) (upd fH n (N (q_hiy c))) (upd th' n (N w)) (upd fn' n 0) ff' ft' := by
  obtain ⟨a1, a2, a3, a4, a5, a6, a7, a8⟩ := h
  have tt : ∀ f : Nat → Int32, (∀ l, l < n → f l = N (tk l) ∧ tk l ≤ 60) → ∀ l, l < n + 1 → upd f n (N w) l = N (q_sN tk n w l) ∧ q_sN tk n w l ≤ 60 := by
    intro f hf l hl
    unfold q_sN
    by_cases e : l = n
    · rw [e, upd_s, if_pos rfl]; exact ⟨rfl, hw⟩
    · rw [upd_n _ _ e, if_neg e]; exact hf l (by omega)
  refine ⟨q_ok_add a1 hn h4 ha, q_cl_set a2 c (fun l h1 h2 => by omega), q_rl_set a3 c (fun l h1 h2 => by omega) _ _ _ _ (by rw [upd_s, hx]) (by rw [upd_s]) (by rw [upd_s]) (by rw [upd_s]) (fun l e => ⟨upd_n _ _ e, upd_n _ _ e, upd_n _ _ e, upd_n _ _ e⟩), tt th a4, tt th' a5, ?_, ?_, fun l h1 h2 => a8 l (by omega) h2⟩
  · intro l hl
    unfold q_sN
    by_cases e : l = n
    · rw [e, if_pos rfl]
      exact ⟨a8 n (by omega) hn, by omega, fun d hd => by omega⟩
    · rw [if_neg e]; exact a6 l (by omega)
  · intro l hl
    unfold q_sN
    by_cases e : l = n
    · rw [e, if_pos rfl, upd_s]
      exact ⟨rfl, by omega, fun d hd => by omega⟩
    · rw [if_neg e, upd_n _ _ e]; exact a7 l (by omega)
theorem q_jmin_s (x : Int32) : jmin x x = x := by unfold jmin; exact ite_self x
theorem q_jmax_s (x : Int32) : jmax x x = x := by unfold jmax; exact ite_self x
theorem q_mn {a c : Nat} (ha : a ≤ 500) (hc : c ≤ 500) : (if N c ≤ N a then some (N c) else some (N a)) = some (N (if c < a then c else a)) := by
  by_cases e : c ≤ a
  · rw [if_pos ((N_le (by omega) (by omega)).mpr e)]
    by_cases f : c < a
    · rw [if_pos f]
    · rw [if_neg f, show c = a by omega]
  · rw [if_neg (fun q => e ((N_le (by omega) (by omega)).mp q)), if_neg (by omega)]
theorem q_mx {a c : Nat} (ha : a ≤ 500) (hc : c ≤ 500) : (if N c ≤ N a then some (N a) else some (N c)) = some (N (if a < c then c else a)) := by
  by_cases e : c ≤ a
  · rw [if_pos ((N_le (by omega) (by omega)).mpr e), if_neg (by omega)]
  · rw [if_neg (fun q => e ((N_le (by omega) (by omega)).mp q)), if_pos (by omega)]
theorem q_put4 {n : Nat} (hn : n < 20) (x1 x2 x3 x4 : Int32) (f1 f2 f3 f4 : Nat → Int32) : m_Li_put (N n) x1 x2 x3 x4 f1 f2 f3 f4 = some (upd f1 n x1, upd f2 n x2, upd f3 n x3, upd f4 n x4) := by
  unfold m_Li_put
  rw [gI_N hn (by omega), N_nat (by omega)]
  show gI (N n) 20 _ = _
  rw [gI_N hn (by omega)]
  show gI (N n) 20 _ = _
  rw [gI_N hn (by omega)]
  show gI (N n) 20 _ = _
  rw [gI_N hn (by omega)]
  rfl
theorem q_line {n : Nat} {T : Sto} {tk dn df dt : Nat → Nat} {f1 f2 f3 f4 th fn ff ft fI fA fL fH th' fn' ff' ft' : Nat → Int32} (h : q_LI n T tk dn df dt f1 f2 f3 f4 th fn ff ft fI fA fL fH th' fn' ff' ft') (p1 p2 p3 p4 p5 st cd fr : Int32) :
    (∃ k : Nat, (k = 1 ∨ k = 2) ∧ m_Sp_line p1 p2 p3 p4 p5 st (N n) f1 f2 f3 f4 th = some (Sum.inl k) ∧ m_Mo_line p1 p2 p3 p4 p5 cd (N n) fr fI fA fL fH th' fn' = some (0, N k, N n, fr, fI, fA, fL, fH, th', fn')) ∨
    (m_Sp_line p1 p2 p3 p4 p5 st (N n) f1 f2 f3 f4 th = some (Sum.inr (J (-1), st, N n, f1, f2, f3, f4, th)) ∧ m_Mo_line p1 p2 p3 p4 p5 cd (N n) fr fI fA fL fH th' fn' = some (J (-1), 0, N n, fr, fI, fA, fL, fH, th', fn')) ∨
    (∃ T' tk' dn' g1 g2 g3 g4 g5 gI' gA gL gH g5' gn, m_Sp_line p1 p2 p3 p4 p5 st (N n) f1 f2 f3 f4 th = some (Sum.inr (N n, 1, N (n + 1), g1, g2, g3, g4, g5)) ∧ m_Mo_line p1 p2 p3 p4 p5 cd (N n) fr fI fA fL fH th' fn' = some (N n, 0, N (n + 1), 0, gI', gA, gL, gH, g5', gn) ∧ q_LI (n + 1) T' tk' dn' df dt g1 g2 g3 g4 g5 fn ff ft gI' gA gL gH g5' gn ff' ft') := by
  have hn := h.1.1
  unfold m_Sp_line m_Mo_line
  rw [q_pre, q_preC]
  by_cases A : (0 ≤ p1.toInt ∧ p1.toInt ≤ 500) ∧ (0 ≤ p2.toInt ∧ p2.toInt ≤ 500) ∧ (0 ≤ p3.toInt ∧ p3.toInt ≤ 500) ∧ (0 ≤ p4.toInt ∧ p4.toInt ≤ 500) ∧ (0 ≤ p5.toInt ∧ p5.toInt ≤ 60) ∧ (p5 - p5 / 2 * 2) = 0
  case neg =>
    left
    refine ⟨1, Or.inl rfl, if_neg A, ?_⟩
    rw [q_one_f A]
    by_cases u : p1 = p3 <;> by_cases v : p2 = p4 <;> simp only [u, v, if_true, if_false] <;> rfl
  rw [if_pos A, q_one_t A]
  obtain ⟨A1, A2, A3, A4, A5, _⟩ := A
  obtain ⟨a, rfl, ea⟩ := q_nn p1 rfl A1.1
  obtain ⟨b, rfl, eb⟩ := q_nn p2 rfl A2.1
  obtain ⟨c, rfl, ec⟩ := q_nn p3 rfl A3.1
  obtain ⟨d, rfl, ed⟩ := q_nn p4 rfl A4.1
  obtain ⟨w, rfl, ew⟩ := q_nn p5 rfl A5.1
  rw [← ea] at A1; rw [← eb] at A2; rw [← ec] at A3; rw [← ed] at A4; rw [← ew] at A5
  have u' : (N a = N c) ↔ a = c := N_eq (by omega) (by omega)
  have v' : (N b = N d) ↔ b = d := N_eq (by omega) (by omega)
  have l20 : (N n < 20) ↔ n < 20 := N_lt (b := 20) (by omega) (by omega)
  have e20 : (N n = 20) ↔ n = 20 := N_eq (b := 20) (by omega) (by omega)
  simp only [u', v', l20, e20]
  by_cases x : (a = c) ↔ (b = d)
  · left
    refine ⟨1, Or.inl rfl, ?_, ?_⟩
    · by_cases u : a = c
      · rw [if_pos u, if_pos (x.mp u)]; rfl
      · rw [if_neg u, if_neg (fun q => u (x.mpr q))]; rfl
    · by_cases u : a = c
      · rw [if_pos u, if_pos (x.mp u)]; rfl
      · rw [if_neg u, if_neg (fun q => u (x.mpr q))]; rfl
  · by_cases z : n < 20
    case neg =>
      left
      refine ⟨2, Or.inr rfl, ?_, ?_⟩
      · rw [if_neg z]
        by_cases u : a = c <;> by_cases v : b = d
        · exact (x ⟨fun _ => v, fun _ => u⟩).elim
        · rw [if_pos u, if_neg v]; rfl
        · rw [if_neg u, if_pos v]; rfl
        · exact (x ⟨fun q => (u q).elim, fun q => (v q).elim⟩).elim
      · rw [if_pos (show n = 20 by omega)]
        by_cases u : a = c <;> by_cases v : b = d
        · exact (x ⟨fun _ => v, fun _ => u⟩).elim
        · rw [if_pos u, if_neg v]; rfl
        · rw [if_neg u, if_pos v]; rfl
        · exact (x ⟨fun q => (u q).elim, fun q => (v q).elim⟩).elim
    rw [if_pos z, if_neg (show ¬ n = 20 by omega)]
    have x20 : n + 1 ≤ 20 := by omega
    right
    rw [show (-1 : Int32) = J (-1) from rfl]
    by_cases v : b = d
    · have u : ¬ a = c := fun q => x ⟨fun _ => v, fun _ => q⟩
      clear u' v' l20 e20 x
      subst v
      rw [q_jmin_s, q_jmax_s, q_jmin (by omega) (by omega), q_jmax (by omega) (by omega)]
      have h4 : q_l4 (if c < a then c else a, b, if a < c then c else a, b) := by
        unfold q_l4
        dsimp only
        split <;> split <;> omega
      have hC := q_Clie h.1 h.2.1 h4 (k := -1) (by omega)
      have hR := q_Rlie h.1 h.2.2.1 h4 (k := -1) (by omega)
      have hA := @q_LI_add n T tk dn df dt f1 f2 f3 f4 th fn ff ft fI fA fL fH th' fn' ff' ft' h z (if c < a then c else a, b, if a < c then c else a, b) h4
      unfold q_sty q_loy q_hiy at hR hA
      dsimp only at hC hR hA
      rw [if_pos rfl, if_pos rfl, if_pos rfl, if_pos rfl] at hR
      rw [if_pos rfl, if_pos rfl, if_pos rfl, if_pos rfl] at hA
      by_cases g : ∃ m : Nat, m < n ∧ (m : Int) ≠ -1 ∧ ¬ q_ap (T m) (if c < a then c else a, b, if a < c then c else a, b)
      · left
        constructor
        · rw [if_neg u, if_pos rfl, bd1_i rfl, bd1_i rfl, if_neg (show ¬ (0 : Int32) = 1 by decide), lt_e, lt_e, lt_e, lt_e, bd1_i hC, if_neg (fun q => (q_one0 _).mp q g)]
        · rw [if_neg u, if_pos rfl, bd1_i rfl, bd1_i rfl, if_neg (show ¬ (0 : Int32) = 1 by decide), bd1_i rfl, if_neg (show ¬ N 1 = 0 by decide), if_neg (show ¬ (1 : Int32) = 0 by decide), bd1_i rfl, if_pos (show (0 : Int32) ≤ 0 by decide), bd1_i rfl, if_neg (show ¬ (1 : Int32) = 0 by decide), bd1_i rfl, if_neg (show ¬ (1 : Int32) = 0 by decide), bd1_i rfl, bd1_i (q_mn (by omega) (by omega)), bd1_i (q_mx (by omega) (by omega)), if_neg (show ¬ (1 : Int32) = 0 by decide), bd1_i rfl, bd1_i hR, if_neg (fun q => (q_one0 _).mp q g)]
      · right
        refine ⟨_, _, _, _, _, _, _, _, _, _, _, _, _, _, ?_, ?_, hA g (w := w) (by omega) 1 rfl⟩
        · rw [if_neg u, if_pos rfl, bd1_i rfl, bd1_i rfl, if_neg (show ¬ (0 : Int32) = 1 by decide), lt_e, lt_e, lt_e, lt_e, bd1_i hC, if_pos ((q_one0 _).mpr g), lt_e, q_put4 z]
          show gI (N n) 20 _ = _
          rw [gI_N z (by omega), N_nat (by omega), lt_e, N_lit 1, N_add]
        · rw [if_neg u, if_pos rfl, bd1_i rfl, bd1_i rfl, if_neg (show ¬ (0 : Int32) = 1 by decide), bd1_i rfl, if_neg (show ¬ N 1 = 0 by decide), if_neg (show ¬ (1 : Int32) = 0 by decide), bd1_i rfl, if_pos (show (0 : Int32) ≤ 0 by decide), bd1_i rfl, if_neg (show ¬ (1 : Int32) = 0 by decide), bd1_i rfl, if_neg (show ¬ (1 : Int32) = 0 by decide), bd1_i rfl, bd1_i (q_mn (by omega) (by omega)), bd1_i (q_mx (by omega) (by omega)), if_neg (show ¬ (1 : Int32) = 0 by decide), bd1_i rfl, bd1_i hR, if_pos ((q_one0 _).mpr g), gI_N z (by omega), lt_e, bd1_i rfl, gI_N z (by omega), lt_e, gI_N z (by omega), lt_e, gI_N z (by omega), lt_e, gI_N z (by omega), lt_e, gI_N z (by omega), lt_e, lt_e, N_nat (by omega), q_nar1, N_lit 1, N_add, N_sub (by omega), Nat.add_sub_cancel]
    · have u : a = c := Classical.byContradiction fun q => x ⟨fun w => (q w).elim, fun w => (v w).elim⟩
      clear u' v' l20 e20 x
      subst u
      rw [q_jmin_s, q_jmax_s, q_jmin (by omega) (by omega), q_jmax (by omega) (by omega)]
      have h4 : q_l4 (a, if d < b then d else b, a, if b < d then d else b) := by
        unfold q_l4
        dsimp only
        split <;> split <;> omega
      have hC := q_Clie h.1 h.2.1 h4 (k := -1) (by omega)
      have hR := q_Rlie h.1 h.2.2.1 h4 (k := -1) (by omega)
      have hA := @q_LI_add n T tk dn df dt f1 f2 f3 f4 th fn ff ft fI fA fL fH th' fn' ff' ft' h z (a, if d < b then d else b, a, if b < d then d else b) h4
      unfold q_sty q_loy q_hiy at hR hA
      dsimp only at hC hR hA
      have nf : ¬ (if d < b then d else b) = (if b < d then d else b) := by split <;> split <;> omega
      rw [if_neg nf, if_neg nf, if_neg nf, if_neg nf] at hR
      rw [if_neg nf, if_neg nf, if_neg nf, if_neg nf] at hA
      by_cases g : ∃ m : Nat, m < n ∧ (m : Int) ≠ -1 ∧ ¬ q_ap (T m) (a, if d < b then d else b, a, if b < d then d else b)
      · left
        constructor
        · rw [if_pos rfl, if_neg v, bd1_i rfl, bd1_i rfl, if_neg (show ¬ (1 : Int32) = 0 by decide), lt_e, lt_e, lt_e, lt_e, bd1_i hC, if_neg (fun q => (q_one0 _).mp q g)]
        · rw [if_pos rfl, if_neg v, bd1_i rfl, bd1_i rfl, if_neg (show ¬ (1 : Int32) = 0 by decide), bd1_i rfl, if_neg (show ¬ N 1 = 0 by decide), if_neg (show ¬ (1 : Int32) = 0 by decide), bd1_i rfl, if_pos (show (0 : Int32) ≤ 0 by decide), bd1_i rfl, if_pos (show (0 : Int32) = 0 by decide), bd1_i rfl, if_pos (show (0 : Int32) = 0 by decide), bd1_i rfl, bd1_i (q_mn (by omega) (by omega)), bd1_i (q_mx (by omega) (by omega)), if_pos (show (0 : Int32) = 0 by decide), bd1_i rfl, bd1_i hR, if_neg (fun q => (q_one0 _).mp q g)]
      · right
        refine ⟨_, _, _, _, _, _, _, _, _, _, _, _, _, _, ?_, ?_, hA g (w := w) (by omega) 0 rfl⟩
        · rw [if_pos rfl, if_neg v, bd1_i rfl, bd1_i rfl, if_neg (show ¬ (1 : Int32) = 0 by decide), lt_e, lt_e, lt_e, lt_e, bd1_i hC, if_pos ((q_one0 _).mpr g), lt_e, q_put4 z]
          show gI (N n) 20 _ = _
          rw [gI_N z (by omega), N_nat (by omega), lt_e, N_lit 1, N_add]
        · rw [if_pos rfl, if_neg v, bd1_i rfl, bd1_i rfl, if_neg (show ¬ (1 : Int32) = 0 by decide), bd1_i rfl, if_neg (show ¬ N 1 = 0 by decide), if_neg (show ¬ (1 : Int32) = 0 by decide), bd1_i rfl, if_pos (show (0 : Int32) ≤ 0 by decide), bd1_i rfl, if_pos (show (0 : Int32) = 0 by decide), bd1_i rfl, if_pos (show (0 : Int32) = 0 by decide), bd1_i rfl, bd1_i (q_mn (by omega) (by omega)), bd1_i (q_mx (by omega) (by omega)), if_pos (show (0 : Int32) = 0 by decide), bd1_i rfl, bd1_i hR, if_pos ((q_one0 _).mpr g), gI_N z (by omega), lt_e, bd1_i rfl, gI_N z (by omega), lt_e, gI_N z (by omega), lt_e, gI_N z (by omega), lt_e, gI_N z (by omega), lt_e, gI_N z (by omega), lt_e, lt_e, N_nat (by omega), q_nar0, N_lit 1, N_add, N_sub (by omega), Nat.add_sub_cancel]
theorem K_32 (z : Int) : Int64.toInt32 (K z) = J z := by
  unfold K J
  exact Int64.toInt32_ofInt
theorem bx0_r {ρ γ : Type} (k : Option (Sum γ ρ)) : bx0 (some (Sum.inr ())) k = k := rfl
theorem q_preM {a b c d : Int} (ha : -9000000000 ≤ a ∧ a ≤ 9000000000) (hb : -9000000000 ≤ b ∧ b ≤ 9000000000) (hc : -9000000000 ≤ c ∧ c ≤ 9000000000) (hd : -9000000000 ≤ d ∧ d ≤ 9000000000) {ρ : Type} (k : Option (Sum Nat ρ)) :
  (bx0 (m_Sp_needCoordinate (K a)) <|
  bx0 (m_Sp_needCoordinate (K b)) <|
  bx0 (m_Sp_needCoordinate (K c)) <|
  bx0 (m_Sp_needCoordinate (K d)) k) = if ((0 ≤ a ∧ a ≤ 500) ∧ (0 ≤ b ∧ b ≤ 500) ∧ (0 ≤ c ∧ c ≤ 500) ∧ (0 ≤ d ∧ d ≤ 500)) then k else (some (Sum.inl 1)) := by
  rw [q_needC ha, q_needC hb, q_needC hc, q_needC hd]
  by_cases c1 : 0 ≤ a ∧ a ≤ 500
  · rw [if_pos c1]
    by_cases c2 : 0 ≤ b ∧ b ≤ 500
    · rw [if_pos c2]
      by_cases c3 : 0 ≤ c ∧ c ≤ 500
      · rw [if_pos c3]
        by_cases c4 : 0 ≤ d ∧ d ≤ 500
        · rw [if_pos c4]; exact (if_pos ⟨c1, c2, c3, c4⟩).symm
        · rw [if_neg c4]; exact (if_neg (fun q => c4 q.2.2.2)).symm
      · rw [if_neg c3]; exact (if_neg (fun q => c3 q.2.2.1)).symm
    · rw [if_neg c2]; exact (if_neg (fun q => c2 q.2.1)).symm
  · rw [if_neg c1]; exact (if_neg (fun q => c1 q.1)).symm
theorem q_preR {a b c : Int} (ha : -9000000000 ≤ a ∧ a ≤ 9000000000) (hb : -9000000000 ≤ b ∧ b ≤ 9000000000) (hc : -9000000000 ≤ c ∧ c ≤ 9000000000) {ρ : Type} (k : Int32 → Option ρ) :
  (bd1 (m_Mo_isIn (K a) 0 500) fun r32 =>
            bd1 (
              if r32 = 0 then (
              some 1)
            else (
              bd1 (m_Mo_isIn (K b) 0 500) fun r39 =>
              if r39 = 0 then (
                some 1)
              else (
                bd1 (m_Mo_isIn (K c) 0 500) fun r42 =>
                if r42 = 0 then (
                  some 1)
                else (
                  some 0)))) k) = k (if ((0 ≤ a ∧ a ≤ 500) ∧ (0 ≤ b ∧ b ≤ 500) ∧ (0 ≤ c ∧ c ≤ 500)) then 0 else 1) := by
  rw [show (0 : Int64) = K 0 from rfl, show (500 : Int64) = K 500 from rfl, bd1_i (q_in1 ha (by omega) (by omega))]
  by_cases c1 : 0 ≤ a ∧ a ≤ 500
  · rw [if_neg (fun q => (q_one0 _).mp q c1), bd1_i (q_in1 hb (by omega) (by omega))]
    by_cases c2 : 0 ≤ b ∧ b ≤ 500
    · rw [if_neg (fun q => (q_one0 _).mp q c2), bd1_i (q_in1 hc (by omega) (by omega))]
      by_cases c3 : 0 ≤ c ∧ c ≤ 500
      · rw [if_neg (fun q => (q_one0 _).mp q c3), if_pos ⟨c1, c2, c3⟩]; rfl
      · rw [if_pos ((q_one0 _).mpr c3), if_neg (fun q => c3 q.2.2)]; rfl
    · rw [if_pos ((q_one0 _).mpr c2), if_neg (fun q => c2 q.2.1)]; rfl
  · rw [if_pos ((q_one0 _).mpr c1), if_neg (fun q => c1 q.1)]; rfl
theorem q_LI_set {n : Nat} {T : Sto} {tk dn df dt : Nat → Nat} {f1 f2 f3 f4 th fn ff ft fI fA fL fH th' fn' ff' ft' : Nat → Int32} (h : q_LI n T tk dn df dt f1 f2 f3 f4 th fn ff ft fI fA fL fH th' fn' ff' ft') {k : Nat} (hk : k < n) {c : Li4} (h4 : q_l4 c) (ha : ¬ ∃ m : Nat, m < n ∧ (m : Int) ≠ k ∧ ¬ q_ap (T m) c) (hx : fI k = if c.2.1 = c.2.2.2 then 1 else 0) :
    q_LI n (q_sT T k c) tk dn df dt (upd f1 k (N c.1)) (upd f2 k (N c.2.1)) (upd f3 k (N c.2.2.1)) (upd f4 k (N c.2.2.2)) th fn ff ft fI (upd fA k (N (q_sty c))) (upd fL k (N (q_loy c))) (upd fH k (N (q_hiy c))) th' fn' ff' ft' := by
  obtain ⟨a1, a2, a3, a4, a5, a6, a7, a8⟩ := h
  exact ⟨q_ok_set a1 hk h4 ha, q_cl_set a2 c (fun l h1 h2 => h1), q_rl_set a3 c (fun l h1 h2 => h1) _ _ _ _ hx (by rw [upd_s]) (by rw [upd_s]) (by rw [upd_s]) (fun l e => ⟨rfl, upd_n _ _ e, upd_n _ _ e, upd_n _ _ e⟩), a4, a5, a6, a7, a8⟩
theorem q_move {n : Nat} {T : Sto} {tk dn df dt : Nat → Nat} {f1 f2 f3 f4 th fn ff ft fI fA fL fH th' fn' ff' ft' : Nat → Int32} (h : q_LI n T tk dn df dt f1 f2 f3 f4 th fn ff ft fI fA fL fH th' fn' ff' ft') (p1 p2 p3 st cd fr : Int32) :
    (m_Sp_move p1 p2 p3 st (N n) f1 f2 f3 f4 = some (Sum.inl 1) ∧ m_Mo_move p1 p2 p3 cd (N n) fr fI fA fL fH = some (0, 1, fr, fA, fL, fH)) ∨
    (m_Sp_move p1 p2 p3 st (N n) f1 f2 f3 f4 = some (Sum.inr (0, st, f1, f2, f3, f4)) ∧ m_Mo_move p1 p2 p3 cd (N n) fr fI fA fL fH = some (0, 0, fr, fA, fL, fH)) ∨
    (∃ T' g1 g2 g3 g4 gA gL gH, m_Sp_move p1 p2 p3 st (N n) f1 f2 f3 f4 = some (Sum.inr (1, 1, g1, g2, g3, g4)) ∧ m_Mo_move p1 p2 p3 cd (N n) fr fI fA fL fH = some (1, 0, 0, gA, gL, gH) ∧ q_LI n T' tk dn df dt g1 g2 g3 g4 th fn ff ft fI gA gL gH th' fn' ff' ft') := by
  have hn := h.1.1
  have b1 := J_bd p1
  have b2 := J_bd p2
  have b3 := J_bd p3
  rw [J_of p1, J_of p2, J_of p3]
  generalize p1.toInt = z at *
  generalize p2.toInt = dx at *
  generalize p3.toInt = dy at *
  unfold m_Sp_move m_Mo_move
  rw [q_needL b1 (by omega), bd1_i (q_isLine b1 (by omega))]
  by_cases A : 0 ≤ z ∧ z < n
  case neg =>
    left
    rw [if_neg A, if_pos ((q_one0 _).mpr A)]
    exact ⟨rfl, rfl⟩
  rw [if_pos A, if_neg (fun q => (q_one0 _).mp q A), bd1_i rfl, if_pos (show (0 : Int32) ≤ 0 by decide)]
  obtain ⟨k, rfl⟩ : ∃ k : Nat, (k : Int) = z := ⟨z.toNat, by omega⟩
  have hk : k < n := by omega
  have hk20 : k < 20 := by omega
  obtain ⟨g1, g2, g3, g4⟩ := h.2.1 k hk
  obtain ⟨r1, r2, r3, r4⟩ := q_rl_g h.2.2.1 hk
  have hq := h.1.2.1 k hk
  unfold q_ln at hq
  have gl : ∀ {α : Type} (x : Option α), gI (J k) 20 x = x := fun x => gI_J (by omega) (by omega) (by omega)
  have jn : (J k).toNatClampNeg = k := N_nat (by omega)
  have kk : ∀ {v : Nat} {y : Int}, v ≤ 500 → -2147483648 ≤ y ∧ y < 2147483648 → Int32.toInt64 (N v) + Int32.toInt64 (J y) = K (v + y) := fun {v y} e1 e2 => by rw [N_K (by omega), J_K e2.1 e2.2, K_add]
  have ja : ∀ (v : Nat) (y : Int), N v + J y = J (v + y) := fun v y => by rw [N_J, J_add]
  simp only [gl, jn, lt_e, bx0_r]
  rw [g1, g2, g3, g4, kk (by omega) b2, kk (by omega) b3, kk (by omega) b2, kk (by omega) b3, q_preM (by omega) (by omega) (by omega) (by omega), ja, ja, ja, ja]
  rw [r1, r2, r3, r4]
  by_cases B : (0 ≤ (xl T k : Int) + dx ∧ (xl T k : Int) + dx ≤ 500) ∧ (0 ≤ (yl T k : Int) + dy ∧ (yl T k : Int) + dy ≤ 500) ∧ (0 ≤ (xh T k : Int) + dx ∧ (xh T k : Int) + dx ≤ 500) ∧ (0 ≤ (yh T k : Int) + dy ∧ (yh T k : Int) + dy ≤ 500)
  case neg =>
    left
    refine ⟨if_neg B, ?_⟩
    unfold q_stay q_lo q_hi
    by_cases f : yl T k = yh T k
    · rw [if_pos f, if_pos f, if_pos f, if_pos f, if_neg (show ¬ (1 : Int32) = 0 by decide), if_neg (show ¬ (1 : Int32) = 0 by decide), bd1_i rfl, kk (by omega) b3, bd1_i rfl, kk (by omega) b2, bd1_i rfl, kk (by omega) b2, q_preR (by omega) (by omega) (by omega), if_neg (show ¬ ((0 ≤ (yl T k : Int) + dy ∧ (yl T k : Int) + dy ≤ 500) ∧ (0 ≤ (xl T k : Int) + dx ∧ (xl T k : Int) + dx ≤ 500) ∧ (0 ≤ (xh T k : Int) + dx ∧ (xh T k : Int) + dx ≤ 500)) by omega)]
      rfl
    · rw [if_neg f, if_neg f, if_neg f, if_neg f, if_pos rfl, if_pos rfl, bd1_i rfl, kk (by omega) b2, bd1_i rfl, kk (by omega) b3, bd1_i rfl, kk (by omega) b3, q_preR (by omega) (by omega) (by omega), if_neg (show ¬ ((0 ≤ (xl T k : Int) + dx ∧ (xl T k : Int) + dx ≤ 500) ∧ (0 ≤ (yl T k : Int) + dy ∧ (yl T k : Int) + dy ≤ 500) ∧ (0 ≤ (yh T k : Int) + dy ∧ (yh T k : Int) + dy ≤ 500)) by omega)]
      rfl
  rw [if_pos B]
  right
  have s1 : xl T k ≤ 500 := by omega
  have s2 : yl T k ≤ 500 := by omega
  have s3 : xh T k ≤ 500 := by omega
  have s4 : yh T k ≤ 500 := by omega
  have t1 : -9000000000 ≤ (xl T k : Int) + dx ∧ (xl T k : Int) + dx ≤ 9000000000 := by omega
  have t2 : -9000000000 ≤ (yl T k : Int) + dy ∧ (yl T k : Int) + dy ≤ 9000000000 := by omega
  have t3 : -9000000000 ≤ (xh T k : Int) + dx ∧ (xh T k : Int) + dx ≤ 9000000000 := by omega
  have t4 : -9000000000 ≤ (yh T k : Int) + dy ∧ (yh T k : Int) + dy ≤ 9000000000 := by omega
  obtain ⟨X0, e0⟩ : ∃ a : Nat, (a : Int) = xl T k + dx := ⟨((xl T k : Int) + dx).toNat, by omega⟩
  obtain ⟨Y0, e1⟩ : ∃ a : Nat, (a : Int) = yl T k + dy := ⟨((yl T k : Int) + dy).toNat, by omega⟩
  obtain ⟨X1, e2⟩ : ∃ a : Nat, (a : Int) = xh T k + dx := ⟨((xh T k : Int) + dx).toNat, by omega⟩
  obtain ⟨Y1, e3⟩ : ∃ a : Nat, (a : Int) = yh T k + dy := ⟨((yh T k : Int) + dy).toNat, by omega⟩
  have h4 : q_l4 (X0, Y0, X1, Y1) := by
    unfold q_l4
    dsimp only
    omega
  have hfl : (Y0 = Y1) ↔ (yl T k = yh T k) := by omega
  have hC := q_Clie h.1 h.2.1 h4 (k := k) (by omega)
  have hR := q_Rlie h.1 h.2.2.1 h4 (k := k) (by omega)
  have hA := @q_LI_set n T tk dn df dt f1 f2 f3 f4 th fn ff ft fI fA fL fH th' fn' ff' ft' h k hk (X0, Y0, X1, Y1) h4
  dsimp only at hC hR hA
  rw [← e0, ← e1, ← e2, ← e3]
  rw [show J (X0 : Int) = N X0 from rfl, show J (Y0 : Int) = N Y0 from rfl, show J (X1 : Int) = N X1 from rfl, show J (Y1 : Int) = N Y1 from rfl, bd1_i hC]
  unfold q_sty q_loy q_hiy at hR hA
  dsimp only at hR hA
  by_cases f : yl T k = yh T k
  · have f' := hfl.mpr f
    rw [if_pos f', if_pos f', if_pos f', if_pos f'] at hR
    rw [if_pos f', if_pos f', if_pos f', if_pos f'] at hA
    rw [if_pos f] at r1
    unfold q_stay q_lo q_hi
    rw [if_pos f, if_pos f, if_pos f, if_pos f, if_neg (show ¬ (1 : Int32) = 0 by decide), if_neg (show ¬ (1 : Int32) = 0 by decide), bd1_i rfl, kk s2 b3, bd1_i rfl, kk s1 b2, bd1_i rfl, kk s3 b2, q_preR t2 t1 t3, if_pos (show ((0 ≤ (yl T k : Int) + dy ∧ (yl T k : Int) + dy ≤ 500) ∧ (0 ≤ (xl T k : Int) + dx ∧ (xl T k : Int) + dx ≤ 500) ∧ (0 ≤ (xh T k : Int) + dx ∧ (xh T k : Int) + dx ≤ 500)) from ⟨B.2.1, B.1, B.2.2.1⟩), if_neg (show ¬ (0 : Int32) < 0 by decide), K_32, K_32, K_32, ← e0, ← e1, ← e2, show J (X0 : Int) = N X0 from rfl, show J (Y0 : Int) = N Y0 from rfl, show J (X1 : Int) = N X1 from rfl, bd1_i hR]
    by_cases g : ∃ m : Nat, m < n ∧ (m : Int) ≠ k ∧ ¬ q_ap (T m) (X0, Y0, X1, Y1)
    · left
      rw [if_neg (fun q => (q_one0 _).mp q g), if_neg (fun q => (q_one0 _).mp q g), gB_0, gB_0]
      exact ⟨rfl, rfl⟩
    · right
      rw [if_pos ((q_one0 _).mpr g), if_pos ((q_one0 _).mpr g), gB_1, show J (k : Int) = N k from rfl, q_put4 hk20]
      exact ⟨_, _, _, _, _, _, _, _, gB_1 _, rfl, hA g r1⟩
  · have f' : ¬ Y0 = Y1 := fun q => f (hfl.mp q)
    rw [if_neg f', if_neg f', if_neg f', if_neg f'] at hR
    rw [if_neg f', if_neg f', if_neg f', if_neg f'] at hA
    rw [if_neg f] at r1
    unfold q_stay q_lo q_hi
    rw [if_neg f, if_neg f, if_neg f, if_neg f, if_pos rfl, if_pos rfl, bd1_i rfl, kk s1 b2, bd1_i rfl, kk s2 b3, bd1_i rfl, kk s4 b3, q_preR t1 t2 t4, if_pos (show ((0 ≤ (xl T k : Int) + dx ∧ (xl T k : Int) + dx ≤ 500) ∧ (0 ≤ (yl T k : Int) + dy ∧ (yl T k : Int) + dy ≤ 500) ∧ (0 ≤ (yh T k : Int) + dy ∧ (yh T k : Int) + dy ≤ 500)) from ⟨B.1, B.2.1, B.2.2.2⟩), if_neg (show ¬ (0 : Int32) < 0 by decide), K_32, K_32, K_32, ← e0, ← e1, ← e3, show J (X0 : Int) = N X0 from rfl, show J (Y0 : Int) = N Y0 from rfl, show J (Y1 : Int) = N Y1 from rfl, bd1_i hR]
    by_cases g : ∃ m : Nat, m < n ∧ (m : Int) ≠ k ∧ ¬ q_ap (T m) (X0, Y0, X1, Y1)
    · left
      rw [if_neg (fun q => (q_one0 _).mp q g), if_neg (fun q => (q_one0 _).mp q g), gB_0, gB_0]
      exact ⟨rfl, rfl⟩
    · right
      rw [if_pos ((q_one0 _).mpr g), if_pos ((q_one0 _).mpr g), gB_1, show J (k : Int) = N k from rfl, q_put4 hk20]
      exact ⟨_, _, _, _, _, _, _, _, gB_1 _, rfl, hA g r1⟩
