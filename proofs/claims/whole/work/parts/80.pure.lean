/-! Level 2: words. J, N: Int32 out of Int and Nat. -/
def J (z : Int) : Int32 := Int32.ofInt z
def N (n : Nat) : Int32 := J (n : Int)
theorem J_toInt {z : Int} (h : -2147483648 ≤ z) (h' : z < 2147483648) : (J z).toInt = z := by
  unfold J
  rw [Int32.toInt_ofInt_of_le (by simpa using h) (by simpa using h')]
theorem J_add (a b : Int) : J a + J b = J (a + b) := by unfold J; rw [Int32.ofInt_add]
theorem J_sub (a b : Int) : J a - J b = J (a - b) := by unfold J; rw [Int32.ofInt_sub]
theorem J_mul (a b : Int) : J a * J b = J (a * b) := by unfold J; rw [Int32.ofInt_mul]
theorem J_neg (a : Int) : - J a = J (- a) := by unfold J; rw [Int32.ofInt_neg]
theorem J_lt {a b : Int} (h1 : -2147483648 ≤ a) (h2 : a < 2147483648) (h3 : -2147483648 ≤ b) (h4 : b < 2147483648) : (J a < J b) ↔ a < b := by
  rw [Int32.lt_iff_toInt_lt, J_toInt h1 h2, J_toInt h3 h4]
theorem J_le {a b : Int} (h1 : -2147483648 ≤ a) (h2 : a < 2147483648) (h3 : -2147483648 ≤ b) (h4 : b < 2147483648) : (J a ≤ J b) ↔ a ≤ b := by
  rw [Int32.le_iff_toInt_le, J_toInt h1 h2, J_toInt h3 h4]
theorem J_eq {a b : Int} (h1 : -2147483648 ≤ a) (h2 : a < 2147483648) (h3 : -2147483648 ≤ b) (h4 : b < 2147483648) : (J a = J b) ↔ a = b := by
  rw [← Int32.toInt_inj, J_toInt h1 h2, J_toInt h3 h4]
theorem J_nat {a : Int} (h1 : 0 ≤ a) (h2 : a < 2147483648) : (J a).toNatClampNeg = a.toNat := by
  unfold Int32.toNatClampNeg; rw [J_toInt (by omega) h2]
theorem N_lit (n : Nat) : (no_index (OfNat.ofNat n) : Int32) = N n := by
  show Int32.ofNat n = Int32.ofInt n
  rw [Int32.ofInt_eq_ofNat]
theorem N_add (a b : Nat) : N a + N b = N (a + b) := by unfold N; rw [J_add]; rfl
theorem N_mul (a b : Nat) : N a * N b = N (a * b) := by unfold N; rw [J_mul]; rfl
theorem N_sub {a b : Nat} (h : b ≤ a) : N a - N b = N (a - b) := by unfold N; rw [J_sub]; congr 1; omega
theorem N_neg (a : Nat) : - N a = J (- (a : Int)) := by unfold N; rw [J_neg]
theorem N_lt {a b : Nat} (h2 : a < 2147483648) (h4 : b < 2147483648) : (N a < N b) ↔ a < b := by
  unfold N; rw [J_lt (by omega) (by omega) (by omega) (by omega)]; omega
theorem N_le {a b : Nat} (h2 : a < 2147483648) (h4 : b < 2147483648) : (N a ≤ N b) ↔ a ≤ b := by
  unfold N; rw [J_le (by omega) (by omega) (by omega) (by omega)]; omega
theorem N_eq {a b : Nat} (h2 : a < 2147483648) (h4 : b < 2147483648) : (N a = N b) ↔ a = b := by
  unfold N; rw [J_eq (by omega) (by omega) (by omega) (by omega)]; omega
theorem N_nat {a : Nat} (h2 : a < 2147483648) : (N a).toNatClampNeg = a := by unfold N; rw [J_nat (by omega) (by omega)]; omega
theorem N_pred {a : Nat} (h : 1 ≤ a) : N a + J (-1) = N (a - 1) := by unfold N; rw [J_add]; congr 1; omega
theorem N_J (a : Nat) : N a = J a := rfl
theorem ofNat_N (a : Nat) : Int32.ofNat a = N a := by unfold N J; rw [Int32.ofInt_eq_ofNat]
theorem gI_N {α : Type} {k n : Nat} {x : Option α} (h : k < n) (h' : k < 2147483648) : gI (N k) n x = x := by
  apply gI_i; unfold vp_in; rw [show (0 : Int32) = N 0 from rfl, N_lt h' (by omega), N_nat h']; omega
theorem gI_J {α : Type} {k : Int} {n : Nat} {x : Option α} (h : 0 ≤ k) (h0 : k < n) (h' : k < 2147483648) : gI (J k) n x = x := by
  apply gI_i; unfold vp_in; rw [show (0 : Int32) = J 0 from rfl, J_lt (by omega) h' (by omega) (by omega), J_nat h h']; omega
theorem lt_e {α β : Type} (e : α) (k : α → Option β) : lt_ e k = k e := rfl
theorem gB_1 {α : Type} (x : Option α) : gB 1 x = x := if_pos (Or.inr rfl)
theorem gB_0 {α : Type} (x : Option α) : gB 0 x = x := if_pos (Or.inl rfl)
theorem upd_s (f : Nat → Int32) (k : Nat) (v : Int32) : upd f k v k = v := by simp [upd]
theorem upd_n (f : Nat → Int32) {k j : Nat} (v : Int32) (h : j ≠ k) : upd f k v j = f j := by simp [upd, h]
/-! x ends with something that holds P. -/
def Q_ {α : Type} (x : Option α) (P : α → Prop) : Prop := ∃ a, x = some a ∧ P a
theorem Q_s {α : Type} {a : α} {P : α → Prop} (h : P a) : Q_ (some a) P := ⟨a, rfl, h⟩
theorem Q_m {α : Type} {x : Option α} {P P' : α → Prop} (h : Q_ x P) (k : ∀ a, P a → P' a) : Q_ x P' := by
  obtain ⟨a, e, h⟩ := h; exact ⟨a, e, k a h⟩
theorem Q_if {α : Type} {c : Prop} [Decidable c] {x y : Option α} {P : α → Prop} (h : c → Q_ x P) (h' : ¬ c → Q_ y P) : Q_ (if c then x else y) P := by
  by_cases hc : c
  · rw [if_pos hc]; exact h hc
  · rw [if_neg hc]; exact h' hc
theorem Q_i {α : Type} {c c' : Prop} [d : Decidable c] {x y : Option α} {P : α → Prop} (e : c ↔ c') (h : c' → Q_ x P) (h' : ¬ c' → Q_ y P) : Q_ (if c then x else y) P := by
  by_cases hc : c
  · rw [if_pos hc]; exact h (e.mp hc)
  · rw [if_neg hc]; exact h' (fun q => hc (e.mpr q))
theorem Q_t {α : Type} {c : Prop} [d : Decidable c] {x y : Option α} {P : α → Prop} (e : c) (h : Q_ x P) : Q_ (if c then x else y) P := by rw [if_pos e]; exact h
theorem Q_f {α : Type} {c : Prop} [d : Decidable c] {x y : Option α} {P : α → Prop} (e : ¬ c) (h : Q_ y P) : Q_ (if c then x else y) P := by rw [if_neg e]; exact h
theorem Q_b1 {ρ α : Type} {x : Option α} {k : α → Option ρ} {P : ρ → Prop} (h : Q_ x (fun a => Q_ (k a) P)) : Q_ (bd1 x k) P := by
  obtain ⟨a, e, h⟩ := h; subst e; exact h
theorem Q_b0 {ρ : Type} {x : Option Unit} {k : Option ρ} {P : ρ → Prop} (h : Q_ x (fun _ => Q_ k P)) : Q_ (bd0 x k) P := by
  obtain ⟨a, e, h⟩ := h; subst e; exact h
theorem Q_gI {α : Type} {k n : Nat} {x : Option α} {P : α → Prop} (h : k < n) (h' : k < 2147483648) (hx : Q_ x P) : Q_ (gI (N k) n x) P := by rw [gI_N h h']; exact hx
theorem Q_lt {α β : Type} {e : α} {k : α → Option β} {P : β → Prop} (h : Q_ (k e) P) : Q_ (lt_ e k) P := h
theorem Q_e {α : Type} {x : Option α} {a : α} {P : α → Prop} (e : x = some a) (h : P a) : Q_ x P := ⟨a, e, h⟩
theorem N_toInt {a : Nat} (h : a < 2147483648) : (N a).toInt = a := J_toInt (by omega) (by omega)
theorem N_div {a b : Nat} (ha : a < 2147483648) (hb : b < 2147483648) : N a / N b = N (a / b) := by
  have h : a / b ≤ a := Nat.div_le_self a b
  rw [← Int32.toInt_inj, Int32.toInt_div, N_toInt ha, N_toInt hb, N_toInt (by omega), Int.tdiv_eq_ediv_of_nonneg (by omega), ← Int.natCast_ediv]
  generalize a / b = q at h
  rw [Int.bmod_eq_of_le (by omega) (by omega)]
/-! Cuts: rising numbers g 0 .. g (n-1), just those of the set S. -/
def q_inc (n : Nat) (g : Nat → Nat) : Prop := ∀ i j, i < j → j < n → g i < g j
def q_cut (n : Nat) (g : Nat → Nat) (S : Nat → Prop) : Prop := q_inc n g ∧ ∀ v, S v ↔ ∃ i, i < n ∧ g i = v
def q_rep (f : Nat → Int32) (n : Nat) (g : Nat → Nat) : Prop := ∀ i, i < n → f i = N (g i)
def q_bd (n : Nat) (g : Nat → Nat) (b : Nat) : Prop := ∀ i, i < n → g i ≤ b
def q_up (n : Nat) (g : Nat → Nat) (v k : Nat) : Prop := k ≤ n ∧ (∀ i, i < k → g i ≤ v) ∧ ∀ i, k ≤ i → i < n → v < g i
theorem q_inc.le {n : Nat} {g : Nat → Nat} (h : q_inc n g) {i j : Nat} (hij : i ≤ j) (hj : j < n) : g i ≤ g j := by
  by_cases e : i = j
  · subst e; exact Nat.le_refl _
  · exact Nat.le_of_lt (h i j (by omega) hj)
theorem q_up_L {f : Nat → Int32} {n : Nat} {g : Nat → Nat} {v : Nat} (hA : q_rep f n g) (hi : q_inc n g) (hn : n ≤ 40) (hb : q_bd n g 500) (hv : v < 2147483648) :
    ∀ fuel k, n - k < fuel → k ≤ n → (∀ i, i < k → g i ≤ v) → Q_ (m_Cu_upTo_L2 (N v) (N n) f fuel (N k)) (fun r => ∃ k', r = N k' ∧ q_up n g v k') := by
  intro fuel
  induction fuel with
  | zero => intro k h; omega
  | succ m ih =>
    intro k hk hkn hlow
    rw [m_Cu_upTo_L2]
    refine Q_i (N_le (by omega) (by omega)) (fun h => ?_) (fun h => ?_)
    · exact Q_s ⟨k, rfl, hkn, hlow, fun i a b => by omega⟩
    · have hg := hb k (by omega)
      rw [gI_N (by omega) (by omega), N_nat (by omega), hA k (by omega)]
      refine Q_i (N_lt (by omega) (by omega)) (fun h' => ?_) (fun h' => ?_)
      · exact Q_s ⟨k, rfl, hkn, hlow, fun i a b => Nat.lt_of_lt_of_le h' (hi.le a b)⟩
      · rw [lt_e, N_lit 1, N_add]
        refine ih (k + 1) (by omega) (by omega) (fun i hi' => ?_)
        by_cases e : i = k
        · subst e; omega
        · exact hlow i (by omega)
theorem q_upTo {f : Nat → Int32} {n : Nat} {g : Nat → Nat} {v : Nat} (hA : q_rep f n g) (hi : q_inc n g) (hn : n ≤ 40) (hb : q_bd n g 500) (hv : v < 2147483648) :
    ∃ k, m_Cu_upTo (N v) (N n) f = some (N k) ∧ q_up n g v k := by
  obtain ⟨r, e, k, rfl, h⟩ := q_up_L hA hi hn hb hv fu 0 (by unfold fu; omega) (by omega) (fun i h => by omega)
  refine ⟨k, ?_, h⟩
  unfold m_Cu_upTo
  rw [N_lit, e]; rfl
theorem q_indexOf {f : Nat → Int32} {n : Nat} {g : Nat → Nat} {i : Nat} (hA : q_rep f n g) (hi : q_inc n g) (hn : n ≤ 40) (hb : q_bd n g 500) (h : i < n) :
    m_Cu_indexOf (N (g i)) (N n) f = some (N i) := by
  have hg := hb i h
  obtain ⟨k, e, h1, h2, h3⟩ := q_upTo (v := g i) hA hi hn hb (by omega)
  have hk : k = i + 1 := by
    have a : ¬ k ≤ i := fun c => by have := h3 i c h; omega
    have b : ¬ i + 1 < k := fun c => by have := h2 (i+1) c; have := hi i (i+1) (by omega) (by omega); omega
    omega
  subst hk
  unfold m_Cu_indexOf
  rw [e]
  show some (jmax 0 (N (i + 1) - 1)) = _
  rw [N_lit 1, N_sub (by omega), show i + 1 - 1 = i from rfl]
  unfold jmax
  rw [N_lit 0]
  by_cases c : 0 < i
  · rw [if_pos ((N_lt (by omega) (by omega)).mpr c)]
  · rw [if_neg (fun q => c ((N_lt (by omega) (by omega)).mp q)), show i = 0 by omega]
theorem q_shift_L {c : Nat} : ∀ fuel m (f : Nat → Int32), m - c < fuel → m < 40 → c ≤ m →
    m_Cu_add_L48 (N c) fuel (N m) f = some (fun j => if c < j ∧ j ≤ m then f (j - 1) else f j) := by
  intro fuel
  induction fuel with
  | zero => intro m f h; omega
  | succ q ih =>
    intro m f hm h40 hcm
    rw [m_Cu_add_L48]
    by_cases hc : m ≤ c
    · rw [if_pos ((N_le (by omega) (by omega)).mpr hc)]
      congr 1; funext j; rw [if_neg (by omega)]
    · rw [if_neg (fun q => hc ((N_le (by omega) (by omega)).mp q)), N_lit 1, N_sub (by omega), gI_N (by omega) (by omega), gI_N (by omega) (by omega), lt_e, lt_e, N_nat (by omega), N_nat (by omega), N_neg, show (-((1 : Nat) : Int)) = -1 from rfl, N_pred (by omega), ih _ _ (by omega) (by omega) (by omega)]
      congr 1; funext j
      by_cases e : j = m
      · subst e; rw [if_neg (by omega), if_pos (by omega), upd_s]
      · by_cases c2 : c < j ∧ j ≤ m
        · rw [if_pos (by omega), if_pos c2, upd_n _ _ (by omega)]
        · rw [if_neg (by omega), if_neg c2, upd_n _ _ e]
def q_ins (g : Nat → Nat) (k v : Nat) : Nat → Nat := fun j => if j < k then g j else if j = k then v else g (j - 1)
theorem q_ins_cut {n k v : Nat} {g : Nat → Nat} {S : Nat → Prop} (h : q_cut n g S) (hk : k ≤ n) (h1 : ∀ i, i < k → g i < v) (h2 : ∀ i, k ≤ i → i < n → v < g i) :
    q_cut (n + 1) (q_ins g k v) (fun x => x = v ∨ S x) := by
  refine ⟨fun i j hij hj => ?_, fun x => ?_⟩
  · unfold q_ins
    by_cases a : j < k
    · rw [if_pos a, if_pos (by omega)]; exact h.1 i j hij (by omega)
    · rw [if_neg a]
      by_cases b : j = k
      · rw [if_pos b, if_pos (by omega)]; exact h1 i (by omega)
      · rw [if_neg b]
        by_cases c : i < k
        · rw [if_pos c]; exact Nat.lt_trans (h1 i c) (h2 (j-1) (by omega) (by omega))
        · rw [if_neg c]
          by_cases d : i = k
          · rw [if_pos d]; exact h2 (j-1) (by omega) (by omega)
          · rw [if_neg d]; exact h.1 _ _ (by omega) (by omega)
  · constructor
    · intro hx
      rcases hx with hx | hx
      · exact ⟨k, by omega, by unfold q_ins; rw [if_neg (by omega), if_pos rfl, hx]⟩
      · obtain ⟨i, hi, e⟩ := (h.2 x).mp hx
        by_cases c : i < k
        · exact ⟨i, by omega, by unfold q_ins; rw [if_pos c, e]⟩
        · exact ⟨i + 1, by omega, by unfold q_ins; rw [if_neg (by omega), if_neg (by omega), Nat.add_sub_cancel, e]⟩
    · intro ⟨i, hi, e⟩
      unfold q_ins at e
      by_cases a : i < k
      · rw [if_pos a] at e; exact Or.inr ((h.2 x).mpr ⟨i, by omega, e⟩)
      · rw [if_neg a] at e
        by_cases b : i = k
        · rw [if_pos b] at e; exact Or.inl e.symm
        · rw [if_neg b] at e; exact Or.inr ((h.2 x).mpr ⟨i - 1, by omega, e⟩)
theorem q_ins_bd {n k v b : Nat} {g : Nat → Nat} (h : q_bd n g b) (hv : v ≤ b) (hk : k ≤ n) : q_bd (n + 1) (q_ins g k v) b := by
  intro i hi
  unfold q_ins
  by_cases a : i < k
  · rw [if_pos a]; exact h i (by omega)
  · rw [if_neg a]
    by_cases c : i = k
    · rw [if_pos c]; exact hv
    · rw [if_neg c]; exact h _ (by omega)

theorem q_ins_rep {n k v : Nat} {f : Nat → Int32} {g : Nat → Nat} (h : q_rep f n g) (hk : k ≤ n) :
    q_rep (upd (fun j => if k < j ∧ j ≤ n then f (j - 1) else f j) k (N v)) (n + 1) (q_ins g k v) := by
  intro i hi
  unfold q_ins
  by_cases a : i < k
  · rw [if_pos a, upd_n _ _ (by omega), if_neg (by omega)]; exact h i (by omega)
  · rw [if_neg a]
    by_cases c : i = k
    · rw [if_pos c, c, upd_s]
    · rw [if_neg c, upd_n _ _ c, if_pos (by omega)]; exact h _ (by omega)
theorem q_cut.congr {n : Nat} {g : Nat → Nat} {S S' : Nat → Prop} (h : q_cut n g S) (e : ∀ v, S v ↔ S' v) : q_cut n g S' := ⟨h.1, fun v => (e v).symm.trans (h.2 v)⟩
theorem q_add {f : Nat → Int32} {n : Nat} {g : Nat → Nat} {v : Nat} {S : Nat → Prop} (hA : q_rep f n g) (hc : q_cut n g S) (hn : n < 40) (hb : q_bd n g 500) (hv : v ≤ 500) :
    ∃ n' f' g', m_Cu_add (N v) (N n) f = some (N n', f') ∧ q_rep f' n' g' ∧ q_cut n' g' (fun x => x = v ∨ S x) ∧ n' ≤ n + 1 ∧ q_bd n' g' 500 := by
  obtain ⟨k, e, h1, h2, h3⟩ := q_upTo (v := v) hA hc.1 (by omega) hb (by omega)
  unfold m_Cu_add
  rw [e]
  by_cases c : 0 < k ∧ g (k - 1) = v
  · refine ⟨n, f, g, ?_, hA, hc.congr (fun x => ⟨Or.inr, fun q => q.elim (fun q => (hc.2 x).mpr ⟨k - 1, by omega, by omega⟩) id⟩), by omega, hb⟩
    rw [bd1_i rfl, N_lit 0, N_lit 1, if_neg (fun q => by have := (N_le (by omega) (by omega)).mp q; omega), N_sub (by omega), gI_N (by omega) (by omega), N_nat (by omega), hA _ (by omega), c.2, if_pos rfl, bd1_i rfl, if_neg (by decide)]
  · have hlt : ∀ i, i < k → g i < v := by
      intro i hi
      have a := h2 i hi
      by_cases b : i = k - 1
      · subst b
        have : g (k-1) ≠ v := fun q => c ⟨by omega, q⟩
        omega
      · have := hc.1 i (k-1) (by omega) (by omega); have := h2 (k-1) (by omega); omega
    refine ⟨n + 1, _, q_ins g k v, ?_, q_ins_rep hA h1, q_ins_cut hc h1 hlt h3, Nat.le_refl _, q_ins_bd hb hv h1⟩
    have e0 : (if N k ≤ 0 then some (0 : Int32) else gI (N k - 1) 40 (if f (N k - 1).toNatClampNeg = N v then some 1 else some 0)) = some 0 := by
      by_cases a : k = 0
      · rw [if_pos (by rw [a]; decide)]
      · have := hb (k-1) (by omega)
        rw [N_lit 0, N_lit 1, if_neg (fun q => by have := (N_le (by omega) (by omega)).mp q; omega), N_sub (by omega), gI_N (by omega) (by omega), N_nat (by omega), hA _ (by omega), if_neg (fun q => by have := (N_eq (by omega) (by omega)).mp q; omega)]
    rw [bd1_i rfl, e0, bd1_i rfl, if_pos rfl, N_lit 40, if_pos ((N_lt (by omega) (by omega)).mpr (by omega)), q_shift_L fu n f (by unfold fu; omega) (by omega) h1, bd1_i rfl, gI_N (by omega) (by omega), lt_e, lt_e, N_nat (by omega), N_lit 1, N_add]
theorem q_put_L {f : Nat → Int32} {n : Nat} {g : Nat → Nat} {v : Nat} (hA : q_rep f n g) (hi : q_inc n g) (hn : n ≤ 42) (hb : q_bd n g 500) (hv : v ≤ 500) :
    ∀ fuel k, n - k < fuel → k ≤ n → (∀ i, i < k → g i < v) → ∃ k', m_Mo_put_L2 (N n) (N v) 42 f fuel (N k) = some (N k') ∧ k' ≤ n ∧ (∀ i, i < k' → g i < v) ∧ ∀ i, k' ≤ i → i < n → v ≤ g i := by
  intro fuel
  induction fuel with
  | zero => intro k h; omega
  | succ m ih =>
    intro k hk hkn hlow
    rw [m_Mo_put_L2]
    by_cases h : n ≤ k
    · rw [if_pos ((N_le (by omega) (by omega)).mpr h)]
      exact ⟨k, rfl, hkn, hlow, fun i a b => by omega⟩
    · have hg := hb k (by omega)
      rw [if_neg (fun q => h ((N_le (by omega) (by omega)).mp q)), gI_N (by omega) (by omega), N_nat (by omega), hA k (by omega)]
      by_cases h' : v ≤ g k
      · rw [if_pos ((N_le (by omega) (by omega)).mpr h')]
        exact ⟨k, rfl, hkn, hlow, fun i a b => Nat.le_trans h' (hi.le a b)⟩
      · rw [if_neg (fun q => h' ((N_le (by omega) (by omega)).mp q)), lt_e, N_lit 1, N_add]
        refine ih (k + 1) (by omega) (by omega) (fun i hi' => ?_)
        by_cases e : i = k
        · subst e; omega
        · exact hlow i (by omega)
theorem q_shift2_L {c : Nat} : ∀ fuel m (f : Nat → Int32), m - c < fuel → m < 42 → c ≤ m →
    m_Mo_put_L37 (N c) 42 fuel (N m) f = some (fun j => if c < j ∧ j ≤ m then f (j - 1) else f j) := by
  intro fuel
  induction fuel with
  | zero => intro m f h; omega
  | succ q ih =>
    intro m f hm h40 hcm
    rw [m_Mo_put_L37]
    by_cases hc : m ≤ c
    · rw [if_pos ((N_le (by omega) (by omega)).mpr hc)]
      congr 1; funext j; rw [if_neg (by omega)]
    · rw [if_neg (fun q => hc ((N_le (by omega) (by omega)).mp q)), N_lit 1, N_sub (by omega), gI_N (by omega) (by omega), gI_N (by omega) (by omega), lt_e, lt_e, N_nat (by omega), N_nat (by omega), N_neg, show (-((1 : Nat) : Int)) = -1 from rfl, N_pred (by omega), ih _ _ (by omega) (by omega) (by omega)]
      congr 1; funext j
      by_cases e : j = m
      · subst e; rw [if_neg (by omega), if_pos (by omega), upd_s]
      · by_cases c2 : c < j ∧ j ≤ m
        · rw [if_pos (by omega), if_pos c2, upd_n _ _ (by omega)]
        · rw [if_neg (by omega), if_neg c2, upd_n _ _ e]
theorem q_put {f : Nat → Int32} {n : Nat} {g : Nat → Nat} {v : Nat} {S : Nat → Prop} (hA : q_rep f n g) (hc : q_cut n g S) (hn : n < 42) (hb : q_bd n g 500) (hv : v ≤ 500) :
    ∃ n' f' g', m_Mo_put 42 (N n) (N v) f = some (N n', f') ∧ q_rep f' n' g' ∧ q_cut n' g' (fun x => x = v ∨ S x) ∧ n' ≤ n + 1 ∧ q_bd n' g' 500 := by
  obtain ⟨k, e, h1, h2, h3⟩ := q_put_L (v := v) hA hc.1 (by omega) hb hv fu 0 (by unfold fu; omega) (by omega) (fun i h => by omega)
  unfold m_Mo_put
  rw [N_lit 0, e, bd1_i rfl]
  by_cases c : k < n ∧ g k = v
  · refine ⟨n, f, g, ?_, hA, hc.congr (fun x => ⟨Or.inr, fun q => q.elim (fun q => (hc.2 x).mpr ⟨k, by omega, by omega⟩) id⟩), by omega, hb⟩
    rw [if_neg (fun q => by have := (N_le (by omega) (by omega)).mp q; omega), gI_N (by omega) (by omega), N_nat (by omega), hA _ (by omega), c.2, if_pos rfl]; rfl
  · have hgt : ∀ i, k ≤ i → i < n → v < g i := by
      intro i hi hin
      have a := h3 i hi hin
      by_cases b : i = k
      · subst b
        have : g i ≠ v := fun q => c ⟨by omega, q⟩
        omega
      · have := hc.1 k i (by omega) (by omega); have := h3 k (by omega) (by omega); omega
    refine ⟨n + 1, _, q_ins g k v, ?_, q_ins_rep hA h1, q_ins_cut hc h1 h2 hgt, Nat.le_refl _, q_ins_bd hb hv h1⟩
    have e0 : (if N n ≤ N k then some (Sum.inr ()) else gI (N k) 42 (if f (N k).toNatClampNeg = N v then some (Sum.inl (N n, f)) else some (Sum.inr ()))) = (some (Sum.inr ()) : Option (Sum (Int32 × (Nat → Int32)) Unit)) := by
      by_cases a : n ≤ k
      · rw [if_pos ((N_le (by omega) (by omega)).mpr a)]
      · have := hb k (by omega)
        rw [if_neg (fun q => by have := (N_le (by omega) (by omega)).mp q; omega), gI_N (by omega) (by omega), N_nat (by omega), hA _ (by omega), if_neg (fun q => by have := (N_eq (by omega) (by omega)).mp q; omega)]
    rw [e0]
    show bd1 _ _ = _
    rw [q_shift2_L fu n f (by unfold fu; omega) (by omega) h1, bd1_i rfl, gI_N (by omega) (by omega), lt_e, N_nat (by omega), N_lit 1, N_add]
theorem q_find_L {f : Nat → Int32} {n : Nat} {g : Nat → Nat} {i : Nat} (hA : q_rep f n g) (hi : q_inc n g) (hn : n ≤ 42) (hb : q_bd n g 500) (h : i < n) :
    ∀ fuel k, i - k < fuel → k ≤ i → m_Mo_find_L2 (N (g i)) 42 f fuel (N k) = some (N i) := by
  intro fuel
  induction fuel with
  | zero => intro k h; omega
  | succ m ih =>
    intro k hk hki
    have := hb i h
    have := hb k (by omega)
    rw [m_Mo_find_L2, gI_N (by omega) (by omega), N_nat (by omega), hA k (by omega)]
    by_cases e : k = i
    · rw [e, if_pos rfl]
    · rw [if_neg (fun q => by have := (N_eq (by omega) (by omega)).mp q; have := hi k i (by omega) h; omega), lt_e, N_lit 1, N_add]
      exact ih (k + 1) (by omega) (by omega)
theorem q_find {f : Nat → Int32} {n : Nat} {g : Nat → Nat} {i : Nat} (hA : q_rep f n g) (hi : q_inc n g) (hn : n ≤ 42) (hb : q_bd n g 500) (h : i < n) :
    m_Mo_find 42 (N (g i)) f = some (N i) := by
  unfold m_Mo_find
  rw [N_lit 0, q_find_L hA hi hn hb h fu 0 (by unfold fu; omega) (by omega)]; rfl
/-! Rising numbers of one set are the same. -/
theorem q_cut_same {n n' : Nat} {g g' : Nat → Nat} {S : Nat → Prop} (h : q_cut n g S) (h' : q_cut n' g' S) : n = n' ∧ ∀ i, i < n → g i = g' i := by
  have key : ∀ (n n' : Nat) (g g' : Nat → Nat), q_cut n g S → q_cut n' g' S → ∀ i, i < n → i < n' ∧ g i = g' i := by
    intro n n' g g' h h' i
    induction i using Nat.strongRecOn with
    | ind i ih =>
      intro hi
      obtain ⟨j, hj, e⟩ := (h'.2 (g i)).mp ((h.2 _).mpr ⟨i, hi, rfl⟩)
      have hji : ¬ j < i := fun c => by
        have := (ih j c (by omega)).2
        have := h.1 j i c hi
        omega
      have hij : ¬ i < j := fun c => by
        obtain ⟨k, hk, e'⟩ := (h.2 (g' i)).mp ((h'.2 _).mpr ⟨i, by omega, rfl⟩)
        have := h'.1 i j c hj
        by_cases a : k < i
        · have := ih k a (by omega); have := h'.1 k i a (by omega); omega
        · have := h.1.le (i := i) (j := k) (by omega) hk; omega
      have : j = i := by omega
      subst this
      exact ⟨hj, e.symm⟩
  have e1 := key n n' g g' h h'
  have e2 := key n' n g' g h' h
  refine ⟨?_, fun i hi => (e1 i hi).2⟩
  by_cases a : n < n'
  · have := (e2 n a).1; omega
  · by_cases b : n' < n
    · have := (e1 n' b).1; omega
    · omega
/-! A storey: lines by their low and high ends. -/
abbrev Sto := Nat → Nat × Nat × Nat × Nat
abbrev xl (T : Sto) (l : Nat) : Nat := (T l).1
abbrev yl (T : Sto) (l : Nat) : Nat := (T l).2.1
abbrev xh (T : Sto) (l : Nat) : Nat := (T l).2.2.1
abbrev yh (T : Sto) (l : Nat) : Nat := (T l).2.2.2
def q_ln (T : Sto) (l : Nat) : Prop := xh T l ≤ 500 ∧ yh T l ≤ 500 ∧ ((xl T l < xh T l ∧ yl T l = yh T l) ∨ (xl T l = xh T l ∧ yl T l < yh T l))
/-! Lines that lie along one another have a point in common at most. -/
def q_apart (T : Sto) (l m : Nat) : Prop := (yl T l = yh T l → yl T m = yh T m → yl T l = yl T m → xh T l ≤ xl T m ∨ xh T m ≤ xl T l) ∧
  (xl T l = xh T l → xl T m = xh T m → xl T l = xl T m → yh T l ≤ yl T m ∨ yh T m ≤ yl T l)
def q_ok (n : Nat) (T : Sto) : Prop := n ≤ 20 ∧ (∀ l, l < n → q_ln T l) ∧ ∀ l m, l < n → m < n → l ≠ m → q_apart T l m
def q_cl (n : Nat) (T : Sto) (f1 f2 f3 f4 : Nat → Int32) : Prop := ∀ l, l < n → f1 l = N (xl T l) ∧ f2 l = N (yl T l) ∧ f3 l = N (xh T l) ∧ f4 l = N (yh T l)
def q_rl (n : Nat) (T : Sto) (fI fA fL fH : Nat → Int32) : Prop := ∀ l, l < n →
  (yl T l = yh T l → fI l = 1 ∧ fA l = N (yl T l) ∧ fL l = N (xl T l) ∧ fH l = N (xh T l)) ∧
  (¬ yl T l = yh T l → fI l = 0 ∧ fA l = N (xl T l) ∧ fL l = N (yl T l) ∧ fH l = N (yh T l))
def q_SX (n : Nat) (T : Sto) (v : Nat) : Prop := ∃ l, l < n ∧ (v = xl T l ∨ v = xh T l)
def q_SY (n : Nat) (T : Sto) (v : Nat) : Prop := ∃ l, l < n ∧ (v = yl T l ∨ v = yh T l)
theorem q_SX_s (n : Nat) (T : Sto) (v : Nat) : q_SX (n + 1) T v ↔ (v = xh T n ∨ v = xl T n ∨ q_SX n T v) := by
  constructor
  · intro ⟨l, hl, h⟩
    by_cases e : l = n
    · subst e; rcases h with h | h
      · exact Or.inr (Or.inl h)
      · exact Or.inl h
    · exact Or.inr (Or.inr ⟨l, by omega, h⟩)
  · intro h
    rcases h with h | h | ⟨l, hl, h⟩
    · exact ⟨n, by omega, Or.inr h⟩
    · exact ⟨n, by omega, Or.inl h⟩
    · exact ⟨l, by omega, h⟩
theorem q_SY_s (n : Nat) (T : Sto) (v : Nat) : q_SY (n + 1) T v ↔ (v = yh T n ∨ v = yl T n ∨ q_SY n T v) := by
  constructor
  · intro ⟨l, hl, h⟩
    by_cases e : l = n
    · subst e; rcases h with h | h
      · exact Or.inr (Or.inl h)
      · exact Or.inl h
    · exact Or.inr (Or.inr ⟨l, by omega, h⟩)
  · intro h
    rcases h with h | h | ⟨l, hl, h⟩
    · exact ⟨n, by omega, Or.inr h⟩
    · exact ⟨n, by omega, Or.inl h⟩
    · exact ⟨l, by omega, h⟩
/-! What a row of cuts holds. -/
def q_row (f : Nat → Int32) (n : Nat) (g : Nat → Nat) (S : Nat → Prop) : Prop := q_rep f n g ∧ q_cut n g S ∧ q_bd n g 500
theorem q_row0 (f : Nat → Int32) (g : Nat → Nat) (S : Nat → Prop) (h : ∀ v, ¬ S v) : q_row f 0 g S :=
  ⟨fun i h => by omega, ⟨fun i j h h' => by omega, fun v => ⟨fun q => (h v q).elim, fun ⟨i, q, _⟩ => by omega⟩⟩, fun i h => by omega⟩
theorem q_row_add {f : Nat → Int32} {n : Nat} {g : Nat → Nat} {v : Nat} {S : Nat → Prop} (h : q_row f n g S) (hn : n < 40) (hv : v ≤ 500) :
    ∃ n' f' g', m_Cu_add (N v) (N n) f = some (N n', f') ∧ n' ≤ n + 1 ∧ q_row f' n' g' (fun x => x = v ∨ S x) := by
  obtain ⟨n', f', g', e, h1, h2, h3, h4⟩ := q_add h.1 h.2.1 hn h.2.2 hv
  exact ⟨n', f', g', e, h3, h1, h2, h4⟩
theorem q_row_put {f : Nat → Int32} {n : Nat} {g : Nat → Nat} {v : Nat} {S : Nat → Prop} (h : q_row f n g S) (hn : n < 42) (hv : v ≤ 500) :
    ∃ n' f' g', m_Mo_put 42 (N n) (N v) f = some (N n', f') ∧ n' ≤ n + 1 ∧ q_row f' n' g' (fun x => x = v ∨ S x) := by
  obtain ⟨n', f', g', e, h1, h2, h3, h4⟩ := q_put h.1 h.2.1 hn h.2.2 hv
  exact ⟨n', f', g', e, h3, h1, h2, h4⟩
theorem q_row.congr {f : Nat → Int32} {n : Nat} {g : Nat → Nat} {S S' : Nat → Prop} (h : q_row f n g S) (e : ∀ v, S v ↔ S' v) : q_row f n g S' := ⟨h.1, h.2.1.congr e, h.2.2⟩
theorem q_Gr_cut_L {n : Nat} {T : Sto} {f1 f2 f3 f4 : Nat → Int32} (hok : q_ok n T) (hc : q_cl n T f1 f2 f3 f4) :
    ∀ fuel l nx fx X ny fy Y, n - l < fuel → l ≤ n → nx ≤ 2 * l → ny ≤ 2 * l → q_row fx nx X (q_SX l T) → q_row fy ny Y (q_SY l T) →
    ∃ nx' fx' X' ny' fy' Y', m_Gr_cut_L18 (N n) f1 f2 f3 f4 fuel (N l) (N nx) fx (N ny) fy = some (N nx', fx', N ny', fy') ∧ nx' ≤ 2 * n ∧ ny' ≤ 2 * n ∧ q_row fx' nx' X' (q_SX n T) ∧ q_row fy' ny' Y' (q_SY n T) := by
  intro fuel
  induction fuel with
  | zero => intro l nx fx X ny fy Y h; omega
  | succ m ih =>
    intro l nx fx X ny fy Y hl hln hnx hny hx hy
    have hn := hok.1
    rw [m_Gr_cut_L18]
    by_cases c : n ≤ l
    · rw [if_pos ((N_le (by omega) (by omega)).mpr c)]
      have e : l = n := by omega
      subst e
      exact ⟨nx, fx, X, ny, fy, Y, rfl, hnx, hny, hx, hy⟩
    · have hln' : l < n := by omega
      obtain ⟨h1, h2, h3, h4⟩ := hc l hln'
      have hq := hok.2.1 l hln'
      unfold q_ln at hq
      rw [if_neg (fun q => c ((N_le (by omega) (by omega)).mp q)), N_nat (by omega), h1, h2, h3, h4]
      obtain ⟨a1, fa1, g1, e1, b1, r1⟩ := q_row_add (v := xl T l) hx (by omega) (by omega)
      obtain ⟨a2, fa2, g2, e2, b2, r2⟩ := q_row_add (v := xh T l) r1 (by omega) (by omega)
      obtain ⟨a3, fa3, g3, e3, b3, r3⟩ := q_row_add (v := yl T l) hy (by omega) (by omega)
      obtain ⟨a4, fa4, g4, e4, b4, r4⟩ := q_row_add (v := yh T l) r3 (by omega) (by omega)
      rw [gI_N (by omega) (by omega), bd2_i e1, gI_N (by omega) (by omega), bd2_i e2, gI_N (by omega) (by omega), bd2_i e3, gI_N (by omega) (by omega), bd2_i e4, lt_e, N_lit 1, N_add]
      exact ih (l + 1) a2 fa2 g2 a4 fa4 g4 (by omega) (by omega) (by omega) (by omega) (r2.congr (fun v => (q_SX_s l T v).symm)) (r4.congr (fun v => (q_SY_s l T v).symm))
theorem q_Gr_cut {n : Nat} {T : Sto} {f1 f2 f3 f4 : Nat → Int32} (hok : q_ok n T) (hc : q_cl n T f1 f2 f3 f4) (vx vy : Int32) (fx fy : Nat → Int32) :
    ∃ nx fx' X ny fy' Y, m_Gr_cut vx fx vy fy (N n) f1 f2 f3 f4 = some (N nx, fx', N ny, fy') ∧ nx ≤ 40 ∧ ny ≤ 40 ∧ q_row fx' nx X (q_SX n T) ∧ q_row fy' ny Y (q_SY n T) := by
  have hn := hok.1
  obtain ⟨nx, fx', X, ny, fy', Y, e, h1, h2, h3, h4⟩ := q_Gr_cut_L hok hc fu 0 0 fx (fun _ => 0) 0 fy (fun _ => 0) (by unfold fu; omega) (by omega) (by omega) (by omega) (q_row0 _ _ _ (fun v ⟨l, h, _⟩ => by omega)) (q_row0 _ _ _ (fun v ⟨l, h, _⟩ => by omega))
  refine ⟨nx, fx', X, ny, fy', Y, ?_, by omega, by omega, h3, h4⟩
  unfold m_Gr_cut
  rw [N_lit 0, bd4_i e]
theorem q_layGrid_L {n : Nat} {T : Sto} {f1 f2 f3 f4 : Nat → Int32} (hok : q_ok n T) (hc : q_rl n T f1 f2 f3 f4) :
    ∀ fuel l nx fx X ny fy Y, n - l < fuel → l ≤ n → nx ≤ 2 * l → ny ≤ 2 * l → q_row fx nx X (q_SX l T) → q_row fy ny Y (q_SY l T) →
    ∃ nx' fx' X' ny' fy' Y', m_Mo_layGrid_L12 (N n) f1 f2 f3 f4 fuel (N l) (N nx) (N ny) fx fy = some (N nx', N ny', fx', fy') ∧ nx' ≤ 2 * n ∧ ny' ≤ 2 * n ∧ q_row fx' nx' X' (q_SX n T) ∧ q_row fy' ny' Y' (q_SY n T) := by
  intro fuel
  induction fuel with
  | zero => intro l nx fx X ny fy Y h; omega
  | succ m ih =>
    intro l nx fx X ny fy Y hl hln hnx hny hx hy
    have hn := hok.1
    rw [m_Mo_layGrid_L12]
    by_cases c : n ≤ l
    · rw [if_pos ((N_le (by omega) (by omega)).mpr c)]
      have e : l = n := by omega
      subst e
      exact ⟨nx, fx, X, ny, fy, Y, rfl, hnx, hny, hx, hy⟩
    · have hln' : l < n := by omega
      obtain ⟨hF, hU⟩ := hc l hln'
      have hq := hok.2.1 l hln'
      unfold q_ln at hq
      rw [if_neg (fun q => c ((N_le (by omega) (by omega)).mp q)), N_nat (by omega)]
      by_cases fl : yl T l = yh T l
      · obtain ⟨h1, h2, h3, h4⟩ := hF fl
        rw [h1, h2, h3, h4]
        obtain ⟨a1, fa1, g1, e1, b1, r1⟩ := q_row_put (v := xl T l) hx (by omega) (by omega)
        obtain ⟨a2, fa2, g2, e2, b2, r2⟩ := q_row_put (v := xh T l) r1 (by omega) (by omega)
        obtain ⟨a3, fa3, g3, e3, b3, r3⟩ := q_row_put (v := yl T l) hy (by omega) (by omega)
        rw [gI_N (by omega) (by omega), if_neg (by decide), gI_N (by omega) (by omega), bd2_i e1, gI_N (by omega) (by omega), bd2_i e2, gI_N (by omega) (by omega), bd2_i e3, bd4_i rfl, lt_e, N_lit 1, N_add]
        exact ih (l + 1) a2 fa2 g2 a3 fa3 g3 (by omega) (by omega) (by omega) (by omega) (r2.congr (fun v => (q_SX_s l T v).symm)) (r3.congr (fun v => (by rw [q_SY_s l T v, ← fl]; simp)))
      · obtain ⟨h1, h2, h3, h4⟩ := hU fl
        have fx' : xl T l = xh T l := by omega
        rw [h1, h2, h3, h4]
        obtain ⟨a1, fa1, g1, e1, b1, r1⟩ := q_row_put (v := xl T l) hx (by omega) (by omega)
        obtain ⟨a3, fa3, g3, e3, b3, r3⟩ := q_row_put (v := yl T l) hy (by omega) (by omega)
        obtain ⟨a4, fa4, g4, e4, b4, r4⟩ := q_row_put (v := yh T l) r3 (by omega) (by omega)
        rw [gI_N (by omega) (by omega), if_pos rfl, gI_N (by omega) (by omega), bd2_i e1, gI_N (by omega) (by omega), bd2_i e3, gI_N (by omega) (by omega), bd2_i e4, bd4_i rfl, lt_e, N_lit 1, N_add]
        exact ih (l + 1) a1 fa1 g1 a4 fa4 g4 (by omega) (by omega) (by omega) (by omega) (r1.congr (fun v => (by rw [q_SX_s l T v, ← fx']; simp))) (r4.congr (fun v => (q_SY_s l T v).symm))
/-! Counting. -/
noncomputable def q_one (p : Prop) : Nat := @ite _ p (Classical.propDecidable p) 1 0
theorem q_one_t {p : Prop} (h : p) : q_one p = 1 := if_pos h
theorem q_one_f {p : Prop} (h : ¬ p) : q_one p = 0 := if_neg h
theorem q_one_le (p : Prop) : q_one p ≤ 1 := by
  by_cases h : p
  · rw [q_one_t h]; omega
  · rw [q_one_f h]; omega
theorem q_one_c {p p' : Prop} (h : p ↔ p') : q_one p = q_one p' := by
  by_cases c : p
  · rw [q_one_t c, q_one_t (h.mp c)]
  · rw [q_one_f c, q_one_f (fun q => c (h.mpr q))]
noncomputable def q_cnt (p : Nat → Prop) : Nat → Nat
  | 0 => 0
  | m + 1 => q_cnt p m + q_one (p m)
theorem q_cnt_le (p : Nat → Prop) : ∀ m, q_cnt p m ≤ m := by
  intro m
  induction m with
  | zero => exact Nat.le_refl _
  | succ m ih => have := q_one_le (p m); show q_cnt p m + q_one (p m) ≤ m + 1; omega
theorem q_cnt_c {p p' : Nat → Prop} : ∀ {m}, (∀ i, i < m → (p i ↔ p' i)) → q_cnt p m = q_cnt p' m := by
  intro m
  induction m with
  | zero => intro _; rfl
  | succ m ih => intro h; show q_cnt p m + q_one (p m) = q_cnt p' m + q_one (p' m); rw [ih (fun i hi => h i (by omega)), q_one_c (h m (by omega))]
theorem q_cnt_mono {p p' : Nat → Prop} : ∀ {m}, (∀ i, i < m → p i → p' i) → q_cnt p m ≤ q_cnt p' m := by
  intro m
  induction m with
  | zero => intro _; exact Nat.le_refl _
  | succ m ih =>
    intro h
    have := ih (fun i hi => h i (by omega))
    show q_cnt p m + q_one (p m) ≤ q_cnt p' m + q_one (p' m)
    by_cases c : p m
    · rw [q_one_t c, q_one_t (h m (by omega) c)]; omega
    · rw [q_one_f c]; omega
theorem q_cnt_add {p p' : Nat → Prop} {k : Nat} : ∀ {m}, k < m → ¬ p k → p' k → (∀ i, i < m → i ≠ k → (p i ↔ p' i)) → q_cnt p' m = q_cnt p m + 1 := by
  intro m
  induction m with
  | zero => intro h; omega
  | succ m ih =>
    intro hk h1 h2 h
    show q_cnt p' m + q_one (p' m) = q_cnt p m + q_one (p m) + 1
    by_cases c : k = m
    · subst c; rw [q_one_t h2, q_one_f h1, q_cnt_c (p := p) (p' := p') (fun i hi => h i (by omega) (by omega))]
    · rw [ih (by omega) h1 h2 (fun i hi => h i (by omega)), q_one_c (h m (by omega) (by omega))]; omega
theorem q_cnt_pos {p : Nat → Prop} {k : Nat} : ∀ {m}, k < m → p k → 0 < q_cnt p m := by
  intro m
  induction m with
  | zero => intro h; omega
  | succ m ih =>
    intro hk h
    show 0 < q_cnt p m + q_one (p m)
    by_cases c : k = m
    · subst c; rw [q_one_t h]; omega
    · have := ih (by omega) h; omega
theorem q_cnt_full {p : Nat → Prop} : ∀ {m}, m ≤ q_cnt p m → ∀ i, i < m → p i := by
  intro m
  induction m with
  | zero => intro _ i h; omega
  | succ m ih =>
    intro h i hi
    have h0 : m + 1 ≤ q_cnt p m + q_one (p m) := h
    have := q_cnt_le p m
    by_cases c : p m
    · by_cases e : i = m
      · subst e; exact c
      · rw [q_one_t c] at h0; exact ih (by omega) i (by omega)
    · rw [q_one_f c] at h0; omega
theorem q_cnt_none {p : Nat → Prop} : ∀ {m}, (∀ i, i < m → ¬ p i) → q_cnt p m = 0 := by
  intro m
  induction m with
  | zero => intro _; rfl
  | succ m ih => intro h; show q_cnt p m + q_one (p m) = 0; rw [ih (fun i hi => h i (by omega)), q_one_f (h m (by omega))]
/-! What hangs together. -/
abbrev Ce := Nat × Nat
def q_con (A : Ce → Ce → Prop) (u v : Ce) : Prop := ∀ S : Ce → Prop, S u → (∀ a b, S a → A a b → S b) → S v
theorem q_con.refl {A : Ce → Ce → Prop} (u : Ce) : q_con A u u := fun _ h _ => h
theorem q_con.step {A : Ce → Ce → Prop} {u v w : Ce} (h : q_con A u v) (a : A v w) : q_con A u w := fun S hu hS => hS v w (h S hu hS) a
theorem q_con.trans {A : Ce → Ce → Prop} {u v w : Ce} (h : q_con A u v) (k : q_con A v w) : q_con A u w := fun S hu hS => k S (h S hu hS) hS
theorem q_con.symm {A : Ce → Ce → Prop} (hA : ∀ a b, A a b → A b a) {u v : Ce} (h : q_con A u v) : q_con A v u :=
  h (fun x => q_con A x u) (q_con.refl u) (fun a b ha hab => q_con.trans (q_con.step (q_con.refl b) (hA a b hab)) ha)
/-! The flood: F labels, a stack s of k cells. -/
def q_fl (A : Ce → Ce → Prop) (D lab : Int) (F0 : Ce → Int) (u0 : Ce) (F : Ce → Int) (k : Nat) (s : Nat → Ce) : Prop :=
  (∀ v, F v = F0 v ∨ (F0 v = D ∧ F v = lab ∧ q_con A u0 v)) ∧ (∀ i, i < k → F (s i) = lab ∧ F0 (s i) = D)
def q_dn (A : Ce → Ce → Prop) (D lab : Int) (F0 : Ce → Int) (F : Ce → Int) (k : Nat) (s : Nat → Ce) (X : Ce → Prop) : Prop :=
  ∀ u, F u = lab → F0 u = D → (∃ i, i < k ∧ s i = u) ∨ X u ∨ ∀ v, A u v → F v ≠ D
def q_set (F : Ce → Int) (u : Ce) (x : Int) : Ce → Int := fun v => if v = u then x else F v
def q_psh (s : Nat → Ce) (k : Nat) (u : Ce) : Nat → Ce := fun i => if i = k then u else s i
theorem q_fl_end {A : Ce → Ce → Prop} {D lab : Int} {F0 : Ce → Int} {u0 : Ce} {F : Ce → Int} {s : Nat → Ce} (hA : ∀ a b, A a b → A b a) (hcl : ∀ a b, F0 a ≠ D → A a b → F0 b ≠ D)
    (h : q_fl A D lab F0 u0 F 0 s) (hd : q_dn A D lab F0 F 0 s (fun _ => False)) (h0 : F u0 = lab) (h00 : F0 u0 = D) (v : Ce) : (q_con A u0 v → F v = lab ∧ F0 v = D) ∧ (¬ q_con A u0 v → F v = F0 v) := by
  constructor
  · intro hc
    refine hc (fun v => F v = lab ∧ F0 v = D) ⟨h0, h00⟩ ?_
    intro a b ⟨ha, ha0⟩ hab
    have hb : F b ≠ D := by
      rcases hd a ha ha0 with ⟨i, hi, _⟩ | hf | hq
      · omega
      · exact hf.elim
      · exact hq b hab
    have hb0 : F0 b = D := by
      by_cases c : F0 b = D
      · exact c
      · exact (hcl b a c (hA a b hab) ha0).elim
    rcases h.1 b with e | e
    · exact (hb (e.trans hb0)).elim
    · exact ⟨e.2.1, hb0⟩
  · intro hc
    rcases h.1 v with e | e
    · exact e
    · exact (hc e.2.2).elim
def q_st (w nx ny : Nat) (A : Ce → Ce → Prop) (D lab : Int) (F0 : Ce → Int) (u0 : Ce) (X : Ce → Prop) (ce wa : Nat → Int32) (F : Ce → Int) (k : Nat) (s : Nat → Ce) : Prop :=
  (∀ v, -3 ≤ F v ∧ F v ≤ 1000) ∧ (∀ c r, c ≤ nx → r ≤ ny → ce (w * c + r) = J (F (c, r))) ∧ (∀ i, i < k → wa i = N (w * (s i).1 + (s i).2) ∧ (s i).1 ≤ nx ∧ (s i).2 ≤ ny) ∧
  q_fl A D lab F0 u0 F k s ∧ q_dn A D lab F0 F k s X
theorem q_enc {w c r c' r' : Nat} (h : r < w) (h' : r' < w) (e : w * c + r = w * c' + r') : c = c' ∧ r = r' := by
  have h1 : (w * c + r) / w = c := by rw [Nat.mul_add_div (by omega), Nat.div_eq_of_lt h]; rfl
  have h2 : (w * c' + r') / w = c' := by rw [Nat.mul_add_div (by omega), Nat.div_eq_of_lt h']; rfl
  have : c = c' := by rw [← h1, ← h2, e]
  subst this; omega
theorem q_st_wet {w nx ny : Nat} {A : Ce → Ce → Prop} {D lab : Int} {F0 : Ce → Int} {u0 : Ce} {X : Ce → Prop} {ce wa : Nat → Int32} {F : Ce → Int} {k : Nat} {s : Nat → Ce}
    (h : q_st w nx ny A D lab F0 u0 X ce wa F k s) {c r : Nat} (hc : c ≤ nx) (hr : r ≤ ny) (hw : ny < w) (hD : F (c, r) = D) (hq : q_con A u0 (c, r)) (hl : lab ≠ D) (hb : -3 ≤ lab ∧ lab ≤ 1000) :
    q_st w nx ny A D lab F0 u0 X (upd ce (w * c + r) (J lab)) (upd wa k (N (w * c + r))) (q_set F (c, r) lab) (k + 1) (q_psh s k (c, r)) := by
  obtain ⟨h1, h2, h3, h4, h5⟩ := h
  have h0 : F0 (c, r) = D := by
    rcases h4.1 (c, r) with e | e
    · rw [← e]; exact hD
    · exact e.1
  refine ⟨fun v => ?_, fun c' r' hc' hr' => ?_, fun i hi => ?_, ⟨fun v => ?_, fun i hi => ?_⟩, fun u hu hu0 => ?_⟩
  · unfold q_set; by_cases e : v = (c, r)
    · rw [if_pos e]; exact hb
    · rw [if_neg e]; exact h1 v
  · unfold q_set
    by_cases e : (c', r') = (c, r)
    · rw [if_pos e]; cases e; rw [upd_s]
    · rw [if_neg e, upd_n _ _ (fun q => e (by obtain ⟨a, b⟩ := q_enc (by omega) (by omega) q; rw [a, b])), h2 c' r' hc' hr']
  · unfold q_psh
    by_cases e : i = k
    · rw [if_pos e, e, upd_s]; exact ⟨rfl, hc, hr⟩
    · rw [if_neg e, upd_n _ _ e]; exact h3 i (by omega)
  · unfold q_set; by_cases e : v = (c, r)
    · rw [if_pos e]; exact Or.inr ⟨by rw [e]; exact h0, rfl, by rw [e]; exact hq⟩
    · rw [if_neg e]; exact h4.1 v
  · unfold q_set q_psh
    by_cases e : i = k
    · rw [if_pos e, if_pos rfl]; exact ⟨rfl, h0⟩
    · rw [if_neg e]
      have := h4.2 i (by omega)
      by_cases e2 : s i = (c, r)
      · rw [if_pos e2]; exact ⟨rfl, this.2⟩
      · rw [if_neg e2]; exact this
  · by_cases e : u = (c, r)
    · exact Or.inl ⟨k, by omega, by unfold q_psh; rw [if_pos rfl, e]⟩
    · have hu' : F u = lab := by unfold q_set at hu; rw [if_neg e] at hu; exact hu
      rcases h5 u hu' hu0 with ⟨i, hi, e'⟩ | hX | hn
      · exact Or.inl ⟨i, by omega, by unfold q_psh; rw [if_neg (by omega), e']⟩
      · exact Or.inr (Or.inl hX)
      · refine Or.inr (Or.inr (fun v hv => ?_))
        unfold q_set
        by_cases e2 : v = (c, r)
        · rw [if_pos e2]; exact hl
        · rw [if_neg e2]; exact hn v hv
/-! Pop: the cell on top. -/
theorem q_st_pop {w nx ny : Nat} {A : Ce → Ce → Prop} {D lab : Int} {F0 : Ce → Int} {u0 : Ce} {ce wa : Nat → Int32} {F : Ce → Int} {k : Nat} {s : Nat → Ce}
    (h : q_st w nx ny A D lab F0 u0 (fun _ => False) ce wa F (k + 1) s) :
    q_st w nx ny A D lab F0 u0 (fun v => v = s k) ce wa F k s ∧ q_con A u0 (s k) ∨ lab = D := by
  obtain ⟨h1, h2, h3, h4, h5⟩ := h
  by_cases hl : lab = D
  · exact Or.inr hl
  · refine Or.inl ⟨⟨h1, h2, fun i hi => h3 i (by omega), ⟨h4.1, fun i hi => h4.2 i (by omega)⟩, fun u hu hu0 => ?_⟩, ?_⟩
    · rcases h5 u hu hu0 with ⟨i, hi, e⟩ | hX | hn
      · by_cases c : i = k
        · exact Or.inr (Or.inl (by rw [← e, c]))
        · exact Or.inl ⟨i, by omega, e⟩
      · exact hX.elim
      · exact Or.inr (Or.inr hn)
    · have a := h4.2 k (by omega)
      rcases h4.1 (s k) with e | e
      · exact (hl (by rw [← a.1, e, a.2])).elim
      · exact e.2.2
theorem q_st_close {w nx ny : Nat} {A : Ce → Ce → Prop} {D lab : Int} {F0 : Ce → Int} {u0 : Ce} {ce wa : Nat → Int32} {F : Ce → Int} {k : Nat} {s : Nat → Ce} {u : Ce}
    (h : q_st w nx ny A D lab F0 u0 (fun v => v = u) ce wa F k s) (hn : ∀ v, A u v → F v ≠ D) : q_st w nx ny A D lab F0 u0 (fun _ => False) ce wa F k s := by
  obtain ⟨h1, h2, h3, h4, h5⟩ := h
  refine ⟨h1, h2, h3, h4, fun v hv hv0 => ?_⟩
  rcases h5 v hv hv0 with a | a | a
  · exact Or.inl a
  · rw [a]; exact Or.inr (Or.inr hn)
  · exact Or.inr (Or.inr a)
/-! Cells that are dry. -/
noncomputable def q_dry (nx ny : Nat) (D : Int) (F : Ce → Int) : Nat := q_cnt (fun i => i / 41 ≤ nx ∧ i % 41 ≤ ny ∧ F (i / 41, i % 41) = D) 1681
theorem q_dry_set {nx ny : Nat} {D lab : Int} {F : Ce → Int} {c r : Nat} (hc : c ≤ nx) (hr : r ≤ ny) (hx : nx ≤ 40) (hy : ny ≤ 40) (hD : F (c, r) = D) (hl : lab ≠ D) :
    q_dry nx ny D (q_set F (c, r) lab) + 1 = q_dry nx ny D F := by
  have e1 : (41 * c + r) / 41 = c := by omega
  have e2 : (41 * c + r) % 41 = r := by omega
  unfold q_dry
  rw [eq_comm]
  refine q_cnt_add (k := 41 * c + r) (by omega) ?_ ?_ ?_
  · rw [e1, e2]; unfold q_set; rw [if_pos rfl]; exact fun q => hl q.2.2
  · rw [e1, e2]; exact ⟨hc, hr, hD⟩
  · intro i hi hne
    unfold q_set
    rw [if_neg (fun q => hne (by injection q with a b; omega))]
/-! Lines by the numbers of their cuts: a storey I of small numbers. -/
def q_gi (n : Nat) (I : Sto) (nx ny : Nat) : Prop := n ≤ 20 ∧ nx ≤ 40 ∧ ny ≤ 40 ∧
  (∀ l, l < n → xh I l < nx ∧ yh I l < ny ∧ ((xl I l < xh I l ∧ yl I l = yh I l) ∨ (xl I l = xh I l ∧ yl I l < yh I l))) ∧ ∀ l m, l < n → m < n → l ≠ m → q_apart I l m
def q_ix (n : Nat) (T I : Sto) (X Y : Nat → Nat) : Prop := ∀ l, l < n → xl T l = X (xl I l) ∧ yl T l = Y (yl I l) ∧ xh T l = X (xh I l) ∧ yh T l = Y (yh I l)
theorem q_inc.lt_iff {n : Nat} {g : Nat → Nat} (h : q_inc n g) {i j : Nat} (hi : i < n) (hj : j < n) : g i < g j ↔ i < j := by
  constructor
  · intro q
    by_cases c : i < j
    · exact c
    · have := h.le (i := j) (j := i) (by omega) hi; omega
  · intro q; exact h i j q hj
theorem q_inc.le_iff {n : Nat} {g : Nat → Nat} (h : q_inc n g) {i j : Nat} (hi : i < n) (hj : j < n) : g i ≤ g j ↔ i ≤ j := by
  have := h.lt_iff hj hi; omega
theorem q_inc.eq_iff {n : Nat} {g : Nat → Nat} (h : q_inc n g) {i j : Nat} (hi : i < n) (hj : j < n) : g i = g j ↔ i = j := by
  have := h.lt_iff hj hi; have := h.lt_iff hi hj; omega
theorem q_ix_ex {n : Nat} {T : Sto} {nx ny : Nat} {X Y : Nat → Nat} (hok : q_ok n T) (hx : q_cut nx X (q_SX n T)) (hy : q_cut ny Y (q_SY n T)) (hnx : nx ≤ 40) (hny : ny ≤ 40) :
    ∃ I, q_ix n T I X Y ∧ q_gi n I nx ny := by
  have hex : ∀ l, ∃ q : Nat × Nat × Nat × Nat, l < n → q.1 < nx ∧ q.2.1 < ny ∧ q.2.2.1 < nx ∧ q.2.2.2 < ny ∧ X q.1 = xl T l ∧ Y q.2.1 = yl T l ∧ X q.2.2.1 = xh T l ∧ Y q.2.2.2 = yh T l := by
    intro l
    by_cases hl : l < n
    · obtain ⟨a, ha, ea⟩ := (hx.2 (xl T l)).mp ⟨l, hl, Or.inl rfl⟩
      obtain ⟨b, hb, eb⟩ := (hy.2 (yl T l)).mp ⟨l, hl, Or.inl rfl⟩
      obtain ⟨c, hc, ec⟩ := (hx.2 (xh T l)).mp ⟨l, hl, Or.inr rfl⟩
      obtain ⟨d, hd, ed⟩ := (hy.2 (yh T l)).mp ⟨l, hl, Or.inr rfl⟩
      exact ⟨(a, b, c, d), fun _ => ⟨ha, hb, hc, hd, ea, eb, ec, ed⟩⟩
    · exact ⟨(0, 0, 0, 0), fun q => (hl q).elim⟩
  obtain ⟨I, hI⟩ := Classical.skolem.mp hex
  refine ⟨I, fun l hl => ?_, hok.1, hnx, hny, fun l hl => ?_, fun l m hl hm hne => ?_⟩
  · obtain ⟨_, _, _, _, e1, e2, e3, e4⟩ := hI l hl
    exact ⟨e1.symm, e2.symm, e3.symm, e4.symm⟩
  · obtain ⟨a1, a2, a3, a4, e1, e2, e3, e4⟩ := hI l hl
    have hq := (hok.2.1 l hl).2.2
    rw [← e1, ← e2, ← e3, ← e4, hx.1.lt_iff a1 a3, hx.1.eq_iff a1 a3, hy.1.lt_iff a2 a4, hy.1.eq_iff a2 a4] at hq
    exact ⟨a3, a4, hq⟩
  · obtain ⟨a1, a2, a3, a4, e1, e2, e3, e4⟩ := hI l hl
    obtain ⟨b1, b2, b3, b4, g1, g2, g3, g4⟩ := hI m hm
    have hq := hok.2.2 l m hl hm hne
    unfold q_apart at hq
    rw [← e1, ← e2, ← e3, ← e4, ← g1, ← g2, ← g3, ← g4, hx.1.eq_iff a1 a3, hx.1.eq_iff a1 b1, hx.1.eq_iff b1 b3, hy.1.eq_iff a2 a4, hy.1.eq_iff a2 b2, hy.1.eq_iff b2 b4,
      hx.1.le_iff a3 b1, hx.1.le_iff b3 a1, hy.1.le_iff a4 b2, hy.1.le_iff b4 a2] at hq
    exact hq
def q_wE (n : Nat) (I : Sto) (c r : Nat) : Prop := ∃ l, l < n ∧ xl I l = c ∧ yl I l < r ∧ r ≤ yh I l
def q_wN (n : Nat) (I : Sto) (c r : Nat) : Prop := ∃ l, l < n ∧ yl I l = r ∧ xl I l < c ∧ c ≤ xh I l
def q_A (n : Nat) (I : Sto) (nx ny : Nat) (u v : Ce) : Prop := u.1 ≤ nx ∧ u.2 ≤ ny ∧ v.1 ≤ nx ∧ v.2 ≤ ny ∧
  ((v = (u.1 + 1, u.2) ∧ ¬ q_wE n I u.1 u.2) ∨ (u = (v.1 + 1, v.2) ∧ ¬ q_wE n I v.1 v.2) ∨ (v = (u.1, u.2 + 1) ∧ ¬ q_wN n I u.1 u.2) ∨ (u = (v.1, v.2 + 1) ∧ ¬ q_wN n I v.1 v.2))
theorem q_A_symm {n : Nat} {I : Sto} {nx ny : Nat} (a b : Ce) (h : q_A n I nx ny a b) : q_A n I nx ny b a := by
  obtain ⟨h1, h2, h3, h4, h5⟩ := h
  refine ⟨h3, h4, h1, h2, ?_⟩
  rcases h5 with h | h | h | h
  · exact Or.inr (Or.inl h)
  · exact Or.inl h
  · exact Or.inr (Or.inr (Or.inr h))
  · exact Or.inr (Or.inr (Or.inl h))
/-! java.util.Arrays.fill. -/
theorem q_fill1_L {v : Int32} {n0 b : Nat} (hb : b ≤ n0) (hn : n0 < 2147483648) : ∀ fuel k (f : Nat → Int32), b - k < fuel → k ≤ b → m_Ar_fill1_L10 (N b) v n0 fuel (N k) f = some (fun j => if k ≤ j ∧ j < b then v else f j) := by
  intro fuel
  induction fuel with
  | zero => intro k f h; omega
  | succ m ih =>
    intro k f h hk
    rw [m_Ar_fill1_L10]
    by_cases c : b ≤ k
    · rw [if_pos ((N_le (by omega) (by omega)).mpr c)]
      congr 1; funext j; rw [if_neg (by omega)]
    · rw [if_neg (fun q => c ((N_le (by omega) (by omega)).mp q)), gI_N (by omega) (by omega), lt_e, lt_e, N_nat (by omega), N_lit 1, N_add, ih _ _ (by omega) (by omega)]
      congr 1; funext j
      by_cases e : j = k
      · subst e; rw [if_neg (by omega), if_pos (by omega), upd_s]
      · rw [upd_n _ _ e]
        by_cases c2 : k ≤ j ∧ j < b
        · rw [if_pos c2, if_pos (by omega)]
        · rw [if_neg c2, if_neg (by omega)]
theorem q_fill1 {v : Int32} {n0 a b : Nat} (f : Nat → Int32) (hb : b ≤ n0) (hn : n0 < 1000000) (hab : a ≤ b) : m_Ar_fill1 n0 (N a) (N b) v f = some (fun j => if a ≤ j ∧ j < b then v else f j) := by
  unfold m_Ar_fill1 m_Ar_rangeCheck
  rw [ofNat_N, if_pos ((N_le (by omega) (by omega)).mpr hab), N_lit 0, if_pos ((N_le (by omega) (by omega)).mpr (by omega)), if_pos ((N_le (by omega) (by omega)).mpr hb), bd0_i rfl, q_fill1_L hb (by omega) fu a f (by unfold fu; omega) hab, bd1_i rfl]
theorem q_fill0_L {v : Int32} {n0 b : Nat} (hb : b ≤ n0) (hn : n0 < 2147483648) : ∀ fuel k (f : Nat → Int32), b - k < fuel → k ≤ b → m_Ar_fill0_L5 v (N b) n0 fuel (N k) f = some (fun j => if k ≤ j ∧ j < b then v else f j) := by
  intro fuel
  induction fuel with
  | zero => intro k f h; omega
  | succ m ih =>
    intro k f h hk
    rw [m_Ar_fill0_L5]
    by_cases c : b ≤ k
    · rw [if_pos ((N_le (by omega) (by omega)).mpr c)]
      congr 1; funext j; rw [if_neg (by omega)]
    · rw [if_neg (fun q => c ((N_le (by omega) (by omega)).mp q)), gI_N (by omega) (by omega), lt_e, lt_e, N_nat (by omega), N_lit 1, N_add, ih _ _ (by omega) (by omega)]
      congr 1; funext j
      by_cases e : j = k
      · subst e; rw [if_neg (by omega), if_pos (by omega), upd_s]
      · rw [upd_n _ _ e]
        by_cases c2 : k ≤ j ∧ j < b
        · rw [if_pos c2, if_pos (by omega)]
        · rw [if_neg c2, if_neg (by omega)]
theorem q_fill0 {v : Int32} {n0 : Nat} (f : Nat → Int32) (hn : n0 < 1000000) : m_Ar_fill0 n0 v f = some (fun j => if j < n0 then v else f j) := by
  unfold m_Ar_fill0
  rw [ofNat_N, lt_e, N_lit 0, q_fill0_L (Nat.le_refl _) (by omega) fu 0 f (by unfold fu; omega) (by omega), bd1_i rfl]
  congr 1; funext j
  by_cases c : j < n0
  · rw [if_pos ⟨by omega, c⟩, if_pos c]
  · rw [if_neg (fun q => c q.2), if_neg c]
theorem q_cell (c r : Nat) : m_Gr_cell (N c) (N r) = some (N (41 * c + r)) := by
  unfold m_Gr_cell; rw [N_lit 41, N_mul, N_add, Nat.mul_comm]
theorem q_dry_L {nx ny : Nat} (hx : nx ≤ 40) (hy : ny ≤ 40) : ∀ fuel k wa ce, nx + 1 - k < fuel → k ≤ nx + 1 → (∀ c r, c < k → r ≤ ny → ce (41 * c + r) = J (-2) ∧ wa (41 * c + r) = N 0) →
    ∃ wa' ce', m_Fl_dry_L2 (N nx) (N ny) fuel (N k) wa ce = some (wa', ce') ∧ ∀ c r, c ≤ nx → r ≤ ny → ce' (41 * c + r) = J (-2) ∧ wa' (41 * c + r) = N 0 := by
  intro fuel
  induction fuel with
  | zero => intro k wa ce h; omega
  | succ m ih =>
    intro k wa ce h hk hq
    rw [m_Fl_dry_L2]
    by_cases c : nx < k
    · rw [if_pos ((N_lt (by omega) (by omega)).mpr c)]
      exact ⟨wa, ce, rfl, fun c r hc hr => hq c r (by omega) hr⟩
    · rw [if_neg (fun q => c ((N_lt (by omega) (by omega)).mp q)), N_lit 0, q_cell, bd1_i rfl, q_cell, bd1_i rfl, N_lit 1, N_add, lt_e, q_fill1 _ (by omega) (by omega) (by omega), bd1_i rfl, q_fill1 _ (by omega) (by omega) (by omega), bd1_i rfl, lt_e, N_add]
      refine ih (k + 1) _ _ (by omega) (by omega) (fun c r hc hr => ?_)
      by_cases e : c = k
      · subst e; rw [if_pos (by omega), if_pos (by omega)]; exact ⟨rfl, rfl⟩
      · rw [if_neg (by omega), if_neg (by omega)]; exact hq c r (by omega) hr
theorem q_Fl_dry {nx ny : Nat} (hx : nx ≤ 40) (hy : ny ≤ 40) (wa ce : Nat → Int32) :
    ∃ wa' ce', m_Fl_dry wa (N nx) (N ny) ce = some (wa', ce') ∧ ∀ c r, c ≤ nx → r ≤ ny → ce' (41 * c + r) = J (-2) ∧ wa' (41 * c + r) = N 0 := by
  obtain ⟨wa', ce', e, h⟩ := q_dry_L hx hy fu 0 wa ce (by unfold fu; omega) (by omega) (fun c r h => by omega)
  refine ⟨wa', ce', ?_, h⟩
  unfold m_Fl_dry
  rw [N_lit 0, bd2_i e]
def q_wr (nx ny : Nat) (wa : Nat → Int32) (E M : Nat → Nat → Prop) : Prop := ∀ c r, c ≤ nx → r ≤ ny → ∃ m, m < 4 ∧ wa (41 * c + r) = N m ∧ (m % 2 = 1 ↔ E c r) ∧ (2 ≤ m ↔ M c r)
theorem q_or2 {m : Nat} (h : m < 4) : ∃ m', m' < 4 ∧ N m ||| 2 = N m' ∧ (m' % 2 = 1 ↔ m % 2 = 1) ∧ 2 ≤ m' := by
  have : m = 0 ∨ m = 1 ∨ m = 2 ∨ m = 3 := by omega
  rcases this with e | e | e | e <;> subst e
  · exact ⟨2, by omega, by decide, by omega, by omega⟩
  · exact ⟨3, by omega, by decide, by omega, by omega⟩
  · exact ⟨2, by omega, by decide, by omega, by omega⟩
  · exact ⟨3, by omega, by decide, by omega, by omega⟩
theorem q_or1 {m : Nat} (h : m < 4) : ∃ m', m' < 4 ∧ N m ||| 1 = N m' ∧ m' % 2 = 1 ∧ (2 ≤ m' ↔ 2 ≤ m) := by
  have : m = 0 ∨ m = 1 ∨ m = 2 ∨ m = 3 := by omega
  rcases this with e | e | e | e <;> subst e
  · exact ⟨1, by omega, by decide, by omega, by omega⟩
  · exact ⟨1, by omega, by decide, by omega, by omega⟩
  · exact ⟨3, by omega, by decide, by omega, by omega⟩
  · exact ⟨3, by omega, by decide, by omega, by omega⟩
theorem q_and1 {m : Nat} (h : m < 4) : (N m &&& 1 = 0) ↔ ¬ m % 2 = 1 := by
  have : m = 0 ∨ m = 1 ∨ m = 2 ∨ m = 3 := by omega
  rcases this with e | e | e | e <;> subst e <;> decide
theorem q_and2 {m : Nat} (h : m < 4) : (N m &&& 2 = 0) ↔ ¬ 2 ≤ m := by
  have : m = 0 ∨ m = 1 ∨ m = 2 ∨ m = 3 := by omega
  rcases this with e | e | e | e <;> subst e <;> decide
theorem q_raiseN_L {nx ny row hi : Nat} {E : Nat → Nat → Prop} (hx : nx ≤ 40) (hy : ny ≤ 40) (hr : row ≤ ny) (hh : hi ≤ nx) : ∀ fuel k wa (M : Nat → Nat → Prop), hi + 1 - k < fuel → k ≤ hi + 1 → q_wr nx ny wa E M →
    ∃ wa', m_Fl_raise_L66 (N row) (N hi) fuel (N k) wa = some wa' ∧ q_wr nx ny wa' E (fun c r => M c r ∨ (r = row ∧ k ≤ c ∧ c ≤ hi)) := by
  intro fuel
  induction fuel with
  | zero => intro k wa M h; omega
  | succ m ih =>
    intro k wa M h hk hq
    rw [m_Fl_raise_L66]
    by_cases c : hi < k
    · rw [if_pos ((N_lt (by omega) (by omega)).mpr c)]
      refine ⟨wa, rfl, fun c r hc hr => ?_⟩
      obtain ⟨x, a1, a2, a3, a4⟩ := hq c r hc hr
      exact ⟨x, a1, a2, a3, a4.trans ⟨Or.inl, fun q => q.elim id (fun q => by omega)⟩⟩
    · rw [if_neg (fun q => c ((N_lt (by omega) (by omega)).mp q)), q_cell, bd1_i rfl, gI_N (by omega) (by omega), gI_N (by omega) (by omega), lt_e, lt_e, N_nat (by omega), N_lit 1, N_add]
      obtain ⟨x, a1, a2, a3, a4⟩ := hq k row (by omega) hr
      obtain ⟨y, b1, b2, b3, b4⟩ := q_or2 a1
      obtain ⟨wa', e, hw⟩ := ih (k + 1) (upd wa (41 * k + row) (wa (41 * k + row) ||| 2)) (fun c r => M c r ∨ (r = row ∧ c = k)) (by omega) (by omega) (by
        intro c r hc hr'
        by_cases ec : c = k ∧ r = row
        · obtain ⟨e1, e2⟩ := ec; subst e1; subst e2
          rw [upd_s, a2]
          exact ⟨y, b1, b2, b3.trans a3, ⟨fun _ => Or.inr ⟨rfl, rfl⟩, fun _ => b4⟩⟩
        · rw [upd_n _ _ (fun q => ec (by obtain ⟨u, v⟩ := q_enc (w := 41) (by omega) (by omega) q; exact ⟨u, v⟩))]
          obtain ⟨z, c1, c2, c3, c4⟩ := hq c r hc hr'
          exact ⟨z, c1, c2, c3, c4.trans ⟨Or.inl, fun q => q.elim id (fun q => (ec ⟨q.2, q.1⟩).elim)⟩⟩)
      refine ⟨wa', e, fun c r hc hr' => ?_⟩
      obtain ⟨z, c1, c2, c3, c4⟩ := hw c r hc hr'
      refine ⟨z, c1, c2, c3, c4.trans ⟨fun q => ?_, fun q => ?_⟩⟩
      · rcases q with (q | q) | q
        · exact Or.inl q
        · exact Or.inr (by omega)
        · exact Or.inr (by omega)
      · rcases q with q | q
        · exact Or.inl (Or.inl q)
        · by_cases ek : c = k
          · exact Or.inl (Or.inr ⟨q.1, ek⟩)
          · exact Or.inr (by omega)
theorem q_raiseE_L {nx ny col hi : Nat} {M : Nat → Nat → Prop} (hx : nx ≤ 40) (hy : ny ≤ 40) (hr : col ≤ nx) (hh : hi ≤ ny) : ∀ fuel k wa (E : Nat → Nat → Prop), hi + 1 - k < fuel → k ≤ hi + 1 → q_wr nx ny wa E M →
    ∃ wa', m_Fl_raise_L101 (N hi) (N col) fuel (N k) wa = some wa' ∧ q_wr nx ny wa' (fun c r => E c r ∨ (c = col ∧ k ≤ r ∧ r ≤ hi)) M := by
  intro fuel
  induction fuel with
  | zero => intro k wa M h; omega
  | succ m ih =>
    intro k wa E h hk hq
    rw [m_Fl_raise_L101]
    by_cases c : hi < k
    · rw [if_pos ((N_lt (by omega) (by omega)).mpr c)]
      refine ⟨wa, rfl, fun c r hc hr => ?_⟩
      obtain ⟨x, a1, a2, a3, a4⟩ := hq c r hc hr
      exact ⟨x, a1, a2, a3.trans ⟨Or.inl, fun q => q.elim id (fun q => by omega)⟩, a4⟩
    · rw [if_neg (fun q => c ((N_lt (by omega) (by omega)).mp q)), q_cell, bd1_i rfl, gI_N (by omega) (by omega), gI_N (by omega) (by omega), lt_e, lt_e, N_nat (by omega)]
      obtain ⟨x, a1, a2, a3, a4⟩ := hq col k hr (by omega)
      obtain ⟨y, b1, b2, b3, b4⟩ := q_or1 a1
      obtain ⟨wa', e, hw⟩ := ih (k + 1) (upd wa (41 * col + k) (wa (41 * col + k) ||| 1)) (fun c r => E c r ∨ (c = col ∧ r = k)) (by omega) (by omega) (by
        intro c r hc hr'
        by_cases ec : c = col ∧ r = k
        · obtain ⟨e1, e2⟩ := ec; subst e1; subst e2
          rw [upd_s, a2]
          exact ⟨y, b1, b2, ⟨fun _ => Or.inr ⟨rfl, rfl⟩, fun _ => b3⟩, b4.trans a4⟩
        · rw [upd_n _ _ (fun q => ec (by obtain ⟨u, v⟩ := q_enc (w := 41) (by omega) (by omega) q; exact ⟨u, v⟩))]
          obtain ⟨z, c1, c2, c3, c4⟩ := hq c r hc hr'
          exact ⟨z, c1, c2, c3.trans ⟨Or.inl, fun q => q.elim id (fun q => (ec q).elim)⟩, c4⟩)
      refine ⟨wa', by rw [show N k + 1 = N (k + 1) from by rw [N_lit 1, N_add]]; exact e, fun c r hc hr' => ?_⟩
      obtain ⟨z, c1, c2, c3, c4⟩ := hw c r hc hr'
      refine ⟨z, c1, c2, c3.trans ⟨fun q => ?_, fun q => ?_⟩, c4⟩
      · rcases q with (q | q) | q
        · exact Or.inl q
        · exact Or.inr (by omega)
        · exact Or.inr (by omega)
      · rcases q with q | q
        · exact Or.inl (Or.inl q)
        · by_cases ek : r = k
          · exact Or.inl (Or.inr ⟨q.1, ek⟩)
          · exact Or.inr (by omega)
/-! The rows of cuts, the lines in them. -/
def q_gr (nx ny : Nat) (X Y : Nat → Nat) (fx fy : Nat → Int32) : Prop := q_rep fx nx X ∧ q_inc nx X ∧ q_bd nx X 500 ∧ q_rep fy ny Y ∧ q_inc ny Y ∧ q_bd ny Y 500
theorem q_wE_s (n : Nat) (I : Sto) (c r : Nat) : q_wE (n + 1) I c r ↔ (q_wE n I c r ∨ (c = xl I n ∧ yl I n + 1 ≤ r ∧ r ≤ yh I n)) := by
  constructor
  · intro ⟨l, hl, h1, h2, h3⟩
    by_cases e : l = n
    · subst e; exact Or.inr ⟨h1.symm, h2, h3⟩
    · exact Or.inl ⟨l, by omega, h1, h2, h3⟩
  · intro h
    rcases h with ⟨l, hl, h⟩ | h
    · exact ⟨l, by omega, h⟩
    · exact ⟨n, by omega, h.1.symm, h.2.1, h.2.2⟩
theorem q_wN_s (n : Nat) (I : Sto) (c r : Nat) : q_wN (n + 1) I c r ↔ (q_wN n I c r ∨ (r = yl I n ∧ xl I n + 1 ≤ c ∧ c ≤ xh I n)) := by
  constructor
  · intro ⟨l, hl, h1, h2, h3⟩
    by_cases e : l = n
    · subst e; exact Or.inr ⟨h1.symm, h2, h3⟩
    · exact Or.inl ⟨l, by omega, h1, h2, h3⟩
  · intro h
    rcases h with ⟨l, hl, h⟩ | h
    · exact ⟨l, by omega, h⟩
    · exact ⟨n, by omega, h.1.symm, h.2.1, h.2.2⟩
theorem q_raise {n : Nat} {T I : Sto} {nx ny : Nat} {X Y : Nat → Nat} {fx fy f1 f2 f3 f4 : Nat → Int32} (hg : q_gi n I nx ny) (hi : q_ix n T I X Y) (hc : q_cl n T f1 f2 f3 f4) (hr : q_gr nx ny X Y fx fy) {l : Nat} (hl : l < n)
    {wa : Nat → Int32} (hw : q_wr nx ny wa (q_wE l I) (q_wN l I)) :
    ∃ wa', m_Fl_raise (N l) wa f1 f2 f3 f4 (N nx) fx (N ny) fy = some wa' ∧ q_wr nx ny wa' (q_wE (l + 1) I) (q_wN (l + 1) I) := by
  obtain ⟨hn, hx, hy, hln, _⟩ := hg
  obtain ⟨rx, ix, bx, ry, iy, by_⟩ := hr
  obtain ⟨a1, a2, a3⟩ := hln l hl
  obtain ⟨e1, e2, e3, e4⟩ := hi l hl
  obtain ⟨g1, g2, g3, g4⟩ := hc l hl
  obtain ⟨wa1, k1, w1⟩ := q_raiseN_L (nx := nx) (ny := ny) (row := yl I l) (hi := xh I l) hx hy (by omega) (by omega) fu (xl I l + 1) wa (q_wN l I) (by unfold fu; omega) (by omega) hw
  obtain ⟨wa2, k2, w2⟩ := q_raiseE_L (nx := nx) (ny := ny) (col := xl I l) (hi := yh I l) hx hy (by omega) (by omega) fu (yl I l + 1) wa1 (q_wE l I) (by unfold fu; omega) (by omega) w1
  refine ⟨wa2, ?_, fun c r hc hr => ?_⟩
  · unfold m_Fl_raise
    rw [N_nat (by omega), g1, g2, g3, g4, e1, e2, e3, e4, gI_N (by omega) (by omega), q_indexOf rx ix hx bx (by omega), bd1_i rfl, gI_N (by omega) (by omega), q_indexOf ry iy hy by_ (by omega), bd1_i rfl,
      gI_N (by omega) (by omega), q_indexOf rx ix hx bx (by omega), bd1_i rfl, gI_N (by omega) (by omega), q_indexOf ry iy hy by_ (by omega), bd1_i rfl, lt_e, N_lit 1, N_add, bd1_i k1, lt_e, N_add, bd1_i k2]
  · obtain ⟨z, c1, c2, c3, c4⟩ := w2 c r hc hr
    exact ⟨z, c1, c2, c3.trans (q_wE_s l I c r).symm, c4.trans (q_wN_s l I c r).symm⟩
theorem q_walls_L {n : Nat} {T I : Sto} {nx ny : Nat} {X Y : Nat → Nat} {fx fy f1 f2 f3 f4 : Nat → Int32} (hg : q_gi n I nx ny) (hi : q_ix n T I X Y) (hc : q_cl n T f1 f2 f3 f4) (hr : q_gr nx ny X Y fx fy) :
    ∀ fuel l wa, n - l < fuel → l ≤ n → q_wr nx ny wa (q_wE l I) (q_wN l I) →
    ∃ wa', m_Fl_numberSpaces_L7 (N n) f1 f2 f3 f4 (N nx) fx (N ny) fy fuel (N l) wa = some wa' ∧ q_wr nx ny wa' (q_wE n I) (q_wN n I) := by
  intro fuel
  induction fuel with
  | zero => intro l wa h; omega
  | succ m ih =>
    intro l wa h hl hw
    have hn := hg.1
    rw [m_Fl_numberSpaces_L7]
    by_cases c : n ≤ l
    · rw [if_pos ((N_le (by omega) (by omega)).mpr c)]
      have e : l = n := by omega
      subst e
      exact ⟨wa, rfl, hw⟩
    · obtain ⟨wa1, e1, w1⟩ := q_raise hg hi hc hr (by omega) hw
      rw [if_neg (fun q => c ((N_le (by omega) (by omega)).mp q)), bd1_i e1, lt_e, N_lit 1, N_add]
      exact ih (l + 1) wa1 (by omega) (by omega) w1
theorem q_Cwet {nx ny : Nat} {A : Ce → Ce → Prop} {lab : Int} {F0 : Ce → Int} {u0 : Ce} {X : Ce → Prop} {ce wa : Nat → Int32} {F : Ce → Int} {k : Nat} {s : Nat → Ce}
    (hx : nx ≤ 40) (hy : ny ≤ 40) (h : q_st 41 nx ny A (-2) lab F0 u0 X ce wa F k s) {c r : Nat} (hc : c ≤ nx) (hr : r ≤ ny) (hq : q_con A u0 (c, r)) (hl : lab ≠ -2) (hb : -3 ≤ lab ∧ lab ≤ 1000) (hk : k + q_dry nx ny (-2) F ≤ 1681) :
    ∃ ce' wa' F' k' s', m_Fl_wet (N (41 * c + r)) (J lab) (N k) wa ce = some (N k', wa', ce') ∧ q_st 41 nx ny A (-2) lab F0 u0 X ce' wa' F' k' s' ∧ F' (c, r) ≠ -2 ∧ (∀ v, F v ≠ -2 → F' v ≠ -2) ∧ k' + q_dry nx ny (-2) F' = k + q_dry nx ny (-2) F ∧ (∀ i, i < k → s' i = s i) := by
  unfold m_Fl_wet
  have hF := h.1 (c, r)
  have hce := h.2.1 c r hc hr
  rw [gI_N (by omega) (by omega), N_nat (by omega), hce, show (-2 : Int32) = J (-2) from rfl]
  by_cases e : F (c, r) = -2
  · have hd := q_dry_set (nx := nx) (ny := ny) (D := -2) (lab := lab) hc hr hx hy e hl
    refine ⟨_, _, _, _, _, ?_, q_st_wet h hc hr (by omega) e hq hl hb, ?_, fun v hv => ?_, ?_, fun i hi => ?_⟩
    · rw [if_pos (by rw [e]), N_lit 1681, if_neg (fun q => by have := (N_le (by omega) (by omega)).mp q; omega), gI_N (by omega) (by omega), lt_e, gI_N (by omega) (by omega), lt_e, lt_e, N_nat (by omega), bd3_i rfl, N_lit 1, N_add]
    · unfold q_set; rw [if_pos rfl]; exact hl
    · unfold q_set
      by_cases e2 : v = (c, r)
      · rw [if_pos e2]; exact hl
      · rw [if_neg e2]; exact hv
    · omega
    · unfold q_psh; rw [if_neg (by omega)]
  · refine ⟨ce, wa, F, k, s, ?_, h, e, fun v hv => hv, rfl, fun i hi => rfl⟩
    rw [if_neg (fun q => e ((J_eq (by omega) (by omega) (by omega) (by omega)).mp q)), bd3_i rfl]
/-! One of the four ways out of a cell: there is a wall, or the cell beyond is made wet. -/
def q_go (nx ny : Nat) (A : Ce → Ce → Prop) (lab : Int) (F0 : Ce → Int) (u0 : Ce) (X : Ce → Prop) (F : Ce → Int) (k : Nat) (s : Nat → Ce) (G : Ce → Prop) (z : Option (Int32 × (Nat → Int32) × (Nat → Int32))) : Prop :=
  ∃ ce' wa' F' k' s', z = some (N k', wa', ce') ∧ q_st 41 nx ny A (-2) lab F0 u0 X ce' wa' F' k' s' ∧ (∀ v, G v → F' v ≠ -2) ∧ (∀ v, F v ≠ -2 → F' v ≠ -2) ∧ k' + q_dry nx ny (-2) F' = k + q_dry nx ny (-2) F ∧ (∀ i, i < k → s' i = s i)
theorem q_CgoE {n : Nat} {I : Sto} {nx ny : Nat} {lab : Int} {F0 : Ce → Int} {u0 : Ce} {wl : Nat → Int32} (hx : nx ≤ 40) (hy : ny ≤ 40) (hw : q_wr nx ny wl (q_wE n I) (q_wN n I)) (hl : lab ≠ -2) (hb : -3 ≤ lab ∧ lab ≤ 1000)
    {c r : Nat} (hc : c ≤ nx) (hr : r ≤ ny) (hcon : q_con (q_A n I nx ny) u0 (c, r)) {X : Ce → Prop} {ce wa : Nat → Int32} {F : Ce → Int} {k : Nat} {s : Nat → Ce} (hp : q_st 41 nx ny (q_A n I nx ny) (-2) lab F0 u0 X ce wa F k s) (hk : k + q_dry nx ny (-2) F ≤ 1681) :
    q_go nx ny (q_A n I nx ny) lab F0 u0 X F k s (fun v => v = (c + 1, r) ∧ q_A n I nx ny (c, r) v)
      (if N nx ≤ N c then some (N k, wa, ce) else gI (N (41 * c + r)) 1681 (if wl (N (41 * c + r)).toNatClampNeg &&& 1 = 0 then bd3 (m_Fl_wet (N (41 * c + r) + 41) (J lab) (N k) wa ce) fun x f g => some (x, f, g) else some (N k, wa, ce))) := by
  by_cases c1 : nx ≤ c
  · rw [if_pos ((N_le (by omega) (by omega)).mpr c1)]
    exact ⟨ce, wa, F, k, s, rfl, hp, fun v hv => by have := hv.2.2.2.1; rw [hv.1] at this; dsimp only at this; omega, fun v hv => hv, rfl, fun i _ => rfl⟩
  · have ew : (N (41 * c + r)) = N (41 * c + r) := rfl
    have et : (N (41 * c + r) + 41) = N (41 * (c + 1) + (r)) := by rw [N_lit 41, N_add]; congr 1; omega
    obtain ⟨b, b1, b2, b3, b4⟩ := hw (c) (r) (by omega) (by omega)
    rw [if_neg (fun q => c1 ((N_le (by omega) (by omega)).mp q)), et, ew, gI_N (by omega) (by omega), N_nat (by omega), b2]
    by_cases c2 : b % 2 = 1
    · rw [if_neg (fun q => (q_and1 b1).mp q c2)]
      refine ⟨ce, wa, F, k, s, rfl, hp, fun v hv => ?_, fun v hv => hv, rfl, fun i _ => rfl⟩
      exfalso
      obtain ⟨e, a⟩ := hv
      subst e
      obtain ⟨_, _, _, _, a⟩ := a
      dsimp only at a
      rcases a with a | a | a | a
      · exact a.2 (b3.mp c2)
      · have := congrArg Prod.fst a.1; have := congrArg Prod.snd a.1; dsimp only at *; omega
      · have := congrArg Prod.fst a.1; have := congrArg Prod.snd a.1; dsimp only at *; omega
      · have := congrArg Prod.fst a.1; have := congrArg Prod.snd a.1; dsimp only at *; omega
    · have hadj : q_A n I nx ny (c, r) (c + 1, r) := ⟨hc, hr, by dsimp only; omega, by dsimp only; omega, Or.inl ⟨rfl, fun q => c2 (b3.mpr q)⟩⟩
      obtain ⟨ce', wa', F', k', s', e1, e2, e3, e4, e5, e6⟩ := q_Cwet hx hy hp (c := c + 1) (r := r) (by omega) (by omega) (hcon.step hadj) hl hb hk
      refine ⟨ce', wa', F', k', s', ?_, e2, fun v hv => by rw [hv.1]; exact e3, e4, e5, e6⟩
      rw [if_pos ((q_and1 b1).mpr c2), bd3_i e1]
theorem q_CgoW {n : Nat} {I : Sto} {nx ny : Nat} {lab : Int} {F0 : Ce → Int} {u0 : Ce} {wl : Nat → Int32} (hx : nx ≤ 40) (hy : ny ≤ 40) (hw : q_wr nx ny wl (q_wE n I) (q_wN n I)) (hl : lab ≠ -2) (hb : -3 ≤ lab ∧ lab ≤ 1000)
    {c r : Nat} (hc : c ≤ nx) (hr : r ≤ ny) (hcon : q_con (q_A n I nx ny) u0 (c, r)) {X : Ce → Prop} {ce wa : Nat → Int32} {F : Ce → Int} {k : Nat} {s : Nat → Ce} (hp : q_st 41 nx ny (q_A n I nx ny) (-2) lab F0 u0 X ce wa F k s) (hk : k + q_dry nx ny (-2) F ≤ 1681) :
    q_go nx ny (q_A n I nx ny) lab F0 u0 X F k s (fun v => v = (c - 1, r) ∧ q_A n I nx ny (c, r) v)
      (if N c ≤ 0 then some (N k, wa, ce) else gI (N (41 * c + r) - 41) 1681 (if wl (N (41 * c + r) - 41).toNatClampNeg &&& 1 = 0 then bd3 (m_Fl_wet (N (41 * c + r) - 41) (J lab) (N k) wa ce) fun x f g => some (x, f, g) else some (N k, wa, ce))) := by
  by_cases c1 : c = 0
  · rw [if_pos ((fun q => by rw [q]; decide) c1)]
    exact ⟨ce, wa, F, k, s, rfl, hp, fun v hv => by obtain ⟨e, _, _, _, _, a⟩ := hv; subst e; dsimp only at a; rcases a with a | a | a | a <;> (have := congrArg Prod.fst a.1; have := congrArg Prod.snd a.1; dsimp only at *; omega), fun v hv => hv, rfl, fun i _ => rfl⟩
  · have ew : (N (41 * c + r) - 41) = N (41 * (c - 1) + r) := by rw [N_lit 41, N_sub (by omega)]; congr 1; omega
    have et : (N (41 * c + r) - 41) = N (41 * (c - 1) + (r)) := ew
    obtain ⟨b, b1, b2, b3, b4⟩ := hw ((c - 1)) (r) (by omega) (by omega)
    rw [if_neg (fun q => c1 (by rw [N_lit 0] at q; have := (N_le (by omega) (by omega)).mp q; omega)), et, gI_N (by omega) (by omega), N_nat (by omega), b2]
    by_cases c2 : b % 2 = 1
    · rw [if_neg (fun q => (q_and1 b1).mp q c2)]
      refine ⟨ce, wa, F, k, s, rfl, hp, fun v hv => ?_, fun v hv => hv, rfl, fun i _ => rfl⟩
      exfalso
      obtain ⟨e, a⟩ := hv
      subst e
      obtain ⟨_, _, _, _, a⟩ := a
      dsimp only at a
      rcases a with a | a | a | a
      · have := congrArg Prod.fst a.1; have := congrArg Prod.snd a.1; dsimp only at *; omega
      · exact a.2 (b3.mp c2)
      · have := congrArg Prod.fst a.1; have := congrArg Prod.snd a.1; dsimp only at *; omega
      · have := congrArg Prod.fst a.1; have := congrArg Prod.snd a.1; dsimp only at *; omega
    · have hadj : q_A n I nx ny (c, r) (c - 1, r) := ⟨hc, hr, by dsimp only; omega, by dsimp only; omega, Or.inr (Or.inl ⟨by dsimp only; congr 1; omega, fun q => c2 (b3.mpr q)⟩)⟩
      obtain ⟨ce', wa', F', k', s', e1, e2, e3, e4, e5, e6⟩ := q_Cwet hx hy hp (c := c - 1) (r := r) (by omega) (by omega) (hcon.step hadj) hl hb hk
      refine ⟨ce', wa', F', k', s', ?_, e2, fun v hv => by rw [hv.1]; exact e3, e4, e5, e6⟩
      rw [if_pos ((q_and1 b1).mpr c2), bd3_i e1]
theorem q_CgoN {n : Nat} {I : Sto} {nx ny : Nat} {lab : Int} {F0 : Ce → Int} {u0 : Ce} {wl : Nat → Int32} (hx : nx ≤ 40) (hy : ny ≤ 40) (hw : q_wr nx ny wl (q_wE n I) (q_wN n I)) (hl : lab ≠ -2) (hb : -3 ≤ lab ∧ lab ≤ 1000)
    {c r : Nat} (hc : c ≤ nx) (hr : r ≤ ny) (hcon : q_con (q_A n I nx ny) u0 (c, r)) {X : Ce → Prop} {ce wa : Nat → Int32} {F : Ce → Int} {k : Nat} {s : Nat → Ce} (hp : q_st 41 nx ny (q_A n I nx ny) (-2) lab F0 u0 X ce wa F k s) (hk : k + q_dry nx ny (-2) F ≤ 1681) :
    q_go nx ny (q_A n I nx ny) lab F0 u0 X F k s (fun v => v = (c, r + 1) ∧ q_A n I nx ny (c, r) v)
      (if N ny ≤ N r then some (N k, wa, ce) else gI (N (41 * c + r)) 1681 (if wl (N (41 * c + r)).toNatClampNeg &&& 2 = 0 then bd3 (m_Fl_wet (N (41 * c + r) + 1) (J lab) (N k) wa ce) fun x f g => some (x, f, g) else some (N k, wa, ce))) := by
  by_cases c1 : ny ≤ r
  · rw [if_pos ((N_le (by omega) (by omega)).mpr c1)]
    exact ⟨ce, wa, F, k, s, rfl, hp, fun v hv => by have := hv.2.2.2.2.1; rw [hv.1] at this; dsimp only at this; omega, fun v hv => hv, rfl, fun i _ => rfl⟩
  · have ew : (N (41 * c + r)) = N (41 * c + r) := rfl
    have et : (N (41 * c + r) + 1) = N (41 * (c) + (r + 1)) := by rw [N_lit 1, N_add]; congr 1
    obtain ⟨b, b1, b2, b3, b4⟩ := hw (c) (r) (by omega) (by omega)
    rw [if_neg (fun q => c1 ((N_le (by omega) (by omega)).mp q)), et, ew, gI_N (by omega) (by omega), N_nat (by omega), b2]
    by_cases c2 : 2 ≤ b
    · rw [if_neg (fun q => (q_and2 b1).mp q c2)]
      refine ⟨ce, wa, F, k, s, rfl, hp, fun v hv => ?_, fun v hv => hv, rfl, fun i _ => rfl⟩
      exfalso
      obtain ⟨e, a⟩ := hv
      subst e
      obtain ⟨_, _, _, _, a⟩ := a
      dsimp only at a
      rcases a with a | a | a | a
      · have := congrArg Prod.fst a.1; have := congrArg Prod.snd a.1; dsimp only at *; omega
      · have := congrArg Prod.fst a.1; have := congrArg Prod.snd a.1; dsimp only at *; omega
      · exact a.2 (b4.mp c2)
      · have := congrArg Prod.fst a.1; have := congrArg Prod.snd a.1; dsimp only at *; omega
    · have hadj : q_A n I nx ny (c, r) (c, r + 1) := ⟨hc, hr, by dsimp only; omega, by dsimp only; omega, Or.inr (Or.inr (Or.inl ⟨rfl, fun q => c2 (b4.mpr q)⟩))⟩
      obtain ⟨ce', wa', F', k', s', e1, e2, e3, e4, e5, e6⟩ := q_Cwet hx hy hp (c := c) (r := r + 1) (by omega) (by omega) (hcon.step hadj) hl hb hk
      refine ⟨ce', wa', F', k', s', ?_, e2, fun v hv => by rw [hv.1]; exact e3, e4, e5, e6⟩
      rw [if_pos ((q_and2 b1).mpr c2), bd3_i e1]
theorem q_CgoS {n : Nat} {I : Sto} {nx ny : Nat} {lab : Int} {F0 : Ce → Int} {u0 : Ce} {wl : Nat → Int32} (hx : nx ≤ 40) (hy : ny ≤ 40) (hw : q_wr nx ny wl (q_wE n I) (q_wN n I)) (hl : lab ≠ -2) (hb : -3 ≤ lab ∧ lab ≤ 1000)
    {c r : Nat} (hc : c ≤ nx) (hr : r ≤ ny) (hcon : q_con (q_A n I nx ny) u0 (c, r)) {X : Ce → Prop} {ce wa : Nat → Int32} {F : Ce → Int} {k : Nat} {s : Nat → Ce} (hp : q_st 41 nx ny (q_A n I nx ny) (-2) lab F0 u0 X ce wa F k s) (hk : k + q_dry nx ny (-2) F ≤ 1681) :
    q_go nx ny (q_A n I nx ny) lab F0 u0 X F k s (fun v => v = (c, r - 1) ∧ q_A n I nx ny (c, r) v)
      (if N r ≤ 0 then some (N k, wa, ce) else gI (N (41 * c + r) - 1) 1681 (if wl (N (41 * c + r) - 1).toNatClampNeg &&& 2 = 0 then bd3 (m_Fl_wet (N (41 * c + r) - 1) (J lab) (N k) wa ce) fun x f g => some (x, f, g) else some (N k, wa, ce))) := by
  by_cases c1 : r = 0
  · rw [if_pos ((fun q => by rw [q]; decide) c1)]
    exact ⟨ce, wa, F, k, s, rfl, hp, fun v hv => by obtain ⟨e, _, _, _, _, a⟩ := hv; subst e; dsimp only at a; rcases a with a | a | a | a <;> (have := congrArg Prod.fst a.1; have := congrArg Prod.snd a.1; dsimp only at *; omega), fun v hv => hv, rfl, fun i _ => rfl⟩
  · have ew : (N (41 * c + r) - 1) = N (41 * c + (r - 1)) := by rw [N_lit 1, N_sub (by omega)]; congr 1; omega
    have et : (N (41 * c + r) - 1) = N (41 * (c) + (r - 1)) := ew
    obtain ⟨b, b1, b2, b3, b4⟩ := hw (c) ((r - 1)) (by omega) (by omega)
    rw [if_neg (fun q => c1 (by rw [N_lit 0] at q; have := (N_le (by omega) (by omega)).mp q; omega)), et, gI_N (by omega) (by omega), N_nat (by omega), b2]
    by_cases c2 : 2 ≤ b
    · rw [if_neg (fun q => (q_and2 b1).mp q c2)]
      refine ⟨ce, wa, F, k, s, rfl, hp, fun v hv => ?_, fun v hv => hv, rfl, fun i _ => rfl⟩
      exfalso
      obtain ⟨e, a⟩ := hv
      subst e
      obtain ⟨_, _, _, _, a⟩ := a
      dsimp only at a
      rcases a with a | a | a | a
      · have := congrArg Prod.fst a.1; have := congrArg Prod.snd a.1; dsimp only at *; omega
      · have := congrArg Prod.fst a.1; have := congrArg Prod.snd a.1; dsimp only at *; omega
      · have := congrArg Prod.fst a.1; have := congrArg Prod.snd a.1; dsimp only at *; omega
      · exact a.2 (b4.mp c2)
    · have hadj : q_A n I nx ny (c, r) (c, r - 1) := ⟨hc, hr, by dsimp only; omega, by dsimp only; omega, Or.inr (Or.inr (Or.inr ⟨by dsimp only; congr 1; omega, fun q => c2 (b4.mpr q)⟩))⟩
      obtain ⟨ce', wa', F', k', s', e1, e2, e3, e4, e5, e6⟩ := q_Cwet hx hy hp (c := c) (r := r - 1) (by omega) (by omega) (hcon.step hadj) hl hb hk
      refine ⟨ce', wa', F', k', s', ?_, e2, fun v hv => by rw [hv.1]; exact e3, e4, e5, e6⟩
      rw [if_pos ((q_and2 b1).mpr c2), bd3_i e1]
theorem q_go.fold {nx ny : Nat} {A : Ce → Ce → Prop} {lab : Int} {F0 : Ce → Int} {u0 : Ce} {X : Ce → Prop} {F : Ce → Int} {k : Nat} {s : Nat → Ce} {G : Ce → Prop} {z : Option (Int32 × (Nat → Int32) × (Nat → Int32))} (h : q_go nx ny A lab F0 u0 X F k s G z) :
    ∃ ce' wa' F' k' s', z = some (N k', wa', ce') ∧ q_st 41 nx ny A (-2) lab F0 u0 X ce' wa' F' k' s' ∧ (∀ v, G v → F' v ≠ -2) ∧ (∀ v, F v ≠ -2 → F' v ≠ -2) ∧ k' + q_dry nx ny (-2) F' = k + q_dry nx ny (-2) F ∧ (∀ i, i < k → s' i = s i) := h
theorem q_Cspread_L {n : Nat} {I : Sto} {nx ny : Nat} {lab : Int} {F0 : Ce → Int} {u0 : Ce} {wl : Nat → Int32} (hx : nx ≤ 40) (hy : ny ≤ 40) (hw : q_wr nx ny wl (q_wE n I) (q_wN n I)) (hl : lab ≠ -2) (hb : -3 ≤ lab ∧ lab ≤ 1000) :
    ∀ fuel t k wa ce F s, 1681 - t < fuel → t + k + q_dry nx ny (-2) F ≤ 1681 → q_st 41 nx ny (q_A n I nx ny) (-2) lab F0 u0 (fun _ => False) ce wa F k s →
    ∃ ce' wa' F' s', m_Fl_spread_L15 (J lab) wl (N nx) (N ny) fuel (N t) (N k) wa ce = some (N 0, wa', ce') ∧ q_st 41 nx ny (q_A n I nx ny) (-2) lab F0 u0 (fun _ => False) ce' wa' F' 0 s' ∧ (∀ v, F v ≠ -2 → F' v ≠ -2) := by
  intro fuel
  induction fuel with
  | zero => intro t k wa ce F s h; omega
  | succ m ih =>
    intro t k wa ce F s ht hm hst
    rw [m_Fl_spread_L15]
    cases k with
    | zero =>
      refine ⟨ce, wa, F, s, ?_, hst, fun v hv => hv⟩
      by_cases c : 1681 ≤ t
      · rw [if_pos (by rw [N_lit 1681]; exact (N_le (by omega) (by omega)).mpr c)]
      · rw [if_neg (by rw [N_lit 1681]; exact fun q => c ((N_le (by omega) (by omega)).mp q)), if_pos (by decide)]
    | succ k =>
      rcases q_st_pop hst with ⟨hp, hcon⟩ | hbad
      case inr => exact (hl hbad).elim
      obtain ⟨ew, hc, hr⟩ := hst.2.2.1 k (by omega)
      generalize hu : s k = u at hp hcon ew hc hr
      obtain ⟨c, r⟩ := u
      dsimp only at ew hc hr
      have e0 : N (k + 1) - 1 = N k := by rw [N_lit 1, N_sub (by omega)]; rfl
      have e10 : N (41 * c + r) / 41 = N c := by rw [N_lit 41, N_div (by omega) (by omega)]; congr 1; omega
      have e11 : N (41 * c + r) - N c * 41 = N r := by rw [N_lit 41, N_mul, N_sub (by omega)]; congr 1; omega
      rw [if_neg (by rw [N_lit 1681]; exact fun q => by have := (N_le (by omega) (by omega)).mp q; omega), if_neg (by rw [N_lit 0]; exact fun q => by have := (N_le (by omega) (by omega)).mp q; omega), lt_e, e0, gI_N (by omega) (by omega), N_nat (by omega), lt_e, ew, lt_e, lt_e, e10, e11]
      obtain ⟨ce1, wa1, F1, k1, s1, z1, p1, g1, m1, d1, _⟩ := q_CgoE hx hy hw hl hb hc hr hcon hp (by omega)
      obtain ⟨ce2, wa2, F2, k2, s2, z2, p2, g2, m2, d2, _⟩ := q_CgoW hx hy hw hl hb hc hr hcon p1 (by omega)
      obtain ⟨ce3, wa3, F3, k3, s3, z3, p3, g3, m3, d3, _⟩ := q_CgoN hx hy hw hl hb hc hr hcon p2 (by omega)
      obtain ⟨ce4, wa4, F4, k4, s4, z4, p4, g4, m4, d4, _⟩ := q_CgoS hx hy hw hl hb hc hr hcon p3 (by omega)
      rw [bd3_i z1, bd3_i z2, bd3_i z3, bd3_i z4, lt_e, N_lit 1, N_add]
      obtain ⟨ce', wa', F', s', e, q, mm⟩ := ih (t + 1) k4 wa4 ce4 F4 s4 (by omega) (by omega) (q_st_close p4 (fun v hv => by
        have hv' := hv
        obtain ⟨_, _, _, _, a⟩ := hv
        rcases a with a | a | a | a
        · exact m4 _ (m3 _ (m2 _ (g1 v ⟨a.1, hv'⟩)))
        · refine m4 _ (m3 _ (g2 v ⟨?_, hv'⟩))
          have e1 := congrArg Prod.fst a.1; have e2 := congrArg Prod.snd a.1; dsimp only at e1 e2
          rw [e1, e2]; rfl
        · exact m4 _ (g3 v ⟨a.1, hv'⟩)
        · refine g4 v ⟨?_, hv'⟩
          have e1 := congrArg Prod.fst a.1; have e2 := congrArg Prod.snd a.1; dsimp only at e1 e2
          rw [e1, e2]; rfl))
      exact ⟨ce', wa', F', s', e, q, fun v hv => mm v (m4 _ (m3 _ (m2 _ (m1 _ hv))))⟩
/-! spread: the cells that hang together with the first one get its label, no others change. -/
theorem q_Cspread {n : Nat} {I : Sto} {nx ny : Nat} {lab : Int} {F0 : Ce → Int} {wl wa ce : Nat → Int32} {c r : Nat} (hx : nx ≤ 40) (hy : ny ≤ 40) (hw : q_wr nx ny wl (q_wE n I) (q_wN n I)) (hl : lab ≠ -2) (hb : -3 ≤ lab ∧ lab ≤ 1000)
    (hc : c ≤ nx) (hr : r ≤ ny) (hF : ∀ v, -3 ≤ F0 v ∧ F0 v ≤ 1000) (hce : ∀ c r, c ≤ nx → r ≤ ny → ce (41 * c + r) = J (F0 (c, r))) (hd : F0 (c, r) = -2) (hcl : ∀ a b, F0 a ≠ -2 → q_A n I nx ny a b → F0 b ≠ -2) (v0 : Int32) :
    ∃ ce' wa', ∃ F' : Ce → Int, m_Fl_spread (N (41 * c + r)) (J lab) v0 wl wa (N nx) (N ny) ce = some (N 0, wa', ce') ∧ (∀ v, -3 ≤ F' v ∧ F' v ≤ 1000) ∧ (∀ c r, c ≤ nx → r ≤ ny → ce' (41 * c + r) = J (F' (c, r))) ∧
      ∀ v, (q_con (q_A n I nx ny) (c, r) v → F' v = lab ∧ F0 v = -2) ∧ (¬ q_con (q_A n I nx ny) (c, r) v → F' v = F0 v) := by
  have h0 : q_st 41 nx ny (q_A n I nx ny) (-2) lab F0 (c, r) (fun _ => False) ce wa F0 0 (fun _ => (0, 0)) :=
    ⟨hF, hce, fun i h => by omega, ⟨fun v => Or.inl rfl, fun i h => by omega⟩, fun u hu hu0 => (hl (hu.symm.trans hu0)).elim⟩
  have hk : 0 + q_dry nx ny (-2) F0 ≤ 1681 := by have := q_cnt_le (fun i => i / 41 ≤ nx ∧ i % 41 ≤ ny ∧ F0 (i / 41, i % 41) = -2) 1681; unfold q_dry; omega
  obtain ⟨ce1, wa1, F1, k1, s1, z1, p1, g1, m1, d1, _⟩ := q_Cwet hx hy h0 hc hr (q_con.refl _) hl hb hk
  obtain ⟨ce2, wa2, F2, s2, z2, p2, m2⟩ := q_Cspread_L hx hy hw hl hb fu 0 k1 wa1 ce1 F1 s1 (by unfold fu; omega) (by omega) p1
  refine ⟨ce2, wa2, F2, ?_, p2.1, p2.2.1, ?_⟩
  · unfold m_Fl_spread
    rw [N_lit 0, bd3_i z1, bd3_i z2]
  · refine q_fl_end q_A_symm hcl p2.2.2.2.1 p2.2.2.2.2 ?_ hd
    rcases p2.2.2.2.1.1 (c, r) with e | e
    · exact ((m2 _ g1) (e.trans hd)).elim
    · exact e.2.1
/-! Labels. -/
def q_in (nx ny : Nat) (v : Ce) : Prop := v.1 ≤ nx ∧ v.2 ≤ ny
def q_en (v : Ce) : Nat := 41 * v.1 + v.2
def q_de (i : Nat) : Ce := (i / 41, i % 41)
theorem q_de_en {v : Ce} {ny : Nat} (h : v.2 ≤ ny) (hy : ny ≤ 40) : q_de (q_en v) = v := by
  obtain ⟨c, r⟩ := v
  unfold q_de q_en
  dsimp only at *
  rw [show (41 * c + r) / 41 = c by omega, show (41 * c + r) % 41 = r by omega]
theorem q_en_inj {u v : Ce} (hu : u.2 ≤ 40) (hv : v.2 ≤ 40) (e : q_en u = q_en v) : u = v := by
  have := q_de_en hu (Nat.le_refl _); have h := q_de_en hv (Nat.le_refl _); rw [← this, e, h]
abbrev q_C (n : Nat) (I : Sto) (nx ny : Nat) (u v : Ce) : Prop := q_con (q_A n I nx ny) u v
def q_fst (n : Nat) (I : Sto) (nx ny : Nat) (p : Ce) : Prop := q_in nx ny p ∧ ¬ q_C n I nx ny (0, 0) p ∧ ∀ u, q_in nx ny u → q_en u < q_en p → ¬ q_C n I nx ny u p
noncomputable def q_fc (n : Nat) (I : Sto) (nx ny : Nat) (t : Nat) : Nat := q_cnt (fun i => q_fst n I nx ny (q_de i)) t
def q_isl (n : Nat) (I : Sto) (nx ny : Nat) (v : Ce) (z : Int) : Prop := (q_C n I nx ny (0, 0) v ∧ z = -1) ∨ (¬ q_C n I nx ny (0, 0) v ∧ ∃ p, q_fst n I nx ny p ∧ q_C n I nx ny p v ∧ z = q_fc n I nx ny (q_en p))
theorem q_fst_eq {n : Nat} {I : Sto} {nx ny : Nat} (hy : ny ≤ 40) {p p' v : Ce} (h : q_fst n I nx ny p) (h' : q_fst n I nx ny p') (hc : q_C n I nx ny p v) (hc' : q_C n I nx ny p' v) : p = p' := by
  have a : q_C n I nx ny p p' := hc.trans (hc'.symm q_A_symm)
  refine q_en_inj (Nat.le_trans h.1.2 hy) (Nat.le_trans h'.1.2 hy) ?_
  by_cases c : q_en p < q_en p'
  · exact (h'.2.2 p h.1 c a).elim
  · by_cases c' : q_en p' < q_en p
    · exact (h.2.2 p' h'.1 c' (a.symm q_A_symm)).elim
    · omega
theorem q_isl_eq {n : Nat} {I : Sto} {nx ny : Nat} (hy : ny ≤ 40) {v : Ce} {z z' : Int} (h : q_isl n I nx ny v z) (h' : q_isl n I nx ny v z') : z = z' := by
  rcases h with ⟨a, e⟩ | ⟨a, p, h1, h2, e⟩
  · rcases h' with ⟨a', e'⟩ | ⟨a', _⟩
    · rw [e, e']
    · exact (a' a).elim
  · rcases h' with ⟨a', e'⟩ | ⟨a', p', h1', h2', e'⟩
    · exact (a a').elim
    · rw [e, e', q_fst_eq hy h1 h1' h2 h2']
/-! The state of the search at place t. -/
def q_se (n : Nat) (I : Sto) (nx ny : Nat) (D : Int) (F : Ce → Int) (ns t : Nat) : Prop :=
  (∀ v, -3 ≤ F v ∧ F v ≤ 1000) ∧ (∀ a b, F a ≠ D → q_A n I nx ny a b → F b ≠ D) ∧ (∀ v, q_in nx ny v → F v ≠ D → (q_C n I nx ny (0, 0) v ∧ F v = -1) ∨ (¬ q_C n I nx ny (0, 0) v ∧ ∃ p, q_en p < t ∧ q_fst n I nx ny p ∧ q_C n I nx ny p v ∧ F v = q_fc n I nx ny (q_en p))) ∧
  (∀ v, q_in nx ny v → q_en v < t → F v ≠ D) ∧ ns = q_fc n I nx ny t ∧ ∀ v, q_C n I nx ny (0, 0) v → F v ≠ D
theorem q_se_on {n : Nat} {I : Sto} {nx ny : Nat} {D : Int} {F : Ce → Int} {ns t : Nat} (hy : ny ≤ 40) (h : q_se n I nx ny D F ns t) (hF : ∀ v, q_in nx ny v → q_en v = t → F v ≠ D) : q_se n I nx ny D F ns (t + 1) := by
  obtain ⟨h1, h2, h3, h4, h5, h6⟩ := h
  refine ⟨h1, h2, fun v hv hd => ?_, fun v hv ht => ?_, ?_, h6⟩
  · rcases h3 v hv hd with a | ⟨a, p, hp, b⟩
    · exact Or.inl a
    · exact Or.inr ⟨a, p, by omega, b⟩
  · by_cases e : q_en v = t
    · exact hF v hv e
    · exact h4 v hv (by omega)
  · rw [h5]
    show q_fc n I nx ny t = q_cnt _ t + q_one _
    rw [q_one_f]
    · rfl
    · intro q
      have hv := q.1
      by_cases e : q_en (q_de t) = t
      · rcases h3 _ hv (hF _ hv e) with a | ⟨a, p, hp, b1, b2, _⟩
        · exact q.2.1 a.1
        · exact q.2.2 p b1.1 (by omega) b2
      · apply e; unfold q_en q_de; dsimp only; omega
theorem q_se_to {n : Nat} {I : Sto} {nx ny : Nat} {D : Int} {F : Ce → Int} {ns : Nat} (hy : ny ≤ 40) : ∀ (d t : Nat), q_se n I nx ny D F ns t → (∀ v, q_in nx ny v → t ≤ q_en v → q_en v < t + d → F v ≠ D) → q_se n I nx ny D F ns (t + d) := by
  intro d
  induction d with
  | zero => intro t h _; exact h
  | succ d ih =>
    intro t h hF
    rw [← Nat.add_assoc]
    exact q_se_on hy (ih t h (fun v a b c => hF v a b (by omega))) (fun v hv e => hF v hv (by omega) (by omega))
theorem q_se_new {n : Nat} {I : Sto} {nx ny : Nat} {D : Int} {F F' : Ce → Int} {ns c r : Nat} (hy : ny ≤ 40) (h : q_se n I nx ny D F ns (41 * c + r)) (hc : c ≤ nx) (hr : r ≤ ny) (hD : F (c, r) = D) (hl : (ns : Int) ≠ D)
    (hb : ∀ v, -3 ≤ F' v ∧ F' v ≤ 1000) (hF : ∀ v, (q_C n I nx ny (c, r) v → F' v = ns ∧ F v = D) ∧ (¬ q_C n I nx ny (c, r) v → F' v = F v)) :
    q_fst n I nx ny (c, r) ∧ q_se n I nx ny D F' (ns + 1) (41 * c + r + 1) := by
  obtain ⟨h1, h2, h3, h4, h5, h6⟩ := h
  have hcl : ∀ u v, q_C n I nx ny u v → F u ≠ D → F v ≠ D := fun u v hc hu => hc (fun v => F v ≠ D) hu (fun a b ha hab => h2 a b ha hab)
  have hf : q_fst n I nx ny (c, r) := ⟨⟨hc, hr⟩, fun q => h6 _ q hD, fun u hu ht q => hcl u _ q (h4 u hu ht) hD⟩
  have e1 : q_de (41 * c + r) = (c, r) := q_de_en (v := (c, r)) hr hy
  have hnd : ∀ v, F v ≠ D → F' v ≠ D := by
    intro v hv
    by_cases q : q_C n I nx ny (c, r) v
    · rw [((hF v).1 q).1]; exact hl
    · rw [(hF v).2 q]; exact hv
  refine ⟨hf, hb, fun a b ha hab => ?_, fun v hv hd => ?_, fun v hv ht => ?_, ?_, fun v hv => hnd v (h6 v hv)⟩
  · by_cases q : q_C n I nx ny (c, r) a
    · rw [((hF b).1 (q.step hab)).1]; exact hl
    · rw [(hF a).2 q] at ha; exact hnd b (h2 a b ha hab)
  · by_cases q : q_C n I nx ny (c, r) v
    · rw [((hF v).1 q).1]
      refine Or.inr ⟨fun q0 => hf.2.1 (q0.trans (q.symm q_A_symm)), (c, r), by unfold q_en; dsimp only; omega, hf, q, ?_⟩
      rw [h5]; rfl
    · rw [(hF v).2 q] at hd ⊢
      rcases h3 v hv hd with a | ⟨a, p, hp, b⟩
      · exact Or.inl a
      · exact Or.inr ⟨a, p, by omega, b⟩
  · by_cases e : q_en v = 41 * c + r
    · have : v = (c, r) := by rw [← e1, ← e, q_de_en hv.2 hy]
      rw [this, ((hF (c, r)).1 (q_con.refl _)).1]; exact hl
    · exact hnd v (h4 v hv (by omega))
  · show _ = q_cnt _ _ + q_one _
    rw [q_one_t (by show q_fst n I nx ny (q_de (41 * c + r)); rw [e1]; exact hf), h5]; rfl
/-! The rim hangs together with cell 0. -/
theorem q_rim {n : Nat} {I : Sto} {nx ny : Nat} (hg : q_gi n I nx ny) {v : Ce} (hv : q_in nx ny v) (h : v.1 = 0 ∨ v.2 = 0 ∨ v.1 = nx ∨ v.2 = ny) : q_C n I nx ny (0, 0) v := by
  obtain ⟨hn, hx, hy, hln, _⟩ := hg
  have nE : ∀ c r, r = 0 ∨ r = ny → ¬ q_wE n I c r := by
    intro c r hr ⟨l, hl, a, b, d⟩
    have := hln l hl
    omega
  have nN : ∀ c r, c = 0 ∨ c = nx → ¬ q_wN n I c r := by
    intro c r hr ⟨l, hl, a, b, d⟩
    have := hln l hl
    omega
  have row : ∀ r, r = 0 ∨ r = ny → r ≤ ny → ∀ c, c ≤ nx → q_C n I nx ny (0, r) (c, r) := by
    intro r hr hr' c
    induction c with
    | zero => intro _; exact q_con.refl _
    | succ c ih => intro hc; exact (ih (by omega)).step ⟨by dsimp only; omega, hr', hc, hr', Or.inl ⟨rfl, nE c r hr⟩⟩
  have col : ∀ c, c = 0 ∨ c = nx → c ≤ nx → ∀ r, r ≤ ny → q_C n I nx ny (c, 0) (c, r) := by
    intro c hc hc' r
    induction r with
    | zero => intro _; exact q_con.refl _
    | succ r ih => intro hr; exact (ih (by omega)).step ⟨hc', by dsimp only; omega, hc', hr, Or.inr (Or.inr (Or.inl ⟨rfl, nN c r hc⟩))⟩
  obtain ⟨c, r⟩ := v
  obtain ⟨h1, h2⟩ := hv
  dsimp only at h h1 h2
  rcases h with h | h | h | h
  · subst h; exact col 0 (Or.inl rfl) (by omega) r h2
  · subst h; exact row 0 (Or.inl rfl) (by omega) c h1
  · exact (row 0 (Or.inl rfl) (by omega) c h1).trans (col c (Or.inr h) h1 r h2)
  · exact (col 0 (Or.inl rfl) (by omega) r h2).trans (row r (Or.inr h) h2 c h1)
theorem q_cnt_or1 {p p' : Nat → Prop} {k : Nat} : ∀ {m}, (∀ i, i < m → p' i → p i ∨ i = k) → q_cnt p' m ≤ q_cnt p m + q_one (k < m) := by
  intro m
  induction m with
  | zero => intro _; exact Nat.zero_le _
  | succ m ih =>
    intro h
    have ih' := ih (fun i hi => h i (by omega))
    show q_cnt p' m + q_one (p' m) ≤ q_cnt p m + q_one (p m) + q_one (k < m + 1)
    by_cases c : k < m
    · rw [q_one_t c] at ih'
      rw [q_one_t (show k < m + 1 by omega)]
      have : q_one (p' m) ≤ q_one (p m) := by
        by_cases a : p' m
        · rcases h m (by omega) a with b | b
          · rw [q_one_t a, q_one_t b]; omega
          · omega
        · rw [q_one_f a]; omega
      omega
    · rw [q_one_f c] at ih'
      by_cases e : m = k
      · rw [q_one_t (show k < m + 1 by omega)]; have := q_one_le (p' m); omega
      · have : q_one (p' m) ≤ q_one (p m) := by
          by_cases a : p' m
          · rcases h m (by omega) a with b | b
            · rw [q_one_t a, q_one_t b]; omega
            · exact (e b).elim
          · rw [q_one_f a]; omega
        omega
/-! As many numbers as there are things that they are the numbers of. -/
theorem q_cnt_img {U : Nat → Prop} {f : Nat → Nat} {M : Nat} : ∀ n, q_cnt (fun c => ∃ l, l < n ∧ U l ∧ f l = c) M ≤ q_cnt U n := by
  intro n
  induction n with
  | zero => rw [q_cnt_none (fun i _ ⟨l, h, _⟩ => by omega)]; exact Nat.zero_le _
  | succ n ih =>
    show _ ≤ q_cnt U n + q_one (U n)
    by_cases c : U n
    · rw [q_one_t c]
      have h := q_cnt_or1 (p := fun c => ∃ l, l < n ∧ U l ∧ f l = c) (p' := fun c => ∃ l, l < n + 1 ∧ U l ∧ f l = c) (k := f n) (m := M) (fun i _ ⟨l, hl, hU, e⟩ => by
        by_cases a : l = n
        · exact Or.inr (by rw [← e, a])
        · exact Or.inl ⟨l, by omega, hU, e⟩)
      have := q_one_le (f n < M)
      omega
    · rw [q_one_f c]
      refine Nat.le_trans (q_cnt_mono (fun i _ ⟨l, hl, hU, e⟩ => ?_)) ih
      by_cases a : l = n
      · rw [a] at hU; exact (c hU).elim
      · exact ⟨l, by omega, hU, e⟩
theorem q_cnt_lt {p p' : Nat → Prop} {k : Nat} : ∀ {m}, (∀ i, i < m → p i → p' i) → k < m → p' k → ¬ p k → q_cnt p m + 1 ≤ q_cnt p' m := by
  intro m
  induction m with
  | zero => intro _ h; omega
  | succ m ih =>
    intro h hk h1 h2
    show q_cnt p m + q_one (p m) + 1 ≤ q_cnt p' m + q_one (p' m)
    have hm : q_one (p m) ≤ q_one (p' m) := by
      by_cases a : p m
      · rw [q_one_t a, q_one_t (h m (by omega) a)]; omega
      · rw [q_one_f a]; omega
    by_cases e : k = m
    · subst e
      have := q_cnt_mono (m := k) (fun i hi => h i (by omega))
      rw [q_one_t h1, q_one_f h2]; omega
    · have := ih (fun i hi => h i (by omega)) (by omega) h1 h2; omega
theorem q_max {a : Nat → Prop} : ∀ {M}, (∃ c, c < M ∧ a c) → ∃ c, c < M ∧ a c ∧ ∀ c', c' < M → a c' → c' ≤ c := by
  intro M
  induction M with
  | zero => intro ⟨c, h, _⟩; omega
  | succ M ih =>
    intro ⟨c, hc, ha⟩
    by_cases h : a M
    · exact ⟨M, by omega, h, fun c' h' _ => by omega⟩
    · have hcM : c < M := by
        by_cases e : c = M
        · subst e; exact (h ha).elim
        · omega
      obtain ⟨d, h1, h2, h3⟩ := ih ⟨c, hcM, ha⟩
      exact ⟨d, by omega, h2, fun c' h' h'' => by
        by_cases e : c' = M
        · subst e; exact (h h'').elim
        · exact h3 c' (by omega) h''⟩
/-! Not the highest: one less. -/
theorem q_cnt_notmax {U : Nat → Prop} {f : Nat → Nat} {n M : Nat} (hf : ∀ l, l < n → U l → f l < M) :
    q_cnt (fun c => ∃ l, l < n ∧ U l ∧ f l = c ∧ ∃ l', l' < n ∧ U l' ∧ f l < f l') M = 0 ∨ q_cnt (fun c => ∃ l, l < n ∧ U l ∧ f l = c ∧ ∃ l', l' < n ∧ U l' ∧ f l < f l') M + 1 ≤ q_cnt U n := by
  by_cases h : ∃ c, c < M ∧ ∃ l, l < n ∧ U l ∧ f l = c
  · right
    obtain ⟨c, hc, ⟨l, hl, hU, e⟩, hm⟩ := q_max h
    refine Nat.le_trans (q_cnt_lt (p' := fun c => ∃ l, l < n ∧ U l ∧ f l = c) (k := c) (fun i _ ⟨l, a, b, d, _⟩ => ⟨l, a, b, d⟩) hc ⟨l, hl, hU, e⟩ ?_) (q_cnt_img n)
    intro ⟨l1, _, _, e1, l2, b1, b2, b3⟩
    have := hm (f l2) (hf l2 b1 b2) ⟨l2, b1, b2, rfl⟩
    omega
  · left
    exact q_cnt_none (fun i hi ⟨l, a, b, d, _⟩ => h ⟨i, hi, l, a, b, d⟩)
theorem q_cnt_part {U : Nat → Prop} : ∀ n, q_cnt U n + q_cnt (fun l => ¬ U l) n = n := by
  intro n
  induction n with
  | zero => rfl
  | succ n ih =>
    show q_cnt U n + q_one (U n) + (q_cnt (fun l => ¬ U l) n + q_one (¬ U n)) = n + 1
    by_cases c : U n
    · rw [q_one_t c, q_one_f (fun q => q c)]; omega
    · rw [q_one_f c, q_one_t c]; omega
theorem q_cnt_prod {A B : Nat → Prop} {p : Nat → Prop} {w : Nat} (hw : 0 < w) (h : ∀ i, p i → A (i / w) ∧ B (i % w)) : ∀ c, q_cnt p (w * c) ≤ q_cnt A c * q_cnt B w := by
  intro c
  induction c with
  | zero => rw [Nat.mul_zero]; exact Nat.zero_le _
  | succ c ih =>
    have hr : ∀ r, r ≤ w → q_cnt p (w * c + r) ≤ q_cnt p (w * c) + q_one (A c) * q_cnt B r := by
      intro r
      induction r with
      | zero => intro _; exact Nat.le_add_right _ _
      | succ r ih2 =>
        intro hrw
        have i2 := ih2 (by omega)
        show q_cnt p (w * c + r) + q_one (p (w * c + r)) ≤ q_cnt p (w * c) + q_one (A c) * (q_cnt B r + q_one (B r))
        rw [Nat.mul_add]
        have : q_one (p (w * c + r)) ≤ q_one (A c) * q_one (B r) := by
          by_cases a : p (w * c + r)
          · have hh := h _ a
            rw [Nat.mul_add_div hw, Nat.div_eq_of_lt (by omega), Nat.mul_add_mod, Nat.mod_eq_of_lt (by omega)] at hh
            rw [q_one_t a, q_one_t (show A c from hh.1), q_one_t hh.2]; omega
          · rw [q_one_f a]; exact Nat.zero_le _
        omega
    have := hr w (Nat.le_refl _)
    rw [Nat.mul_succ]
    show _ ≤ (q_cnt A c + q_one (A c)) * q_cnt B w
    rw [Nat.add_mul]
    omega
theorem q_81 {p q : Nat} (h : p + q ≤ 18) : p * q ≤ 81 := by
  have k : ∀ p, p < 19 → p * (18 - p) ≤ 81 := by decide
  exact Nat.le_trans (Nat.mul_le_mul_left p (show q ≤ 18 - p by omega)) (k p (by omega))
theorem q_cnt_monot {p : Nat → Prop} : ∀ {m m' : Nat}, m ≤ m' → q_cnt p m ≤ q_cnt p m' := by
  intro m m' h
  induction m' with
  | zero => rw [show m = 0 by omega]; exact Nat.le_refl _
  | succ m' ih =>
    by_cases e : m = m' + 1
    · rw [e]; exact Nat.le_refl _
    · exact Nat.le_trans (ih (by omega)) (Nat.le_add_right _ _)
theorem q_east {n : Nat} {I : Sto} {nx ny : Nat} {c r : Nat} (hr : r ≤ ny) (h : ∀ c', c ≤ c' → ¬ q_wE n I c' r) : ∀ d, c + d ≤ nx → q_C n I nx ny (c, r) (c + d, r) := by
  intro d
  induction d with
  | zero => intro _; exact q_con.refl _
  | succ d ih => intro hd; exact (ih (by omega)).step ⟨by dsimp only; omega, hr, hd, hr, Or.inl ⟨rfl, h _ (by omega)⟩⟩
theorem q_north {n : Nat} {I : Sto} {nx ny : Nat} {c r : Nat} (hc : c ≤ nx) (h : ∀ r', r ≤ r' → ¬ q_wN n I c r') : ∀ d, r + d ≤ ny → q_C n I nx ny (c, r) (c, r + d) := by
  intro d
  induction d with
  | zero => intro _; exact q_con.refl _
  | succ d ih => intro hd; exact (ih (by omega)).step ⟨hc, by dsimp only; omega, hc, hd, Or.inr (Or.inr (Or.inl ⟨rfl, h _ (by omega)⟩))⟩
/-! There are 81 spaces at most. -/
theorem q_fc_81 {n : Nat} {I : Sto} {nx ny : Nat} (hg : q_gi n I nx ny) {t : Nat} (ht : t ≤ 1681) : q_fc n I nx ny t ≤ 81 := by
  have hg' := hg
  obtain ⟨hn, hx, hy, hln, _⟩ := hg
  refine Nat.le_trans (q_cnt_monot (m' := 41 * 41) ht) ?_
  refine Nat.le_trans (q_cnt_prod (w := 41) (A := fun c => ∃ l, l < n ∧ yl I l < yh I l ∧ xl I l + 1 = c ∧ ∃ l', l' < n ∧ yl I l' < yh I l' ∧ xl I l + 1 < xl I l' + 1)
    (B := fun r => ∃ l, l < n ∧ ¬ (yl I l < yh I l) ∧ yl I l + 1 = r ∧ ∃ l', l' < n ∧ ¬ (yl I l' < yh I l') ∧ yl I l + 1 < yl I l' + 1) (by omega) ?_ 41) ?_
  · intro i hf
    generalize hp : q_de i = p at hf
    have e1 : i / 41 = p.1 := by rw [← hp]; rfl
    have e2 : i % 41 = p.2 := by rw [← hp]; rfl
    rw [e1, e2]
    obtain ⟨c, r⟩ := p
    obtain ⟨hin, ho, hfi⟩ := hf
    have hin' := hin
    obtain ⟨hc, hr⟩ := hin
    dsimp only at hc hr
    have hc0 : c ≠ 0 := fun q => ho (q_rim hg' hin' (Or.inl q))
    have hr0 : r ≠ 0 := fun q => ho (q_rim hg' hin' (Or.inr (Or.inl q)))
    have hw1 : q_wE n I (c - 1) r := by
      refine Classical.byContradiction (fun q => ?_)
      refine hfi (c - 1, r) ⟨by dsimp only; omega, hr⟩ (by unfold q_en; dsimp only; omega) ((q_con.refl _).step ⟨by dsimp only; omega, hr, hc, hr, Or.inl ⟨by dsimp only; congr 1; omega, q⟩⟩)
    have hw2 : q_wN n I c (r - 1) := by
      refine Classical.byContradiction (fun q => ?_)
      refine hfi (c, r - 1) ⟨hc, by dsimp only; omega⟩ (by unfold q_en; dsimp only; omega) ((q_con.refl _).step ⟨hc, by dsimp only; omega, hc, hr, Or.inr (Or.inr (Or.inl ⟨by dsimp only; congr 1; omega, q⟩))⟩)
    constructor
    · obtain ⟨l, hl, a1, a2, a3⟩ := hw1
      refine ⟨l, hl, by omega, by dsimp only; omega, ?_⟩
      refine Classical.byContradiction (fun q => ?_)
      have hc1 := q_east (n := n) (I := I) (nx := nx) (c := c) hr (fun c' hc' ⟨l', hl', b1, b2, b3⟩ => q ⟨l', hl', by omega, by omega⟩) (nx - c) (by omega)
      rw [show c + (nx - c) = nx by omega] at hc1
      exact ho ((q_rim hg' (v := (nx, r)) ⟨Nat.le_refl _, hr⟩ (Or.inr (Or.inr (Or.inl rfl)))).trans (hc1.symm q_A_symm))
    · obtain ⟨l, hl, a1, a2, a3⟩ := hw2
      have := hln l hl
      refine ⟨l, hl, by omega, by dsimp only; omega, ?_⟩
      refine Classical.byContradiction (fun q => ?_)
      have hc1 := q_north (n := n) (I := I) (ny := ny) (r := r) hc (fun c' hc' ⟨l', hl', b1, b2, b3⟩ => q ⟨l', hl', by have := hln l' hl'; omega, by omega⟩) (ny - r) (by omega)
      rw [show r + (ny - r) = ny by omega] at hc1
      exact ho ((q_rim hg' (v := (c, ny)) ⟨hc, Nat.le_refl _⟩ (Or.inr (Or.inr (Or.inr rfl)))).trans (hc1.symm q_A_symm))
  · have h1 := q_cnt_notmax (n := n) (U := fun l => yl I l < yh I l) (f := fun l => xl I l + 1) (M := 41) (fun l hl _ => by have := hln l hl; omega)
    have h2 := q_cnt_notmax (n := n) (U := fun l => ¬ (yl I l < yh I l)) (f := fun l => yl I l + 1) (M := 41) (fun l hl _ => by have := hln l hl; omega)
    have h3 := q_cnt_part (U := fun l => yl I l < yh I l) n
    rcases h1 with h1 | h1
    · rw [h1, Nat.zero_mul]; omega
    · rcases h2 with h2 | h2
      · rw [h2, Nat.mul_zero]; omega
      · exact q_81 (by omega)
def q_cc (w nx ny : Nat) (ce : Nat → Int32) (F : Ce → Int) : Prop := ∀ c r, c ≤ nx → r ≤ ny → ce (w * c + r) = J (F (c, r))
/-! What a labelling is. -/
def q_labs (n : Nat) (I : Sto) (nx ny : Nat) (F : Ce → Int) (ns : Nat) : Prop := (∀ v, q_in nx ny v → q_isl n I nx ny v (F v)) ∧ ns = q_fc n I nx ny 1681
theorem q_se_end {n : Nat} {I : Sto} {nx ny : Nat} {D : Int} {F : Ce → Int} {ns : Nat} (hx : nx ≤ 40) (hy : ny ≤ 40) (h : q_se n I nx ny D F ns 1681) : q_labs n I nx ny F ns := by
  obtain ⟨h1, h2, h3, h4, h5, h6⟩ := h
  refine ⟨fun v hv => ?_, h5⟩
  have : q_en v < 1681 := by unfold q_en; have := hv.1; have := hv.2; omega
  rcases h3 v hv (h4 v hv this) with a | ⟨a, p, b, c⟩
  · exact Or.inl a
  · exact Or.inr ⟨a, p, c⟩
theorem q_Cnum_L56 {n : Nat} {I : Sto} {nx ny : Nat} {wl : Nat → Int32} {c : Nat} (hg : q_gi n I nx ny) (hw : q_wr nx ny wl (q_wE n I) (q_wN n I)) (hc : c < nx) :
    ∀ fuel r v0 wa ns ce F, ny - r < fuel → 1 ≤ r → r ≤ 41 → q_cc 41 nx ny ce F → q_se n I nx ny (-2) F ns (41 * c + r) →
    ∃ v0' wa' ns' ce' F' r', m_Fl_numberSpaces_L56 (N c) wl (N nx) (N ny) fuel (N r) v0 wa (N ns) ce = some (v0', wa', N ns', ce') ∧ q_cc 41 nx ny ce' F' ∧ q_se n I nx ny (-2) F' ns' (41 * c + r') ∧ ny ≤ r' ∧ (r' = ny ∨ r' = r) := by
  have hx := hg.2.1
  have hy := hg.2.2.1
  intro fuel
  induction fuel with
  | zero => intro r v0 wa ns ce F h; omega
  | succ m ih =>
    intro r v0 wa ns ce F hm hr hr2 hce hse
    rw [m_Fl_numberSpaces_L56]
    by_cases c1 : ny ≤ r
    · rw [if_pos ((N_le (by omega) (by omega)).mpr c1)]
      exact ⟨v0, wa, ns, ce, F, r, rfl, hce, hse, c1, Or.inr rfl⟩
    · have hns : ns ≤ 81 := by rw [hse.2.2.2.2.1]; exact q_fc_81 hg (by omega)
      have hF := hse.1 (c, r)
      rw [if_neg (fun q => c1 ((N_le (by omega) (by omega)).mp q)), q_cell, bd1_i rfl, gI_N (by omega) (by omega), N_nat (by omega), hce c r (by omega) (by omega), show (-2 : Int32) = J (-2) from rfl]
      by_cases e : F (c, r) = -2
      · have hb : ∀ x : Nat, x ≤ 81 → (-3 : Int) ≤ x ∧ (x : Int) ≤ 1000 := fun x h => by omega
        obtain ⟨ce', wa', F', z1, b1, b2, b3⟩ := q_Cspread (n := n) (I := I) (wa := wa) (lab := (ns : Int)) hx hy hw (by omega) (hb ns hns) (c := c) (r := r) (by omega) (by omega) hse.1 hce e hse.2.1 v0
        obtain ⟨hf, hse'⟩ := q_se_new hy hse (by omega) (by omega) e (by omega) b1 b3
        have hns' : ns + 1 ≤ 81 := by rw [hse'.2.2.2.2.1]; exact q_fc_81 hg (by omega)
        obtain ⟨v1, wa1, ns1, ce1, F1, r1, k1, k2, k3, k4, k5⟩ := ih (r + 1) (N 0) wa' (ns + 1) ce' F' (by omega) (by omega) (by omega) b2 (by rw [← Nat.add_assoc]; exact hse')
        refine ⟨v1, wa1, ns1, ce1, F1, r1, ?_, k2, k3, k4, by omega⟩
        rw [e, if_pos rfl, N_lit 81, if_neg (fun q => by have := (N_le (by omega) (by omega)).mp q; omega), show N ns = J (ns : Int) from rfl, bd3_i z1, lt_e, bd4_i rfl, lt_e, show J (ns : Int) + 1 = N (ns + 1) from by rw [N_lit 1, ← N_J, N_add], N_lit 1, N_add]
        exact k1
      · obtain ⟨v1, wa1, ns1, ce1, F1, r1, k1, k2, k3, k4, k5⟩ := ih (r + 1) v0 wa ns ce F (by omega) (by omega) (by omega) hce (by
          rw [← Nat.add_assoc]
          exact q_se_on hy hse (fun v hv ev => by
            have : v = (c, r) := q_en_inj (Nat.le_trans hv.2 hy) (by dsimp only; omega) ev
            rw [this]; exact e))
        refine ⟨v1, wa1, ns1, ce1, F1, r1, ?_, k2, k3, k4, by omega⟩
        rw [if_neg (fun q => e ((J_eq (by omega) (by omega) (by omega) (by omega)).mp q)), bd4_i rfl, lt_e, N_lit 1, N_add]
        exact k1
theorem q_Cnum_L42 {n : Nat} {I : Sto} {nx ny : Nat} {wl : Nat → Int32} (hg : q_gi n I nx ny) (hw : q_wr nx ny wl (q_wE n I) (q_wN n I)) :
    ∀ fuel c v0 wa ns ce F, nx - c < fuel → 1 ≤ c → c ≤ 40 → q_cc 41 nx ny ce F → q_se n I nx ny (-2) F ns (41 * c + 1) →
    ∃ v0' wa' ns' ce' F', m_Fl_numberSpaces_L42 wl (N nx) (N ny) fuel (N c) v0 wa (N ns) ce = some (v0', wa', N ns', ce') ∧ q_cc 41 nx ny ce' F' ∧ q_se n I nx ny (-2) F' ns' 1681 := by
  have hx := hg.2.1
  have hy := hg.2.2.1
  intro fuel
  induction fuel with
  | zero => intro c v0 wa ns ce F h; omega
  | succ m ih =>
    intro c v0 wa ns ce F hm hc hc2 hce hse
    rw [m_Fl_numberSpaces_L42]
    by_cases c1 : nx ≤ c
    · rw [if_pos ((N_le (by omega) (by omega)).mpr c1)]
      refine ⟨v0, wa, ns, ce, F, rfl, hce, ?_⟩
      have := q_se_to hy (1681 - (41 * c + 1)) (41 * c + 1) hse (fun v hv a b => hse.2.2.2.2.2 v (q_rim hg hv (Or.inr (Or.inr (Or.inl (by have := hv.1; have := hv.2; unfold q_en at a; omega))))))
      rw [show 41 * c + 1 + (1681 - (41 * c + 1)) = 1681 by omega] at this
      exact this
    · obtain ⟨v1, wa1, ns1, ce1, F1, r1, k1, k2, k3, k4, k5⟩ := q_Cnum_L56 hg hw (c := c) (by omega) fu 1 v0 wa ns ce F (by unfold fu; omega) (by omega) (by omega) hce hse
      have h2 := q_se_to hy (42 - r1) (41 * c + r1) k3 (fun v hv a b => k3.2.2.2.2.2 v (q_rim hg hv (by have := hv.1; have := hv.2; unfold q_en at a b; omega)))
      rw [show 41 * c + r1 + (42 - r1) = 41 * (c + 1) + 1 by omega] at h2
      obtain ⟨v2, wa2, ns2, ce2, F2, j1, j2, j3⟩ := ih (c + 1) v1 wa1 ns1 ce1 F1 (by omega) (by omega) (by omega) k2 h2
      refine ⟨v2, wa2, ns2, ce2, F2, ?_, j2, j3⟩
      rw [if_neg (fun q => c1 ((N_le (by omega) (by omega)).mp q)), show (1 : Int32) = N 1 from rfl, bd4_i k1, lt_e, N_add]
      exact j1
/-! The class's flood. -/
theorem q_Cflood {n : Nat} {T I : Sto} {nx ny : Nat} {X Y : Nat → Nat} {fx fy f1 f2 f3 f4 : Nat → Int32} (hg : q_gi n I nx ny) (hi : q_ix n T I X Y) (hc : q_cl n T f1 f2 f3 f4) (hr : q_gr nx ny X Y fx fy) (v0 vs : Int32) (wl wa ce : Nat → Int32) :
    ∃ v0' wl' wa' ns ce' F, m_Fl_numberSpaces v0 wl wa (N n) f1 f2 f3 f4 vs (N nx) fx (N ny) fy ce = some (v0', wl', wa', N ns, ce') ∧ q_cc 41 nx ny ce' F ∧ q_labs n I nx ny F ns := by
  have hx := hg.2.1
  have hy := hg.2.2.1
  obtain ⟨wl1, ce1, e1, h1⟩ := q_Fl_dry hx hy wl ce
  obtain ⟨wl2, e2, h2⟩ := q_walls_L hg hi hc hr fu 0 wl1 (by have := hg.1; unfold fu; omega) (by omega) (fun c r hc hr => ⟨0, by omega, (h1 c r hc hr).2, ⟨fun q => by omega, fun ⟨l, q, _⟩ => by omega⟩, ⟨fun q => by omega, fun ⟨l, q, _⟩ => by omega⟩⟩)
  obtain ⟨ce3, wa3, F3, e3, b1, b2, b3⟩ := q_Cspread (n := n) (I := I) (wa := wa) (lab := -1) (F0 := fun _ => -2) hx hy h2 (by omega) (by omega) (c := 0) (r := 0) (by omega) (by omega) (fun v => by omega) (fun c r hc hr => (h1 c r hc hr).1) rfl (fun a b h => (h rfl).elim) v0
  have hse0 : q_se n I nx ny (-2) F3 0 0 := by
    refine ⟨b1, fun a b ha hab => ?_, fun v hv hd => ?_, fun v _ h => by omega, rfl, fun v hv => ?_⟩
    · by_cases q : q_C n I nx ny (0, 0) a
      · rw [((b3 b).1 (q.step hab)).1]; omega
      · exact (ha ((b3 a).2 q)).elim
    · by_cases q : q_C n I nx ny (0, 0) v
      · exact Or.inl ⟨q, ((b3 v).1 q).1⟩
      · exact (hd ((b3 v).2 q)).elim
    · rw [((b3 v).1 hv).1]; omega
  have hse1 := q_se_to hy 42 0 hse0 (fun v hv a b => hse0.2.2.2.2.2 v (q_rim hg hv (by unfold q_en at b; omega)))
  obtain ⟨v4, wa4, ns4, ce4, F4, e4, k1, k2⟩ := q_Cnum_L42 hg h2 fu 1 (N 0) wa3 0 ce3 F3 (by unfold fu; omega) (by omega) (by omega) b2 hse1
  refine ⟨v4, wl2, wa4, ns4, ce4, F4, ?_, k1, q_se_end hx hy k2⟩
  unfold m_Fl_numberSpaces
  rw [bd2_i e1, show (0 : Int32) = N 0 from rfl, bd1_i e2, show (-1 : Int32) = J (-1) from rfl, show N 0 = N (41 * 0 + 0) from rfl, bd3_i e3, show (1 : Int32) = N 1 from rfl, show N (41 * 0 + 0) = N 0 from rfl, bd4_i e4]
