/-! The words of the models: a method's model is a function into Option that follows its code; 'none' where the code would leave an array, divide by 0, or turn too often. -/
def fu : Nat := 1000000
def lt_ {α β : Type} (e : α) (k : α → Option β) : Option β := k e
theorem lt_el {α β : Type} {e x : α} {k : α → Option β} {r : β} (hm : lt_ e k = some r) (ex : x = e) : k x = some r := by subst ex; exact hm
def gI {α : Type} (i : Int32) (n : Nat) (x : Option α) : Option α := if i < 0 ∨ n ≤ i.toNatClampNeg then none else x
theorem gI_e {α : Type} {i : Int32} {n : Nat} {x : Option α} {r : α} (h : gI i n x = some r) : vp_in i n ∧ x = some r := by
  unfold gI at h
  by_cases c : i < 0 ∨ n ≤ i.toNatClampNeg
  · rw [if_pos c] at h; cases h
  · rw [if_neg c] at h; exact ⟨c, h⟩
theorem gI_i {α : Type} {i : Int32} {n : Nat} {x : Option α} (h : vp_in i n) : gI i n x = x := if_neg h
def gZ {α : Type} (y : Int32) (x : Option α) : Option α := if y = 0 then none else x
theorem gZ_e {α : Type} {y : Int32} {x : Option α} {r : α} (h : gZ y x = some r) : ¬ y = 0 ∧ x = some r := by
  unfold gZ at h
  by_cases c : y = 0
  · rw [if_pos c] at h; cases h
  · rw [if_neg c] at h; exact ⟨c, h⟩
def gB {α : Type} (y : Int32) (x : Option α) : Option α := if y = 0 ∨ y = 1 then x else none
theorem gB_e {α : Type} {y : Int32} {x : Option α} {r : α} (h : gB y x = some r) : (y = 0 ∨ y = 1) ∧ x = some r := by
  unfold gB at h
  by_cases c : y = 0 ∨ y = 1
  · rw [if_pos c] at h; exact ⟨c, h⟩
  · rw [if_neg c] at h; cases h
def gC {α : Type} (sp dp n : Int32) (na nb : Nat) (x : Option α) : Option α := if ¬ sp < 0 ∧ ¬ dp < 0 ∧ ¬ n < 0 ∧ sp.toNatClampNeg + n.toNatClampNeg ≤ na ∧ dp.toNatClampNeg + n.toNatClampNeg ≤ nb then x else none
theorem gC_e {α : Type} {sp dp n : Int32} {na nb : Nat} {x : Option α} {r : α} (h : gC sp dp n na nb x = some r) : (¬ sp < 0 ∧ ¬ dp < 0 ∧ ¬ n < 0 ∧ sp.toNatClampNeg + n.toNatClampNeg ≤ na ∧ dp.toNatClampNeg + n.toNatClampNeg ≤ nb) ∧ x = some r := by
  unfold gC at h
  by_cases c : ¬ sp < 0 ∧ ¬ dp < 0 ∧ ¬ n < 0 ∧ sp.toNatClampNeg + n.toNatClampNeg ≤ na ∧ dp.toNatClampNeg + n.toNatClampNeg ≤ nb
  · rw [if_pos c] at h; exact ⟨c, h⟩
  · rw [if_neg c] at h; cases h
theorem if_t {α : Type} {P : Prop} {dP : Decidable P} {a b : Option α} {r : α} (h : (@ite _ P dP a b) = some r) (hp : P) : a = some r := by rw [if_pos hp] at h; exact h
theorem if_f {α : Type} {P : Prop} {dP : Decidable P} {a b : Option α} {r : α} (h : (@ite _ P dP a b) = some r) (hp : ¬ P) : b = some r := by rw [if_neg hp] at h; exact h
abbrev jmax (x y : Int32) : Int32 := if x < y then y else x
abbrev jmin (x y : Int32) : Int32 := if y < x then y else x
abbrev jabs (x : Int32) : Int32 := if 0 ≤ x then x else 0 - x
def bd0 {ρ : Type} (x : Option (Unit)) (k : Option ρ) : Option ρ := match x with
  | some () => k
  | none => none
theorem bd0_e {ρ : Type} {x : Option (Unit)} {k : Option ρ} {r : ρ} (h : bd0 x k = some r) : x = some () ∧ k = some r := by
  cases x with
  | none => cases h
  | some v => exact ⟨rfl, h⟩
theorem bd0_i {ρ : Type} {x : Option (Unit)} {k : Option ρ} (h : x = some ()) : bd0 x k = k := by rw [h]; rfl
def bs0 {ρ : Type} (x : Option (Sum ρ (Unit))) (k : Option ρ) : Option ρ := match x with
  | some (Sum.inl r) => some r
  | some (Sum.inr ()) => k
  | none => none
theorem bs0_z {ρ : Type} {x : Option (Sum ρ (Unit))} {k : Option ρ} {r : ρ} (h : bs0 x k = some r) : ∃ z, x = some z ∧ (∀ r', z = Sum.inl r' → r = r') ∧ (z = Sum.inr () → k = some r) := by
  cases x with
  | none => cases h
  | some v => exact ⟨v, rfl, fun r' e => by subst e; cases h; rfl, fun  e => by subst e; exact h⟩
def bt0 {ρ γ : Type} (x : Option (Sum ρ (Unit))) (k : Option (Sum ρ γ)) : Option (Sum ρ γ) := match x with
  | some (Sum.inl r) => some (Sum.inl r)
  | some (Sum.inr ()) => k
  | none => none
theorem bt0_z {ρ γ : Type} {x : Option (Sum ρ (Unit))} {k : Option (Sum ρ γ)} {r : Sum ρ γ} (h : bt0 x k = some r) : ∃ z, x = some z ∧ (∀ r', z = Sum.inl r' → r = Sum.inl r') ∧ (z = Sum.inr () → k = some r) := by
  cases x with
  | none => cases h
  | some v => exact ⟨v, rfl, fun r' e => by subst e; cases h; rfl, fun  e => by subst e; exact h⟩
def bx0 {ρ γ : Type} (x : Option (Sum γ (Unit))) (k : Option (Sum γ ρ)) : Option (Sum γ ρ) := match x with
  | some (Sum.inl r) => some (Sum.inl r)
  | some (Sum.inr ()) => k
  | none => none
theorem bx0_z {ρ γ : Type} {x : Option (Sum γ (Unit))} {k : Option (Sum γ ρ)} {r : Sum γ ρ} (h : bx0 x k = some r) : ∃ z, x = some z ∧ (∀ r', z = Sum.inl r' → r = Sum.inl r') ∧ (z = Sum.inr () → k = some r) := by
  cases x with
  | none => cases h
  | some v => exact ⟨v, rfl, fun r' e => by subst e; cases h; rfl, fun  e => by subst e; exact h⟩
def bd1 {ρ α0 : Type} (x : Option (α0)) (k : α0 → Option ρ) : Option ρ := match x with
  | some a0 => k a0
  | none => none
theorem bd1_e {ρ α0 : Type} {x : Option (α0)} {k : α0 → Option ρ} {r : ρ} (h : bd1 x k = some r) : ∃ a0, x = some a0 ∧ k a0 = some r := by
  cases x with
  | none => cases h
  | some v => exact ⟨v, rfl, h⟩
theorem bd1_i {ρ α0 : Type} {x : Option (α0)} {k : α0 → Option ρ} {a0 : α0} (h : x = some a0) : bd1 x k = k a0 := by rw [h]; rfl
def bs1 {ρ α0 : Type} (x : Option (Sum ρ (α0))) (k : α0 → Option ρ) : Option ρ := match x with
  | some (Sum.inl r) => some r
  | some (Sum.inr a0) => k a0
  | none => none
theorem bs1_z {ρ α0 : Type} {x : Option (Sum ρ (α0))} {k : α0 → Option ρ} {r : ρ} (h : bs1 x k = some r) : ∃ z, x = some z ∧ (∀ r', z = Sum.inl r' → r = r') ∧ (∀ (a0 : α0), z = Sum.inr a0 → k a0 = some r) := by
  cases x with
  | none => cases h
  | some v => exact ⟨v, rfl, fun r' e => by subst e; cases h; rfl, fun a0 e => by subst e; exact h⟩
def bt1 {ρ γ α0 : Type} (x : Option (Sum ρ (α0))) (k : α0 → Option (Sum ρ γ)) : Option (Sum ρ γ) := match x with
  | some (Sum.inl r) => some (Sum.inl r)
  | some (Sum.inr a0) => k a0
  | none => none
theorem bt1_z {ρ γ α0 : Type} {x : Option (Sum ρ (α0))} {k : α0 → Option (Sum ρ γ)} {r : Sum ρ γ} (h : bt1 x k = some r) : ∃ z, x = some z ∧ (∀ r', z = Sum.inl r' → r = Sum.inl r') ∧ (∀ (a0 : α0), z = Sum.inr a0 → k a0 = some r) := by
  cases x with
  | none => cases h
  | some v => exact ⟨v, rfl, fun r' e => by subst e; cases h; rfl, fun a0 e => by subst e; exact h⟩
def bx1 {ρ γ α0 : Type} (x : Option (Sum γ (α0))) (k : α0 → Option (Sum γ ρ)) : Option (Sum γ ρ) := match x with
  | some (Sum.inl r) => some (Sum.inl r)
  | some (Sum.inr a0) => k a0
  | none => none
theorem bx1_z {ρ γ α0 : Type} {x : Option (Sum γ (α0))} {k : α0 → Option (Sum γ ρ)} {r : Sum γ ρ} (h : bx1 x k = some r) : ∃ z, x = some z ∧ (∀ r', z = Sum.inl r' → r = Sum.inl r') ∧ (∀ (a0 : α0), z = Sum.inr a0 → k a0 = some r) := by
  cases x with
  | none => cases h
  | some v => exact ⟨v, rfl, fun r' e => by subst e; cases h; rfl, fun a0 e => by subst e; exact h⟩
def bd2 {ρ α0 α1 : Type} (x : Option (α0 × α1)) (k : α0 → α1 → Option ρ) : Option ρ := match x with
  | some (a0, a1) => k a0 a1
  | none => none
theorem bd2_e {ρ α0 α1 : Type} {x : Option (α0 × α1)} {k : α0 → α1 → Option ρ} {r : ρ} (h : bd2 x k = some r) : ∃ a0 a1, x = some (a0, a1) ∧ k a0 a1 = some r := by
  cases x with
  | none => cases h
  | some v => exact ⟨v.1, v.2, rfl, h⟩
theorem bd2_i {ρ α0 α1 : Type} {x : Option (α0 × α1)} {k : α0 → α1 → Option ρ} {a0 : α0} {a1 : α1} (h : x = some (a0, a1)) : bd2 x k = k a0 a1 := by rw [h]; rfl
def bs2 {ρ α0 α1 : Type} (x : Option (Sum ρ (α0 × α1))) (k : α0 → α1 → Option ρ) : Option ρ := match x with
  | some (Sum.inl r) => some r
  | some (Sum.inr (a0, a1)) => k a0 a1
  | none => none
theorem bs2_z {ρ α0 α1 : Type} {x : Option (Sum ρ (α0 × α1))} {k : α0 → α1 → Option ρ} {r : ρ} (h : bs2 x k = some r) : ∃ z, x = some z ∧ (∀ r', z = Sum.inl r' → r = r') ∧ (∀ (a0 : α0) (a1 : α1), z = Sum.inr (a0, a1) → k a0 a1 = some r) := by
  cases x with
  | none => cases h
  | some v => exact ⟨v, rfl, fun r' e => by subst e; cases h; rfl, fun a0 a1 e => by subst e; exact h⟩
def bt2 {ρ γ α0 α1 : Type} (x : Option (Sum ρ (α0 × α1))) (k : α0 → α1 → Option (Sum ρ γ)) : Option (Sum ρ γ) := match x with
  | some (Sum.inl r) => some (Sum.inl r)
  | some (Sum.inr (a0, a1)) => k a0 a1
  | none => none
theorem bt2_z {ρ γ α0 α1 : Type} {x : Option (Sum ρ (α0 × α1))} {k : α0 → α1 → Option (Sum ρ γ)} {r : Sum ρ γ} (h : bt2 x k = some r) : ∃ z, x = some z ∧ (∀ r', z = Sum.inl r' → r = Sum.inl r') ∧ (∀ (a0 : α0) (a1 : α1), z = Sum.inr (a0, a1) → k a0 a1 = some r) := by
  cases x with
  | none => cases h
  | some v => exact ⟨v, rfl, fun r' e => by subst e; cases h; rfl, fun a0 a1 e => by subst e; exact h⟩
def bx2 {ρ γ α0 α1 : Type} (x : Option (Sum γ (α0 × α1))) (k : α0 → α1 → Option (Sum γ ρ)) : Option (Sum γ ρ) := match x with
  | some (Sum.inl r) => some (Sum.inl r)
  | some (Sum.inr (a0, a1)) => k a0 a1
  | none => none
theorem bx2_z {ρ γ α0 α1 : Type} {x : Option (Sum γ (α0 × α1))} {k : α0 → α1 → Option (Sum γ ρ)} {r : Sum γ ρ} (h : bx2 x k = some r) : ∃ z, x = some z ∧ (∀ r', z = Sum.inl r' → r = Sum.inl r') ∧ (∀ (a0 : α0) (a1 : α1), z = Sum.inr (a0, a1) → k a0 a1 = some r) := by
  cases x with
  | none => cases h
  | some v => exact ⟨v, rfl, fun r' e => by subst e; cases h; rfl, fun a0 a1 e => by subst e; exact h⟩
def bd3 {ρ α0 α1 α2 : Type} (x : Option (α0 × α1 × α2)) (k : α0 → α1 → α2 → Option ρ) : Option ρ := match x with
  | some (a0, a1, a2) => k a0 a1 a2
  | none => none
theorem bd3_e {ρ α0 α1 α2 : Type} {x : Option (α0 × α1 × α2)} {k : α0 → α1 → α2 → Option ρ} {r : ρ} (h : bd3 x k = some r) : ∃ a0 a1 a2, x = some (a0, a1, a2) ∧ k a0 a1 a2 = some r := by
  cases x with
  | none => cases h
  | some v => exact ⟨v.1, v.2.1, v.2.2, rfl, h⟩
theorem bd3_i {ρ α0 α1 α2 : Type} {x : Option (α0 × α1 × α2)} {k : α0 → α1 → α2 → Option ρ} {a0 : α0} {a1 : α1} {a2 : α2} (h : x = some (a0, a1, a2)) : bd3 x k = k a0 a1 a2 := by rw [h]; rfl
def bs3 {ρ α0 α1 α2 : Type} (x : Option (Sum ρ (α0 × α1 × α2))) (k : α0 → α1 → α2 → Option ρ) : Option ρ := match x with
  | some (Sum.inl r) => some r
  | some (Sum.inr (a0, a1, a2)) => k a0 a1 a2
  | none => none
theorem bs3_z {ρ α0 α1 α2 : Type} {x : Option (Sum ρ (α0 × α1 × α2))} {k : α0 → α1 → α2 → Option ρ} {r : ρ} (h : bs3 x k = some r) : ∃ z, x = some z ∧ (∀ r', z = Sum.inl r' → r = r') ∧ (∀ (a0 : α0) (a1 : α1) (a2 : α2), z = Sum.inr (a0, a1, a2) → k a0 a1 a2 = some r) := by
  cases x with
  | none => cases h
  | some v => exact ⟨v, rfl, fun r' e => by subst e; cases h; rfl, fun a0 a1 a2 e => by subst e; exact h⟩
def bt3 {ρ γ α0 α1 α2 : Type} (x : Option (Sum ρ (α0 × α1 × α2))) (k : α0 → α1 → α2 → Option (Sum ρ γ)) : Option (Sum ρ γ) := match x with
  | some (Sum.inl r) => some (Sum.inl r)
  | some (Sum.inr (a0, a1, a2)) => k a0 a1 a2
  | none => none
theorem bt3_z {ρ γ α0 α1 α2 : Type} {x : Option (Sum ρ (α0 × α1 × α2))} {k : α0 → α1 → α2 → Option (Sum ρ γ)} {r : Sum ρ γ} (h : bt3 x k = some r) : ∃ z, x = some z ∧ (∀ r', z = Sum.inl r' → r = Sum.inl r') ∧ (∀ (a0 : α0) (a1 : α1) (a2 : α2), z = Sum.inr (a0, a1, a2) → k a0 a1 a2 = some r) := by
  cases x with
  | none => cases h
  | some v => exact ⟨v, rfl, fun r' e => by subst e; cases h; rfl, fun a0 a1 a2 e => by subst e; exact h⟩
def bx3 {ρ γ α0 α1 α2 : Type} (x : Option (Sum γ (α0 × α1 × α2))) (k : α0 → α1 → α2 → Option (Sum γ ρ)) : Option (Sum γ ρ) := match x with
  | some (Sum.inl r) => some (Sum.inl r)
  | some (Sum.inr (a0, a1, a2)) => k a0 a1 a2
  | none => none
theorem bx3_z {ρ γ α0 α1 α2 : Type} {x : Option (Sum γ (α0 × α1 × α2))} {k : α0 → α1 → α2 → Option (Sum γ ρ)} {r : Sum γ ρ} (h : bx3 x k = some r) : ∃ z, x = some z ∧ (∀ r', z = Sum.inl r' → r = Sum.inl r') ∧ (∀ (a0 : α0) (a1 : α1) (a2 : α2), z = Sum.inr (a0, a1, a2) → k a0 a1 a2 = some r) := by
  cases x with
  | none => cases h
  | some v => exact ⟨v, rfl, fun r' e => by subst e; cases h; rfl, fun a0 a1 a2 e => by subst e; exact h⟩
def bd4 {ρ α0 α1 α2 α3 : Type} (x : Option (α0 × α1 × α2 × α3)) (k : α0 → α1 → α2 → α3 → Option ρ) : Option ρ := match x with
  | some (a0, a1, a2, a3) => k a0 a1 a2 a3
  | none => none
theorem bd4_e {ρ α0 α1 α2 α3 : Type} {x : Option (α0 × α1 × α2 × α3)} {k : α0 → α1 → α2 → α3 → Option ρ} {r : ρ} (h : bd4 x k = some r) : ∃ a0 a1 a2 a3, x = some (a0, a1, a2, a3) ∧ k a0 a1 a2 a3 = some r := by
  cases x with
  | none => cases h
  | some v => exact ⟨v.1, v.2.1, v.2.2.1, v.2.2.2, rfl, h⟩
theorem bd4_i {ρ α0 α1 α2 α3 : Type} {x : Option (α0 × α1 × α2 × α3)} {k : α0 → α1 → α2 → α3 → Option ρ} {a0 : α0} {a1 : α1} {a2 : α2} {a3 : α3} (h : x = some (a0, a1, a2, a3)) : bd4 x k = k a0 a1 a2 a3 := by rw [h]; rfl
def bs4 {ρ α0 α1 α2 α3 : Type} (x : Option (Sum ρ (α0 × α1 × α2 × α3))) (k : α0 → α1 → α2 → α3 → Option ρ) : Option ρ := match x with
  | some (Sum.inl r) => some r
  | some (Sum.inr (a0, a1, a2, a3)) => k a0 a1 a2 a3
  | none => none
theorem bs4_z {ρ α0 α1 α2 α3 : Type} {x : Option (Sum ρ (α0 × α1 × α2 × α3))} {k : α0 → α1 → α2 → α3 → Option ρ} {r : ρ} (h : bs4 x k = some r) : ∃ z, x = some z ∧ (∀ r', z = Sum.inl r' → r = r') ∧ (∀ (a0 : α0) (a1 : α1) (a2 : α2) (a3 : α3), z = Sum.inr (a0, a1, a2, a3) → k a0 a1 a2 a3 = some r) := by
  cases x with
  | none => cases h
  | some v => exact ⟨v, rfl, fun r' e => by subst e; cases h; rfl, fun a0 a1 a2 a3 e => by subst e; exact h⟩
def bt4 {ρ γ α0 α1 α2 α3 : Type} (x : Option (Sum ρ (α0 × α1 × α2 × α3))) (k : α0 → α1 → α2 → α3 → Option (Sum ρ γ)) : Option (Sum ρ γ) := match x with
  | some (Sum.inl r) => some (Sum.inl r)
  | some (Sum.inr (a0, a1, a2, a3)) => k a0 a1 a2 a3
  | none => none
theorem bt4_z {ρ γ α0 α1 α2 α3 : Type} {x : Option (Sum ρ (α0 × α1 × α2 × α3))} {k : α0 → α1 → α2 → α3 → Option (Sum ρ γ)} {r : Sum ρ γ} (h : bt4 x k = some r) : ∃ z, x = some z ∧ (∀ r', z = Sum.inl r' → r = Sum.inl r') ∧ (∀ (a0 : α0) (a1 : α1) (a2 : α2) (a3 : α3), z = Sum.inr (a0, a1, a2, a3) → k a0 a1 a2 a3 = some r) := by
  cases x with
  | none => cases h
  | some v => exact ⟨v, rfl, fun r' e => by subst e; cases h; rfl, fun a0 a1 a2 a3 e => by subst e; exact h⟩
def bx4 {ρ γ α0 α1 α2 α3 : Type} (x : Option (Sum γ (α0 × α1 × α2 × α3))) (k : α0 → α1 → α2 → α3 → Option (Sum γ ρ)) : Option (Sum γ ρ) := match x with
  | some (Sum.inl r) => some (Sum.inl r)
  | some (Sum.inr (a0, a1, a2, a3)) => k a0 a1 a2 a3
  | none => none
theorem bx4_z {ρ γ α0 α1 α2 α3 : Type} {x : Option (Sum γ (α0 × α1 × α2 × α3))} {k : α0 → α1 → α2 → α3 → Option (Sum γ ρ)} {r : Sum γ ρ} (h : bx4 x k = some r) : ∃ z, x = some z ∧ (∀ r', z = Sum.inl r' → r = Sum.inl r') ∧ (∀ (a0 : α0) (a1 : α1) (a2 : α2) (a3 : α3), z = Sum.inr (a0, a1, a2, a3) → k a0 a1 a2 a3 = some r) := by
  cases x with
  | none => cases h
  | some v => exact ⟨v, rfl, fun r' e => by subst e; cases h; rfl, fun a0 a1 a2 a3 e => by subst e; exact h⟩
def bd5 {ρ α0 α1 α2 α3 α4 : Type} (x : Option (α0 × α1 × α2 × α3 × α4)) (k : α0 → α1 → α2 → α3 → α4 → Option ρ) : Option ρ := match x with
  | some (a0, a1, a2, a3, a4) => k a0 a1 a2 a3 a4
  | none => none
theorem bd5_e {ρ α0 α1 α2 α3 α4 : Type} {x : Option (α0 × α1 × α2 × α3 × α4)} {k : α0 → α1 → α2 → α3 → α4 → Option ρ} {r : ρ} (h : bd5 x k = some r) : ∃ a0 a1 a2 a3 a4, x = some (a0, a1, a2, a3, a4) ∧ k a0 a1 a2 a3 a4 = some r := by
  cases x with
  | none => cases h
  | some v => exact ⟨v.1, v.2.1, v.2.2.1, v.2.2.2.1, v.2.2.2.2, rfl, h⟩
theorem bd5_i {ρ α0 α1 α2 α3 α4 : Type} {x : Option (α0 × α1 × α2 × α3 × α4)} {k : α0 → α1 → α2 → α3 → α4 → Option ρ} {a0 : α0} {a1 : α1} {a2 : α2} {a3 : α3} {a4 : α4} (h : x = some (a0, a1, a2, a3, a4)) : bd5 x k = k a0 a1 a2 a3 a4 := by rw [h]; rfl
def bs5 {ρ α0 α1 α2 α3 α4 : Type} (x : Option (Sum ρ (α0 × α1 × α2 × α3 × α4))) (k : α0 → α1 → α2 → α3 → α4 → Option ρ) : Option ρ := match x with
  | some (Sum.inl r) => some r
  | some (Sum.inr (a0, a1, a2, a3, a4)) => k a0 a1 a2 a3 a4
  | none => none
theorem bs5_z {ρ α0 α1 α2 α3 α4 : Type} {x : Option (Sum ρ (α0 × α1 × α2 × α3 × α4))} {k : α0 → α1 → α2 → α3 → α4 → Option ρ} {r : ρ} (h : bs5 x k = some r) : ∃ z, x = some z ∧ (∀ r', z = Sum.inl r' → r = r') ∧ (∀ (a0 : α0) (a1 : α1) (a2 : α2) (a3 : α3) (a4 : α4), z = Sum.inr (a0, a1, a2, a3, a4) → k a0 a1 a2 a3 a4 = some r) := by
  cases x with
  | none => cases h
  | some v => exact ⟨v, rfl, fun r' e => by subst e; cases h; rfl, fun a0 a1 a2 a3 a4 e => by subst e; exact h⟩
def bt5 {ρ γ α0 α1 α2 α3 α4 : Type} (x : Option (Sum ρ (α0 × α1 × α2 × α3 × α4))) (k : α0 → α1 → α2 → α3 → α4 → Option (Sum ρ γ)) : Option (Sum ρ γ) := match x with
  | some (Sum.inl r) => some (Sum.inl r)
  | some (Sum.inr (a0, a1, a2, a3, a4)) => k a0 a1 a2 a3 a4
  | none => none
theorem bt5_z {ρ γ α0 α1 α2 α3 α4 : Type} {x : Option (Sum ρ (α0 × α1 × α2 × α3 × α4))} {k : α0 → α1 → α2 → α3 → α4 → Option (Sum ρ γ)} {r : Sum ρ γ} (h : bt5 x k = some r) : ∃ z, x = some z ∧ (∀ r', z = Sum.inl r' → r = Sum.inl r') ∧ (∀ (a0 : α0) (a1 : α1) (a2 : α2) (a3 : α3) (a4 : α4), z = Sum.inr (a0, a1, a2, a3, a4) → k a0 a1 a2 a3 a4 = some r) := by
  cases x with
  | none => cases h
  | some v => exact ⟨v, rfl, fun r' e => by subst e; cases h; rfl, fun a0 a1 a2 a3 a4 e => by subst e; exact h⟩
def bx5 {ρ γ α0 α1 α2 α3 α4 : Type} (x : Option (Sum γ (α0 × α1 × α2 × α3 × α4))) (k : α0 → α1 → α2 → α3 → α4 → Option (Sum γ ρ)) : Option (Sum γ ρ) := match x with
  | some (Sum.inl r) => some (Sum.inl r)
  | some (Sum.inr (a0, a1, a2, a3, a4)) => k a0 a1 a2 a3 a4
  | none => none
theorem bx5_z {ρ γ α0 α1 α2 α3 α4 : Type} {x : Option (Sum γ (α0 × α1 × α2 × α3 × α4))} {k : α0 → α1 → α2 → α3 → α4 → Option (Sum γ ρ)} {r : Sum γ ρ} (h : bx5 x k = some r) : ∃ z, x = some z ∧ (∀ r', z = Sum.inl r' → r = Sum.inl r') ∧ (∀ (a0 : α0) (a1 : α1) (a2 : α2) (a3 : α3) (a4 : α4), z = Sum.inr (a0, a1, a2, a3, a4) → k a0 a1 a2 a3 a4 = some r) := by
  cases x with
  | none => cases h
  | some v => exact ⟨v, rfl, fun r' e => by subst e; cases h; rfl, fun a0 a1 a2 a3 a4 e => by subst e; exact h⟩
def bd6 {ρ α0 α1 α2 α3 α4 α5 : Type} (x : Option (α0 × α1 × α2 × α3 × α4 × α5)) (k : α0 → α1 → α2 → α3 → α4 → α5 → Option ρ) : Option ρ := match x with
  | some (a0, a1, a2, a3, a4, a5) => k a0 a1 a2 a3 a4 a5
  | none => none
theorem bd6_e {ρ α0 α1 α2 α3 α4 α5 : Type} {x : Option (α0 × α1 × α2 × α3 × α4 × α5)} {k : α0 → α1 → α2 → α3 → α4 → α5 → Option ρ} {r : ρ} (h : bd6 x k = some r) : ∃ a0 a1 a2 a3 a4 a5, x = some (a0, a1, a2, a3, a4, a5) ∧ k a0 a1 a2 a3 a4 a5 = some r := by
  cases x with
  | none => cases h
  | some v => exact ⟨v.1, v.2.1, v.2.2.1, v.2.2.2.1, v.2.2.2.2.1, v.2.2.2.2.2, rfl, h⟩
theorem bd6_i {ρ α0 α1 α2 α3 α4 α5 : Type} {x : Option (α0 × α1 × α2 × α3 × α4 × α5)} {k : α0 → α1 → α2 → α3 → α4 → α5 → Option ρ} {a0 : α0} {a1 : α1} {a2 : α2} {a3 : α3} {a4 : α4} {a5 : α5} (h : x = some (a0, a1, a2, a3, a4, a5)) : bd6 x k = k a0 a1 a2 a3 a4 a5 := by rw [h]; rfl
def bs6 {ρ α0 α1 α2 α3 α4 α5 : Type} (x : Option (Sum ρ (α0 × α1 × α2 × α3 × α4 × α5))) (k : α0 → α1 → α2 → α3 → α4 → α5 → Option ρ) : Option ρ := match x with
  | some (Sum.inl r) => some r
  | some (Sum.inr (a0, a1, a2, a3, a4, a5)) => k a0 a1 a2 a3 a4 a5
  | none => none
theorem bs6_z {ρ α0 α1 α2 α3 α4 α5 : Type} {x : Option (Sum ρ (α0 × α1 × α2 × α3 × α4 × α5))} {k : α0 → α1 → α2 → α3 → α4 → α5 → Option ρ} {r : ρ} (h : bs6 x k = some r) : ∃ z, x = some z ∧ (∀ r', z = Sum.inl r' → r = r') ∧ (∀ (a0 : α0) (a1 : α1) (a2 : α2) (a3 : α3) (a4 : α4) (a5 : α5), z = Sum.inr (a0, a1, a2, a3, a4, a5) → k a0 a1 a2 a3 a4 a5 = some r) := by
  cases x with
  | none => cases h
  | some v => exact ⟨v, rfl, fun r' e => by subst e; cases h; rfl, fun a0 a1 a2 a3 a4 a5 e => by subst e; exact h⟩
def bt6 {ρ γ α0 α1 α2 α3 α4 α5 : Type} (x : Option (Sum ρ (α0 × α1 × α2 × α3 × α4 × α5))) (k : α0 → α1 → α2 → α3 → α4 → α5 → Option (Sum ρ γ)) : Option (Sum ρ γ) := match x with
  | some (Sum.inl r) => some (Sum.inl r)
  | some (Sum.inr (a0, a1, a2, a3, a4, a5)) => k a0 a1 a2 a3 a4 a5
  | none => none
theorem bt6_z {ρ γ α0 α1 α2 α3 α4 α5 : Type} {x : Option (Sum ρ (α0 × α1 × α2 × α3 × α4 × α5))} {k : α0 → α1 → α2 → α3 → α4 → α5 → Option (Sum ρ γ)} {r : Sum ρ γ} (h : bt6 x k = some r) : ∃ z, x = some z ∧ (∀ r', z = Sum.inl r' → r = Sum.inl r') ∧ (∀ (a0 : α0) (a1 : α1) (a2 : α2) (a3 : α3) (a4 : α4) (a5 : α5), z = Sum.inr (a0, a1, a2, a3, a4, a5) → k a0 a1 a2 a3 a4 a5 = some r) := by
  cases x with
  | none => cases h
  | some v => exact ⟨v, rfl, fun r' e => by subst e; cases h; rfl, fun a0 a1 a2 a3 a4 a5 e => by subst e; exact h⟩
def bx6 {ρ γ α0 α1 α2 α3 α4 α5 : Type} (x : Option (Sum γ (α0 × α1 × α2 × α3 × α4 × α5))) (k : α0 → α1 → α2 → α3 → α4 → α5 → Option (Sum γ ρ)) : Option (Sum γ ρ) := match x with
  | some (Sum.inl r) => some (Sum.inl r)
  | some (Sum.inr (a0, a1, a2, a3, a4, a5)) => k a0 a1 a2 a3 a4 a5
  | none => none
theorem bx6_z {ρ γ α0 α1 α2 α3 α4 α5 : Type} {x : Option (Sum γ (α0 × α1 × α2 × α3 × α4 × α5))} {k : α0 → α1 → α2 → α3 → α4 → α5 → Option (Sum γ ρ)} {r : Sum γ ρ} (h : bx6 x k = some r) : ∃ z, x = some z ∧ (∀ r', z = Sum.inl r' → r = Sum.inl r') ∧ (∀ (a0 : α0) (a1 : α1) (a2 : α2) (a3 : α3) (a4 : α4) (a5 : α5), z = Sum.inr (a0, a1, a2, a3, a4, a5) → k a0 a1 a2 a3 a4 a5 = some r) := by
  cases x with
  | none => cases h
  | some v => exact ⟨v, rfl, fun r' e => by subst e; cases h; rfl, fun a0 a1 a2 a3 a4 a5 e => by subst e; exact h⟩
def bd7 {ρ α0 α1 α2 α3 α4 α5 α6 : Type} (x : Option (α0 × α1 × α2 × α3 × α4 × α5 × α6)) (k : α0 → α1 → α2 → α3 → α4 → α5 → α6 → Option ρ) : Option ρ := match x with
  | some (a0, a1, a2, a3, a4, a5, a6) => k a0 a1 a2 a3 a4 a5 a6
  | none => none
theorem bd7_e {ρ α0 α1 α2 α3 α4 α5 α6 : Type} {x : Option (α0 × α1 × α2 × α3 × α4 × α5 × α6)} {k : α0 → α1 → α2 → α3 → α4 → α5 → α6 → Option ρ} {r : ρ} (h : bd7 x k = some r) : ∃ a0 a1 a2 a3 a4 a5 a6, x = some (a0, a1, a2, a3, a4, a5, a6) ∧ k a0 a1 a2 a3 a4 a5 a6 = some r := by
  cases x with
  | none => cases h
  | some v => exact ⟨v.1, v.2.1, v.2.2.1, v.2.2.2.1, v.2.2.2.2.1, v.2.2.2.2.2.1, v.2.2.2.2.2.2, rfl, h⟩
theorem bd7_i {ρ α0 α1 α2 α3 α4 α5 α6 : Type} {x : Option (α0 × α1 × α2 × α3 × α4 × α5 × α6)} {k : α0 → α1 → α2 → α3 → α4 → α5 → α6 → Option ρ} {a0 : α0} {a1 : α1} {a2 : α2} {a3 : α3} {a4 : α4} {a5 : α5} {a6 : α6} (h : x = some (a0, a1, a2, a3, a4, a5, a6)) : bd7 x k = k a0 a1 a2 a3 a4 a5 a6 := by rw [h]; rfl
def bx7 {ρ γ α0 α1 α2 α3 α4 α5 α6 : Type} (x : Option (Sum γ (α0 × α1 × α2 × α3 × α4 × α5 × α6))) (k : α0 → α1 → α2 → α3 → α4 → α5 → α6 → Option (Sum γ ρ)) : Option (Sum γ ρ) := match x with
  | some (Sum.inl r) => some (Sum.inl r)
  | some (Sum.inr (a0, a1, a2, a3, a4, a5, a6)) => k a0 a1 a2 a3 a4 a5 a6
  | none => none
theorem bx7_z {ρ γ α0 α1 α2 α3 α4 α5 α6 : Type} {x : Option (Sum γ (α0 × α1 × α2 × α3 × α4 × α5 × α6))} {k : α0 → α1 → α2 → α3 → α4 → α5 → α6 → Option (Sum γ ρ)} {r : Sum γ ρ} (h : bx7 x k = some r) : ∃ z, x = some z ∧ (∀ r', z = Sum.inl r' → r = Sum.inl r') ∧ (∀ (a0 : α0) (a1 : α1) (a2 : α2) (a3 : α3) (a4 : α4) (a5 : α5) (a6 : α6), z = Sum.inr (a0, a1, a2, a3, a4, a5, a6) → k a0 a1 a2 a3 a4 a5 a6 = some r) := by
  cases x with
  | none => cases h
  | some v => exact ⟨v, rfl, fun r' e => by subst e; cases h; rfl, fun a0 a1 a2 a3 a4 a5 a6 e => by subst e; exact h⟩
def bd8 {ρ α0 α1 α2 α3 α4 α5 α6 α7 : Type} (x : Option (α0 × α1 × α2 × α3 × α4 × α5 × α6 × α7)) (k : α0 → α1 → α2 → α3 → α4 → α5 → α6 → α7 → Option ρ) : Option ρ := match x with
  | some (a0, a1, a2, a3, a4, a5, a6, a7) => k a0 a1 a2 a3 a4 a5 a6 a7
  | none => none
theorem bd8_e {ρ α0 α1 α2 α3 α4 α5 α6 α7 : Type} {x : Option (α0 × α1 × α2 × α3 × α4 × α5 × α6 × α7)} {k : α0 → α1 → α2 → α3 → α4 → α5 → α6 → α7 → Option ρ} {r : ρ} (h : bd8 x k = some r) : ∃ a0 a1 a2 a3 a4 a5 a6 a7, x = some (a0, a1, a2, a3, a4, a5, a6, a7) ∧ k a0 a1 a2 a3 a4 a5 a6 a7 = some r := by
  cases x with
  | none => cases h
  | some v => exact ⟨v.1, v.2.1, v.2.2.1, v.2.2.2.1, v.2.2.2.2.1, v.2.2.2.2.2.1, v.2.2.2.2.2.2.1, v.2.2.2.2.2.2.2, rfl, h⟩
theorem bd8_i {ρ α0 α1 α2 α3 α4 α5 α6 α7 : Type} {x : Option (α0 × α1 × α2 × α3 × α4 × α5 × α6 × α7)} {k : α0 → α1 → α2 → α3 → α4 → α5 → α6 → α7 → Option ρ} {a0 : α0} {a1 : α1} {a2 : α2} {a3 : α3} {a4 : α4} {a5 : α5} {a6 : α6} {a7 : α7} (h : x = some (a0, a1, a2, a3, a4, a5, a6, a7)) : bd8 x k = k a0 a1 a2 a3 a4 a5 a6 a7 := by rw [h]; rfl
def bx8 {ρ γ α0 α1 α2 α3 α4 α5 α6 α7 : Type} (x : Option (Sum γ (α0 × α1 × α2 × α3 × α4 × α5 × α6 × α7))) (k : α0 → α1 → α2 → α3 → α4 → α5 → α6 → α7 → Option (Sum γ ρ)) : Option (Sum γ ρ) := match x with
  | some (Sum.inl r) => some (Sum.inl r)
  | some (Sum.inr (a0, a1, a2, a3, a4, a5, a6, a7)) => k a0 a1 a2 a3 a4 a5 a6 a7
  | none => none
theorem bx8_z {ρ γ α0 α1 α2 α3 α4 α5 α6 α7 : Type} {x : Option (Sum γ (α0 × α1 × α2 × α3 × α4 × α5 × α6 × α7))} {k : α0 → α1 → α2 → α3 → α4 → α5 → α6 → α7 → Option (Sum γ ρ)} {r : Sum γ ρ} (h : bx8 x k = some r) : ∃ z, x = some z ∧ (∀ r', z = Sum.inl r' → r = Sum.inl r') ∧ (∀ (a0 : α0) (a1 : α1) (a2 : α2) (a3 : α3) (a4 : α4) (a5 : α5) (a6 : α6) (a7 : α7), z = Sum.inr (a0, a1, a2, a3, a4, a5, a6, a7) → k a0 a1 a2 a3 a4 a5 a6 a7 = some r) := by
  cases x with
  | none => cases h
  | some v => exact ⟨v, rfl, fun r' e => by subst e; cases h; rfl, fun a0 a1 a2 a3 a4 a5 a6 a7 e => by subst e; exact h⟩
def bd9 {ρ α0 α1 α2 α3 α4 α5 α6 α7 α8 : Type} (x : Option (α0 × α1 × α2 × α3 × α4 × α5 × α6 × α7 × α8)) (k : α0 → α1 → α2 → α3 → α4 → α5 → α6 → α7 → α8 → Option ρ) : Option ρ := match x with
  | some (a0, a1, a2, a3, a4, a5, a6, a7, a8) => k a0 a1 a2 a3 a4 a5 a6 a7 a8
  | none => none
theorem bd9_e {ρ α0 α1 α2 α3 α4 α5 α6 α7 α8 : Type} {x : Option (α0 × α1 × α2 × α3 × α4 × α5 × α6 × α7 × α8)} {k : α0 → α1 → α2 → α3 → α4 → α5 → α6 → α7 → α8 → Option ρ} {r : ρ} (h : bd9 x k = some r) : ∃ a0 a1 a2 a3 a4 a5 a6 a7 a8, x = some (a0, a1, a2, a3, a4, a5, a6, a7, a8) ∧ k a0 a1 a2 a3 a4 a5 a6 a7 a8 = some r := by
  cases x with
  | none => cases h
  | some v => exact ⟨v.1, v.2.1, v.2.2.1, v.2.2.2.1, v.2.2.2.2.1, v.2.2.2.2.2.1, v.2.2.2.2.2.2.1, v.2.2.2.2.2.2.2.1, v.2.2.2.2.2.2.2.2, rfl, h⟩
theorem bd9_i {ρ α0 α1 α2 α3 α4 α5 α6 α7 α8 : Type} {x : Option (α0 × α1 × α2 × α3 × α4 × α5 × α6 × α7 × α8)} {k : α0 → α1 → α2 → α3 → α4 → α5 → α6 → α7 → α8 → Option ρ} {a0 : α0} {a1 : α1} {a2 : α2} {a3 : α3} {a4 : α4} {a5 : α5} {a6 : α6} {a7 : α7} {a8 : α8} (h : x = some (a0, a1, a2, a3, a4, a5, a6, a7, a8)) : bd9 x k = k a0 a1 a2 a3 a4 a5 a6 a7 a8 := by rw [h]; rfl
def bx9 {ρ γ α0 α1 α2 α3 α4 α5 α6 α7 α8 : Type} (x : Option (Sum γ (α0 × α1 × α2 × α3 × α4 × α5 × α6 × α7 × α8))) (k : α0 → α1 → α2 → α3 → α4 → α5 → α6 → α7 → α8 → Option (Sum γ ρ)) : Option (Sum γ ρ) := match x with
  | some (Sum.inl r) => some (Sum.inl r)
  | some (Sum.inr (a0, a1, a2, a3, a4, a5, a6, a7, a8)) => k a0 a1 a2 a3 a4 a5 a6 a7 a8
  | none => none
theorem bx9_z {ρ γ α0 α1 α2 α3 α4 α5 α6 α7 α8 : Type} {x : Option (Sum γ (α0 × α1 × α2 × α3 × α4 × α5 × α6 × α7 × α8))} {k : α0 → α1 → α2 → α3 → α4 → α5 → α6 → α7 → α8 → Option (Sum γ ρ)} {r : Sum γ ρ} (h : bx9 x k = some r) : ∃ z, x = some z ∧ (∀ r', z = Sum.inl r' → r = Sum.inl r') ∧ (∀ (a0 : α0) (a1 : α1) (a2 : α2) (a3 : α3) (a4 : α4) (a5 : α5) (a6 : α6) (a7 : α7) (a8 : α8), z = Sum.inr (a0, a1, a2, a3, a4, a5, a6, a7, a8) → k a0 a1 a2 a3 a4 a5 a6 a7 a8 = some r) := by
  cases x with
  | none => cases h
  | some v => exact ⟨v, rfl, fun r' e => by subst e; cases h; rfl, fun a0 a1 a2 a3 a4 a5 a6 a7 a8 e => by subst e; exact h⟩
def bd10 {ρ α0 α1 α2 α3 α4 α5 α6 α7 α8 α9 : Type} (x : Option (α0 × α1 × α2 × α3 × α4 × α5 × α6 × α7 × α8 × α9)) (k : α0 → α1 → α2 → α3 → α4 → α5 → α6 → α7 → α8 → α9 → Option ρ) : Option ρ := match x with
  | some (a0, a1, a2, a3, a4, a5, a6, a7, a8, a9) => k a0 a1 a2 a3 a4 a5 a6 a7 a8 a9
  | none => none
theorem bd10_e {ρ α0 α1 α2 α3 α4 α5 α6 α7 α8 α9 : Type} {x : Option (α0 × α1 × α2 × α3 × α4 × α5 × α6 × α7 × α8 × α9)} {k : α0 → α1 → α2 → α3 → α4 → α5 → α6 → α7 → α8 → α9 → Option ρ} {r : ρ} (h : bd10 x k = some r) : ∃ a0 a1 a2 a3 a4 a5 a6 a7 a8 a9, x = some (a0, a1, a2, a3, a4, a5, a6, a7, a8, a9) ∧ k a0 a1 a2 a3 a4 a5 a6 a7 a8 a9 = some r := by
  cases x with
  | none => cases h
  | some v => exact ⟨v.1, v.2.1, v.2.2.1, v.2.2.2.1, v.2.2.2.2.1, v.2.2.2.2.2.1, v.2.2.2.2.2.2.1, v.2.2.2.2.2.2.2.1, v.2.2.2.2.2.2.2.2.1, v.2.2.2.2.2.2.2.2.2, rfl, h⟩
theorem bd10_i {ρ α0 α1 α2 α3 α4 α5 α6 α7 α8 α9 : Type} {x : Option (α0 × α1 × α2 × α3 × α4 × α5 × α6 × α7 × α8 × α9)} {k : α0 → α1 → α2 → α3 → α4 → α5 → α6 → α7 → α8 → α9 → Option ρ} {a0 : α0} {a1 : α1} {a2 : α2} {a3 : α3} {a4 : α4} {a5 : α5} {a6 : α6} {a7 : α7} {a8 : α8} {a9 : α9} (h : x = some (a0, a1, a2, a3, a4, a5, a6, a7, a8, a9)) : bd10 x k = k a0 a1 a2 a3 a4 a5 a6 a7 a8 a9 := by rw [h]; rfl
def bx10 {ρ γ α0 α1 α2 α3 α4 α5 α6 α7 α8 α9 : Type} (x : Option (Sum γ (α0 × α1 × α2 × α3 × α4 × α5 × α6 × α7 × α8 × α9))) (k : α0 → α1 → α2 → α3 → α4 → α5 → α6 → α7 → α8 → α9 → Option (Sum γ ρ)) : Option (Sum γ ρ) := match x with
  | some (Sum.inl r) => some (Sum.inl r)
  | some (Sum.inr (a0, a1, a2, a3, a4, a5, a6, a7, a8, a9)) => k a0 a1 a2 a3 a4 a5 a6 a7 a8 a9
  | none => none
theorem bx10_z {ρ γ α0 α1 α2 α3 α4 α5 α6 α7 α8 α9 : Type} {x : Option (Sum γ (α0 × α1 × α2 × α3 × α4 × α5 × α6 × α7 × α8 × α9))} {k : α0 → α1 → α2 → α3 → α4 → α5 → α6 → α7 → α8 → α9 → Option (Sum γ ρ)} {r : Sum γ ρ} (h : bx10 x k = some r) : ∃ z, x = some z ∧ (∀ r', z = Sum.inl r' → r = Sum.inl r') ∧ (∀ (a0 : α0) (a1 : α1) (a2 : α2) (a3 : α3) (a4 : α4) (a5 : α5) (a6 : α6) (a7 : α7) (a8 : α8) (a9 : α9), z = Sum.inr (a0, a1, a2, a3, a4, a5, a6, a7, a8, a9) → k a0 a1 a2 a3 a4 a5 a6 a7 a8 a9 = some r) := by
  cases x with
  | none => cases h
  | some v => exact ⟨v, rfl, fun r' e => by subst e; cases h; rfl, fun a0 a1 a2 a3 a4 a5 a6 a7 a8 a9 e => by subst e; exact h⟩
def bd11 {ρ α0 α1 α2 α3 α4 α5 α6 α7 α8 α9 α10 : Type} (x : Option (α0 × α1 × α2 × α3 × α4 × α5 × α6 × α7 × α8 × α9 × α10)) (k : α0 → α1 → α2 → α3 → α4 → α5 → α6 → α7 → α8 → α9 → α10 → Option ρ) : Option ρ := match x with
  | some (a0, a1, a2, a3, a4, a5, a6, a7, a8, a9, a10) => k a0 a1 a2 a3 a4 a5 a6 a7 a8 a9 a10
  | none => none
theorem bd11_e {ρ α0 α1 α2 α3 α4 α5 α6 α7 α8 α9 α10 : Type} {x : Option (α0 × α1 × α2 × α3 × α4 × α5 × α6 × α7 × α8 × α9 × α10)} {k : α0 → α1 → α2 → α3 → α4 → α5 → α6 → α7 → α8 → α9 → α10 → Option ρ} {r : ρ} (h : bd11 x k = some r) : ∃ a0 a1 a2 a3 a4 a5 a6 a7 a8 a9 a10, x = some (a0, a1, a2, a3, a4, a5, a6, a7, a8, a9, a10) ∧ k a0 a1 a2 a3 a4 a5 a6 a7 a8 a9 a10 = some r := by
  cases x with
  | none => cases h
  | some v => exact ⟨v.1, v.2.1, v.2.2.1, v.2.2.2.1, v.2.2.2.2.1, v.2.2.2.2.2.1, v.2.2.2.2.2.2.1, v.2.2.2.2.2.2.2.1, v.2.2.2.2.2.2.2.2.1, v.2.2.2.2.2.2.2.2.2.1, v.2.2.2.2.2.2.2.2.2.2, rfl, h⟩
theorem bd11_i {ρ α0 α1 α2 α3 α4 α5 α6 α7 α8 α9 α10 : Type} {x : Option (α0 × α1 × α2 × α3 × α4 × α5 × α6 × α7 × α8 × α9 × α10)} {k : α0 → α1 → α2 → α3 → α4 → α5 → α6 → α7 → α8 → α9 → α10 → Option ρ} {a0 : α0} {a1 : α1} {a2 : α2} {a3 : α3} {a4 : α4} {a5 : α5} {a6 : α6} {a7 : α7} {a8 : α8} {a9 : α9} {a10 : α10} (h : x = some (a0, a1, a2, a3, a4, a5, a6, a7, a8, a9, a10)) : bd11 x k = k a0 a1 a2 a3 a4 a5 a6 a7 a8 a9 a10 := by rw [h]; rfl
def bx11 {ρ γ α0 α1 α2 α3 α4 α5 α6 α7 α8 α9 α10 : Type} (x : Option (Sum γ (α0 × α1 × α2 × α3 × α4 × α5 × α6 × α7 × α8 × α9 × α10))) (k : α0 → α1 → α2 → α3 → α4 → α5 → α6 → α7 → α8 → α9 → α10 → Option (Sum γ ρ)) : Option (Sum γ ρ) := match x with
  | some (Sum.inl r) => some (Sum.inl r)
  | some (Sum.inr (a0, a1, a2, a3, a4, a5, a6, a7, a8, a9, a10)) => k a0 a1 a2 a3 a4 a5 a6 a7 a8 a9 a10
  | none => none
theorem bx11_z {ρ γ α0 α1 α2 α3 α4 α5 α6 α7 α8 α9 α10 : Type} {x : Option (Sum γ (α0 × α1 × α2 × α3 × α4 × α5 × α6 × α7 × α8 × α9 × α10))} {k : α0 → α1 → α2 → α3 → α4 → α5 → α6 → α7 → α8 → α9 → α10 → Option (Sum γ ρ)} {r : Sum γ ρ} (h : bx11 x k = some r) : ∃ z, x = some z ∧ (∀ r', z = Sum.inl r' → r = Sum.inl r') ∧ (∀ (a0 : α0) (a1 : α1) (a2 : α2) (a3 : α3) (a4 : α4) (a5 : α5) (a6 : α6) (a7 : α7) (a8 : α8) (a9 : α9) (a10 : α10), z = Sum.inr (a0, a1, a2, a3, a4, a5, a6, a7, a8, a9, a10) → k a0 a1 a2 a3 a4 a5 a6 a7 a8 a9 a10 = some r) := by
  cases x with
  | none => cases h
  | some v => exact ⟨v, rfl, fun r' e => by subst e; cases h; rfl, fun a0 a1 a2 a3 a4 a5 a6 a7 a8 a9 a10 e => by subst e; exact h⟩
def bd12 {ρ α0 α1 α2 α3 α4 α5 α6 α7 α8 α9 α10 α11 : Type} (x : Option (α0 × α1 × α2 × α3 × α4 × α5 × α6 × α7 × α8 × α9 × α10 × α11)) (k : α0 → α1 → α2 → α3 → α4 → α5 → α6 → α7 → α8 → α9 → α10 → α11 → Option ρ) : Option ρ := match x with
  | some (a0, a1, a2, a3, a4, a5, a6, a7, a8, a9, a10, a11) => k a0 a1 a2 a3 a4 a5 a6 a7 a8 a9 a10 a11
  | none => none
theorem bd12_e {ρ α0 α1 α2 α3 α4 α5 α6 α7 α8 α9 α10 α11 : Type} {x : Option (α0 × α1 × α2 × α3 × α4 × α5 × α6 × α7 × α8 × α9 × α10 × α11)} {k : α0 → α1 → α2 → α3 → α4 → α5 → α6 → α7 → α8 → α9 → α10 → α11 → Option ρ} {r : ρ} (h : bd12 x k = some r) : ∃ a0 a1 a2 a3 a4 a5 a6 a7 a8 a9 a10 a11, x = some (a0, a1, a2, a3, a4, a5, a6, a7, a8, a9, a10, a11) ∧ k a0 a1 a2 a3 a4 a5 a6 a7 a8 a9 a10 a11 = some r := by
  cases x with
  | none => cases h
  | some v => exact ⟨v.1, v.2.1, v.2.2.1, v.2.2.2.1, v.2.2.2.2.1, v.2.2.2.2.2.1, v.2.2.2.2.2.2.1, v.2.2.2.2.2.2.2.1, v.2.2.2.2.2.2.2.2.1, v.2.2.2.2.2.2.2.2.2.1, v.2.2.2.2.2.2.2.2.2.2.1, v.2.2.2.2.2.2.2.2.2.2.2, rfl, h⟩
theorem bd12_i {ρ α0 α1 α2 α3 α4 α5 α6 α7 α8 α9 α10 α11 : Type} {x : Option (α0 × α1 × α2 × α3 × α4 × α5 × α6 × α7 × α8 × α9 × α10 × α11)} {k : α0 → α1 → α2 → α3 → α4 → α5 → α6 → α7 → α8 → α9 → α10 → α11 → Option ρ} {a0 : α0} {a1 : α1} {a2 : α2} {a3 : α3} {a4 : α4} {a5 : α5} {a6 : α6} {a7 : α7} {a8 : α8} {a9 : α9} {a10 : α10} {a11 : α11} (h : x = some (a0, a1, a2, a3, a4, a5, a6, a7, a8, a9, a10, a11)) : bd12 x k = k a0 a1 a2 a3 a4 a5 a6 a7 a8 a9 a10 a11 := by rw [h]; rfl
def bx12 {ρ γ α0 α1 α2 α3 α4 α5 α6 α7 α8 α9 α10 α11 : Type} (x : Option (Sum γ (α0 × α1 × α2 × α3 × α4 × α5 × α6 × α7 × α8 × α9 × α10 × α11))) (k : α0 → α1 → α2 → α3 → α4 → α5 → α6 → α7 → α8 → α9 → α10 → α11 → Option (Sum γ ρ)) : Option (Sum γ ρ) := match x with
  | some (Sum.inl r) => some (Sum.inl r)
  | some (Sum.inr (a0, a1, a2, a3, a4, a5, a6, a7, a8, a9, a10, a11)) => k a0 a1 a2 a3 a4 a5 a6 a7 a8 a9 a10 a11
  | none => none
theorem bx12_z {ρ γ α0 α1 α2 α3 α4 α5 α6 α7 α8 α9 α10 α11 : Type} {x : Option (Sum γ (α0 × α1 × α2 × α3 × α4 × α5 × α6 × α7 × α8 × α9 × α10 × α11))} {k : α0 → α1 → α2 → α3 → α4 → α5 → α6 → α7 → α8 → α9 → α10 → α11 → Option (Sum γ ρ)} {r : Sum γ ρ} (h : bx12 x k = some r) : ∃ z, x = some z ∧ (∀ r', z = Sum.inl r' → r = Sum.inl r') ∧ (∀ (a0 : α0) (a1 : α1) (a2 : α2) (a3 : α3) (a4 : α4) (a5 : α5) (a6 : α6) (a7 : α7) (a8 : α8) (a9 : α9) (a10 : α10) (a11 : α11), z = Sum.inr (a0, a1, a2, a3, a4, a5, a6, a7, a8, a9, a10, a11) → k a0 a1 a2 a3 a4 a5 a6 a7 a8 a9 a10 a11 = some r) := by
  cases x with
  | none => cases h
  | some v => exact ⟨v, rfl, fun r' e => by subst e; cases h; rfl, fun a0 a1 a2 a3 a4 a5 a6 a7 a8 a9 a10 a11 e => by subst e; exact h⟩
def bd13 {ρ α0 α1 α2 α3 α4 α5 α6 α7 α8 α9 α10 α11 α12 : Type} (x : Option (α0 × α1 × α2 × α3 × α4 × α5 × α6 × α7 × α8 × α9 × α10 × α11 × α12)) (k : α0 → α1 → α2 → α3 → α4 → α5 → α6 → α7 → α8 → α9 → α10 → α11 → α12 → Option ρ) : Option ρ := match x with
  | some (a0, a1, a2, a3, a4, a5, a6, a7, a8, a9, a10, a11, a12) => k a0 a1 a2 a3 a4 a5 a6 a7 a8 a9 a10 a11 a12
  | none => none
theorem bd13_e {ρ α0 α1 α2 α3 α4 α5 α6 α7 α8 α9 α10 α11 α12 : Type} {x : Option (α0 × α1 × α2 × α3 × α4 × α5 × α6 × α7 × α8 × α9 × α10 × α11 × α12)} {k : α0 → α1 → α2 → α3 → α4 → α5 → α6 → α7 → α8 → α9 → α10 → α11 → α12 → Option ρ} {r : ρ} (h : bd13 x k = some r) : ∃ a0 a1 a2 a3 a4 a5 a6 a7 a8 a9 a10 a11 a12, x = some (a0, a1, a2, a3, a4, a5, a6, a7, a8, a9, a10, a11, a12) ∧ k a0 a1 a2 a3 a4 a5 a6 a7 a8 a9 a10 a11 a12 = some r := by
  cases x with
  | none => cases h
  | some v => exact ⟨v.1, v.2.1, v.2.2.1, v.2.2.2.1, v.2.2.2.2.1, v.2.2.2.2.2.1, v.2.2.2.2.2.2.1, v.2.2.2.2.2.2.2.1, v.2.2.2.2.2.2.2.2.1, v.2.2.2.2.2.2.2.2.2.1, v.2.2.2.2.2.2.2.2.2.2.1, v.2.2.2.2.2.2.2.2.2.2.2.1, v.2.2.2.2.2.2.2.2.2.2.2.2, rfl, h⟩
theorem bd13_i {ρ α0 α1 α2 α3 α4 α5 α6 α7 α8 α9 α10 α11 α12 : Type} {x : Option (α0 × α1 × α2 × α3 × α4 × α5 × α6 × α7 × α8 × α9 × α10 × α11 × α12)} {k : α0 → α1 → α2 → α3 → α4 → α5 → α6 → α7 → α8 → α9 → α10 → α11 → α12 → Option ρ} {a0 : α0} {a1 : α1} {a2 : α2} {a3 : α3} {a4 : α4} {a5 : α5} {a6 : α6} {a7 : α7} {a8 : α8} {a9 : α9} {a10 : α10} {a11 : α11} {a12 : α12} (h : x = some (a0, a1, a2, a3, a4, a5, a6, a7, a8, a9, a10, a11, a12)) : bd13 x k = k a0 a1 a2 a3 a4 a5 a6 a7 a8 a9 a10 a11 a12 := by rw [h]; rfl
def bx13 {ρ γ α0 α1 α2 α3 α4 α5 α6 α7 α8 α9 α10 α11 α12 : Type} (x : Option (Sum γ (α0 × α1 × α2 × α3 × α4 × α5 × α6 × α7 × α8 × α9 × α10 × α11 × α12))) (k : α0 → α1 → α2 → α3 → α4 → α5 → α6 → α7 → α8 → α9 → α10 → α11 → α12 → Option (Sum γ ρ)) : Option (Sum γ ρ) := match x with
  | some (Sum.inl r) => some (Sum.inl r)
  | some (Sum.inr (a0, a1, a2, a3, a4, a5, a6, a7, a8, a9, a10, a11, a12)) => k a0 a1 a2 a3 a4 a5 a6 a7 a8 a9 a10 a11 a12
  | none => none
theorem bx13_z {ρ γ α0 α1 α2 α3 α4 α5 α6 α7 α8 α9 α10 α11 α12 : Type} {x : Option (Sum γ (α0 × α1 × α2 × α3 × α4 × α5 × α6 × α7 × α8 × α9 × α10 × α11 × α12))} {k : α0 → α1 → α2 → α3 → α4 → α5 → α6 → α7 → α8 → α9 → α10 → α11 → α12 → Option (Sum γ ρ)} {r : Sum γ ρ} (h : bx13 x k = some r) : ∃ z, x = some z ∧ (∀ r', z = Sum.inl r' → r = Sum.inl r') ∧ (∀ (a0 : α0) (a1 : α1) (a2 : α2) (a3 : α3) (a4 : α4) (a5 : α5) (a6 : α6) (a7 : α7) (a8 : α8) (a9 : α9) (a10 : α10) (a11 : α11) (a12 : α12), z = Sum.inr (a0, a1, a2, a3, a4, a5, a6, a7, a8, a9, a10, a11, a12) → k a0 a1 a2 a3 a4 a5 a6 a7 a8 a9 a10 a11 a12 = some r) := by
  cases x with
  | none => cases h
  | some v => exact ⟨v, rfl, fun r' e => by subst e; cases h; rfl, fun a0 a1 a2 a3 a4 a5 a6 a7 a8 a9 a10 a11 a12 e => by subst e; exact h⟩
def bd14 {ρ α0 α1 α2 α3 α4 α5 α6 α7 α8 α9 α10 α11 α12 α13 : Type} (x : Option (α0 × α1 × α2 × α3 × α4 × α5 × α6 × α7 × α8 × α9 × α10 × α11 × α12 × α13)) (k : α0 → α1 → α2 → α3 → α4 → α5 → α6 → α7 → α8 → α9 → α10 → α11 → α12 → α13 → Option ρ) : Option ρ := match x with
  | some (a0, a1, a2, a3, a4, a5, a6, a7, a8, a9, a10, a11, a12, a13) => k a0 a1 a2 a3 a4 a5 a6 a7 a8 a9 a10 a11 a12 a13
  | none => none
theorem bd14_e {ρ α0 α1 α2 α3 α4 α5 α6 α7 α8 α9 α10 α11 α12 α13 : Type} {x : Option (α0 × α1 × α2 × α3 × α4 × α5 × α6 × α7 × α8 × α9 × α10 × α11 × α12 × α13)} {k : α0 → α1 → α2 → α3 → α4 → α5 → α6 → α7 → α8 → α9 → α10 → α11 → α12 → α13 → Option ρ} {r : ρ} (h : bd14 x k = some r) : ∃ a0 a1 a2 a3 a4 a5 a6 a7 a8 a9 a10 a11 a12 a13, x = some (a0, a1, a2, a3, a4, a5, a6, a7, a8, a9, a10, a11, a12, a13) ∧ k a0 a1 a2 a3 a4 a5 a6 a7 a8 a9 a10 a11 a12 a13 = some r := by
  cases x with
  | none => cases h
  | some v => exact ⟨v.1, v.2.1, v.2.2.1, v.2.2.2.1, v.2.2.2.2.1, v.2.2.2.2.2.1, v.2.2.2.2.2.2.1, v.2.2.2.2.2.2.2.1, v.2.2.2.2.2.2.2.2.1, v.2.2.2.2.2.2.2.2.2.1, v.2.2.2.2.2.2.2.2.2.2.1, v.2.2.2.2.2.2.2.2.2.2.2.1, v.2.2.2.2.2.2.2.2.2.2.2.2.1, v.2.2.2.2.2.2.2.2.2.2.2.2.2, rfl, h⟩
theorem bd14_i {ρ α0 α1 α2 α3 α4 α5 α6 α7 α8 α9 α10 α11 α12 α13 : Type} {x : Option (α0 × α1 × α2 × α3 × α4 × α5 × α6 × α7 × α8 × α9 × α10 × α11 × α12 × α13)} {k : α0 → α1 → α2 → α3 → α4 → α5 → α6 → α7 → α8 → α9 → α10 → α11 → α12 → α13 → Option ρ} {a0 : α0} {a1 : α1} {a2 : α2} {a3 : α3} {a4 : α4} {a5 : α5} {a6 : α6} {a7 : α7} {a8 : α8} {a9 : α9} {a10 : α10} {a11 : α11} {a12 : α12} {a13 : α13} (h : x = some (a0, a1, a2, a3, a4, a5, a6, a7, a8, a9, a10, a11, a12, a13)) : bd14 x k = k a0 a1 a2 a3 a4 a5 a6 a7 a8 a9 a10 a11 a12 a13 := by rw [h]; rfl
def bx14 {ρ γ α0 α1 α2 α3 α4 α5 α6 α7 α8 α9 α10 α11 α12 α13 : Type} (x : Option (Sum γ (α0 × α1 × α2 × α3 × α4 × α5 × α6 × α7 × α8 × α9 × α10 × α11 × α12 × α13))) (k : α0 → α1 → α2 → α3 → α4 → α5 → α6 → α7 → α8 → α9 → α10 → α11 → α12 → α13 → Option (Sum γ ρ)) : Option (Sum γ ρ) := match x with
  | some (Sum.inl r) => some (Sum.inl r)
  | some (Sum.inr (a0, a1, a2, a3, a4, a5, a6, a7, a8, a9, a10, a11, a12, a13)) => k a0 a1 a2 a3 a4 a5 a6 a7 a8 a9 a10 a11 a12 a13
  | none => none
theorem bx14_z {ρ γ α0 α1 α2 α3 α4 α5 α6 α7 α8 α9 α10 α11 α12 α13 : Type} {x : Option (Sum γ (α0 × α1 × α2 × α3 × α4 × α5 × α6 × α7 × α8 × α9 × α10 × α11 × α12 × α13))} {k : α0 → α1 → α2 → α3 → α4 → α5 → α6 → α7 → α8 → α9 → α10 → α11 → α12 → α13 → Option (Sum γ ρ)} {r : Sum γ ρ} (h : bx14 x k = some r) : ∃ z, x = some z ∧ (∀ r', z = Sum.inl r' → r = Sum.inl r') ∧ (∀ (a0 : α0) (a1 : α1) (a2 : α2) (a3 : α3) (a4 : α4) (a5 : α5) (a6 : α6) (a7 : α7) (a8 : α8) (a9 : α9) (a10 : α10) (a11 : α11) (a12 : α12) (a13 : α13), z = Sum.inr (a0, a1, a2, a3, a4, a5, a6, a7, a8, a9, a10, a11, a12, a13) → k a0 a1 a2 a3 a4 a5 a6 a7 a8 a9 a10 a11 a12 a13 = some r) := by
  cases x with
  | none => cases h
  | some v => exact ⟨v, rfl, fun r' e => by subst e; cases h; rfl, fun a0 a1 a2 a3 a4 a5 a6 a7 a8 a9 a10 a11 a12 a13 e => by subst e; exact h⟩
def bd15 {ρ α0 α1 α2 α3 α4 α5 α6 α7 α8 α9 α10 α11 α12 α13 α14 : Type} (x : Option (α0 × α1 × α2 × α3 × α4 × α5 × α6 × α7 × α8 × α9 × α10 × α11 × α12 × α13 × α14)) (k : α0 → α1 → α2 → α3 → α4 → α5 → α6 → α7 → α8 → α9 → α10 → α11 → α12 → α13 → α14 → Option ρ) : Option ρ := match x with
  | some (a0, a1, a2, a3, a4, a5, a6, a7, a8, a9, a10, a11, a12, a13, a14) => k a0 a1 a2 a3 a4 a5 a6 a7 a8 a9 a10 a11 a12 a13 a14
  | none => none
theorem bd15_e {ρ α0 α1 α2 α3 α4 α5 α6 α7 α8 α9 α10 α11 α12 α13 α14 : Type} {x : Option (α0 × α1 × α2 × α3 × α4 × α5 × α6 × α7 × α8 × α9 × α10 × α11 × α12 × α13 × α14)} {k : α0 → α1 → α2 → α3 → α4 → α5 → α6 → α7 → α8 → α9 → α10 → α11 → α12 → α13 → α14 → Option ρ} {r : ρ} (h : bd15 x k = some r) : ∃ a0 a1 a2 a3 a4 a5 a6 a7 a8 a9 a10 a11 a12 a13 a14, x = some (a0, a1, a2, a3, a4, a5, a6, a7, a8, a9, a10, a11, a12, a13, a14) ∧ k a0 a1 a2 a3 a4 a5 a6 a7 a8 a9 a10 a11 a12 a13 a14 = some r := by
  cases x with
  | none => cases h
  | some v => exact ⟨v.1, v.2.1, v.2.2.1, v.2.2.2.1, v.2.2.2.2.1, v.2.2.2.2.2.1, v.2.2.2.2.2.2.1, v.2.2.2.2.2.2.2.1, v.2.2.2.2.2.2.2.2.1, v.2.2.2.2.2.2.2.2.2.1, v.2.2.2.2.2.2.2.2.2.2.1, v.2.2.2.2.2.2.2.2.2.2.2.1, v.2.2.2.2.2.2.2.2.2.2.2.2.1, v.2.2.2.2.2.2.2.2.2.2.2.2.2.1, v.2.2.2.2.2.2.2.2.2.2.2.2.2.2, rfl, h⟩
theorem bd15_i {ρ α0 α1 α2 α3 α4 α5 α6 α7 α8 α9 α10 α11 α12 α13 α14 : Type} {x : Option (α0 × α1 × α2 × α3 × α4 × α5 × α6 × α7 × α8 × α9 × α10 × α11 × α12 × α13 × α14)} {k : α0 → α1 → α2 → α3 → α4 → α5 → α6 → α7 → α8 → α9 → α10 → α11 → α12 → α13 → α14 → Option ρ} {a0 : α0} {a1 : α1} {a2 : α2} {a3 : α3} {a4 : α4} {a5 : α5} {a6 : α6} {a7 : α7} {a8 : α8} {a9 : α9} {a10 : α10} {a11 : α11} {a12 : α12} {a13 : α13} {a14 : α14} (h : x = some (a0, a1, a2, a3, a4, a5, a6, a7, a8, a9, a10, a11, a12, a13, a14)) : bd15 x k = k a0 a1 a2 a3 a4 a5 a6 a7 a8 a9 a10 a11 a12 a13 a14 := by rw [h]; rfl
def bx15 {ρ γ α0 α1 α2 α3 α4 α5 α6 α7 α8 α9 α10 α11 α12 α13 α14 : Type} (x : Option (Sum γ (α0 × α1 × α2 × α3 × α4 × α5 × α6 × α7 × α8 × α9 × α10 × α11 × α12 × α13 × α14))) (k : α0 → α1 → α2 → α3 → α4 → α5 → α6 → α7 → α8 → α9 → α10 → α11 → α12 → α13 → α14 → Option (Sum γ ρ)) : Option (Sum γ ρ) := match x with
  | some (Sum.inl r) => some (Sum.inl r)
  | some (Sum.inr (a0, a1, a2, a3, a4, a5, a6, a7, a8, a9, a10, a11, a12, a13, a14)) => k a0 a1 a2 a3 a4 a5 a6 a7 a8 a9 a10 a11 a12 a13 a14
  | none => none
theorem bx15_z {ρ γ α0 α1 α2 α3 α4 α5 α6 α7 α8 α9 α10 α11 α12 α13 α14 : Type} {x : Option (Sum γ (α0 × α1 × α2 × α3 × α4 × α5 × α6 × α7 × α8 × α9 × α10 × α11 × α12 × α13 × α14))} {k : α0 → α1 → α2 → α3 → α4 → α5 → α6 → α7 → α8 → α9 → α10 → α11 → α12 → α13 → α14 → Option (Sum γ ρ)} {r : Sum γ ρ} (h : bx15 x k = some r) : ∃ z, x = some z ∧ (∀ r', z = Sum.inl r' → r = Sum.inl r') ∧ (∀ (a0 : α0) (a1 : α1) (a2 : α2) (a3 : α3) (a4 : α4) (a5 : α5) (a6 : α6) (a7 : α7) (a8 : α8) (a9 : α9) (a10 : α10) (a11 : α11) (a12 : α12) (a13 : α13) (a14 : α14), z = Sum.inr (a0, a1, a2, a3, a4, a5, a6, a7, a8, a9, a10, a11, a12, a13, a14) → k a0 a1 a2 a3 a4 a5 a6 a7 a8 a9 a10 a11 a12 a13 a14 = some r) := by
  cases x with
  | none => cases h
  | some v => exact ⟨v, rfl, fun r' e => by subst e; cases h; rfl, fun a0 a1 a2 a3 a4 a5 a6 a7 a8 a9 a10 a11 a12 a13 a14 e => by subst e; exact h⟩
def bd16 {ρ α0 α1 α2 α3 α4 α5 α6 α7 α8 α9 α10 α11 α12 α13 α14 α15 : Type} (x : Option (α0 × α1 × α2 × α3 × α4 × α5 × α6 × α7 × α8 × α9 × α10 × α11 × α12 × α13 × α14 × α15)) (k : α0 → α1 → α2 → α3 → α4 → α5 → α6 → α7 → α8 → α9 → α10 → α11 → α12 → α13 → α14 → α15 → Option ρ) : Option ρ := match x with
  | some (a0, a1, a2, a3, a4, a5, a6, a7, a8, a9, a10, a11, a12, a13, a14, a15) => k a0 a1 a2 a3 a4 a5 a6 a7 a8 a9 a10 a11 a12 a13 a14 a15
  | none => none
theorem bd16_e {ρ α0 α1 α2 α3 α4 α5 α6 α7 α8 α9 α10 α11 α12 α13 α14 α15 : Type} {x : Option (α0 × α1 × α2 × α3 × α4 × α5 × α6 × α7 × α8 × α9 × α10 × α11 × α12 × α13 × α14 × α15)} {k : α0 → α1 → α2 → α3 → α4 → α5 → α6 → α7 → α8 → α9 → α10 → α11 → α12 → α13 → α14 → α15 → Option ρ} {r : ρ} (h : bd16 x k = some r) : ∃ a0 a1 a2 a3 a4 a5 a6 a7 a8 a9 a10 a11 a12 a13 a14 a15, x = some (a0, a1, a2, a3, a4, a5, a6, a7, a8, a9, a10, a11, a12, a13, a14, a15) ∧ k a0 a1 a2 a3 a4 a5 a6 a7 a8 a9 a10 a11 a12 a13 a14 a15 = some r := by
  cases x with
  | none => cases h
  | some v => exact ⟨v.1, v.2.1, v.2.2.1, v.2.2.2.1, v.2.2.2.2.1, v.2.2.2.2.2.1, v.2.2.2.2.2.2.1, v.2.2.2.2.2.2.2.1, v.2.2.2.2.2.2.2.2.1, v.2.2.2.2.2.2.2.2.2.1, v.2.2.2.2.2.2.2.2.2.2.1, v.2.2.2.2.2.2.2.2.2.2.2.1, v.2.2.2.2.2.2.2.2.2.2.2.2.1, v.2.2.2.2.2.2.2.2.2.2.2.2.2.1, v.2.2.2.2.2.2.2.2.2.2.2.2.2.2.1, v.2.2.2.2.2.2.2.2.2.2.2.2.2.2.2, rfl, h⟩
theorem bd16_i {ρ α0 α1 α2 α3 α4 α5 α6 α7 α8 α9 α10 α11 α12 α13 α14 α15 : Type} {x : Option (α0 × α1 × α2 × α3 × α4 × α5 × α6 × α7 × α8 × α9 × α10 × α11 × α12 × α13 × α14 × α15)} {k : α0 → α1 → α2 → α3 → α4 → α5 → α6 → α7 → α8 → α9 → α10 → α11 → α12 → α13 → α14 → α15 → Option ρ} {a0 : α0} {a1 : α1} {a2 : α2} {a3 : α3} {a4 : α4} {a5 : α5} {a6 : α6} {a7 : α7} {a8 : α8} {a9 : α9} {a10 : α10} {a11 : α11} {a12 : α12} {a13 : α13} {a14 : α14} {a15 : α15} (h : x = some (a0, a1, a2, a3, a4, a5, a6, a7, a8, a9, a10, a11, a12, a13, a14, a15)) : bd16 x k = k a0 a1 a2 a3 a4 a5 a6 a7 a8 a9 a10 a11 a12 a13 a14 a15 := by rw [h]; rfl
def bx16 {ρ γ α0 α1 α2 α3 α4 α5 α6 α7 α8 α9 α10 α11 α12 α13 α14 α15 : Type} (x : Option (Sum γ (α0 × α1 × α2 × α3 × α4 × α5 × α6 × α7 × α8 × α9 × α10 × α11 × α12 × α13 × α14 × α15))) (k : α0 → α1 → α2 → α3 → α4 → α5 → α6 → α7 → α8 → α9 → α10 → α11 → α12 → α13 → α14 → α15 → Option (Sum γ ρ)) : Option (Sum γ ρ) := match x with
  | some (Sum.inl r) => some (Sum.inl r)
  | some (Sum.inr (a0, a1, a2, a3, a4, a5, a6, a7, a8, a9, a10, a11, a12, a13, a14, a15)) => k a0 a1 a2 a3 a4 a5 a6 a7 a8 a9 a10 a11 a12 a13 a14 a15
  | none => none
theorem bx16_z {ρ γ α0 α1 α2 α3 α4 α5 α6 α7 α8 α9 α10 α11 α12 α13 α14 α15 : Type} {x : Option (Sum γ (α0 × α1 × α2 × α3 × α4 × α5 × α6 × α7 × α8 × α9 × α10 × α11 × α12 × α13 × α14 × α15))} {k : α0 → α1 → α2 → α3 → α4 → α5 → α6 → α7 → α8 → α9 → α10 → α11 → α12 → α13 → α14 → α15 → Option (Sum γ ρ)} {r : Sum γ ρ} (h : bx16 x k = some r) : ∃ z, x = some z ∧ (∀ r', z = Sum.inl r' → r = Sum.inl r') ∧ (∀ (a0 : α0) (a1 : α1) (a2 : α2) (a3 : α3) (a4 : α4) (a5 : α5) (a6 : α6) (a7 : α7) (a8 : α8) (a9 : α9) (a10 : α10) (a11 : α11) (a12 : α12) (a13 : α13) (a14 : α14) (a15 : α15), z = Sum.inr (a0, a1, a2, a3, a4, a5, a6, a7, a8, a9, a10, a11, a12, a13, a14, a15) → k a0 a1 a2 a3 a4 a5 a6 a7 a8 a9 a10 a11 a12 a13 a14 a15 = some r) := by
  cases x with
  | none => cases h
  | some v => exact ⟨v, rfl, fun r' e => by subst e; cases h; rfl, fun a0 a1 a2 a3 a4 a5 a6 a7 a8 a9 a10 a11 a12 a13 a14 a15 e => by subst e; exact h⟩
def bd17 {ρ α0 α1 α2 α3 α4 α5 α6 α7 α8 α9 α10 α11 α12 α13 α14 α15 α16 : Type} (x : Option (α0 × α1 × α2 × α3 × α4 × α5 × α6 × α7 × α8 × α9 × α10 × α11 × α12 × α13 × α14 × α15 × α16)) (k : α0 → α1 → α2 → α3 → α4 → α5 → α6 → α7 → α8 → α9 → α10 → α11 → α12 → α13 → α14 → α15 → α16 → Option ρ) : Option ρ := match x with
  | some (a0, a1, a2, a3, a4, a5, a6, a7, a8, a9, a10, a11, a12, a13, a14, a15, a16) => k a0 a1 a2 a3 a4 a5 a6 a7 a8 a9 a10 a11 a12 a13 a14 a15 a16
  | none => none
theorem bd17_e {ρ α0 α1 α2 α3 α4 α5 α6 α7 α8 α9 α10 α11 α12 α13 α14 α15 α16 : Type} {x : Option (α0 × α1 × α2 × α3 × α4 × α5 × α6 × α7 × α8 × α9 × α10 × α11 × α12 × α13 × α14 × α15 × α16)} {k : α0 → α1 → α2 → α3 → α4 → α5 → α6 → α7 → α8 → α9 → α10 → α11 → α12 → α13 → α14 → α15 → α16 → Option ρ} {r : ρ} (h : bd17 x k = some r) : ∃ a0 a1 a2 a3 a4 a5 a6 a7 a8 a9 a10 a11 a12 a13 a14 a15 a16, x = some (a0, a1, a2, a3, a4, a5, a6, a7, a8, a9, a10, a11, a12, a13, a14, a15, a16) ∧ k a0 a1 a2 a3 a4 a5 a6 a7 a8 a9 a10 a11 a12 a13 a14 a15 a16 = some r := by
  cases x with
  | none => cases h
  | some v => exact ⟨v.1, v.2.1, v.2.2.1, v.2.2.2.1, v.2.2.2.2.1, v.2.2.2.2.2.1, v.2.2.2.2.2.2.1, v.2.2.2.2.2.2.2.1, v.2.2.2.2.2.2.2.2.1, v.2.2.2.2.2.2.2.2.2.1, v.2.2.2.2.2.2.2.2.2.2.1, v.2.2.2.2.2.2.2.2.2.2.2.1, v.2.2.2.2.2.2.2.2.2.2.2.2.1, v.2.2.2.2.2.2.2.2.2.2.2.2.2.1, v.2.2.2.2.2.2.2.2.2.2.2.2.2.2.1, v.2.2.2.2.2.2.2.2.2.2.2.2.2.2.2.1, v.2.2.2.2.2.2.2.2.2.2.2.2.2.2.2.2, rfl, h⟩
theorem bd17_i {ρ α0 α1 α2 α3 α4 α5 α6 α7 α8 α9 α10 α11 α12 α13 α14 α15 α16 : Type} {x : Option (α0 × α1 × α2 × α3 × α4 × α5 × α6 × α7 × α8 × α9 × α10 × α11 × α12 × α13 × α14 × α15 × α16)} {k : α0 → α1 → α2 → α3 → α4 → α5 → α6 → α7 → α8 → α9 → α10 → α11 → α12 → α13 → α14 → α15 → α16 → Option ρ} {a0 : α0} {a1 : α1} {a2 : α2} {a3 : α3} {a4 : α4} {a5 : α5} {a6 : α6} {a7 : α7} {a8 : α8} {a9 : α9} {a10 : α10} {a11 : α11} {a12 : α12} {a13 : α13} {a14 : α14} {a15 : α15} {a16 : α16} (h : x = some (a0, a1, a2, a3, a4, a5, a6, a7, a8, a9, a10, a11, a12, a13, a14, a15, a16)) : bd17 x k = k a0 a1 a2 a3 a4 a5 a6 a7 a8 a9 a10 a11 a12 a13 a14 a15 a16 := by rw [h]; rfl
def bx17 {ρ γ α0 α1 α2 α3 α4 α5 α6 α7 α8 α9 α10 α11 α12 α13 α14 α15 α16 : Type} (x : Option (Sum γ (α0 × α1 × α2 × α3 × α4 × α5 × α6 × α7 × α8 × α9 × α10 × α11 × α12 × α13 × α14 × α15 × α16))) (k : α0 → α1 → α2 → α3 → α4 → α5 → α6 → α7 → α8 → α9 → α10 → α11 → α12 → α13 → α14 → α15 → α16 → Option (Sum γ ρ)) : Option (Sum γ ρ) := match x with
  | some (Sum.inl r) => some (Sum.inl r)
  | some (Sum.inr (a0, a1, a2, a3, a4, a5, a6, a7, a8, a9, a10, a11, a12, a13, a14, a15, a16)) => k a0 a1 a2 a3 a4 a5 a6 a7 a8 a9 a10 a11 a12 a13 a14 a15 a16
  | none => none
theorem bx17_z {ρ γ α0 α1 α2 α3 α4 α5 α6 α7 α8 α9 α10 α11 α12 α13 α14 α15 α16 : Type} {x : Option (Sum γ (α0 × α1 × α2 × α3 × α4 × α5 × α6 × α7 × α8 × α9 × α10 × α11 × α12 × α13 × α14 × α15 × α16))} {k : α0 → α1 → α2 → α3 → α4 → α5 → α6 → α7 → α8 → α9 → α10 → α11 → α12 → α13 → α14 → α15 → α16 → Option (Sum γ ρ)} {r : Sum γ ρ} (h : bx17 x k = some r) : ∃ z, x = some z ∧ (∀ r', z = Sum.inl r' → r = Sum.inl r') ∧ (∀ (a0 : α0) (a1 : α1) (a2 : α2) (a3 : α3) (a4 : α4) (a5 : α5) (a6 : α6) (a7 : α7) (a8 : α8) (a9 : α9) (a10 : α10) (a11 : α11) (a12 : α12) (a13 : α13) (a14 : α14) (a15 : α15) (a16 : α16), z = Sum.inr (a0, a1, a2, a3, a4, a5, a6, a7, a8, a9, a10, a11, a12, a13, a14, a15, a16) → k a0 a1 a2 a3 a4 a5 a6 a7 a8 a9 a10 a11 a12 a13 a14 a15 a16 = some r) := by
  cases x with
  | none => cases h
  | some v => exact ⟨v, rfl, fun r' e => by subst e; cases h; rfl, fun a0 a1 a2 a3 a4 a5 a6 a7 a8 a9 a10 a11 a12 a13 a14 a15 a16 e => by subst e; exact h⟩
def bd18 {ρ α0 α1 α2 α3 α4 α5 α6 α7 α8 α9 α10 α11 α12 α13 α14 α15 α16 α17 : Type} (x : Option (α0 × α1 × α2 × α3 × α4 × α5 × α6 × α7 × α8 × α9 × α10 × α11 × α12 × α13 × α14 × α15 × α16 × α17)) (k : α0 → α1 → α2 → α3 → α4 → α5 → α6 → α7 → α8 → α9 → α10 → α11 → α12 → α13 → α14 → α15 → α16 → α17 → Option ρ) : Option ρ := match x with
  | some (a0, a1, a2, a3, a4, a5, a6, a7, a8, a9, a10, a11, a12, a13, a14, a15, a16, a17) => k a0 a1 a2 a3 a4 a5 a6 a7 a8 a9 a10 a11 a12 a13 a14 a15 a16 a17
  | none => none
theorem bd18_e {ρ α0 α1 α2 α3 α4 α5 α6 α7 α8 α9 α10 α11 α12 α13 α14 α15 α16 α17 : Type} {x : Option (α0 × α1 × α2 × α3 × α4 × α5 × α6 × α7 × α8 × α9 × α10 × α11 × α12 × α13 × α14 × α15 × α16 × α17)} {k : α0 → α1 → α2 → α3 → α4 → α5 → α6 → α7 → α8 → α9 → α10 → α11 → α12 → α13 → α14 → α15 → α16 → α17 → Option ρ} {r : ρ} (h : bd18 x k = some r) : ∃ a0 a1 a2 a3 a4 a5 a6 a7 a8 a9 a10 a11 a12 a13 a14 a15 a16 a17, x = some (a0, a1, a2, a3, a4, a5, a6, a7, a8, a9, a10, a11, a12, a13, a14, a15, a16, a17) ∧ k a0 a1 a2 a3 a4 a5 a6 a7 a8 a9 a10 a11 a12 a13 a14 a15 a16 a17 = some r := by
  cases x with
  | none => cases h
  | some v => exact ⟨v.1, v.2.1, v.2.2.1, v.2.2.2.1, v.2.2.2.2.1, v.2.2.2.2.2.1, v.2.2.2.2.2.2.1, v.2.2.2.2.2.2.2.1, v.2.2.2.2.2.2.2.2.1, v.2.2.2.2.2.2.2.2.2.1, v.2.2.2.2.2.2.2.2.2.2.1, v.2.2.2.2.2.2.2.2.2.2.2.1, v.2.2.2.2.2.2.2.2.2.2.2.2.1, v.2.2.2.2.2.2.2.2.2.2.2.2.2.1, v.2.2.2.2.2.2.2.2.2.2.2.2.2.2.1, v.2.2.2.2.2.2.2.2.2.2.2.2.2.2.2.1, v.2.2.2.2.2.2.2.2.2.2.2.2.2.2.2.2.1, v.2.2.2.2.2.2.2.2.2.2.2.2.2.2.2.2.2, rfl, h⟩
theorem bd18_i {ρ α0 α1 α2 α3 α4 α5 α6 α7 α8 α9 α10 α11 α12 α13 α14 α15 α16 α17 : Type} {x : Option (α0 × α1 × α2 × α3 × α4 × α5 × α6 × α7 × α8 × α9 × α10 × α11 × α12 × α13 × α14 × α15 × α16 × α17)} {k : α0 → α1 → α2 → α3 → α4 → α5 → α6 → α7 → α8 → α9 → α10 → α11 → α12 → α13 → α14 → α15 → α16 → α17 → Option ρ} {a0 : α0} {a1 : α1} {a2 : α2} {a3 : α3} {a4 : α4} {a5 : α5} {a6 : α6} {a7 : α7} {a8 : α8} {a9 : α9} {a10 : α10} {a11 : α11} {a12 : α12} {a13 : α13} {a14 : α14} {a15 : α15} {a16 : α16} {a17 : α17} (h : x = some (a0, a1, a2, a3, a4, a5, a6, a7, a8, a9, a10, a11, a12, a13, a14, a15, a16, a17)) : bd18 x k = k a0 a1 a2 a3 a4 a5 a6 a7 a8 a9 a10 a11 a12 a13 a14 a15 a16 a17 := by rw [h]; rfl
def bx18 {ρ γ α0 α1 α2 α3 α4 α5 α6 α7 α8 α9 α10 α11 α12 α13 α14 α15 α16 α17 : Type} (x : Option (Sum γ (α0 × α1 × α2 × α3 × α4 × α5 × α6 × α7 × α8 × α9 × α10 × α11 × α12 × α13 × α14 × α15 × α16 × α17))) (k : α0 → α1 → α2 → α3 → α4 → α5 → α6 → α7 → α8 → α9 → α10 → α11 → α12 → α13 → α14 → α15 → α16 → α17 → Option (Sum γ ρ)) : Option (Sum γ ρ) := match x with
  | some (Sum.inl r) => some (Sum.inl r)
  | some (Sum.inr (a0, a1, a2, a3, a4, a5, a6, a7, a8, a9, a10, a11, a12, a13, a14, a15, a16, a17)) => k a0 a1 a2 a3 a4 a5 a6 a7 a8 a9 a10 a11 a12 a13 a14 a15 a16 a17
  | none => none
theorem bx18_z {ρ γ α0 α1 α2 α3 α4 α5 α6 α7 α8 α9 α10 α11 α12 α13 α14 α15 α16 α17 : Type} {x : Option (Sum γ (α0 × α1 × α2 × α3 × α4 × α5 × α6 × α7 × α8 × α9 × α10 × α11 × α12 × α13 × α14 × α15 × α16 × α17))} {k : α0 → α1 → α2 → α3 → α4 → α5 → α6 → α7 → α8 → α9 → α10 → α11 → α12 → α13 → α14 → α15 → α16 → α17 → Option (Sum γ ρ)} {r : Sum γ ρ} (h : bx18 x k = some r) : ∃ z, x = some z ∧ (∀ r', z = Sum.inl r' → r = Sum.inl r') ∧ (∀ (a0 : α0) (a1 : α1) (a2 : α2) (a3 : α3) (a4 : α4) (a5 : α5) (a6 : α6) (a7 : α7) (a8 : α8) (a9 : α9) (a10 : α10) (a11 : α11) (a12 : α12) (a13 : α13) (a14 : α14) (a15 : α15) (a16 : α16) (a17 : α17), z = Sum.inr (a0, a1, a2, a3, a4, a5, a6, a7, a8, a9, a10, a11, a12, a13, a14, a15, a16, a17) → k a0 a1 a2 a3 a4 a5 a6 a7 a8 a9 a10 a11 a12 a13 a14 a15 a16 a17 = some r) := by
  cases x with
  | none => cases h
  | some v => exact ⟨v, rfl, fun r' e => by subst e; cases h; rfl, fun a0 a1 a2 a3 a4 a5 a6 a7 a8 a9 a10 a11 a12 a13 a14 a15 a16 a17 e => by subst e; exact h⟩
def bd19 {ρ α0 α1 α2 α3 α4 α5 α6 α7 α8 α9 α10 α11 α12 α13 α14 α15 α16 α17 α18 : Type} (x : Option (α0 × α1 × α2 × α3 × α4 × α5 × α6 × α7 × α8 × α9 × α10 × α11 × α12 × α13 × α14 × α15 × α16 × α17 × α18)) (k : α0 → α1 → α2 → α3 → α4 → α5 → α6 → α7 → α8 → α9 → α10 → α11 → α12 → α13 → α14 → α15 → α16 → α17 → α18 → Option ρ) : Option ρ := match x with
  | some (a0, a1, a2, a3, a4, a5, a6, a7, a8, a9, a10, a11, a12, a13, a14, a15, a16, a17, a18) => k a0 a1 a2 a3 a4 a5 a6 a7 a8 a9 a10 a11 a12 a13 a14 a15 a16 a17 a18
  | none => none
theorem bd19_e {ρ α0 α1 α2 α3 α4 α5 α6 α7 α8 α9 α10 α11 α12 α13 α14 α15 α16 α17 α18 : Type} {x : Option (α0 × α1 × α2 × α3 × α4 × α5 × α6 × α7 × α8 × α9 × α10 × α11 × α12 × α13 × α14 × α15 × α16 × α17 × α18)} {k : α0 → α1 → α2 → α3 → α4 → α5 → α6 → α7 → α8 → α9 → α10 → α11 → α12 → α13 → α14 → α15 → α16 → α17 → α18 → Option ρ} {r : ρ} (h : bd19 x k = some r) : ∃ a0 a1 a2 a3 a4 a5 a6 a7 a8 a9 a10 a11 a12 a13 a14 a15 a16 a17 a18, x = some (a0, a1, a2, a3, a4, a5, a6, a7, a8, a9, a10, a11, a12, a13, a14, a15, a16, a17, a18) ∧ k a0 a1 a2 a3 a4 a5 a6 a7 a8 a9 a10 a11 a12 a13 a14 a15 a16 a17 a18 = some r := by
  cases x with
  | none => cases h
  | some v => exact ⟨v.1, v.2.1, v.2.2.1, v.2.2.2.1, v.2.2.2.2.1, v.2.2.2.2.2.1, v.2.2.2.2.2.2.1, v.2.2.2.2.2.2.2.1, v.2.2.2.2.2.2.2.2.1, v.2.2.2.2.2.2.2.2.2.1, v.2.2.2.2.2.2.2.2.2.2.1, v.2.2.2.2.2.2.2.2.2.2.2.1, v.2.2.2.2.2.2.2.2.2.2.2.2.1, v.2.2.2.2.2.2.2.2.2.2.2.2.2.1, v.2.2.2.2.2.2.2.2.2.2.2.2.2.2.1, v.2.2.2.2.2.2.2.2.2.2.2.2.2.2.2.1, v.2.2.2.2.2.2.2.2.2.2.2.2.2.2.2.2.1, v.2.2.2.2.2.2.2.2.2.2.2.2.2.2.2.2.2.1, v.2.2.2.2.2.2.2.2.2.2.2.2.2.2.2.2.2.2, rfl, h⟩
theorem bd19_i {ρ α0 α1 α2 α3 α4 α5 α6 α7 α8 α9 α10 α11 α12 α13 α14 α15 α16 α17 α18 : Type} {x : Option (α0 × α1 × α2 × α3 × α4 × α5 × α6 × α7 × α8 × α9 × α10 × α11 × α12 × α13 × α14 × α15 × α16 × α17 × α18)} {k : α0 → α1 → α2 → α3 → α4 → α5 → α6 → α7 → α8 → α9 → α10 → α11 → α12 → α13 → α14 → α15 → α16 → α17 → α18 → Option ρ} {a0 : α0} {a1 : α1} {a2 : α2} {a3 : α3} {a4 : α4} {a5 : α5} {a6 : α6} {a7 : α7} {a8 : α8} {a9 : α9} {a10 : α10} {a11 : α11} {a12 : α12} {a13 : α13} {a14 : α14} {a15 : α15} {a16 : α16} {a17 : α17} {a18 : α18} (h : x = some (a0, a1, a2, a3, a4, a5, a6, a7, a8, a9, a10, a11, a12, a13, a14, a15, a16, a17, a18)) : bd19 x k = k a0 a1 a2 a3 a4 a5 a6 a7 a8 a9 a10 a11 a12 a13 a14 a15 a16 a17 a18 := by rw [h]; rfl
def bx19 {ρ γ α0 α1 α2 α3 α4 α5 α6 α7 α8 α9 α10 α11 α12 α13 α14 α15 α16 α17 α18 : Type} (x : Option (Sum γ (α0 × α1 × α2 × α3 × α4 × α5 × α6 × α7 × α8 × α9 × α10 × α11 × α12 × α13 × α14 × α15 × α16 × α17 × α18))) (k : α0 → α1 → α2 → α3 → α4 → α5 → α6 → α7 → α8 → α9 → α10 → α11 → α12 → α13 → α14 → α15 → α16 → α17 → α18 → Option (Sum γ ρ)) : Option (Sum γ ρ) := match x with
  | some (Sum.inl r) => some (Sum.inl r)
  | some (Sum.inr (a0, a1, a2, a3, a4, a5, a6, a7, a8, a9, a10, a11, a12, a13, a14, a15, a16, a17, a18)) => k a0 a1 a2 a3 a4 a5 a6 a7 a8 a9 a10 a11 a12 a13 a14 a15 a16 a17 a18
  | none => none
theorem bx19_z {ρ γ α0 α1 α2 α3 α4 α5 α6 α7 α8 α9 α10 α11 α12 α13 α14 α15 α16 α17 α18 : Type} {x : Option (Sum γ (α0 × α1 × α2 × α3 × α4 × α5 × α6 × α7 × α8 × α9 × α10 × α11 × α12 × α13 × α14 × α15 × α16 × α17 × α18))} {k : α0 → α1 → α2 → α3 → α4 → α5 → α6 → α7 → α8 → α9 → α10 → α11 → α12 → α13 → α14 → α15 → α16 → α17 → α18 → Option (Sum γ ρ)} {r : Sum γ ρ} (h : bx19 x k = some r) : ∃ z, x = some z ∧ (∀ r', z = Sum.inl r' → r = Sum.inl r') ∧ (∀ (a0 : α0) (a1 : α1) (a2 : α2) (a3 : α3) (a4 : α4) (a5 : α5) (a6 : α6) (a7 : α7) (a8 : α8) (a9 : α9) (a10 : α10) (a11 : α11) (a12 : α12) (a13 : α13) (a14 : α14) (a15 : α15) (a16 : α16) (a17 : α17) (a18 : α18), z = Sum.inr (a0, a1, a2, a3, a4, a5, a6, a7, a8, a9, a10, a11, a12, a13, a14, a15, a16, a17, a18) → k a0 a1 a2 a3 a4 a5 a6 a7 a8 a9 a10 a11 a12 a13 a14 a15 a16 a17 a18 = some r) := by
  cases x with
  | none => cases h
  | some v => exact ⟨v, rfl, fun r' e => by subst e; cases h; rfl, fun a0 a1 a2 a3 a4 a5 a6 a7 a8 a9 a10 a11 a12 a13 a14 a15 a16 a17 a18 e => by subst e; exact h⟩
def bd20 {ρ α0 α1 α2 α3 α4 α5 α6 α7 α8 α9 α10 α11 α12 α13 α14 α15 α16 α17 α18 α19 : Type} (x : Option (α0 × α1 × α2 × α3 × α4 × α5 × α6 × α7 × α8 × α9 × α10 × α11 × α12 × α13 × α14 × α15 × α16 × α17 × α18 × α19)) (k : α0 → α1 → α2 → α3 → α4 → α5 → α6 → α7 → α8 → α9 → α10 → α11 → α12 → α13 → α14 → α15 → α16 → α17 → α18 → α19 → Option ρ) : Option ρ := match x with
  | some (a0, a1, a2, a3, a4, a5, a6, a7, a8, a9, a10, a11, a12, a13, a14, a15, a16, a17, a18, a19) => k a0 a1 a2 a3 a4 a5 a6 a7 a8 a9 a10 a11 a12 a13 a14 a15 a16 a17 a18 a19
  | none => none
theorem bd20_e {ρ α0 α1 α2 α3 α4 α5 α6 α7 α8 α9 α10 α11 α12 α13 α14 α15 α16 α17 α18 α19 : Type} {x : Option (α0 × α1 × α2 × α3 × α4 × α5 × α6 × α7 × α8 × α9 × α10 × α11 × α12 × α13 × α14 × α15 × α16 × α17 × α18 × α19)} {k : α0 → α1 → α2 → α3 → α4 → α5 → α6 → α7 → α8 → α9 → α10 → α11 → α12 → α13 → α14 → α15 → α16 → α17 → α18 → α19 → Option ρ} {r : ρ} (h : bd20 x k = some r) : ∃ a0 a1 a2 a3 a4 a5 a6 a7 a8 a9 a10 a11 a12 a13 a14 a15 a16 a17 a18 a19, x = some (a0, a1, a2, a3, a4, a5, a6, a7, a8, a9, a10, a11, a12, a13, a14, a15, a16, a17, a18, a19) ∧ k a0 a1 a2 a3 a4 a5 a6 a7 a8 a9 a10 a11 a12 a13 a14 a15 a16 a17 a18 a19 = some r := by
  cases x with
  | none => cases h
  | some v => exact ⟨v.1, v.2.1, v.2.2.1, v.2.2.2.1, v.2.2.2.2.1, v.2.2.2.2.2.1, v.2.2.2.2.2.2.1, v.2.2.2.2.2.2.2.1, v.2.2.2.2.2.2.2.2.1, v.2.2.2.2.2.2.2.2.2.1, v.2.2.2.2.2.2.2.2.2.2.1, v.2.2.2.2.2.2.2.2.2.2.2.1, v.2.2.2.2.2.2.2.2.2.2.2.2.1, v.2.2.2.2.2.2.2.2.2.2.2.2.2.1, v.2.2.2.2.2.2.2.2.2.2.2.2.2.2.1, v.2.2.2.2.2.2.2.2.2.2.2.2.2.2.2.1, v.2.2.2.2.2.2.2.2.2.2.2.2.2.2.2.2.1, v.2.2.2.2.2.2.2.2.2.2.2.2.2.2.2.2.2.1, v.2.2.2.2.2.2.2.2.2.2.2.2.2.2.2.2.2.2.1, v.2.2.2.2.2.2.2.2.2.2.2.2.2.2.2.2.2.2.2, rfl, h⟩
theorem bd20_i {ρ α0 α1 α2 α3 α4 α5 α6 α7 α8 α9 α10 α11 α12 α13 α14 α15 α16 α17 α18 α19 : Type} {x : Option (α0 × α1 × α2 × α3 × α4 × α5 × α6 × α7 × α8 × α9 × α10 × α11 × α12 × α13 × α14 × α15 × α16 × α17 × α18 × α19)} {k : α0 → α1 → α2 → α3 → α4 → α5 → α6 → α7 → α8 → α9 → α10 → α11 → α12 → α13 → α14 → α15 → α16 → α17 → α18 → α19 → Option ρ} {a0 : α0} {a1 : α1} {a2 : α2} {a3 : α3} {a4 : α4} {a5 : α5} {a6 : α6} {a7 : α7} {a8 : α8} {a9 : α9} {a10 : α10} {a11 : α11} {a12 : α12} {a13 : α13} {a14 : α14} {a15 : α15} {a16 : α16} {a17 : α17} {a18 : α18} {a19 : α19} (h : x = some (a0, a1, a2, a3, a4, a5, a6, a7, a8, a9, a10, a11, a12, a13, a14, a15, a16, a17, a18, a19)) : bd20 x k = k a0 a1 a2 a3 a4 a5 a6 a7 a8 a9 a10 a11 a12 a13 a14 a15 a16 a17 a18 a19 := by rw [h]; rfl
def bx20 {ρ γ α0 α1 α2 α3 α4 α5 α6 α7 α8 α9 α10 α11 α12 α13 α14 α15 α16 α17 α18 α19 : Type} (x : Option (Sum γ (α0 × α1 × α2 × α3 × α4 × α5 × α6 × α7 × α8 × α9 × α10 × α11 × α12 × α13 × α14 × α15 × α16 × α17 × α18 × α19))) (k : α0 → α1 → α2 → α3 → α4 → α5 → α6 → α7 → α8 → α9 → α10 → α11 → α12 → α13 → α14 → α15 → α16 → α17 → α18 → α19 → Option (Sum γ ρ)) : Option (Sum γ ρ) := match x with
  | some (Sum.inl r) => some (Sum.inl r)
  | some (Sum.inr (a0, a1, a2, a3, a4, a5, a6, a7, a8, a9, a10, a11, a12, a13, a14, a15, a16, a17, a18, a19)) => k a0 a1 a2 a3 a4 a5 a6 a7 a8 a9 a10 a11 a12 a13 a14 a15 a16 a17 a18 a19
  | none => none
theorem bx20_z {ρ γ α0 α1 α2 α3 α4 α5 α6 α7 α8 α9 α10 α11 α12 α13 α14 α15 α16 α17 α18 α19 : Type} {x : Option (Sum γ (α0 × α1 × α2 × α3 × α4 × α5 × α6 × α7 × α8 × α9 × α10 × α11 × α12 × α13 × α14 × α15 × α16 × α17 × α18 × α19))} {k : α0 → α1 → α2 → α3 → α4 → α5 → α6 → α7 → α8 → α9 → α10 → α11 → α12 → α13 → α14 → α15 → α16 → α17 → α18 → α19 → Option (Sum γ ρ)} {r : Sum γ ρ} (h : bx20 x k = some r) : ∃ z, x = some z ∧ (∀ r', z = Sum.inl r' → r = Sum.inl r') ∧ (∀ (a0 : α0) (a1 : α1) (a2 : α2) (a3 : α3) (a4 : α4) (a5 : α5) (a6 : α6) (a7 : α7) (a8 : α8) (a9 : α9) (a10 : α10) (a11 : α11) (a12 : α12) (a13 : α13) (a14 : α14) (a15 : α15) (a16 : α16) (a17 : α17) (a18 : α18) (a19 : α19), z = Sum.inr (a0, a1, a2, a3, a4, a5, a6, a7, a8, a9, a10, a11, a12, a13, a14, a15, a16, a17, a18, a19) → k a0 a1 a2 a3 a4 a5 a6 a7 a8 a9 a10 a11 a12 a13 a14 a15 a16 a17 a18 a19 = some r) := by
  cases x with
  | none => cases h
  | some v => exact ⟨v, rfl, fun r' e => by subst e; cases h; rfl, fun a0 a1 a2 a3 a4 a5 a6 a7 a8 a9 a10 a11 a12 a13 a14 a15 a16 a17 a18 a19 e => by subst e; exact h⟩
def bd21 {ρ α0 α1 α2 α3 α4 α5 α6 α7 α8 α9 α10 α11 α12 α13 α14 α15 α16 α17 α18 α19 α20 : Type} (x : Option (α0 × α1 × α2 × α3 × α4 × α5 × α6 × α7 × α8 × α9 × α10 × α11 × α12 × α13 × α14 × α15 × α16 × α17 × α18 × α19 × α20)) (k : α0 → α1 → α2 → α3 → α4 → α5 → α6 → α7 → α8 → α9 → α10 → α11 → α12 → α13 → α14 → α15 → α16 → α17 → α18 → α19 → α20 → Option ρ) : Option ρ := match x with
  | some (a0, a1, a2, a3, a4, a5, a6, a7, a8, a9, a10, a11, a12, a13, a14, a15, a16, a17, a18, a19, a20) => k a0 a1 a2 a3 a4 a5 a6 a7 a8 a9 a10 a11 a12 a13 a14 a15 a16 a17 a18 a19 a20
  | none => none
theorem bd21_e {ρ α0 α1 α2 α3 α4 α5 α6 α7 α8 α9 α10 α11 α12 α13 α14 α15 α16 α17 α18 α19 α20 : Type} {x : Option (α0 × α1 × α2 × α3 × α4 × α5 × α6 × α7 × α8 × α9 × α10 × α11 × α12 × α13 × α14 × α15 × α16 × α17 × α18 × α19 × α20)} {k : α0 → α1 → α2 → α3 → α4 → α5 → α6 → α7 → α8 → α9 → α10 → α11 → α12 → α13 → α14 → α15 → α16 → α17 → α18 → α19 → α20 → Option ρ} {r : ρ} (h : bd21 x k = some r) : ∃ a0 a1 a2 a3 a4 a5 a6 a7 a8 a9 a10 a11 a12 a13 a14 a15 a16 a17 a18 a19 a20, x = some (a0, a1, a2, a3, a4, a5, a6, a7, a8, a9, a10, a11, a12, a13, a14, a15, a16, a17, a18, a19, a20) ∧ k a0 a1 a2 a3 a4 a5 a6 a7 a8 a9 a10 a11 a12 a13 a14 a15 a16 a17 a18 a19 a20 = some r := by
  cases x with
  | none => cases h
  | some v => exact ⟨v.1, v.2.1, v.2.2.1, v.2.2.2.1, v.2.2.2.2.1, v.2.2.2.2.2.1, v.2.2.2.2.2.2.1, v.2.2.2.2.2.2.2.1, v.2.2.2.2.2.2.2.2.1, v.2.2.2.2.2.2.2.2.2.1, v.2.2.2.2.2.2.2.2.2.2.1, v.2.2.2.2.2.2.2.2.2.2.2.1, v.2.2.2.2.2.2.2.2.2.2.2.2.1, v.2.2.2.2.2.2.2.2.2.2.2.2.2.1, v.2.2.2.2.2.2.2.2.2.2.2.2.2.2.1, v.2.2.2.2.2.2.2.2.2.2.2.2.2.2.2.1, v.2.2.2.2.2.2.2.2.2.2.2.2.2.2.2.2.1, v.2.2.2.2.2.2.2.2.2.2.2.2.2.2.2.2.2.1, v.2.2.2.2.2.2.2.2.2.2.2.2.2.2.2.2.2.2.1, v.2.2.2.2.2.2.2.2.2.2.2.2.2.2.2.2.2.2.2.1, v.2.2.2.2.2.2.2.2.2.2.2.2.2.2.2.2.2.2.2.2, rfl, h⟩
theorem bd21_i {ρ α0 α1 α2 α3 α4 α5 α6 α7 α8 α9 α10 α11 α12 α13 α14 α15 α16 α17 α18 α19 α20 : Type} {x : Option (α0 × α1 × α2 × α3 × α4 × α5 × α6 × α7 × α8 × α9 × α10 × α11 × α12 × α13 × α14 × α15 × α16 × α17 × α18 × α19 × α20)} {k : α0 → α1 → α2 → α3 → α4 → α5 → α6 → α7 → α8 → α9 → α10 → α11 → α12 → α13 → α14 → α15 → α16 → α17 → α18 → α19 → α20 → Option ρ} {a0 : α0} {a1 : α1} {a2 : α2} {a3 : α3} {a4 : α4} {a5 : α5} {a6 : α6} {a7 : α7} {a8 : α8} {a9 : α9} {a10 : α10} {a11 : α11} {a12 : α12} {a13 : α13} {a14 : α14} {a15 : α15} {a16 : α16} {a17 : α17} {a18 : α18} {a19 : α19} {a20 : α20} (h : x = some (a0, a1, a2, a3, a4, a5, a6, a7, a8, a9, a10, a11, a12, a13, a14, a15, a16, a17, a18, a19, a20)) : bd21 x k = k a0 a1 a2 a3 a4 a5 a6 a7 a8 a9 a10 a11 a12 a13 a14 a15 a16 a17 a18 a19 a20 := by rw [h]; rfl
def bx21 {ρ γ α0 α1 α2 α3 α4 α5 α6 α7 α8 α9 α10 α11 α12 α13 α14 α15 α16 α17 α18 α19 α20 : Type} (x : Option (Sum γ (α0 × α1 × α2 × α3 × α4 × α5 × α6 × α7 × α8 × α9 × α10 × α11 × α12 × α13 × α14 × α15 × α16 × α17 × α18 × α19 × α20))) (k : α0 → α1 → α2 → α3 → α4 → α5 → α6 → α7 → α8 → α9 → α10 → α11 → α12 → α13 → α14 → α15 → α16 → α17 → α18 → α19 → α20 → Option (Sum γ ρ)) : Option (Sum γ ρ) := match x with
  | some (Sum.inl r) => some (Sum.inl r)
  | some (Sum.inr (a0, a1, a2, a3, a4, a5, a6, a7, a8, a9, a10, a11, a12, a13, a14, a15, a16, a17, a18, a19, a20)) => k a0 a1 a2 a3 a4 a5 a6 a7 a8 a9 a10 a11 a12 a13 a14 a15 a16 a17 a18 a19 a20
  | none => none
theorem bx21_z {ρ γ α0 α1 α2 α3 α4 α5 α6 α7 α8 α9 α10 α11 α12 α13 α14 α15 α16 α17 α18 α19 α20 : Type} {x : Option (Sum γ (α0 × α1 × α2 × α3 × α4 × α5 × α6 × α7 × α8 × α9 × α10 × α11 × α12 × α13 × α14 × α15 × α16 × α17 × α18 × α19 × α20))} {k : α0 → α1 → α2 → α3 → α4 → α5 → α6 → α7 → α8 → α9 → α10 → α11 → α12 → α13 → α14 → α15 → α16 → α17 → α18 → α19 → α20 → Option (Sum γ ρ)} {r : Sum γ ρ} (h : bx21 x k = some r) : ∃ z, x = some z ∧ (∀ r', z = Sum.inl r' → r = Sum.inl r') ∧ (∀ (a0 : α0) (a1 : α1) (a2 : α2) (a3 : α3) (a4 : α4) (a5 : α5) (a6 : α6) (a7 : α7) (a8 : α8) (a9 : α9) (a10 : α10) (a11 : α11) (a12 : α12) (a13 : α13) (a14 : α14) (a15 : α15) (a16 : α16) (a17 : α17) (a18 : α18) (a19 : α19) (a20 : α20), z = Sum.inr (a0, a1, a2, a3, a4, a5, a6, a7, a8, a9, a10, a11, a12, a13, a14, a15, a16, a17, a18, a19, a20) → k a0 a1 a2 a3 a4 a5 a6 a7 a8 a9 a10 a11 a12 a13 a14 a15 a16 a17 a18 a19 a20 = some r) := by
  cases x with
  | none => cases h
  | some v => exact ⟨v, rfl, fun r' e => by subst e; cases h; rfl, fun a0 a1 a2 a3 a4 a5 a6 a7 a8 a9 a10 a11 a12 a13 a14 a15 a16 a17 a18 a19 a20 e => by subst e; exact h⟩
def bd22 {ρ α0 α1 α2 α3 α4 α5 α6 α7 α8 α9 α10 α11 α12 α13 α14 α15 α16 α17 α18 α19 α20 α21 : Type} (x : Option (α0 × α1 × α2 × α3 × α4 × α5 × α6 × α7 × α8 × α9 × α10 × α11 × α12 × α13 × α14 × α15 × α16 × α17 × α18 × α19 × α20 × α21)) (k : α0 → α1 → α2 → α3 → α4 → α5 → α6 → α7 → α8 → α9 → α10 → α11 → α12 → α13 → α14 → α15 → α16 → α17 → α18 → α19 → α20 → α21 → Option ρ) : Option ρ := match x with
  | some (a0, a1, a2, a3, a4, a5, a6, a7, a8, a9, a10, a11, a12, a13, a14, a15, a16, a17, a18, a19, a20, a21) => k a0 a1 a2 a3 a4 a5 a6 a7 a8 a9 a10 a11 a12 a13 a14 a15 a16 a17 a18 a19 a20 a21
  | none => none
theorem bd22_e {ρ α0 α1 α2 α3 α4 α5 α6 α7 α8 α9 α10 α11 α12 α13 α14 α15 α16 α17 α18 α19 α20 α21 : Type} {x : Option (α0 × α1 × α2 × α3 × α4 × α5 × α6 × α7 × α8 × α9 × α10 × α11 × α12 × α13 × α14 × α15 × α16 × α17 × α18 × α19 × α20 × α21)} {k : α0 → α1 → α2 → α3 → α4 → α5 → α6 → α7 → α8 → α9 → α10 → α11 → α12 → α13 → α14 → α15 → α16 → α17 → α18 → α19 → α20 → α21 → Option ρ} {r : ρ} (h : bd22 x k = some r) : ∃ a0 a1 a2 a3 a4 a5 a6 a7 a8 a9 a10 a11 a12 a13 a14 a15 a16 a17 a18 a19 a20 a21, x = some (a0, a1, a2, a3, a4, a5, a6, a7, a8, a9, a10, a11, a12, a13, a14, a15, a16, a17, a18, a19, a20, a21) ∧ k a0 a1 a2 a3 a4 a5 a6 a7 a8 a9 a10 a11 a12 a13 a14 a15 a16 a17 a18 a19 a20 a21 = some r := by
  cases x with
  | none => cases h
  | some v => exact ⟨v.1, v.2.1, v.2.2.1, v.2.2.2.1, v.2.2.2.2.1, v.2.2.2.2.2.1, v.2.2.2.2.2.2.1, v.2.2.2.2.2.2.2.1, v.2.2.2.2.2.2.2.2.1, v.2.2.2.2.2.2.2.2.2.1, v.2.2.2.2.2.2.2.2.2.2.1, v.2.2.2.2.2.2.2.2.2.2.2.1, v.2.2.2.2.2.2.2.2.2.2.2.2.1, v.2.2.2.2.2.2.2.2.2.2.2.2.2.1, v.2.2.2.2.2.2.2.2.2.2.2.2.2.2.1, v.2.2.2.2.2.2.2.2.2.2.2.2.2.2.2.1, v.2.2.2.2.2.2.2.2.2.2.2.2.2.2.2.2.1, v.2.2.2.2.2.2.2.2.2.2.2.2.2.2.2.2.2.1, v.2.2.2.2.2.2.2.2.2.2.2.2.2.2.2.2.2.2.1, v.2.2.2.2.2.2.2.2.2.2.2.2.2.2.2.2.2.2.2.1, v.2.2.2.2.2.2.2.2.2.2.2.2.2.2.2.2.2.2.2.2.1, v.2.2.2.2.2.2.2.2.2.2.2.2.2.2.2.2.2.2.2.2.2, rfl, h⟩
theorem bd22_i {ρ α0 α1 α2 α3 α4 α5 α6 α7 α8 α9 α10 α11 α12 α13 α14 α15 α16 α17 α18 α19 α20 α21 : Type} {x : Option (α0 × α1 × α2 × α3 × α4 × α5 × α6 × α7 × α8 × α9 × α10 × α11 × α12 × α13 × α14 × α15 × α16 × α17 × α18 × α19 × α20 × α21)} {k : α0 → α1 → α2 → α3 → α4 → α5 → α6 → α7 → α8 → α9 → α10 → α11 → α12 → α13 → α14 → α15 → α16 → α17 → α18 → α19 → α20 → α21 → Option ρ} {a0 : α0} {a1 : α1} {a2 : α2} {a3 : α3} {a4 : α4} {a5 : α5} {a6 : α6} {a7 : α7} {a8 : α8} {a9 : α9} {a10 : α10} {a11 : α11} {a12 : α12} {a13 : α13} {a14 : α14} {a15 : α15} {a16 : α16} {a17 : α17} {a18 : α18} {a19 : α19} {a20 : α20} {a21 : α21} (h : x = some (a0, a1, a2, a3, a4, a5, a6, a7, a8, a9, a10, a11, a12, a13, a14, a15, a16, a17, a18, a19, a20, a21)) : bd22 x k = k a0 a1 a2 a3 a4 a5 a6 a7 a8 a9 a10 a11 a12 a13 a14 a15 a16 a17 a18 a19 a20 a21 := by rw [h]; rfl
def bx22 {ρ γ α0 α1 α2 α3 α4 α5 α6 α7 α8 α9 α10 α11 α12 α13 α14 α15 α16 α17 α18 α19 α20 α21 : Type} (x : Option (Sum γ (α0 × α1 × α2 × α3 × α4 × α5 × α6 × α7 × α8 × α9 × α10 × α11 × α12 × α13 × α14 × α15 × α16 × α17 × α18 × α19 × α20 × α21))) (k : α0 → α1 → α2 → α3 → α4 → α5 → α6 → α7 → α8 → α9 → α10 → α11 → α12 → α13 → α14 → α15 → α16 → α17 → α18 → α19 → α20 → α21 → Option (Sum γ ρ)) : Option (Sum γ ρ) := match x with
  | some (Sum.inl r) => some (Sum.inl r)
  | some (Sum.inr (a0, a1, a2, a3, a4, a5, a6, a7, a8, a9, a10, a11, a12, a13, a14, a15, a16, a17, a18, a19, a20, a21)) => k a0 a1 a2 a3 a4 a5 a6 a7 a8 a9 a10 a11 a12 a13 a14 a15 a16 a17 a18 a19 a20 a21
  | none => none
theorem bx22_z {ρ γ α0 α1 α2 α3 α4 α5 α6 α7 α8 α9 α10 α11 α12 α13 α14 α15 α16 α17 α18 α19 α20 α21 : Type} {x : Option (Sum γ (α0 × α1 × α2 × α3 × α4 × α5 × α6 × α7 × α8 × α9 × α10 × α11 × α12 × α13 × α14 × α15 × α16 × α17 × α18 × α19 × α20 × α21))} {k : α0 → α1 → α2 → α3 → α4 → α5 → α6 → α7 → α8 → α9 → α10 → α11 → α12 → α13 → α14 → α15 → α16 → α17 → α18 → α19 → α20 → α21 → Option (Sum γ ρ)} {r : Sum γ ρ} (h : bx22 x k = some r) : ∃ z, x = some z ∧ (∀ r', z = Sum.inl r' → r = Sum.inl r') ∧ (∀ (a0 : α0) (a1 : α1) (a2 : α2) (a3 : α3) (a4 : α4) (a5 : α5) (a6 : α6) (a7 : α7) (a8 : α8) (a9 : α9) (a10 : α10) (a11 : α11) (a12 : α12) (a13 : α13) (a14 : α14) (a15 : α15) (a16 : α16) (a17 : α17) (a18 : α18) (a19 : α19) (a20 : α20) (a21 : α21), z = Sum.inr (a0, a1, a2, a3, a4, a5, a6, a7, a8, a9, a10, a11, a12, a13, a14, a15, a16, a17, a18, a19, a20, a21) → k a0 a1 a2 a3 a4 a5 a6 a7 a8 a9 a10 a11 a12 a13 a14 a15 a16 a17 a18 a19 a20 a21 = some r) := by
  cases x with
  | none => cases h
  | some v => exact ⟨v, rfl, fun r' e => by subst e; cases h; rfl, fun a0 a1 a2 a3 a4 a5 a6 a7 a8 a9 a10 a11 a12 a13 a14 a15 a16 a17 a18 a19 a20 a21 e => by subst e; exact h⟩
def bd23 {ρ α0 α1 α2 α3 α4 α5 α6 α7 α8 α9 α10 α11 α12 α13 α14 α15 α16 α17 α18 α19 α20 α21 α22 : Type} (x : Option (α0 × α1 × α2 × α3 × α4 × α5 × α6 × α7 × α8 × α9 × α10 × α11 × α12 × α13 × α14 × α15 × α16 × α17 × α18 × α19 × α20 × α21 × α22)) (k : α0 → α1 → α2 → α3 → α4 → α5 → α6 → α7 → α8 → α9 → α10 → α11 → α12 → α13 → α14 → α15 → α16 → α17 → α18 → α19 → α20 → α21 → α22 → Option ρ) : Option ρ := match x with
  | some (a0, a1, a2, a3, a4, a5, a6, a7, a8, a9, a10, a11, a12, a13, a14, a15, a16, a17, a18, a19, a20, a21, a22) => k a0 a1 a2 a3 a4 a5 a6 a7 a8 a9 a10 a11 a12 a13 a14 a15 a16 a17 a18 a19 a20 a21 a22
  | none => none
theorem bd23_e {ρ α0 α1 α2 α3 α4 α5 α6 α7 α8 α9 α10 α11 α12 α13 α14 α15 α16 α17 α18 α19 α20 α21 α22 : Type} {x : Option (α0 × α1 × α2 × α3 × α4 × α5 × α6 × α7 × α8 × α9 × α10 × α11 × α12 × α13 × α14 × α15 × α16 × α17 × α18 × α19 × α20 × α21 × α22)} {k : α0 → α1 → α2 → α3 → α4 → α5 → α6 → α7 → α8 → α9 → α10 → α11 → α12 → α13 → α14 → α15 → α16 → α17 → α18 → α19 → α20 → α21 → α22 → Option ρ} {r : ρ} (h : bd23 x k = some r) : ∃ a0 a1 a2 a3 a4 a5 a6 a7 a8 a9 a10 a11 a12 a13 a14 a15 a16 a17 a18 a19 a20 a21 a22, x = some (a0, a1, a2, a3, a4, a5, a6, a7, a8, a9, a10, a11, a12, a13, a14, a15, a16, a17, a18, a19, a20, a21, a22) ∧ k a0 a1 a2 a3 a4 a5 a6 a7 a8 a9 a10 a11 a12 a13 a14 a15 a16 a17 a18 a19 a20 a21 a22 = some r := by
  cases x with
  | none => cases h
  | some v => exact ⟨v.1, v.2.1, v.2.2.1, v.2.2.2.1, v.2.2.2.2.1, v.2.2.2.2.2.1, v.2.2.2.2.2.2.1, v.2.2.2.2.2.2.2.1, v.2.2.2.2.2.2.2.2.1, v.2.2.2.2.2.2.2.2.2.1, v.2.2.2.2.2.2.2.2.2.2.1, v.2.2.2.2.2.2.2.2.2.2.2.1, v.2.2.2.2.2.2.2.2.2.2.2.2.1, v.2.2.2.2.2.2.2.2.2.2.2.2.2.1, v.2.2.2.2.2.2.2.2.2.2.2.2.2.2.1, v.2.2.2.2.2.2.2.2.2.2.2.2.2.2.2.1, v.2.2.2.2.2.2.2.2.2.2.2.2.2.2.2.2.1, v.2.2.2.2.2.2.2.2.2.2.2.2.2.2.2.2.2.1, v.2.2.2.2.2.2.2.2.2.2.2.2.2.2.2.2.2.2.1, v.2.2.2.2.2.2.2.2.2.2.2.2.2.2.2.2.2.2.2.1, v.2.2.2.2.2.2.2.2.2.2.2.2.2.2.2.2.2.2.2.2.1, v.2.2.2.2.2.2.2.2.2.2.2.2.2.2.2.2.2.2.2.2.2.1, v.2.2.2.2.2.2.2.2.2.2.2.2.2.2.2.2.2.2.2.2.2.2, rfl, h⟩
theorem bd23_i {ρ α0 α1 α2 α3 α4 α5 α6 α7 α8 α9 α10 α11 α12 α13 α14 α15 α16 α17 α18 α19 α20 α21 α22 : Type} {x : Option (α0 × α1 × α2 × α3 × α4 × α5 × α6 × α7 × α8 × α9 × α10 × α11 × α12 × α13 × α14 × α15 × α16 × α17 × α18 × α19 × α20 × α21 × α22)} {k : α0 → α1 → α2 → α3 → α4 → α5 → α6 → α7 → α8 → α9 → α10 → α11 → α12 → α13 → α14 → α15 → α16 → α17 → α18 → α19 → α20 → α21 → α22 → Option ρ} {a0 : α0} {a1 : α1} {a2 : α2} {a3 : α3} {a4 : α4} {a5 : α5} {a6 : α6} {a7 : α7} {a8 : α8} {a9 : α9} {a10 : α10} {a11 : α11} {a12 : α12} {a13 : α13} {a14 : α14} {a15 : α15} {a16 : α16} {a17 : α17} {a18 : α18} {a19 : α19} {a20 : α20} {a21 : α21} {a22 : α22} (h : x = some (a0, a1, a2, a3, a4, a5, a6, a7, a8, a9, a10, a11, a12, a13, a14, a15, a16, a17, a18, a19, a20, a21, a22)) : bd23 x k = k a0 a1 a2 a3 a4 a5 a6 a7 a8 a9 a10 a11 a12 a13 a14 a15 a16 a17 a18 a19 a20 a21 a22 := by rw [h]; rfl
def bx23 {ρ γ α0 α1 α2 α3 α4 α5 α6 α7 α8 α9 α10 α11 α12 α13 α14 α15 α16 α17 α18 α19 α20 α21 α22 : Type} (x : Option (Sum γ (α0 × α1 × α2 × α3 × α4 × α5 × α6 × α7 × α8 × α9 × α10 × α11 × α12 × α13 × α14 × α15 × α16 × α17 × α18 × α19 × α20 × α21 × α22))) (k : α0 → α1 → α2 → α3 → α4 → α5 → α6 → α7 → α8 → α9 → α10 → α11 → α12 → α13 → α14 → α15 → α16 → α17 → α18 → α19 → α20 → α21 → α22 → Option (Sum γ ρ)) : Option (Sum γ ρ) := match x with
  | some (Sum.inl r) => some (Sum.inl r)
  | some (Sum.inr (a0, a1, a2, a3, a4, a5, a6, a7, a8, a9, a10, a11, a12, a13, a14, a15, a16, a17, a18, a19, a20, a21, a22)) => k a0 a1 a2 a3 a4 a5 a6 a7 a8 a9 a10 a11 a12 a13 a14 a15 a16 a17 a18 a19 a20 a21 a22
  | none => none
theorem bx23_z {ρ γ α0 α1 α2 α3 α4 α5 α6 α7 α8 α9 α10 α11 α12 α13 α14 α15 α16 α17 α18 α19 α20 α21 α22 : Type} {x : Option (Sum γ (α0 × α1 × α2 × α3 × α4 × α5 × α6 × α7 × α8 × α9 × α10 × α11 × α12 × α13 × α14 × α15 × α16 × α17 × α18 × α19 × α20 × α21 × α22))} {k : α0 → α1 → α2 → α3 → α4 → α5 → α6 → α7 → α8 → α9 → α10 → α11 → α12 → α13 → α14 → α15 → α16 → α17 → α18 → α19 → α20 → α21 → α22 → Option (Sum γ ρ)} {r : Sum γ ρ} (h : bx23 x k = some r) : ∃ z, x = some z ∧ (∀ r', z = Sum.inl r' → r = Sum.inl r') ∧ (∀ (a0 : α0) (a1 : α1) (a2 : α2) (a3 : α3) (a4 : α4) (a5 : α5) (a6 : α6) (a7 : α7) (a8 : α8) (a9 : α9) (a10 : α10) (a11 : α11) (a12 : α12) (a13 : α13) (a14 : α14) (a15 : α15) (a16 : α16) (a17 : α17) (a18 : α18) (a19 : α19) (a20 : α20) (a21 : α21) (a22 : α22), z = Sum.inr (a0, a1, a2, a3, a4, a5, a6, a7, a8, a9, a10, a11, a12, a13, a14, a15, a16, a17, a18, a19, a20, a21, a22) → k a0 a1 a2 a3 a4 a5 a6 a7 a8 a9 a10 a11 a12 a13 a14 a15 a16 a17 a18 a19 a20 a21 a22 = some r) := by
  cases x with
  | none => cases h
  | some v => exact ⟨v, rfl, fun r' e => by subst e; cases h; rfl, fun a0 a1 a2 a3 a4 a5 a6 a7 a8 a9 a10 a11 a12 a13 a14 a15 a16 a17 a18 a19 a20 a21 a22 e => by subst e; exact h⟩
def bd24 {ρ α0 α1 α2 α3 α4 α5 α6 α7 α8 α9 α10 α11 α12 α13 α14 α15 α16 α17 α18 α19 α20 α21 α22 α23 : Type} (x : Option (α0 × α1 × α2 × α3 × α4 × α5 × α6 × α7 × α8 × α9 × α10 × α11 × α12 × α13 × α14 × α15 × α16 × α17 × α18 × α19 × α20 × α21 × α22 × α23)) (k : α0 → α1 → α2 → α3 → α4 → α5 → α6 → α7 → α8 → α9 → α10 → α11 → α12 → α13 → α14 → α15 → α16 → α17 → α18 → α19 → α20 → α21 → α22 → α23 → Option ρ) : Option ρ := match x with
  | some (a0, a1, a2, a3, a4, a5, a6, a7, a8, a9, a10, a11, a12, a13, a14, a15, a16, a17, a18, a19, a20, a21, a22, a23) => k a0 a1 a2 a3 a4 a5 a6 a7 a8 a9 a10 a11 a12 a13 a14 a15 a16 a17 a18 a19 a20 a21 a22 a23
  | none => none
theorem bd24_e {ρ α0 α1 α2 α3 α4 α5 α6 α7 α8 α9 α10 α11 α12 α13 α14 α15 α16 α17 α18 α19 α20 α21 α22 α23 : Type} {x : Option (α0 × α1 × α2 × α3 × α4 × α5 × α6 × α7 × α8 × α9 × α10 × α11 × α12 × α13 × α14 × α15 × α16 × α17 × α18 × α19 × α20 × α21 × α22 × α23)} {k : α0 → α1 → α2 → α3 → α4 → α5 → α6 → α7 → α8 → α9 → α10 → α11 → α12 → α13 → α14 → α15 → α16 → α17 → α18 → α19 → α20 → α21 → α22 → α23 → Option ρ} {r : ρ} (h : bd24 x k = some r) : ∃ a0 a1 a2 a3 a4 a5 a6 a7 a8 a9 a10 a11 a12 a13 a14 a15 a16 a17 a18 a19 a20 a21 a22 a23, x = some (a0, a1, a2, a3, a4, a5, a6, a7, a8, a9, a10, a11, a12, a13, a14, a15, a16, a17, a18, a19, a20, a21, a22, a23) ∧ k a0 a1 a2 a3 a4 a5 a6 a7 a8 a9 a10 a11 a12 a13 a14 a15 a16 a17 a18 a19 a20 a21 a22 a23 = some r := by
  cases x with
  | none => cases h
  | some v => exact ⟨v.1, v.2.1, v.2.2.1, v.2.2.2.1, v.2.2.2.2.1, v.2.2.2.2.2.1, v.2.2.2.2.2.2.1, v.2.2.2.2.2.2.2.1, v.2.2.2.2.2.2.2.2.1, v.2.2.2.2.2.2.2.2.2.1, v.2.2.2.2.2.2.2.2.2.2.1, v.2.2.2.2.2.2.2.2.2.2.2.1, v.2.2.2.2.2.2.2.2.2.2.2.2.1, v.2.2.2.2.2.2.2.2.2.2.2.2.2.1, v.2.2.2.2.2.2.2.2.2.2.2.2.2.2.1, v.2.2.2.2.2.2.2.2.2.2.2.2.2.2.2.1, v.2.2.2.2.2.2.2.2.2.2.2.2.2.2.2.2.1, v.2.2.2.2.2.2.2.2.2.2.2.2.2.2.2.2.2.1, v.2.2.2.2.2.2.2.2.2.2.2.2.2.2.2.2.2.2.1, v.2.2.2.2.2.2.2.2.2.2.2.2.2.2.2.2.2.2.2.1, v.2.2.2.2.2.2.2.2.2.2.2.2.2.2.2.2.2.2.2.2.1, v.2.2.2.2.2.2.2.2.2.2.2.2.2.2.2.2.2.2.2.2.2.1, v.2.2.2.2.2.2.2.2.2.2.2.2.2.2.2.2.2.2.2.2.2.2.1, v.2.2.2.2.2.2.2.2.2.2.2.2.2.2.2.2.2.2.2.2.2.2.2, rfl, h⟩
theorem bd24_i {ρ α0 α1 α2 α3 α4 α5 α6 α7 α8 α9 α10 α11 α12 α13 α14 α15 α16 α17 α18 α19 α20 α21 α22 α23 : Type} {x : Option (α0 × α1 × α2 × α3 × α4 × α5 × α6 × α7 × α8 × α9 × α10 × α11 × α12 × α13 × α14 × α15 × α16 × α17 × α18 × α19 × α20 × α21 × α22 × α23)} {k : α0 → α1 → α2 → α3 → α4 → α5 → α6 → α7 → α8 → α9 → α10 → α11 → α12 → α13 → α14 → α15 → α16 → α17 → α18 → α19 → α20 → α21 → α22 → α23 → Option ρ} {a0 : α0} {a1 : α1} {a2 : α2} {a3 : α3} {a4 : α4} {a5 : α5} {a6 : α6} {a7 : α7} {a8 : α8} {a9 : α9} {a10 : α10} {a11 : α11} {a12 : α12} {a13 : α13} {a14 : α14} {a15 : α15} {a16 : α16} {a17 : α17} {a18 : α18} {a19 : α19} {a20 : α20} {a21 : α21} {a22 : α22} {a23 : α23} (h : x = some (a0, a1, a2, a3, a4, a5, a6, a7, a8, a9, a10, a11, a12, a13, a14, a15, a16, a17, a18, a19, a20, a21, a22, a23)) : bd24 x k = k a0 a1 a2 a3 a4 a5 a6 a7 a8 a9 a10 a11 a12 a13 a14 a15 a16 a17 a18 a19 a20 a21 a22 a23 := by rw [h]; rfl
def bx24 {ρ γ α0 α1 α2 α3 α4 α5 α6 α7 α8 α9 α10 α11 α12 α13 α14 α15 α16 α17 α18 α19 α20 α21 α22 α23 : Type} (x : Option (Sum γ (α0 × α1 × α2 × α3 × α4 × α5 × α6 × α7 × α8 × α9 × α10 × α11 × α12 × α13 × α14 × α15 × α16 × α17 × α18 × α19 × α20 × α21 × α22 × α23))) (k : α0 → α1 → α2 → α3 → α4 → α5 → α6 → α7 → α8 → α9 → α10 → α11 → α12 → α13 → α14 → α15 → α16 → α17 → α18 → α19 → α20 → α21 → α22 → α23 → Option (Sum γ ρ)) : Option (Sum γ ρ) := match x with
  | some (Sum.inl r) => some (Sum.inl r)
  | some (Sum.inr (a0, a1, a2, a3, a4, a5, a6, a7, a8, a9, a10, a11, a12, a13, a14, a15, a16, a17, a18, a19, a20, a21, a22, a23)) => k a0 a1 a2 a3 a4 a5 a6 a7 a8 a9 a10 a11 a12 a13 a14 a15 a16 a17 a18 a19 a20 a21 a22 a23
  | none => none
theorem bx24_z {ρ γ α0 α1 α2 α3 α4 α5 α6 α7 α8 α9 α10 α11 α12 α13 α14 α15 α16 α17 α18 α19 α20 α21 α22 α23 : Type} {x : Option (Sum γ (α0 × α1 × α2 × α3 × α4 × α5 × α6 × α7 × α8 × α9 × α10 × α11 × α12 × α13 × α14 × α15 × α16 × α17 × α18 × α19 × α20 × α21 × α22 × α23))} {k : α0 → α1 → α2 → α3 → α4 → α5 → α6 → α7 → α8 → α9 → α10 → α11 → α12 → α13 → α14 → α15 → α16 → α17 → α18 → α19 → α20 → α21 → α22 → α23 → Option (Sum γ ρ)} {r : Sum γ ρ} (h : bx24 x k = some r) : ∃ z, x = some z ∧ (∀ r', z = Sum.inl r' → r = Sum.inl r') ∧ (∀ (a0 : α0) (a1 : α1) (a2 : α2) (a3 : α3) (a4 : α4) (a5 : α5) (a6 : α6) (a7 : α7) (a8 : α8) (a9 : α9) (a10 : α10) (a11 : α11) (a12 : α12) (a13 : α13) (a14 : α14) (a15 : α15) (a16 : α16) (a17 : α17) (a18 : α18) (a19 : α19) (a20 : α20) (a21 : α21) (a22 : α22) (a23 : α23), z = Sum.inr (a0, a1, a2, a3, a4, a5, a6, a7, a8, a9, a10, a11, a12, a13, a14, a15, a16, a17, a18, a19, a20, a21, a22, a23) → k a0 a1 a2 a3 a4 a5 a6 a7 a8 a9 a10 a11 a12 a13 a14 a15 a16 a17 a18 a19 a20 a21 a22 a23 = some r) := by
  cases x with
  | none => cases h
  | some v => exact ⟨v, rfl, fun r' e => by subst e; cases h; rfl, fun a0 a1 a2 a3 a4 a5 a6 a7 a8 a9 a10 a11 a12 a13 a14 a15 a16 a17 a18 a19 a20 a21 a22 a23 e => by subst e; exact h⟩
