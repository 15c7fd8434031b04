/-! Before the first call. -/
theorem q_INV0 : q_INV 0 1 0 (fun _ => 0) (fun _ => 0) (fun _ => 0) (fun _ => 0) (fun _ => 0) (fun _ => 0) (fun _ => 0) (fun _ => 0) 0 0 0 (fun _ => 0) (fun _ => 0) (fun _ => 0) (fun _ => 0) (fun _ => 0) (fun _ => 0) (fun _ => 0) 0 (fun _ => 0) (fun _ => 0) (fun _ => 0) 0 (fun _ => 0) (fun _ => 0) 0 0 (fun _ => 0) 0 (fun _ => 0) (fun _ => 0) 0 0 (fun _ => 0) 0 (fun _ => 0) (fun _ => 0) 0 0 0 0 0 0 0 0 0 0 0 0 0 (fun _ => 0) (fun _ => 0) (fun _ => 0) (fun _ => 0) (fun _ => 0) (fun _ => 0) (fun _ => 0) (fun _ => 0) (fun _ => 0) (fun _ => 0) (fun _ => 0) (fun _ => 0) (fun _ => 0) (fun _ => 0) (fun _ => 0) (fun _ => 0) (fun _ => 0) (fun _ => 0) (fun _ => 0) (fun _ => 0) (fun _ => 0) (fun _ => 0) (fun _ => 0) (fun _ => 0) (fun _ => 0) (fun _ => 0) := by
  have np : ∀ i j, ¬ q_pt 0 (fun _ => (0, 0, 0, 0)) i j := by
    intro i j h
    unfold q_pt at h
    rcases h with ⟨l, h, _⟩ | ⟨l, m, h, _⟩ <;> omega
  have z0 : q_NP 0 (fun _ => (0, 0, 0, 0)) = 0 := rfl
  have gi : q_gi 0 (fun _ => (0, 0, 0, 0)) 0 0 := ⟨by omega, by omega, by omega, fun l h => by omega, fun l m h => by omega⟩
  have labs : q_labs 0 (fun _ => (0, 0, 0, 0)) 0 0 (fun _ => -1) 0 := by
    constructor
    · intro v hv
      exact Or.inl ⟨q_rim gi hv (Or.inl (by have := hv.1; omega)), rfl⟩
    · symm
      refine q_cnt_none (fun i _ hf => ?_)
      obtain ⟨a, b, _⟩ := hf
      exact b (q_rim gi a (Or.inl (by have := a.1; omega)))
  have gr : q_gr 0 0 (fun _ => 0) (fun _ => 0) (fun _ => 0) (fun _ => 0) := ⟨fun i h => by omega, fun i j h h' => by omega, fun i h => by omega, fun i h => by omega, fun i j h h' => by omega, fun i h => by omega⟩
  have sl : ∀ v, ¬ q_SL 0 (fun _ => (0, 0, 0, 0)) v := fun v h => by obtain ⟨u, h, _⟩ := h; exact np _ _ h
  refine ⟨0, fun _ => (0, 0, 0, 0), fun _ => 0, fun _ => 0, fun _ => 0, fun _ => 0, 0, fun _ => (0, 0, 0, 0), fun _ => (0, 0, 0, 0), 0, 0, fun _ => 0, fun _ => 0, fun _ => -1, 0, 0, False, ⟨rfl, rfl, by omega, rfl, rfl, by rw [q_one_f (fun q => q rfl)]; rfl, fun _ => rfl, by rw [q_one_t (fun q => q)]; rfl, by rw [q_one_f (fun q => q)]; rfl, rfl, rfl, rfl, rfl, rfl, rfl⟩, ?_, ?_, (fun q => q.elim), ?_, ?_, ?_, ?_, ?_⟩
  · exact ⟨⟨by omega, fun l h => by omega, fun l m h => by omega⟩, fun l h => by omega, fun l h => by omega, fun l h => by omega, fun l h => by omega, fun l h => by omega, fun l h => by omega, fun l _ _ => rfl⟩
  · exact ⟨⟨by omega, fun l h => by omega, fun l m h => by omega⟩, gi, fun l h => by omega, labs, gr, fun c r h1 h2 => by omega, gr, fun c r h1 h2 => by omega⟩
  · exact ⟨⟨fun _ => 0, fun i j h => by omega⟩, fun p h => by rw [z0] at h; omega, fun p h => by rw [z0] at h; omega, fun i j d h => (np i j h).elim, rfl, rfl, rfl, rfl, rfl⟩
  · refine ⟨0, 0, 0, fun _ => 0, fun _ => 0, fun _ => 0, rfl, rfl, fun r h => by omega, ?_, by omega, by omega, fun r r' h h' => by omega, fun r h => by omega, ?_, by omega, fun x y h h' => by omega⟩
    · exact ⟨fun x h => by omega, fun h hl => by have := hl.1; rw [z0] at this; omega, fun x y h => by omega⟩
    · exact ⟨fun x h => by omega, fun h hl => by have := hl.1; rw [z0] at this; omega, fun x y h => by omega⟩
  · exact ⟨0, fun _ => 0, fun _ => 0, rfl, rfl, by omega, ⟨fun i j h h' => by omega, fun v => ⟨fun h => (sl v h).elim, fun ⟨i, h, _⟩ => by omega⟩⟩, ⟨fun i j h h' => by omega, fun v => ⟨fun h => (sl v h).elim, fun ⟨i, h, _⟩ => by omega⟩⟩, fun k h => by omega, fun k h => by omega⟩
  · exact ⟨0, 0, 0, fun _ => 0, fun _ => 0, fun _ => -1, False, rfl, rfl, rfl, rfl, by rw [q_one_f (fun q => q)]; rfl, by omega, by omega, by omega, gr, fun c r h1 h2 => by omega, fun q => q.elim, fun o s h => by omega⟩
  · exact ⟨fun _ => 0, fun o => Nat.zero_le _, fun o h => by omega, fun o h => by omega⟩
