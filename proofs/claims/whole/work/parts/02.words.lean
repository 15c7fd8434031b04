/-! The tables' words that calls may hand on (gl), and their places. -/
def gl : List Cond := lw_tbl.filter goodWord
theorem gl_good {w : Cond} (h : w ∈ gl) : (w.onTables && w.keeps) = true ∨ ∃ ty, w = .arrayClass ty := good_of_word (List.mem_filter.mp h).2
theorem gl_tbl {w : Cond} (h : w ∈ gl) : w ∈ lw_tbl := (List.mem_filter.mp h).1
theorem gl_i {w : Cond} (i : Nat) (h : tables_1[i]? = some w) (g : goodWord w = true) : w ∈ gl := List.mem_filter.mpr ⟨List.mem_append_right _ (List.mem_of_getElem? h), g⟩
theorem gl_s {w : Cond} (h : w ∈ k2_sels lw_privs) (g : goodWord w = true) : w ∈ gl := List.mem_filter.mpr ⟨List.mem_append_left _ h, g⟩
theorem gl_p {ws : List Cond} (ps : List Nat) (hp : ws = ps.filterMap (fun i => tables_1[i]?)) (h : ws.all goodWord = true) : ∀ w ∈ ws, w ∈ gl := by
  intro w hw
  have h1 := List.all_eq_true.mp h w hw
  rw [hp] at hw
  obtain ⟨i, -, hi⟩ := List.mem_filterMap.mp hw
  exact gl_i i hi h1
theorem in_c {T w : Cond} (h : w ∈ gl) : w ∈ T :: gl := List.mem_cons_of_mem _ h
theorem in_F {T : Cond} {ws : List Cond} (h : ∀ w ∈ ws, w ∈ gl) : ∀ w ∈ ws, w ∈ T :: gl := fun w q => List.mem_cons_of_mem _ (h w q)
theorem gl_C {T w : Cond} (h : w ∈ gl) : GoodIn (T :: gl) (w :: gl) := by
  intro x hx
  rcases List.mem_cons.mp hx with rfl | hx
  · exact ⟨List.mem_cons_of_mem _ h, gl_good h⟩
  · exact ⟨List.mem_cons_of_mem _ hx, gl_good hx⟩
theorem gl_V {T w : Cond} {own C : String} {idx : Nat} {y : MethodName} (h1 : Cond.methodLink own idx y ∈ gl) (h2 : Cond.instanceMethod y ∈ gl) (h3 : Cond.selects C y y ∈ gl) (h4 : Cond.initialized C ∈ gl) (h5 : w ∈ gl) : GoodIn (T :: gl) (wsV own idx C y (w :: gl)) := by
  intro x hx
  unfold wsV at hx
  simp only [List.cons_append, List.nil_append, List.mem_cons] at hx
  have go : x ∈ gl := by
    rcases hx with rfl | rfl | rfl | rfl | rfl | hx <;> assumption
  exact ⟨List.mem_cons_of_mem _ go, gl_good go⟩
theorem gl_S {T w : Cond} {own : String} {idx : Nat} {y : MethodName} (h1 : Cond.methodLink own idx y ∈ gl) (h2 : Cond.static y ∈ gl) (h4 : Cond.initialized y.cls ∈ gl) (h5 : w ∈ gl) : GoodIn (T :: gl) (va_wsS own idx y (w :: gl)) := by
  intro x hx
  unfold va_wsS at hx
  simp only [List.cons_append, List.nil_append, List.mem_cons] at hx
  have go : x ∈ gl := by
    rcases hx with rfl | rfl | rfl | rfl | hx <;> assumption
  exact ⟨List.mem_cons_of_mem _ go, gl_good go⟩
