/-! Behind a call from the law: the callee's cells are put at their own places, so that a world of 99 cells needs no search. -/
def st_ (ws : va_W) : List Nat → va_W → va_W
  | i :: is, q :: qs => st_ (ws.set i q) is qs
  | _, _ => ws
theorem st_mem : ∀ (is : List Nat) (qs ws : va_W), is.length = qs.length → ∀ (k : Nat) (q : Nat × va_E), (st_ ws is qs)[k]? = some q → (∃ j : Nat, qs[j]? = some q) ∨ (ws[k]? = some q ∧ k ∉ is)
  | [], qs, ws, _, k, q, h => by
    cases qs <;> exact Or.inr ⟨h, List.not_mem_nil⟩
  | i :: is, [], ws, hl, k, q, h => by simp at hl
  | i :: is, x :: qs, ws, hl, k, q, h => by
    have hl' : is.length = qs.length := by simpa using hl
    rcases st_mem is qs (ws.set i x) hl' k q h with ⟨j, hj⟩ | ⟨h1, h2⟩
    · exact Or.inl ⟨j + 1, by simpa using hj⟩
    · rw [List.getElem?_set] at h1
      by_cases hi : i = k
      · rw [if_pos hi] at h1
        by_cases hb : k < ws.length
        · rw [hi, if_pos hb] at h1
          exact Or.inl ⟨0, by simpa using h1⟩
        · rw [hi, if_neg hb] at h1; cases h1
      · rw [if_neg hi] at h1
        exact Or.inr ⟨h1, fun hm => by
          rcases List.mem_cons.mp hm with e | e
          · exact hi e.symm
          · exact h2 e⟩
theorem va_Df {A : Nat → Prop} {ws ws' : va_W} (hD : va_D A ws) (h : ws'.map Prod.fst = ws.map Prod.fst) : va_D A ws' := by
  have key : ∀ (k : Nat) (q : Nat × va_E), ws'[k]? = some q → ∃ e : va_E, ws[k]? = some (q.1, e) := by
    intro k q hk
    have h1 : (ws'.map Prod.fst)[k]? = some q.1 := by rw [List.getElem?_map, hk]; rfl
    rw [h, List.getElem?_map] at h1
    cases hw : ws[k]? with
    | none => rw [hw] at h1; cases h1
    | some y =>
      rw [hw] at h1
      have e1 : y.1 = q.1 := Option.some.inj h1
      exact ⟨y.2, by rw [← e1]⟩
  refine ⟨fun i j x y hx hy hxy => ?_, fun k q hk => ?_⟩
  · obtain ⟨e1, h1⟩ := key i x hx
    obtain ⟨e2, h2⟩ := key j y hy
    exact hD.1 i j _ _ h1 h2 hxy
  · obtain ⟨e1, h1⟩ := key k q hk
    exact hD.2 k (q.1, e1) h1
theorem st_put {A0 : Nat → Prop} {D : va_G} {cl : List vw_C} {ws wc w1 ws' : va_W} {H H1 : Heap} (hP : va_P D cl ws H) (hD : va_D A0 ws) (isC : List Nat) (hC : isC.map (fun i => ws[i]?) = wc.map some) (hl : isC.length = w1.length) (hst : st_ ws isC w1 = ws') (hf : ws'.map Prod.fst = ws.map Prod.fst)
    (hk : ∀ q : Nat, q < H.size → ¬ va_A wc H.size q → H1[q]? = H[q]?) (hP1 : va_P D cl w1 H1) : va_P D cl ws' H1 ∧ va_D A0 ws' := by
  refine ⟨fun k q hq => ?_, va_Df hD hf⟩
  rw [← hst] at hq
  rcases st_mem isC w1 ws hl k q hq with ⟨j, hj⟩ | ⟨h1, h2⟩
  · exact hP1 j q hj
  · have hlt := (hP k q h1).lt
    refine (hP k q h1).kept (hk q.1 hlt fun h => ?_)
    rcases h with ⟨k2, e, h⟩ | h
    · have h3 : (isC.map (fun i => ws[i]?))[k2]? = some (some (q.1, e)) := by rw [hC, List.getElem?_map, h]; rfl
      rw [List.getElem?_map] at h3
      cases hi : isC[k2]? with
      | none => rw [hi] at h3; cases h3
      | some j =>
        rw [hi] at h3
        have h4 : ws[j]? = some (q.1, e) := Option.some.inj h3
        have hij := hD.1 k j q (q.1, e) h1 h4 rfl
        subst hij
        exact h2 (List.mem_of_getElem? hi)
    · omega
section HD
variable {p : Program} {l : Launch} {e : Env} {R : Room} {s : State} {m : MethodId} {args : Array Value} {below : List Frame} {meth : Method} {c : Code} {H : Heap} {locs : List Loc} {cells slots : Nat} {Q : State → Prop} {pc : Nat} {ls : Array Slot} {st0 rest : List Value}
theorem cl_g {a : Array Value} {A : Nat → Prop} {dC : Nat → ClassId} {dI : Nat → Nat → Nat} {tys : List (ClassId × FieldType)} {ws wc wc' : va_W} {mc ms : Nat} {r0 : Int32} (hr : va_Run p l e R s m args below meth c H locs cells slots mc ms (F0 m pc ls st0) rest (QI dC dI tys H.size wc wc' r0 a) (va_A wc H.size)) (hP : va_P (dC, dI) vwCl ws H) (hD : va_D A ws) (hS : va_S A s.heap H locs) (hA : ∀ q : Nat, s.heap.size ≤ q → A q) (isC : List Nat) (ws' : va_W) (hC : isC.map (fun i => ws[i]?) = wc.map some) (hl : isC.length = wc'.length) (hst : st_ ws isC wc' = ws') (hf : ws'.map Prod.fst = ws.map Prod.fst)
    (k : ∀ (H1 : Heap) (locs1 : List Loc), va_P (dC, dI) vwCl ws' H1 → va_D A ws' → va_S A s.heap H1 locs1 → W p l e R s m args below meth c H1 locs1 (cells + mc) (slots + ms) Q (F0 m (pc + 3) ls (.int r0 :: rest))) : W p l e R s m args below meth c H locs cells slots Q (F0 m pc ls st0) := by
  have hFc := va_free (wc := wc) hD hS hA isC hC
  refine va_calli hr hS (fun q _ h => hFc q h) hFc (fun r u t H1 locs1 ht hvm hw hB hz1 hk1 hS => ?_)
  obtain ⟨hP1, hK1, hD1⟩ := hB
  rw [ht] at hP1
  subst hw
  obtain ⟨hP, hD⟩ := st_put (w1 := wc') hP hD isC hC hl hst hf hk1 hP1
  exact k H1 locs1 hP hD hS
end HD
