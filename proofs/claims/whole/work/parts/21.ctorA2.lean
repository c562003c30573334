/-! a row of references, with other contents that are the same within its length -/
theorem zarr_c {cA : ClassId} {n : Nat} {f g : Nat → Value} (h : ∀ j, j < n → f j = g j) : arrV cA n f = arrV cA n g := by
  have e : (List.range n).map f = (List.range n).map g := List.map_congr_left (fun j hj => h j (List.mem_range.mp hj))
  unfold arrV
  first | rw [e] | simp only [e] | simp_all [Array.map]
theorem zrq {D : va_G} {cl : List vw_C} {ws : va_W} {H : Heap} {k a n : Nat} {cA : ClassId} {f g : Nat → Option Nat} (hP : va_P D cl ws H) (hk : ws[k]? = some (a, .inl (cA, n, .inr (.inr (.inr (.inr f)))))) (h : ∀ j, j < n → f j = g j) : va_P D cl (ws.set k (a, .inl (cA, n, .inr (.inr (.inr (.inr g)))))) H := by
  intro i q hq
  by_cases e : i = k
  · subst e
    rw [List.getElem?_set_self (List.getElem?_eq_some_iff.mp hk).1] at hq
    cases hq
    have h1 : H[a]? = some (vp_cell cA (n, .inr (.inr (.inr (.inr f))))) := hP i _ hk
    show H[a]? = some (vp_cell cA (n, .inr (.inr (.inr (.inr g)))))
    rw [h1, vp_cell_q, vp_cell_q, zarr_c (fun j hj => by rw [h j hj])]
  · rw [List.getElem?_set_ne (fun z => e z.symm)] at hq
    exact hP i q hq
theorem zrqD {A : Nat → Prop} {ws : va_W} {k a : Nat} {x y : va_E} (hD : va_D A ws) (hk : ws[k]? = some (a, x)) : va_D A (ws.set k (a, y)) := by
  have key : ∀ (i : Nat) (q : Nat × va_E), (ws.set k (a, y))[i]? = some q → ∃ q', ws[i]? = some q' ∧ q'.1 = q.1 := by
    intro i q hq
    by_cases e : i = k
    · subst e
      rw [List.getElem?_set_self (List.getElem?_eq_some_iff.mp hk).1] at hq
      cases hq
      exact ⟨_, hk, rfl⟩
    · rw [List.getElem?_set_ne (fun z => e z.symm)] at hq
      exact ⟨q, hq, rfl⟩
  refine ⟨fun i j p q hp hq hpq => ?_, fun i q hq => ?_⟩
  · obtain ⟨p', h1, e1⟩ := key i p hp
    obtain ⟨q', h2, e2⟩ := key j q hq
    exact hD.1 i j p' q' h1 h2 (by rw [e1, e2, hpq])
  · obtain ⟨q', h2, e2⟩ := key i q hq
    rw [← e2]
    exact hD.2 i q' h2
