/-! what a throw needs, carried over calls -/
def zkp : Cond → Bool
  | .castable _ _ => true
  | .declares _ => true
  | _ => false
theorem gXw_k : ∀ w ∈ gXw, zkp w = true := by decide +kernel
theorem zkp_use {w : Cond} {a a' : Array Value} {s U : State} (h : zkp w = true) (hW : s.WarmedH U.vm) (hw : w.before a s = true) : w.before a' U = true := by
  cases w <;> first | exact absurd (show false = true from h) (by decide) | exact va_Nw.use rfl (va_Nw.warmC hW (va_Nw.of rfl hw)) | exact va_Nw.use rfl (va_Nw.warmD hW (va_Nw.of rfl hw))
theorem gX.use {tx : Nat → Nat} {A B : Nat → Prop} {s U : State} {H : Heap} {locs : List Loc} (h : gX tx A s) (hW : s.WarmedH U.vm) (hU : U.heap = H) (hS : va_S A s.heap H locs) (hAB : ∀ q, B q → A q) : gX tx B U := by
  obtain ⟨h1, h2, h3, t0, t1, t2, t3, t4, t5, t6⟩ := h
  refine ⟨?_, ?_, fun a w hw => zkp_use (a := #[]) (gXw_k w hw) hW (h3 _ w hw), vk_R.warm hW t0, vk_R.warm hW t1, vk_R.warm hW t2, vk_R.warm hW t3, vk_R.warm hW t4, vk_R.warm hW t5, vk_R.warm hW t6⟩
  · rw [hU]; exact (vx_Zq.moved hW.alike (h1.kept hS.2.1)).narrow hAB
  · rw [hU]; exact (vx_Zq.moved hW.alike (h2.kept hS.2.1)).narrow hAB
theorem zblindX {D : va_G} {cy : Nat → ClassId} {tt tx : Nat → Nat} {sz : Nat} {av : List Value} {ws : va_W} {A : Nat → Prop} : FrameBlind (fun a U => zPc D cy tt sz av ws a U ∧ gX tx A U) := by
  intro a U g mk q
  refine ⟨zblind a U g mk q.1, ?_⟩
  exact gX.use (U := U.calling g mk a) (H := U.heap) (locs := []) q.2 (State.WarmedH.refl U) rfl va_S.rf (fun _ h => h)
theorem zpreX {D : va_G} {cy : Nat → ClassId} {tt tx : Nat → Nat} {A : Nat → Prop} {s : State} {H : Heap} {locs : List Loc} {av : List Value} {wc : va_W} (hE : gE D cy tt A s) (hX : gX tx A s) (hS : va_S A s.heap H locs) (hPc : va_P D vwCl wc H) (hDc : va_D A wc) (hF : ∀ q, va_A wc H.size q → A q) :
    ∀ U : State, U.heap = H → s.WarmedH U.vm → (fun a U => zPc D cy tt H.size av wc a U ∧ gX tx (va_A wc H.size) U) av.toArray U := fun U hU hW => ⟨zpre hE hS hPc hDc hF U hU hW, hX.use hW hU hS hF⟩
section ZT
variable {p : Program} {l : Launch} {e : Env} {R : Room} {s : State} {m : MethodId} {args : Array Value} {below : List Frame} {meth : Method} {c : Code} {H H0 : Heap} {locs : List Loc} {cells slots mc ms : Nat} {Q : State → Prop} {pc : Nat} {ls : Array Slot} {rest st0 : List Value} {D : va_G} {A0 : Nat → Prop} {a : Array Value} {free : Addr → Prop}
theorem zthr {E0 : String} {ws : va_W} (hr : vx_Run p l e R s m args below meth c H locs cells slots mc ms (F0 m pc ls st0) rest (zNo a) (zXc E0) free) (hS : va_S A0 H0 H locs) (hf : ∀ q, free q → A0 q) (hP : va_P D vwCl ws H)
    (kx : ∀ (ce : Cell) (q9 : Addr) (H1 : Heap) (locs1 : List Loc), va_P D vwCl ws H1 → va_S A0 H0 H1 locs1 → H.size ≤ H1.size → H1[q9]? = some ce → ce.vm = .none → s.vm.findClass E0 = some ce.cls → vx_W p l e R s m args below meth c H1 locs1 (cells + mc) (slots + ms) Q (F0 m pc ls rest) q9) : W p l e R s m args below meth c H locs cells slots Q (F0 m pc ls st0) := by
  intro T hT X
  rcases hr T hT X with ⟨v, st₀, t, T', L, h0, X', hL, e1, e2, hQ, st⟩ | ⟨q, st₀, t, T', L, E, ce, h0, X', hL, e1, e2, ⟨hE, k1, k2⟩, hce, hcv, hcl, st⟩
  · exact hQ.elim
  · subst hE
    rw [h0] at k1 k2
    have hP1 : va_P D vwCl ws T'.heap := hP.kept (fun k q hk => by rw [e1]; exact k2 q.1 (vx_lt hP hk))
    have hS1 : va_S A0 H0 T'.heap (locs ++ L) := ⟨by rw [e1]; exact Nat.le_trans hS.1 k1, fun q hq hn => by rw [e1, k2 q (Nat.lt_of_lt_of_le hq hS.1)]; exact hS.2.1 q hq hn, fun z hz => (List.mem_append.mp hz).elim (hS.2.2 z) (fun h => hf _ (hL z h))⟩
    obtain ⟨t2, a1, b1⟩ := kx ce q T'.heap (locs ++ L) hP1 hS1 (by rw [e1]; exact k1) (by rw [e1]; exact hce) hcv hcl T' rfl X'
    exact ⟨t2, st.trans a1, b1⟩
end ZT
