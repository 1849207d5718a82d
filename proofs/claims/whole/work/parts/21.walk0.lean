-- ===== soundness: behind a call =====
section S8
variable {p : Program} {l : Launch} {e : Env} {R : Room} {s : State} {m : MethodId} {args : Array Value} {below : List Frame} {meth : Method} {c : Code} {H : Heap} {locs : List Loc} {cells slots : Nat} {Q : State → Prop}
variable {pc : Nat} {ls : Array Slot} {ι : Nat → Nat} {b : Nat} {k' : Nat} {st0 rest : List Value} {D : va_G} {aC : Nat → ClassId} {A : Nat → Prop} {h h1 : mm_H} {u0 v0 : Nat} {o1 : Option Value ⊕ Nat} {a9 : Array Value}
set_option maxHeartbeats 4000000 in
theorem ms_callW (hr : vx_Run p l e R s m args below meth c H locs cells slots ((mm_u h1).1 - (mm_u h).1) ((mm_u h1).2 - (mm_u h).2) (F0 m pc ls st0) rest
      (ms_Qc D aC ι b (mm_N h) (va_A (ms_ws ι b aC h) H.size) k' o1 h1 a9) (ms_XC D aC ι b (mm_N h) (va_A (ms_ws ι b aC h) H.size) o1 h1) (va_A (ms_ws ι b aC h) H.size))
    (hI : ms_I D aC ι b A s.heap H locs h) (hA : ∀ q, s.heap.size ≤ q → A q) (hw1 : mm_wh h1) (hmo : mm_mo h h1) (hc : (mm_u h).1 = u0 + cells) (hsl : (mm_u h).2 = v0 + slots)
    (Kx : ∀ (ex : Nat) (E : String) (ce : Cell) (q : Addr) (ι' : Nat → Nat) (H' : Heap) (locs' : List Loc) (cells' slots' : Nat), o1 = .inr ex → mExc[ex]? = some E → ms_ag (mm_N h) ι ι' → ms_I D aC ι' b A s.heap H' locs' h1 → (mm_u h1).1 = u0 + cells' → (mm_u h1).2 = v0 + slots' → H'[q]? = some ce → ce.vm = .none → s.vm.findClass E = some ce.cls → vx_W p l e R s m args below meth c H' locs' cells' slots' Q (F0 m pc ls rest) q)
    (Kr : ∀ (v : Option Value) (ι' : Nat → Nat) (H' : Heap) (locs' : List Loc) (cells' slots' : Nat), o1 = .inl v → ms_ag (mm_N h) ι ι' → ms_I D aC ι' b A s.heap H' locs' h1 → (mm_u h1).1 = u0 + cells' → (mm_u h1).2 = v0 + slots' → W p l e R s m args below meth c H' locs' cells' slots' Q (F0 m (pc + 3) ls (v.toList ++ rest))) :
    W p l e R s m args below meth c H locs cells slots Q (F0 m pc ls st0) := by
  have hfree := ms_free hI hA
  have hS := hI.2.2.1
  have hfin : ∀ (ι' : Nat → Nat) (t : State) (H' : Heap) (locs' : List Loc), t.heap = H' → ms_B D aC b (va_A (ms_ws ι b aC h) H.size) h1 ι' t → va_S A s.heap H' locs' → ms_I D aC ι' b A s.heap H' locs' h1 := fun ι' t H' locs' ht hB hS' => by
    refine ⟨by rw [← ht]; exact hB.1, hB.2.weaken (fun _ q _ hq => hfree _ hq), hS', hw1⟩
  have e1 : (mm_u h1).1 = u0 + (cells + ((mm_u h1).1 - (mm_u h).1)) := by
    have := hmo.2.2.1
    omega
  have e2 : (mm_u h1).2 = v0 + (slots + ((mm_u h1).2 - (mm_u h).2)) := by
    have := hmo.2.2.2.1
    omega
  unfold ms_Qc at hr
  split at hr
  · refine vx_callv hr hS (fun q _ => hfree q) hfree (fun q _ => hfree q) (fun E ce q9 ι' t H1 locs1 ht hal hag hB hz1 hk1 hS1 hce hcv hcl => ?_) (fun ι' t H1 locs1 ht hal hpost hB hz1 hk1 hS1 => ?_)
    · obtain ⟨⟨ex, ho, hE⟩, hB⟩ := hB
      exact Kx ex E ce q9 ι' H1 locs1 _ _ ho hE hag (hfin ι' t H1 locs1 ht hB hS1) e1 e2 hce hcv hcl
    · exact Kr none ι' H1 locs1 _ _ hpost.1 hpost.2 (hfin ι' t H1 locs1 ht hB hS1) e1 e2
  · split at hr
    · refine vx_calll hr hS (fun q _ => hfree q) hfree (fun q _ => hfree q) (fun E ce q9 ι' t H1 locs1 ht hal hag hB hz1 hk1 hS1 hce hcv hcl => ?_) (fun r ι' t H1 locs1 ht hal hpost hB hz1 hk1 hS1 => ?_)
      · obtain ⟨⟨ex, ho, hE⟩, hB⟩ := hB
        exact Kx ex E ce q9 ι' H1 locs1 _ _ ho hE hag (hfin ι' t H1 locs1 ht hB hS1) e1 e2 hce hcv hcl
      · exact Kr (some (.long r)) ι' H1 locs1 _ _ hpost.1 hpost.2 (hfin ι' t H1 locs1 ht hB hS1) e1 e2
    · split at hr
      · refine vx_calld hr hS (fun q _ => hfree q) hfree (fun q _ => hfree q) (fun E ce q9 ι' t H1 locs1 ht hal hag hB hz1 hk1 hS1 hce hcv hcl => ?_) (fun r ι' t H1 locs1 ht hal hpost hB hz1 hk1 hS1 => ?_)
        · obtain ⟨⟨ex, ho, hE⟩, hB⟩ := hB
          exact Kx ex E ce q9 ι' H1 locs1 _ _ ho hE hag (hfin ι' t H1 locs1 ht hB hS1) e1 e2 hce hcv hcl
        · exact Kr (some (.double r)) ι' H1 locs1 _ _ hpost.1 hpost.2 (hfin ι' t H1 locs1 ht hB hS1) e1 e2
      · refine vx_calli hr hS (fun q _ => hfree q) hfree (fun q _ => hfree q) (fun E ce q9 ι' t H1 locs1 ht hal hag hB hz1 hk1 hS1 hce hcv hcl => ?_) (fun r ι' t H1 locs1 ht hal hpost hB hz1 hk1 hS1 => ?_)
        · obtain ⟨⟨ex, ho, hE⟩, hB⟩ := hB
          exact Kx ex E ce q9 ι' H1 locs1 _ _ ho hE hag (hfin ι' t H1 locs1 ht hB hS1) e1 e2 hce hcv hcl
        · exact Kr (some (.int r)) ι' H1 locs1 _ _ hpost.1 hpost.2 (hfin ι' t H1 locs1 ht hB hS1) e1 e2
end S8
-- ===== soundness: the walk =====
def ms_rd (k pc : Nat) (v : Option Value) : Prop := match v with
  | none => decode (mB k) pc = .ok (.return_, 1) ∧ mR k = 0
  | some (.int r) => decode (mB k) pc = .ok (.ireturn, 1) ∧ (mR k = 1 ∨ (mR k = 2 ∧ (r = 0 ∨ r = 1)))
  | some (.long _) => decode (mB k) pc = .ok (.lreturn, 1) ∧ mR k = 3
  | some (.double _) => decode (mB k) pc = .ok (.dreturn, 1) ∧ mR k = 4
  | _ => False
def ms_walk (n : Nat) : Prop :=
  ∀ (k pc : Nat) (L : mm_L) (st : List Value) (h : mm_H) (o : Option Value ⊕ Nat) (h' : mm_H), mm_run n k pc L st h = some (o, h') → k < 232 →
  ∀ (p : Program) (l : Launch) (e : Env) (R : Room) (s : State) (m : MethodId) (args : Array Value) (below : List Frame) (meth : Method) (c : Code) (Q : State → Prop) (D : va_G) (aC : Nat → ClassId) (ι : Nat → Nat) (b : Nat) (A : Nat → Prop) (H : Heap) (locs : List Loc) (cells slots : Nat) (ls : Array Slot) (u0 v0 : Nat) (X : Nat × (Nat → Int32)),
    ms_Fr p l R s m args meth c D aC b A k X → mm_X h = X → ms_I D aC ι b A s.heap H locs h → ms_LR ι b k ls L → mm_wl (mm_N h) L → mm_ws (mm_N h) st → (mm_u h).1 = u0 + cells → (mm_u h).2 = v0 + slots → (mm_u h').1 ≤ u0 + R.cells → (mm_u h').2 ≤ v0 + R.slots →
    (∀ (v : Option Value) (ι' : Nat → Nat) (H' : Heap) (locs' : List Loc) (cells' slots' pc' : Nat) (ls' : Array Slot), o = .inl v → ms_ag (mm_N h) ι ι' → ms_I D aC ι' b A s.heap H' locs' h' → (mm_u h').1 = u0 + cells' → (mm_u h').2 = v0 + slots' → ms_rd k pc' v → W p l e R s m args below meth c H' locs' cells' slots' Q (F0 m pc' ls' v.toList)) →
    (∀ (ex : Nat) (d : Nat × Nat × Nat × Nat) (ι' : Nat → Nat) (H' : Heap) (locs' : List Loc) (cells' slots' pc' : Nat) (ls' : Array Slot) (st' : List Value) (h2 : mm_H), o = .inr ex → h' = mm_th h2 → mThr k pc' = some (ex, d) → ms_ag (mm_N h) ι ι' → ms_I D aC ι' b A s.heap H' locs' h2 → (mm_u h2).1 = u0 + cells' → (mm_u h2).2 = v0 + slots' → ls'.size = mL k → mm_cat st' ≤ 8 → mX k = [] → 6 ≤ mF k → 90 ≤ mO k → W p l e R s m args below meth c H' locs' cells' slots' Q (F0 m pc' ls' (st'.map (ms_tr ι' b)))) →
    (∀ (ex : Nat) (E : String) (ce : Cell) (q : Addr) (ι' : Nat → Nat) (H' : Heap) (locs' : List Loc) (cells' slots' pc' : Nat) (ls' : Array Slot) (rest : List Value), o = .inr ex → mExc[ex]? = some E → mm_find (mX k) pc' ex = none → ms_ag (mm_N h) ι ι' → ms_I D aC ι' b A s.heap H' locs' h' → (mm_u h').1 = u0 + cells' → (mm_u h').2 = v0 + slots' → H'[q]? = some ce → ce.vm = .none → s.vm.findClass E = some ce.cls → vx_W p l e R s m args below meth c H' locs' cells' slots' Q (F0 m pc' ls' rest) q) →
    W p l e R s m args below meth c H locs cells slots Q (F0 m pc ls (st.map (ms_tr ι b)))
