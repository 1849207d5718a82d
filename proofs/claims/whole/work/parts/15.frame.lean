-- ===== soundness: a frame, and its simple steps =====
def ms_Fr (p : Program) (l : Launch) (R : Room) (s : State) (m : MethodId) (args : Array Value) (meth : Method) (c : Code) (D : va_G) (aC : Nat → ClassId) (b : Nat) (A : Nat → Prop) (k : Nat) (X : Nat × (Nat → Int32)) : Prop :=
  p.tables.exec = Jvm.exec ∧ c.code = mB k ∧ c.maxLocals = mL k ∧ s.vm.findClass (mOwn k) = some m.cls ∧ (∀ w ∈ ms_base, w.before args s = true) ∧ meth.locks = false ∧ (mN k = true → meth.name = "<init>") ∧ va_K D vwCl (ms_tys aC) s ∧ (∀ q, s.heap.size ≤ q → A q) ∧ mF k ≤ R.frames ∧ mO k ≤ R.locals ∧ ms_amb A s s.heap ∧ l.stackTraces = false ∧ (k < 231 → c.exceptionTable.toList = tableOf (mX k)) ∧ (k = mm_law → va_X b X.1 X.2 s s.heap ∧ b < s.heap.size ∧ ¬ A b)
section S5
variable {p : Program} {l : Launch} {e : Env} {R : Room} {s : State} {m : MethodId} {args : Array Value} {below : List Frame} {meth : Method} {c : Code} {H : Heap} {locs : List Loc} {cells slots : Nat} {Q : State → Prop}
variable {pc len : Nat} {ls : Array Slot} {ι : Nat → Nat} {b : Nat} {k : Nat} {i : ClassFile.Instr} {st st' : List Value} {D : va_G} {aC : Nat → ClassId} {A : Nat → Prop} {h h' : mm_H} {u0 v0 : Nat} {L L' : mm_L} {X : Nat × (Nat → Int32)}
theorem ms_smW {pc' : Nat} (hF : ms_Fr p l R s m args meth c D aC b A k X) (hX : mm_X h = X) (hI : ms_I D aC ι b A s.heap H locs h) (hL : ms_LR ι b k ls L) (hwl : mm_wl (mm_N h) L) (hws : mm_ws (mm_N h) st)
    (hc : (mm_u h).1 = u0 + cells) (hsl : (mm_u h).2 = v0 + slots) (hroom : (mm_u h').1 ≤ u0 + R.cells ∧ (mm_u h').2 ≤ v0 + R.slots) (hd : decode (mB k) pc = .ok (i, len)) (hln : mm_ln i = len ∨ mm_ln i = 0) (hs : mm_sm k pc len i L st h = some (pc', L', st', h'))
    (K : ∀ (ι' : Nat → Nat) (H' : Heap) (locs' : List Loc) (cells' slots' : Nat) (ls' : Array Slot), ms_ag (mm_N h) ι ι' → ms_I D aC ι' b A s.heap H' locs' h' → ms_LR ι' b k ls' L' → (mm_u h').1 = u0 + cells' → (mm_u h').2 = v0 + slots' → W p l e R s m args below meth c H' locs' cells' slots' Q (F0 m pc' ls' (st'.map (ms_tr ι' b)))) :
    W p l e R s m args below meth c H locs cells slots Q (F0 m pc ls (st.map (ms_tr ι b))) := by
  obtain ⟨hx, hb, hml, hown, hts, hlk, hin, hK, hA, hRf, hRo, ham, -, -, hscr⟩ := hF
  unfold mm_sm at hs
  split at hs
  · rename_i st1 h1
    cases hs
    exact ms_sA hx hb hown hts hd hln h1 (K ι H locs cells slots ls (ms_ag.rf _ _) hI hL hc hsl)
  · split at hs
    · rename_i L1 st1 h1
      cases hs
      exact ms_sL hx hb hL hd hln h1 (fun ls' hL' => K ι H locs cells slots ls' (ms_ag.rf _ _) hI hL' hc hsl)
    · split at hs
      · rename_i pc1 st1 h1
        cases hs
        exact ms_sB hx hb hd hln h1 (K ι H locs cells slots ls (ms_ag.rf _ _) hI hL hc hsl)
      · split at hs
        · rename_i st1 h2 h1
          cases hs
          exact ms_sH hx hb hown hts hml hK hin hI hA hL.2.1 (fun q => by rw [hX]; exact hscr q) ham.2.2.2.2.1 hws hRf hRo hc hsl hroom hd hln h1 (fun ι' H' locs' cells' slots' hg hI' hc' hs' => K ι' H' locs' cells' slots' ls hg hI' (hg.LR hwl hL) hc' hs')
        · cases hs
-- ===== soundness: handlers =====
theorem ms_find_some : ∀ {hh : List (Nat × Nat × Nat × Nat)} {pc e hp : Nat}, mm_find hh pc e = some hp → ∃ pre q suf, hh = pre ++ q :: suf ∧ (q.1 ≤ pc ∧ pc < q.2.1 ∧ mCTs.lookup q.2.2.2 = some e) ∧ q.2.2.1 = hp ∧ ∀ z ∈ pre, ¬ (z.1 ≤ pc ∧ pc < z.2.1 ∧ mCTs.lookup z.2.2.2 = some e)
  | [], _, _, _, h => by cases h
  | q :: t, pc, e, hp, h => by
    unfold mm_find at h
    split at h
    · rename_i h0
      cases h
      exact ⟨[], q, t, rfl, h0, rfl, fun z hz => by cases hz⟩
    · rename_i h0
      obtain ⟨pre, x, suf, h1, h2, h3, h4⟩ := ms_find_some h
      refine ⟨q :: pre, x, suf, by rw [h1]; rfl, h2, h3, fun z hz => ?_⟩
      rcases List.mem_cons.mp hz with rfl | hz
      · exact h0
      · exact h4 z hz
theorem ms_find_none : ∀ {hh : List (Nat × Nat × Nat × Nat)} {pc e : Nat}, mm_find hh pc e = none → ∀ z ∈ hh, ¬ (z.1 ≤ pc ∧ pc < z.2.1 ∧ mCTs.lookup z.2.2.2 = some e)
  | [], _, _, _, z, hz => by cases hz
  | q :: t, pc, e, h, z, hz => by
    unfold mm_find at h
    split at h
    · cases h
    · rename_i h0
      rcases List.mem_cons.mp hz with rfl | hz
      · exact h0
      · exact ms_find_none h z hz
theorem ms_tbl_ok : (List.range 232).all (fun k => (decide (mX k = []) || decide (mC k = 9)) && (mX k).all fun q => (mCTs.lookup q.2.2.2).isSome && decide (q.2.2.2 ≠ 0)) = true := by decide +kernel
theorem ms_tbl {k : Nat} (hk : k < 232) : (mX k = [] ∨ mC k = 9) ∧ ∀ q ∈ mX k, (∃ e, mCTs.lookup q.2.2.2 = some e) ∧ q.2.2.2 ≠ 0 := by
  have h1 := List.all_eq_true.mp ms_tbl_ok k (List.mem_range.mpr hk)
  simp only [Bool.and_eq_true, Bool.or_eq_true, decide_eq_true_eq] at h1
  refine ⟨h1.1, fun q hq => ?_⟩
  have h2 := List.all_eq_true.mp h1.2 q hq
  simp only [Bool.and_eq_true, decide_eq_true_eq] at h2
  exact ⟨Option.isSome_iff_exists.mp h2.1, h2.2⟩
theorem ms_ct_ok : mCTs.all (fun q => match mExc[q.2]? with | some E => decide (Cond.classLink RL q.1 E ∈ ms_base) && decide (Cond.castable E E ∈ ms_nwT) | none => false) = true := by decide +kernel
theorem ms_ct {x e : Nat} (h : mCTs.lookup x = some e) : ∃ E, mExc[e]? = some E ∧ Cond.classLink RL x E ∈ ms_base ∧ Cond.castable E E ∈ ms_nwT := by
  have h1 := List.all_eq_true.mp ms_ct_ok _ (ms_lookup mCTs x e h)
  dsimp only at h1
  split at h1
  · rename_i E hE
    simp only [Bool.and_eq_true, decide_eq_true_eq] at h1
    exact ⟨E, hE, h1⟩
  · cases h1
theorem ms_nc_ok : (List.range 5).all (fun i => (List.range 5).all fun j => decide (i = j) || match mExc[i]?, mExc[j]? with | some E, some F => decide ((E, F) ∈ ms_ncs) | _, _ => false) = true := by decide +kernel
theorem ms_nc {i j : Nat} {E F : String} (hE : mExc[i]? = some E) (hF : mExc[j]? = some F) (hij : i ≠ j) : (E, F) ∈ ms_ncs := by
  have hi : i < 5 := (List.getElem?_eq_some_iff.mp hE).1
  have hj : j < 5 := (List.getElem?_eq_some_iff.mp hF).1
  have h1 := List.all_eq_true.mp (List.all_eq_true.mp ms_nc_ok i (List.mem_range.mpr hi)) j (List.mem_range.mpr hj)
  rw [hE, hF] at h1
  simpa [hij] using h1
/-- a row of the table that doesn't take the exception -/
theorem ms_pass (hF : ms_Fr p l R s m args meth c D aC b A k X) {E : String} {ex : Nat} (hk : k < 232) (hE : mExc[ex]? = some E) {hh : List (Nat × Nat × Nat × Nat)} (hsub : ∀ q ∈ hh, q ∈ mX k) (hno : ∀ z ∈ hh, ¬ (z.1 ≤ pc ∧ pc < z.2.1 ∧ mCTs.lookup z.2.2.2 = some ex)) :
    ∀ z ∈ tableOf hh, covers z pc = false ∨ (z.catchType ≠ 0 ∧ ∃ nm : String, (Cond.classLink (mOwn k) z.catchType nm).before args s = true ∧ va_Nc E nm s) := by
  obtain ⟨hx, hb, hml, hown, hts, hlk, hin, hK, hA, hRf, hRo, ham, -, -, hscr⟩ := hF
  intro z hz
  obtain ⟨q, hq, rfl⟩ := List.mem_map.mp hz
  by_cases hcov : q.1 ≤ pc ∧ pc < q.2.1
  · right
    obtain ⟨h1, h2⟩ := ms_tbl hk
    obtain ⟨⟨e2, he2⟩, h0⟩ := h2 q (hsub q hq)
    obtain ⟨F, hF1, hF2, hF3⟩ := ms_ct he2
    have hne : ex ≠ e2 := fun q' => hno q hq ⟨hcov.1, hcov.2, by rw [he2, q']⟩
    have hc9 : mC k = 9 := by
      rcases h1 with h1 | h1
      · have := hsub q hq
        rw [h1] at this
        cases this
      · exact h1
    have ho : mOwn k = RL := by unfold mOwn; rw [hc9]; rfl
    refine ⟨h0, F, ?_, ham.2.2.2.2.2 _ (ms_nc hE hF1 hne)⟩
    rw [ho]
    exact hts _ hF2
  · left
    simp only [covers, Bool.and_eq_false_iff, decide_eq_false_iff_not]
    by_cases h1 : q.1 ≤ pc
    · exact Or.inr (fun h2 => hcov ⟨h1, h2⟩)
    · exact Or.inl h1
theorem ms_catchW (hF : ms_Fr p l R s m args meth c D aC b A k X) {E : String} {ex hp : Nat} {ce : Cell} {q : Addr} {rest : List Value} (hk : k < 232) (hE : mExc[ex]? = some E) (hf : mm_find (mX k) pc ex = some hp) (hcell : H[q]? = some ce) (hv : ce.vm = .none) (hcl : s.vm.findClass E = some ce.cls)
    (kk : W p l e R s m args below meth c H locs cells slots Q (F0 m hp ls [.ref q])) : vx_W p l e R s m args below meth c H locs cells slots Q (F0 m pc ls rest) q := by
  have hF' := hF
  obtain ⟨hx, hb, hml, hown, hts, hlk, hin, hK, hA, hRf, hRo, ham, -, htab, hscr⟩ := hF
  have hk2 : k < 231 := by
    rcases Nat.lt_or_ge k 231 with q | q
    · exact q
    · obtain rfl : k = 231 := by omega
      cases hf
  obtain ⟨pre, x, suf, h1, ⟨h2, h3, h4⟩, h5, h6⟩ := ms_find_some hf
  obtain ⟨g1, g2⟩ := ms_tbl hk
  have hxm : x ∈ mX k := by rw [h1]; exact List.mem_append_right _ List.mem_cons_self
  have hc9 : mC k = 9 := by
    rcases g1 with g1 | g1
    · rw [g1] at hxm
      cases hxm
    · exact g1
  have ho : mOwn k = RL := by unfold mOwn; rw [hc9]; rfl
  obtain ⟨F, hF1, hF2, hF3⟩ := ms_ct h4
  cases Option.some.inj (hF1.symm.trans hE)
  have hsplit : c.exceptionTable.toList = tableOf pre ++ ⟨x.1, x.2.1, x.2.2.1, x.2.2.2⟩ :: tableOf suf := by
    rw [htab hk2, h1]
    simp [tableOf]
  refine vx_catch hown (tableOf pre) ⟨x.1, x.2.1, x.2.2.1, x.2.2.2⟩ (tableOf suf) hsplit (ms_pass hF' hk hE (fun q hq => by rw [h1]; exact List.mem_append_left _ hq) h6) ?_ (g2 x hxm).2 (by rw [ho]; exact hts _ hF2) (va_Nw.use rfl (ham.2.2.2.1 _ hF3)) hcell hv hcl ?_
  · simp only [covers, Bool.and_eq_true, decide_eq_true_eq]
    exact ⟨h2, h3⟩
  · show W p l e R s m args below meth c H locs cells slots Q (F0 m x.2.2.1 ls [.ref q])
    rw [h5]
    exact kk
end S5
