-- ===== soundness: a method's contract out of the walk =====
theorem ms_meth_ok : (List.range 231).all (fun k => plainName (mY k).cls && (decide ((mY k).cls = mCns.getD (mC k) RL) && (!mN k || decide ((mY k).name = "<init>")))) = true := by decide +kernel
theorem ms_meth {k : Nat} (hk : k < 231) : plainName (mY k).cls = true ∧ (mY k).cls = mOwn k ∧ (mN k = true → (mY k).name = "<init>") := by
  have h1 := List.all_eq_true.mp ms_meth_ok k (List.mem_range.mpr hk)
  simp only [Bool.and_eq_true, Bool.or_eq_true, decide_eq_true_eq, Bool.not_eq_true'] at h1
  refine ⟨h1.1, h1.2.1, fun h => ?_⟩
  rcases h1.2.2 with q | q
  · rw [q] at h
    cases h
  · exact q
theorem ms_sl_len : ∀ {vs : List Value}, (∀ v ∈ vs, v.category = 1) → (lg_sl vs).length = vs.length
  | [], _ => rfl
  | v :: vs, h => by
    have h1 : v.category = 1 := h v List.mem_cons_self
    have h2 := ms_sl_len (vs := vs) (fun w hw => h w (List.mem_cons_of_mem _ hw))
    unfold lg_sl at h2 ⊢
    rw [List.flatMap_cons, if_neg (by rw [h1]; decide), List.length_append, h2]
    simp only [List.length_cons, List.length_nil]
    omega
theorem ms_args_at : ∀ {vs : List Value} {j i : Nat} {v : Value}, (∀ v ∈ vs, v.category = 1) → vs[i]? = some v → (j + i, v) ∈ lv_args j vs
  | [], _, _, _, _, h => by cases h
  | w :: vs, j, i, v, h, hi => by
    have h1 : w.category = 1 := h w List.mem_cons_self
    unfold lv_args
    rw [if_neg (by rw [h1]; decide)]
    cases i with
    | zero =>
      cases hi
      exact List.mem_cons_self
    | succ i =>
      rw [List.getElem?_cons_succ] at hi
      have h2 := ms_args_at (j := j + 1) (fun w hw => h w (List.mem_cons_of_mem _ hw)) hi
      rw [show j + 1 + i = j + (i + 1) by omega] at h2
      exact List.mem_cons_of_mem _ h2
theorem ms_arg1 {ι : Nat → Nat} {b : Nat} {As : List Value} (h : As.all mm_arg = true) : ∀ v ∈ As.map (ms_tr ι b), v.category = 1 := by
  intro v hv
  obtain ⟨w, h1, rfl⟩ := List.mem_map.mp hv
  rw [ms_tr_cat']
  have h2 := List.all_eq_true.mp h w h1
  cases w <;> first
    | rfl
    | (cases h2; done)
theorem ms_en_LR {ι : Nat → Nat} {b k : Nat} {ls : Array Slot} {As : List Value} (ha : As.all mm_arg = true) (hlen : As.length ≤ mL k) (hl : lv_has ls (mL k) (lv_args 0 (As.map (ms_tr ι b)))) : ms_LR ι b k ls (mm_en k As) := by
  have key : ∀ (i : Nat) (v : Value), (mm_en k As)[i]? = some (some v) → As[i]? = some v := by
    intro i v hv
    unfold mm_en at hv
    by_cases hi : i < As.length
    · rw [List.getElem?_append_left (by rw [List.length_map]; exact hi), List.getElem?_map] at hv
      cases hA : As[i]? with
      | none => rw [hA] at hv; cases hv
      | some w => rw [hA] at hv; cases hv; rfl
    · rw [List.getElem?_append_right (by rw [List.length_map]; omega)] at hv
      have := (List.mem_replicate.mp (List.mem_of_getElem? hv)).2
      cases this
  refine ⟨?_, hl.1, hl.2.1, fun i v hv => ?_, fun _ i v hv => ?_⟩
  · unfold mm_en
    rw [List.length_append, List.length_map, List.length_replicate]
    omega
  · have h1 := key i v hv
    have h2 : (As.map (ms_tr ι b))[i]? = some (ms_tr ι b v) := by rw [List.getElem?_map, h1]; rfl
    have h3 := ms_args_at (j := 0) (ms_arg1 ha) h2
    rw [Nat.zero_add] at h3
    exact hl.2.2 _ h3
  · have h1 := key i v hv
    have h2 := List.all_eq_true.mp ha v (List.mem_of_getElem? h1)
    cases v <;> first
      | rfl
      | (cases h2; done)
set_option maxHeartbeats 4000000 in
theorem ms_body {n : Nat} (hw : ms_walk n) {p : Program} {l : Launch} (hst : l.stackTraces = false) {k : Nat} {As : List Value} {h h' : mm_H} {o : Option Value ⊕ Nat} (hk : k < 231) (hrun : mm_run n k 0 (mm_en k As) [] h = some (o, h')) (harg : As.all mm_arg = true) (hlen : As.length ≤ mL k) (hwh : mm_wh h) (hwA : mm_ws (mm_N h) As)
    {D : va_G} {aC : Nat → ClassId} {ι : Nat → Nat} {b sz : Nat} {e : Env} {s s₁ : State} {m : MethodId} {args : Array Value} {below : List Frame} {meth : Method} {c : Code}
    (B : BodyLoose p l (mY k) (headSpec (ms_wk k) (ms_rm k h h')) (mB k) (mL k) (mRt k) e s m args below meth c s₁) (hml : c.maxLocals = mL k) (htab : c.exceptionTable.toList = tableOf (mX k)) (hv : ms_Pc D aC ι b h As sz args s) :
    W p l e (ms_rm k h h') s m args below meth c s.heap [] 0 0 (vx_MQ below (ms_Qc D aC ι b (mm_N h) (va_A (ms_ws ι b aC h) sz) k o h') (ms_XC D aC ι b (mm_N h) (va_A (ms_ws ι b aC h) sz) o h') args s ((mm_u h').1 - (mm_u h).1) ((mm_u h').2 - (mm_u h).2) (va_A (ms_ws ι b aC h) sz)) (entryFrame m args (mL k)) := by
  obtain ⟨rfl, hsz, hP, hK, hD0, ham⟩ := hv
  have hx := B.exec
  have hb := B.bytes
  have hr := B.returns
  have hts0 := atoms_spec (ws := ms_wk k) B.pre
  obtain ⟨y1, y2, y3⟩ := ms_meth hk
  have hown : s.vm.findClass (mOwn k) = some m.cls := by rw [← y2]; exact findClass_of_methodNamed B.named
  have hlocks := B.notSynchronized
  have hin : mN k = true → meth.name = "<init>" := fun q => ((name_of_methodNamed B.named B.method).1).trans (y3 q)
  subst hsz
  have hD := hD0.self (sz := s.heap.size)
  generalize hAe : va_A (ms_ws ι b aC h) s.heap.size = A at hD ham ⊢
  have hA : ∀ q : Nat, s.heap.size ≤ q → A q := fun q h => by rw [← hAe]; exact Or.inr h
  have hl := lv_entry (As.map (ms_tr ι b)) (n := mL k) (by rw [ms_sl_len (ms_arg1 harg), List.length_map]; exact hlen)
  rw [lg_entry_eq]
  generalize (lg_sl (As.map (ms_tr ι b)) ++ List.replicate (mL k - (lg_sl (As.map (ms_tr ι b))).length) Slot.unset).toArray = ls at hl ⊢
  obtain ⟨hwh', hmo⟩ := mm_run_wf n k 0 _ _ h o h' hrun hwh (mm_wl_en hwA) (fun v hv => by cases hv)
  have hF : ms_Fr p l (ms_rm k h h') s m (As.map (ms_tr ι b)).toArray meth c D aC b A k (mm_X h) :=
    ⟨hx, hb, hml, hown, fun w hw => hts0 w (List.mem_cons_of_mem _ hw), hlocks, hin, hK, hA, Nat.le_refl _, Nat.le_refl _, ham, hst, fun _ => htab, fun q => by rw [q] at hk; exact absurd hk (by decide)⟩
  have m1 := hmo.2.2.1
  have m2 := hmo.2.2.2.1
  refine hw k 0 (mm_en k As) [] h o h' hrun (by omega) p l e (ms_rm k h h') s m _ below meth c _ D aC ι b A s.heap [] 0 0 ls (mm_u h).1 (mm_u h).2 (mm_X h) hF rfl ⟨hP, hD, va_S.rf, hwh⟩ (ms_en_LR harg hlen hl) (mm_wl_en hwA) (fun v hv => by cases hv) rfl rfl
    (by show _ ≤ (mm_u h).1 + ((mm_u h').1 - (mm_u h).1); omega) (by show _ ≤ (mm_u h).2 + ((mm_u h').2 - (mm_u h).2); omega) ?_ ?_ ?_
  · -- returns
    intro v ι' H' locs' cells' slots' pc' ls' ho hag hI hc hs hrd
    obtain rfl : cells' = (mm_u h').1 - (mm_u h).1 := by omega
    obtain rfl : slots' = (mm_u h').2 - (mm_u h).2 := by omega
    refine vx_ret ?_
    have hB : ∀ t : State, t.heap = H' → ms_B D aC b A h' ι' t := fun t ht => ⟨by rw [ht]; exact hI.1, hI.2.1⟩
    match v, ho, hrd with
    | none, ho, hrd =>
      have hr0 : meth.sig.returnType = none := by rw [hr]; unfold mRt; rw [hrd.2]; rfl
      refine W.vret hx hb hr0 (fun t ht hW => ?_) hI.2.2.1.2.2 hrd.1 hlocks
      unfold ms_Qc
      rw [if_pos hrd.2]
      exact ⟨⟨ι', rfl, ⟨ho, hag⟩, hB t ht⟩, hI.2.2.1.F ht⟩
    | some (.int r), ho, hrd =>
      obtain ⟨hrd1, hrd2⟩ := hrd
      have hQ : ∀ t : State, t.heap = H' → ms_Qc D aC ι b (mm_N h) A k o h' (As.map (ms_tr ι b)).toArray s (.returned (some (.int r))) t := fun t ht => by
        unfold ms_Qc
        rw [if_neg (by omega), if_neg (by omega), if_neg (by omega)]
        exact ⟨⟨r, ι', rfl, ⟨ho, hag⟩, hB t ht⟩, hI.2.2.1.F ht⟩
      rcases hrd2 with h1 | ⟨h2, h01⟩
      · have hr1 : meth.sig.returnType = some .int := by rw [hr]; unfold mRt; rw [h1]; rfl
        exact W.iret hx hb hr1 (fun t ht hW => hQ t ht) hI.2.2.1.2.2 hrd1 hlocks
      · have hr1 : meth.sig.returnType = some .boolean := by rw [hr]; unfold mRt; rw [h2]; rfl
        exact W.zret hx hb hr1 (by rcases h01 with rfl | rfl <;> rfl) (fun t ht hW => hQ t ht) hI.2.2.1.2.2 hrd1 hlocks
    | some (.long r), ho, hrd =>
      have hr1 : meth.sig.returnType = some .long := by rw [hr]; unfold mRt; rw [hrd.2]; rfl
      refine W.lret hx hb hr1 (fun t ht hW => ?_) hI.2.2.1.2.2 hrd.1 hlocks
      unfold ms_Qc
      have h3 : mR k = 3 := hrd.2
      rw [if_neg (by omega), if_pos h3]
      exact ⟨⟨r, ι', rfl, ⟨ho, hag⟩, hB t ht⟩, hI.2.2.1.F ht⟩
    | some (.double r), ho, hrd =>
      have hr1 : meth.sig.returnType = some .double := by rw [hr]; unfold mRt; rw [hrd.2]; rfl
      refine W.dret hx hb hr1 (fun t ht hW => ?_) hI.2.2.1.2.2 hrd.1 hlocks
      unfold ms_Qc
      have h4 : mR k = 4 := hrd.2
      rw [if_neg (by omega), if_neg (by omega), if_pos h4]
      exact ⟨⟨r, ι', rfl, ⟨ho, hag⟩, hB t ht⟩, hI.2.2.1.F ht⟩
    | some .null, _, hrd => exact hrd.elim
    | some (.float _), _, hrd => exact hrd.elim
    | some (.ref _), _, hrd => exact hrd.elim
    | some (.retAddr _), _, hrd => exact hrd.elim
  · -- throws
    intro ex d ι' H' locs' cells' slots' pc' ls' st' h2 ho hth hthr hag hI hc hs hls hcat hX h6 h90
    have e1 : (mm_u h').1 = (mm_u h2).1 + 1 := by rw [hth]; rfl
    have e2 : (mm_u h').2 = (mm_u h2).2 + 6 := by rw [hth]; rfl
    refine ms_thrW hF hI hthr hX h6 h90 hls hcat ⟨by show cells' + 1 ≤ (mm_u h').1 - (mm_u h).1; omega, by show slots' + 6 ≤ (mm_u h').2 - (mm_u h).2; omega⟩ (fun E t hE hal hz hq => ?_) hI.2.2.1.2.2 (by omega) (by omega)
    have hB : ms_B D aC b A h' ι' t := by
      rw [hth]
      exact ⟨hI.1.kept (fun j q hj => hq q.1 (hI.1 j q hj).lt), hI.2.1⟩
    refine ⟨ι', hag, ⟨⟨ex, ho, hE⟩, hB⟩, Nat.le_trans hI.2.2.1.1 hz, fun q hq1 hq2 => ?_⟩
    rw [hq q (Nat.lt_of_lt_of_le hq1 hI.2.2.1.1)]
    exact hI.2.2.1.2.1 q hq1 hq2
  · -- out
    intro ex E ce q ι' H' locs' cells' slots' pc' ls' rest ho hE hfind hag hI hc hs hce hcv hcl
    have hB : ∀ t : State, t.heap = H' → ms_B D aC b A h' ι' t := fun t ht => ⟨by rw [ht]; exact hI.1, hI.2.1⟩
    refine vx_outP hown hlocks (by rw [htab]; exact ms_pass hF (by omega) hE (fun _ q => q) (ms_find_none hfind)) hce hcv hcl (fun t ht hal => ⟨ι', hag, ⟨⟨ex, ho, hE⟩, hB t ht⟩, hI.2.2.1.F ht⟩) hI.2.2.1.2.2 (by omega) (by omega)
theorem ms_contract {n : Nat} (hw : ms_walk n) {l : Launch} (hst : l.stackTraces = false) {k : Nat} {As : List Value} {h h' : mm_H} {o : Option Value ⊕ Nat} (hk : k < 231) (hrun : mm_run n k 0 (mm_en k As) [] h = some (o, h')) (harg : As.all mm_arg = true) (hlen : As.length ≤ mL k) (hwh : mm_wh h) (hwA : mm_ws (mm_N h) As) : ms_Met l k As h o h' := by
  intro D aC ι b sz
  by_cases hX : mX k = []
  · refine vx_ofW (cc := mB k) (maxL := mL k) (ret := mRt k) (ms_meth hk).1 (ms_wk_c hX) ?_
    intro p e s m args below meth c s₁ B hml htab hv
    exact ms_body hw hst hk hrun harg hlen hwh hwA B hml (by rw [hX]; exact List.eq_nil_iff_forall_not_mem.mpr (fun x hx => htab x hx)) hv
  · refine vx_ofWH (cc := mB k) (maxL := mL k) (ret := mRt k) (hh := mX k) (ms_meth hk).1 (ms_wk_w hX) ?_
    intro p e s m args below meth c s₁ B hml hv
    have hts0 := atoms_spec (ws := ms_wk k) B.pre
    exact ms_body hw hst hk hrun harg hlen hwh hwA B hml (vx_table (x := mY k) B (hts0 _ (by rw [ms_wk_w hX]; exact List.mem_cons_self))) hv
