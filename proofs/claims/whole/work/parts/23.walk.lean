-- ===== soundness: the walk, by induction =====
theorem mm_hd_mo {n k pc : Nat} {L : mm_L} {ex : Nat} {h2 h' : mm_H} {o : Option Value ⊕ Nat} (hq : mm_hd (mm_run n) k pc L ex h2 = some (o, h')) (hw : mm_wh h2) (hl : mm_wl (mm_N h2) L) : mm_mo h2 h' := by
  unfold mm_hd at hq
  split at hq
  · cases hq
    exact mm_mo.rf _
  · split at hq
    · split at hq
      · exact (mm_run_wf _ _ _ _ _ _ _ _ hq hw (mm_wl_none hl) (fun v hv => by cases hv)).2
      · cases hq
    · split at hq
      · exact (mm_run_wf _ _ _ _ _ _ _ _ hq hw (mm_wl_none hl) (fun v hv => by cases hv)).2
      · cases hq
    · cases hq
theorem ms_LR.drop {ι : Nat → Nat} {b k i : Nat} {ls ls' : Array Slot} {L : mm_L} {q : Nat} (h : ms_LR ι b k ls L) (hg : mG k = false) (h' : lv_has ls' (mL k) ((i, Value.ref q) :: (ms_lv ι b L).filter (fun q => !(q.1 == i) && !(q.1 + 1 == i && q.2.category == 2)))) : ms_LR ι b k ls' (L.set i none) := by
  obtain ⟨h1, h2, h3, h4, h5⟩ := h
  have key : ∀ (j : Nat) (w : Value), (L.set i none)[j]? = some (some w) → j ≠ i ∧ L[j]? = some (some w) := by
    intro j w hj
    by_cases hij : i = j
    · subst hij
      by_cases hl : i < L.length
      · rw [List.getElem?_set_self hl] at hj
        cases hj
      · rw [List.getElem?_eq_none (by rw [List.length_set]; omega)] at hj
        cases hj
    · rw [List.getElem?_set_ne hij] at hj
      exact ⟨Ne.symm hij, hj⟩
  refine ⟨by rw [List.length_set]; exact h1, h'.1, h'.2.1, fun j w hj => ?_, fun hg j w hj => h5 hg j w (key j w hj).2⟩
  obtain ⟨k1, k2⟩ := key j w hj
  refine h'.2.2 (j, ms_tr ι b w) (List.mem_cons_of_mem _ (List.mem_filter.mpr ⟨ms_lv_mem.mpr ⟨w, k2, rfl⟩, ?_⟩))
  have e1 : (j == i) = false := beq_eq_false_iff_ne.mpr k1
  have e2 : ((ms_tr ι b w).category == 2) = false := by
    rw [ms_tr_cat', h5 hg j w k2]
    rfl
  simp only [e1, e2, Bool.not_false, Bool.true_and, Bool.and_false]
theorem ms_rt_tr {ι : Nat → Nat} {b k : Nat} {v : Option Value} (h : mm_rt k v = true) : v.toList.map (ms_tr ι b) = v.toList := by
  match v, h with
  | none, _ => rfl
  | some (.int x), _ => rfl
  | some (.long x), _ => rfl
  | some (.double x), _ => rfl
  | some (.null), h => cases h
  | some (.float _), h => cases h
  | some (.ref _), h => cases h
  | some (.retAddr _), h => cases h
set_option maxHeartbeats 8000000 in
theorem ms_walk_all : ∀ n, ms_walk n := by
  intro n
  induction n with
  | zero =>
    intro k pc L st h o h' hr
    cases hr
  | succ n ih =>
    intro k pc L st h o h' hrun hk p l e R s m args below meth c Q D aC ι b A H locs cells slots ls u0 v0 X hF hX hI hL hwl hws hc hsl hr1 hr2 hret hthr hout
    obtain ⟨hx, hb, hml, hown, hts, hlk, hin, hK, hA, hRf, hRo, ham, hst, htab, hscr⟩ := id hF
    have go : ∀ (pc1 : Nat) (L1 : mm_L) (st1 : List Value) (h1 : mm_H), mm_run n k pc1 L1 st1 h1 = some (o, h') → ∀ (ι1 : Nat → Nat) (H1 : Heap) (locs1 : List Loc) (cells1 slots1 : Nat) (ls1 : Array Slot), ms_ag (mm_N h) ι ι1 → mm_mo h h1 → ms_I D aC ι1 b A s.heap H1 locs1 h1 → ms_LR ι1 b k ls1 L1 → mm_wl (mm_N h1) L1 → mm_ws (mm_N h1) st1 → (mm_u h1).1 = u0 + cells1 → (mm_u h1).2 = v0 + slots1 →
        W p l e R s m args below meth c H1 locs1 cells1 slots1 Q (F0 m pc1 ls1 (st1.map (ms_tr ι1 b))) :=
      fun pc1 L1 st1 h1 hq ι1 H1 locs1 cells1 slots1 ls1 hag hmo hI1 hL1 hwl1 hws1 hc1 hs1 =>
        ih k pc1 L1 st1 h1 o h' hq hk p l e R s m args below meth c Q D aC ι1 b A H1 locs1 cells1 slots1 ls1 u0 v0 X hF (hmo.2.2.2.2.trans hX) hI1 hL1 hwl1 hws1 hc1 hs1 hr1 hr2
          (fun v ι' H' locs' cells' slots' pc' ls' ho hag2 => hret v ι' H' locs' cells' slots' pc' ls' ho (hag.tr hag2 hmo.1))
          (fun ex d ι' H' locs' cells' slots' pc' ls' st' h2 ho hth hm hag2 => hthr ex d ι' H' locs' cells' slots' pc' ls' st' h2 ho hth hm (hag.tr hag2 hmo.1))
          (fun ex E ce q ι' H' locs' cells' slots' pc' ls' rest ho hE hf hag2 => hout ex E ce q ι' H' locs' cells' slots' pc' ls' rest ho hE hf (hag.tr hag2 hmo.1))
    have hhd : ∀ (ex : Nat) (h2 : mm_H), mm_hd (mm_run n) k pc L ex h2 = some (o, h') → mm_mo h h2 → ∀ (E : String) (ce : Cell) (q : Addr) (ι' : Nat → Nat) (H' : Heap) (locs' : List Loc) (cells' slots' : Nat) (rest : List Value), mExc[ex]? = some E → ms_ag (mm_N h) ι ι' → ms_I D aC ι' b A s.heap H' locs' h2 → (mm_u h2).1 = u0 + cells' → (mm_u h2).2 = v0 + slots' → H'[q]? = some ce → ce.vm = .none → s.vm.findClass E = some ce.cls →
        vx_W p l e R s m args below meth c H' locs' cells' slots' Q (F0 m pc ls rest) q := by
      intro ex h2 hq hmo E ce q ι' H' locs' cells' slots' rest hE hag hI' hc' hs' hce hcv hcl
      have hL' : ms_LR ι' b k ls L := hag.LR hwl hL
      unfold mm_hd at hq
      split at hq
      · rename_i hf
        cases hq
        exact hout ex E ce q ι' H' locs' cells' slots' pc ls rest rfl hE hf hag hI' hc' hs' hce hcv hcl
      · rename_i hp hf
        refine ms_catchW hF hk hE hf hce hcv hcl ?_
        split at hq
        · rename_i j hdj
          split at hq
          · rename_i hj
            exact lv_astore_n hx hb hdj rfl hL'.has (by rw [← hL.1]; exact hj.1) rfl (fun ls' h9 => go (hp + 1) _ [] h2 hq ι' H' locs' cells' slots' ls' hag hmo hI' (hL'.drop hj.2 h9) (mm_wl_none (hwl.up hmo.1)) (fun v hv => by cases hv) hc' hs')
          · cases hq
        · rename_i j hdj
          split at hq
          · rename_i hj
            exact lv_astore hx hb hdj hL'.has (by rw [← hL.1]; exact hj.1) rfl (fun ls' h9 => go (hp + 2) _ [] h2 hq ι' H' locs' cells' slots' ls' hag hmo hI' (hL'.drop hj.2 h9) (mm_wl_none (hwl.up hmo.1)) (fun v hv => by cases hv) hc' hs')
          · cases hq
        · cases hq
    have hcall : ∀ (x t k' na : Nat), mMet (mC k) x = some (t, k', na) → t < 10 → mm_call (mm_run n) k pc L st h t k' na = some (o, h') →
        (t = 0 → decode (mB k) pc = .ok (.invokevirtual x, 3)) → (t = 1 ∨ t = 4 ∨ t = 7 → decode (mB k) pc = .ok (.invokestatic x, 3)) → (t = 2 ∨ t = 5 → decode (mB k) pc = .ok (.invokespecial x, 3)) →
        W p l e R s m args below meth c H locs cells slots Q (F0 m pc ls (st.map (ms_tr ι b))) := by
      intro x t k' na hm ht hq hd0 hd1 hd2
      have hcp : ms_callP (mC k) x t k' na := ms_call_ok _ (ms_lookup mMetT (mC k, x) (t, k', na) hm) ht
      have hk' : k' < 231 := hcp.1.1
      unfold mm_call at hq
      generalize hm2 : (if t = 1 ∨ t = 4 ∨ t = 7 then na else na + 1) = m2 at hq
      dsimp only at hq
      split at hq
      · rename_i hcond
        obtain ⟨c1, c2, c3, c4, c5, c6, c7⟩ := hcond
        have hsT : mm_ws (mm_N h) (st.take m2).reverse := fun v hv => hws v (List.mem_of_mem_take (List.mem_reverse.mp hv))
        have hsD : mm_ws (mm_N h) (st.drop m2) := fun v hv => hws v (List.mem_of_mem_drop hv)
        have harg : (st.take m2).reverse.all mm_arg = true := by rw [List.all_reverse]; exact c2
        have hlen : (st.take m2).reverse.length ≤ mL k' := by
          rw [List.length_reverse, List.length_take]
          omega
        split at hq
        · cases hq
        · rename_i v h2 hrun2
          have hM := ms_contract ih hst hk' hrun2 harg hlen hI.2.2.2 hsT
          obtain ⟨w1, w2⟩ := mm_run_wf _ _ _ _ _ _ _ _ hrun2 hI.2.2.2 (mm_wl_en hsT) (fun v hv => by cases hv)
          split at hq
          · rename_i hrt
            have hws2 : mm_ws (mm_N h2) (v.toList ++ st.drop m2) := fun w hw => by
              rcases List.mem_append.mp hw with hw | hw
              · exact mm_rt_wv hrt w hw
              · exact (hsD.up w2.1) w hw
            have w3 := (mm_run_wf _ _ _ _ _ _ _ _ hq w1 (hwl.up w2.1) hws2).2
            have r1 := w3.2.2.1
            have r2 := w3.2.2.2.1
            have r3 := w2.2.2.1
            have r4 := w2.2.2.2.1
            refine ms_callW (ms_runW hF hI hL.2.1 hm ht hM hm2.symm c1 c3 c4 c6 c7 ⟨by omega, by omega⟩ hd0 hd1 hd2) hI hA w1 w2 hc hsl (fun ex E ce q ι' H' locs' cells' slots' ho => by cases ho) (fun v' ι' H' locs' cells' slots' ho hag hI' hc' hs' => ?_)
            cases ho
            have K := go (pc + 3) L (v.toList ++ st.drop m2) h2 hq ι' H' locs' cells' slots' ls hag w2 hI' (hag.LR hwl hL) (hwl.up w2.1) hws2 hc' hs'
            rw [List.map_append, ms_rt_tr hrt, hag.st hsD] at K
            exact K
          · cases hq
        · rename_i ex h2 hrun2
          have hM := ms_contract ih hst hk' hrun2 harg hlen hI.2.2.2 hsT
          obtain ⟨w1, w2⟩ := mm_run_wf _ _ _ _ _ _ _ _ hrun2 hI.2.2.2 (mm_wl_en hsT) (fun v hv => by cases hv)
          have w3 := mm_hd_mo hq w1 (hwl.up w2.1)
          have r1 := w3.2.2.1
          have r2 := w3.2.2.2.1
          have r3 := w2.2.2.1
          have r4 := w2.2.2.2.1
          refine ms_callW (ms_runW hF hI hL.2.1 hm ht hM hm2.symm c1 c3 c4 c6 c7 ⟨by omega, by omega⟩ hd0 hd1 hd2) hI hA w1 w2 hc hsl (fun ex' E ce q ι' H' locs' cells' slots' ho hE hag hI' hc' hs' hce hcv hcl => ?_) (fun v' ι' H' locs' cells' slots' ho => by cases ho)
          cases ho
          exact hhd ex h2 hq w2 E ce q ι' H' locs' cells' slots' _ hE hag hI' hc' hs' hce hcv hcl
      · cases hq
    simp only [mm_run] at hrun
    split at hrun
    · rename_i i len hd
      unfold mm_st at hrun
      split at hrun
      · rename_i hln
        split at hrun
        · rename_i pc1 L1 st1 h1 hsm
          obtain ⟨a1, a2, a3, a4⟩ := mm_sm_wf hsm hI.2.2.2 hwl hws
          have w3 := (mm_run_wf _ _ _ _ _ _ _ _ hrun a1 a3 a4).2
          have r1 := w3.2.2.1
          have r2 := w3.2.2.2.1
          exact ms_smW hF hX hI hL hwl hws hc hsl ⟨by omega, by omega⟩ hd hln hsm (fun ι' H' locs' cells' slots' ls' hag hI' hL' hc' hs' => go pc1 L1 st1 h1 hrun ι' H' locs' cells' slots' ls' hag a2 hI' hL' a3 a4 hc' hs')
        · rename_i hsm
          split at hrun
          all_goals first
            | (cases hrun; done)
            | skip
          all_goals dsimp only [mm_ln] at hln
          all_goals (obtain rfl : _ = len := hln.resolve_right (fun h => by cases h))
          · -- ireturn
            split at hrun
            · rename_i v
              split at hrun
              · rename_i h0
                cases hrun
                exact hret (some (.int v)) ι H locs cells slots pc ls rfl (ms_ag.rf _ _) hI hc hsl ⟨hd, h0⟩
              · cases hrun
            · cases hrun
          · -- lreturn
            split at hrun
            · rename_i v
              split at hrun
              · rename_i h0
                cases hrun
                exact hret (some (.long v)) ι H locs cells slots pc ls rfl (ms_ag.rf _ _) hI hc hsl ⟨hd, h0⟩
              · cases hrun
            · cases hrun
          · -- dreturn
            split at hrun
            · rename_i v
              split at hrun
              · rename_i h0
                cases hrun
                exact hret (some (.double v)) ι H locs cells slots pc ls rfl (ms_ag.rf _ _) hI hc hsl ⟨hd, h0⟩
              · cases hrun
            · cases hrun
          · -- return
            split at hrun
            · split at hrun
              · rename_i h0
                cases hrun
                exact hret none ι H locs cells slots pc ls rfl (ms_ag.rf _ _) hI hc hsl ⟨hd, h0⟩
              · cases hrun
            · cases hrun
          · -- invokevirtual
            rename_i x
            split at hrun
            · rename_i t k' na hm
              split at hrun
              · rename_i ht
                exact hcall x t k' na hm (by omega) hrun (fun _ => hd) (fun q => by omega) (fun q => by omega)
              · cases hrun
            · cases hrun
          · -- invokestatic
            rename_i x
            split at hrun
            · rename_i t k' na hm
              split at hrun
              · rename_i ht
                exact hcall x t k' na hm (by omega) hrun (fun q => by omega) (fun _ => hd) (fun q => by omega)
              · cases hrun
            · cases hrun
          · -- invokespecial
            rename_i x
            split at hrun
            · rename_i t k' na hm
              split at hrun
              · rename_i ht
                exact hcall x t k' na hm (by omega) hrun (fun q => by omega) (fun q => by omega) (fun _ => hd)
              · cases hrun
            · cases hrun
          · -- throw
            split at hrun
            · rename_i ex d hm
              split at hrun
              · rename_i h0
                cases hrun
                exact hthr ex d ι H locs cells slots pc ls st h rfl rfl hm (ms_ag.rf _ _) hI hc hsl hL.2.1 h0.1 h0.2.1 h0.2.2.1 h0.2.2.2
              · cases hrun
            · cases hrun
      · cases hrun
    · cases hrun
