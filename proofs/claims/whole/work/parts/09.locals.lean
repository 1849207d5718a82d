-- ===== soundness: locals =====
def ms_LR (ι : Nat → Nat) (b k : Nat) (ls : Array Slot) (L : mm_L) : Prop :=
  L.length = mL k ∧ ls.size = mL k ∧ lv_wf ls ∧ (∀ (i : Nat) (v : Value), L[i]? = some (some v) → ls[i]? = some (.val (ms_tr ι b v))) ∧ (mG k = false → ∀ (i : Nat) (v : Value), L[i]? = some (some v) → v.category = 1)
def ms_lv (ι : Nat → Nat) (b : Nat) (L : mm_L) : List (Nat × Value) := L.zipIdx.filterMap fun q => q.1.map fun v => (q.2, ms_tr ι b v)
theorem ms_lv_mem {ι : Nat → Nat} {b : Nat} {L : mm_L} {j : Nat} {w : Value} : (j, w) ∈ ms_lv ι b L ↔ ∃ v, L[j]? = some (some v) ∧ w = ms_tr ι b v := by
  unfold ms_lv
  rw [List.mem_filterMap]
  constructor
  · rintro ⟨⟨o, i⟩, h1, h2⟩
    have h3 := List.mem_zipIdx_iff_getElem?.mp h1
    cases o with
    | none => cases h2
    | some v =>
      cases h2
      exact ⟨v, h3, rfl⟩
  · rintro ⟨v, h1, rfl⟩
    exact ⟨(some v, j), List.mem_zipIdx_iff_getElem?.mpr h1, rfl⟩
theorem ms_LR.has {ι : Nat → Nat} {b k : Nat} {ls : Array Slot} {L : mm_L} (h : ms_LR ι b k ls L) : lv_has ls (mL k) (ms_lv ι b L) := by
  refine ⟨h.2.1, h.2.2.1, ?_⟩
  rintro ⟨j, w⟩ hq
  obtain ⟨v, h1, rfl⟩ := ms_lv_mem.mp hq
  exact h.2.2.2.1 j v h1
theorem ms_LR.put1 {ι : Nat → Nat} {b k i : Nat} {ls ls' : Array Slot} {L : mm_L} {v : Value} (h : ms_LR ι b k ls L) (hok : mm_ok (mG k) L i = true) (hv : v.category = 1) (h' : lv_has ls' (mL k) ((i, ms_tr ι b v) :: (ms_lv ι b L).filter (fun q => !(q.1 == i) && !(q.1 + 1 == i && q.2.category == 2)))) : ms_LR ι b k ls' (L.set i (some v)) := by
  obtain ⟨h1, h2, h3, h4, h5⟩ := h
  simp only [mm_ok, Bool.and_eq_true, decide_eq_true_eq, Bool.or_eq_true, Bool.not_eq_true'] at hok
  refine ⟨by rw [List.length_set]; exact h1, h'.1, h'.2.1, fun j w hj => ?_, fun hg j w hj => ?_⟩
  · by_cases hij : i = j
    · subst hij
      rw [List.getElem?_set_self hok.1] at hj
      cases hj
      exact h'.2.2 (i, _) List.mem_cons_self
    · rw [List.getElem?_set_ne hij] at hj
      refine h'.2.2 (j, ms_tr ι b w) (List.mem_cons_of_mem _ (List.mem_filter.mpr ⟨ms_lv_mem.mpr ⟨w, hj, rfl⟩, ?_⟩))
      have e1 : (j == i) = false := beq_eq_false_iff_ne.mpr (Ne.symm hij)
      simp only [e1, Bool.not_false, Bool.true_and, Bool.not_eq_true', Bool.and_eq_false_iff, beq_eq_false_iff_ne]
      by_cases hji : j + 1 = i
      · right
        rw [ms_tr_cat']
        intro h22
        rcases hok.2 with hg | hz | hz
        · exact absurd (h5 hg j w hj) (by rw [h22]; decide)
        · omega
        · rw [show i - 1 = j by omega, hj] at hz
          simp [mm_c2, h22] at hz
      · left
        exact hji
  · by_cases hij : i = j
    · subst hij
      rw [List.getElem?_set_self hok.1] at hj
      cases hj
      exact hv
    · rw [List.getElem?_set_ne hij] at hj
      exact h5 hg j w hj
theorem ms_LR.put2 {ι : Nat → Nat} {b k i : Nat} {ls ls' : Array Slot} {L : mm_L} {v : Value} (h : ms_LR ι b k ls L) (hok : mm_ok (mG k) L i = true ∧ mG k = true ∧ i + 1 < L.length) (h' : lv_has ls' (mL k) ((i, ms_tr ι b v) :: (ms_lv ι b L).filter (fun q => !(q.1 == i) && (!(q.1 == i + 1) && !(q.1 + 1 == i && q.2.category == 2))))) : ms_LR ι b k ls' ((L.set i (some v)).set (i + 1) none) := by
  obtain ⟨h1, h2, h3, h4, h5⟩ := h
  obtain ⟨hok, hg1, hlen⟩ := hok
  simp only [mm_ok, Bool.and_eq_true, decide_eq_true_eq, Bool.or_eq_true, Bool.not_eq_true'] at hok
  refine ⟨by rw [List.length_set, List.length_set]; exact h1, h'.1, h'.2.1, fun j w hj => ?_, fun hg => by rw [hg1] at hg; cases hg⟩
  by_cases hij1 : i + 1 = j
  · subst hij1
    rw [List.getElem?_set_self (by rw [List.length_set]; exact hlen)] at hj
    cases hj
  · rw [List.getElem?_set_ne hij1] at hj
    by_cases hij : i = j
    · subst hij
      rw [List.getElem?_set_self hok.1] at hj
      cases hj
      exact h'.2.2 (i, _) List.mem_cons_self
    · rw [List.getElem?_set_ne hij] at hj
      refine h'.2.2 (j, ms_tr ι b w) (List.mem_cons_of_mem _ (List.mem_filter.mpr ⟨ms_lv_mem.mpr ⟨w, hj, rfl⟩, ?_⟩))
      have e1 : (j == i) = false := beq_eq_false_iff_ne.mpr (Ne.symm hij)
      have e2 : (j == i + 1) = false := beq_eq_false_iff_ne.mpr (Ne.symm hij1)
      simp only [e1, e2, Bool.not_false, Bool.true_and, Bool.not_eq_true', Bool.and_eq_false_iff, beq_eq_false_iff_ne]
      by_cases hji : j + 1 = i
      · right
        rw [ms_tr_cat']
        intro h22
        rcases hok.2 with hg | hz | hz
        · rw [hg1] at hg; cases hg
        · omega
        · rw [show i - 1 = j by omega, hj] at hz
          simp [mm_c2, h22] at hz
      · left
        exact hji
section S2
variable {p : Program} {l : Launch} {e : Env} {R : Room} {s : State} {m : MethodId} {args : Array Value} {below : List Frame} {meth : Method} {c : Code} {H : Heap} {locs : List Loc} {cells slots : Nat} {Q : State → Prop}
variable {cc : ByteArray} {pc len : Nat} {ls : Array Slot} {ι : Nat → Nat} {b : Nat} {k : Nat} {i : ClassFile.Instr} {st st' : List Value} {L L' : mm_L}
set_option maxHeartbeats 4000000 in
theorem ms_sL (hx : p.tables.exec = Jvm.exec) (hb : c.code = cc) (hL : ms_LR ι b k ls L) (hd : decode cc pc = .ok (i, len)) (hln : mm_ln i = len ∨ mm_ln i = 0) (hs : mm_sL (mG k) i L st = some (L', st'))
    (K : ∀ ls' : Array Slot, ms_LR ι b k ls' L' → W p l e R s m args below meth c H locs cells slots Q (F0 m (pc + len) ls' (st'.map (ms_tr ι b)))) : W p l e R s m args below meth c H locs cells slots Q (F0 m pc ls (st.map (ms_tr ι b))) := by
  have hlt : ∀ {j : Nat}, mm_ok (mG k) L j = true → j < mL k := fun {j} h => by
    have h2 : (decide (j < L.length)) = true := (Bool.and_eq_true _ _ ▸ h).1
    rw [← hL.1]
    exact of_decide_eq_true h2
  unfold mm_sL at hs
  split at hs
  all_goals first
    | (cases hs; done)
    | skip
  all_goals dsimp only [mm_ln] at hln
  all_goals (obtain rfl : _ = len := hln.resolve_right (fun h => by cases h))
  · obtain ⟨x, h1, rfl, rfl⟩ := mm_ldI_inv hs; exact lv_iload_n hx hb hd rfl (hL.2.2.2.1 _ _ h1) (K _ hL)
  · obtain ⟨x, h1, rfl, rfl⟩ := mm_ldI_inv hs; exact lv_iload hx hb hd (hL.2.2.2.1 _ _ h1) (K _ hL)
  · obtain ⟨x, h1, rfl, rfl⟩ := mm_ldJ_inv hs; exact lv_lload_n hx hb hd rfl (hL.2.2.2.1 _ _ h1) (K _ hL)
  · obtain ⟨x, h1, rfl, rfl⟩ := mm_ldJ_inv hs; exact lv_lload hx hb hd (hL.2.2.2.1 _ _ h1) (K _ hL)
  · obtain ⟨x, h1, rfl, rfl⟩ := mm_ldD_inv hs; exact lv_dload hx hb hd (hL.2.2.2.1 _ _ h1) (K _ hL)
  · obtain ⟨v, h1, rfl, rfl, hv⟩ := mm_ldA_inv hs
    rcases hv with ⟨a, rfl⟩ | ⟨a, rfl⟩
    · exact lv_aload_n hx hb hd rfl (hL.2.2.2.1 _ _ h1) (K _ hL)
    · exact lv_aload_n hx hb hd rfl (hL.2.2.2.1 _ _ h1) (K _ hL)
  · obtain ⟨v, h1, rfl, rfl, hv⟩ := mm_ldA_inv hs
    rcases hv with ⟨a, rfl⟩ | ⟨a, rfl⟩
    · exact lv_aload hx hb hd (hL.2.2.2.1 _ _ h1) (K _ hL)
    · exact lv_aload hx hb hd (hL.2.2.2.1 _ _ h1) (K _ hL)
  · obtain ⟨x, rfl, h1, rfl⟩ := mm_stI_inv hs
    exact lv_istore_n hx hb hd rfl hL.has (hlt h1) rfl (fun ls' h' => K ls' (hL.put1 (v := .int x) h1 rfl h'))
  · obtain ⟨x, rfl, h1, rfl⟩ := mm_stI_inv hs
    exact lv_istore hx hb hd hL.has (hlt h1) rfl (fun ls' h' => K ls' (hL.put1 (v := .int x) h1 rfl h'))
  · obtain ⟨x, rfl, h1, rfl⟩ := mm_stJ_inv hs
    exact lv_lstore_n hx hb hd rfl hL.has (by rw [← hL.1]; exact h1.2.2) rfl (fun ls' h' => K ls' (hL.put2 (v := .long x) h1 h'))
  · obtain ⟨x, rfl, h1, rfl⟩ := mm_stJ_inv hs
    exact lv_lstore hx hb hd hL.has (by rw [← hL.1]; exact h1.2.2) rfl (fun ls' h' => K ls' (hL.put2 (v := .long x) h1 h'))
  · obtain ⟨x, rfl, h1, rfl⟩ := mm_stD_inv hs
    exact lv_dstore hx hb hd hL.has (by rw [← hL.1]; exact h1.2.2) rfl (fun ls' h' => K ls' (hL.put2 (v := .double x) h1 h'))
  · obtain ⟨x, rfl, h1, rfl⟩ := mm_stA_inv hs
    exact lv_astore_n hx hb hd rfl hL.has (hlt h1) rfl (fun ls' h' => K ls' (hL.put1 (v := .ref x) h1 rfl h'))
  · obtain ⟨x, rfl, h1, rfl⟩ := mm_stA_inv hs
    exact lv_astore hx hb hd hL.has (hlt h1) rfl (fun ls' h' => K ls' (hL.put1 (v := .ref x) h1 rfl h'))
  · obtain ⟨x, h1, h2, rfl, rfl⟩ := mm_inc_inv hs
    obtain ⟨q, hq⟩ := List.getElem?_of_mem (ms_lv_mem (ι := ι) (b := b).mpr ⟨_, h1, rfl⟩)
    exact lv_iinc hx hb hd hL.has hq rfl (hlt h2) rfl (fun ls' h' => K ls' (hL.put1 (v := .int _) h2 rfl h'))
end S2
