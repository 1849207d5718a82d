theorem mm_ii_inv {st st' : List Value} {f : Int32 → Int32 → Option Value} (h : mm_ii st f = some st') : ∃ x y r v, st = .int y :: .int x :: r ∧ f x y = some v ∧ st' = v :: r := by
  unfold mm_ii at h
  split at h
  · obtain ⟨v, h1, h2⟩ := Option.map_eq_some_iff.mp h
    exact ⟨_, _, _, v, rfl, h1, h2.symm⟩
  · cases h
theorem mm_jj_inv {st st' : List Value} {f : Int64 → Int64 → Option Value} (h : mm_jj st f = some st') : ∃ x y r v, st = .long y :: .long x :: r ∧ f x y = some v ∧ st' = v :: r := by
  unfold mm_jj at h
  split at h
  · obtain ⟨v, h1, h2⟩ := Option.map_eq_some_iff.mp h
    exact ⟨_, _, _, v, rfl, h1, h2.symm⟩
  · cases h
theorem mm_dd_inv {st st' : List Value} {f : UInt64 → UInt64 → Option Value} (h : mm_dd st f = some st') : ∃ x y r v, st = .double y :: .double x :: r ∧ f x y = some v ∧ st' = v :: r := by
  unfold mm_dd at h
  split at h
  · obtain ⟨v, h1, h2⟩ := Option.map_eq_some_iff.mp h
    exact ⟨_, _, _, v, rfl, h1, h2.symm⟩
  · cases h
theorem mm_i1_inv {st st' : List Value} {f : Int32 → Value} (h : mm_i1 st f = some st') : ∃ x r, st = .int x :: r ∧ st' = f x :: r := by
  unfold mm_i1 at h
  split at h
  · exact ⟨_, _, rfl, (Option.some.inj h).symm⟩
  · cases h
theorem mm_j1_inv {st st' : List Value} {f : Int64 → Value} (h : mm_j1 st f = some st') : ∃ x r, st = .long x :: r ∧ st' = f x :: r := by
  unfold mm_j1 at h
  split at h
  · exact ⟨_, _, rfl, (Option.some.inj h).symm⟩
  · cases h
def mm_nr (v : Value) : Prop := ∀ a, v ≠ .ref a
theorem mm_nr.wv {v : Value} {N : Nat} (h : mm_nr v) : mm_wv N v := fun a ha => absurd ha (h a)
theorem mm_nr_int (x : Int32) : mm_nr (.int x) := fun _ h => by cases h
theorem mm_nr_long (x : Int64) : mm_nr (.long x) := fun _ h => by cases h
theorem mm_nr_double (x : UInt64) : mm_nr (.double x) := fun _ h => by cases h
theorem mm_ws_cons {N : Nat} {v : Value} {st : List Value} : mm_ws N (v :: st) ↔ mm_wv N v ∧ mm_ws N st := by
  unfold mm_ws
  simp
theorem mm_sA_wf {c : Nat} {i : ClassFile.Instr} {st st' : List Value} {N : Nat} (h : mm_sA c i st = some st') (hw : mm_ws N st) : mm_ws N st' := by
  unfold mm_sA at h
  split at h
  all_goals first
    | (obtain ⟨x, y, r, v, rfl, h1, rfl⟩ := mm_ii_inv h
       simp only [mm_ws_cons] at hw ⊢
       refine ⟨?_, hw.2.2⟩
       (first | (cases h1; exact (mm_nr_int _).wv) | (split at h1 <;> first | (cases h1; done) | (cases h1; exact (mm_nr_int _).wv))))
    | (obtain ⟨x, y, r, v, rfl, h1, rfl⟩ := mm_jj_inv h
       simp only [mm_ws_cons] at hw ⊢
       refine ⟨?_, hw.2.2⟩
       (first | (cases h1; exact (mm_nr_long _).wv) | (cases h1; exact (mm_nr_int _).wv) | (split at h1 <;> first | (cases h1; done) | (cases h1; exact (mm_nr_long _).wv))))
    | (obtain ⟨x, y, r, v, rfl, h1, rfl⟩ := mm_dd_inv h
       simp only [mm_ws_cons] at hw ⊢
       refine ⟨?_, hw.2.2⟩
       (first | (cases h1; exact (mm_nr_int _).wv) | (split at h1 <;> first | (cases h1; done) | (cases h1; exact (mm_nr_double _).wv))))
    | (obtain ⟨x, r, rfl, rfl⟩ := mm_i1_inv h
       simp only [mm_ws_cons] at hw ⊢
       exact ⟨by first | exact (mm_nr_int _).wv | exact (mm_nr_long _).wv | exact (mm_nr_double _).wv, hw.2⟩)
    | (obtain ⟨x, r, rfl, rfl⟩ := mm_j1_inv h
       simp only [mm_ws_cons] at hw ⊢
       exact ⟨by first | exact (mm_nr_int _).wv | exact (mm_nr_long _).wv | exact (mm_nr_double _).wv, hw.2⟩)
    | (cases h
       simp only [mm_ws_cons]
       exact ⟨by first | exact (mm_nr_int _).wv | exact (mm_nr_long _).wv | exact (mm_nr_double _).wv, hw⟩)
    | (obtain ⟨v, h1, h2⟩ := Option.map_eq_some_iff.mp h
       subst h2
       simp only [mm_ws_cons]
       exact ⟨by first | exact (mm_nr_int _).wv | exact (mm_nr_long _).wv | exact (mm_nr_double _).wv, hw⟩)
    | (split at h
       · cases h
         simp only [mm_ws_cons]
         exact ⟨by first | exact (mm_nr_int _).wv | exact (mm_nr_long _).wv | exact (mm_nr_double _).wv, hw⟩
       · cases h)
    | (split at h
       · split at h
         · cases h
           simp only [mm_ws_cons] at hw ⊢
           simp [hw]
         · cases h
       · cases h)
    | (cases h; done)
theorem mm_wl_set {N : Nat} {L : mm_L} {i : Nat} {v : Value} (h : mm_wl N L) (hv : mm_wv N v) : mm_wl N (L.set i (some v)) := by
  intro j w hj
  by_cases hij : i = j
  · subst hij
    by_cases hl : i < L.length
    · rw [List.getElem?_set_self hl] at hj
      cases hj
      exact hv
    · rw [List.getElem?_eq_none (by rw [List.length_set]; omega)] at hj
      cases hj
  · rw [List.getElem?_set_ne hij] at hj
    exact h j w hj
theorem mm_wl_none {N : Nat} {L : mm_L} {i : Nat} (h : mm_wl N L) : mm_wl N (L.set i none) := by
  intro j w hj
  by_cases hij : i = j
  · subst hij
    by_cases hl : i < L.length
    · rw [List.getElem?_set_self hl] at hj
      cases hj
    · rw [List.getElem?_eq_none (by rw [List.length_set]; omega)] at hj
      cases hj
  · rw [List.getElem?_set_ne hij] at hj
    exact h j w hj
-- what a load or a store of a local is
theorem mm_ldI_inv {L L' : mm_L} {i : Nat} {st st' : List Value} (h : mm_ldI L i st = some (L', st')) : ∃ x, L[i]? = some (some (.int x)) ∧ L' = L ∧ st' = .int x :: st := by
  unfold mm_ldI at h
  split at h
  · rename_i x hx
    cases h
    exact ⟨x, hx, rfl, rfl⟩
  · cases h
theorem mm_ldJ_inv {L L' : mm_L} {i : Nat} {st st' : List Value} (h : mm_ldJ L i st = some (L', st')) : ∃ x, L[i]? = some (some (.long x)) ∧ L' = L ∧ st' = .long x :: st := by
  unfold mm_ldJ at h
  split at h
  · rename_i x hx
    cases h
    exact ⟨x, hx, rfl, rfl⟩
  · cases h
theorem mm_ldD_inv {L L' : mm_L} {i : Nat} {st st' : List Value} (h : mm_ldD L i st = some (L', st')) : ∃ x, L[i]? = some (some (.double x)) ∧ L' = L ∧ st' = .double x :: st := by
  unfold mm_ldD at h
  split at h
  · rename_i x hx
    cases h
    exact ⟨x, hx, rfl, rfl⟩
  · cases h
theorem mm_ldA_inv {L L' : mm_L} {i : Nat} {st st' : List Value} (h : mm_ldA L i st = some (L', st')) : ∃ v, L[i]? = some (some v) ∧ L' = L ∧ st' = v :: st ∧ ((∃ a, v = .ref a) ∨ ∃ a, v = .retAddr a) := by
  unfold mm_ldA at h
  split at h
  · rename_i x hx
    cases h
    exact ⟨_, hx, rfl, rfl, Or.inl ⟨_, rfl⟩⟩
  · rename_i x hx
    cases h
    exact ⟨_, hx, rfl, rfl, Or.inr ⟨_, rfl⟩⟩
  · cases h
theorem mm_stI_inv {g : Bool} {L L' : mm_L} {i : Nat} {st st' : List Value} (h : mm_stI g L i st = some (L', st')) : ∃ x, st = .int x :: st' ∧ mm_ok g L i = true ∧ L' = L.set i (some (.int x)) := by
  unfold mm_stI at h
  split at h
  · split at h
    · rename_i hk
      cases h
      exact ⟨_, rfl, hk, rfl⟩
    · cases h
  · cases h
theorem mm_stA_inv {g : Bool} {L L' : mm_L} {i : Nat} {st st' : List Value} (h : mm_stA g L i st = some (L', st')) : ∃ x, st = .ref x :: st' ∧ mm_ok g L i = true ∧ L' = L.set i (some (.ref x)) := by
  unfold mm_stA at h
  split at h
  · split at h
    · rename_i hk
      cases h
      exact ⟨_, rfl, hk, rfl⟩
    · cases h
  · cases h
theorem mm_stJ_inv {g : Bool} {L L' : mm_L} {i : Nat} {st st' : List Value} (h : mm_stJ g L i st = some (L', st')) : ∃ x, st = .long x :: st' ∧ (mm_ok g L i = true ∧ g = true ∧ i + 1 < L.length) ∧ L' = (L.set i (some (.long x))).set (i + 1) none := by
  unfold mm_stJ at h
  split at h
  · split at h
    · rename_i hk
      cases h
      exact ⟨_, rfl, hk, rfl⟩
    · cases h
  · cases h
theorem mm_stD_inv {g : Bool} {L L' : mm_L} {i : Nat} {st st' : List Value} (h : mm_stD g L i st = some (L', st')) : ∃ x, st = .double x :: st' ∧ (mm_ok g L i = true ∧ g = true ∧ i + 1 < L.length) ∧ L' = (L.set i (some (.double x))).set (i + 1) none := by
  unfold mm_stD at h
  split at h
  · split at h
    · rename_i hk
      cases h
      exact ⟨_, rfl, hk, rfl⟩
    · cases h
  · cases h
theorem mm_inc_inv {g : Bool} {L L' : mm_L} {i : Nat} {n : Int} {st st' : List Value} (h : mm_inc g L i n st = some (L', st')) : ∃ x, L[i]? = some (some (.int x)) ∧ mm_ok g L i = true ∧ L' = L.set i (some (.int (x + Int32.ofInt n))) ∧ st' = st := by
  unfold mm_inc at h
  split at h
  · rename_i x hx
    split at h
    · rename_i hk
      cases h
      exact ⟨x, hx, hk, rfl, rfl⟩
    · cases h
  · cases h
theorem mm_sL_wf {g : Bool} {i : ClassFile.Instr} {L L' : mm_L} {st st' : List Value} {N : Nat} (h : mm_sL g i L st = some (L', st')) (hl : mm_wl N L) (hw : mm_ws N st) : mm_wl N L' ∧ mm_ws N st' := by
  unfold mm_sL at h
  split at h
  all_goals first
    | (obtain ⟨x, h1, rfl, rfl⟩ := mm_ldI_inv h; exact ⟨hl, mm_ws_cons.mpr ⟨(mm_nr_int _).wv, hw⟩⟩)
    | (obtain ⟨x, h1, rfl, rfl⟩ := mm_ldJ_inv h; exact ⟨hl, mm_ws_cons.mpr ⟨(mm_nr_long _).wv, hw⟩⟩)
    | (obtain ⟨x, h1, rfl, rfl⟩ := mm_ldD_inv h; exact ⟨hl, mm_ws_cons.mpr ⟨(mm_nr_double _).wv, hw⟩⟩)
    | (obtain ⟨x, h1, rfl, rfl, -⟩ := mm_ldA_inv h; exact ⟨hl, mm_ws_cons.mpr ⟨hl _ _ h1, hw⟩⟩)
    | (obtain ⟨x, rfl, h1, rfl⟩ := mm_stI_inv h; rw [mm_ws_cons] at hw; exact ⟨mm_wl_set hl hw.1, hw.2⟩)
    | (obtain ⟨x, rfl, h1, rfl⟩ := mm_stA_inv h; rw [mm_ws_cons] at hw; exact ⟨mm_wl_set hl hw.1, hw.2⟩)
    | (obtain ⟨x, rfl, h1, rfl⟩ := mm_stJ_inv h; rw [mm_ws_cons] at hw; exact ⟨mm_wl_none (mm_wl_set hl hw.1), hw.2⟩)
    | (obtain ⟨x, rfl, h1, rfl⟩ := mm_stD_inv h; rw [mm_ws_cons] at hw; exact ⟨mm_wl_none (mm_wl_set hl hw.1), hw.2⟩)
    | (obtain ⟨x, h1, h2, rfl, rfl⟩ := mm_inc_inv h; exact ⟨mm_wl_set hl (mm_nr_int _).wv, hw⟩)
    | (cases h; done)
theorem mm_sB_wf {pc len pc' N : Nat} {i : ClassFile.Instr} {st st' : List Value} (h : mm_sB pc len i st = some (pc', st')) (hw : mm_ws N st) : mm_ws N st' := by
  unfold mm_sB at h
  repeat' split at h
  all_goals first
    | (cases h; done)
    | (obtain ⟨t, h1, h2⟩ := Option.map_eq_some_iff.mp h; cases h2; first | exact hw | (simp only [mm_ws_cons] at hw; simp [hw]))
    | (cases h; simp only [mm_ws_cons] at hw; simp [hw])
