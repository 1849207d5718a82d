-- ===== soundness: heap =====
def mTs (ci : Nat) : u_T := (vwCl.getD ci (RX0, TX0, 8)).2.1
def ms_isR (o : Option FieldType) : Bool := match o with
  | some (.object _) => true
  | some (.array _) => true
  | _ => false
def ms_fldB (q : (Nat × Nat) × (Nat × Nat × Nat)) : Bool :=
  decide (Cond.fieldLink (mCns.getD q.1.1 RL) q.1.2 (mTs q.2.1 q.2.2.1).1 (mTs q.2.1 q.2.2.1).2.1 (mTs q.2.1 q.2.2.1).2.2.1 ∈ ms_base) && (decide (q.2.1 < 9) && (decide (q.2.2.1 < mm_sz q.2.1) && (decide (mm_kd q.2.1 q.2.2.1 = q.2.2.2) &&
  (if q.2.2.2 = 2 then (mTs q.2.1 q.2.2.1).2.2.2 && (decide ((mTs q.2.1 q.2.2.1).1 = mCns.getD q.2.1 RL) && ms_isR (parseFieldDescriptor (mTs q.2.1 q.2.2.1).2.2.1))
   else !(mTs q.2.1 q.2.2.1).2.2.2 && decide (parseFieldDescriptor (mTs q.2.1 q.2.2.1).2.2.1 = some (if q.2.2.2 = 0 then .int else .boolean))))))
theorem ms_fld_ok : mFldT.all ms_fldB = true := by decide +kernel
theorem ms_fld {k x ci s kd : Nat} (h : mFld (mC k) x = some (ci, s, kd)) : Cond.fieldLink (mOwn k) x (mTs ci s).1 (mTs ci s).2.1 (mTs ci s).2.2.1 ∈ ms_base ∧ ci < 9 ∧ s < mm_sz ci ∧ mm_kd ci s = kd ∧
    (kd = 2 → (mTs ci s).2.2.2 = true ∧ (mTs ci s).1 = mCns.getD ci RL ∧ ms_isR (parseFieldDescriptor (mTs ci s).2.2.1) = true) ∧ (kd ≠ 2 → (mTs ci s).2.2.2 = false ∧ parseFieldDescriptor (mTs ci s).2.2.1 = some (if kd = 0 then .int else .boolean)) := by
  have h1 := List.all_eq_true.mp ms_fld_ok _ (ms_lookup mFldT (mC k, x) (ci, s, kd) h)
  simp only [ms_fldB, Bool.and_eq_true, decide_eq_true_eq] at h1
  obtain ⟨a1, a2, a3, a4, a5⟩ := h1
  refine ⟨a1, a2, a3, a4, fun hk => ?_, fun hk => ?_⟩
  · rw [if_pos hk] at a5
    simpa only [Bool.and_eq_true, decide_eq_true_eq] using a5
  · rw [if_neg hk] at a5
    simpa only [Bool.and_eq_true, decide_eq_true_eq, Bool.not_eq_true'] using a5
theorem ms_uws_ok : vwCl.all (fun q => (u_ws q.1 q.2.1 q.2.2).all fun w => decide (w ∈ ms_base)) = true := by decide +kernel
def mTys (ci : Nat) : Nat → FieldType := [tyX0, tyX1, tyX2, tyX3, tyX4, tyX5, tyX6, tyX7, tyX8].getD ci tyX0
theorem ms_cls {ci : Nat} (h : ci < 9) : vwCl[ci]? = some (mCns.getD ci RL, mTs ci, mm_sz ci) ∧ (∀ w ∈ u_ws (mCns.getD ci RL) (mTs ci) (mm_sz ci), w ∈ ms_base) ∧ (∀ k, k < mm_sz ci → parseFieldDescriptor (mTs ci k).2.2.1 = some (mTys ci k)) ∧ (∀ a, a < mm_sz ci → ∀ b, b < mm_sz ci → a ≠ b → (mTs ci a).2.1 ≠ (mTs ci b).2.1) := by
  have e : vwCl[ci]? = some (mCns.getD ci RL, mTs ci, mm_sz ci) := by
    match ci, h with
    | 0, _ => rfl
    | 1, _ => rfl
    | 2, _ => rfl
    | 3, _ => rfl
    | 4, _ => rfl
    | 5, _ => rfl
    | 6, _ => rfl
    | 7, _ => rfl
    | 8, _ => rfl
  refine ⟨e, fun w hw => ?_, ?_, ?_⟩
  · have h1 := List.all_eq_true.mp ms_uws_ok _ (List.mem_of_getElem? e)
    exact of_decide_eq_true (List.all_eq_true.mp h1 w hw)
  · match ci, h with
    | 0, _ => exact tyX0_ok
    | 1, _ => exact tyX1_ok
    | 2, _ => exact tyX2_ok
    | 3, _ => exact tyX3_ok
    | 4, _ => exact tyX4_ok
    | 5, _ => exact tyX5_ok
    | 6, _ => exact tyX6_ok
    | 7, _ => exact tyX7_ok
    | 8, _ => exact tyX8_ok
  · match ci, h with
    | 0, _ => exact nmX0
    | 1, _ => exact nmX1
    | 2, _ => exact nmX2
    | 3, _ => exact nmX3
    | 4, _ => exact nmX4
    | 5, _ => exact nmX5
    | 6, _ => exact nmX6
    | 7, _ => exact nmX7
    | 8, _ => exact nmX8
def ms_newB (q : (Nat × Nat) × Nat) : Bool :=
  decide (Cond.classLink (mCns.getD q.1.1 RL) q.1.2 (mCns.getD q.2 RL) ∈ ms_base) && (decide (Cond.instantiable (mCns.getD q.2 RL) (mm_sz q.2) ∈ ms_base) && (decide (Cond.initialized (mCns.getD q.2 RL) ∈ ms_base) && (decide (q.2 < 9) &&
  (List.range (mm_sz q.2)).all fun j => decide (defaultValue (mTys q.2 j) = if mm_kd q.2 j = 2 then .null else .int 0))))
theorem ms_new_ok : mNewT.all ms_newB = true := by decide +kernel
theorem ms_new {k x ci : Nat} (h : mNew (mC k) x = some ci) : Cond.classLink (mOwn k) x (mCns.getD ci RL) ∈ ms_base ∧ Cond.instantiable (mCns.getD ci RL) (mm_sz ci) ∈ ms_base ∧ Cond.initialized (mCns.getD ci RL) ∈ ms_base ∧ ci < 9 ∧ ∀ j, j < mm_sz ci → defaultValue (mTys ci j) = if mm_kd ci j = 2 then .null else .int 0 := by
  have h1 := List.all_eq_true.mp ms_new_ok _ (ms_lookup mNewT (mC k, x) ci h)
  simp only [ms_newB, Bool.and_eq_true, decide_eq_true_eq] at h1
  obtain ⟨a1, a2, a3, a4, a5⟩ := h1
  exact ⟨a1, a2, a3, a4, fun j hj => of_decide_eq_true (List.all_eq_true.mp a5 j (List.mem_range.mpr hj))⟩
theorem ms_arr_ok : ([.int, .long, .double, .char] : List FieldType).all (fun t => decide (Cond.arrayClass t ∈ ms_base)) = true := by decide +kernel
theorem ms_lib_ok : ([Cond.static Lib.Math.min.name, Cond.initialized "java/lang/Math", Cond.code Lib.Math.min.name Lib.Math.min.code 2 (some .int), Cond.native arraycopyName, Cond.static arraycopyName, Cond.initialized "java/lang/System", Cond.instanceMethod objectInit, Cond.code objectInit ⟨#[0xb1]⟩ 1 none, Cond.classLink RX3 9 RX4] : List Cond).all (fun t => decide (t ∈ ms_base)) = true := by decide +kernel
def ms_libB (q : (Nat × Nat) × (Nat × Nat × Nat)) : Bool :=
  if q.2.1 = 10 then decide (Cond.methodLink (mCns.getD q.1.1 RL) q.1.2 Lib.Math.min.name ∈ ms_base)
  else if q.2.1 = 11 then decide (Cond.methodLink (mCns.getD q.1.1 RL) q.1.2 arraycopyName ∈ ms_base)
  else if q.2.1 = 12 then decide (Cond.methodLink (mCns.getD q.1.1 RL) q.1.2 objectInit ∈ ms_base)
  else true
theorem ms_libm_ok : mMetT.all ms_libB = true := by decide +kernel
theorem ms_lib10 {k x a c : Nat} (h : mMet (mC k) x = some (10, a, c)) : Cond.methodLink (mOwn k) x Lib.Math.min.name ∈ ms_base := by
  have h1 := List.all_eq_true.mp ms_libm_ok _ (ms_lookup mMetT (mC k, x) (10, a, c) h)
  exact of_decide_eq_true h1
theorem ms_lib11 {k x a c : Nat} (h : mMet (mC k) x = some (11, a, c)) : Cond.methodLink (mOwn k) x arraycopyName ∈ ms_base := by
  have h1 := List.all_eq_true.mp ms_libm_ok _ (ms_lookup mMetT (mC k, x) (11, a, c) h)
  exact of_decide_eq_true h1
theorem ms_lib12 {k x a c : Nat} (h : mMet (mC k) x = some (12, a, c)) : Cond.methodLink (mOwn k) x objectInit ∈ ms_base := by
  have h1 := List.all_eq_true.mp ms_libm_ok _ (ms_lookup mMetT (mC k, x) (12, a, c) h)
  exact of_decide_eq_true h1
