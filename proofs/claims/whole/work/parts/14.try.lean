-- ===== soundness: what stays around: strings, statics, words that are not carried by lists =====
def ms_strs : List (Nat × String) := [(64, "a number is out of range"), (80, "12 units were made"), (104, "there is no such setting"), (107, "the value is out of range"), (116, "the reading is out of range"), (140, "what is not from 0 to 8"), (147, "there are no units"), (154, "there is no such house or stair"), (185, "what is not from 0 to 5"), (198, "the amount is out of range"), (203, "there is no unit that it concerns"), (222, "nothing was refused"), (232, "vote is not from -1 to 1"), (267, "what is not from 0 to 9"), (269, "the motion is not open"), (274, "it could not be carried"), (279, "the buffer contains 60 characters"), (291, "the text has a fault"), (341, "what is not from 0 to 10"), (346, "no change is kept"), (354, "there is no snapshot"), (359, "the owner is out of range"), (361, "there is no such kind"), (366, "the place does not fit the kind"), (368, "there is no such purpose"), (370, "there is no such unit"), (372, "there is no such cost"), (377, "there is no such motion"), (381, "it is refused")]
def ms_ncs : List (String × String) := [("java/lang/IllegalArgumentException", "java/lang/IllegalStateException"), ("java/lang/IllegalArgumentException", "java/lang/IndexOutOfBoundsException"), ("java/lang/IllegalArgumentException", "java/lang/UnsupportedOperationException"), ("java/lang/IllegalArgumentException", "java/util/NoSuchElementException"), ("java/lang/IllegalStateException", "java/lang/IllegalArgumentException"), ("java/lang/IllegalStateException", "java/lang/IndexOutOfBoundsException"), ("java/lang/IllegalStateException", "java/lang/UnsupportedOperationException"), ("java/lang/IllegalStateException", "java/util/NoSuchElementException"), ("java/lang/IndexOutOfBoundsException", "java/lang/IllegalArgumentException"), ("java/lang/IndexOutOfBoundsException", "java/lang/IllegalStateException"), ("java/lang/IndexOutOfBoundsException", "java/lang/UnsupportedOperationException"), ("java/lang/IndexOutOfBoundsException", "java/util/NoSuchElementException"), ("java/lang/UnsupportedOperationException", "java/lang/IllegalArgumentException"), ("java/lang/UnsupportedOperationException", "java/lang/IllegalStateException"), ("java/lang/UnsupportedOperationException", "java/lang/IndexOutOfBoundsException"), ("java/lang/UnsupportedOperationException", "java/util/NoSuchElementException"), ("java/util/NoSuchElementException", "java/lang/IllegalArgumentException"), ("java/util/NoSuchElementException", "java/lang/IllegalStateException"), ("java/util/NoSuchElementException", "java/lang/IndexOutOfBoundsException"), ("java/util/NoSuchElementException", "java/lang/UnsupportedOperationException")]
def ms_isNw (w : Cond) : Bool := match w with
  | .castable .. | .declares .. | .methodLinkNest .. => true
  | _ => false
def ms_nwT : List Cond := lw_tbl.filter ms_isNw
def ms_amb (A : Nat → Prop) (U : State) (H : Heap) : Prop :=
  vx_Zq Bundle.tN "UNASSIGNED_STACK" Bundle.steD A U H ∧ vx_Zq Bundle.tN "SUPPRESSED_SENTINEL" Bundle.listD A U H ∧ (∀ q ∈ ms_strs, ∃ sa, vk_R RX7 q.1 q.2 sa U) ∧ (∀ w ∈ ms_nwT, va_Nw w U) ∧ va_AO RX4 U ∧ ∀ q ∈ ms_ncs, va_Nc q.1 q.2 U
theorem ms_nw_warm {w : Cond} {s U : State} (hi : ms_isNw w = true) (hW : s.WarmedH U.vm) (h : va_Nw w s) : va_Nw w U := by
  cases w <;> first
    | (cases hi; done)
    | exact va_Nw.warmC hW h
    | exact va_Nw.warmD hW h
    | exact va_Nw.warmM hW h
theorem ms_amb.moved {A A' : Nat → Prop} {s U : State} {H H1 : Heap} (h : ms_amb A s H) (hW : s.WarmedH U.vm) (hA : ∀ q, A' q → A q) (hq : ∀ a : Nat, a < H.size → ¬ A a → H1[a]? = H[a]?) : ms_amb A' U H1 := by
  obtain ⟨h1, h2, h3, h4, h5, h6⟩ := h
  refine ⟨((h1.moved hW.alike).kept hq).narrow hA, ((h2.moved hW.alike).kept hq).narrow hA, fun q hq => ?_, fun w hw => ?_, h5.moved hW.alike, fun q hq => (h6 q hq).moved hW.alike⟩
  · obtain ⟨sa, h⟩ := h3 q hq
    exact ⟨sa, vk_R.warm hW h⟩
  · exact ms_nw_warm (List.mem_filter.mp hw).2 hW (h4 w hw)
-- ===== soundness: contracts =====
def mRt (k : Nat) : Option FieldType := [none, some .int, some .boolean, some .long, some .double].getD (mR k) none
def ms_wd (k : Nat) : Cond := if mX k = [] then .code (mY k) (mB k) (mL k) (mRt k) else .codeWith (mY k) (mB k) (mL k) (mRt k) (mX k)
def ms_wk (k : Nat) : List Cond := ms_wd k :: ms_base
def ms_rm (k : Nat) (h h' : mm_H) : Room := { frames := mF k, cells := (mm_u h').1 - (mm_u h).1, slots := (mm_u h').2 - (mm_u h).2, locals := mO k }
def ms_Pc (D : va_G) (aC : Nat → ClassId) (ι : Nat → Nat) (b : Nat) (h : mm_H) (As : List Value) (sz : Nat) : Array Value → State → Prop :=
  va_Pc (As.map (ms_tr ι b)) (fun U => U.heap.size = sz ∧ va_P D vwCl (ms_ws ι b aC h) U.heap ∧ va_K D vwCl (ms_tys aC) U ∧ va_D (fun _ => True) (ms_ws ι b aC h) ∧ ms_amb (va_A (ms_ws ι b aC h) sz) U U.heap)
def ms_B (D : va_G) (aC : Nat → ClassId) (b : Nat) (A : Nat → Prop) (h' : mm_H) (ι' : Nat → Nat) (t : State) : Prop := va_P D vwCl (ms_ws ι' b aC h') t.heap ∧ va_D A (ms_ws ι' b aC h')
def ms_Qc (D : va_G) (aC : Nat → ClassId) (ι : Nat → Nat) (b N : Nat) (A : Nat → Prop) (k : Nat) (o : Option Value ⊕ Nat) (h' : mm_H) : Array Value → State → Outcome → State → Prop :=
  if mR k = 0 then va_Qv (fun ι' : Nat → Nat => o = .inl none ∧ ms_ag N ι ι') (ms_B D aC b A h') A
  else if mR k = 3 then va_Ql (fun r (ι' : Nat → Nat) => o = .inl (some (.long r)) ∧ ms_ag N ι ι') (ms_B D aC b A h') A
  else if mR k = 4 then va_Qd (fun r (ι' : Nat → Nat) => o = .inl (some (.double r)) ∧ ms_ag N ι ι') (ms_B D aC b A h') A
  else va_Qi (fun r (ι' : Nat → Nat) => o = .inl (some (.int r)) ∧ ms_ag N ι ι') (ms_B D aC b A h') A
def ms_XC (D : va_G) (aC : Nat → ClassId) (ι : Nat → Nat) (b N : Nat) (A : Nat → Prop) (o : Option Value ⊕ Nat) (h' : mm_H) : String → State → State → Prop :=
  vx_X (fun ι' : Nat → Nat => ms_ag N ι ι') (fun E (ι' : Nat → Nat) t => (∃ e, o = .inr e ∧ mExc[e]? = some E) ∧ ms_B D aC b A h' ι' t) A
/-- the contract of the method k at these arguments and this heap, out of a run of the small machine -/
def ms_Met (l : Launch) (k : Nat) (As : List Value) (h : mm_H) (o : Option Value ⊕ Nat) (h' : mm_H) : Prop :=
  ∀ (D : va_G) (aC : Nat → ClassId) (ι : Nat → Nat) (b sz : Nat), vx_Met l (mY k) (ms_wk k) (ms_rm k h h') (ms_Pc D aC ι b h As sz) (ms_Qc D aC ι b (mm_N h) (va_A (ms_ws ι b aC h) sz) k o h') (ms_XC D aC ι b (mm_N h) (va_A (ms_ws ι b aC h) sz) o h') ((mm_u h').1 - (mm_u h).1) ((mm_u h').2 - (mm_u h).2) (va_A (ms_ws ι b aC h) sz)
theorem ms_blind {D : va_G} {aC : Nat → ClassId} {ι : Nat → Nat} {b : Nat} {h : mm_H} {As : List Value} {sz : Nat} : FrameBlind (ms_Pc D aC ι b h As sz) := by
  rintro a U g mk ⟨h1, h2, h3, h4, h5, h6⟩
  exact ⟨h1, h2, h3, va_K.moved (u := U) (U := U.calling g mk a) (Vm.Alike.refl U.vm) h4, h5, h6.moved (U := U.calling g mk a) (State.WarmedH.refl U) (fun _ q => q) (fun _ _ _ => rfl)⟩
-- ===== soundness: the calls' words =====
def ms_callB (q : (Nat × Nat) × (Nat × Nat × Nat)) : Bool :=
  let t := q.2.1
  let k := q.2.2.1
  let y := mY k
  if 10 ≤ t then true else
    (decide (ms_wd k ∈ ms_base) && (decide (Cond.initialized y.cls ∈ ms_base) && (decide (y.cls ≠ "java/lang/invoke/MethodHandle" ∧ y.cls ≠ "java/lang/invoke/VarHandle" ∧ (parseMethodDescriptor y.desc).map (fun d => d.parameters.length) = some q.2.2.2) && decide (y.cls = mCns.getD (mC k) RL)))) &&
    (if t = 0 then decide (mX k = []) && (decide (Cond.methodLink (mCns.getD q.1.1 RL) q.1.2 y ∈ ms_base) && (decide (Cond.instanceMethod y ∈ ms_base) && (decide (Cond.selects y.cls y y ∈ ms_base) && decide (mC k < 9))))
     else if t = 1 then decide (mX k = []) && (decide (Cond.methodLink (mCns.getD q.1.1 RL) q.1.2 y ∈ ms_base) && (decide (Cond.static y ∈ ms_base) && decide (y.cls = mCns.getD q.1.1 RL)))
     else if t = 2 then decide (mX k = []) && (decide (Cond.methodLink (mCns.getD q.1.1 RL) q.1.2 y ∈ ms_base) && (decide (Cond.instanceMethod y ∈ ms_base) && (decide (y.name = "<init>") && (decide (mR k = 0) && decide (mC k < 9)))))
     else if t = 4 then decide (mX k = []) && (decide (Cond.methodLinkNest (mCns.getD q.1.1 RL) q.1.2 y RX7 ∈ ms_nwT) && decide (Cond.static y ∈ ms_base))
     else if t = 5 then decide (mX k = []) && (decide (Cond.methodLinkNest (mCns.getD q.1.1 RL) q.1.2 y RX7 ∈ ms_nwT) && (decide (Cond.instanceMethod y ∈ ms_base) && (decide (y.name = "<init>") && (decide (mR k = 0) && decide (mC k < 9)))))
     else if t = 7 then decide (mX k ≠ []) && (decide (Cond.methodLink (mCns.getD q.1.1 RL) q.1.2 y ∈ ms_base) && decide (Cond.static y ∈ ms_base))
     else false)
theorem ms_call1_ok : (mMetT.take 70).all ms_callB = true := by decide +kernel
theorem ms_call2_ok : ((mMetT.drop 70).take 70).all ms_callB = true := by decide +kernel
theorem ms_call3_ok : ((mMetT.drop 140).take 70).all ms_callB = true := by decide +kernel
theorem ms_call4_ok : (mMetT.drop 210).all ms_callB = true := by decide +kernel
theorem ms_call_ok : ∀ q ∈ mMetT, ms_callB q = true := by
  have e : mMetT = mMetT.take 70 ++ ((mMetT.drop 70).take 70 ++ ((mMetT.drop 140).take 70 ++ mMetT.drop 210)) := by decide +kernel
  intro q hq
  rw [e] at hq
  rcases List.mem_append.mp hq with h | h
  · exact List.all_eq_true.mp ms_call1_ok q h
  rcases List.mem_append.mp h with h | h
  · exact List.all_eq_true.mp ms_call2_ok q h
  rcases List.mem_append.mp h with h | h
  · exact List.all_eq_true.mp ms_call3_ok q h
  · exact List.all_eq_true.mp ms_call4_ok q h
theorem ms_good {ws : List Cond} (h : ∀ w ∈ ws, w ∈ ms_base) : GoodIn ms_base ws := fun w hw => ⟨h w hw, good_of_word (List.mem_filter.mp (h w hw)).2⟩
