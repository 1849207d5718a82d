-- ===== soundness: what stays around: strings, statics, words that are not carried by lists =====
def ms_strs : List (Nat × String) := [(64, "a number is out of range"), (80, "12 units were made"), (104, "there is no such setting"), (107, "the value is out of range"), (116, "the reading is out of range"), (140, "what is not from 0 to 8"), (147, "there are no units"), (154, "there is no such house or stair"), (185, "what is not from 0 to 5"), (198, "the amount is out of range"), (203, "there is no unit that it concerns"), (222, "nothing was refused"), (232, "vote is not from -1 to 1"), (267, "what is not from 0 to 9"), (269, "the motion is not open"), (274, "it could not be carried"), (279, "the buffer contains 60 characters"), (291, "the text has a fault"), (341, "what is not from 0 to 10"), (346, "no change is kept"), (354, "there is no snapshot"), (359, "the owner is out of range"), (361, "there is no such kind"), (366, "the place does not fit the kind"), (368, "there is no such purpose"), (370, "there is no such unit"), (372, "there is no such cost"), (377, "there is no such motion"), (381, "it is refused")]
def ms_ncs : List (String × String) := [("java/lang/IllegalArgumentException", "java/lang/IllegalStateException"), ("java/lang/IllegalArgumentException", "java/lang/IndexOutOfBoundsException"), ("java/lang/IllegalArgumentException", "java/lang/UnsupportedOperationException"), ("java/lang/IllegalArgumentException", "java/util/NoSuchElementException"), ("java/lang/IllegalStateException", "java/lang/IllegalArgumentException"), ("java/lang/IllegalStateException", "java/lang/IndexOutOfBoundsException"), ("java/lang/IllegalStateException", "java/lang/UnsupportedOperationException"), ("java/lang/IllegalStateException", "java/util/NoSuchElementException"), ("java/lang/IndexOutOfBoundsException", "java/lang/IllegalArgumentException"), ("java/lang/IndexOutOfBoundsException", "java/lang/IllegalStateException"), ("java/lang/IndexOutOfBoundsException", "java/lang/UnsupportedOperationException"), ("java/lang/IndexOutOfBoundsException", "java/util/NoSuchElementException"), ("java/lang/UnsupportedOperationException", "java/lang/IllegalArgumentException"), ("java/lang/UnsupportedOperationException", "java/lang/IllegalStateException"), ("java/lang/UnsupportedOperationException", "java/lang/IndexOutOfBoundsException"), ("java/lang/UnsupportedOperationException", "java/util/NoSuchElementException"), ("java/util/NoSuchElementException", "java/lang/IllegalArgumentException"), ("java/util/NoSuchElementException", "java/lang/IllegalStateException"), ("java/util/NoSuchElementException", "java/lang/IndexOutOfBoundsException"), ("java/util/NoSuchElementException", "java/lang/UnsupportedOperationException")]
def ms_isNw (w : Cond) : Bool := match w with
  | .castable .. | .declares .. | .methodLinkNest .. => true
  | _ => false
def ms_nwT : List Cond := lw_tbl.filter ms_isNw
def ms_amb (A : Nat → Prop) (U : State) (H : Heap) : Prop :=
  vx_Zq Bundle.tN "UNASSIGNED_STACK" Bundle.steD A U H ∧ vx_Zq Bundle.tN "SUPPRESSED_SENTINEL" Bundle.listD A U H ∧ (∀ q ∈ ms_strs, ∃ sa, vk_R RX7 q.1 q.2 sa U) ∧ (∀ w ∈ ms_nwT, va_Nw w U) ∧ va_AO RX4 U ∧ ∀ q ∈ ms_ncs, va_Nc q.1 q.2 U
theorem ms_nw_warm {w : Cond} {s U : State} (hi : ms_isNw w = true) (hW : s.WarmedH U.vm) (h : va_Nw w s) : va_Nw w U := by
  cases w <;> first
    | (cases hi; done)
    | exact va_Nw.warmC hW h
    | exact va_Nw.warmD hW h
    | exact va_Nw.warmM hW h
theorem ms_amb.moved {A A' : Nat → Prop} {s U : State} {H H1 : Heap} (h : ms_amb A s H) (hW : s.WarmedH U.vm) (hA : ∀ q, A' q → A q) (hq : ∀ a : Nat, a < H.size → ¬ A a → H1[a]? = H[a]?) : ms_amb A' U H1 := by
  obtain ⟨h1, h2, h3, h4, h5, h6⟩ := h
  refine ⟨((h1.moved hW.alike).kept hq).narrow hA, ((h2.moved hW.alike).kept hq).narrow hA, fun q hq => ?_, fun w hw => ?_, h5.moved hW.alike, fun q hq => (h6 q hq).moved hW.alike⟩
  · obtain ⟨sa, h⟩ := h3 q hq
    exact ⟨sa, vk_R.warm hW h⟩
  · exact ms_nw_warm (List.mem_filter.mp hw).2 hW (h4 w hw)
-- ===== soundness: contracts =====
def mRt (k : Nat) : Option FieldType := [none, some .int, some .boolean, some .long, some .double].getD (mR k) none
def ms_wd (k : Nat) : Cond := if mX k = [] then .code (mY k) (mB k) (mL k) (mRt k) else .codeWith (mY k) (mB k) (mL k) (mRt k) (mX k)
def ms_wk (k : Nat) : List Cond := ms_wd k :: ms_base
def ms_rm (k : Nat) (h h' : mm_H) : Room := { frames := mF k, cells := (mm_u h').1 - (mm_u h).1, slots := (mm_u h').2 - (mm_u h).2, locals := mO k }
def ms_Pc (D : va_G) (aC : Nat → ClassId) (ι : Nat → Nat) (b : Nat) (h : mm_H) (As : List Value) (sz : Nat) : Array Value → State → Prop :=
  va_Pc (As.map (ms_tr ι b)) (fun U => U.heap.size = sz ∧ va_P D vwCl (ms_ws ι b aC h) U.heap ∧ va_K D vwCl (ms_tys aC) U ∧ va_D (fun _ => True) (ms_ws ι b aC h) ∧ ms_amb (va_A (ms_ws ι b aC h) sz) U U.heap)
def ms_B (D : va_G) (aC : Nat → ClassId) (b : Nat) (A : Nat → Prop) (h' : mm_H) (ι' : Nat → Nat) (t : State) : Prop := va_P D vwCl (ms_ws ι' b aC h') t.heap ∧ va_D A (ms_ws ι' b aC h')
def ms_Qc (D : va_G) (aC : Nat → ClassId) (ι : Nat → Nat) (b N : Nat) (A : Nat → Prop) (k : Nat) (o : Option Value ⊕ Nat) (h' : mm_H) : Array Value → State → Outcome → State → Prop :=
  if mR k = 0 then va_Qv (fun ι' : Nat → Nat => o = .inl none ∧ ms_ag N ι ι') (ms_B D aC b A h') A
  else if mR k = 3 then va_Ql (fun r (ι' : Nat → Nat) => o = .inl (some (.long r)) ∧ ms_ag N ι ι') (ms_B D aC b A h') A
  else if mR k = 4 then va_Qd (fun r (ι' : Nat → Nat) => o = .inl (some (.double r)) ∧ ms_ag N ι ι') (ms_B D aC b A h') A
  else va_Qi (fun r (ι' : Nat → Nat) => o = .inl (some (.int r)) ∧ ms_ag N ι ι') (ms_B D aC b A h') A
def ms_XC (D : va_G) (aC : Nat → ClassId) (ι : Nat → Nat) (b N : Nat) (A : Nat → Prop) (o : Option Value ⊕ Nat) (h' : mm_H) : String → State → State → Prop :=
  vx_X (fun ι' : Nat → Nat => ms_ag N ι ι') (fun E (ι' : Nat → Nat) t => (∃ e, o = .inr e ∧ mExc[e]? = some E) ∧ ms_B D aC b A h' ι' t) A
/-- the contract of the method k at these arguments and this heap, out of a run of the small machine -/
def ms_Met (l : Launch) (k : Nat) (As : List Value) (h : mm_H) (o : Option Value ⊕ Nat) (h' : mm_H) : Prop :=
  ∀ (D : va_G) (aC : Nat → ClassId) (ι : Nat → Nat) (b sz : Nat), vx_Met l (mY k) (ms_wk k) (ms_rm k h h') (ms_Pc D aC ι b h As sz) (ms_Qc D aC ι b (mm_N h) (va_A (ms_ws ι b aC h) sz) k o h') (ms_XC D aC ι b (mm_N h) (va_A (ms_ws ι b aC h) sz) o h') ((mm_u h').1 - (mm_u h).1) ((mm_u h').2 - (mm_u h).2) (va_A (ms_ws ι b aC h) sz)
theorem ms_blind {D : va_G} {aC : Nat → ClassId} {ι : Nat → Nat} {b : Nat} {h : mm_H} {As : List Value} {sz : Nat} : FrameBlind (ms_Pc D aC ι b h As sz) := by
  rintro a U g mk ⟨h1, h2, h3, h4, h5, h6⟩
  exact ⟨h1, h2, h3, va_K.moved (u := U) (U := U.calling g mk a) (Vm.Alike.refl U.vm) h4, h5, h6.moved (U := U.calling g mk a) (State.WarmedH.refl U) (fun _ q => q) (fun _ _ _ => rfl)⟩
-- ===== soundness: the methods' code words =====
theorem ms_in_t {w : Cond} {i : Nat} (h : tables_1[i]? = some w) (hg : goodWord w = true) : w ∈ ms_base := List.mem_filter.mpr ⟨List.mem_append_right _ (List.mem_of_getElem? h), hg⟩
set_option maxRecDepth 100000 in
theorem ms_wd_0 : ms_wd 0 ∈ ms_base := ms_in_t (i := 186) rfl rfl
set_option maxRecDepth 100000 in
theorem ms_wd_1 : ms_wd 1 ∈ ms_base := ms_in_t (i := 884) rfl rfl
set_option maxRecDepth 100000 in
theorem ms_wd_2 : ms_wd 2 ∈ ms_base := ms_in_t (i := 943) rfl rfl
set_option maxRecDepth 100000 in
theorem ms_wd_3 : ms_wd 3 ∈ ms_base := ms_in_t (i := 899) rfl rfl
set_option maxRecDepth 100000 in
theorem ms_wd_4 : ms_wd 4 ∈ ms_base := ms_in_t (i := 895) rfl rfl
set_option maxRecDepth 100000 in
theorem ms_wd_5 : ms_wd 5 ∈ ms_base := ms_in_t (i := 903) rfl rfl
set_option maxRecDepth 100000 in
theorem ms_wd_6 : ms_wd 6 ∈ ms_base := ms_in_t (i := 911) rfl rfl
set_option maxRecDepth 100000 in
theorem ms_wd_7 : ms_wd 7 ∈ ms_base := ms_in_t (i := 923) rfl rfl
set_option maxRecDepth 100000 in
theorem ms_wd_8 : ms_wd 8 ∈ ms_base := ms_in_t (i := 915) rfl rfl
set_option maxRecDepth 100000 in
theorem ms_wd_9 : ms_wd 9 ∈ ms_base := ms_in_t (i := 927) rfl rfl
set_option maxRecDepth 100000 in
theorem ms_wd_10 : ms_wd 10 ∈ ms_base := ms_in_t (i := 931) rfl rfl
set_option maxRecDepth 100000 in
theorem ms_wd_11 : ms_wd 11 ∈ ms_base := ms_in_t (i := 935) rfl rfl
set_option maxRecDepth 100000 in
theorem ms_wd_12 : ms_wd 12 ∈ ms_base := ms_in_t (i := 939) rfl rfl
set_option maxRecDepth 100000 in
theorem ms_wd_13 : ms_wd 13 ∈ ms_base := ms_in_t (i := 907) rfl rfl
set_option maxRecDepth 100000 in
theorem ms_wd_14 : ms_wd 14 ∈ ms_base := ms_in_t (i := 919) rfl rfl
set_option maxRecDepth 100000 in
theorem ms_wd_15 : ms_wd 15 ∈ ms_base := ms_in_t (i := 104) rfl rfl
set_option maxRecDepth 100000 in
theorem ms_wd_16 : ms_wd 16 ∈ ms_base := ms_in_t (i := 267) rfl rfl
set_option maxRecDepth 100000 in
theorem ms_wd_17 : ms_wd 17 ∈ ms_base := ms_in_t (i := 658) rfl rfl
set_option maxRecDepth 100000 in
theorem ms_wd_18 : ms_wd 18 ∈ ms_base := ms_in_t (i := 666) rfl rfl
set_option maxRecDepth 100000 in
theorem ms_wd_19 : ms_wd 19 ∈ ms_base := ms_in_t (i := 683) rfl rfl
set_option maxRecDepth 100000 in
theorem ms_wd_20 : ms_wd 20 ∈ ms_base := ms_in_t (i := 694) rfl rfl
set_option maxRecDepth 100000 in
theorem ms_wd_21 : ms_wd 21 ∈ ms_base := ms_in_t (i := 662) rfl rfl
set_option maxRecDepth 100000 in
theorem ms_wd_22 : ms_wd 22 ∈ ms_base := ms_in_t (i := 32) rfl rfl
set_option maxRecDepth 100000 in
theorem ms_wd_23 : ms_wd 23 ∈ ms_base := ms_in_t (i := 604) rfl rfl
set_option maxRecDepth 100000 in
theorem ms_wd_24 : ms_wd 24 ∈ ms_base := ms_in_t (i := 609) rfl rfl
set_option maxRecDepth 100000 in
theorem ms_wd_25 : ms_wd 25 ∈ ms_base := ms_in_t (i := 637) rfl rfl
set_option maxRecDepth 100000 in
theorem ms_wd_26 : ms_wd 26 ∈ ms_base := ms_in_t (i := 632) rfl rfl
set_option maxRecDepth 100000 in
theorem ms_wd_27 : ms_wd 27 ∈ ms_base := ms_in_t (i := 614) rfl rfl
set_option maxRecDepth 100000 in
theorem ms_wd_28 : ms_wd 28 ∈ ms_base := ms_in_t (i := 618) rfl rfl
set_option maxRecDepth 100000 in
theorem ms_wd_29 : ms_wd 29 ∈ ms_base := ms_in_t (i := 622) rfl rfl
set_option maxRecDepth 100000 in
theorem ms_wd_30 : ms_wd 30 ∈ ms_base := ms_in_t (i := 166) rfl rfl
set_option maxRecDepth 100000 in
theorem ms_wd_31 : ms_wd 31 ∈ ms_base := ms_in_t (i := 385) rfl rfl
set_option maxRecDepth 100000 in
theorem ms_wd_32 : ms_wd 32 ∈ ms_base := ms_in_t (i := 993) rfl rfl
set_option maxRecDepth 100000 in
theorem ms_wd_33 : ms_wd 33 ∈ ms_base := ms_in_t (i := 1005) rfl rfl
set_option maxRecDepth 100000 in
theorem ms_wd_34 : ms_wd 34 ∈ ms_base := ms_in_t (i := 51) rfl rfl
set_option maxRecDepth 100000 in
theorem ms_wd_35 : ms_wd 35 ∈ ms_base := ms_in_t (i := 256) rfl rfl
set_option maxRecDepth 100000 in
theorem ms_wd_36 : ms_wd 36 ∈ ms_base := ms_in_t (i := 973) rfl rfl
set_option maxRecDepth 100000 in
theorem ms_wd_37 : ms_wd 37 ∈ ms_base := ms_in_t (i := 523) rfl rfl
set_option maxRecDepth 100000 in
theorem ms_wd_38 : ms_wd 38 ∈ ms_base := ms_in_t (i := 583) rfl rfl
set_option maxRecDepth 100000 in
theorem ms_wd_39 : ms_wd 39 ∈ ms_base := ms_in_t (i := 579) rfl rfl
set_option maxRecDepth 100000 in
theorem ms_wd_40 : ms_wd 40 ∈ ms_base := ms_in_t (i := 646) rfl rfl
set_option maxRecDepth 100000 in
theorem ms_wd_41 : ms_wd 41 ∈ ms_base := ms_in_t (i := 709) rfl rfl
set_option maxRecDepth 100000 in
theorem ms_wd_42 : ms_wd 42 ∈ ms_base := ms_in_t (i := 721) rfl rfl
set_option maxRecDepth 100000 in
theorem ms_wd_43 : ms_wd 43 ∈ ms_base := ms_in_t (i := 725) rfl rfl
set_option maxRecDepth 100000 in
theorem ms_wd_44 : ms_wd 44 ∈ ms_base := ms_in_t (i := 821) rfl rfl
set_option maxRecDepth 100000 in
theorem ms_wd_45 : ms_wd 45 ∈ ms_base := ms_in_t (i := 827) rfl rfl
set_option maxRecDepth 100000 in
theorem ms_wd_46 : ms_wd 46 ∈ ms_base := ms_in_t (i := 796) rfl rfl
set_option maxRecDepth 100000 in
theorem ms_wd_47 : ms_wd 47 ∈ ms_base := ms_in_t (i := 800) rfl rfl
set_option maxRecDepth 100000 in
theorem ms_wd_48 : ms_wd 48 ∈ ms_base := ms_in_t (i := 813) rfl rfl
set_option maxRecDepth 100000 in
theorem ms_wd_49 : ms_wd 49 ∈ ms_base := ms_in_t (i := 849) rfl rfl
set_option maxRecDepth 100000 in
theorem ms_wd_50 : ms_wd 50 ∈ ms_base := ms_in_t (i := 871) rfl rfl
set_option maxRecDepth 100000 in
theorem ms_wd_51 : ms_wd 51 ∈ ms_base := ms_in_t (i := 804) rfl rfl
set_option maxRecDepth 100000 in
theorem ms_wd_52 : ms_wd 52 ∈ ms_base := ms_in_t (i := 808) rfl rfl
set_option maxRecDepth 100000 in
theorem ms_wd_53 : ms_wd 53 ∈ ms_base := ms_in_t (i := 595) rfl rfl
set_option maxRecDepth 100000 in
theorem ms_wd_54 : ms_wd 54 ∈ ms_base := ms_in_t (i := 600) rfl rfl
set_option maxRecDepth 100000 in
theorem ms_wd_55 : ms_wd 55 ∈ ms_base := ms_in_t (i := 121) rfl rfl
set_option maxRecDepth 100000 in
theorem ms_wd_56 : ms_wd 56 ∈ ms_base := ms_in_t (i := 272) rfl rfl
set_option maxRecDepth 100000 in
theorem ms_wd_57 : ms_wd 57 ∈ ms_base := ms_in_t (i := 751) rfl rfl
set_option maxRecDepth 100000 in
theorem ms_wd_58 : ms_wd 58 ∈ ms_base := ms_in_t (i := 775) rfl rfl
set_option maxRecDepth 100000 in
theorem ms_wd_59 : ms_wd 59 ∈ ms_base := ms_in_t (i := 771) rfl rfl
set_option maxRecDepth 100000 in
theorem ms_wd_60 : ms_wd 60 ∈ ms_base := ms_in_t (i := 966) rfl rfl
set_option maxRecDepth 100000 in
theorem ms_wd_61 : ms_wd 61 ∈ ms_base := ms_in_t (i := 780) rfl rfl
set_option maxRecDepth 100000 in
theorem ms_wd_62 : ms_wd 62 ∈ ms_base := ms_in_t (i := 755) rfl rfl
set_option maxRecDepth 100000 in
theorem ms_wd_63 : ms_wd 63 ∈ ms_base := ms_in_t (i := 784) rfl rfl
set_option maxRecDepth 100000 in
theorem ms_wd_64 : ms_wd 64 ∈ ms_base := ms_in_t (i := 759) rfl rfl
set_option maxRecDepth 100000 in
theorem ms_wd_65 : ms_wd 65 ∈ ms_base := ms_in_t (i := 57) rfl rfl
set_option maxRecDepth 100000 in
theorem ms_wd_66 : ms_wd 66 ∈ ms_base := ms_in_t (i := 260) rfl rfl
set_option maxRecDepth 100000 in
theorem ms_wd_67 : ms_wd 67 ∈ ms_base := ms_in_t (i := 393) rfl rfl
set_option maxRecDepth 100000 in
theorem ms_wd_68 : ms_wd 68 ∈ ms_base := ms_in_t (i := 447) rfl rfl
set_option maxRecDepth 100000 in
theorem ms_wd_69 : ms_wd 69 ∈ ms_base := ms_in_t (i := 458) rfl rfl
set_option maxRecDepth 100000 in
theorem ms_wd_70 : ms_wd 70 ∈ ms_base := ms_in_t (i := 470) rfl rfl
set_option maxRecDepth 100000 in
theorem ms_wd_71 : ms_wd 71 ∈ ms_base := ms_in_t (i := 499) rfl rfl
set_option maxRecDepth 100000 in
theorem ms_wd_72 : ms_wd 72 ∈ ms_base := ms_in_t (i := 511) rfl rfl
set_option maxRecDepth 100000 in
theorem ms_wd_73 : ms_wd 73 ∈ ms_base := ms_in_t (i := 817) rfl rfl
set_option maxRecDepth 100000 in
theorem ms_wd_74 : ms_wd 74 ∈ ms_base := ms_in_t (i := 531) rfl rfl
set_option maxRecDepth 100000 in
theorem ms_wd_75 : ms_wd 75 ∈ ms_base := ms_in_t (i := 642) rfl rfl
set_option maxRecDepth 100000 in
theorem ms_wd_76 : ms_wd 76 ∈ ms_base := ms_in_t (i := 958) rfl rfl
set_option maxRecDepth 100000 in
theorem ms_wd_77 : ms_wd 77 ∈ ms_base := ms_in_t (i := 591) rfl rfl
set_option maxRecDepth 100000 in
theorem ms_wd_78 : ms_wd 78 ∈ ms_base := ms_in_t (i := 587) rfl rfl
set_option maxRecDepth 100000 in
theorem ms_wd_79 : ms_wd 79 ∈ ms_base := ms_in_t (i := 627) rfl rfl
set_option maxRecDepth 100000 in
theorem ms_wd_80 : ms_wd 80 ∈ ms_base := ms_in_t (i := 650) rfl rfl
set_option maxRecDepth 100000 in
theorem ms_wd_81 : ms_wd 81 ∈ ms_base := ms_in_t (i := 654) rfl rfl
set_option maxRecDepth 100000 in
theorem ms_wd_82 : ms_wd 82 ∈ ms_base := ms_in_t (i := 962) rfl rfl
set_option maxRecDepth 100000 in
theorem ms_wd_83 : ms_wd 83 ∈ ms_base := ms_in_t (i := 535) rfl rfl
set_option maxRecDepth 100000 in
theorem ms_wd_84 : ms_wd 84 ∈ ms_base := ms_in_t (i := 24) rfl rfl
set_option maxRecDepth 100000 in
theorem ms_wd_85 : ms_wd 85 ∈ ms_base := ms_in_t (i := 283) rfl rfl
set_option maxRecDepth 100000 in
theorem ms_wd_86 : ms_wd 86 ∈ ms_base := ms_in_t (i := 401) rfl rfl
set_option maxRecDepth 100000 in
theorem ms_wd_87 : ms_wd 87 ∈ ms_base := ms_in_t (i := 432) rfl rfl
set_option maxRecDepth 100000 in
theorem ms_wd_88 : ms_wd 88 ∈ ms_base := ms_in_t (i := 441) rfl rfl
set_option maxRecDepth 100000 in
theorem ms_wd_89 : ms_wd 89 ∈ ms_base := ms_in_t (i := 454) rfl rfl
set_option maxRecDepth 100000 in
theorem ms_wd_90 : ms_wd 90 ∈ ms_base := ms_in_t (i := 466) rfl rfl
set_option maxRecDepth 100000 in
theorem ms_wd_91 : ms_wd 91 ∈ ms_base := ms_in_t (i := 479) rfl rfl
set_option maxRecDepth 100000 in
theorem ms_wd_92 : ms_wd 92 ∈ ms_base := ms_in_t (i := 506) rfl rfl
set_option maxRecDepth 100000 in
theorem ms_wd_93 : ms_wd 93 ∈ ms_base := ms_in_t (i := 519) rfl rfl
set_option maxRecDepth 100000 in
theorem ms_wd_94 : ms_wd 94 ∈ ms_base := ms_in_t (i := 563) rfl rfl
set_option maxRecDepth 100000 in
theorem ms_wd_95 : ms_wd 95 ∈ ms_base := ms_in_t (i := 673) rfl rfl
set_option maxRecDepth 100000 in
theorem ms_wd_96 : ms_wd 96 ∈ ms_base := ms_in_t (i := 690) rfl rfl
set_option maxRecDepth 100000 in
theorem ms_wd_97 : ms_wd 97 ∈ ms_base := ms_in_t (i := 701) rfl rfl
set_option maxRecDepth 100000 in
theorem ms_wd_98 : ms_wd 98 ∈ ms_base := ms_in_t (i := 716) rfl rfl
set_option maxRecDepth 100000 in
theorem ms_wd_99 : ms_wd 99 ∈ ms_base := ms_in_t (i := 732) rfl rfl
set_option maxRecDepth 100000 in
theorem ms_wd_100 : ms_wd 100 ∈ ms_base := ms_in_t (i := 739) rfl rfl
set_option maxRecDepth 100000 in
theorem ms_wd_101 : ms_wd 101 ∈ ms_base := ms_in_t (i := 747) rfl rfl
set_option maxRecDepth 100000 in
theorem ms_wd_102 : ms_wd 102 ∈ ms_base := ms_in_t (i := 766) rfl rfl
set_option maxRecDepth 100000 in
theorem ms_wd_103 : ms_wd 103 ∈ ms_base := ms_in_t (i := 792) rfl rfl
set_option maxRecDepth 100000 in
theorem ms_wd_104 : ms_wd 104 ∈ ms_base := ms_in_t (i := 836) rfl rfl
set_option maxRecDepth 100000 in
theorem ms_wd_105 : ms_wd 105 ∈ ms_base := ms_in_t (i := 859) rfl rfl
set_option maxRecDepth 100000 in
theorem ms_wd_106 : ms_wd 106 ∈ ms_base := ms_in_t (i := 866) rfl rfl
set_option maxRecDepth 100000 in
theorem ms_wd_107 : ms_wd 107 ∈ ms_base := ms_in_t (i := 879) rfl rfl
set_option maxRecDepth 100000 in
theorem ms_wd_108 : ms_wd 108 ∈ ms_base := ms_in_t (i := 891) rfl rfl
set_option maxRecDepth 100000 in
theorem ms_wd_109 : ms_wd 109 ∈ ms_base := ms_in_t (i := 248) rfl rfl
set_option maxRecDepth 100000 in
theorem ms_wd_110 : ms_wd 110 ∈ ms_base := ms_in_t (i := 953) rfl rfl
set_option maxRecDepth 100000 in
theorem ms_wd_111 : ms_wd 111 ∈ ms_base := ms_in_t (i := 981) rfl rfl
set_option maxRecDepth 100000 in
theorem ms_wd_112 : ms_wd 112 ∈ ms_base := ms_in_t (i := 988) rfl rfl
set_option maxRecDepth 100000 in
theorem ms_wd_113 : ms_wd 113 ∈ ms_base := ms_in_t (i := 252) rfl rfl
set_option maxRecDepth 100000 in
theorem ms_wd_114 : ms_wd 114 ∈ ms_base := ms_in_t (i := 1000) rfl rfl
set_option maxRecDepth 100000 in
theorem ms_wd_115 : ms_wd 115 ∈ ms_base := ms_in_t (i := 289) rfl rfl
set_option maxRecDepth 100000 in
theorem ms_wd_116 : ms_wd 116 ∈ ms_base := ms_in_t (i := 286) rfl rfl
set_option maxRecDepth 100000 in
theorem ms_wd_117 : ms_wd 117 ∈ ms_base := ms_in_t (i := 292) rfl rfl
set_option maxRecDepth 100000 in
theorem ms_wd_118 : ms_wd 118 ∈ ms_base := ms_in_t (i := 295) rfl rfl
set_option maxRecDepth 100000 in
theorem ms_wd_119 : ms_wd 119 ∈ ms_base := ms_in_t (i := 570) rfl rfl
set_option maxRecDepth 100000 in
theorem ms_wd_120 : ms_wd 120 ∈ ms_base := ms_in_t (i := 424) rfl rfl
set_option maxRecDepth 100000 in
theorem ms_wd_121 : ms_wd 121 ∈ ms_base := ms_in_t (i := 566) rfl rfl
set_option maxRecDepth 100000 in
theorem ms_wd_122 : ms_wd 122 ∈ ms_base := ms_in_t (i := 574) rfl rfl
set_option maxRecDepth 100000 in
theorem ms_wd_123 : ms_wd 123 ∈ ms_base := ms_in_t (i := 405) rfl rfl
set_option maxRecDepth 100000 in
theorem ms_wd_124 : ms_wd 124 ∈ ms_base := ms_in_t (i := 677) rfl rfl
set_option maxRecDepth 100000 in
theorem ms_wd_125 : ms_wd 125 ∈ ms_base := ms_in_t (i := 840) rfl rfl
set_option maxRecDepth 100000 in
theorem ms_wd_126 : ms_wd 126 ∈ ms_base := ms_in_t (i := 540) rfl rfl
set_option maxRecDepth 100000 in
theorem ms_wd_127 : ms_wd 127 ∈ ms_base := ms_in_t (i := 1010) rfl rfl
set_option maxRecDepth 100000 in
theorem ms_wd_128 : ms_wd 128 ∈ ms_base := ms_in_t (i := 1067) rfl rfl
set_option maxRecDepth 100000 in
theorem ms_wd_129 : ms_wd 129 ∈ ms_base := ms_in_t (i := 1156) rfl rfl
set_option maxRecDepth 100000 in
theorem ms_wd_130 : ms_wd 130 ∈ ms_base := ms_in_t (i := 1152) rfl rfl
set_option maxRecDepth 100000 in
theorem ms_wd_131 : ms_wd 131 ∈ ms_base := ms_in_t (i := 1089) rfl rfl
set_option maxRecDepth 100000 in
theorem ms_wd_132 : ms_wd 132 ∈ ms_base := ms_in_t (i := 1104) rfl rfl
set_option maxRecDepth 100000 in
theorem ms_wd_133 : ms_wd 133 ∈ ms_base := ms_in_t (i := 1096) rfl rfl
set_option maxRecDepth 100000 in
theorem ms_wd_134 : ms_wd 134 ∈ ms_base := ms_in_t (i := 1125) rfl rfl
set_option maxRecDepth 100000 in
theorem ms_wd_135 : ms_wd 135 ∈ ms_base := ms_in_t (i := 1117) rfl rfl
set_option maxRecDepth 100000 in
theorem ms_wd_136 : ms_wd 136 ∈ ms_base := ms_in_t (i := 1074) rfl rfl
set_option maxRecDepth 100000 in
theorem ms_wd_137 : ms_wd 137 ∈ ms_base := ms_in_t (i := 1093) rfl rfl
set_option maxRecDepth 100000 in
theorem ms_wd_138 : ms_wd 138 ∈ ms_base := ms_in_t (i := 1071) rfl rfl
set_option maxRecDepth 100000 in
theorem ms_wd_139 : ms_wd 139 ∈ ms_base := ms_in_t (i := 1078) rfl rfl
set_option maxRecDepth 100000 in
theorem ms_wd_140 : ms_wd 140 ∈ ms_base := ms_in_t (i := 1082) rfl rfl
set_option maxRecDepth 100000 in
theorem ms_wd_141 : ms_wd 141 ∈ ms_base := ms_in_t (i := 1086) rfl rfl
set_option maxRecDepth 100000 in
theorem ms_wd_142 : ms_wd 142 ∈ ms_base := ms_in_t (i := 1100) rfl rfl
set_option maxRecDepth 100000 in
theorem ms_wd_143 : ms_wd 143 ∈ ms_base := ms_in_t (i := 1108) rfl rfl
set_option maxRecDepth 100000 in
theorem ms_wd_144 : ms_wd 144 ∈ ms_base := ms_in_t (i := 1112) rfl rfl
set_option maxRecDepth 100000 in
theorem ms_wd_145 : ms_wd 145 ∈ ms_base := ms_in_t (i := 1121) rfl rfl
set_option maxRecDepth 100000 in
theorem ms_wd_146 : ms_wd 146 ∈ ms_base := ms_in_t (i := 1129) rfl rfl
set_option maxRecDepth 100000 in
theorem ms_wd_147 : ms_wd 147 ∈ ms_base := ms_in_t (i := 1133) rfl rfl
set_option maxRecDepth 100000 in
theorem ms_wd_148 : ms_wd 148 ∈ ms_base := ms_in_t (i := 1137) rfl rfl
set_option maxRecDepth 100000 in
theorem ms_wd_149 : ms_wd 149 ∈ ms_base := ms_in_t (i := 1175) rfl rfl
set_option maxRecDepth 100000 in
theorem ms_wd_150 : ms_wd 150 ∈ ms_base := ms_in_t (i := 1171) rfl rfl
set_option maxRecDepth 100000 in
theorem ms_wd_151 : ms_wd 151 ∈ ms_base := ms_in_t (i := 1191) rfl rfl
set_option maxRecDepth 100000 in
theorem ms_wd_152 : ms_wd 152 ∈ ms_base := ms_in_t (i := 1187) rfl rfl
set_option maxRecDepth 100000 in
theorem ms_wd_153 : ms_wd 153 ∈ ms_base := ms_in_t (i := 1197) rfl rfl
set_option maxRecDepth 100000 in
theorem ms_wd_154 : ms_wd 154 ∈ ms_base := ms_in_t (i := 1183) rfl rfl
set_option maxRecDepth 100000 in
theorem ms_wd_155 : ms_wd 155 ∈ ms_base := ms_in_t (i := 1163) rfl rfl
set_option maxRecDepth 100000 in
theorem ms_wd_156 : ms_wd 156 ∈ ms_base := ms_in_t (i := 1205) rfl rfl
set_option maxRecDepth 100000 in
theorem ms_wd_157 : ms_wd 157 ∈ ms_base := ms_in_t (i := 1209) rfl rfl
set_option maxRecDepth 100000 in
theorem ms_wd_158 : ms_wd 158 ∈ ms_base := ms_in_t (i := 1147) rfl rfl
set_option maxRecDepth 100000 in
theorem ms_wd_159 : ms_wd 159 ∈ ms_base := ms_in_t (i := 1218) rfl rfl
set_option maxRecDepth 100000 in
theorem ms_wd_160 : ms_wd 160 ∈ ms_base := ms_in_t (i := 1141) rfl rfl
set_option maxRecDepth 100000 in
theorem ms_wd_161 : ms_wd 161 ∈ ms_base := ms_in_t (i := 1179) rfl rfl
set_option maxRecDepth 100000 in
theorem ms_wd_162 : ms_wd 162 ∈ ms_base := ms_in_t (i := 1167) rfl rfl
set_option maxRecDepth 100000 in
theorem ms_wd_163 : ms_wd 163 ∈ ms_base := ms_in_t (i := 1201) rfl rfl
set_option maxRecDepth 100000 in
theorem ms_wd_164 : ms_wd 164 ∈ ms_base := ms_in_t (i := 1214) rfl rfl
set_option maxRecDepth 100000 in
theorem ms_wd_165 : ms_wd 165 ∈ ms_base := ms_in_t (i := 1160) rfl rfl
set_option maxRecDepth 100000 in
theorem ms_wd_166 : ms_wd 166 ∈ ms_base := ms_in_t (i := 1226) rfl rfl
set_option maxRecDepth 100000 in
theorem ms_wd_167 : ms_wd 167 ∈ ms_base := ms_in_t (i := 1222) rfl rfl
set_option maxRecDepth 100000 in
theorem ms_wd_168 : ms_wd 168 ∈ ms_base := ms_in_t (i := 1230) rfl rfl
set_option maxRecDepth 100000 in
theorem ms_wd_169 : ms_wd 169 ∈ ms_base := ms_in_t (i := 1234) rfl rfl
set_option maxRecDepth 100000 in
theorem ms_wd_170 : ms_wd 170 ∈ ms_base := ms_in_t (i := 1238) rfl rfl
set_option maxRecDepth 100000 in
theorem ms_wd_171 : ms_wd 171 ∈ ms_base := ms_in_t (i := 1242) rfl rfl
set_option maxRecDepth 100000 in
theorem ms_wd_172 : ms_wd 172 ∈ ms_base := ms_in_t (i := 1246) rfl rfl
set_option maxRecDepth 100000 in
theorem ms_wd_173 : ms_wd 173 ∈ ms_base := ms_in_t (i := 1250) rfl rfl
set_option maxRecDepth 100000 in
theorem ms_wd_174 : ms_wd 174 ∈ ms_base := ms_in_t (i := 1257) rfl rfl
set_option maxRecDepth 100000 in
theorem ms_wd_175 : ms_wd 175 ∈ ms_base := ms_in_t (i := 1269) rfl rfl
set_option maxRecDepth 100000 in
theorem ms_wd_176 : ms_wd 176 ∈ ms_base := ms_in_t (i := 1265) rfl rfl
set_option maxRecDepth 100000 in
theorem ms_wd_177 : ms_wd 177 ∈ ms_base := ms_in_t (i := 1254) rfl rfl
set_option maxRecDepth 100000 in
theorem ms_wd_178 : ms_wd 178 ∈ ms_base := ms_in_t (i := 1273) rfl rfl
set_option maxRecDepth 100000 in
theorem ms_wd_179 : ms_wd 179 ∈ ms_base := ms_in_t (i := 1261) rfl rfl
set_option maxRecDepth 100000 in
theorem ms_wd_180 : ms_wd 180 ∈ ms_base := ms_in_t (i := 1285) rfl rfl
set_option maxRecDepth 100000 in
theorem ms_wd_181 : ms_wd 181 ∈ ms_base := ms_in_t (i := 1289) rfl rfl
set_option maxRecDepth 100000 in
theorem ms_wd_182 : ms_wd 182 ∈ ms_base := ms_in_t (i := 1293) rfl rfl
set_option maxRecDepth 100000 in
theorem ms_wd_183 : ms_wd 183 ∈ ms_base := ms_in_t (i := 1281) rfl rfl
set_option maxRecDepth 100000 in
theorem ms_wd_184 : ms_wd 184 ∈ ms_base := ms_in_t (i := 1277) rfl rfl
set_option maxRecDepth 100000 in
theorem ms_wd_185 : ms_wd 185 ∈ ms_base := ms_in_t (i := 1297) rfl rfl
set_option maxRecDepth 100000 in
theorem ms_wd_186 : ms_wd 186 ∈ ms_base := ms_in_t (i := 1301) rfl rfl
set_option maxRecDepth 100000 in
theorem ms_wd_187 : ms_wd 187 ∈ ms_base := ms_in_t (i := 1305) rfl rfl
set_option maxRecDepth 100000 in
theorem ms_wd_188 : ms_wd 188 ∈ ms_base := ms_in_t (i := 1309) rfl rfl
set_option maxRecDepth 100000 in
theorem ms_wd_189 : ms_wd 189 ∈ ms_base := ms_in_t (i := 1313) rfl rfl
set_option maxRecDepth 100000 in
theorem ms_wd_190 : ms_wd 190 ∈ ms_base := ms_in_t (i := 1333) rfl rfl
set_option maxRecDepth 100000 in
theorem ms_wd_191 : ms_wd 191 ∈ ms_base := ms_in_t (i := 1341) rfl rfl
set_option maxRecDepth 100000 in
theorem ms_wd_192 : ms_wd 192 ∈ ms_base := ms_in_t (i := 1337) rfl rfl
set_option maxRecDepth 100000 in
theorem ms_wd_193 : ms_wd 193 ∈ ms_base := ms_in_t (i := 1345) rfl rfl
set_option maxRecDepth 100000 in
theorem ms_wd_194 : ms_wd 194 ∈ ms_base := ms_in_t (i := 1329) rfl rfl
set_option maxRecDepth 100000 in
theorem ms_wd_195 : ms_wd 195 ∈ ms_base := ms_in_t (i := 1325) rfl rfl
set_option maxRecDepth 100000 in
theorem ms_wd_196 : ms_wd 196 ∈ ms_base := ms_in_t (i := 1321) rfl rfl
set_option maxRecDepth 100000 in
theorem ms_wd_197 : ms_wd 197 ∈ ms_base := ms_in_t (i := 1317) rfl rfl
set_option maxRecDepth 100000 in
theorem ms_wd_198 : ms_wd 198 ∈ ms_base := ms_in_t (i := 1353) rfl rfl
set_option maxRecDepth 100000 in
theorem ms_wd_199 : ms_wd 199 ∈ ms_base := ms_in_t (i := 1357) rfl rfl
set_option maxRecDepth 100000 in
theorem ms_wd_200 : ms_wd 200 ∈ ms_base := ms_in_t (i := 1361) rfl rfl
set_option maxRecDepth 100000 in
theorem ms_wd_201 : ms_wd 201 ∈ ms_base := ms_in_t (i := 1349) rfl rfl
set_option maxRecDepth 100000 in
theorem ms_wd_202 : ms_wd 202 ∈ ms_base := ms_in_t (i := 1365) rfl rfl
set_option maxRecDepth 100000 in
theorem ms_wd_203 : ms_wd 203 ∈ ms_base := ms_in_t (i := 277) rfl rfl
set_option maxRecDepth 100000 in
theorem ms_wd_204 : ms_wd 204 ∈ ms_base := ms_in_t (i := 396) rfl rfl
set_option maxRecDepth 100000 in
theorem ms_wd_205 : ms_wd 205 ∈ ms_base := ms_in_t (i := 428) rfl rfl
set_option maxRecDepth 100000 in
theorem ms_wd_206 : ms_wd 206 ∈ ms_base := ms_in_t (i := 437) rfl rfl
set_option maxRecDepth 100000 in
theorem ms_wd_207 : ms_wd 207 ∈ ms_base := ms_in_t (i := 450) rfl rfl
set_option maxRecDepth 100000 in
theorem ms_wd_208 : ms_wd 208 ∈ ms_base := ms_in_t (i := 462) rfl rfl
set_option maxRecDepth 100000 in
theorem ms_wd_209 : ms_wd 209 ∈ ms_base := ms_in_t (i := 474) rfl rfl
set_option maxRecDepth 100000 in
theorem ms_wd_210 : ms_wd 210 ∈ ms_base := ms_in_t (i := 502) rfl rfl
set_option maxRecDepth 100000 in
theorem ms_wd_211 : ms_wd 211 ∈ ms_base := ms_in_t (i := 514) rfl rfl
set_option maxRecDepth 100000 in
theorem ms_wd_212 : ms_wd 212 ∈ ms_base := ms_in_t (i := 559) rfl rfl
set_option maxRecDepth 100000 in
theorem ms_wd_213 : ms_wd 213 ∈ ms_base := ms_in_t (i := 669) rfl rfl
set_option maxRecDepth 100000 in
theorem ms_wd_214 : ms_wd 214 ∈ ms_base := ms_in_t (i := 686) rfl rfl
set_option maxRecDepth 100000 in
theorem ms_wd_215 : ms_wd 215 ∈ ms_base := ms_in_t (i := 697) rfl rfl
set_option maxRecDepth 100000 in
theorem ms_wd_216 : ms_wd 216 ∈ ms_base := ms_in_t (i := 712) rfl rfl
set_option maxRecDepth 100000 in
theorem ms_wd_217 : ms_wd 217 ∈ ms_base := ms_in_t (i := 728) rfl rfl
set_option maxRecDepth 100000 in
theorem ms_wd_218 : ms_wd 218 ∈ ms_base := ms_in_t (i := 735) rfl rfl
set_option maxRecDepth 100000 in
theorem ms_wd_219 : ms_wd 219 ∈ ms_base := ms_in_t (i := 743) rfl rfl
set_option maxRecDepth 100000 in
theorem ms_wd_220 : ms_wd 220 ∈ ms_base := ms_in_t (i := 762) rfl rfl
set_option maxRecDepth 100000 in
theorem ms_wd_221 : ms_wd 221 ∈ ms_base := ms_in_t (i := 788) rfl rfl
set_option maxRecDepth 100000 in
theorem ms_wd_222 : ms_wd 222 ∈ ms_base := ms_in_t (i := 832) rfl rfl
set_option maxRecDepth 100000 in
theorem ms_wd_223 : ms_wd 223 ∈ ms_base := ms_in_t (i := 855) rfl rfl
set_option maxRecDepth 100000 in
theorem ms_wd_224 : ms_wd 224 ∈ ms_base := ms_in_t (i := 862) rfl rfl
set_option maxRecDepth 100000 in
theorem ms_wd_225 : ms_wd 225 ∈ ms_base := ms_in_t (i := 875) rfl rfl
set_option maxRecDepth 100000 in
theorem ms_wd_226 : ms_wd 226 ∈ ms_base := ms_in_t (i := 887) rfl rfl
set_option maxRecDepth 100000 in
theorem ms_wd_227 : ms_wd 227 ∈ ms_base := ms_in_t (i := 949) rfl rfl
set_option maxRecDepth 100000 in
theorem ms_wd_228 : ms_wd 228 ∈ ms_base := ms_in_t (i := 977) rfl rfl
set_option maxRecDepth 100000 in
theorem ms_wd_229 : ms_wd 229 ∈ ms_base := ms_in_t (i := 984) rfl rfl
set_option maxRecDepth 100000 in
theorem ms_wd_230 : ms_wd 230 ∈ ms_base := ms_in_t (i := 996) rfl rfl
theorem ms_wd_in : ∀ k, k < 231 → ms_wd k ∈ ms_base := by
  intro k hk
  match k, hk with
  | 0, _ => exact ms_wd_0
  | 1, _ => exact ms_wd_1
  | 2, _ => exact ms_wd_2
  | 3, _ => exact ms_wd_3
  | 4, _ => exact ms_wd_4
  | 5, _ => exact ms_wd_5
  | 6, _ => exact ms_wd_6
  | 7, _ => exact ms_wd_7
  | 8, _ => exact ms_wd_8
  | 9, _ => exact ms_wd_9
  | 10, _ => exact ms_wd_10
  | 11, _ => exact ms_wd_11
  | 12, _ => exact ms_wd_12
  | 13, _ => exact ms_wd_13
  | 14, _ => exact ms_wd_14
  | 15, _ => exact ms_wd_15
  | 16, _ => exact ms_wd_16
  | 17, _ => exact ms_wd_17
  | 18, _ => exact ms_wd_18
  | 19, _ => exact ms_wd_19
  | 20, _ => exact ms_wd_20
  | 21, _ => exact ms_wd_21
  | 22, _ => exact ms_wd_22
  | 23, _ => exact ms_wd_23
  | 24, _ => exact ms_wd_24
  | 25, _ => exact ms_wd_25
  | 26, _ => exact ms_wd_26
  | 27, _ => exact ms_wd_27
  | 28, _ => exact ms_wd_28
  | 29, _ => exact ms_wd_29
  | 30, _ => exact ms_wd_30
  | 31, _ => exact ms_wd_31
  | 32, _ => exact ms_wd_32
  | 33, _ => exact ms_wd_33
  | 34, _ => exact ms_wd_34
  | 35, _ => exact ms_wd_35
  | 36, _ => exact ms_wd_36
  | 37, _ => exact ms_wd_37
  | 38, _ => exact ms_wd_38
  | 39, _ => exact ms_wd_39
  | 40, _ => exact ms_wd_40
  | 41, _ => exact ms_wd_41
  | 42, _ => exact ms_wd_42
  | 43, _ => exact ms_wd_43
  | 44, _ => exact ms_wd_44
  | 45, _ => exact ms_wd_45
  | 46, _ => exact ms_wd_46
  | 47, _ => exact ms_wd_47
  | 48, _ => exact ms_wd_48
  | 49, _ => exact ms_wd_49
  | 50, _ => exact ms_wd_50
  | 51, _ => exact ms_wd_51
  | 52, _ => exact ms_wd_52
  | 53, _ => exact ms_wd_53
  | 54, _ => exact ms_wd_54
  | 55, _ => exact ms_wd_55
  | 56, _ => exact ms_wd_56
  | 57, _ => exact ms_wd_57
  | 58, _ => exact ms_wd_58
  | 59, _ => exact ms_wd_59
  | 60, _ => exact ms_wd_60
  | 61, _ => exact ms_wd_61
  | 62, _ => exact ms_wd_62
  | 63, _ => exact ms_wd_63
  | 64, _ => exact ms_wd_64
  | 65, _ => exact ms_wd_65
  | 66, _ => exact ms_wd_66
  | 67, _ => exact ms_wd_67
  | 68, _ => exact ms_wd_68
  | 69, _ => exact ms_wd_69
  | 70, _ => exact ms_wd_70
  | 71, _ => exact ms_wd_71
  | 72, _ => exact ms_wd_72
  | 73, _ => exact ms_wd_73
  | 74, _ => exact ms_wd_74
  | 75, _ => exact ms_wd_75
  | 76, _ => exact ms_wd_76
  | 77, _ => exact ms_wd_77
  | 78, _ => exact ms_wd_78
  | 79, _ => exact ms_wd_79
  | 80, _ => exact ms_wd_80
  | 81, _ => exact ms_wd_81
  | 82, _ => exact ms_wd_82
  | 83, _ => exact ms_wd_83
  | 84, _ => exact ms_wd_84
  | 85, _ => exact ms_wd_85
  | 86, _ => exact ms_wd_86
  | 87, _ => exact ms_wd_87
  | 88, _ => exact ms_wd_88
  | 89, _ => exact ms_wd_89
  | 90, _ => exact ms_wd_90
  | 91, _ => exact ms_wd_91
  | 92, _ => exact ms_wd_92
  | 93, _ => exact ms_wd_93
  | 94, _ => exact ms_wd_94
  | 95, _ => exact ms_wd_95
  | 96, _ => exact ms_wd_96
  | 97, _ => exact ms_wd_97
  | 98, _ => exact ms_wd_98
  | 99, _ => exact ms_wd_99
  | 100, _ => exact ms_wd_100
  | 101, _ => exact ms_wd_101
  | 102, _ => exact ms_wd_102
  | 103, _ => exact ms_wd_103
  | 104, _ => exact ms_wd_104
  | 105, _ => exact ms_wd_105
  | 106, _ => exact ms_wd_106
  | 107, _ => exact ms_wd_107
  | 108, _ => exact ms_wd_108
  | 109, _ => exact ms_wd_109
  | 110, _ => exact ms_wd_110
  | 111, _ => exact ms_wd_111
  | 112, _ => exact ms_wd_112
  | 113, _ => exact ms_wd_113
  | 114, _ => exact ms_wd_114
  | 115, _ => exact ms_wd_115
  | 116, _ => exact ms_wd_116
  | 117, _ => exact ms_wd_117
  | 118, _ => exact ms_wd_118
  | 119, _ => exact ms_wd_119
  | 120, _ => exact ms_wd_120
  | 121, _ => exact ms_wd_121
  | 122, _ => exact ms_wd_122
  | 123, _ => exact ms_wd_123
  | 124, _ => exact ms_wd_124
  | 125, _ => exact ms_wd_125
  | 126, _ => exact ms_wd_126
  | 127, _ => exact ms_wd_127
  | 128, _ => exact ms_wd_128
  | 129, _ => exact ms_wd_129
  | 130, _ => exact ms_wd_130
  | 131, _ => exact ms_wd_131
  | 132, _ => exact ms_wd_132
  | 133, _ => exact ms_wd_133
  | 134, _ => exact ms_wd_134
  | 135, _ => exact ms_wd_135
  | 136, _ => exact ms_wd_136
  | 137, _ => exact ms_wd_137
  | 138, _ => exact ms_wd_138
  | 139, _ => exact ms_wd_139
  | 140, _ => exact ms_wd_140
  | 141, _ => exact ms_wd_141
  | 142, _ => exact ms_wd_142
  | 143, _ => exact ms_wd_143
  | 144, _ => exact ms_wd_144
  | 145, _ => exact ms_wd_145
  | 146, _ => exact ms_wd_146
  | 147, _ => exact ms_wd_147
  | 148, _ => exact ms_wd_148
  | 149, _ => exact ms_wd_149
  | 150, _ => exact ms_wd_150
  | 151, _ => exact ms_wd_151
  | 152, _ => exact ms_wd_152
  | 153, _ => exact ms_wd_153
  | 154, _ => exact ms_wd_154
  | 155, _ => exact ms_wd_155
  | 156, _ => exact ms_wd_156
  | 157, _ => exact ms_wd_157
  | 158, _ => exact ms_wd_158
  | 159, _ => exact ms_wd_159
  | 160, _ => exact ms_wd_160
  | 161, _ => exact ms_wd_161
  | 162, _ => exact ms_wd_162
  | 163, _ => exact ms_wd_163
  | 164, _ => exact ms_wd_164
  | 165, _ => exact ms_wd_165
  | 166, _ => exact ms_wd_166
  | 167, _ => exact ms_wd_167
  | 168, _ => exact ms_wd_168
  | 169, _ => exact ms_wd_169
  | 170, _ => exact ms_wd_170
  | 171, _ => exact ms_wd_171
  | 172, _ => exact ms_wd_172
  | 173, _ => exact ms_wd_173
  | 174, _ => exact ms_wd_174
  | 175, _ => exact ms_wd_175
  | 176, _ => exact ms_wd_176
  | 177, _ => exact ms_wd_177
  | 178, _ => exact ms_wd_178
  | 179, _ => exact ms_wd_179
  | 180, _ => exact ms_wd_180
  | 181, _ => exact ms_wd_181
  | 182, _ => exact ms_wd_182
  | 183, _ => exact ms_wd_183
  | 184, _ => exact ms_wd_184
  | 185, _ => exact ms_wd_185
  | 186, _ => exact ms_wd_186
  | 187, _ => exact ms_wd_187
  | 188, _ => exact ms_wd_188
  | 189, _ => exact ms_wd_189
  | 190, _ => exact ms_wd_190
  | 191, _ => exact ms_wd_191
  | 192, _ => exact ms_wd_192
  | 193, _ => exact ms_wd_193
  | 194, _ => exact ms_wd_194
  | 195, _ => exact ms_wd_195
  | 196, _ => exact ms_wd_196
  | 197, _ => exact ms_wd_197
  | 198, _ => exact ms_wd_198
  | 199, _ => exact ms_wd_199
  | 200, _ => exact ms_wd_200
  | 201, _ => exact ms_wd_201
  | 202, _ => exact ms_wd_202
  | 203, _ => exact ms_wd_203
  | 204, _ => exact ms_wd_204
  | 205, _ => exact ms_wd_205
  | 206, _ => exact ms_wd_206
  | 207, _ => exact ms_wd_207
  | 208, _ => exact ms_wd_208
  | 209, _ => exact ms_wd_209
  | 210, _ => exact ms_wd_210
  | 211, _ => exact ms_wd_211
  | 212, _ => exact ms_wd_212
  | 213, _ => exact ms_wd_213
  | 214, _ => exact ms_wd_214
  | 215, _ => exact ms_wd_215
  | 216, _ => exact ms_wd_216
  | 217, _ => exact ms_wd_217
  | 218, _ => exact ms_wd_218
  | 219, _ => exact ms_wd_219
  | 220, _ => exact ms_wd_220
  | 221, _ => exact ms_wd_221
  | 222, _ => exact ms_wd_222
  | 223, _ => exact ms_wd_223
  | 224, _ => exact ms_wd_224
  | 225, _ => exact ms_wd_225
  | 226, _ => exact ms_wd_226
  | 227, _ => exact ms_wd_227
  | 228, _ => exact ms_wd_228
  | 229, _ => exact ms_wd_229
  | 230, _ => exact ms_wd_230
  | k + 231, h => exact absurd h (by omega)
-- ===== soundness: the calls' words =====
theorem ms_in_p {w : Cond} {i : Nat} (h : (k2_sels lw_privs)[i]? = some w) (hg : goodWord w = true) : w ∈ ms_base := List.mem_filter.mpr ⟨List.mem_append_left _ (List.mem_of_getElem? h), hg⟩
theorem ms_in_n {w : Cond} {i : Nat} (h : tables_1[i]? = some w) (hg : ms_isNw w = true) : w ∈ ms_nwT := List.mem_filter.mpr ⟨List.mem_append_right _ (List.mem_of_getElem? h), hg⟩
/-- what the tables say of the call by the entry x of the class c's pool: of the kind t, to the method k with n arguments -/
def ms_callP (c x t k n : Nat) : Prop :=
  (k < 231 ∧ Cond.initialized (mY k).cls ∈ ms_base ∧ ((mY k).cls ≠ "java/lang/invoke/MethodHandle" ∧ (mY k).cls ≠ "java/lang/invoke/VarHandle" ∧ (parseMethodDescriptor (mY k).desc).map (fun d => d.parameters.length) = some n) ∧ (mY k).cls = mCns.getD (mC k) RL) ∧
  ((t = 0 ∧ mX k = [] ∧ Cond.methodLink (mCns.getD c RL) x (mY k) ∈ ms_base ∧ Cond.instanceMethod (mY k) ∈ ms_base ∧ Cond.selects (mY k).cls (mY k) (mY k) ∈ ms_base ∧ mC k < 9) ∨
   (t = 1 ∧ mX k = [] ∧ Cond.methodLink (mCns.getD c RL) x (mY k) ∈ ms_base ∧ Cond.static (mY k) ∈ ms_base ∧ (mY k).cls = mCns.getD c RL) ∨
   (t = 2 ∧ mX k = [] ∧ Cond.methodLink (mCns.getD c RL) x (mY k) ∈ ms_base ∧ Cond.instanceMethod (mY k) ∈ ms_base ∧ (mY k).name = "<init>" ∧ mR k = 0 ∧ mC k < 9) ∨
   (t = 4 ∧ mX k = [] ∧ Cond.methodLinkNest (mCns.getD c RL) x (mY k) RX7 ∈ ms_nwT ∧ Cond.static (mY k) ∈ ms_base) ∨
   (t = 5 ∧ mX k = [] ∧ Cond.methodLinkNest (mCns.getD c RL) x (mY k) RX7 ∈ ms_nwT ∧ Cond.instanceMethod (mY k) ∈ ms_base ∧ (mY k).name = "<init>" ∧ mR k = 0 ∧ mC k < 9) ∨
   (t = 7 ∧ mX k ≠ [] ∧ Cond.methodLink (mCns.getD c RL) x (mY k) ∈ ms_base ∧ Cond.static (mY k) ∈ ms_base))
set_option maxRecDepth 100000 in
theorem ms_cp_0_22 : ms_callP 0 22 0 3 0 := ⟨⟨by decide, (ms_in_t (i := 8) rfl rfl), by decide +kernel, rfl⟩, Or.inl ⟨rfl, rfl, (ms_in_t (i := 896) rfl rfl), (ms_in_t (i := 897) rfl rfl), (ms_in_t (i := 898) rfl rfl), by decide⟩⟩
set_option maxRecDepth 100000 in
theorem ms_cp_0_25 : ms_callP 0 25 0 5 0 := ⟨⟨by decide, (ms_in_t (i := 8) rfl rfl), by decide +kernel, rfl⟩, Or.inl ⟨rfl, rfl, (ms_in_t (i := 900) rfl rfl), (ms_in_t (i := 901) rfl rfl), (ms_in_t (i := 902) rfl rfl), by decide⟩⟩
set_option maxRecDepth 100000 in
theorem ms_cp_0_29 : ms_callP 0 29 0 13 1 := ⟨⟨by decide, (ms_in_t (i := 8) rfl rfl), by decide +kernel, rfl⟩, Or.inl ⟨rfl, rfl, (ms_in_t (i := 904) rfl rfl), (ms_in_t (i := 906) rfl rfl), (ms_in_p (i := 17) rfl rfl), by decide⟩⟩
set_option maxRecDepth 100000 in
theorem ms_cp_0_33 : ms_callP 0 33 0 6 0 := ⟨⟨by decide, (ms_in_t (i := 8) rfl rfl), by decide +kernel, rfl⟩, Or.inl ⟨rfl, rfl, (ms_in_t (i := 908) rfl rfl), (ms_in_t (i := 910) rfl rfl), (ms_in_p (i := 18) rfl rfl), by decide⟩⟩
set_option maxRecDepth 100000 in
theorem ms_cp_0_36 : ms_callP 0 36 0 9 0 := ⟨⟨by decide, (ms_in_t (i := 8) rfl rfl), by decide +kernel, rfl⟩, Or.inl ⟨rfl, rfl, (ms_in_t (i := 924) rfl rfl), (ms_in_t (i := 926) rfl rfl), (ms_in_p (i := 22) rfl rfl), by decide⟩⟩
set_option maxRecDepth 100000 in
theorem ms_cp_0_39 : ms_callP 0 39 0 10 0 := ⟨⟨by decide, (ms_in_t (i := 8) rfl rfl), by decide +kernel, rfl⟩, Or.inl ⟨rfl, rfl, (ms_in_t (i := 928) rfl rfl), (ms_in_t (i := 930) rfl rfl), (ms_in_p (i := 23) rfl rfl), by decide⟩⟩
set_option maxRecDepth 100000 in
theorem ms_cp_0_42 : ms_callP 0 42 0 12 0 := ⟨⟨by decide, (ms_in_t (i := 8) rfl rfl), by decide +kernel, rfl⟩, Or.inl ⟨rfl, rfl, (ms_in_t (i := 936) rfl rfl), (ms_in_t (i := 938) rfl rfl), (ms_in_p (i := 25) rfl rfl), by decide⟩⟩
set_option maxRecDepth 100000 in
theorem ms_cp_0_45 : ms_callP 0 45 0 8 2 := ⟨⟨by decide, (ms_in_t (i := 8) rfl rfl), by decide +kernel, rfl⟩, Or.inl ⟨rfl, rfl, (ms_in_t (i := 912) rfl rfl), (ms_in_t (i := 914) rfl rfl), (ms_in_p (i := 19) rfl rfl), by decide⟩⟩
set_option maxRecDepth 100000 in
theorem ms_cp_0_49 : ms_callP 0 49 0 14 1 := ⟨⟨by decide, (ms_in_t (i := 8) rfl rfl), by decide +kernel, rfl⟩, Or.inl ⟨rfl, rfl, (ms_in_t (i := 916) rfl rfl), (ms_in_t (i := 918) rfl rfl), (ms_in_p (i := 20) rfl rfl), by decide⟩⟩
set_option maxRecDepth 100000 in
theorem ms_cp_0_53 : ms_callP 0 53 0 7 0 := ⟨⟨by decide, (ms_in_t (i := 8) rfl rfl), by decide +kernel, rfl⟩, Or.inl ⟨rfl, rfl, (ms_in_t (i := 920) rfl rfl), (ms_in_t (i := 922) rfl rfl), (ms_in_p (i := 21) rfl rfl), by decide⟩⟩
set_option maxRecDepth 100000 in
theorem ms_cp_0_65 : ms_callP 0 65 0 11 0 := ⟨⟨by decide, (ms_in_t (i := 8) rfl rfl), by decide +kernel, rfl⟩, Or.inl ⟨rfl, rfl, (ms_in_t (i := 932) rfl rfl), (ms_in_t (i := 934) rfl rfl), (ms_in_p (i := 24) rfl rfl), by decide⟩⟩
set_option maxRecDepth 100000 in
theorem ms_cp_1_28 : ms_callP 1 28 0 21 0 := ⟨⟨by decide, (ms_in_t (i := 5) rfl rfl), by decide +kernel, rfl⟩, Or.inl ⟨rfl, rfl, (ms_in_t (i := 659) rfl rfl), (ms_in_t (i := 661) rfl rfl), (ms_in_p (i := 12) rfl rfl), by decide⟩⟩
set_option maxRecDepth 100000 in
theorem ms_cp_2_24 : ms_callP 2 24 0 24 3 := ⟨⟨by decide, (ms_in_t (i := 2) rfl rfl), by decide +kernel, rfl⟩, Or.inl ⟨rfl, rfl, (ms_in_t (i := 606) rfl rfl), (ms_in_t (i := 608) rfl rfl), (ms_in_p (i := 6) rfl rfl), by decide⟩⟩
set_option maxRecDepth 100000 in
theorem ms_cp_2_28 : ms_callP 2 28 0 27 1 := ⟨⟨by decide, (ms_in_t (i := 2) rfl rfl), by decide +kernel, rfl⟩, Or.inl ⟨rfl, rfl, (ms_in_t (i := 611) rfl rfl), (ms_in_t (i := 613) rfl rfl), (ms_in_p (i := 7) rfl rfl), by decide⟩⟩
set_option maxRecDepth 100000 in
theorem ms_cp_2_32 : ms_callP 2 32 0 79 0 := ⟨⟨by decide, (ms_in_t (i := 4) rfl rfl), by decide +kernel, rfl⟩, Or.inl ⟨rfl, rfl, (ms_in_t (i := 624) rfl rfl), (ms_in_t (i := 625) rfl rfl), (ms_in_t (i := 626) rfl rfl), by decide⟩⟩
set_option maxRecDepth 100000 in
theorem ms_cp_2_38 : ms_callP 2 38 0 26 1 := ⟨⟨by decide, (ms_in_t (i := 2) rfl rfl), by decide +kernel, rfl⟩, Or.inl ⟨rfl, rfl, (ms_in_t (i := 629) rfl rfl), (ms_in_t (i := 631) rfl rfl), (ms_in_p (i := 10) rfl rfl), by decide⟩⟩
set_option maxRecDepth 100000 in
theorem ms_cp_2_42 : ms_callP 2 42 0 25 1 := ⟨⟨by decide, (ms_in_t (i := 2) rfl rfl), by decide +kernel, rfl⟩, Or.inl ⟨rfl, rfl, (ms_in_t (i := 634) rfl rfl), (ms_in_t (i := 636) rfl rfl), (ms_in_p (i := 11) rfl rfl), by decide⟩⟩
set_option maxRecDepth 100000 in
theorem ms_cp_2_49 : ms_callP 2 49 0 77 3 := ⟨⟨by decide, (ms_in_t (i := 4) rfl rfl), by decide +kernel, rfl⟩, Or.inl ⟨rfl, rfl, (ms_in_t (i := 610) rfl rfl), (ms_in_t (i := 589) rfl rfl), (ms_in_t (i := 590) rfl rfl), by decide⟩⟩
set_option maxRecDepth 100000 in
theorem ms_cp_2_56 : ms_callP 2 56 0 68 1 := ⟨⟨by decide, (ms_in_t (i := 4) rfl rfl), by decide +kernel, rfl⟩, Or.inl ⟨rfl, rfl, (ms_in_t (i := 633) rfl rfl), (ms_in_t (i := 445) rfl rfl), (ms_in_t (i := 446) rfl rfl), by decide⟩⟩
set_option maxRecDepth 100000 in
theorem ms_cp_2_60 : ms_callP 2 60 0 28 0 := ⟨⟨by decide, (ms_in_t (i := 2) rfl rfl), by decide +kernel, rfl⟩, Or.inl ⟨rfl, rfl, (ms_in_t (i := 615) rfl rfl), (ms_in_t (i := 617) rfl rfl), (ms_in_p (i := 8) rfl rfl), by decide⟩⟩
set_option maxRecDepth 100000 in
theorem ms_cp_2_64 : ms_callP 2 64 0 29 0 := ⟨⟨by decide, (ms_in_t (i := 2) rfl rfl), by decide +kernel, rfl⟩, Or.inl ⟨rfl, rfl, (ms_in_t (i := 619) rfl rfl), (ms_in_t (i := 621) rfl rfl), (ms_in_p (i := 9) rfl rfl), by decide⟩⟩
set_option maxRecDepth 100000 in
theorem ms_cp_3_17 : ms_callP 3 17 2 34 1 := ⟨⟨by decide, (ms_in_t (i := 3) rfl rfl), by decide +kernel, rfl⟩, Or.inr (Or.inr (Or.inl ⟨rfl, rfl, (ms_in_t (i := 170) rfl rfl), (ms_in_t (i := 50) rfl rfl), rfl, rfl, by decide⟩))⟩
set_option maxRecDepth 100000 in
theorem ms_cp_3_24 : ms_callP 3 24 0 35 1 := ⟨⟨by decide, (ms_in_t (i := 3) rfl rfl), by decide +kernel, rfl⟩, Or.inl ⟨rfl, rfl, (ms_in_t (i := 386) rfl rfl), (ms_in_t (i := 254) rfl rfl), (ms_in_t (i := 255) rfl rfl), by decide⟩⟩
set_option maxRecDepth 100000 in
theorem ms_cp_4_11 : ms_callP 4 11 5 65 0 := ⟨⟨by decide, (ms_in_t (i := 4) rfl rfl), by decide +kernel, rfl⟩, Or.inr (Or.inr (Or.inr (Or.inr (Or.inl ⟨rfl, rfl, (ms_in_n (i := 55) rfl rfl), (ms_in_t (i := 56) rfl rfl), rfl, rfl, by decide⟩))))⟩
set_option maxRecDepth 100000 in
theorem ms_cp_4_20 : ms_callP 4 20 5 15 0 := ⟨⟨by decide, (ms_in_t (i := 5) rfl rfl), by decide +kernel, rfl⟩, Or.inr (Or.inr (Or.inr (Or.inr (Or.inl ⟨rfl, rfl, (ms_in_n (i := 102) rfl rfl), (ms_in_t (i := 103) rfl rfl), rfl, rfl, by decide⟩))))⟩
set_option maxRecDepth 100000 in
theorem ms_cp_4_27 : ms_callP 4 27 5 55 0 := ⟨⟨by decide, (ms_in_t (i := 6) rfl rfl), by decide +kernel, rfl⟩, Or.inr (Or.inr (Or.inr (Or.inr (Or.inl ⟨rfl, rfl, (ms_in_n (i := 119) rfl rfl), (ms_in_t (i := 120) rfl rfl), rfl, rfl, by decide⟩))))⟩
set_option maxRecDepth 100000 in
theorem ms_cp_4_43 : ms_callP 4 43 0 66 1 := ⟨⟨by decide, (ms_in_t (i := 4) rfl rfl), by decide +kernel, rfl⟩, Or.inl ⟨rfl, rfl, (ms_in_t (i := 257) rfl rfl), (ms_in_t (i := 258) rfl rfl), (ms_in_t (i := 259) rfl rfl), by decide⟩⟩
set_option maxRecDepth 100000 in
theorem ms_cp_4_47 : ms_callP 4 47 0 16 1 := ⟨⟨by decide, (ms_in_t (i := 5) rfl rfl), by decide +kernel, rfl⟩, Or.inl ⟨rfl, rfl, (ms_in_t (i := 264) rfl rfl), (ms_in_t (i := 265) rfl rfl), (ms_in_t (i := 266) rfl rfl), by decide⟩⟩
set_option maxRecDepth 100000 in
theorem ms_cp_4_50 : ms_callP 4 50 0 56 1 := ⟨⟨by decide, (ms_in_t (i := 6) rfl rfl), by decide +kernel, rfl⟩, Or.inl ⟨rfl, rfl, (ms_in_t (i := 269) rfl rfl), (ms_in_t (i := 270) rfl rfl), (ms_in_t (i := 271) rfl rfl), by decide⟩⟩
set_option maxRecDepth 100000 in
theorem ms_cp_4_64 : ms_callP 4 64 4 115 3 := ⟨⟨by decide, (ms_in_t (i := 1) rfl rfl), by decide +kernel, rfl⟩, Or.inr (Or.inr (Or.inr (Or.inl ⟨rfl, rfl, (ms_in_n (i := 525) rfl rfl), (ms_in_t (i := 288) rfl rfl)⟩)))⟩
set_option maxRecDepth 100000 in
theorem ms_cp_4_68 : ms_callP 4 68 0 69 1 := ⟨⟨by decide, (ms_in_t (i := 4) rfl rfl), by decide +kernel, rfl⟩, Or.inl ⟨rfl, rfl, (ms_in_t (i := 526) rfl rfl), (ms_in_t (i := 456) rfl rfl), (ms_in_t (i := 457) rfl rfl), by decide⟩⟩
set_option maxRecDepth 100000 in
theorem ms_cp_4_73 : ms_callP 4 73 0 74 0 := ⟨⟨by decide, (ms_in_t (i := 4) rfl rfl), by decide +kernel, rfl⟩, Or.inl ⟨rfl, rfl, (ms_in_t (i := 528) rfl rfl), (ms_in_t (i := 529) rfl rfl), (ms_in_t (i := 530) rfl rfl), by decide⟩⟩
set_option maxRecDepth 100000 in
theorem ms_cp_4_78 : ms_callP 4 78 0 78 2 := ⟨⟨by decide, (ms_in_t (i := 4) rfl rfl), by decide +kernel, rfl⟩, Or.inl ⟨rfl, rfl, (ms_in_t (i := 584) rfl rfl), (ms_in_t (i := 585) rfl rfl), (ms_in_t (i := 586) rfl rfl), by decide⟩⟩
set_option maxRecDepth 100000 in
theorem ms_cp_4_82 : ms_callP 4 82 0 38 3 := ⟨⟨by decide, (ms_in_t (i := 3) rfl rfl), by decide +kernel, rfl⟩, Or.inl ⟨rfl, rfl, (ms_in_t (i := 580) rfl rfl), (ms_in_t (i := 581) rfl rfl), (ms_in_t (i := 582) rfl rfl), by decide⟩⟩
set_option maxRecDepth 100000 in
theorem ms_cp_4_86 : ms_callP 4 86 0 53 3 := ⟨⟨by decide, (ms_in_t (i := 3) rfl rfl), by decide +kernel, rfl⟩, Or.inl ⟨rfl, rfl, (ms_in_t (i := 592) rfl rfl), (ms_in_t (i := 594) rfl rfl), (ms_in_p (i := 4) rfl rfl), by decide⟩⟩
set_option maxRecDepth 100000 in
theorem ms_cp_4_90 : ms_callP 4 90 0 54 3 := ⟨⟨by decide, (ms_in_t (i := 3) rfl rfl), by decide +kernel, rfl⟩, Or.inl ⟨rfl, rfl, (ms_in_t (i := 597) rfl rfl), (ms_in_t (i := 599) rfl rfl), (ms_in_p (i := 5) rfl rfl), by decide⟩⟩
set_option maxRecDepth 100000 in
theorem ms_cp_4_93 : ms_callP 4 93 0 23 5 := ⟨⟨by decide, (ms_in_t (i := 2) rfl rfl), by decide +kernel, rfl⟩, Or.inl ⟨rfl, rfl, (ms_in_t (i := 601) rfl rfl), (ms_in_t (i := 602) rfl rfl), (ms_in_t (i := 603) rfl rfl), by decide⟩⟩
set_option maxRecDepth 100000 in
theorem ms_cp_4_102 : ms_callP 4 102 0 80 1 := ⟨⟨by decide, (ms_in_t (i := 4) rfl rfl), by decide +kernel, rfl⟩, Or.inl ⟨rfl, rfl, (ms_in_t (i := 647) rfl rfl), (ms_in_t (i := 648) rfl rfl), (ms_in_t (i := 649) rfl rfl), by decide⟩⟩
set_option maxRecDepth 100000 in
theorem ms_cp_4_106 : ms_callP 4 106 0 81 0 := ⟨⟨by decide, (ms_in_t (i := 4) rfl rfl), by decide +kernel, rfl⟩, Or.inl ⟨rfl, rfl, (ms_in_t (i := 651) rfl rfl), (ms_in_t (i := 652) rfl rfl), (ms_in_t (i := 653) rfl rfl), by decide⟩⟩
set_option maxRecDepth 100000 in
theorem ms_cp_4_109 : ms_callP 4 109 0 17 1 := ⟨⟨by decide, (ms_in_t (i := 5) rfl rfl), by decide +kernel, rfl⟩, Or.inl ⟨rfl, rfl, (ms_in_t (i := 655) rfl rfl), (ms_in_t (i := 656) rfl rfl), (ms_in_t (i := 657) rfl rfl), by decide⟩⟩
set_option maxRecDepth 100000 in
theorem ms_cp_4_113 : ms_callP 4 113 0 18 3 := ⟨⟨by decide, (ms_in_t (i := 5) rfl rfl), by decide +kernel, rfl⟩, Or.inl ⟨rfl, rfl, (ms_in_t (i := 663) rfl rfl), (ms_in_t (i := 664) rfl rfl), (ms_in_t (i := 665) rfl rfl), by decide⟩⟩
set_option maxRecDepth 100000 in
theorem ms_cp_4_117 : ms_callP 4 117 0 61 2 := ⟨⟨by decide, (ms_in_t (i := 6) rfl rfl), by decide +kernel, rfl⟩, Or.inl ⟨rfl, rfl, (ms_in_t (i := 822) rfl rfl), (ms_in_t (i := 778) rfl rfl), (ms_in_t (i := 779) rfl rfl), by decide⟩⟩
set_option maxRecDepth 100000 in
theorem ms_cp_4_120 : ms_callP 4 120 0 42 4 := ⟨⟨by decide, (ms_in_t (i := 3) rfl rfl), by decide +kernel, rfl⟩, Or.inl ⟨rfl, rfl, (ms_in_t (i := 823) rfl rfl), (ms_in_t (i := 719) rfl rfl), (ms_in_t (i := 720) rfl rfl), by decide⟩⟩
set_option maxRecDepth 100000 in
theorem ms_cp_4_124 : ms_callP 4 124 0 43 4 := ⟨⟨by decide, (ms_in_t (i := 3) rfl rfl), by decide +kernel, rfl⟩, Or.inl ⟨rfl, rfl, (ms_in_t (i := 828) rfl rfl), (ms_in_t (i := 723) rfl rfl), (ms_in_t (i := 724) rfl rfl), by decide⟩⟩
set_option maxRecDepth 100000 in
theorem ms_cp_4_128 : ms_callP 4 128 0 62 3 := ⟨⟨by decide, (ms_in_t (i := 6) rfl rfl), by decide +kernel, rfl⟩, Or.inl ⟨rfl, rfl, (ms_in_t (i := 829) rfl rfl), (ms_in_t (i := 753) rfl rfl), (ms_in_t (i := 754) rfl rfl), by decide⟩⟩
set_option maxRecDepth 100000 in
theorem ms_cp_4_129 : ms_callP 4 129 0 47 3 := ⟨⟨by decide, (ms_in_t (i := 3) rfl rfl), by decide +kernel, rfl⟩, Or.inl ⟨rfl, rfl, (ms_in_t (i := 797) rfl rfl), (ms_in_t (i := 798) rfl rfl), (ms_in_t (i := 799) rfl rfl), by decide⟩⟩
set_option maxRecDepth 100000 in
theorem ms_cp_4_132 : ms_callP 4 132 0 48 3 := ⟨⟨by decide, (ms_in_t (i := 3) rfl rfl), by decide +kernel, rfl⟩, Or.inl ⟨rfl, rfl, (ms_in_t (i := 810) rfl rfl), (ms_in_t (i := 811) rfl rfl), (ms_in_t (i := 812) rfl rfl), by decide⟩⟩
set_option maxRecDepth 100000 in
theorem ms_cp_4_135 : ms_callP 4 135 0 73 0 := ⟨⟨by decide, (ms_in_t (i := 4) rfl rfl), by decide +kernel, rfl⟩, Or.inl ⟨rfl, rfl, (ms_in_t (i := 814) rfl rfl), (ms_in_t (i := 815) rfl rfl), (ms_in_t (i := 816) rfl rfl), by decide⟩⟩
set_option maxRecDepth 100000 in
theorem ms_cp_4_138 : ms_callP 4 138 0 51 3 := ⟨⟨by decide, (ms_in_t (i := 3) rfl rfl), by decide +kernel, rfl⟩, Or.inl ⟨rfl, rfl, (ms_in_t (i := 801) rfl rfl), (ms_in_t (i := 803) rfl rfl), (ms_in_p (i := 14) rfl rfl), by decide⟩⟩
set_option maxRecDepth 100000 in
theorem ms_cp_4_144 : ms_callP 4 144 0 52 3 := ⟨⟨by decide, (ms_in_t (i := 3) rfl rfl), by decide +kernel, rfl⟩, Or.inl ⟨rfl, rfl, (ms_in_t (i := 805) rfl rfl), (ms_in_t (i := 807) rfl rfl), (ms_in_p (i := 15) rfl rfl), by decide⟩⟩
set_option maxRecDepth 100000 in
theorem ms_cp_4_150 : ms_callP 4 150 0 59 1 := ⟨⟨by decide, (ms_in_t (i := 6) rfl rfl), by decide +kernel, rfl⟩, Or.inl ⟨rfl, rfl, (ms_in_t (i := 850) rfl rfl), (ms_in_t (i := 769) rfl rfl), (ms_in_t (i := 770) rfl rfl), by decide⟩⟩
set_option maxRecDepth 100000 in
theorem ms_cp_4_154 : ms_callP 4 154 0 46 2 := ⟨⟨by decide, (ms_in_t (i := 3) rfl rfl), by decide +kernel, rfl⟩, Or.inl ⟨rfl, rfl, (ms_in_t (i := 851) rfl rfl), (ms_in_t (i := 794) rfl rfl), (ms_in_t (i := 795) rfl rfl), by decide⟩⟩
set_option maxRecDepth 100000 in
theorem ms_cp_4_158 : ms_callP 4 158 0 63 2 := ⟨⟨by decide, (ms_in_t (i := 6) rfl rfl), by decide +kernel, rfl⟩, Or.inl ⟨rfl, rfl, (ms_in_t (i := 809) rfl rfl), (ms_in_t (i := 782) rfl rfl), (ms_in_t (i := 783) rfl rfl), by decide⟩⟩
set_option maxRecDepth 100000 in
theorem ms_cp_4_170 : ms_callP 4 170 0 75 0 := ⟨⟨by decide, (ms_in_t (i := 4) rfl rfl), by decide +kernel, rfl⟩, Or.inl ⟨rfl, rfl, (ms_in_t (i := 639) rfl rfl), (ms_in_t (i := 640) rfl rfl), (ms_in_t (i := 641) rfl rfl), by decide⟩⟩
set_option maxRecDepth 100000 in
theorem ms_cp_5_28 : ms_callP 5 28 0 62 3 := ⟨⟨by decide, (ms_in_t (i := 6) rfl rfl), by decide +kernel, rfl⟩, Or.inl ⟨rfl, rfl, (ms_in_t (i := 752) rfl rfl), (ms_in_t (i := 753) rfl rfl), (ms_in_t (i := 754) rfl rfl), by decide⟩⟩
set_option maxRecDepth 100000 in
theorem ms_cp_5_32 : ms_callP 5 32 0 64 3 := ⟨⟨by decide, (ms_in_t (i := 6) rfl rfl), by decide +kernel, rfl⟩, Or.inl ⟨rfl, rfl, (ms_in_t (i := 756) rfl rfl), (ms_in_t (i := 757) rfl rfl), (ms_in_t (i := 758) rfl rfl), by decide⟩⟩
set_option maxRecDepth 100000 in
theorem ms_cp_5_35 : ms_callP 5 35 4 115 3 := ⟨⟨by decide, (ms_in_t (i := 1) rfl rfl), by decide +kernel, rfl⟩, Or.inr (Or.inr (Or.inr (Or.inl ⟨rfl, rfl, (ms_in_n (i := 776) rfl rfl), (ms_in_t (i := 288) rfl rfl)⟩)))⟩
set_option maxRecDepth 100000 in
theorem ms_cp_5_39 : ms_callP 5 39 0 58 1 := ⟨⟨by decide, (ms_in_t (i := 6) rfl rfl), by decide +kernel, rfl⟩, Or.inl ⟨rfl, rfl, (ms_in_t (i := 772) rfl rfl), (ms_in_t (i := 773) rfl rfl), (ms_in_t (i := 774) rfl rfl), by decide⟩⟩
set_option maxRecDepth 100000 in
theorem ms_cp_5_43 : ms_callP 5 43 0 61 2 := ⟨⟨by decide, (ms_in_t (i := 6) rfl rfl), by decide +kernel, rfl⟩, Or.inl ⟨rfl, rfl, (ms_in_t (i := 777) rfl rfl), (ms_in_t (i := 778) rfl rfl), (ms_in_t (i := 779) rfl rfl), by decide⟩⟩
set_option maxRecDepth 100000 in
theorem ms_cp_5_47 : ms_callP 5 47 0 59 1 := ⟨⟨by decide, (ms_in_t (i := 6) rfl rfl), by decide +kernel, rfl⟩, Or.inl ⟨rfl, rfl, (ms_in_t (i := 967) rfl rfl), (ms_in_t (i := 769) rfl rfl), (ms_in_t (i := 770) rfl rfl), by decide⟩⟩
set_option maxRecDepth 100000 in
theorem ms_cp_6_46 : ms_callP 6 46 0 69 1 := ⟨⟨by decide, (ms_in_t (i := 4) rfl rfl), by decide +kernel, rfl⟩, Or.inl ⟨rfl, rfl, (ms_in_t (i := 471) rfl rfl), (ms_in_t (i := 456) rfl rfl), (ms_in_t (i := 457) rfl rfl), by decide⟩⟩
set_option maxRecDepth 100000 in
theorem ms_cp_6_50 : ms_callP 6 50 0 83 1 := ⟨⟨by decide, (ms_in_t (i := 4) rfl rfl), by decide +kernel, rfl⟩, Or.inl ⟨rfl, rfl, (ms_in_t (i := 532) rfl rfl), (ms_in_t (i := 534) rfl rfl), (ms_in_p (i := 2) rfl rfl), by decide⟩⟩
set_option maxRecDepth 100000 in
theorem ms_cp_6_54 : ms_callP 6 54 0 82 1 := ⟨⟨by decide, (ms_in_t (i := 4) rfl rfl), by decide +kernel, rfl⟩, Or.inl ⟨rfl, rfl, (ms_in_t (i := 959) rfl rfl), (ms_in_t (i := 961) rfl rfl), (ms_in_p (i := 26) rfl rfl), by decide⟩⟩
set_option maxRecDepth 100000 in
theorem ms_cp_6_58 : ms_callP 6 58 0 77 3 := ⟨⟨by decide, (ms_in_t (i := 4) rfl rfl), by decide +kernel, rfl⟩, Or.inl ⟨rfl, rfl, (ms_in_t (i := 588) rfl rfl), (ms_in_t (i := 589) rfl rfl), (ms_in_t (i := 590) rfl rfl), by decide⟩⟩
set_option maxRecDepth 100000 in
theorem ms_cp_6_62 : ms_callP 6 62 0 68 1 := ⟨⟨by decide, (ms_in_t (i := 4) rfl rfl), by decide +kernel, rfl⟩, Or.inl ⟨rfl, rfl, (ms_in_t (i := 628) rfl rfl), (ms_in_t (i := 445) rfl rfl), (ms_in_t (i := 446) rfl rfl), by decide⟩⟩
set_option maxRecDepth 100000 in
theorem ms_cp_7_9 : ms_callP 7 9 5 22 0 := ⟨⟨by decide, (ms_in_t (i := 2) rfl rfl), by decide +kernel, rfl⟩, Or.inr (Or.inr (Or.inr (Or.inr (Or.inl ⟨rfl, rfl, (ms_in_n (i := 30) rfl rfl), (ms_in_t (i := 31) rfl rfl), rfl, rfl, by decide⟩))))⟩
set_option maxRecDepth 100000 in
theorem ms_cp_7_12 : ms_callP 7 12 2 34 1 := ⟨⟨by decide, (ms_in_t (i := 3) rfl rfl), by decide +kernel, rfl⟩, Or.inr (Or.inr (Or.inl ⟨rfl, rfl, (ms_in_t (i := 49) rfl rfl), (ms_in_t (i := 50) rfl rfl), rfl, rfl, by decide⟩))⟩
set_option maxRecDepth 100000 in
theorem ms_cp_7_29 : ms_callP 7 29 2 30 1 := ⟨⟨by decide, (ms_in_t (i := 7) rfl rfl), by decide +kernel, rfl⟩, Or.inr (Or.inr (Or.inl ⟨rfl, rfl, (ms_in_t (i := 164) rfl rfl), (ms_in_t (i := 165) rfl rfl), rfl, rfl, by decide⟩))⟩
set_option maxRecDepth 100000 in
theorem ms_cp_7_36 : ms_callP 7 36 5 0 0 := ⟨⟨by decide, (ms_in_t (i := 8) rfl rfl), by decide +kernel, rfl⟩, Or.inr (Or.inr (Or.inr (Or.inr (Or.inl ⟨rfl, rfl, (ms_in_n (i := 184) rfl rfl), (ms_in_t (i := 185) rfl rfl), rfl, rfl, by decide⟩))))⟩
set_option maxRecDepth 100000 in
theorem ms_cp_7_48 : ms_callP 7 48 1 116 1 := ⟨⟨by decide, (ms_in_t (i := 1) rfl rfl), by decide +kernel, rfl⟩, Or.inr (Or.inl ⟨rfl, rfl, (ms_in_t (i := 284) rfl rfl), (ms_in_t (i := 285) rfl rfl), rfl⟩)⟩
set_option maxRecDepth 100000 in
theorem ms_cp_7_52 : ms_callP 7 52 1 117 1 := ⟨⟨by decide, (ms_in_t (i := 1) rfl rfl), by decide +kernel, rfl⟩, Or.inr (Or.inl ⟨rfl, rfl, (ms_in_t (i := 290) rfl rfl), (ms_in_t (i := 291) rfl rfl), rfl⟩)⟩
set_option maxRecDepth 100000 in
theorem ms_cp_7_55 : ms_callP 7 55 1 115 3 := ⟨⟨by decide, (ms_in_t (i := 1) rfl rfl), by decide +kernel, rfl⟩, Or.inr (Or.inl ⟨rfl, rfl, (ms_in_t (i := 287) rfl rfl), (ms_in_t (i := 288) rfl rfl), rfl⟩)⟩
set_option maxRecDepth 100000 in
theorem ms_cp_7_59 : ms_callP 7 59 1 118 1 := ⟨⟨by decide, (ms_in_t (i := 1) rfl rfl), by decide +kernel, rfl⟩, Or.inr (Or.inl ⟨rfl, rfl, (ms_in_t (i := 293) rfl rfl), (ms_in_t (i := 294) rfl rfl), rfl⟩)⟩
set_option maxRecDepth 100000 in
theorem ms_cp_7_83 : ms_callP 7 83 0 31 1 := ⟨⟨by decide, (ms_in_t (i := 7) rfl rfl), by decide +kernel, rfl⟩, Or.inl ⟨rfl, rfl, (ms_in_t (i := 382) rfl rfl), (ms_in_t (i := 383) rfl rfl), (ms_in_t (i := 384) rfl rfl), by decide⟩⟩
set_option maxRecDepth 100000 in
theorem ms_cp_7_87 : ms_callP 7 87 0 67 4 := ⟨⟨by decide, (ms_in_t (i := 4) rfl rfl), by decide +kernel, rfl⟩, Or.inl ⟨rfl, rfl, (ms_in_t (i := 390) rfl rfl), (ms_in_t (i := 391) rfl rfl), (ms_in_t (i := 392) rfl rfl), by decide⟩⟩
set_option maxRecDepth 100000 in
theorem ms_cp_7_91 : ms_callP 7 91 0 123 1 := ⟨⟨by decide, (ms_in_t (i := 1) rfl rfl), by decide +kernel, rfl⟩, Or.inl ⟨rfl, rfl, (ms_in_t (i := 402) rfl rfl), (ms_in_t (i := 404) rfl rfl), (ms_in_p (i := 1) rfl rfl), by decide⟩⟩
set_option maxRecDepth 100000 in
theorem ms_cp_7_95 : ms_callP 7 95 1 120 1 := ⟨⟨by decide, (ms_in_t (i := 1) rfl rfl), by decide +kernel, rfl⟩, Or.inr (Or.inl ⟨rfl, rfl, (ms_in_t (i := 422) rfl rfl), (ms_in_t (i := 423) rfl rfl), rfl⟩)⟩
set_option maxRecDepth 100000 in
theorem ms_cp_7_118 : ms_callP 7 118 0 68 1 := ⟨⟨by decide, (ms_in_t (i := 4) rfl rfl), by decide +kernel, rfl⟩, Or.inl ⟨rfl, rfl, (ms_in_t (i := 444) rfl rfl), (ms_in_t (i := 445) rfl rfl), (ms_in_t (i := 446) rfl rfl), by decide⟩⟩
set_option maxRecDepth 100000 in
theorem ms_cp_7_131 : ms_callP 7 131 0 69 1 := ⟨⟨by decide, (ms_in_t (i := 4) rfl rfl), by decide +kernel, rfl⟩, Or.inl ⟨rfl, rfl, (ms_in_t (i := 455) rfl rfl), (ms_in_t (i := 456) rfl rfl), (ms_in_t (i := 457) rfl rfl), by decide⟩⟩
set_option maxRecDepth 100000 in
theorem ms_cp_7_142 : ms_callP 7 142 0 70 1 := ⟨⟨by decide, (ms_in_t (i := 4) rfl rfl), by decide +kernel, rfl⟩, Or.inl ⟨rfl, rfl, (ms_in_t (i := 467) rfl rfl), (ms_in_t (i := 468) rfl rfl), (ms_in_t (i := 469) rfl rfl), by decide⟩⟩
set_option maxRecDepth 100000 in
theorem ms_cp_7_150 : ms_callP 7 150 0 71 0 := ⟨⟨by decide, (ms_in_t (i := 4) rfl rfl), by decide +kernel, rfl⟩, Or.inl ⟨rfl, rfl, (ms_in_t (i := 496) rfl rfl), (ms_in_t (i := 497) rfl rfl), (ms_in_t (i := 498) rfl rfl), by decide⟩⟩
set_option maxRecDepth 100000 in
theorem ms_cp_7_156 : ms_callP 7 156 0 72 2 := ⟨⟨by decide, (ms_in_t (i := 4) rfl rfl), by decide +kernel, rfl⟩, Or.inl ⟨rfl, rfl, (ms_in_t (i := 508) rfl rfl), (ms_in_t (i := 509) rfl rfl), (ms_in_t (i := 510) rfl rfl), by decide⟩⟩
set_option maxRecDepth 100000 in
theorem ms_cp_7_160 : ms_callP 7 160 0 37 2 := ⟨⟨by decide, (ms_in_t (i := 3) rfl rfl), by decide +kernel, rfl⟩, Or.inl ⟨rfl, rfl, (ms_in_t (i := 520) rfl rfl), (ms_in_t (i := 521) rfl rfl), (ms_in_t (i := 522) rfl rfl), by decide⟩⟩
set_option maxRecDepth 100000 in
theorem ms_cp_7_163 : ms_callP 7 163 0 126 1 := ⟨⟨by decide, (ms_in_t (i := 1) rfl rfl), by decide +kernel, rfl⟩, Or.inl ⟨rfl, rfl, (ms_in_t (i := 537) rfl rfl), (ms_in_t (i := 539) rfl rfl), (ms_in_p (i := 3) rfl rfl), by decide⟩⟩
set_option maxRecDepth 100000 in
theorem ms_cp_7_166 : ms_callP 7 166 1 121 3 := ⟨⟨by decide, (ms_in_t (i := 1) rfl rfl), by decide +kernel, rfl⟩, Or.inr (Or.inl ⟨rfl, rfl, (ms_in_t (i := 564) rfl rfl), (ms_in_t (i := 565) rfl rfl), rfl⟩)⟩
set_option maxRecDepth 100000 in
theorem ms_cp_7_170 : ms_callP 7 170 1 122 1 := ⟨⟨by decide, (ms_in_t (i := 1) rfl rfl), by decide +kernel, rfl⟩, Or.inr (Or.inl ⟨rfl, rfl, (ms_in_t (i := 572) rfl rfl), (ms_in_t (i := 573) rfl rfl), rfl⟩)⟩
set_option maxRecDepth 100000 in
theorem ms_cp_7_173 : ms_callP 7 173 0 39 5 := ⟨⟨by decide, (ms_in_t (i := 3) rfl rfl), by decide +kernel, rfl⟩, Or.inl ⟨rfl, rfl, (ms_in_t (i := 576) rfl rfl), (ms_in_t (i := 577) rfl rfl), (ms_in_t (i := 578) rfl rfl), by decide⟩⟩
set_option maxRecDepth 100000 in
theorem ms_cp_7_177 : ms_callP 7 177 0 40 5 := ⟨⟨by decide, (ms_in_t (i := 3) rfl rfl), by decide +kernel, rfl⟩, Or.inl ⟨rfl, rfl, (ms_in_t (i := 643) rfl rfl), (ms_in_t (i := 644) rfl rfl), (ms_in_t (i := 645) rfl rfl), by decide⟩⟩
set_option maxRecDepth 100000 in
theorem ms_cp_7_180 : ms_callP 7 180 0 124 1 := ⟨⟨by decide, (ms_in_t (i := 1) rfl rfl), by decide +kernel, rfl⟩, Or.inl ⟨rfl, rfl, (ms_in_t (i := 674) rfl rfl), (ms_in_t (i := 676) rfl rfl), (ms_in_p (i := 13) rfl rfl), by decide⟩⟩
set_option maxRecDepth 100000 in
theorem ms_cp_7_191 : ms_callP 7 191 0 19 2 := ⟨⟨by decide, (ms_in_t (i := 5) rfl rfl), by decide +kernel, rfl⟩, Or.inl ⟨rfl, rfl, (ms_in_t (i := 680) rfl rfl), (ms_in_t (i := 681) rfl rfl), (ms_in_t (i := 682) rfl rfl), by decide⟩⟩
set_option maxRecDepth 100000 in
theorem ms_cp_7_194 : ms_callP 7 194 0 20 2 := ⟨⟨by decide, (ms_in_t (i := 5) rfl rfl), by decide +kernel, rfl⟩, Or.inl ⟨rfl, rfl, (ms_in_t (i := 691) rfl rfl), (ms_in_t (i := 692) rfl rfl), (ms_in_t (i := 693) rfl rfl), by decide⟩⟩
set_option maxRecDepth 100000 in
theorem ms_cp_7_200 : ms_callP 7 200 0 78 2 := ⟨⟨by decide, (ms_in_t (i := 4) rfl rfl), by decide +kernel, rfl⟩, Or.inl ⟨rfl, rfl, (ms_in_t (i := 704) rfl rfl), (ms_in_t (i := 585) rfl rfl), (ms_in_t (i := 586) rfl rfl), by decide⟩⟩
set_option maxRecDepth 100000 in
theorem ms_cp_7_205 : ms_callP 7 205 0 41 4 := ⟨⟨by decide, (ms_in_t (i := 3) rfl rfl), by decide +kernel, rfl⟩, Or.inl ⟨rfl, rfl, (ms_in_t (i := 706) rfl rfl), (ms_in_t (i := 707) rfl rfl), (ms_in_t (i := 708) rfl rfl), by decide⟩⟩
set_option maxRecDepth 100000 in
theorem ms_cp_7_208 : ms_callP 7 208 0 38 3 := ⟨⟨by decide, (ms_in_t (i := 3) rfl rfl), by decide +kernel, rfl⟩, Or.inl ⟨rfl, rfl, (ms_in_t (i := 717) rfl rfl), (ms_in_t (i := 581) rfl rfl), (ms_in_t (i := 582) rfl rfl), by decide⟩⟩
set_option maxRecDepth 100000 in
theorem ms_cp_7_212 : ms_callP 7 212 0 42 4 := ⟨⟨by decide, (ms_in_t (i := 3) rfl rfl), by decide +kernel, rfl⟩, Or.inl ⟨rfl, rfl, (ms_in_t (i := 718) rfl rfl), (ms_in_t (i := 719) rfl rfl), (ms_in_t (i := 720) rfl rfl), by decide⟩⟩
set_option maxRecDepth 100000 in
theorem ms_cp_7_215 : ms_callP 7 215 0 43 4 := ⟨⟨by decide, (ms_in_t (i := 3) rfl rfl), by decide +kernel, rfl⟩, Or.inl ⟨rfl, rfl, (ms_in_t (i := 722) rfl rfl), (ms_in_t (i := 723) rfl rfl), (ms_in_t (i := 724) rfl rfl), by decide⟩⟩
set_option maxRecDepth 100000 in
theorem ms_cp_7_231 : ms_callP 7 231 0 57 4 := ⟨⟨by decide, (ms_in_t (i := 6) rfl rfl), by decide +kernel, rfl⟩, Or.inl ⟨rfl, rfl, (ms_in_t (i := 748) rfl rfl), (ms_in_t (i := 749) rfl rfl), (ms_in_t (i := 750) rfl rfl), by decide⟩⟩
set_option maxRecDepth 100000 in
theorem ms_cp_7_234 : ms_callP 7 234 0 59 1 := ⟨⟨by decide, (ms_in_t (i := 6) rfl rfl), by decide +kernel, rfl⟩, Or.inl ⟨rfl, rfl, (ms_in_t (i := 768) rfl rfl), (ms_in_t (i := 769) rfl rfl), (ms_in_t (i := 770) rfl rfl), by decide⟩⟩
set_option maxRecDepth 100000 in
theorem ms_cp_7_237 : ms_callP 7 237 0 63 2 := ⟨⟨by decide, (ms_in_t (i := 6) rfl rfl), by decide +kernel, rfl⟩, Or.inl ⟨rfl, rfl, (ms_in_t (i := 781) rfl rfl), (ms_in_t (i := 782) rfl rfl), (ms_in_t (i := 783) rfl rfl), by decide⟩⟩
set_option maxRecDepth 100000 in
theorem ms_cp_7_240 : ms_callP 7 240 0 64 3 := ⟨⟨by decide, (ms_in_t (i := 6) rfl rfl), by decide +kernel, rfl⟩, Or.inl ⟨rfl, rfl, (ms_in_t (i := 785) rfl rfl), (ms_in_t (i := 757) rfl rfl), (ms_in_t (i := 758) rfl rfl), by decide⟩⟩
set_option maxRecDepth 100000 in
theorem ms_cp_7_243 : ms_callP 7 243 0 46 2 := ⟨⟨by decide, (ms_in_t (i := 3) rfl rfl), by decide +kernel, rfl⟩, Or.inl ⟨rfl, rfl, (ms_in_t (i := 793) rfl rfl), (ms_in_t (i := 794) rfl rfl), (ms_in_t (i := 795) rfl rfl), by decide⟩⟩
set_option maxRecDepth 100000 in
theorem ms_cp_7_247 : ms_callP 7 247 0 44 1 := ⟨⟨by decide, (ms_in_t (i := 3) rfl rfl), by decide +kernel, rfl⟩, Or.inl ⟨rfl, rfl, (ms_in_t (i := 818) rfl rfl), (ms_in_t (i := 819) rfl rfl), (ms_in_t (i := 820) rfl rfl), by decide⟩⟩
set_option maxRecDepth 100000 in
theorem ms_cp_7_250 : ms_callP 7 250 0 45 2 := ⟨⟨by decide, (ms_in_t (i := 3) rfl rfl), by decide +kernel, rfl⟩, Or.inl ⟨rfl, rfl, (ms_in_t (i := 824) rfl rfl), (ms_in_t (i := 825) rfl rfl), (ms_in_t (i := 826) rfl rfl), by decide⟩⟩
set_option maxRecDepth 100000 in
theorem ms_cp_7_254 : ms_callP 7 254 0 125 1 := ⟨⟨by decide, (ms_in_t (i := 1) rfl rfl), by decide +kernel, rfl⟩, Or.inl ⟨rfl, rfl, (ms_in_t (i := 837) rfl rfl), (ms_in_t (i := 839) rfl rfl), (ms_in_p (i := 16) rfl rfl), by decide⟩⟩
set_option maxRecDepth 100000 in
theorem ms_cp_7_257 : ms_callP 7 257 0 61 2 := ⟨⟨by decide, (ms_in_t (i := 6) rfl rfl), by decide +kernel, rfl⟩, Or.inl ⟨rfl, rfl, (ms_in_t (i := 843) rfl rfl), (ms_in_t (i := 778) rfl rfl), (ms_in_t (i := 779) rfl rfl), by decide⟩⟩
set_option maxRecDepth 100000 in
theorem ms_cp_7_258 : ms_callP 7 258 0 47 3 := ⟨⟨by decide, (ms_in_t (i := 3) rfl rfl), by decide +kernel, rfl⟩, Or.inl ⟨rfl, rfl, (ms_in_t (i := 844) rfl rfl), (ms_in_t (i := 798) rfl rfl), (ms_in_t (i := 799) rfl rfl), by decide⟩⟩
set_option maxRecDepth 100000 in
theorem ms_cp_7_261 : ms_callP 7 261 0 48 3 := ⟨⟨by decide, (ms_in_t (i := 3) rfl rfl), by decide +kernel, rfl⟩, Or.inl ⟨rfl, rfl, (ms_in_t (i := 845) rfl rfl), (ms_in_t (i := 811) rfl rfl), (ms_in_t (i := 812) rfl rfl), by decide⟩⟩
set_option maxRecDepth 100000 in
theorem ms_cp_7_264 : ms_callP 7 264 0 49 1 := ⟨⟨by decide, (ms_in_t (i := 3) rfl rfl), by decide +kernel, rfl⟩, Or.inl ⟨rfl, rfl, (ms_in_t (i := 846) rfl rfl), (ms_in_t (i := 847) rfl rfl), (ms_in_t (i := 848) rfl rfl), by decide⟩⟩
set_option maxRecDepth 100000 in
theorem ms_cp_7_271 : ms_callP 7 271 0 50 2 := ⟨⟨by decide, (ms_in_t (i := 3) rfl rfl), by decide +kernel, rfl⟩, Or.inl ⟨rfl, rfl, (ms_in_t (i := 868) rfl rfl), (ms_in_t (i := 869) rfl rfl), (ms_in_t (i := 870) rfl rfl), by decide⟩⟩
set_option maxRecDepth 100000 in
theorem ms_cp_7_281 : ms_callP 7 281 0 1 1 := ⟨⟨by decide, (ms_in_t (i := 8) rfl rfl), by decide +kernel, rfl⟩, Or.inl ⟨rfl, rfl, (ms_in_t (i := 881) rfl rfl), (ms_in_t (i := 882) rfl rfl), (ms_in_t (i := 883) rfl rfl), by decide⟩⟩
set_option maxRecDepth 100000 in
theorem ms_cp_7_285 : ms_callP 7 285 0 4 0 := ⟨⟨by decide, (ms_in_t (i := 8) rfl rfl), by decide +kernel, rfl⟩, Or.inl ⟨rfl, rfl, (ms_in_t (i := 892) rfl rfl), (ms_in_t (i := 893) rfl rfl), (ms_in_t (i := 894) rfl rfl), by decide⟩⟩
set_option maxRecDepth 100000 in
theorem ms_cp_7_288 : ms_callP 7 288 0 2 0 := ⟨⟨by decide, (ms_in_t (i := 8) rfl rfl), by decide +kernel, rfl⟩, Or.inl ⟨rfl, rfl, (ms_in_t (i := 940) rfl rfl), (ms_in_t (i := 941) rfl rfl), (ms_in_t (i := 942) rfl rfl), by decide⟩⟩
set_option maxRecDepth 100000 in
theorem ms_cp_7_293 : ms_callP 7 293 0 35 1 := ⟨⟨by decide, (ms_in_t (i := 3) rfl rfl), by decide +kernel, rfl⟩, Or.inl ⟨rfl, rfl, (ms_in_t (i := 253) rfl rfl), (ms_in_t (i := 254) rfl rfl), (ms_in_t (i := 255) rfl rfl), by decide⟩⟩
set_option maxRecDepth 100000 in
theorem ms_cp_7_296 : ms_callP 7 296 0 3 0 := ⟨⟨by decide, (ms_in_t (i := 8) rfl rfl), by decide +kernel, rfl⟩, Or.inl ⟨rfl, rfl, (ms_in_t (i := 945) rfl rfl), (ms_in_t (i := 897) rfl rfl), (ms_in_t (i := 898) rfl rfl), by decide⟩⟩
set_option maxRecDepth 100000 in
theorem ms_cp_7_299 : ms_callP 7 299 0 5 0 := ⟨⟨by decide, (ms_in_t (i := 8) rfl rfl), by decide +kernel, rfl⟩, Or.inl ⟨rfl, rfl, (ms_in_t (i := 946) rfl rfl), (ms_in_t (i := 901) rfl rfl), (ms_in_t (i := 902) rfl rfl), by decide⟩⟩
set_option maxRecDepth 100000 in
theorem ms_cp_7_319 : ms_callP 7 319 0 73 0 := ⟨⟨by decide, (ms_in_t (i := 4) rfl rfl), by decide +kernel, rfl⟩, Or.inl ⟨rfl, rfl, (ms_in_t (i := 954) rfl rfl), (ms_in_t (i := 815) rfl rfl), (ms_in_t (i := 816) rfl rfl), by decide⟩⟩
set_option maxRecDepth 100000 in
theorem ms_cp_7_322 : ms_callP 7 322 0 76 0 := ⟨⟨by decide, (ms_in_t (i := 4) rfl rfl), by decide +kernel, rfl⟩, Or.inl ⟨rfl, rfl, (ms_in_t (i := 955) rfl rfl), (ms_in_t (i := 956) rfl rfl), (ms_in_t (i := 957) rfl rfl), by decide⟩⟩
set_option maxRecDepth 100000 in
theorem ms_cp_7_326 : ms_callP 7 326 0 60 0 := ⟨⟨by decide, (ms_in_t (i := 6) rfl rfl), by decide +kernel, rfl⟩, Or.inl ⟨rfl, rfl, (ms_in_t (i := 963) rfl rfl), (ms_in_t (i := 964) rfl rfl), (ms_in_t (i := 965) rfl rfl), by decide⟩⟩
set_option maxRecDepth 100000 in
theorem ms_cp_7_329 : ms_callP 7 329 0 74 0 := ⟨⟨by decide, (ms_in_t (i := 4) rfl rfl), by decide +kernel, rfl⟩, Or.inl ⟨rfl, rfl, (ms_in_t (i := 968) rfl rfl), (ms_in_t (i := 529) rfl rfl), (ms_in_t (i := 530) rfl rfl), by decide⟩⟩
set_option maxRecDepth 100000 in
theorem ms_cp_7_332 : ms_callP 7 332 0 75 0 := ⟨⟨by decide, (ms_in_t (i := 4) rfl rfl), by decide +kernel, rfl⟩, Or.inl ⟨rfl, rfl, (ms_in_t (i := 969) rfl rfl), (ms_in_t (i := 640) rfl rfl), (ms_in_t (i := 641) rfl rfl), by decide⟩⟩
set_option maxRecDepth 100000 in
theorem ms_cp_7_335 : ms_callP 7 335 0 36 0 := ⟨⟨by decide, (ms_in_t (i := 3) rfl rfl), by decide +kernel, rfl⟩, Or.inl ⟨rfl, rfl, (ms_in_t (i := 970) rfl rfl), (ms_in_t (i := 971) rfl rfl), (ms_in_t (i := 972) rfl rfl), by decide⟩⟩
set_option maxRecDepth 100000 in
theorem ms_cp_7_348 : ms_callP 7 348 0 32 1 := ⟨⟨by decide, (ms_in_t (i := 7) rfl rfl), by decide +kernel, rfl⟩, Or.inl ⟨rfl, rfl, (ms_in_t (i := 990) rfl rfl), (ms_in_t (i := 991) rfl rfl), (ms_in_t (i := 992) rfl rfl), by decide⟩⟩
set_option maxRecDepth 100000 in
theorem ms_cp_7_356 : ms_callP 7 356 0 33 0 := ⟨⟨by decide, (ms_in_t (i := 7) rfl rfl), by decide +kernel, rfl⟩, Or.inl ⟨rfl, rfl, (ms_in_t (i := 1002) rfl rfl), (ms_in_t (i := 1003) rfl rfl), (ms_in_t (i := 1004) rfl rfl), by decide⟩⟩
set_option maxRecDepth 100000 in
theorem ms_cp_7_363 : ms_callP 7 363 1 119 2 := ⟨⟨by decide, (ms_in_t (i := 1) rfl rfl), by decide +kernel, rfl⟩, Or.inr (Or.inl ⟨rfl, rfl, (ms_in_t (i := 568) rfl rfl), (ms_in_t (i := 569) rfl rfl), rfl⟩)⟩
set_option maxRecDepth 100000 in
theorem ms_cp_7_374 : ms_callP 7 374 0 58 1 := ⟨⟨by decide, (ms_in_t (i := 6) rfl rfl), by decide +kernel, rfl⟩, Or.inl ⟨rfl, rfl, (ms_in_t (i := 841) rfl rfl), (ms_in_t (i := 773) rfl rfl), (ms_in_t (i := 774) rfl rfl), by decide⟩⟩
set_option maxRecDepth 100000 in
theorem ms_cp_8_48 : ms_callP 8 48 0 129 1 := ⟨⟨by decide, (ms_in_t (i := 9) rfl rfl), by decide +kernel, rfl⟩, Or.inl ⟨rfl, rfl, (ms_in_t (i := 1153) rfl rfl), (ms_in_t (i := 1155) rfl rfl), (ms_in_p (i := 33) rfl rfl), by decide⟩⟩
set_option maxRecDepth 100000 in
theorem ms_cp_8_52 : ms_callP 8 52 1 131 3 := ⟨⟨by decide, (ms_in_t (i := 9) rfl rfl), by decide +kernel, rfl⟩, Or.inr (Or.inl ⟨rfl, rfl, (ms_in_t (i := 1087) rfl rfl), (ms_in_t (i := 1088) rfl rfl), rfl⟩)⟩
set_option maxRecDepth 100000 in
theorem ms_cp_8_56 : ms_callP 8 56 1 133 2 := ⟨⟨by decide, (ms_in_t (i := 9) rfl rfl), by decide +kernel, rfl⟩, Or.inr (Or.inl ⟨rfl, rfl, (ms_in_t (i := 1094) rfl rfl), (ms_in_t (i := 1095) rfl rfl), rfl⟩)⟩
set_option maxRecDepth 100000 in
theorem ms_cp_8_63 : ms_callP 8 63 1 136 4 := ⟨⟨by decide, (ms_in_t (i := 9) rfl rfl), by decide +kernel, rfl⟩, Or.inr (Or.inl ⟨rfl, rfl, (ms_in_t (i := 1072) rfl rfl), (ms_in_t (i := 1073) rfl rfl), rfl⟩)⟩
set_option maxRecDepth 100000 in
theorem ms_cp_8_71 : ms_callP 8 71 0 137 1 := ⟨⟨by decide, (ms_in_t (i := 9) rfl rfl), by decide +kernel, rfl⟩, Or.inl ⟨rfl, rfl, (ms_in_t (i := 1090) rfl rfl), (ms_in_t (i := 1092) rfl rfl), (ms_in_p (i := 27) rfl rfl), by decide⟩⟩
set_option maxRecDepth 100000 in
theorem ms_cp_8_75 : ms_callP 8 75 0 132 1 := ⟨⟨by decide, (ms_in_t (i := 9) rfl rfl), by decide +kernel, rfl⟩, Or.inl ⟨rfl, rfl, (ms_in_t (i := 1101) rfl rfl), (ms_in_t (i := 1103) rfl rfl), (ms_in_p (i := 28) rfl rfl), by decide⟩⟩
set_option maxRecDepth 100000 in
theorem ms_cp_8_80 : ms_callP 8 80 0 135 1 := ⟨⟨by decide, (ms_in_t (i := 9) rfl rfl), by decide +kernel, rfl⟩, Or.inl ⟨rfl, rfl, (ms_in_t (i := 1114) rfl rfl), (ms_in_t (i := 1116) rfl rfl), (ms_in_p (i := 29) rfl rfl), by decide⟩⟩
set_option maxRecDepth 100000 in
theorem ms_cp_8_83 : ms_callP 8 83 0 134 1 := ⟨⟨by decide, (ms_in_t (i := 9) rfl rfl), by decide +kernel, rfl⟩, Or.inl ⟨rfl, rfl, (ms_in_t (i := 1122) rfl rfl), (ms_in_t (i := 1124) rfl rfl), (ms_in_p (i := 30) rfl rfl), by decide⟩⟩
set_option maxRecDepth 100000 in
theorem ms_cp_8_86 : ms_callP 8 86 0 149 3 := ⟨⟨by decide, (ms_in_t (i := 9) rfl rfl), by decide +kernel, rfl⟩, Or.inl ⟨rfl, rfl, (ms_in_t (i := 1172) rfl rfl), (ms_in_t (i := 1174) rfl rfl), (ms_in_p (i := 36) rfl rfl), by decide⟩⟩
set_option maxRecDepth 100000 in
theorem ms_cp_8_89 : ms_callP 8 89 0 151 3 := ⟨⟨by decide, (ms_in_t (i := 9) rfl rfl), by decide +kernel, rfl⟩, Or.inl ⟨rfl, rfl, (ms_in_t (i := 1188) rfl rfl), (ms_in_t (i := 1190) rfl rfl), (ms_in_p (i := 40) rfl rfl), by decide⟩⟩
set_option maxRecDepth 100000 in
theorem ms_cp_8_95 : ms_callP 8 95 0 152 3 := ⟨⟨by decide, (ms_in_t (i := 9) rfl rfl), by decide +kernel, rfl⟩, Or.inl ⟨rfl, rfl, (ms_in_t (i := 1184) rfl rfl), (ms_in_t (i := 1186) rfl rfl), (ms_in_p (i := 39) rfl rfl), by decide⟩⟩
set_option maxRecDepth 100000 in
theorem ms_cp_8_101 : ms_callP 8 101 0 153 0 := ⟨⟨by decide, (ms_in_t (i := 9) rfl rfl), by decide +kernel, rfl⟩, Or.inl ⟨rfl, rfl, (ms_in_t (i := 1194) rfl rfl), (ms_in_t (i := 1196) rfl rfl), (ms_in_p (i := 41) rfl rfl), by decide⟩⟩
set_option maxRecDepth 100000 in
theorem ms_cp_8_105 : ms_callP 8 105 0 157 0 := ⟨⟨by decide, (ms_in_t (i := 9) rfl rfl), by decide +kernel, rfl⟩, Or.inl ⟨rfl, rfl, (ms_in_t (i := 1206) rfl rfl), (ms_in_t (i := 1208) rfl rfl), (ms_in_p (i := 44) rfl rfl), by decide⟩⟩
set_option maxRecDepth 100000 in
theorem ms_cp_8_114 : ms_callP 8 114 0 158 0 := ⟨⟨by decide, (ms_in_t (i := 9) rfl rfl), by decide +kernel, rfl⟩, Or.inl ⟨rfl, rfl, (ms_in_t (i := 1144) rfl rfl), (ms_in_t (i := 1146) rfl rfl), (ms_in_p (i := 31) rfl rfl), by decide⟩⟩
set_option maxRecDepth 100000 in
theorem ms_cp_8_117 : ms_callP 8 117 0 130 2 := ⟨⟨by decide, (ms_in_t (i := 9) rfl rfl), by decide +kernel, rfl⟩, Or.inl ⟨rfl, rfl, (ms_in_t (i := 1149) rfl rfl), (ms_in_t (i := 1151) rfl rfl), (ms_in_p (i := 32) rfl rfl), by decide⟩⟩
set_option maxRecDepth 100000 in
theorem ms_cp_8_120 : ms_callP 8 120 0 150 2 := ⟨⟨by decide, (ms_in_t (i := 9) rfl rfl), by decide +kernel, rfl⟩, Or.inl ⟨rfl, rfl, (ms_in_t (i := 1168) rfl rfl), (ms_in_t (i := 1170) rfl rfl), (ms_in_p (i := 35) rfl rfl), by decide⟩⟩
set_option maxRecDepth 100000 in
theorem ms_cp_8_123 : ms_callP 8 123 0 161 3 := ⟨⟨by decide, (ms_in_t (i := 9) rfl rfl), by decide +kernel, rfl⟩, Or.inl ⟨rfl, rfl, (ms_in_t (i := 1176) rfl rfl), (ms_in_t (i := 1178) rfl rfl), (ms_in_p (i := 37) rfl rfl), by decide⟩⟩
set_option maxRecDepth 100000 in
theorem ms_cp_8_127 : ms_callP 8 127 0 154 3 := ⟨⟨by decide, (ms_in_t (i := 9) rfl rfl), by decide +kernel, rfl⟩, Or.inl ⟨rfl, rfl, (ms_in_t (i := 1180) rfl rfl), (ms_in_t (i := 1182) rfl rfl), (ms_in_p (i := 38) rfl rfl), by decide⟩⟩
set_option maxRecDepth 100000 in
theorem ms_cp_8_130 : ms_callP 8 130 0 163 0 := ⟨⟨by decide, (ms_in_t (i := 9) rfl rfl), by decide +kernel, rfl⟩, Or.inl ⟨rfl, rfl, (ms_in_t (i := 1198) rfl rfl), (ms_in_t (i := 1200) rfl rfl), (ms_in_p (i := 42) rfl rfl), by decide⟩⟩
set_option maxRecDepth 100000 in
theorem ms_cp_8_133 : ms_callP 8 133 0 156 0 := ⟨⟨by decide, (ms_in_t (i := 9) rfl rfl), by decide +kernel, rfl⟩, Or.inl ⟨rfl, rfl, (ms_in_t (i := 1202) rfl rfl), (ms_in_t (i := 1204) rfl rfl), (ms_in_p (i := 43) rfl rfl), by decide⟩⟩
set_option maxRecDepth 100000 in
theorem ms_cp_8_136 : ms_callP 8 136 0 159 0 := ⟨⟨by decide, (ms_in_t (i := 9) rfl rfl), by decide +kernel, rfl⟩, Or.inl ⟨rfl, rfl, (ms_in_t (i := 1215) rfl rfl), (ms_in_t (i := 1217) rfl rfl), (ms_in_p (i := 46) rfl rfl), by decide⟩⟩
set_option maxRecDepth 100000 in
theorem ms_cp_8_139 : ms_callP 8 139 1 155 2 := ⟨⟨by decide, (ms_in_t (i := 9) rfl rfl), by decide +kernel, rfl⟩, Or.inr (Or.inl ⟨rfl, rfl, (ms_in_t (i := 1161) rfl rfl), (ms_in_t (i := 1162) rfl rfl), rfl⟩)⟩
set_option maxRecDepth 100000 in
theorem ms_cp_8_143 : ms_callP 8 143 0 162 5 := ⟨⟨by decide, (ms_in_t (i := 9) rfl rfl), by decide +kernel, rfl⟩, Or.inl ⟨rfl, rfl, (ms_in_t (i := 1164) rfl rfl), (ms_in_t (i := 1166) rfl rfl), (ms_in_p (i := 34) rfl rfl), by decide⟩⟩
set_option maxRecDepth 100000 in
theorem ms_cp_8_147 : ms_callP 8 147 0 164 5 := ⟨⟨by decide, (ms_in_t (i := 9) rfl rfl), by decide +kernel, rfl⟩, Or.inl ⟨rfl, rfl, (ms_in_t (i := 1211) rfl rfl), (ms_in_t (i := 1213) rfl rfl), (ms_in_p (i := 45) rfl rfl), by decide⟩⟩
set_option maxRecDepth 100000 in
theorem ms_cp_8_150 : ms_callP 8 150 0 166 1 := ⟨⟨by decide, (ms_in_t (i := 9) rfl rfl), by decide +kernel, rfl⟩, Or.inl ⟨rfl, rfl, (ms_in_t (i := 1223) rfl rfl), (ms_in_t (i := 1225) rfl rfl), (ms_in_p (i := 47) rfl rfl), by decide⟩⟩
set_option maxRecDepth 100000 in
theorem ms_cp_8_153 : ms_callP 8 153 0 171 4 := ⟨⟨by decide, (ms_in_t (i := 9) rfl rfl), by decide +kernel, rfl⟩, Or.inl ⟨rfl, rfl, (ms_in_t (i := 1239) rfl rfl), (ms_in_t (i := 1241) rfl rfl), (ms_in_p (i := 48) rfl rfl), by decide⟩⟩
set_option maxRecDepth 100000 in
theorem ms_cp_8_157 : ms_callP 8 157 0 175 1 := ⟨⟨by decide, (ms_in_t (i := 9) rfl rfl), by decide +kernel, rfl⟩, Or.inl ⟨rfl, rfl, (ms_in_t (i := 1266) rfl rfl), (ms_in_t (i := 1268) rfl rfl), (ms_in_p (i := 50) rfl rfl), by decide⟩⟩
set_option maxRecDepth 100000 in
theorem ms_cp_8_160 : ms_callP 8 160 1 174 2 := ⟨⟨by decide, (ms_in_t (i := 9) rfl rfl), by decide +kernel, rfl⟩, Or.inr (Or.inl ⟨rfl, rfl, (ms_in_t (i := 1255) rfl rfl), (ms_in_t (i := 1256) rfl rfl), rfl⟩)⟩
set_option maxRecDepth 100000 in
theorem ms_cp_8_163 : ms_callP 8 163 0 176 1 := ⟨⟨by decide, (ms_in_t (i := 9) rfl rfl), by decide +kernel, rfl⟩, Or.inl ⟨rfl, rfl, (ms_in_t (i := 1262) rfl rfl), (ms_in_t (i := 1264) rfl rfl), (ms_in_p (i := 49) rfl rfl), by decide⟩⟩
set_option maxRecDepth 100000 in
theorem ms_cp_8_166 : ms_callP 8 166 0 178 2 := ⟨⟨by decide, (ms_in_t (i := 9) rfl rfl), by decide +kernel, rfl⟩, Or.inl ⟨rfl, rfl, (ms_in_t (i := 1270) rfl rfl), (ms_in_t (i := 1272) rfl rfl), (ms_in_p (i := 51) rfl rfl), by decide⟩⟩
set_option maxRecDepth 100000 in
theorem ms_cp_8_169 : ms_callP 8 169 0 180 2 := ⟨⟨by decide, (ms_in_t (i := 9) rfl rfl), by decide +kernel, rfl⟩, Or.inl ⟨rfl, rfl, (ms_in_t (i := 1282) rfl rfl), (ms_in_t (i := 1284) rfl rfl), (ms_in_p (i := 53) rfl rfl), by decide⟩⟩
set_option maxRecDepth 100000 in
theorem ms_cp_8_172 : ms_callP 8 172 0 181 2 := ⟨⟨by decide, (ms_in_t (i := 9) rfl rfl), by decide +kernel, rfl⟩, Or.inl ⟨rfl, rfl, (ms_in_t (i := 1286) rfl rfl), (ms_in_t (i := 1288) rfl rfl), (ms_in_p (i := 54) rfl rfl), by decide⟩⟩
set_option maxRecDepth 100000 in
theorem ms_cp_8_175 : ms_callP 8 175 0 182 0 := ⟨⟨by decide, (ms_in_t (i := 9) rfl rfl), by decide +kernel, rfl⟩, Or.inl ⟨rfl, rfl, (ms_in_t (i := 1290) rfl rfl), (ms_in_t (i := 1292) rfl rfl), (ms_in_p (i := 55) rfl rfl), by decide⟩⟩
set_option maxRecDepth 100000 in
theorem ms_cp_8_179 : ms_callP 8 179 0 183 1 := ⟨⟨by decide, (ms_in_t (i := 9) rfl rfl), by decide +kernel, rfl⟩, Or.inl ⟨rfl, rfl, (ms_in_t (i := 1278) rfl rfl), (ms_in_t (i := 1280) rfl rfl), (ms_in_p (i := 52) rfl rfl), by decide⟩⟩
set_option maxRecDepth 100000 in
theorem ms_cp_8_188 : ms_callP 8 188 0 190 0 := ⟨⟨by decide, (ms_in_t (i := 9) rfl rfl), by decide +kernel, rfl⟩, Or.inl ⟨rfl, rfl, (ms_in_t (i := 1330) rfl rfl), (ms_in_t (i := 1332) rfl rfl), (ms_in_p (i := 59) rfl rfl), by decide⟩⟩
set_option maxRecDepth 100000 in
theorem ms_cp_8_191 : ms_callP 8 191 0 192 3 := ⟨⟨by decide, (ms_in_t (i := 9) rfl rfl), by decide +kernel, rfl⟩, Or.inl ⟨rfl, rfl, (ms_in_t (i := 1334) rfl rfl), (ms_in_t (i := 1336) rfl rfl), (ms_in_p (i := 60) rfl rfl), by decide⟩⟩
set_option maxRecDepth 100000 in
theorem ms_cp_8_194 : ms_callP 8 194 0 191 1 := ⟨⟨by decide, (ms_in_t (i := 9) rfl rfl), by decide +kernel, rfl⟩, Or.inl ⟨rfl, rfl, (ms_in_t (i := 1338) rfl rfl), (ms_in_t (i := 1340) rfl rfl), (ms_in_p (i := 61) rfl rfl), by decide⟩⟩
set_option maxRecDepth 100000 in
theorem ms_cp_8_200 : ms_callP 8 200 0 194 1 := ⟨⟨by decide, (ms_in_t (i := 9) rfl rfl), by decide +kernel, rfl⟩, Or.inl ⟨rfl, rfl, (ms_in_t (i := 1326) rfl rfl), (ms_in_t (i := 1328) rfl rfl), (ms_in_p (i := 58) rfl rfl), by decide⟩⟩
set_option maxRecDepth 100000 in
theorem ms_cp_8_203 : ms_callP 8 203 0 193 1 := ⟨⟨by decide, (ms_in_t (i := 9) rfl rfl), by decide +kernel, rfl⟩, Or.inl ⟨rfl, rfl, (ms_in_t (i := 1342) rfl rfl), (ms_in_t (i := 1344) rfl rfl), (ms_in_p (i := 62) rfl rfl), by decide⟩⟩
set_option maxRecDepth 100000 in
theorem ms_cp_8_206 : ms_callP 8 206 0 195 0 := ⟨⟨by decide, (ms_in_t (i := 9) rfl rfl), by decide +kernel, rfl⟩, Or.inl ⟨rfl, rfl, (ms_in_t (i := 1322) rfl rfl), (ms_in_t (i := 1324) rfl rfl), (ms_in_p (i := 57) rfl rfl), by decide⟩⟩
set_option maxRecDepth 100000 in
theorem ms_cp_8_209 : ms_callP 8 209 0 196 0 := ⟨⟨by decide, (ms_in_t (i := 9) rfl rfl), by decide +kernel, rfl⟩, Or.inl ⟨rfl, rfl, (ms_in_t (i := 1318) rfl rfl), (ms_in_t (i := 1320) rfl rfl), (ms_in_p (i := 56) rfl rfl), by decide⟩⟩
set_option maxRecDepth 100000 in
theorem ms_cp_8_212 : ms_callP 8 212 0 198 0 := ⟨⟨by decide, (ms_in_t (i := 9) rfl rfl), by decide +kernel, rfl⟩, Or.inl ⟨rfl, rfl, (ms_in_t (i := 1350) rfl rfl), (ms_in_t (i := 1352) rfl rfl), (ms_in_p (i := 63) rfl rfl), by decide⟩⟩
set_option maxRecDepth 100000 in
theorem ms_cp_8_215 : ms_callP 8 215 0 199 0 := ⟨⟨by decide, (ms_in_t (i := 9) rfl rfl), by decide +kernel, rfl⟩, Or.inl ⟨rfl, rfl, (ms_in_t (i := 1354) rfl rfl), (ms_in_t (i := 1356) rfl rfl), (ms_in_p (i := 64) rfl rfl), by decide⟩⟩
set_option maxRecDepth 100000 in
theorem ms_cp_8_218 : ms_callP 8 218 0 200 0 := ⟨⟨by decide, (ms_in_t (i := 9) rfl rfl), by decide +kernel, rfl⟩, Or.inl ⟨rfl, rfl, (ms_in_t (i := 1358) rfl rfl), (ms_in_t (i := 1360) rfl rfl), (ms_in_p (i := 65) rfl rfl), by decide⟩⟩
set_option maxRecDepth 100000 in
theorem ms_cp_9_7 : ms_callP 9 7 0 85 4 := ⟨⟨by decide, (ms_in_t (i := 1) rfl rfl), by decide +kernel, rfl⟩, Or.inl ⟨rfl, rfl, (ms_in_t (i := 280) rfl rfl), (ms_in_t (i := 281) rfl rfl), (ms_in_t (i := 282) rfl rfl), by decide⟩⟩
set_option maxRecDepth 100000 in
theorem ms_cp_9_17 : ms_callP 9 17 0 86 2 := ⟨⟨by decide, (ms_in_t (i := 1) rfl rfl), by decide +kernel, rfl⟩, Or.inl ⟨rfl, rfl, (ms_in_t (i := 398) rfl rfl), (ms_in_t (i := 399) rfl rfl), (ms_in_t (i := 400) rfl rfl), by decide⟩⟩
set_option maxRecDepth 100000 in
theorem ms_cp_9_23 : ms_callP 9 23 0 87 2 := ⟨⟨by decide, (ms_in_t (i := 1) rfl rfl), by decide +kernel, rfl⟩, Or.inl ⟨rfl, rfl, (ms_in_t (i := 429) rfl rfl), (ms_in_t (i := 430) rfl rfl), (ms_in_t (i := 431) rfl rfl), by decide⟩⟩
set_option maxRecDepth 100000 in
theorem ms_cp_9_26 : ms_callP 9 26 0 88 2 := ⟨⟨by decide, (ms_in_t (i := 1) rfl rfl), by decide +kernel, rfl⟩, Or.inl ⟨rfl, rfl, (ms_in_t (i := 438) rfl rfl), (ms_in_t (i := 439) rfl rfl), (ms_in_t (i := 440) rfl rfl), by decide⟩⟩
set_option maxRecDepth 100000 in
theorem ms_cp_9_29 : ms_callP 9 29 0 89 2 := ⟨⟨by decide, (ms_in_t (i := 1) rfl rfl), by decide +kernel, rfl⟩, Or.inl ⟨rfl, rfl, (ms_in_t (i := 451) rfl rfl), (ms_in_t (i := 452) rfl rfl), (ms_in_t (i := 453) rfl rfl), by decide⟩⟩
set_option maxRecDepth 100000 in
theorem ms_cp_9_32 : ms_callP 9 32 0 90 1 := ⟨⟨by decide, (ms_in_t (i := 1) rfl rfl), by decide +kernel, rfl⟩, Or.inl ⟨rfl, rfl, (ms_in_t (i := 463) rfl rfl), (ms_in_t (i := 464) rfl rfl), (ms_in_t (i := 465) rfl rfl), by decide⟩⟩
set_option maxRecDepth 100000 in
theorem ms_cp_9_36 : ms_callP 9 36 0 91 0 := ⟨⟨by decide, (ms_in_t (i := 1) rfl rfl), by decide +kernel, rfl⟩, Or.inl ⟨rfl, rfl, (ms_in_t (i := 476) rfl rfl), (ms_in_t (i := 477) rfl rfl), (ms_in_t (i := 478) rfl rfl), by decide⟩⟩
set_option maxRecDepth 100000 in
theorem ms_cp_9_42 : ms_callP 9 42 0 92 2 := ⟨⟨by decide, (ms_in_t (i := 1) rfl rfl), by decide +kernel, rfl⟩, Or.inl ⟨rfl, rfl, (ms_in_t (i := 503) rfl rfl), (ms_in_t (i := 504) rfl rfl), (ms_in_t (i := 505) rfl rfl), by decide⟩⟩
set_option maxRecDepth 100000 in
theorem ms_cp_9_45 : ms_callP 9 45 0 93 2 := ⟨⟨by decide, (ms_in_t (i := 1) rfl rfl), by decide +kernel, rfl⟩, Or.inl ⟨rfl, rfl, (ms_in_t (i := 516) rfl rfl), (ms_in_t (i := 517) rfl rfl), (ms_in_t (i := 518) rfl rfl), by decide⟩⟩
set_option maxRecDepth 100000 in
theorem ms_cp_9_50 : ms_callP 9 50 0 94 5 := ⟨⟨by decide, (ms_in_t (i := 1) rfl rfl), by decide +kernel, rfl⟩, Or.inl ⟨rfl, rfl, (ms_in_t (i := 560) rfl rfl), (ms_in_t (i := 561) rfl rfl), (ms_in_t (i := 562) rfl rfl), by decide⟩⟩
set_option maxRecDepth 100000 in
theorem ms_cp_9_54 : ms_callP 9 54 0 95 2 := ⟨⟨by decide, (ms_in_t (i := 1) rfl rfl), by decide +kernel, rfl⟩, Or.inl ⟨rfl, rfl, (ms_in_t (i := 670) rfl rfl), (ms_in_t (i := 671) rfl rfl), (ms_in_t (i := 672) rfl rfl), by decide⟩⟩
set_option maxRecDepth 100000 in
theorem ms_cp_9_57 : ms_callP 9 57 0 96 2 := ⟨⟨by decide, (ms_in_t (i := 1) rfl rfl), by decide +kernel, rfl⟩, Or.inl ⟨rfl, rfl, (ms_in_t (i := 687) rfl rfl), (ms_in_t (i := 688) rfl rfl), (ms_in_t (i := 689) rfl rfl), by decide⟩⟩
set_option maxRecDepth 100000 in
theorem ms_cp_9_60 : ms_callP 9 60 0 97 4 := ⟨⟨by decide, (ms_in_t (i := 1) rfl rfl), by decide +kernel, rfl⟩, Or.inl ⟨rfl, rfl, (ms_in_t (i := 698) rfl rfl), (ms_in_t (i := 699) rfl rfl), (ms_in_t (i := 700) rfl rfl), by decide⟩⟩
set_option maxRecDepth 100000 in
theorem ms_cp_9_63 : ms_callP 9 63 0 98 2 := ⟨⟨by decide, (ms_in_t (i := 1) rfl rfl), by decide +kernel, rfl⟩, Or.inl ⟨rfl, rfl, (ms_in_t (i := 713) rfl rfl), (ms_in_t (i := 714) rfl rfl), (ms_in_t (i := 715) rfl rfl), by decide⟩⟩
set_option maxRecDepth 100000 in
theorem ms_cp_9_66 : ms_callP 9 66 0 99 1 := ⟨⟨by decide, (ms_in_t (i := 1) rfl rfl), by decide +kernel, rfl⟩, Or.inl ⟨rfl, rfl, (ms_in_t (i := 729) rfl rfl), (ms_in_t (i := 730) rfl rfl), (ms_in_t (i := 731) rfl rfl), by decide⟩⟩
set_option maxRecDepth 100000 in
theorem ms_cp_9_69 : ms_callP 9 69 0 100 0 := ⟨⟨by decide, (ms_in_t (i := 1) rfl rfl), by decide +kernel, rfl⟩, Or.inl ⟨rfl, rfl, (ms_in_t (i := 736) rfl rfl), (ms_in_t (i := 737) rfl rfl), (ms_in_t (i := 738) rfl rfl), by decide⟩⟩
set_option maxRecDepth 100000 in
theorem ms_cp_9_72 : ms_callP 9 72 0 101 4 := ⟨⟨by decide, (ms_in_t (i := 1) rfl rfl), by decide +kernel, rfl⟩, Or.inl ⟨rfl, rfl, (ms_in_t (i := 744) rfl rfl), (ms_in_t (i := 745) rfl rfl), (ms_in_t (i := 746) rfl rfl), by decide⟩⟩
set_option maxRecDepth 100000 in
theorem ms_cp_9_75 : ms_callP 9 75 0 102 3 := ⟨⟨by decide, (ms_in_t (i := 1) rfl rfl), by decide +kernel, rfl⟩, Or.inl ⟨rfl, rfl, (ms_in_t (i := 763) rfl rfl), (ms_in_t (i := 764) rfl rfl), (ms_in_t (i := 765) rfl rfl), by decide⟩⟩
set_option maxRecDepth 100000 in
theorem ms_cp_9_79 : ms_callP 9 79 0 103 1 := ⟨⟨by decide, (ms_in_t (i := 1) rfl rfl), by decide +kernel, rfl⟩, Or.inl ⟨rfl, rfl, (ms_in_t (i := 789) rfl rfl), (ms_in_t (i := 790) rfl rfl), (ms_in_t (i := 791) rfl rfl), by decide⟩⟩
set_option maxRecDepth 100000 in
theorem ms_cp_9_82 : ms_callP 9 82 0 104 2 := ⟨⟨by decide, (ms_in_t (i := 1) rfl rfl), by decide +kernel, rfl⟩, Or.inl ⟨rfl, rfl, (ms_in_t (i := 833) rfl rfl), (ms_in_t (i := 834) rfl rfl), (ms_in_t (i := 835) rfl rfl), by decide⟩⟩
set_option maxRecDepth 100000 in
theorem ms_cp_9_85 : ms_callP 9 85 0 105 2 := ⟨⟨by decide, (ms_in_t (i := 1) rfl rfl), by decide +kernel, rfl⟩, Or.inl ⟨rfl, rfl, (ms_in_t (i := 856) rfl rfl), (ms_in_t (i := 857) rfl rfl), (ms_in_t (i := 858) rfl rfl), by decide⟩⟩
set_option maxRecDepth 100000 in
theorem ms_cp_9_88 : ms_callP 9 88 0 106 1 := ⟨⟨by decide, (ms_in_t (i := 1) rfl rfl), by decide +kernel, rfl⟩, Or.inl ⟨rfl, rfl, (ms_in_t (i := 863) rfl rfl), (ms_in_t (i := 864) rfl rfl), (ms_in_t (i := 865) rfl rfl), by decide⟩⟩
set_option maxRecDepth 100000 in
theorem ms_cp_9_91 : ms_callP 9 91 0 107 1 := ⟨⟨by decide, (ms_in_t (i := 1) rfl rfl), by decide +kernel, rfl⟩, Or.inl ⟨rfl, rfl, (ms_in_t (i := 876) rfl rfl), (ms_in_t (i := 877) rfl rfl), (ms_in_t (i := 878) rfl rfl), by decide⟩⟩
set_option maxRecDepth 100000 in
theorem ms_cp_9_95 : ms_callP 9 95 0 108 0 := ⟨⟨by decide, (ms_in_t (i := 1) rfl rfl), by decide +kernel, rfl⟩, Or.inl ⟨rfl, rfl, (ms_in_t (i := 888) rfl rfl), (ms_in_t (i := 889) rfl rfl), (ms_in_t (i := 890) rfl rfl), by decide⟩⟩
set_option maxRecDepth 100000 in
theorem ms_cp_9_98 : ms_callP 9 98 0 110 1 := ⟨⟨by decide, (ms_in_t (i := 1) rfl rfl), by decide +kernel, rfl⟩, Or.inl ⟨rfl, rfl, (ms_in_t (i := 950) rfl rfl), (ms_in_t (i := 951) rfl rfl), (ms_in_t (i := 952) rfl rfl), by decide⟩⟩
set_option maxRecDepth 100000 in
theorem ms_cp_9_101 : ms_callP 9 101 0 111 1 := ⟨⟨by decide, (ms_in_t (i := 1) rfl rfl), by decide +kernel, rfl⟩, Or.inl ⟨rfl, rfl, (ms_in_t (i := 978) rfl rfl), (ms_in_t (i := 979) rfl rfl), (ms_in_t (i := 980) rfl rfl), by decide⟩⟩
set_option maxRecDepth 100000 in
theorem ms_cp_9_105 : ms_callP 9 105 0 112 0 := ⟨⟨by decide, (ms_in_t (i := 1) rfl rfl), by decide +kernel, rfl⟩, Or.inl ⟨rfl, rfl, (ms_in_t (i := 985) rfl rfl), (ms_in_t (i := 986) rfl rfl), (ms_in_t (i := 987) rfl rfl), by decide⟩⟩
set_option maxRecDepth 100000 in
theorem ms_cp_9_108 : ms_callP 9 108 0 114 0 := ⟨⟨by decide, (ms_in_t (i := 1) rfl rfl), by decide +kernel, rfl⟩, Or.inl ⟨rfl, rfl, (ms_in_t (i := 997) rfl rfl), (ms_in_t (i := 998) rfl rfl), (ms_in_t (i := 999) rfl rfl), by decide⟩⟩
set_option maxRecDepth 100000 in
theorem ms_cp_9_111 : ms_callP 9 111 2 84 0 := ⟨⟨by decide, (ms_in_t (i := 1) rfl rfl), by decide +kernel, rfl⟩, Or.inr (Or.inr (Or.inl ⟨rfl, rfl, (ms_in_t (i := 22) rfl rfl), (ms_in_t (i := 23) rfl rfl), rfl, rfl, by decide⟩))⟩
set_option maxRecDepth 100000 in
theorem ms_cp_9_114 : ms_callP 9 114 2 127 0 := ⟨⟨by decide, (ms_in_t (i := 9) rfl rfl), by decide +kernel, rfl⟩, Or.inr (Or.inr (Or.inl ⟨rfl, rfl, (ms_in_t (i := 1008) rfl rfl), (ms_in_t (i := 1009) rfl rfl), rfl, rfl, by decide⟩))⟩
set_option maxRecDepth 100000 in
theorem ms_cp_9_115 : ms_callP 9 115 7 203 6 := ⟨⟨by decide, (ms_in_t (i := 0) rfl rfl), by decide +kernel, rfl⟩, Or.inr (Or.inr (Or.inr (Or.inr (Or.inr ⟨rfl, by decide, (ms_in_t (i := 275) rfl rfl), (ms_in_t (i := 276) rfl rfl)⟩))))⟩
set_option maxRecDepth 100000 in
theorem ms_cp_9_120 : ms_callP 9 120 0 141 4 := ⟨⟨by decide, (ms_in_t (i := 9) rfl rfl), by decide +kernel, rfl⟩, Or.inl ⟨rfl, rfl, (ms_in_t (i := 1083) rfl rfl), (ms_in_t (i := 1084) rfl rfl), (ms_in_t (i := 1085) rfl rfl), by decide⟩⟩
set_option maxRecDepth 100000 in
theorem ms_cp_9_121 : ms_callP 9 121 0 128 0 := ⟨⟨by decide, (ms_in_t (i := 9) rfl rfl), by decide +kernel, rfl⟩, Or.inl ⟨rfl, rfl, (ms_in_t (i := 1064) rfl rfl), (ms_in_t (i := 1065) rfl rfl), (ms_in_t (i := 1066) rfl rfl), by decide⟩⟩
set_option maxRecDepth 100000 in
theorem ms_cp_9_124 : ms_callP 9 124 7 204 4 := ⟨⟨by decide, (ms_in_t (i := 0) rfl rfl), by decide +kernel, rfl⟩, Or.inr (Or.inr (Or.inr (Or.inr (Or.inr ⟨rfl, by decide, (ms_in_t (i := 394) rfl rfl), (ms_in_t (i := 395) rfl rfl)⟩))))⟩
set_option maxRecDepth 100000 in
theorem ms_cp_9_127 : ms_callP 9 127 0 142 2 := ⟨⟨by decide, (ms_in_t (i := 9) rfl rfl), by decide +kernel, rfl⟩, Or.inl ⟨rfl, rfl, (ms_in_t (i := 1097) rfl rfl), (ms_in_t (i := 1098) rfl rfl), (ms_in_t (i := 1099) rfl rfl), by decide⟩⟩
set_option maxRecDepth 100000 in
theorem ms_cp_9_128 : ms_callP 9 128 7 205 4 := ⟨⟨by decide, (ms_in_t (i := 0) rfl rfl), by decide +kernel, rfl⟩, Or.inr (Or.inr (Or.inr (Or.inr (Or.inr ⟨rfl, by decide, (ms_in_t (i := 426) rfl rfl), (ms_in_t (i := 427) rfl rfl)⟩))))⟩
set_option maxRecDepth 100000 in
theorem ms_cp_9_130 : ms_callP 9 130 0 143 2 := ⟨⟨by decide, (ms_in_t (i := 9) rfl rfl), by decide +kernel, rfl⟩, Or.inl ⟨rfl, rfl, (ms_in_t (i := 1105) rfl rfl), (ms_in_t (i := 1106) rfl rfl), (ms_in_t (i := 1107) rfl rfl), by decide⟩⟩
set_option maxRecDepth 100000 in
theorem ms_cp_9_131 : ms_callP 9 131 7 206 4 := ⟨⟨by decide, (ms_in_t (i := 0) rfl rfl), by decide +kernel, rfl⟩, Or.inr (Or.inr (Or.inr (Or.inr (Or.inr ⟨rfl, by decide, (ms_in_t (i := 435) rfl rfl), (ms_in_t (i := 436) rfl rfl)⟩))))⟩
set_option maxRecDepth 100000 in
theorem ms_cp_9_133 : ms_callP 9 133 0 144 2 := ⟨⟨by decide, (ms_in_t (i := 9) rfl rfl), by decide +kernel, rfl⟩, Or.inl ⟨rfl, rfl, (ms_in_t (i := 1109) rfl rfl), (ms_in_t (i := 1110) rfl rfl), (ms_in_t (i := 1111) rfl rfl), by decide⟩⟩
set_option maxRecDepth 100000 in
theorem ms_cp_9_134 : ms_callP 9 134 7 207 4 := ⟨⟨by decide, (ms_in_t (i := 0) rfl rfl), by decide +kernel, rfl⟩, Or.inr (Or.inr (Or.inr (Or.inr (Or.inr ⟨rfl, by decide, (ms_in_t (i := 448) rfl rfl), (ms_in_t (i := 449) rfl rfl)⟩))))⟩
set_option maxRecDepth 100000 in
theorem ms_cp_9_136 : ms_callP 9 136 0 145 2 := ⟨⟨by decide, (ms_in_t (i := 9) rfl rfl), by decide +kernel, rfl⟩, Or.inl ⟨rfl, rfl, (ms_in_t (i := 1118) rfl rfl), (ms_in_t (i := 1119) rfl rfl), (ms_in_t (i := 1120) rfl rfl), by decide⟩⟩
set_option maxRecDepth 100000 in
theorem ms_cp_9_137 : ms_callP 9 137 7 208 3 := ⟨⟨by decide, (ms_in_t (i := 0) rfl rfl), by decide +kernel, rfl⟩, Or.inr (Or.inr (Or.inr (Or.inr (Or.inr ⟨rfl, by decide, (ms_in_t (i := 460) rfl rfl), (ms_in_t (i := 461) rfl rfl)⟩))))⟩
set_option maxRecDepth 100000 in
theorem ms_cp_9_140 : ms_callP 9 140 0 146 1 := ⟨⟨by decide, (ms_in_t (i := 9) rfl rfl), by decide +kernel, rfl⟩, Or.inl ⟨rfl, rfl, (ms_in_t (i := 1126) rfl rfl), (ms_in_t (i := 1127) rfl rfl), (ms_in_t (i := 1128) rfl rfl), by decide⟩⟩
set_option maxRecDepth 100000 in
theorem ms_cp_9_141 : ms_callP 9 141 7 209 2 := ⟨⟨by decide, (ms_in_t (i := 0) rfl rfl), by decide +kernel, rfl⟩, Or.inr (Or.inr (Or.inr (Or.inr (Or.inr ⟨rfl, by decide, (ms_in_t (i := 472) rfl rfl), (ms_in_t (i := 473) rfl rfl)⟩))))⟩
set_option maxRecDepth 100000 in
theorem ms_cp_9_144 : ms_callP 9 144 0 147 0 := ⟨⟨by decide, (ms_in_t (i := 9) rfl rfl), by decide +kernel, rfl⟩, Or.inl ⟨rfl, rfl, (ms_in_t (i := 1130) rfl rfl), (ms_in_t (i := 1131) rfl rfl), (ms_in_t (i := 1132) rfl rfl), by decide⟩⟩
set_option maxRecDepth 100000 in
theorem ms_cp_9_145 : ms_callP 9 145 7 210 4 := ⟨⟨by decide, (ms_in_t (i := 0) rfl rfl), by decide +kernel, rfl⟩, Or.inr (Or.inr (Or.inr (Or.inr (Or.inr ⟨rfl, by decide, (ms_in_t (i := 500) rfl rfl), (ms_in_t (i := 501) rfl rfl)⟩))))⟩
set_option maxRecDepth 100000 in
theorem ms_cp_9_147 : ms_callP 9 147 0 148 2 := ⟨⟨by decide, (ms_in_t (i := 9) rfl rfl), by decide +kernel, rfl⟩, Or.inl ⟨rfl, rfl, (ms_in_t (i := 1134) rfl rfl), (ms_in_t (i := 1135) rfl rfl), (ms_in_t (i := 1136) rfl rfl), by decide⟩⟩
set_option maxRecDepth 100000 in
theorem ms_cp_9_148 : ms_callP 9 148 7 211 4 := ⟨⟨by decide, (ms_in_t (i := 0) rfl rfl), by decide +kernel, rfl⟩, Or.inr (Or.inr (Or.inr (Or.inr (Or.inr ⟨rfl, by decide, (ms_in_t (i := 512) rfl rfl), (ms_in_t (i := 513) rfl rfl)⟩))))⟩
set_option maxRecDepth 100000 in
theorem ms_cp_9_150 : ms_callP 9 150 0 160 2 := ⟨⟨by decide, (ms_in_t (i := 9) rfl rfl), by decide +kernel, rfl⟩, Or.inl ⟨rfl, rfl, (ms_in_t (i := 1138) rfl rfl), (ms_in_t (i := 1139) rfl rfl), (ms_in_t (i := 1140) rfl rfl), by decide⟩⟩
set_option maxRecDepth 100000 in
theorem ms_cp_9_151 : ms_callP 9 151 7 212 7 := ⟨⟨by decide, (ms_in_t (i := 0) rfl rfl), by decide +kernel, rfl⟩, Or.inr (Or.inr (Or.inr (Or.inr (Or.inr ⟨rfl, by decide, (ms_in_t (i := 557) rfl rfl), (ms_in_t (i := 558) rfl rfl)⟩))))⟩
set_option maxRecDepth 100000 in
theorem ms_cp_9_154 : ms_callP 9 154 0 165 5 := ⟨⟨by decide, (ms_in_t (i := 9) rfl rfl), by decide +kernel, rfl⟩, Or.inl ⟨rfl, rfl, (ms_in_t (i := 1157) rfl rfl), (ms_in_t (i := 1158) rfl rfl), (ms_in_t (i := 1159) rfl rfl), by decide⟩⟩
set_option maxRecDepth 100000 in
theorem ms_cp_9_155 : ms_callP 9 155 7 213 4 := ⟨⟨by decide, (ms_in_t (i := 0) rfl rfl), by decide +kernel, rfl⟩, Or.inr (Or.inr (Or.inr (Or.inr (Or.inr ⟨rfl, by decide, (ms_in_t (i := 667) rfl rfl), (ms_in_t (i := 668) rfl rfl)⟩))))⟩
set_option maxRecDepth 100000 in
theorem ms_cp_9_157 : ms_callP 9 157 0 167 2 := ⟨⟨by decide, (ms_in_t (i := 9) rfl rfl), by decide +kernel, rfl⟩, Or.inl ⟨rfl, rfl, (ms_in_t (i := 1219) rfl rfl), (ms_in_t (i := 1220) rfl rfl), (ms_in_t (i := 1221) rfl rfl), by decide⟩⟩
set_option maxRecDepth 100000 in
theorem ms_cp_9_158 : ms_callP 9 158 7 214 4 := ⟨⟨by decide, (ms_in_t (i := 0) rfl rfl), by decide +kernel, rfl⟩, Or.inr (Or.inr (Or.inr (Or.inr (Or.inr ⟨rfl, by decide, (ms_in_t (i := 684) rfl rfl), (ms_in_t (i := 685) rfl rfl)⟩))))⟩
set_option maxRecDepth 100000 in
theorem ms_cp_9_160 : ms_callP 9 160 0 168 2 := ⟨⟨by decide, (ms_in_t (i := 9) rfl rfl), by decide +kernel, rfl⟩, Or.inl ⟨rfl, rfl, (ms_in_t (i := 1227) rfl rfl), (ms_in_t (i := 1228) rfl rfl), (ms_in_t (i := 1229) rfl rfl), by decide⟩⟩
set_option maxRecDepth 100000 in
theorem ms_cp_9_161 : ms_callP 9 161 7 215 6 := ⟨⟨by decide, (ms_in_t (i := 0) rfl rfl), by decide +kernel, rfl⟩, Or.inr (Or.inr (Or.inr (Or.inr (Or.inr ⟨rfl, by decide, (ms_in_t (i := 695) rfl rfl), (ms_in_t (i := 696) rfl rfl)⟩))))⟩
set_option maxRecDepth 100000 in
theorem ms_cp_9_163 : ms_callP 9 163 0 169 4 := ⟨⟨by decide, (ms_in_t (i := 9) rfl rfl), by decide +kernel, rfl⟩, Or.inl ⟨rfl, rfl, (ms_in_t (i := 1231) rfl rfl), (ms_in_t (i := 1232) rfl rfl), (ms_in_t (i := 1233) rfl rfl), by decide⟩⟩
set_option maxRecDepth 100000 in
theorem ms_cp_9_164 : ms_callP 9 164 7 216 4 := ⟨⟨by decide, (ms_in_t (i := 0) rfl rfl), by decide +kernel, rfl⟩, Or.inr (Or.inr (Or.inr (Or.inr (Or.inr ⟨rfl, by decide, (ms_in_t (i := 710) rfl rfl), (ms_in_t (i := 711) rfl rfl)⟩))))⟩
set_option maxRecDepth 100000 in
theorem ms_cp_9_166 : ms_callP 9 166 0 170 2 := ⟨⟨by decide, (ms_in_t (i := 9) rfl rfl), by decide +kernel, rfl⟩, Or.inl ⟨rfl, rfl, (ms_in_t (i := 1235) rfl rfl), (ms_in_t (i := 1236) rfl rfl), (ms_in_t (i := 1237) rfl rfl), by decide⟩⟩
set_option maxRecDepth 100000 in
theorem ms_cp_9_167 : ms_callP 9 167 7 217 3 := ⟨⟨by decide, (ms_in_t (i := 0) rfl rfl), by decide +kernel, rfl⟩, Or.inr (Or.inr (Or.inr (Or.inr (Or.inr ⟨rfl, by decide, (ms_in_t (i := 726) rfl rfl), (ms_in_t (i := 727) rfl rfl)⟩))))⟩
set_option maxRecDepth 100000 in
theorem ms_cp_9_169 : ms_callP 9 169 0 172 1 := ⟨⟨by decide, (ms_in_t (i := 9) rfl rfl), by decide +kernel, rfl⟩, Or.inl ⟨rfl, rfl, (ms_in_t (i := 1243) rfl rfl), (ms_in_t (i := 1244) rfl rfl), (ms_in_t (i := 1245) rfl rfl), by decide⟩⟩
set_option maxRecDepth 100000 in
theorem ms_cp_9_170 : ms_callP 9 170 7 218 2 := ⟨⟨by decide, (ms_in_t (i := 0) rfl rfl), by decide +kernel, rfl⟩, Or.inr (Or.inr (Or.inr (Or.inr (Or.inr ⟨rfl, by decide, (ms_in_t (i := 733) rfl rfl), (ms_in_t (i := 734) rfl rfl)⟩))))⟩
set_option maxRecDepth 100000 in
theorem ms_cp_9_172 : ms_callP 9 172 0 173 0 := ⟨⟨by decide, (ms_in_t (i := 9) rfl rfl), by decide +kernel, rfl⟩, Or.inl ⟨rfl, rfl, (ms_in_t (i := 1247) rfl rfl), (ms_in_t (i := 1248) rfl rfl), (ms_in_t (i := 1249) rfl rfl), by decide⟩⟩
set_option maxRecDepth 100000 in
theorem ms_cp_9_173 : ms_callP 9 173 7 219 6 := ⟨⟨by decide, (ms_in_t (i := 0) rfl rfl), by decide +kernel, rfl⟩, Or.inr (Or.inr (Or.inr (Or.inr (Or.inr ⟨rfl, by decide, (ms_in_t (i := 741) rfl rfl), (ms_in_t (i := 742) rfl rfl)⟩))))⟩
set_option maxRecDepth 100000 in
theorem ms_cp_9_175 : ms_callP 9 175 0 177 4 := ⟨⟨by decide, (ms_in_t (i := 9) rfl rfl), by decide +kernel, rfl⟩, Or.inl ⟨rfl, rfl, (ms_in_t (i := 1251) rfl rfl), (ms_in_t (i := 1252) rfl rfl), (ms_in_t (i := 1253) rfl rfl), by decide⟩⟩
set_option maxRecDepth 100000 in
theorem ms_cp_9_176 : ms_callP 9 176 7 220 5 := ⟨⟨by decide, (ms_in_t (i := 0) rfl rfl), by decide +kernel, rfl⟩, Or.inr (Or.inr (Or.inr (Or.inr (Or.inr ⟨rfl, by decide, (ms_in_t (i := 760) rfl rfl), (ms_in_t (i := 761) rfl rfl)⟩))))⟩
set_option maxRecDepth 100000 in
theorem ms_cp_9_179 : ms_callP 9 179 0 179 3 := ⟨⟨by decide, (ms_in_t (i := 9) rfl rfl), by decide +kernel, rfl⟩, Or.inl ⟨rfl, rfl, (ms_in_t (i := 1258) rfl rfl), (ms_in_t (i := 1259) rfl rfl), (ms_in_t (i := 1260) rfl rfl), by decide⟩⟩
set_option maxRecDepth 100000 in
theorem ms_cp_9_180 : ms_callP 9 180 7 221 3 := ⟨⟨by decide, (ms_in_t (i := 0) rfl rfl), by decide +kernel, rfl⟩, Or.inr (Or.inr (Or.inr (Or.inr (Or.inr ⟨rfl, by decide, (ms_in_t (i := 786) rfl rfl), (ms_in_t (i := 787) rfl rfl)⟩))))⟩
set_option maxRecDepth 100000 in
theorem ms_cp_9_182 : ms_callP 9 182 0 184 1 := ⟨⟨by decide, (ms_in_t (i := 9) rfl rfl), by decide +kernel, rfl⟩, Or.inl ⟨rfl, rfl, (ms_in_t (i := 1274) rfl rfl), (ms_in_t (i := 1275) rfl rfl), (ms_in_t (i := 1276) rfl rfl), by decide⟩⟩
set_option maxRecDepth 100000 in
theorem ms_cp_9_183 : ms_callP 9 183 7 222 4 := ⟨⟨by decide, (ms_in_t (i := 0) rfl rfl), by decide +kernel, rfl⟩, Or.inr (Or.inr (Or.inr (Or.inr (Or.inr ⟨rfl, by decide, (ms_in_t (i := 830) rfl rfl), (ms_in_t (i := 831) rfl rfl)⟩))))⟩
set_option maxRecDepth 100000 in
theorem ms_cp_9_185 : ms_callP 9 185 0 185 2 := ⟨⟨by decide, (ms_in_t (i := 9) rfl rfl), by decide +kernel, rfl⟩, Or.inl ⟨rfl, rfl, (ms_in_t (i := 1294) rfl rfl), (ms_in_t (i := 1295) rfl rfl), (ms_in_t (i := 1296) rfl rfl), by decide⟩⟩
set_option maxRecDepth 100000 in
theorem ms_cp_9_186 : ms_callP 9 186 7 223 4 := ⟨⟨by decide, (ms_in_t (i := 0) rfl rfl), by decide +kernel, rfl⟩, Or.inr (Or.inr (Or.inr (Or.inr (Or.inr ⟨rfl, by decide, (ms_in_t (i := 853) rfl rfl), (ms_in_t (i := 854) rfl rfl)⟩))))⟩
set_option maxRecDepth 100000 in
theorem ms_cp_9_188 : ms_callP 9 188 0 186 2 := ⟨⟨by decide, (ms_in_t (i := 9) rfl rfl), by decide +kernel, rfl⟩, Or.inl ⟨rfl, rfl, (ms_in_t (i := 1298) rfl rfl), (ms_in_t (i := 1299) rfl rfl), (ms_in_t (i := 1300) rfl rfl), by decide⟩⟩
set_option maxRecDepth 100000 in
theorem ms_cp_9_189 : ms_callP 9 189 7 224 3 := ⟨⟨by decide, (ms_in_t (i := 0) rfl rfl), by decide +kernel, rfl⟩, Or.inr (Or.inr (Or.inr (Or.inr (Or.inr ⟨rfl, by decide, (ms_in_t (i := 860) rfl rfl), (ms_in_t (i := 861) rfl rfl)⟩))))⟩
set_option maxRecDepth 100000 in
theorem ms_cp_9_191 : ms_callP 9 191 0 187 1 := ⟨⟨by decide, (ms_in_t (i := 9) rfl rfl), by decide +kernel, rfl⟩, Or.inl ⟨rfl, rfl, (ms_in_t (i := 1302) rfl rfl), (ms_in_t (i := 1303) rfl rfl), (ms_in_t (i := 1304) rfl rfl), by decide⟩⟩
set_option maxRecDepth 100000 in
theorem ms_cp_9_192 : ms_callP 9 192 7 225 2 := ⟨⟨by decide, (ms_in_t (i := 0) rfl rfl), by decide +kernel, rfl⟩, Or.inr (Or.inr (Or.inr (Or.inr (Or.inr ⟨rfl, by decide, (ms_in_t (i := 873) rfl rfl), (ms_in_t (i := 874) rfl rfl)⟩))))⟩
set_option maxRecDepth 100000 in
theorem ms_cp_9_195 : ms_callP 9 195 0 188 1 := ⟨⟨by decide, (ms_in_t (i := 9) rfl rfl), by decide +kernel, rfl⟩, Or.inl ⟨rfl, rfl, (ms_in_t (i := 1306) rfl rfl), (ms_in_t (i := 1307) rfl rfl), (ms_in_t (i := 1308) rfl rfl), by decide⟩⟩
set_option maxRecDepth 100000 in
theorem ms_cp_9_196 : ms_callP 9 196 7 226 2 := ⟨⟨by decide, (ms_in_t (i := 0) rfl rfl), by decide +kernel, rfl⟩, Or.inr (Or.inr (Or.inr (Or.inr (Or.inr ⟨rfl, by decide, (ms_in_t (i := 885) rfl rfl), (ms_in_t (i := 886) rfl rfl)⟩))))⟩
set_option maxRecDepth 100000 in
theorem ms_cp_9_198 : ms_callP 9 198 0 197 0 := ⟨⟨by decide, (ms_in_t (i := 9) rfl rfl), by decide +kernel, rfl⟩, Or.inl ⟨rfl, rfl, (ms_in_t (i := 1314) rfl rfl), (ms_in_t (i := 1315) rfl rfl), (ms_in_t (i := 1316) rfl rfl), by decide⟩⟩
set_option maxRecDepth 100000 in
theorem ms_cp_9_199 : ms_callP 9 199 0 109 0 := ⟨⟨by decide, (ms_in_t (i := 1) rfl rfl), by decide +kernel, rfl⟩, Or.inl ⟨rfl, rfl, (ms_in_t (i := 245) rfl rfl), (ms_in_t (i := 246) rfl rfl), (ms_in_t (i := 247) rfl rfl), by decide⟩⟩
set_option maxRecDepth 100000 in
theorem ms_cp_9_202 : ms_callP 9 202 0 189 0 := ⟨⟨by decide, (ms_in_t (i := 9) rfl rfl), by decide +kernel, rfl⟩, Or.inl ⟨rfl, rfl, (ms_in_t (i := 1310) rfl rfl), (ms_in_t (i := 1311) rfl rfl), (ms_in_t (i := 1312) rfl rfl), by decide⟩⟩
set_option maxRecDepth 100000 in
theorem ms_cp_9_203 : ms_callP 9 203 7 227 3 := ⟨⟨by decide, (ms_in_t (i := 0) rfl rfl), by decide +kernel, rfl⟩, Or.inr (Or.inr (Or.inr (Or.inr (Or.inr ⟨rfl, by decide, (ms_in_t (i := 947) rfl rfl), (ms_in_t (i := 948) rfl rfl)⟩))))⟩
set_option maxRecDepth 100000 in
theorem ms_cp_9_205 : ms_callP 9 205 0 201 1 := ⟨⟨by decide, (ms_in_t (i := 9) rfl rfl), by decide +kernel, rfl⟩, Or.inl ⟨rfl, rfl, (ms_in_t (i := 1346) rfl rfl), (ms_in_t (i := 1347) rfl rfl), (ms_in_t (i := 1348) rfl rfl), by decide⟩⟩
set_option maxRecDepth 100000 in
theorem ms_cp_9_206 : ms_callP 9 206 7 228 3 := ⟨⟨by decide, (ms_in_t (i := 0) rfl rfl), by decide +kernel, rfl⟩, Or.inr (Or.inr (Or.inr (Or.inr (Or.inr ⟨rfl, by decide, (ms_in_t (i := 975) rfl rfl), (ms_in_t (i := 976) rfl rfl)⟩))))⟩
set_option maxRecDepth 100000 in
theorem ms_cp_9_209 : ms_callP 9 209 0 202 1 := ⟨⟨by decide, (ms_in_t (i := 9) rfl rfl), by decide +kernel, rfl⟩, Or.inl ⟨rfl, rfl, (ms_in_t (i := 1362) rfl rfl), (ms_in_t (i := 1363) rfl rfl), (ms_in_t (i := 1364) rfl rfl), by decide⟩⟩
set_option maxRecDepth 100000 in
theorem ms_cp_9_210 : ms_callP 9 210 7 229 2 := ⟨⟨by decide, (ms_in_t (i := 0) rfl rfl), by decide +kernel, rfl⟩, Or.inr (Or.inr (Or.inr (Or.inr (Or.inr ⟨rfl, by decide, (ms_in_t (i := 982) rfl rfl), (ms_in_t (i := 983) rfl rfl)⟩))))⟩
set_option maxRecDepth 100000 in
theorem ms_cp_9_212 : ms_callP 9 212 0 138 0 := ⟨⟨by decide, (ms_in_t (i := 9) rfl rfl), by decide +kernel, rfl⟩, Or.inl ⟨rfl, rfl, (ms_in_t (i := 1068) rfl rfl), (ms_in_t (i := 1069) rfl rfl), (ms_in_t (i := 1070) rfl rfl), by decide⟩⟩
set_option maxRecDepth 100000 in
theorem ms_cp_9_213 : ms_callP 9 213 0 113 0 := ⟨⟨by decide, (ms_in_t (i := 1) rfl rfl), by decide +kernel, rfl⟩, Or.inl ⟨rfl, rfl, (ms_in_t (i := 249) rfl rfl), (ms_in_t (i := 250) rfl rfl), (ms_in_t (i := 251) rfl rfl), by decide⟩⟩
set_option maxRecDepth 100000 in
theorem ms_cp_9_216 : ms_callP 9 216 0 139 0 := ⟨⟨by decide, (ms_in_t (i := 9) rfl rfl), by decide +kernel, rfl⟩, Or.inl ⟨rfl, rfl, (ms_in_t (i := 1075) rfl rfl), (ms_in_t (i := 1076) rfl rfl), (ms_in_t (i := 1077) rfl rfl), by decide⟩⟩
set_option maxRecDepth 100000 in
theorem ms_cp_9_217 : ms_callP 9 217 7 230 1 := ⟨⟨by decide, (ms_in_t (i := 0) rfl rfl), by decide +kernel, rfl⟩, Or.inr (Or.inr (Or.inr (Or.inr (Or.inr ⟨rfl, by decide, (ms_in_t (i := 994) rfl rfl), (ms_in_t (i := 995) rfl rfl)⟩))))⟩
set_option maxRecDepth 100000 in
theorem ms_cp_9_220 : ms_callP 9 220 0 140 0 := ⟨⟨by decide, (ms_in_t (i := 9) rfl rfl), by decide +kernel, rfl⟩, Or.inl ⟨rfl, rfl, (ms_in_t (i := 1079) rfl rfl), (ms_in_t (i := 1080) rfl rfl), (ms_in_t (i := 1081) rfl rfl), by decide⟩⟩
set_option maxRecDepth 100000 in
set_option maxHeartbeats 4000000 in
theorem ms_call_ok : ∀ q ∈ mMetT, q.2.1 < 10 → ms_callP q.1.1 q.1.2 q.2.1 q.2.2.1 q.2.2.2 := List.forall_mem_cons.mpr ⟨(fun h => absurd h (by decide)), List.forall_mem_cons.mpr ⟨(fun _ => ms_cp_0_22), List.forall_mem_cons.mpr ⟨(fun _ => ms_cp_0_25), List.forall_mem_cons.mpr ⟨(fun _ => ms_cp_0_29), List.forall_mem_cons.mpr ⟨(fun _ => ms_cp_0_33), List.forall_mem_cons.mpr ⟨(fun _ => ms_cp_0_36), List.forall_mem_cons.mpr ⟨(fun _ => ms_cp_0_39), List.forall_mem_cons.mpr ⟨(fun _ => ms_cp_0_42), List.forall_mem_cons.mpr ⟨(fun _ => ms_cp_0_45), List.forall_mem_cons.mpr ⟨(fun _ => ms_cp_0_49), List.forall_mem_cons.mpr ⟨(fun _ => ms_cp_0_53), List.forall_mem_cons.mpr ⟨(fun _ => ms_cp_0_65), List.forall_mem_cons.mpr ⟨(fun h => absurd h (by decide)), List.forall_mem_cons.mpr ⟨(fun h => absurd h (by decide)), List.forall_mem_cons.mpr ⟨(fun _ => ms_cp_1_28), List.forall_mem_cons.mpr ⟨(fun h => absurd h (by decide)), List.forall_mem_cons.mpr ⟨(fun _ => ms_cp_2_24), List.forall_mem_cons.mpr ⟨(fun _ => ms_cp_2_28), List.forall_mem_cons.mpr ⟨(fun _ => ms_cp_2_32), List.forall_mem_cons.mpr ⟨(fun _ => ms_cp_2_38), List.forall_mem_cons.mpr ⟨(fun _ => ms_cp_2_42), List.forall_mem_cons.mpr ⟨(fun _ => ms_cp_2_49), List.forall_mem_cons.mpr ⟨(fun _ => ms_cp_2_56), List.forall_mem_cons.mpr ⟨(fun _ => ms_cp_2_60), List.forall_mem_cons.mpr ⟨(fun _ => ms_cp_2_64), List.forall_mem_cons.mpr ⟨(fun h => absurd h (by decide)), List.forall_mem_cons.mpr ⟨(fun _ => ms_cp_3_17), List.forall_mem_cons.mpr ⟨(fun _ => ms_cp_3_24), List.forall_mem_cons.mpr ⟨(fun h => absurd h (by decide)), List.forall_mem_cons.mpr ⟨(fun h => absurd h (by decide)), List.forall_mem_cons.mpr ⟨(fun _ => ms_cp_4_11), List.forall_mem_cons.mpr ⟨(fun _ => ms_cp_4_20), List.forall_mem_cons.mpr ⟨(fun _ => ms_cp_4_27), List.forall_mem_cons.mpr ⟨(fun _ => ms_cp_4_43), List.forall_mem_cons.mpr ⟨(fun _ => ms_cp_4_47), List.forall_mem_cons.mpr ⟨(fun _ => ms_cp_4_50), List.forall_mem_cons.mpr ⟨(fun h => absurd h (by decide)), List.forall_mem_cons.mpr ⟨(fun _ => ms_cp_4_64), List.forall_mem_cons.mpr ⟨(fun _ => ms_cp_4_68), List.forall_mem_cons.mpr ⟨(fun _ => ms_cp_4_73), List.forall_mem_cons.mpr ⟨(fun _ => ms_cp_4_78), List.forall_mem_cons.mpr ⟨(fun _ => ms_cp_4_82), List.forall_mem_cons.mpr ⟨(fun _ => ms_cp_4_86), List.forall_mem_cons.mpr ⟨(fun _ => ms_cp_4_90), List.forall_mem_cons.mpr ⟨(fun _ => ms_cp_4_93), List.forall_mem_cons.mpr ⟨(fun _ => ms_cp_4_102), List.forall_mem_cons.mpr ⟨(fun _ => ms_cp_4_106), List.forall_mem_cons.mpr ⟨(fun _ => ms_cp_4_109), List.forall_mem_cons.mpr ⟨(fun _ => ms_cp_4_113), List.forall_mem_cons.mpr ⟨(fun _ => ms_cp_4_117), List.forall_mem_cons.mpr ⟨(fun _ => ms_cp_4_120), List.forall_mem_cons.mpr ⟨(fun _ => ms_cp_4_124), List.forall_mem_cons.mpr ⟨(fun _ => ms_cp_4_128), List.forall_mem_cons.mpr ⟨(fun _ => ms_cp_4_129), List.forall_mem_cons.mpr ⟨(fun _ => ms_cp_4_132), List.forall_mem_cons.mpr ⟨(fun _ => ms_cp_4_135), List.forall_mem_cons.mpr ⟨(fun _ => ms_cp_4_138), List.forall_mem_cons.mpr ⟨(fun _ => ms_cp_4_144), List.forall_mem_cons.mpr ⟨(fun _ => ms_cp_4_150), List.forall_mem_cons.mpr ⟨(fun _ => ms_cp_4_154), List.forall_mem_cons.mpr ⟨(fun _ => ms_cp_4_158), List.forall_mem_cons.mpr ⟨(fun h => absurd h (by decide)), List.forall_mem_cons.mpr ⟨(fun _ => ms_cp_4_170), List.forall_mem_cons.mpr ⟨(fun h => absurd h (by decide)), List.forall_mem_cons.mpr ⟨(fun h => absurd h (by decide)), List.forall_mem_cons.mpr ⟨(fun _ => ms_cp_5_28), List.forall_mem_cons.mpr ⟨(fun _ => ms_cp_5_32), List.forall_mem_cons.mpr ⟨(fun _ => ms_cp_5_35), List.forall_mem_cons.mpr ⟨(fun _ => ms_cp_5_39), List.forall_mem_cons.mpr ⟨(fun _ => ms_cp_5_43), List.forall_mem_cons.mpr ⟨(fun _ => ms_cp_5_47), List.forall_mem_cons.mpr ⟨(fun h => absurd h (by decide)), List.forall_mem_cons.mpr ⟨(fun h => absurd h (by decide)), List.forall_mem_cons.mpr ⟨(fun _ => ms_cp_6_46), List.forall_mem_cons.mpr ⟨(fun _ => ms_cp_6_50), List.forall_mem_cons.mpr ⟨(fun _ => ms_cp_6_54), List.forall_mem_cons.mpr ⟨(fun _ => ms_cp_6_58), List.forall_mem_cons.mpr ⟨(fun _ => ms_cp_6_62), List.forall_mem_cons.mpr ⟨(fun h => absurd h (by decide)), List.forall_mem_cons.mpr ⟨(fun _ => ms_cp_7_9), List.forall_mem_cons.mpr ⟨(fun _ => ms_cp_7_12), List.forall_mem_cons.mpr ⟨(fun _ => ms_cp_7_29), List.forall_mem_cons.mpr ⟨(fun _ => ms_cp_7_36), List.forall_mem_cons.mpr ⟨(fun _ => ms_cp_7_48), List.forall_mem_cons.mpr ⟨(fun _ => ms_cp_7_52), List.forall_mem_cons.mpr ⟨(fun _ => ms_cp_7_55), List.forall_mem_cons.mpr ⟨(fun _ => ms_cp_7_59), List.forall_mem_cons.mpr ⟨(fun _ => ms_cp_7_83), List.forall_mem_cons.mpr ⟨(fun _ => ms_cp_7_87), List.forall_mem_cons.mpr ⟨(fun _ => ms_cp_7_91), List.forall_mem_cons.mpr ⟨(fun _ => ms_cp_7_95), List.forall_mem_cons.mpr ⟨(fun _ => ms_cp_7_118), List.forall_mem_cons.mpr ⟨(fun _ => ms_cp_7_131), List.forall_mem_cons.mpr ⟨(fun _ => ms_cp_7_142), List.forall_mem_cons.mpr ⟨(fun _ => ms_cp_7_150), List.forall_mem_cons.mpr ⟨(fun _ => ms_cp_7_156), List.forall_mem_cons.mpr ⟨(fun _ => ms_cp_7_160), List.forall_mem_cons.mpr ⟨(fun _ => ms_cp_7_163), List.forall_mem_cons.mpr ⟨(fun _ => ms_cp_7_166), List.forall_mem_cons.mpr ⟨(fun _ => ms_cp_7_170), List.forall_mem_cons.mpr ⟨(fun _ => ms_cp_7_173), List.forall_mem_cons.mpr ⟨(fun _ => ms_cp_7_177), List.forall_mem_cons.mpr ⟨(fun _ => ms_cp_7_180), List.forall_mem_cons.mpr ⟨(fun _ => ms_cp_7_191), List.forall_mem_cons.mpr ⟨(fun _ => ms_cp_7_194), List.forall_mem_cons.mpr ⟨(fun _ => ms_cp_7_200), List.forall_mem_cons.mpr ⟨(fun _ => ms_cp_7_205), List.forall_mem_cons.mpr ⟨(fun _ => ms_cp_7_208), List.forall_mem_cons.mpr ⟨(fun _ => ms_cp_7_212), List.forall_mem_cons.mpr ⟨(fun _ => ms_cp_7_215), List.forall_mem_cons.mpr ⟨(fun _ => ms_cp_7_231), List.forall_mem_cons.mpr ⟨(fun _ => ms_cp_7_234), List.forall_mem_cons.mpr ⟨(fun _ => ms_cp_7_237), List.forall_mem_cons.mpr ⟨(fun _ => ms_cp_7_240), List.forall_mem_cons.mpr ⟨(fun _ => ms_cp_7_243), List.forall_mem_cons.mpr ⟨(fun _ => ms_cp_7_247), List.forall_mem_cons.mpr ⟨(fun _ => ms_cp_7_250), List.forall_mem_cons.mpr ⟨(fun _ => ms_cp_7_254), List.forall_mem_cons.mpr ⟨(fun _ => ms_cp_7_257), List.forall_mem_cons.mpr ⟨(fun _ => ms_cp_7_258), List.forall_mem_cons.mpr ⟨(fun _ => ms_cp_7_261), List.forall_mem_cons.mpr ⟨(fun _ => ms_cp_7_264), List.forall_mem_cons.mpr ⟨(fun _ => ms_cp_7_271), List.forall_mem_cons.mpr ⟨(fun _ => ms_cp_7_281), List.forall_mem_cons.mpr ⟨(fun _ => ms_cp_7_285), List.forall_mem_cons.mpr ⟨(fun _ => ms_cp_7_288), List.forall_mem_cons.mpr ⟨(fun _ => ms_cp_7_293), List.forall_mem_cons.mpr ⟨(fun _ => ms_cp_7_296), List.forall_mem_cons.mpr ⟨(fun _ => ms_cp_7_299), List.forall_mem_cons.mpr ⟨(fun _ => ms_cp_7_319), List.forall_mem_cons.mpr ⟨(fun _ => ms_cp_7_322), List.forall_mem_cons.mpr ⟨(fun _ => ms_cp_7_326), List.forall_mem_cons.mpr ⟨(fun _ => ms_cp_7_329), List.forall_mem_cons.mpr ⟨(fun _ => ms_cp_7_332), List.forall_mem_cons.mpr ⟨(fun _ => ms_cp_7_335), List.forall_mem_cons.mpr ⟨(fun _ => ms_cp_7_348), List.forall_mem_cons.mpr ⟨(fun _ => ms_cp_7_356), List.forall_mem_cons.mpr ⟨(fun _ => ms_cp_7_363), List.forall_mem_cons.mpr ⟨(fun _ => ms_cp_7_374), List.forall_mem_cons.mpr ⟨(fun h => absurd h (by decide)), List.forall_mem_cons.mpr ⟨(fun _ => ms_cp_8_48), List.forall_mem_cons.mpr ⟨(fun _ => ms_cp_8_52), List.forall_mem_cons.mpr ⟨(fun _ => ms_cp_8_56), List.forall_mem_cons.mpr ⟨(fun _ => ms_cp_8_63), List.forall_mem_cons.mpr ⟨(fun _ => ms_cp_8_71), List.forall_mem_cons.mpr ⟨(fun _ => ms_cp_8_75), List.forall_mem_cons.mpr ⟨(fun _ => ms_cp_8_80), List.forall_mem_cons.mpr ⟨(fun _ => ms_cp_8_83), List.forall_mem_cons.mpr ⟨(fun _ => ms_cp_8_86), List.forall_mem_cons.mpr ⟨(fun _ => ms_cp_8_89), List.forall_mem_cons.mpr ⟨(fun _ => ms_cp_8_95), List.forall_mem_cons.mpr ⟨(fun _ => ms_cp_8_101), List.forall_mem_cons.mpr ⟨(fun _ => ms_cp_8_105), List.forall_mem_cons.mpr ⟨(fun _ => ms_cp_8_114), List.forall_mem_cons.mpr ⟨(fun _ => ms_cp_8_117), List.forall_mem_cons.mpr ⟨(fun _ => ms_cp_8_120), List.forall_mem_cons.mpr ⟨(fun _ => ms_cp_8_123), List.forall_mem_cons.mpr ⟨(fun _ => ms_cp_8_127), List.forall_mem_cons.mpr ⟨(fun _ => ms_cp_8_130), List.forall_mem_cons.mpr ⟨(fun _ => ms_cp_8_133), List.forall_mem_cons.mpr ⟨(fun _ => ms_cp_8_136), List.forall_mem_cons.mpr ⟨(fun _ => ms_cp_8_139), List.forall_mem_cons.mpr ⟨(fun _ => ms_cp_8_143), List.forall_mem_cons.mpr ⟨(fun _ => ms_cp_8_147), List.forall_mem_cons.mpr ⟨(fun _ => ms_cp_8_150), List.forall_mem_cons.mpr ⟨(fun _ => ms_cp_8_153), List.forall_mem_cons.mpr ⟨(fun _ => ms_cp_8_157), List.forall_mem_cons.mpr ⟨(fun _ => ms_cp_8_160), List.forall_mem_cons.mpr ⟨(fun _ => ms_cp_8_163), List.forall_mem_cons.mpr ⟨(fun _ => ms_cp_8_166), List.forall_mem_cons.mpr ⟨(fun _ => ms_cp_8_169), List.forall_mem_cons.mpr ⟨(fun _ => ms_cp_8_172), List.forall_mem_cons.mpr ⟨(fun _ => ms_cp_8_175), List.forall_mem_cons.mpr ⟨(fun _ => ms_cp_8_179), List.forall_mem_cons.mpr ⟨(fun _ => ms_cp_8_188), List.forall_mem_cons.mpr ⟨(fun _ => ms_cp_8_191), List.forall_mem_cons.mpr ⟨(fun _ => ms_cp_8_194), List.forall_mem_cons.mpr ⟨(fun _ => ms_cp_8_200), List.forall_mem_cons.mpr ⟨(fun _ => ms_cp_8_203), List.forall_mem_cons.mpr ⟨(fun _ => ms_cp_8_206), List.forall_mem_cons.mpr ⟨(fun _ => ms_cp_8_209), List.forall_mem_cons.mpr ⟨(fun _ => ms_cp_8_212), List.forall_mem_cons.mpr ⟨(fun _ => ms_cp_8_215), List.forall_mem_cons.mpr ⟨(fun _ => ms_cp_8_218), List.forall_mem_cons.mpr ⟨(fun _ => ms_cp_9_7), List.forall_mem_cons.mpr ⟨(fun _ => ms_cp_9_17), List.forall_mem_cons.mpr ⟨(fun _ => ms_cp_9_23), List.forall_mem_cons.mpr ⟨(fun _ => ms_cp_9_26), List.forall_mem_cons.mpr ⟨(fun _ => ms_cp_9_29), List.forall_mem_cons.mpr ⟨(fun _ => ms_cp_9_32), List.forall_mem_cons.mpr ⟨(fun _ => ms_cp_9_36), List.forall_mem_cons.mpr ⟨(fun _ => ms_cp_9_42), List.forall_mem_cons.mpr ⟨(fun _ => ms_cp_9_45), List.forall_mem_cons.mpr ⟨(fun _ => ms_cp_9_50), List.forall_mem_cons.mpr ⟨(fun _ => ms_cp_9_54), List.forall_mem_cons.mpr ⟨(fun _ => ms_cp_9_57), List.forall_mem_cons.mpr ⟨(fun _ => ms_cp_9_60), List.forall_mem_cons.mpr ⟨(fun _ => ms_cp_9_63), List.forall_mem_cons.mpr ⟨(fun _ => ms_cp_9_66), List.forall_mem_cons.mpr ⟨(fun _ => ms_cp_9_69), List.forall_mem_cons.mpr ⟨(fun _ => ms_cp_9_72), List.forall_mem_cons.mpr ⟨(fun _ => ms_cp_9_75), List.forall_mem_cons.mpr ⟨(fun _ => ms_cp_9_79), List.forall_mem_cons.mpr ⟨(fun _ => ms_cp_9_82), List.forall_mem_cons.mpr ⟨(fun _ => ms_cp_9_85), List.forall_mem_cons.mpr ⟨(fun _ => ms_cp_9_88), List.forall_mem_cons.mpr ⟨(fun _ => ms_cp_9_91), List.forall_mem_cons.mpr ⟨(fun _ => ms_cp_9_95), List.forall_mem_cons.mpr ⟨(fun _ => ms_cp_9_98), List.forall_mem_cons.mpr ⟨(fun _ => ms_cp_9_101), List.forall_mem_cons.mpr ⟨(fun _ => ms_cp_9_105), List.forall_mem_cons.mpr ⟨(fun _ => ms_cp_9_108), List.forall_mem_cons.mpr ⟨(fun _ => ms_cp_9_111), List.forall_mem_cons.mpr ⟨(fun _ => ms_cp_9_114), List.forall_mem_cons.mpr ⟨(fun _ => ms_cp_9_115), List.forall_mem_cons.mpr ⟨(fun _ => ms_cp_9_120), List.forall_mem_cons.mpr ⟨(fun _ => ms_cp_9_121), List.forall_mem_cons.mpr ⟨(fun _ => ms_cp_9_124), List.forall_mem_cons.mpr ⟨(fun _ => ms_cp_9_127), List.forall_mem_cons.mpr ⟨(fun _ => ms_cp_9_128), List.forall_mem_cons.mpr ⟨(fun _ => ms_cp_9_130), List.forall_mem_cons.mpr ⟨(fun _ => ms_cp_9_131), List.forall_mem_cons.mpr ⟨(fun _ => ms_cp_9_133), List.forall_mem_cons.mpr ⟨(fun _ => ms_cp_9_134), List.forall_mem_cons.mpr ⟨(fun _ => ms_cp_9_136), List.forall_mem_cons.mpr ⟨(fun _ => ms_cp_9_137), List.forall_mem_cons.mpr ⟨(fun _ => ms_cp_9_140), List.forall_mem_cons.mpr ⟨(fun _ => ms_cp_9_141), List.forall_mem_cons.mpr ⟨(fun _ => ms_cp_9_144), List.forall_mem_cons.mpr ⟨(fun _ => ms_cp_9_145), List.forall_mem_cons.mpr ⟨(fun _ => ms_cp_9_147), List.forall_mem_cons.mpr ⟨(fun _ => ms_cp_9_148), List.forall_mem_cons.mpr ⟨(fun _ => ms_cp_9_150), List.forall_mem_cons.mpr ⟨(fun _ => ms_cp_9_151), List.forall_mem_cons.mpr ⟨(fun _ => ms_cp_9_154), List.forall_mem_cons.mpr ⟨(fun _ => ms_cp_9_155), List.forall_mem_cons.mpr ⟨(fun _ => ms_cp_9_157), List.forall_mem_cons.mpr ⟨(fun _ => ms_cp_9_158), List.forall_mem_cons.mpr ⟨(fun _ => ms_cp_9_160), List.forall_mem_cons.mpr ⟨(fun _ => ms_cp_9_161), List.forall_mem_cons.mpr ⟨(fun _ => ms_cp_9_163), List.forall_mem_cons.mpr ⟨(fun _ => ms_cp_9_164), List.forall_mem_cons.mpr ⟨(fun _ => ms_cp_9_166), List.forall_mem_cons.mpr ⟨(fun _ => ms_cp_9_167), List.forall_mem_cons.mpr ⟨(fun _ => ms_cp_9_169), List.forall_mem_cons.mpr ⟨(fun _ => ms_cp_9_170), List.forall_mem_cons.mpr ⟨(fun _ => ms_cp_9_172), List.forall_mem_cons.mpr ⟨(fun _ => ms_cp_9_173), List.forall_mem_cons.mpr ⟨(fun _ => ms_cp_9_175), List.forall_mem_cons.mpr ⟨(fun _ => ms_cp_9_176), List.forall_mem_cons.mpr ⟨(fun _ => ms_cp_9_179), List.forall_mem_cons.mpr ⟨(fun _ => ms_cp_9_180), List.forall_mem_cons.mpr ⟨(fun _ => ms_cp_9_182), List.forall_mem_cons.mpr ⟨(fun _ => ms_cp_9_183), List.forall_mem_cons.mpr ⟨(fun _ => ms_cp_9_185), List.forall_mem_cons.mpr ⟨(fun _ => ms_cp_9_186), List.forall_mem_cons.mpr ⟨(fun _ => ms_cp_9_188), List.forall_mem_cons.mpr ⟨(fun _ => ms_cp_9_189), List.forall_mem_cons.mpr ⟨(fun _ => ms_cp_9_191), List.forall_mem_cons.mpr ⟨(fun _ => ms_cp_9_192), List.forall_mem_cons.mpr ⟨(fun _ => ms_cp_9_195), List.forall_mem_cons.mpr ⟨(fun _ => ms_cp_9_196), List.forall_mem_cons.mpr ⟨(fun _ => ms_cp_9_198), List.forall_mem_cons.mpr ⟨(fun _ => ms_cp_9_199), List.forall_mem_cons.mpr ⟨(fun _ => ms_cp_9_202), List.forall_mem_cons.mpr ⟨(fun _ => ms_cp_9_203), List.forall_mem_cons.mpr ⟨(fun _ => ms_cp_9_205), List.forall_mem_cons.mpr ⟨(fun _ => ms_cp_9_206), List.forall_mem_cons.mpr ⟨(fun _ => ms_cp_9_209), List.forall_mem_cons.mpr ⟨(fun _ => ms_cp_9_210), List.forall_mem_cons.mpr ⟨(fun _ => ms_cp_9_212), List.forall_mem_cons.mpr ⟨(fun _ => ms_cp_9_213), List.forall_mem_cons.mpr ⟨(fun _ => ms_cp_9_216), List.forall_mem_cons.mpr ⟨(fun _ => ms_cp_9_217), List.forall_mem_cons.mpr ⟨(fun _ => ms_cp_9_220), fun _ h => absurd h List.not_mem_nil⟩⟩⟩⟩⟩⟩⟩⟩⟩⟩⟩⟩⟩⟩⟩⟩⟩⟩⟩⟩⟩⟩⟩⟩⟩⟩⟩⟩⟩⟩⟩⟩⟩⟩⟩⟩⟩⟩⟩⟩⟩⟩⟩⟩⟩⟩⟩⟩⟩⟩⟩⟩⟩⟩⟩⟩⟩⟩⟩⟩⟩⟩⟩⟩⟩⟩⟩⟩⟩⟩⟩⟩⟩⟩⟩⟩⟩⟩⟩⟩⟩⟩⟩⟩⟩⟩⟩⟩⟩⟩⟩⟩⟩⟩⟩⟩⟩⟩⟩⟩⟩⟩⟩⟩⟩⟩⟩⟩⟩⟩⟩⟩⟩⟩⟩⟩⟩⟩⟩⟩⟩⟩⟩⟩⟩⟩⟩⟩⟩⟩⟩⟩⟩⟩⟩⟩⟩⟩⟩⟩⟩⟩⟩⟩⟩⟩⟩⟩⟩⟩⟩⟩⟩⟩⟩⟩⟩⟩⟩⟩⟩⟩⟩⟩⟩⟩⟩⟩⟩⟩⟩⟩⟩⟩⟩⟩⟩⟩⟩⟩⟩⟩⟩⟩⟩⟩⟩⟩⟩⟩⟩⟩⟩⟩⟩⟩⟩⟩⟩⟩⟩⟩⟩⟩⟩⟩⟩⟩⟩⟩⟩⟩⟩⟩⟩⟩⟩⟩⟩⟩⟩⟩⟩⟩⟩⟩⟩⟩⟩⟩⟩⟩⟩⟩⟩⟩⟩⟩⟩⟩⟩⟩⟩⟩⟩⟩⟩⟩⟩⟩⟩⟩⟩⟩⟩⟩⟩⟩⟩⟩⟩⟩⟩⟩⟩⟩⟩⟩⟩⟩⟩⟩⟩⟩⟩
theorem ms_good {ws : List Cond} (h : ∀ w ∈ ws, w ∈ ms_base) : GoodIn ms_base ws := fun w hw => ⟨h w hw, good_of_word (List.mem_filter.mp (h w hw)).2⟩
