-- ===== the small machine without fuel =====
theorem mm_hd_mono {r1 r2 : mm_Rec} (hr : ∀ a b c d e r, r1 a b c d e = some r → r2 a b c d e = some r) {k pc : Nat} {L : mm_L} {x : Nat} {h : mm_H} {r : mm_R} (hq : mm_hd r1 k pc L x h = some r) : mm_hd r2 k pc L x h = some r := by
  unfold mm_hd at hq ⊢
  split at hq
  · exact hq
  · split at hq
    · split at hq
      · rename_i h0
        rw [if_pos h0]
        exact hr _ _ _ _ _ _ hq
      · cases hq
    · split at hq
      · rename_i h0
        rw [if_pos h0]
        exact hr _ _ _ _ _ _ hq
      · cases hq
    · cases hq
theorem mm_call_mono {r1 r2 : mm_Rec} (hr : ∀ a b c d e r, r1 a b c d e = some r → r2 a b c d e = some r) {k pc t k' na : Nat} {L : mm_L} {st : List Value} {h : mm_H} {r : mm_R} (hq : mm_call r1 k pc L st h t k' na = some r) : mm_call r2 k pc L st h t k' na = some r := by
  unfold mm_call at hq ⊢
  generalize (if t = 1 ∨ t = 4 ∨ t = 7 then na else na + 1) = m2 at hq ⊢
  dsimp only at hq ⊢
  split at hq
  · rename_i h0
    rw [if_pos h0]
    cases hc : r1 k' 0 (mm_en k' (List.take m2 st).reverse) [] h with
    | none => rw [hc] at hq; cases hq
    | some x =>
      rw [hc] at hq
      rw [hr _ _ _ _ _ _ hc]
      obtain ⟨o, h2⟩ := x
      cases o with
      | inl v =>
        dsimp only at hq ⊢
        split at hq
        · rename_i h1
          rw [if_pos h1]
          exact hr _ _ _ _ _ _ hq
        · cases hq
      | inr ex => exact mm_hd_mono hr hq
  · cases hq
theorem mm_st_mono {r1 r2 : mm_Rec} (hr : ∀ a b c d e r, r1 a b c d e = some r → r2 a b c d e = some r) {k pc len : Nat} {i : ClassFile.Instr} {L : mm_L} {st : List Value} {h : mm_H} {r : mm_R} (hq : mm_st r1 k pc len i L st h = some r) : mm_st r2 k pc len i L st h = some r := by
  unfold mm_st at hq ⊢
  split at hq
  · rename_i h0
    rw [if_pos h0]
    cases hs : mm_sm k pc len i L st h with
    | some x =>
      rw [hs] at hq
      exact hr _ _ _ _ _ _ hq
    | none =>
      rw [hs] at hq
      dsimp only at hq ⊢
      split at hq
      all_goals first
        | exact hq
        | (split at hq
           · split at hq
             · rename_i h1
               rw [if_pos h1]
               exact mm_call_mono hr hq
             · cases hq
           · cases hq)
  · cases hq
theorem mm_run_succ : ∀ (n a b : Nat) (c : mm_L) (d : List Value) (e : mm_H) (r : mm_R), mm_run n a b c d e = some r → mm_run (n + 1) a b c d e = some r := by
  intro n
  induction n with
  | zero =>
    intro a b c d e r h
    cases h
  | succ n ih =>
    intro a b c d e r h
    simp only [mm_run] at h ⊢
    split at h
    · exact mm_st_mono ih h
    · cases h
theorem mm_run_le {n m a b : Nat} {c : mm_L} {d : List Value} {e : mm_H} {r : mm_R} (h : mm_run n a b c d e = some r) (hm : n ≤ m) : mm_run m a b c d e = some r := by
  obtain ⟨j, rfl⟩ := Nat.le.dest hm
  clear hm
  induction j with
  | zero => exact h
  | succ j ih => exact mm_run_succ _ _ _ _ _ _ _ ih
noncomputable def mE : mm_Rec := fun k pc L st h => Classical.epsilon fun o : Option mm_R => (∃ r, o = some r ∧ ∃ n, mm_run n k pc L st h = some r) ∨ (o = none ∧ ∀ n, mm_run n k pc L st h = none)
theorem mE_ex (k pc : Nat) (L : mm_L) (st : List Value) (h : mm_H) : ∃ o : Option mm_R, (∃ r, o = some r ∧ ∃ n, mm_run n k pc L st h = some r) ∨ (o = none ∧ ∀ n, mm_run n k pc L st h = none) := by
  by_cases hx : ∃ n, mm_run n k pc L st h ≠ none
  · obtain ⟨n, hn⟩ := hx
    obtain ⟨r, hr⟩ := Option.ne_none_iff_exists'.mp hn
    exact ⟨some r, Or.inl ⟨r, rfl, n, hr⟩⟩
  · refine ⟨none, Or.inr ⟨rfl, fun n => ?_⟩⟩
    exact Classical.byContradiction fun q => hx ⟨n, q⟩
theorem mE_some {k pc : Nat} {L : mm_L} {st : List Value} {h : mm_H} {r : mm_R} : mE k pc L st h = some r ↔ ∃ n, mm_run n k pc L st h = some r := by
  have hs := Classical.epsilon_spec (mE_ex k pc L st h)
  have e : mE k pc L st h = Classical.epsilon fun o : Option mm_R => (∃ r, o = some r ∧ ∃ n, mm_run n k pc L st h = some r) ∨ (o = none ∧ ∀ n, mm_run n k pc L st h = none) := rfl
  rw [← e] at hs
  constructor
  · intro h1
    rcases hs with ⟨r', h2, h3⟩ | ⟨h2, -⟩
    · rw [h1] at h2
      cases h2
      exact h3
    · rw [h1] at h2
      cases h2
  · rintro ⟨n, hn⟩
    rcases hs with ⟨r', h2, m, hm⟩ | ⟨-, h2⟩
    · have h3 := mm_run_le hn (Nat.le_max_left n m)
      have h4 := mm_run_le hm (Nat.le_max_right n m)
      rw [h3] at h4
      rw [h2]
      exact h4.symm
    · rw [h2 n] at hn
      cases hn
theorem mm_hd_cont {k pc : Nat} {L : mm_L} {x : Nat} {h : mm_H} {r : mm_R} (hq : mm_hd mE k pc L x h = some r) : ∃ n, mm_hd (mm_run n) k pc L x h = some r := by
  unfold mm_hd at hq
  split at hq
  · rename_i hf
    refine ⟨0, ?_⟩
    unfold mm_hd
    rw [hf]
    exact hq
  · rename_i hp hf
    split at hq
    · rename_i j hdj
      split at hq
      · rename_i h0
        obtain ⟨n, hn⟩ := mE_some.mp hq
        refine ⟨n, ?_⟩
        unfold mm_hd
        rw [hf]
        dsimp only
        rw [hdj]
        exact (if_pos h0).trans hn
      · cases hq
    · rename_i j hdj
      split at hq
      · rename_i h0
        obtain ⟨n, hn⟩ := mE_some.mp hq
        refine ⟨n, ?_⟩
        unfold mm_hd
        rw [hf]
        dsimp only
        rw [hdj]
        exact (if_pos h0).trans hn
      · cases hq
    · cases hq
theorem mm_call_cont {k pc t k' na : Nat} {L : mm_L} {st : List Value} {h : mm_H} {r : mm_R} (hq : mm_call mE k pc L st h t k' na = some r) : ∃ n, mm_call (mm_run n) k pc L st h t k' na = some r := by
  unfold mm_call at hq ⊢
  generalize (if t = 1 ∨ t = 4 ∨ t = 7 then na else na + 1) = m2 at hq ⊢
  dsimp only at hq ⊢
  split at hq
  · rename_i h0
    cases hc : mE k' 0 (mm_en k' (List.take m2 st).reverse) [] h with
    | none => rw [hc] at hq; cases hq
    | some x =>
      rw [hc] at hq
      obtain ⟨n, hn⟩ := mE_some.mp hc
      obtain ⟨o, h2⟩ := x
      cases o with
      | inl v =>
        dsimp only at hq
        split at hq
        · rename_i h1
          obtain ⟨m, hm⟩ := mE_some.mp hq
          refine ⟨max n m, ?_⟩
          rw [if_pos h0, mm_run_le hn (Nat.le_max_left n m)]
          dsimp only
          rw [if_pos h1]
          exact mm_run_le hm (Nat.le_max_right n m)
        · cases hq
      | inr ex =>
        obtain ⟨m, hm⟩ := mm_hd_cont hq
        refine ⟨max n m, ?_⟩
        rw [if_pos h0, mm_run_le hn (Nat.le_max_left n m)]
        exact mm_hd_mono (fun a b c d e r hr => mm_run_le hr (Nat.le_max_right n m)) hm
  · cases hq
def mm_st2 (rec : mm_Rec) (k pc : Nat) (i : ClassFile.Instr) (L : mm_L) (st : List Value) (h : mm_H) : Option mm_R := match i with
      | .ireturn => match st with
        | [.int v] => if mR k = 1 ∨ (mR k = 2 ∧ (v = 0 ∨ v = 1)) then some (.inl (some (.int v)), h) else none
        | _ => none
      | .lreturn => match st with
        | [.long v] => if mR k = 3 then some (.inl (some (.long v)), h) else none
        | _ => none
      | .dreturn => match st with
        | [.double v] => if mR k = 4 then some (.inl (some (.double v)), h) else none
        | _ => none
      | .return_ => match st with
        | [] => if mR k = 0 then some (.inl none, h) else none
        | _ => none
      | .invokevirtual x => match mMet (mC k) x with
        | some (t, k', n) => if t = 0 then mm_call rec k pc L st h t k' n else none
        | none => none
      | .invokestatic x => match mMet (mC k) x with
        | some (t, k', n) => if t = 1 ∨ t = 4 ∨ t = 7 then mm_call rec k pc L st h t k' n else none
        | none => none
      | .invokespecial x => match mMet (mC k) x with
        | some (t, k', n) => if t = 2 ∨ t = 5 then mm_call rec k pc L st h t k' n else none
        | none => none
      | .new _ => match mThr k pc with
        | some (e, _) => if mm_cat st ≤ 8 ∧ mX k = [] ∧ 6 ≤ mF k ∧ 90 ≤ mO k then some (.inr e, mm_th h) else none
        | none => none
      | _ => none
theorem mm_st2_cont {k pc : Nat} {i : ClassFile.Instr} {L : mm_L} {st : List Value} {h : mm_H} {r : mm_R} (hq : mm_st2 mE k pc i L st h = some r) : ∃ n, mm_st2 (mm_run n) k pc i L st h = some r := by
  cases i <;> first
    | exact ⟨0, hq⟩
    | (rename_i x
       unfold mm_st2 at hq
       dsimp only at hq
       split at hq
       · rename_i t k' na hm
         split at hq
         · rename_i h1
           obtain ⟨n, hn⟩ := mm_call_cont hq
           refine ⟨n, ?_⟩
           unfold mm_st2
           dsimp only
           rw [hm]
           dsimp only
           rw [if_pos h1]
           exact hn
         · cases hq
       · cases hq)
theorem mm_st_cont {k pc len : Nat} {i : ClassFile.Instr} {L : mm_L} {st : List Value} {h : mm_H} {r : mm_R} (hq : mm_st mE k pc len i L st h = some r) : ∃ n, mm_st (mm_run n) k pc len i L st h = some r := by
  by_cases h0 : mm_ln i = len ∨ mm_ln i = 0
  · cases hs : mm_sm k pc len i L st h with
    | some x =>
      unfold mm_st at hq
      rw [if_pos h0, hs] at hq
      obtain ⟨n, hn⟩ := mE_some.mp hq
      refine ⟨n, ?_⟩
      unfold mm_st
      rw [if_pos h0, hs]
      exact hn
    | none =>
      have key : ∀ rec : mm_Rec, mm_st rec k pc len i L st h = mm_st2 rec k pc i L st h := fun rec => by
        unfold mm_st mm_st2
        rw [if_pos h0, hs]
        cases i <;> rfl
      rw [key] at hq
      obtain ⟨n, hn⟩ := mm_st2_cont hq
      exact ⟨n, by rw [key]; exact hn⟩
  · unfold mm_st at hq
    rw [if_neg h0] at hq
    cases hq
theorem mE_eq (k pc : Nat) (L : mm_L) (st : List Value) (h : mm_H) : mE k pc L st h = match decode (mB k) pc with
    | .ok (i, len) => mm_st mE k pc len i L st h
    | _ => none := by
  apply Option.ext
  intro r
  rw [mE_some]
  constructor
  · rintro ⟨n, hn⟩
    cases n with
    | zero => cases hn
    | succ n =>
      simp only [mm_run] at hn
      split at hn
      · rename_i i len hd
        rw [hd]
        exact mm_st_mono (fun a b c d e r hr => mE_some.mpr ⟨n, hr⟩) hn
      · cases hn
  · intro hq
    split at hq
    · rename_i i len hd
      obtain ⟨n, hn⟩ := mm_st_cont hq
      refine ⟨n + 1, ?_⟩
      simp only [mm_run, hd]
      exact hn
    · cases hq
theorem mE_st {k pc len : Nat} {cc : ByteArray} {i : ClassFile.Instr} {L : mm_L} {st : List Value} {h : mm_H} (hb : mB k = cc) (hd : decode cc pc = .ok (i, len)) (hl : mm_ln i = len ∨ mm_ln i = 0) : mE k pc L st h = match mm_sm k pc len i L st h with
    | some (pc', L', st', h') => mE k pc' L' st' h'
    | none => mm_st mE k pc len i L st h := by
  rw [mE_eq, hb, hd]
  dsimp only
  cases hs : mm_sm k pc len i L st h with
  | none => rfl
  | some x =>
    unfold mm_st
    rw [if_pos hl, hs]
theorem mE_sm {k pc len pc' : Nat} {cc : ByteArray} {i : ClassFile.Instr} {L L' : mm_L} {st st' : List Value} {h h' : mm_H} (hb : mB k = cc) (hd : decode cc pc = .ok (i, len)) (hl : mm_ln i = len ∨ mm_ln i = 0) (hs : mm_sm k pc len i L st h = some (pc', L', st', h')) : mE k pc L st h = mE k pc' L' st' h' := by
  rw [mE_st hb hd hl, hs]
theorem mE_no {k pc len : Nat} {cc : ByteArray} {i : ClassFile.Instr} {L : mm_L} {st : List Value} {h : mm_H} (hb : mB k = cc) (hd : decode cc pc = .ok (i, len)) : mE k pc L st h = mm_st mE k pc len i L st h := by
  rw [mE_eq, hb, hd]
