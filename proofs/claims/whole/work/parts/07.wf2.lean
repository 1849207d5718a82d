theorem mm_wl.up {N N' : Nat} {L : mm_L} (h : mm_wl N L) (hN : N ≤ N') : mm_wl N' L := fun i v hv => (h i v hv).up hN
theorem mm_ws.up {N N' : Nat} {st : List Value} (h : mm_ws N st) (hN : N ≤ N') : mm_ws N' st := fun v hv => (h v hv).up hN
theorem mm_wh_pi {h : mm_H} (hw : mm_wh h) (a k : Nat) (v : Int32) : mm_wh (mm_pi h a k v) ∧ mm_mo h (mm_pi h a k v) := ⟨hw, Nat.le_refl _, fun _ _ => ⟨rfl, rfl⟩, Nat.le_refl _, Nat.le_refl _, rfl⟩
theorem mm_wh_pj {h : mm_H} (hw : mm_wh h) (a k : Nat) (v : Int64) : mm_wh (mm_pj h a k v) ∧ mm_mo h (mm_pj h a k v) := ⟨hw, Nat.le_refl _, fun _ _ => ⟨rfl, rfl⟩, Nat.le_refl _, Nat.le_refl _, rfl⟩
theorem mm_wh_pd {h : mm_H} (hw : mm_wh h) (a k : Nat) (v : UInt64) : mm_wh (mm_pd h a k v) ∧ mm_mo h (mm_pd h a k v) := ⟨hw, Nat.le_refl _, fun _ _ => ⟨rfl, rfl⟩, Nat.le_refl _, Nat.le_refl _, rfl⟩
theorem mm_wh_pc {h : mm_H} (hw : mm_wh h) (a0 a sp dp n : Nat) : mm_wh (mm_pc h a0 a sp dp n) ∧ mm_mo h (mm_pc h a0 a sp dp n) := ⟨hw, Nat.le_refl _, fun _ _ => ⟨rfl, rfl⟩, Nat.le_refl _, Nat.le_refl _, rfl⟩
theorem mm_wh_th {h : mm_H} (hw : mm_wh h) : mm_wh (mm_th h) ∧ mm_mo h (mm_th h) := ⟨hw, Nat.le_refl _, fun _ _ => ⟨rfl, rfl⟩, Nat.le_succ _, Nat.le_add_right _ _, rfl⟩
theorem mm_wh_pf {h : mm_H} (hw : mm_wh h) (a k : Nat) {v : Value} (hv : mm_wv (mm_N h) v) : mm_wh (mm_pf h a k v) ∧ mm_mo h (mm_pf h a k v) := by
  refine ⟨⟨hw.1, fun x y => ?_⟩, Nat.le_refl _, fun _ _ => ⟨rfl, rfl⟩, Nat.le_refl _, Nat.le_refl _, rfl⟩
  show mm_wv (mm_N h) (mm_up h.1.2.2.1 a k v x y)
  unfold mm_up
  split
  · exact hv
  · exact hw.2 x y
theorem mm_wh_nw {h : mm_H} (hw : mm_wh h) (t z : Nat) : mm_wh (mm_nw h t z) ∧ mm_mo h (mm_nw h t z) := by
  refine ⟨⟨fun a ha => ?_, fun x y => ?_⟩, Nat.le_succ _, fun a ha => ?_, Nat.le_succ _, Nat.le_add_right _ _, rfl⟩
  · have h1 : mm_N h + 1 ≤ a := ha
    have h2 : a ≠ h.1.1 := by
      intro e
      have : mm_N h = h.1.1 := rfl
      omega
    show (mm_at h.1.2.1 h.1.1 (t, z) a).1 = 99
    unfold mm_at
    rw [if_neg h2]
    exact hw.1 a (by omega)
  · show mm_wv (mm_N h + 1) (mm_at h.1.2.2.1 h.1.1 (fun _ => Value.null) x y)
    unfold mm_at
    split
    · intro a e
      cases e
    · exact (hw.2 x y).up (Nat.le_succ _)
  · have h2 : a ≠ h.1.1 := by
      intro e
      have : mm_N h = h.1.1 := rfl
      omega
    have e : (mm_nw h t z).1.2.1 a = h.1.2.1 a := by
      show mm_at h.1.2.1 h.1.1 (t, z) a = _
      unfold mm_at
      rw [if_neg h2]
    exact ⟨congrArg Prod.fst e, congrArg Prod.snd e⟩
theorem mm_wv_new (h : mm_H) (t z : Nat) : mm_wv (mm_N (mm_nw h t z)) (.ref (mm_N h)) := by
  intro a e
  cases e
  exact Nat.lt_succ_self _
theorem mm_sH_wf {k : Nat} {i : ClassFile.Instr} {st st' : List Value} {h h' : mm_H} (he : mm_sH k i st h = some (st', h')) (hw : mm_wh h) (hs : mm_ws (mm_N h) st) : mm_wh h' ∧ mm_mo h h' ∧ mm_ws (mm_N h') st' := by
  have rf : mm_mo h h := mm_mo.rf h
  unfold mm_sH at he
  repeat' split at he
  all_goals first
    | (cases he; done)
    | (obtain ⟨j, -, he⟩ := Option.map_eq_some_iff.mp he
       cases he
       simp only [mm_ws_cons] at hs
       first
         | (refine ⟨hw, rf, mm_ws_cons.mpr ⟨?_, by simp [hs]⟩⟩; first | exact (mm_nr_int _).wv | exact (mm_nr_long _).wv | exact (mm_nr_double _).wv)
         | (refine ⟨(mm_wh_pi hw _ _ _).1, (mm_wh_pi hw _ _ _).2, ?_⟩; exact hs.2.2.2)
         | (refine ⟨(mm_wh_pj hw _ _ _).1, (mm_wh_pj hw _ _ _).2, ?_⟩; exact hs.2.2.2)
         | (refine ⟨(mm_wh_pd hw _ _ _).1, (mm_wh_pd hw _ _ _).2, ?_⟩; exact hs.2.2.2)
         | (refine ⟨(mm_wh_pf hw _ _ hs.1).1, (mm_wh_pf hw _ _ hs.1).2, ?_⟩; exact hs.2.2.2))
    | (obtain ⟨j, -, he⟩ := Option.bind_eq_some_iff.mp he
       simp only [mm_ws_cons] at hs
       split at he
       · rename_i q hq
         cases he
         exact ⟨hw, rf, mm_ws_cons.mpr ⟨hq ▸ hw.2 _ _, hs.2.2⟩⟩
       · cases he)
    | (cases he
       try simp only [mm_ws_cons] at hs
       first
         | (refine ⟨hw, rf, mm_ws_cons.mpr ⟨hw.2 _ _, by simp [hs]⟩⟩; done)
         | (refine ⟨hw, rf, mm_ws_cons.mpr ⟨(mm_nr_int _).wv, by simp [hs]⟩⟩; done)
         | (refine ⟨hw, rf, mm_ws_cons.mpr ⟨?_, by simp [hs]⟩⟩; split; exact hw.2 _ _; exact (mm_nr_int _).wv)
         | (refine ⟨(mm_wh_pi hw _ _ _).1, (mm_wh_pi hw _ _ _).2, ?_⟩; exact hs.2.2)
         | (refine ⟨(mm_wh_pf hw _ _ hs.1).1, (mm_wh_pf hw _ _ hs.1).2, ?_⟩; exact hs.2.2)
         | (refine ⟨(mm_wh_pc hw _ _ _ _ _).1, (mm_wh_pc hw _ _ _ _ _).2, ?_⟩; exact hs.2.2.2.2.2)
         | (refine ⟨(mm_wh_nw hw _ _).1, (mm_wh_nw hw _ _).2, mm_ws_cons.mpr ⟨mm_wv_new h _ _, ?_⟩⟩; first | exact hs.2.up (Nat.le_succ _) | exact mm_ws.up (by assumption) (Nat.le_succ _))
         | (exact ⟨hw, rf, hs.2⟩))
theorem mm_sm_wf {k pc len pc' : Nat} {i : ClassFile.Instr} {L L' : mm_L} {st st' : List Value} {h h' : mm_H} (he : mm_sm k pc len i L st h = some (pc', L', st', h')) (hw : mm_wh h) (hl : mm_wl (mm_N h) L) (hs : mm_ws (mm_N h) st) : mm_wh h' ∧ mm_mo h h' ∧ mm_wl (mm_N h') L' ∧ mm_ws (mm_N h') st' := by
  unfold mm_sm at he
  split at he
  · rename_i st1 h1
    cases he
    exact ⟨hw, mm_mo.rf h, hl, mm_sA_wf h1 hs⟩
  · split at he
    · rename_i L1 st1 h1
      cases he
      exact ⟨hw, mm_mo.rf h, mm_sL_wf h1 hl hs⟩
    · split at he
      · rename_i pc1 st1 h1
        cases he
        exact ⟨hw, mm_mo.rf h, hl, mm_sB_wf h1 hs⟩
      · split at he
        · rename_i st1 h2 h1
          cases he
          obtain ⟨a1, a2, a3⟩ := mm_sH_wf h1 hw hs
          exact ⟨a1, a2, hl.up a2.1, a3⟩
        · cases he
theorem mm_wl_en {N k : Nat} {As : List Value} (h : mm_ws N As) : mm_wl N (mm_en k As) := by
  intro i v hv
  unfold mm_en at hv
  rcases List.mem_append.mp (List.mem_of_getElem? hv) with hm | hm
  · obtain ⟨w, h1, h2⟩ := List.mem_map.mp hm
    cases h2
    exact h _ h1
  · have := (List.mem_replicate.mp hm).2
    cases this
theorem mm_rt_wv {k N : Nat} {v : Option Value} (h : mm_rt k v = true) : mm_ws N v.toList := by
  intro w hw
  match v, h, hw with
  | none, _, hw => cases hw
  | some (.int x), _, hw => rw [show w = .int x by simpa using hw]; exact (mm_nr_int _).wv
  | some (.long x), _, hw => rw [show w = .long x by simpa using hw]; exact (mm_nr_long _).wv
  | some (.double x), _, hw => rw [show w = .double x by simpa using hw]; exact (mm_nr_double _).wv
  | some (.null), h, _ => cases h
  | some (.float _), h, _ => cases h
  | some (.ref _), h, _ => cases h
  | some (.retAddr _), h, _ => cases h
theorem mm_run_wf : ∀ (n k pc : Nat) (L : mm_L) (st : List Value) (h : mm_H) (o : Option Value ⊕ Nat) (h' : mm_H), mm_run n k pc L st h = some (o, h') → mm_wh h → mm_wl (mm_N h) L → mm_ws (mm_N h) st → mm_wh h' ∧ mm_mo h h' := by
  intro n
  induction n with
  | zero =>
    intro k pc L st h o h' he
    cases he
  | succ n ih =>
    intro k pc L st h o h' he hw hl hs
    have hhd : ∀ (L : mm_L) (e : Nat) (h2 : mm_H), mm_hd (mm_run n) k pc L e h2 = some (o, h') → mm_wh h2 → mm_wl (mm_N h2) L → mm_wh h' ∧ mm_mo h2 h' := by
      intro L e h2 hq hw2 hl2
      unfold mm_hd at hq
      split at hq
      · cases hq
        exact ⟨hw2, mm_mo.rf _⟩
      · split at hq
        · split at hq
          · exact ih _ _ _ _ _ _ _ hq hw2 (mm_wl_none hl2) (fun v hv => by cases hv)
          · cases hq
        · split at hq
          · exact ih _ _ _ _ _ _ _ hq hw2 (mm_wl_none hl2) (fun v hv => by cases hv)
          · cases hq
        · cases hq
    have hcall : ∀ (t k' m : Nat), mm_call (mm_run n) k pc L st h t k' m = some (o, h') → mm_wh h' ∧ mm_mo h h' := by
      intro t k' m hq
      unfold mm_call at hq
      generalize (if t = 1 ∨ t = 4 ∨ t = 7 then m else m + 1) = m2 at hq
      dsimp only at hq
      split at hq
      · have hsT : mm_ws (mm_N h) (st.take m2).reverse := fun v hv => hs v (List.mem_of_mem_take (List.mem_reverse.mp hv))
        have hsD : mm_ws (mm_N h) (st.drop m2) := fun v hv => hs v (List.mem_of_mem_drop hv)
        split at hq
        · cases hq
        · rename_i v h2 hr
          obtain ⟨a1, a2⟩ := ih _ _ _ _ _ _ _ hr hw (mm_wl_en hsT) (fun v hv => by cases hv)
          split at hq
          · rename_i hrt
            obtain ⟨b1, b2⟩ := ih _ _ _ _ _ _ _ hq a1 (hl.up a2.1) (fun v hv => by
              rcases List.mem_append.mp hv with hv | hv
              · exact mm_rt_wv hrt v hv
              · exact (hsD.up a2.1) v hv)
            exact ⟨b1, a2.tr b2⟩
          · cases hq
        · rename_i e h2 hr
          obtain ⟨a1, a2⟩ := ih _ _ _ _ _ _ _ hr hw (mm_wl_en hsT) (fun v hv => by cases hv)
          obtain ⟨b1, b2⟩ := hhd _ _ _ hq a1 (hl.up a2.1)
          exact ⟨b1, a2.tr b2⟩
      · cases hq
    simp only [mm_run] at he
    split at he
    · rename_i i len hd
      unfold mm_st at he
      split at he
      · split at he
        · rename_i pc1 L1 st1 h1 hsm
          obtain ⟨a1, a2, a3, a4⟩ := mm_sm_wf hsm hw hl hs
          obtain ⟨b1, b2⟩ := ih _ _ _ _ _ _ _ he a1 a3 a4
          exact ⟨b1, a2.tr b2⟩
        · repeat' split at he
          all_goals first
            | (cases he; done)
            | (cases he; exact ⟨hw, mm_mo.rf _⟩)
            | exact hcall _ _ _ he
            | (cases he; exact mm_wh_th hw)
      · cases he
    · cases he
