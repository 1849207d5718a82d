-- ===== soundness: heap instructions =====
def ms_I (D : va_G) (aC : Nat → ClassId) (ι : Nat → Nat) (b : Nat) (A : Nat → Prop) (H0 H : Heap) (locs : List Loc) (h : mm_H) : Prop :=
  va_P D vwCl (ms_ws ι b aC h) H ∧ va_D A (ms_ws ι b aC h) ∧ va_S A H0 H locs ∧ mm_wh h
def ms_ag (N : Nat) (ι ι' : Nat → Nat) : Prop := ∀ a, a < N → ι' a = ι a
theorem ms_ag.rf (N : Nat) (ι : Nat → Nat) : ms_ag N ι ι := fun _ _ => rfl
theorem ms_ag.tr {N N' : Nat} {a b c : Nat → Nat} (h1 : ms_ag N a b) (h2 : ms_ag N' b c) (hN : N ≤ N') : ms_ag N a c := fun x hx => (h2 x (Nat.lt_of_lt_of_le hx hN)).trans (h1 x hx)
theorem ms_ag.v {N : Nat} {ι ι' : Nat → Nat} {b : Nat} (h : ms_ag N ι ι') {v : Value} (hv : mm_wv N v) : ms_tr ι' b v = ms_tr ι b v := by
  cases v <;> first
    | rfl
    | (rename_i a
       show Value.ref (ι' a) = Value.ref (ι a)
       rw [h a (hv a rfl)])
theorem ms_ag.vo {N : Nat} {ι ι' : Nat → Nat} (h : ms_ag N ι ι') {v : Value} (hv : mm_wv N v) : ms_tro ι' v = ms_tro ι v := by
  cases v <;> first
    | rfl
    | (rename_i a
       show some (ι' a) = some (ι a)
       rw [h a (hv a rfl)])
theorem ms_ag.st {N : Nat} {ι ι' : Nat → Nat} {b : Nat} (h : ms_ag N ι ι') {st : List Value} (hv : mm_ws N st) : st.map (ms_tr ι' b) = st.map (ms_tr ι b) := List.map_congr_left fun v hm => h.v (hv v hm)
theorem ms_ag.LR {N : Nat} {ι ι' : Nat → Nat} {b k : Nat} {ls : Array Slot} {L : mm_L} (h : ms_ag N ι ι') (hw : mm_wl N L) (hL : ms_LR ι b k ls L) : ms_LR ι' b k ls L :=
  ⟨hL.1, hL.2.1, hL.2.2.1, fun i v hv => by rw [h.v (hw i v hv)]; exact hL.2.2.2.1 i v hv, hL.2.2.2.2⟩
theorem ms_ag.ent {N : Nat} {ι ι' : Nat → Nat} {b : Nat} {aC : Nat → ClassId} {h : mm_H} {a : Nat} (hg : ms_ag N ι ι') (hw : ∀ k, mm_wv N (mm_F h a k)) : ms_ent ι' b aC h a = ms_ent ι b aC h a := by
  have e1 : ms_fs ι' b h a = ms_fs ι b h a := by
    unfold ms_fs
    refine List.map_congr_left fun k _ => ?_
    rw [hg.v (hw k)]
  have e2 : (fun k => ms_tro ι' (mm_F h a k)) = fun k => ms_tro ι (mm_F h a k) := funext fun k => hg.vo (hw k)
  unfold ms_ent
  rw [e1, e2]
theorem mm_at_s {α : Type} (f : Nat → α) (a : Nat) (v : α) : mm_at f a v a = v := by simp [mm_at]
theorem mm_at_o {α : Type} (f : Nat → α) {a x : Nat} (v : α) (h : x ≠ a) : mm_at f a v x = f x := by simp [mm_at, h]
theorem ms_ws_nw {ι : Nat → Nat} {b q t z : Nat} {aC : Nat → ClassId} {h : mm_H} (hw : mm_wh h) : ms_ws (mm_at ι (mm_N h) q) b aC (mm_nw h t z) = ms_ws ι b aC h ++ [(q, ms_ent (mm_at ι (mm_N h) q) b aC (mm_nw h t z) (mm_N h))] := by
  have hg : ms_ag (mm_N h) ι (mm_at ι (mm_N h) q) := fun a ha => mm_at_o _ _ (Nat.ne_of_lt ha)
  have e : mm_N (mm_nw h t z) = mm_N h + 1 := rfl
  unfold ms_ws
  rw [e, List.range_succ, List.map_append]
  congr 1
  · refine List.map_congr_left fun a ha => ?_
    have ha : a < mm_N h := List.mem_range.mp ha
    have hne : a ≠ h.1.1 := Nat.ne_of_lt ha
    rw [mm_at_o _ _ (Nat.ne_of_lt ha)]
    congr 1
    rw [← hg.ent (fun k => hw.2 a k)]
    refine ms_ent_eq ?_ ?_ ?_ ?_ ?_ ?_
    · show (mm_at h.1.2.1 h.1.1 (t, z) a).1 = _
      rw [mm_at_o _ _ hne]; rfl
    · show (mm_at h.1.2.1 h.1.1 (t, z) a).2 = _
      rw [mm_at_o _ _ hne]; rfl
    · show mm_at h.1.2.2.1 h.1.1 (fun _ => Value.null) a = _
      rw [mm_at_o _ _ hne]; rfl
    · show mm_at h.2.1 h.1.1 (fun _ => (0 : Int32)) a = _
      rw [mm_at_o _ _ hne]; rfl
    · show mm_at h.2.2.1 h.1.1 (fun _ => (0 : Int64)) a = _
      rw [mm_at_o _ _ hne]; rfl
    · show mm_at h.2.2.2.1 h.1.1 (fun _ => (0 : UInt64)) a = _
      rw [mm_at_o _ _ hne]; rfl
  · simp only [List.map_cons, List.map_nil, mm_at_s]
theorem mm_T_nw {h : mm_H} {t z : Nat} : mm_T (mm_nw h t z) (mm_N h) = t := congrArg Prod.fst (mm_at_s h.1.2.1 h.1.1 (t, z))
theorem mm_Z_nw {h : mm_H} {t z : Nat} : mm_Z (mm_nw h t z) (mm_N h) = z := congrArg Prod.snd (mm_at_s h.1.2.1 h.1.1 (t, z))
theorem mm_F_nw {h : mm_H} {t z : Nat} : mm_F (mm_nw h t z) (mm_N h) = fun _ => Value.null := mm_at_s h.1.2.2.1 h.1.1 _
theorem mm_i_nw {h : mm_H} {t z : Nat} : mm_i (mm_nw h t z) (mm_N h) = fun _ => 0 := mm_at_s h.2.1 h.1.1 _
theorem mm_j_nw {h : mm_H} {t z : Nat} : mm_j (mm_nw h t z) (mm_N h) = fun _ => 0 := mm_at_s h.2.2.1 h.1.1 _
theorem mm_d_nw {h : mm_H} {t z : Nat} : mm_d (mm_nw h t z) (mm_N h) = fun _ => 0 := mm_at_s h.2.2.2.1 h.1.1 _
theorem ms_ix {i : Int32} {n j : Nat} (h : mm_ix i n = some j) : vp_in i n ∧ i.toNatClampNeg = j := by
  unfold mm_ix at h
  split at h
  · rename_i h0
    cases h
    exact ⟨fun q => q.elim (fun a => h0.1 a) (fun a => by omega), rfl⟩
  · cases h
theorem ms_cA {D : va_G} {aC : Nat → ClassId} {s : State} {cA : ClassId} {ty : FieldType} {t : Nat} (hK : va_K D vwCl (ms_tys aC) s) (ht : (ms_tys aC)[t]? = some (aC t, ty)) (hK' : va_K D vwCl (ms_tys aC ++ [(cA, ty)]) s) : cA = aC t := by
  have h1 := (hK.2 t _ ht).2
  have h2 := (hK'.2 5 (cA, ty) rfl).2
  cases ty with
  | object C =>
    obtain ⟨_, _, _, _, _, a1⟩ := h1
    obtain ⟨_, _, _, _, _, a2⟩ := h2
    exact Option.some.inj (a2.symm.trans a1)
  | _ => exact Option.some.inj (h2.symm.trans h1)
