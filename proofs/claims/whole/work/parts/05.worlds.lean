-- ===== soundness: worlds =====
def ms_tr (ι : Nat → Nat) (b : Nat) (v : Value) : Value := match v with
  | .ref a => .ref (ι a)
  | .retAddr _ => .ref b
  | v => v
def ms_tro (ι : Nat → Nat) (v : Value) : Option Nat := match v with
  | .ref a => some (ι a)
  | _ => none
def mm_kds : List (List Nat) := [[0, 0, 0, 0, 0, 1, 2, 0], [0, 2, 2], [2, 2, 2], [2, 0, 0], [2, 2, 2, 2, 2, 0, 2], [0, 2, 2], [0, 2, 2, 2, 2, 2, 2, 2, 2], [2, 2, 2, 1, 2, 2, 0, 0], [2, 2, 2, 1, 2, 0, 0, 0, 2, 2, 2, 2, 0, 0, 0, 2, 0]]
def mm_kd (c k : Nat) : Nat := (mm_kds.getD c []).getD k 0
def ms_fs (ι : Nat → Nat) (b : Nat) (h : mm_H) (a : Nat) : List Value := (List.range (mm_sz (mm_T h a))).map fun k => if mm_kd (mm_T h a) k = 2 then ms_tr ι b (mm_F h a k) else .int (mm_i h a k)
def ms_ent (ι : Nat → Nat) (b : Nat) (aC : Nat → ClassId) (h : mm_H) (a : Nat) : va_E :=
  if mm_T h a < 9 then .inr (mm_T h a, ms_fs ι b h a)
  else if mm_T h a = 10 then .inl (aC 0, mm_Z h a, .inl (mm_i h a))
  else if mm_T h a = 11 then .inl (aC 1, mm_Z h a, .inr (.inl (mm_j h a)))
  else if mm_T h a = 12 then .inl (aC 2, mm_Z h a, .inr (.inr (.inr (.inl (mm_d h a)))))
  else if mm_T h a = 13 then .inl (aC 3, mm_Z h a, .inl (mm_i h a))
  else .inl (aC 4, mm_Z h a, .inr (.inr (.inr (.inr (fun k => ms_tro ι (mm_F h a k))))))
def ms_ws (ι : Nat → Nat) (b : Nat) (aC : Nat → ClassId) (h : mm_H) : va_W := (List.range (mm_N h)).map fun a => (ι a, ms_ent ι b aC h a)
abbrev ms_tys (aC : Nat → ClassId) : List (ClassId × FieldType) := [(aC 0, .int), (aC 1, .long), (aC 2, .double), (aC 3, .char), (aC 4, .object "CondoLedger$Ledger")]
theorem ms_ws_get {ι : Nat → Nat} {b : Nat} {aC : Nat → ClassId} {h : mm_H} {a : Nat} (ha : a < mm_N h) : (ms_ws ι b aC h)[a]? = some (ι a, ms_ent ι b aC h a) := by
  simp [ms_ws, ha]
theorem ms_ws_len {ι : Nat → Nat} {b : Nat} {aC : Nat → ClassId} {h : mm_H} : (ms_ws ι b aC h).length = mm_N h := by
  simp [ms_ws]
theorem ms_ws_set {ι : Nat → Nat} {b : Nat} {aC : Nat → ClassId} {h h' : mm_H} {a : Nat} (hN : mm_N h' = mm_N h) (he : ∀ x, x ≠ a → ms_ent ι b aC h' x = ms_ent ι b aC h x) : (ms_ws ι b aC h).set a (ι a, ms_ent ι b aC h' a) = ms_ws ι b aC h' := by
  apply List.ext_getElem?
  intro j
  by_cases hj : j < mm_N h
  · by_cases hja : a = j
    · subst hja
      rw [List.getElem?_set_self (by rw [ms_ws_len]; exact hj), ms_ws_get (by rw [hN]; exact hj)]
    · rw [List.getElem?_set_ne hja, ms_ws_get hj, ms_ws_get (by rw [hN]; exact hj), he j (Ne.symm hja)]
  · rw [List.getElem?_eq_none (by rw [List.length_set, ms_ws_len]; omega), List.getElem?_eq_none (by rw [ms_ws_len, hN]; omega)]
theorem ms_ent_obj {ι : Nat → Nat} {b : Nat} {aC : Nat → ClassId} {h : mm_H} {a t : Nat} (ht : mm_T h a = t) (h9 : t < 9) : ms_ent ι b aC h a = .inr (t, ms_fs ι b h a) := by
  simp [ms_ent, ht, h9]
theorem ms_ent_10 {ι : Nat → Nat} {b : Nat} {aC : Nat → ClassId} {h : mm_H} {a : Nat} (ht : mm_T h a = 10) : ms_ent ι b aC h a = .inl (aC 0, mm_Z h a, .inl (mm_i h a)) := by
  simp [ms_ent, ht]
theorem ms_ent_11 {ι : Nat → Nat} {b : Nat} {aC : Nat → ClassId} {h : mm_H} {a : Nat} (ht : mm_T h a = 11) : ms_ent ι b aC h a = .inl (aC 1, mm_Z h a, .inr (.inl (mm_j h a))) := by
  simp [ms_ent, ht]
theorem ms_ent_12 {ι : Nat → Nat} {b : Nat} {aC : Nat → ClassId} {h : mm_H} {a : Nat} (ht : mm_T h a = 12) : ms_ent ι b aC h a = .inl (aC 2, mm_Z h a, .inr (.inr (.inr (.inl (mm_d h a))))) := by
  simp [ms_ent, ht]
theorem ms_ent_13 {ι : Nat → Nat} {b : Nat} {aC : Nat → ClassId} {h : mm_H} {a : Nat} (ht : mm_T h a = 13) : ms_ent ι b aC h a = .inl (aC 3, mm_Z h a, .inl (mm_i h a)) := by
  simp [ms_ent, ht]
theorem ms_ent_14 {ι : Nat → Nat} {b : Nat} {aC : Nat → ClassId} {h : mm_H} {a : Nat} (ht : mm_T h a = 14) : ms_ent ι b aC h a = .inl (aC 4, mm_Z h a, .inr (.inr (.inr (.inr (fun k => ms_tro ι (mm_F h a k)))))) := by
  simp [ms_ent, ht]
theorem ms_ent_eq {ι : Nat → Nat} {b : Nat} {aC : Nat → ClassId} {h h' : mm_H} {x : Nat} (hT : mm_T h' x = mm_T h x) (hZ : mm_Z h' x = mm_Z h x) (hF : mm_F h' x = mm_F h x) (hi : mm_i h' x = mm_i h x) (hj : mm_j h' x = mm_j h x) (hd : mm_d h' x = mm_d h x) : ms_ent ι b aC h' x = ms_ent ι b aC h x := by
  unfold ms_ent ms_fs
  rw [hT, hZ, hF, hi, hj, hd]
theorem mm_up_o {α : Type} {f : Nat → Nat → α} {a k x : Nat} {v : α} (hx : x ≠ a) : mm_up f a k v x = f x := by
  funext y
  simp [mm_up, hx]
theorem ms_ent_pi {ι : Nat → Nat} {b : Nat} {aC : Nat → ClassId} {h : mm_H} {a k x : Nat} {v : Int32} (hx : x ≠ a) : ms_ent ι b aC (mm_pi h a k v) x = ms_ent ι b aC h x :=
  ms_ent_eq rfl rfl rfl (mm_up_o hx) rfl rfl
theorem ms_ent_pj {ι : Nat → Nat} {b : Nat} {aC : Nat → ClassId} {h : mm_H} {a k x : Nat} {v : Int64} (hx : x ≠ a) : ms_ent ι b aC (mm_pj h a k v) x = ms_ent ι b aC h x :=
  ms_ent_eq rfl rfl rfl rfl (mm_up_o hx) rfl
theorem ms_ent_pd {ι : Nat → Nat} {b : Nat} {aC : Nat → ClassId} {h : mm_H} {a k x : Nat} {v : UInt64} (hx : x ≠ a) : ms_ent ι b aC (mm_pd h a k v) x = ms_ent ι b aC h x :=
  ms_ent_eq rfl rfl rfl rfl rfl (mm_up_o hx)
theorem ms_ent_pf {ι : Nat → Nat} {b : Nat} {aC : Nat → ClassId} {h : mm_H} {a k x : Nat} {v : Value} (hx : x ≠ a) : ms_ent ι b aC (mm_pf h a k v) x = ms_ent ι b aC h x :=
  ms_ent_eq rfl rfl (mm_up_o hx) rfl rfl rfl
theorem ms_ent_pc {ι : Nat → Nat} {b : Nat} {aC : Nat → ClassId} {h : mm_H} {a0 a sp dp n x : Nat} (hx : x ≠ a) : ms_ent ι b aC (mm_pc h a0 a sp dp n) x = ms_ent ι b aC h x :=
  ms_ent_eq rfl rfl rfl (by funext y; simp [mm_i, mm_pc, mm_cp, hx]) rfl rfl
theorem ms_fs_get {ι : Nat → Nat} {b : Nat} {h : mm_H} {a k : Nat} (hk : k < mm_sz (mm_T h a)) : (ms_fs ι b h a)[k]? = some (if mm_kd (mm_T h a) k = 2 then ms_tr ι b (mm_F h a k) else .int (mm_i h a k)) := by
  simp [ms_fs, hk]
theorem ms_fs_len {ι : Nat → Nat} {b : Nat} {h : mm_H} {a : Nat} : (ms_fs ι b h a).length = mm_sz (mm_T h a) := by
  simp [ms_fs]
theorem ms_fs_pi {ι : Nat → Nat} {b : Nat} {h : mm_H} {a k : Nat} {v : Int32} (hk : k < mm_sz (mm_T h a)) (h2 : mm_kd (mm_T h a) k ≠ 2) : (ms_fs ι b h a).set k (.int v) = ms_fs ι b (mm_pi h a k v) a := by
  apply List.ext_getElem?
  intro j
  have hT : mm_T (mm_pi h a k v) a = mm_T h a := rfl
  by_cases hj : j < mm_sz (mm_T h a)
  · by_cases hjk : k = j
    · subst hjk
      rw [List.getElem?_set_self (by rw [ms_fs_len]; exact hj), ms_fs_get (by rw [hT]; exact hj), hT, if_neg h2]
      simp [mm_i, mm_pi, mm_up]
    · rw [List.getElem?_set_ne hjk, ms_fs_get hj, ms_fs_get (by rw [hT]; exact hj), hT]
      have : mm_i (mm_pi h a k v) a j = mm_i h a j := by simp [mm_i, mm_pi, mm_up, Ne.symm hjk]
      rw [this]
      rfl
  · rw [List.getElem?_eq_none (by rw [List.length_set, ms_fs_len]; omega), List.getElem?_eq_none (by rw [ms_fs_len, hT]; omega)]
theorem ms_fs_pf {ι : Nat → Nat} {b : Nat} {h : mm_H} {a k : Nat} {v : Value} (hk : k < mm_sz (mm_T h a)) (h2 : mm_kd (mm_T h a) k = 2) : (ms_fs ι b h a).set k (ms_tr ι b v) = ms_fs ι b (mm_pf h a k v) a := by
  apply List.ext_getElem?
  intro j
  have hT : mm_T (mm_pf h a k v) a = mm_T h a := rfl
  by_cases hj : j < mm_sz (mm_T h a)
  · by_cases hjk : k = j
    · subst hjk
      rw [List.getElem?_set_self (by rw [ms_fs_len]; exact hj), ms_fs_get (by rw [hT]; exact hj), hT, if_pos h2]
      simp [mm_F, mm_pf, mm_up]
    · rw [List.getElem?_set_ne hjk, ms_fs_get hj, ms_fs_get (by rw [hT]; exact hj), hT]
      have : mm_F (mm_pf h a k v) a j = mm_F h a j := by simp [mm_F, mm_pf, mm_up, Ne.symm hjk]
      rw [this]
      rfl
  · rw [List.getElem?_eq_none (by rw [List.length_set, ms_fs_len]; omega), List.getElem?_eq_none (by rw [ms_fs_len, hT]; omega)]
-- ===== closed heaps =====
def mm_wv (N : Nat) (v : Value) : Prop := ∀ a, v = .ref a → a < N
def mm_wh (h : mm_H) : Prop := (∀ a, mm_N h ≤ a → mm_T h a = 99) ∧ ∀ a k, mm_wv (mm_N h) (mm_F h a k)
def mm_wl (N : Nat) (L : mm_L) : Prop := ∀ (i : Nat) (v : Value), L[i]? = some (some v) → mm_wv N v
def mm_ws (N : Nat) (st : List Value) : Prop := ∀ v ∈ st, mm_wv N v
def mm_mo (h h' : mm_H) : Prop := mm_N h ≤ mm_N h' ∧ (∀ a, a < mm_N h → mm_T h' a = mm_T h a ∧ mm_Z h' a = mm_Z h a) ∧ (mm_u h).1 ≤ (mm_u h').1 ∧ (mm_u h).2 ≤ (mm_u h').2 ∧ mm_X h' = mm_X h
theorem mm_mo.rf (h : mm_H) : mm_mo h h := ⟨Nat.le_refl _, fun _ _ => ⟨rfl, rfl⟩, Nat.le_refl _, Nat.le_refl _, rfl⟩
theorem mm_mo.tr {h1 h2 h3 : mm_H} (a : mm_mo h1 h2) (b : mm_mo h2 h3) : mm_mo h1 h3 :=
  ⟨Nat.le_trans a.1 b.1, fun x hx => ⟨((b.2.1 x (Nat.lt_of_lt_of_le hx a.1)).1).trans (a.2.1 x hx).1, ((b.2.1 x (Nat.lt_of_lt_of_le hx a.1)).2).trans (a.2.1 x hx).2⟩, Nat.le_trans a.2.2.1 b.2.2.1, Nat.le_trans a.2.2.2.1 b.2.2.2.1, b.2.2.2.2.trans a.2.2.2.2⟩
theorem mm_wv.up {N N' : Nat} {v : Value} (h : mm_wv N v) (hN : N ≤ N') : mm_wv N' v := fun a ha => Nat.lt_of_lt_of_le (h a ha) hN
theorem mm_wh.lt {h : mm_H} (hw : mm_wh h) {a t : Nat} (ht : mm_T h a = t) (h9 : t ≠ 99) : a < mm_N h := by
  rcases Nat.lt_or_ge a (mm_N h) with q | q
  · exact q
  · exact absurd (ht.symm.trans (hw.1 a q)) h9
