-- ===== soundness: stacks, locals, branches =====
def mCns : List String := [RX0, RX1, RX2, RX3, RX4, RX5, RX6, RX7, RX8, RL]
def mOwn (k : Nat) : String := mCns.getD (mC k) RL
def ms_base : List Cond := lw_tbl.filter goodWord
theorem ms_lookup {α β : Type} [BEq α] [LawfulBEq α] : ∀ (l : List (α × β)) (a : α) (v : β), l.lookup a = some v → (a, v) ∈ l
  | [], _, _, h => by cases h
  | (x, y) :: l, a, v, h => by
    rw [List.lookup_cons] at h
    split at h
    · rename_i he
      cases h
      rw [eq_of_beq he]
      exact List.mem_cons_self
    · exact List.mem_cons_of_mem _ (ms_lookup l a v h)
theorem ms_cst_ok : mCstT.all (fun q => decide (Cond.constant (mCns.getD q.1.1 RL) q.1.2 q.2 ∈ ms_base)) = true := by decide +kernel
theorem ms_cstL_ok : mCstLT.all (fun q => decide (Cond.constantLong (mCns.getD q.1.1 RL) q.1.2 q.2 ∈ ms_base)) = true := by decide +kernel
theorem ms_cst {k x : Nat} {v : Int32} (h : mCst (mC k) x = some v) : Cond.constant (mOwn k) x v ∈ ms_base := by
  have h1 := List.all_eq_true.mp ms_cst_ok _ (ms_lookup mCstT (mC k, x) v h)
  exact of_decide_eq_true h1
theorem ms_cstL {k x : Nat} {v : Int64} (h : mCstL (mC k) x = some v) : Cond.constantLong (mOwn k) x v ∈ ms_base := by
  have h1 := List.all_eq_true.mp ms_cstL_ok _ (ms_lookup mCstLT (mC k, x) v h)
  exact of_decide_eq_true h1
theorem ms_tr_cat {ι : Nat → Nat} {b : Nat} {v : Value} (h : v.category = 1) : (ms_tr ι b v).category = 1 := by
  cases v <;> first | rfl | exact h
theorem ms_tr_cat' {ι : Nat → Nat} {b : Nat} {v : Value} : (ms_tr ι b v).category = v.category := by
  cases v <;> rfl
section S1
variable {p : Program} {l : Launch} {e : Env} {R : Room} {s : State} {m : MethodId} {args : Array Value} {below : List Frame} {meth : Method} {c : Code} {H : Heap} {locs : List Loc} {cells slots : Nat} {Q : State → Prop}
variable {cc : ByteArray} {pc len : Nat} {ls : Array Slot} {ι : Nat → Nat} {b : Nat} {k : Nat} {i : ClassFile.Instr} {st st' : List Value}
set_option maxHeartbeats 4000000 in
theorem ms_sA (hx : p.tables.exec = Jvm.exec) (hb : c.code = cc) (hown : s.vm.findClass (mOwn k) = some m.cls) (hts : ∀ w ∈ ms_base, w.before args s = true) (hd : decode cc pc = .ok (i, len)) (hln : mm_ln i = len ∨ mm_ln i = 0) (hs : mm_sA (mC k) i st = some st')
    (K : W p l e R s m args below meth c H locs cells slots Q (F0 m (pc + len) ls (st'.map (ms_tr ι b)))) : W p l e R s m args below meth c H locs cells slots Q (F0 m pc ls (st.map (ms_tr ι b))) := by
  unfold mm_sA at hs
  split at hs
  all_goals first
    | (cases hs; done)
    | skip
  all_goals dsimp only [mm_ln] at hln
  all_goals (obtain rfl : _ = len := hln.resolve_right (fun h => by cases h))
  · obtain ⟨x, y, r, v, rfl, h1, rfl⟩ := mm_ii_inv hs; cases h1; exact lv_iadd hx hb hd K
  · obtain ⟨x, y, r, v, rfl, h1, rfl⟩ := mm_ii_inv hs; cases h1; exact lv_isub hx hb hd K
  · obtain ⟨x, y, r, v, rfl, h1, rfl⟩ := mm_ii_inv hs; cases h1; exact lv_imul hx hb hd K
  · obtain ⟨x, y, r, v, rfl, h1, rfl⟩ := mm_ii_inv hs; cases h1; exact lv_iand hx hb hd K
  · obtain ⟨x, y, r, v, rfl, h1, rfl⟩ := mm_ii_inv hs; cases h1; exact lv_ior hx hb hd K
  · obtain ⟨x, y, r, v, rfl, h1, rfl⟩ := mm_ii_inv hs; cases h1; exact lv_ixor hx hb hd K
  · obtain ⟨x, y, r, v, rfl, h1, rfl⟩ := mm_ii_inv hs
    split at h1
    · cases h1
    · rename_i h0
      cases h1; exact lv_irem hx hb hd h0 K
  · obtain ⟨x, y, r, v, rfl, h1, rfl⟩ := mm_ii_inv hs; cases h1; exact lv_ishl hx hb hd K
  · obtain ⟨x, y, r, v, rfl, h1, rfl⟩ := mm_ii_inv hs; cases h1; exact lv_ishr hx hb hd K
  · obtain ⟨x, y, r, v, rfl, h1, rfl⟩ := mm_jj_inv hs; cases h1; exact lv_ladd hx hb hd K
  · obtain ⟨x, y, r, v, rfl, h1, rfl⟩ := mm_jj_inv hs; cases h1; exact lv_lsub hx hb hd K
  · obtain ⟨x, y, r, v, rfl, h1, rfl⟩ := mm_jj_inv hs; cases h1; exact lv_lmul hx hb hd K
  · obtain ⟨x, y, r, v, rfl, h1, rfl⟩ := mm_jj_inv hs
    split at h1
    · cases h1
    · rename_i h0
      cases h1; exact lv_ldiv hx hb hd h0 K
  · obtain ⟨x, y, r, v, rfl, h1, rfl⟩ := mm_jj_inv hs
    split at h1
    · cases h1
    · rename_i h0
      cases h1; exact lv_lrem hx hb hd h0 K
  · obtain ⟨x, y, r, v, rfl, h1, rfl⟩ := mm_jj_inv hs; cases h1; exact W.lcmp hx hb hd K
  · obtain ⟨x, y, r, v, rfl, h1, rfl⟩ := mm_dd_inv hs
    split at h1
    · rename_i h0
      cases h1; exact lv_ddiv hx hb hd h0 K
    · cases h1
  · obtain ⟨x, y, r, v, rfl, h1, rfl⟩ := mm_dd_inv hs; cases h1; exact lv_dcmp hx hb hd K
  · obtain ⟨x, r, rfl, rfl⟩ := mm_i1_inv hs; exact lv_i2l hx hb hd rfl K
  · obtain ⟨x, r, rfl, rfl⟩ := mm_j1_inv hs; exact lv_l2i hx hb hd rfl K
  · obtain ⟨x, r, rfl, rfl⟩ := mm_i1_inv hs; exact lv_i2c hx hb hd rfl K
  · obtain ⟨x, r, rfl, rfl⟩ := mm_i1_inv hs; exact lv_i2d hx hb hd K
  · cases hs; exact lv_iconst hx hb hd rfl K
  · cases hs; exact lv_bipush hx hb hd rfl K
  · cases hs; exact lv_sipush hx hb hd rfl K
  · cases hs; exact lv_lconst hx hb hd rfl K
  · split at hs
    · rename_i h0
      subst h0
      cases hs; exact lv_dconst0 hx hb hd K
    · cases hs
  · obtain ⟨v, h1, rfl⟩ := Option.map_eq_some_iff.mp hs
    exact lv_ldc hx hb hown (hts _ (ms_cst h1)) hd K
  · obtain ⟨v, h1, rfl⟩ := Option.map_eq_some_iff.mp hs
    exact lv_ldcw hx hb hown (hts _ (ms_cst h1)) hd K
  · obtain ⟨v, h1, rfl⟩ := Option.map_eq_some_iff.mp hs
    exact lv_ldc2 hx hb hown (hts _ (ms_cstL h1)) hd K
  · split at hs
    · split at hs
      · rename_i h0
        cases hs; exact lv_dup hx hb hd (ms_tr_cat h0) K
      · cases hs
    · cases hs
  · split at hs
    · split at hs
      · rename_i h0
        cases hs; exact lv_dup2_11 hx hb hd (ms_tr_cat h0.1) (ms_tr_cat h0.2) K
      · cases hs
    · cases hs
  · split at hs
    · split at hs
      · rename_i h0
        cases hs; exact lv_pop hx hb hd (ms_tr_cat h0) K
      · cases hs
    · cases hs
theorem ms_tg {pc t : Nat} {off : Int} (h : mm_tg pc off = some t) : (pc : Int) + off = (t : Int) := by
  unfold mm_tg at h
  split at h
  · rename_i h0
    cases h
    exact (Int.toNat_of_nonneg h0).symm
  · cases h
set_option maxHeartbeats 4000000 in
theorem ms_sB {pc' : Nat} (hx : p.tables.exec = Jvm.exec) (hb : c.code = cc) (hd : decode cc pc = .ok (i, len)) (hln : mm_ln i = len ∨ mm_ln i = 0) (hs : mm_sB pc len i st = some (pc', st'))
    (K : W p l e R s m args below meth c H locs cells slots Q (F0 m pc' ls (st'.map (ms_tr ι b)))) : W p l e R s m args below meth c H locs cells slots Q (F0 m pc ls (st.map (ms_tr ι b))) := by
  unfold mm_sB at hs
  split at hs
  · obtain ⟨t, h1, h2⟩ := Option.map_eq_some_iff.mp hs
    cases h2
    dsimp only [mm_ln] at hln
    obtain rfl : _ = len := hln.resolve_right (fun h => by cases h)
    exact lv_goto hx hb hd (ms_tg h1) K
  · rename_i cd off
    dsimp only [mm_ln] at hln
    obtain rfl : _ = len := hln.resolve_right (fun h => by cases h)
    split at hs
    · obtain ⟨t, h1, h2⟩ := Option.map_eq_some_iff.mp hs
      cases h2
      have h3 := ms_tg h1
      cases cd
      · refine lv_if_eq hx hb hd h3 (fun q => ?_) (fun q => ?_)
        · rw [if_pos (by simp [mm_cd, q])] at K
          exact K
        · rw [if_neg (by simpa [mm_cd] using q)] at K
          exact K
      · refine lv_if_ne hx hb hd h3 (fun q => ?_) (fun q => ?_)
        · rw [if_pos (by simp [mm_cd, q])] at K
          exact K
        · rw [if_neg (by simpa [mm_cd] using q)] at K
          exact K
      · refine lv_if_lt hx hb hd h3 (fun q => ?_) (fun q => ?_)
        · rw [if_pos (by simp [mm_cd, q])] at K
          exact K
        · rw [if_neg (by simpa [mm_cd] using q)] at K
          exact K
      · refine lv_if_ge hx hb hd h3 (fun q => ?_) (fun q => ?_)
        · rw [if_pos (by simp [mm_cd, q])] at K
          exact K
        · rw [if_neg (by simpa [mm_cd] using q)] at K
          exact K
      · refine lv_if_gt hx hb hd h3 (fun q => ?_) (fun q => ?_)
        · rw [if_pos (by simp [mm_cd, q])] at K
          exact K
        · rw [if_neg (by simpa [mm_cd] using q)] at K
          exact K
      · refine lv_if_le hx hb hd h3 (fun q => ?_) (fun q => ?_)
        · rw [if_pos (by simp [mm_cd, q])] at K
          exact K
        · rw [if_neg (by simpa [mm_cd] using q)] at K
          exact K
    · cases hs
  · rename_i cd off
    dsimp only [mm_ln] at hln
    obtain rfl : _ = len := hln.resolve_right (fun h => by cases h)
    split at hs
    · obtain ⟨t, h1, h2⟩ := Option.map_eq_some_iff.mp hs
      cases h2
      have h3 := ms_tg h1
      cases cd
      · refine lv_icmp_eq hx hb hd h3 (fun q => ?_) (fun q => ?_)
        · rw [if_pos (by simp [mm_cd, q])] at K
          exact K
        · rw [if_neg (by simpa [mm_cd] using q)] at K
          exact K
      · refine lv_icmp_ne hx hb hd h3 (fun q => ?_) (fun q => ?_)
        · rw [if_pos (by simp [mm_cd, q])] at K
          exact K
        · rw [if_neg (by simpa [mm_cd] using q)] at K
          exact K
      · refine lv_icmp_lt hx hb hd h3 (fun q => ?_) (fun q => ?_)
        · rw [if_pos (by simp [mm_cd, q])] at K
          exact K
        · rw [if_neg (by simpa [mm_cd] using q)] at K
          exact K
      · refine lv_icmp_ge hx hb hd h3 (fun q => ?_) (fun q => ?_)
        · rw [if_pos (by simp [mm_cd, q])] at K
          exact K
        · rw [if_neg (by simpa [mm_cd] using q)] at K
          exact K
      · refine lv_icmp_gt hx hb hd h3 (fun q => ?_) (fun q => ?_)
        · rw [if_pos (by simp [mm_cd, q])] at K
          exact K
        · rw [if_neg (by simpa [mm_cd] using q)] at K
          exact K
      · refine lv_icmp_le hx hb hd h3 (fun q => ?_) (fun q => ?_)
        · rw [if_pos (by simp [mm_cd, q])] at K
          exact K
        · rw [if_neg (by simpa [mm_cd] using q)] at K
          exact K
    · cases hs
  · rename_i dflt lo hi offs
    split at hs
    · rename_i x r
      split at hs
      · rename_i h0
        obtain ⟨t, h1, h2⟩ := Option.map_eq_some_iff.mp hs
        cases h2
        exact lv_tableOut hx hb hd h0 (ms_tg h1) K
      · rename_i h0
        split at hs
        · rename_i off ho
          obtain ⟨t, h1, h2⟩ := Option.map_eq_some_iff.mp hs
          cases h2
          exact lv_tableIn hx hb hd (fun q => h0 (Or.inl q)) (fun q => h0 (Or.inr q)) ho (ms_tg h1) K
        · cases hs
    · cases hs
  · rename_i dflt ps
    split at hs
    · rename_i x r
      split at hs
      · rename_i h0
        obtain ⟨t, h1, h2⟩ := Option.map_eq_some_iff.mp hs
        cases h2
        exact lv_lookup hx hb hd h0 rfl (ms_tg h1) K
      · cases hs
    · cases hs
  · cases hs
end S1
