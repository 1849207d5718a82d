section S3
variable {p : Program} {l : Launch} {e : Env} {R : Room} {s : State} {m : MethodId} {args : Array Value} {below : List Frame} {meth : Method} {c : Code} {H : Heap} {locs : List Loc} {cells slots : Nat} {Q : State → Prop}
variable {cc : ByteArray} {pc len : Nat} {ls : Array Slot} {ι : Nat → Nat} {b : Nat} {k : Nat} {i : ClassFile.Instr} {st st' : List Value} {D : va_G} {aC : Nat → ClassId} {A : Nat → Prop} {h h' : mm_H} {u0 v0 : Nat}
theorem ms_upd {h : mm_H} {a j : Nat} {v : Int32} : mm_i (mm_pi h a j v) a = upd (mm_i h a) j v := by
  funext y
  simp [mm_i, mm_pi, mm_up, upd]
theorem ms_updJ {h : mm_H} {a j : Nat} {v : Int64} : mm_j (mm_pj h a j v) a = vp_updL (mm_j h a) j v := by
  funext y
  simp [mm_j, mm_pj, mm_up, vp_updL]
theorem ms_updD {h : mm_H} {a j : Nat} {v : UInt64} : mm_d (mm_pd h a j v) a = vf_upd (mm_d h a) j v := by
  funext y
  simp [mm_d, mm_pd, mm_up, vf_upd]
theorem ms_updF {ι : Nat → Nat} {h : mm_H} {a j q : Nat} : (fun y => ms_tro ι (mm_F (mm_pf h a j (.ref q)) a y)) = va_up (fun y => ms_tro ι (mm_F h a y)) j (some (ι q)) := by
  funext y
  simp only [mm_F, mm_pf, mm_up, va_up, true_and]
  split <;> rfl
theorem ms_updC {h : mm_H} {a0 a sp dp n : Nat} : mm_i (mm_pc h a0 a sp dp n) a = va_cpy (mm_i h a0) (mm_i h a) sp dp n := by
  funext y
  simp [mm_i, mm_pc, mm_cp, va_cpy]
theorem ms_set_o {h : mm_H} {a t k : Nat} {v : Int32} (ht : mm_T h a = t) (h9 : t < 9) (hk : k < mm_sz t) (h2 : mm_kd t k ≠ 2) : (ms_ws ι b aC h).set a (ι a, .inr (t, (ms_fs ι b h a).set k (.int v))) = ms_ws ι b aC (mm_pi h a k v) := by
  subst ht
  rw [ms_fs_pi hk h2, ← ms_ws_set (h := h) (h' := mm_pi h a k v) rfl (fun x hx => ms_ent_pi hx)]
  rw [ms_ent_obj (h := mm_pi h a k v) (t := mm_T h a) rfl h9]
theorem ms_set_f {h : mm_H} {a t k : Nat} {v : Value} (ht : mm_T h a = t) (h9 : t < 9) (hk : k < mm_sz t) (h2 : mm_kd t k = 2) : (ms_ws ι b aC h).set a (ι a, .inr (t, (ms_fs ι b h a).set k (ms_tr ι b v))) = ms_ws ι b aC (mm_pf h a k v) := by
  subst ht
  rw [ms_fs_pf hk h2, ← ms_ws_set (h := h) (h' := mm_pf h a k v) rfl (fun x hx => ms_ent_pf hx)]
  rw [ms_ent_obj (h := mm_pf h a k v) (t := mm_T h a) rfl h9]
theorem ms_set_10 {h : mm_H} {a j : Nat} {v : Int32} (ht : mm_T h a = 10) : (ms_ws ι b aC h).set a (ι a, .inl (aC 0, mm_Z h a, .inl (upd (mm_i h a) j v))) = ms_ws ι b aC (mm_pi h a j v) := by
  rw [← ms_ws_set (h := h) (h' := mm_pi h a j v) rfl (fun x hx => ms_ent_pi hx), ms_ent_10 (h := mm_pi h a j v) ht, ms_upd]
  rfl
theorem ms_set_13 {h : mm_H} {a j : Nat} {v : Int32} (ht : mm_T h a = 13) : (ms_ws ι b aC h).set a (ι a, .inl (aC 3, mm_Z h a, .inl (upd (mm_i h a) j v))) = ms_ws ι b aC (mm_pi h a j v) := by
  rw [← ms_ws_set (h := h) (h' := mm_pi h a j v) rfl (fun x hx => ms_ent_pi hx), ms_ent_13 (h := mm_pi h a j v) ht, ms_upd]
  rfl
theorem ms_set_11 {h : mm_H} {a j : Nat} {v : Int64} (ht : mm_T h a = 11) : (ms_ws ι b aC h).set a (ι a, .inl (aC 1, mm_Z h a, .inr (.inl (vp_updL (mm_j h a) j v)))) = ms_ws ι b aC (mm_pj h a j v) := by
  rw [← ms_ws_set (h := h) (h' := mm_pj h a j v) rfl (fun x hx => ms_ent_pj hx), ms_ent_11 (h := mm_pj h a j v) ht, ms_updJ]
  rfl
theorem ms_set_12 {h : mm_H} {a j : Nat} {v : UInt64} (ht : mm_T h a = 12) : (ms_ws ι b aC h).set a (ι a, .inl (aC 2, mm_Z h a, .inr (.inr (.inr (.inl (vf_upd (mm_d h a) j v)))))) = ms_ws ι b aC (mm_pd h a j v) := by
  rw [← ms_ws_set (h := h) (h' := mm_pd h a j v) rfl (fun x hx => ms_ent_pd hx), ms_ent_12 (h := mm_pd h a j v) ht, ms_updD]
  rfl
theorem ms_set_14 {h : mm_H} {a j q : Nat} (ht : mm_T h a = 14) : (ms_ws ι b aC h).set a (ι a, .inl (aC 4, mm_Z h a, .inr (.inr (.inr (.inr (va_up (fun y => ms_tro ι (mm_F h a y)) j (some (ι q)))))))) = ms_ws ι b aC (mm_pf h a j (.ref q)) := by
  rw [← ms_ws_set (h := h) (h' := mm_pf h a j (.ref q)) rfl (fun x hx => ms_ent_pf hx), ms_ent_14 (h := mm_pf h a j (.ref q)) ht, ms_updF]
  rfl
theorem ms_set_c {h : mm_H} {a0 a sp dp n : Nat} (ht : mm_T h a = 10) : (ms_ws ι b aC h).set a (ι a, .inl (aC 0, mm_Z h a, .inl (va_cpy (mm_i h a0) (mm_i h a) sp dp n))) = ms_ws ι b aC (mm_pc h a0 a sp dp n) := by
  rw [← ms_ws_set (h := h) (h' := mm_pc h a0 a sp dp n) rfl (fun x hx => ms_ent_pc hx), ms_ent_10 (h := mm_pc h a0 a sp dp n) ht, ms_updC]
  rfl
theorem ms_in_arr {t : FieldType} (h : t ∈ ([.int, .long, .double, .char] : List FieldType)) : Cond.arrayClass t ∈ ms_base := of_decide_eq_true (List.all_eq_true.mp ms_arr_ok t h)
theorem ms_in_lib {w : Cond} (h : w ∈ ([Cond.static Lib.Math.min.name, Cond.initialized "java/lang/Math", Cond.code Lib.Math.min.name Lib.Math.min.code 2 (some .int), Cond.native arraycopyName, Cond.static arraycopyName, Cond.initialized "java/lang/System", Cond.instanceMethod objectInit, Cond.code objectInit ⟨#[0xb1]⟩ 1 none, Cond.classLink RX3 9 RX4] : List Cond)) : w ∈ ms_base := of_decide_eq_true (List.all_eq_true.mp ms_lib_ok w h)
theorem ms_catr (r : List Value) : (((r.map (ms_tr ι b)).map fun v => v.category).sum) = mm_cat r := by
  unfold mm_cat
  rw [List.map_map]
  congr 1
  exact List.map_congr_left fun v _ => ms_tr_cat'
theorem ms_fin {pc' t z q : Nat} {H1 : Heap} {E : va_E} {r : List Value} (hw : mm_wh h) (hr : mm_ws (mm_N h) r) (hE : ms_ent (mm_at ι (mm_N h) q) b aC (mm_nw h t z) (mm_N h) = E)
    (hP1 : va_P D vwCl (ms_ws ι b aC h ++ [(q, E)]) H1) (hD1 : va_D A (ms_ws ι b aC h ++ [(q, E)])) (hS1 : va_S A s.heap H1 locs) (hc : (mm_u h).1 = u0 + cells) (hsl : (mm_u h).2 = v0 + slots)
    (K : ∀ (ι' : Nat → Nat) (H' : Heap) (locs' : List Loc) (cells' slots' : Nat), ms_ag (mm_N h) ι ι' → ms_I D aC ι' b A s.heap H' locs' (mm_nw h t z) → (mm_u (mm_nw h t z)).1 = u0 + cells' → (mm_u (mm_nw h t z)).2 = v0 + slots' → W p l e R s m args below meth c H' locs' cells' slots' Q (F0 m pc' ls ((.ref (mm_N h) :: r).map (ms_tr ι' b)))) :
    W p l e R s m args below meth c H1 locs (cells + 1) (slots + z) Q (F0 m pc' ls (.ref q :: r.map (ms_tr ι b))) := by
  have hg : ms_ag (mm_N h) ι (mm_at ι (mm_N h) q) := fun a ha => mm_at_o _ _ (Nat.ne_of_lt ha)
  rw [← hE, ← ms_ws_nw hw] at hP1 hD1
  have K1 := K (mm_at ι (mm_N h) q) H1 locs (cells + 1) (slots + z) hg ⟨hP1, hD1, hS1, (mm_wh_nw hw _ _).1⟩ (by show (mm_u h).1 + 1 = _; omega) (by show (mm_u h).2 + z = _; omega)
  rw [List.map_cons, hg.st hr] at K1
  have e : ms_tr (mm_at ι (mm_N h) q) b (.ref (mm_N h)) = .ref q := by
    show Value.ref (mm_at ι (mm_N h) q (mm_N h)) = _
    rw [mm_at_s]
  rw [e] at K1
  exact K1
theorem ms_nat_words : nativeFrameWords "java/lang/System" "arraycopy" 5 + 11 ≤ 40 := by decide +kernel
set_option maxHeartbeats 8000000 in
theorem ms_sH (hx : p.tables.exec = Jvm.exec) (hb : c.code = cc) (hown : s.vm.findClass (mOwn k) = some m.cls) (hts : ∀ w ∈ ms_base, w.before args s = true) (hml : c.maxLocals = mL k) (hK : va_K D vwCl (ms_tys aC) s) (hin : mN k = true → meth.name = "<init>")
    (hI : ms_I D aC ι b A s.heap H locs h) (hA : ∀ q, s.heap.size ≤ q → A q) (hL : ls.size = mL k) (hscr : k = mm_law → va_X b (mm_X h).1 (mm_X h).2 s s.heap ∧ b < s.heap.size ∧ ¬ A b) (hao : va_AO RX4 s) (hws : mm_ws (mm_N h) st) (hRf : mF k ≤ R.frames) (hRo : mO k ≤ R.locals)
    (hc : (mm_u h).1 = u0 + cells) (hsl : (mm_u h).2 = v0 + slots) (hroom : (mm_u h').1 ≤ u0 + R.cells ∧ (mm_u h').2 ≤ v0 + R.slots) (hd : decode cc pc = .ok (i, len)) (hln : mm_ln i = len ∨ mm_ln i = 0) (hs : mm_sH k i st h = some (st', h'))
    (K : ∀ (ι' : Nat → Nat) (H' : Heap) (locs' : List Loc) (cells' slots' : Nat), ms_ag (mm_N h) ι ι' → ms_I D aC ι' b A s.heap H' locs' h' → (mm_u h').1 = u0 + cells' → (mm_u h').2 = v0 + slots' → W p l e R s m args below meth c H' locs' cells' slots' Q (F0 m (pc + len) ls (st'.map (ms_tr ι' b)))) :
    W p l e R s m args below meth c H locs cells slots Q (F0 m pc ls (st.map (ms_tr ι b))) := by
  obtain ⟨hP, hD, hS, hw⟩ := id hI
  have hob : ∀ {a t : Nat}, mm_T h a = t → t < 9 → (ms_ws ι b aC h)[a]? = some (ι a, .inr (t, ms_fs ι b h a)) := fun {a t} ht h9 => by
    rw [ms_ws_get (hw.lt ht (by omega)), ms_ent_obj ht h9]
  have h10 : ∀ {a : Nat}, mm_T h a = 10 → (ms_ws ι b aC h)[a]? = some (ι a, .inl (aC 0, mm_Z h a, .inl (mm_i h a))) := fun {a} ht => by
    rw [ms_ws_get (hw.lt ht (by omega)), ms_ent_10 ht]
  have h13 : ∀ {a : Nat}, mm_T h a = 13 → (ms_ws ι b aC h)[a]? = some (ι a, .inl (aC 3, mm_Z h a, .inl (mm_i h a))) := fun {a} ht => by
    rw [ms_ws_get (hw.lt ht (by omega)), ms_ent_13 ht]
  have h11 : ∀ {a : Nat}, mm_T h a = 11 → (ms_ws ι b aC h)[a]? = some (ι a, .inl (aC 1, mm_Z h a, .inr (.inl (mm_j h a)))) := fun {a} ht => by
    rw [ms_ws_get (hw.lt ht (by omega)), ms_ent_11 ht]
  have h12 : ∀ {a : Nat}, mm_T h a = 12 → (ms_ws ι b aC h)[a]? = some (ι a, .inl (aC 2, mm_Z h a, .inr (.inr (.inr (.inl (mm_d h a)))))) := fun {a} ht => by
    rw [ms_ws_get (hw.lt ht (by omega)), ms_ent_12 ht]
  have h14 : ∀ {a : Nat}, mm_T h a = 14 → (ms_ws ι b aC h)[a]? = some (ι a, .inl (aC 4, mm_Z h a, .inr (.inr (.inr (.inr (fun k => ms_tro ι (mm_F h a k))))))) := fun {a} ht => by
    rw [ms_ws_get (hw.lt ht (by omega)), ms_ent_14 ht]
  have rf := ms_ag.rf (mm_N h) ι
  unfold mm_sH at hs
  split at hs
  all_goals first
    | (cases hs; done)
    | skip
  all_goals dsimp only [mm_ln] at hln
  all_goals (obtain rfl : _ = len := hln.resolve_right (fun h => by cases h))
  · -- getfield
    split at hs
    · rename_i ci sl kd hf
      obtain ⟨f1, f2, f3, f4, -, -⟩ := ms_fld hf
      obtain ⟨c1, c2, c3, c4⟩ := ms_cls f2
      split at hs
      · rename_i a r
        split at hs
        · rename_i ht
          cases hs
          refine va_get hx hb hts c2 hown hK hP a (hob ht f2) c1 sl f3 (hts _ f1) (fun _ q => q) (ms_fs_get (by rw [ht]; exact f3)) hd ?_
          have K1 := K ι H locs cells slots rf hI hc hsl
          rw [ht, f4]
          have e1 : (if kd = 2 then ms_tr ι b (mm_F h a sl) else Value.int (mm_i h a sl)) = ms_tr ι b (if kd = 2 then mm_F h a sl else Value.int (mm_i h a sl)) := by
            split <;> rfl
          rw [e1]
          exact K1
        · cases hs
      · cases hs
    · cases hs
  · -- putfield
    split at hs
    · rename_i ci sl kd hf
      obtain ⟨f1, f2, f3, f4, f5, f6⟩ := ms_fld hf
      obtain ⟨c1, c2, c3, c4⟩ := ms_cls f2
      split at hs
      · rename_i v a r
        split at hs
        · rename_i ht
          obtain ⟨ht, hv⟩ := ht
          cases hs
          have hk2 : kd ≠ 2 := by rcases hv with q | q <;> omega
          obtain ⟨g1, g2⟩ := f6 hk2
          refine va_put hx hb hts c2 (mTys ci) c3 c4 hown hK hP hD hS a (hob ht f2) c1 sl f3 (hts _ f1) (fun _ q => q) g1 (v := .int v) g2 ?_ ?_ (by rw [ms_fs_len, ht]; exact f3) hd (fun H1 locs1 hP1 hD1 hS1 => ?_)
          · rcases hv with q | ⟨q, q1 | q1⟩
            · rw [if_pos q]; rfl
            · rw [if_neg (by omega), q1]; rfl
            · rw [if_neg (by omega), q1]; rfl
          · rcases hv with q | ⟨q, q1 | q1⟩
            · rw [if_pos q]; rfl
            · rw [if_neg (by omega), q1]; rfl
            · rw [if_neg (by omega), q1]; rfl
          · rw [ms_set_o ht f2 f3 (by rw [f4]; exact hk2)] at hP1 hD1
            exact K ι H1 locs1 cells slots rf ⟨hP1, hD1, hS1, (mm_wh_pi hw _ _ _).1⟩ hc hsl
        · cases hs
      · rename_i q a r
        split at hs
        · rename_i ht
          obtain ⟨ht, hk2, hn, hci⟩ := ht
          cases hs
          obtain ⟨g1, g2, g3⟩ := f5 hk2
          have hq : mm_wv (mm_N h) (.ref q) := (mm_ws_cons.mp hws).1
          refine va_putF hx hb hts c2 (mTys ci) c3 c4 hown hK hP hD hS a (hob ht f2) c1 sl f3 (hts _ f1) (fun _ q => q) g1 (hin hn) (by rw [g2, ← hci]; rfl) (v := .ref (ι q)) (c3 sl f3) ?_ ?_ (by rw [ms_fs_len, ht]; exact f3) hd (fun H1 locs1 hP1 hD1 hS1 => ?_)
          · rw [c3 sl f3] at g3
            revert g3
            cases mTys ci sl <;> first | (intro _; rfl) | (intro g3; cases g3)
          · rw [c3 sl f3] at g3
            revert g3
            cases mTys ci sl <;> first | (intro _; rfl) | (intro g3; cases g3)
          · rw [show Value.ref (ι q) = ms_tr ι b (.ref q) from rfl, ms_set_f ht f2 f3 (by rw [f4]; exact hk2)] at hP1 hD1
            exact K ι H1 locs1 cells slots rf ⟨hP1, hD1, hS1, (mm_wh_pf hw _ _ hq).1⟩ hc hsl
        · cases hs
      · cases hs
    · cases hs
  · -- iaload
    split at hs
    · rename_i j a r
      split at hs
      · rename_i ht
        obtain ⟨j', h1, h2⟩ := Option.map_eq_some_iff.mp hs
        cases h2
        obtain ⟨g1, rfl⟩ := ms_ix h1
        exact va_iald hx hb hK hP a 0 (h10 ht) rfl g1 hd (K ι H locs cells slots rf hI hc hsl)
      · cases hs
    · rename_i j a r
      split at hs
      · rename_i ht
        obtain ⟨j', h1, h2⟩ := Option.map_eq_some_iff.mp hs
        cases h2
        obtain ⟨g1, rfl⟩ := ms_ix h1
        obtain ⟨x1, x2, x3⟩ := hscr ht
        exact va_sld hx hb x1 x2 x3 hS g1 hd (K ι H locs cells slots rf hI hc hsl)
      · cases hs
    · cases hs
  · -- caload
    split at hs
    · rename_i j a r
      split at hs
      · rename_i ht
        obtain ⟨j', h1, h2⟩ := Option.map_eq_some_iff.mp hs
        cases h2
        obtain ⟨g1, rfl⟩ := ms_ix h1
        exact va_cald hx hb hK hP a 3 (h13 ht) rfl g1 hd (K ι H locs cells slots rf hI hc hsl)
      · cases hs
    · cases hs
  · -- laload
    split at hs
    · rename_i j a r
      split at hs
      · rename_i ht
        obtain ⟨j', h1, h2⟩ := Option.map_eq_some_iff.mp hs
        cases h2
        obtain ⟨g1, rfl⟩ := ms_ix h1
        exact va_lald hx hb hK hP a 1 (h11 ht) rfl g1 hd (K ι H locs cells slots rf hI hc hsl)
      · cases hs
    · cases hs
  · -- daload
    split at hs
    · rename_i j a r
      split at hs
      · rename_i ht
        obtain ⟨j', h1, h2⟩ := Option.map_eq_some_iff.mp hs
        cases h2
        obtain ⟨g1, rfl⟩ := ms_ix h1
        exact va_dald hx hb hK hP a 2 (h12 ht) rfl g1 hd (K ι H locs cells slots rf hI hc hsl)
      · cases hs
    · cases hs
  · -- aaload
    split at hs
    · rename_i j a r
      split at hs
      · rename_i ht
        obtain ⟨j', h1, h2⟩ := Option.bind_eq_some_iff.mp hs
        obtain ⟨g1, rfl⟩ := ms_ix h1
        split at h2
        · rename_i q hq
          cases h2
          refine va_aldq hx hb hK hP a 4 (h14 ht) rfl g1 hd ?_
          show W p l e R s m args below meth c H locs cells slots Q (F0 m (pc + 1) ls (va_rf (ms_tro ι (mm_F h a j.toNatClampNeg)) :: r.map (ms_tr ι b)))
          rw [hq]
          exact K ι H locs cells slots rf hI hc hsl
        · cases h2
      · cases hs
    · cases hs
  · -- iastore
    split at hs
    · rename_i v j a r
      split at hs
      · rename_i ht
        obtain ⟨j', h1, h2⟩ := Option.map_eq_some_iff.mp hs
        cases h2
        obtain ⟨g1, rfl⟩ := ms_ix h1
        refine va_iast hx hb hK hP hD hS a 0 (h10 ht) rfl g1 hd (fun H1 locs1 hP1 hD1 hS1 => ?_)
        rw [ms_set_10 ht] at hP1 hD1
        exact K ι H1 locs1 cells slots rf ⟨hP1, hD1, hS1, (mm_wh_pi hw _ _ _).1⟩ hc hsl
      · cases hs
    · cases hs
  · -- castore
    split at hs
    · rename_i v j a r
      split at hs
      · rename_i ht
        obtain ⟨j', h1, h2⟩ := Option.map_eq_some_iff.mp hs
        cases h2
        obtain ⟨g1, rfl⟩ := ms_ix h1
        refine va_cast hx hb hK hP hD hS a 3 (h13 ht) rfl g1 hd (fun H1 locs1 hP1 hD1 hS1 => ?_)
        rw [ms_set_13 ht] at hP1 hD1
        exact K ι H1 locs1 cells slots rf ⟨hP1, hD1, hS1, (mm_wh_pi hw _ _ _).1⟩ hc hsl
      · cases hs
    · cases hs
  · -- lastore
    split at hs
    · rename_i v j a r
      split at hs
      · rename_i ht
        obtain ⟨j', h1, h2⟩ := Option.map_eq_some_iff.mp hs
        cases h2
        obtain ⟨g1, rfl⟩ := ms_ix h1
        refine va_last hx hb hK hP hD hS a 1 (h11 ht) rfl g1 hd (fun H1 locs1 hP1 hD1 hS1 => ?_)
        rw [ms_set_11 ht] at hP1 hD1
        exact K ι H1 locs1 cells slots rf ⟨hP1, hD1, hS1, (mm_wh_pj hw _ _ _).1⟩ hc hsl
      · cases hs
    · cases hs
  · -- dastore
    split at hs
    · rename_i v j a r
      split at hs
      · rename_i ht
        obtain ⟨j', h1, h2⟩ := Option.map_eq_some_iff.mp hs
        cases h2
        obtain ⟨g1, rfl⟩ := ms_ix h1
        refine va_dast hx hb hK hP hD hS a 2 (h12 ht) rfl g1 hd (fun H1 locs1 hP1 hD1 hS1 => ?_)
        rw [ms_set_12 ht] at hP1 hD1
        exact K ι H1 locs1 cells slots rf ⟨hP1, hD1, hS1, (mm_wh_pd hw _ _ _).1⟩ hc hsl
      · cases hs
    · cases hs
  · -- aastore
    split at hs
    · rename_i q j a r
      split at hs
      · rename_i ht
        obtain ⟨ht, hq4⟩ := ht
        obtain ⟨j', h1, h2⟩ := Option.map_eq_some_iff.mp hs
        cases h2
        obtain ⟨g1, rfl⟩ := ms_ix h1
        have hq : mm_wv (mm_N h) (.ref q) := (mm_ws_cons.mp hws).1
        refine va_astq hx hb hK hP hD hS a 4 q 4 (r := (RX4, TX4, 7)) (h14 ht) rfl (hob hq4 (by decide)) rfl g1 hd (fun H1 locs1 hP1 hD1 hS1 => ?_)
        rw [ms_set_14 ht] at hP1 hD1
        exact K ι H1 locs1 cells slots rf ⟨hP1, hD1, hS1, (mm_wh_pf hw _ _ hq).1⟩ hc hsl
      · cases hs
    · cases hs
  · -- arraylength
    split at hs
    · split at hs
      · rename_i ht
        cases hs
        obtain ⟨x1, x2, x3⟩ := hscr ht
        exact va_slen hx hb x1 x2 x3 hS hd (K ι H locs cells slots rf hI hc hsl)
      · cases hs
    · cases hs
  · -- newarray
    rename_i at_
    split at hs
    · rename_i n r
      split at hs
      · rename_i tg htg
        split at hs
        · rename_i hn
          cases hs
          have hr : mm_ws (mm_N h) r := (mm_ws_cons.mp hws).2
          have hcell : cells + 1 ≤ R.cells := by
            have h1 : (mm_u h).1 + 1 ≤ u0 + R.cells := hroom.1
            omega
          have hslot : slots + n.toNatClampNeg ≤ R.slots := by
            have h1 : (mm_u h).2 + n.toNatClampNeg ≤ v0 + R.slots := hroom.2
            omega
          cases at_ <;> first
            | (cases htg; done)
            | skip
          · cases htg
            refine va_newa (atype := .char) hx hb (hts _ (ms_in_arr (t := .char) (by simp))) (ty := .char) rfl hK hP hD hS hA (a0 := (n.toNatClampNeg, .inl (fun _ => 0))) (fun cA => rfl) hn.1 rfl (by show n.toNatClampNeg * 2 ≤ _; omega) hcell hslot hd (fun q cA H1 hK1 hP1 hD1 hS1 => ?_)
            obtain rfl := ms_cA (t := 3) hK rfl hK1
            exact ms_fin hw hr (by rw [ms_ent_13 mm_T_nw, mm_Z_nw, mm_i_nw]) hP1 hD1 hS1 hc hsl K
          · cases htg
            refine va_newa (atype := .double) hx hb (hts _ (ms_in_arr (t := .double) (by simp))) (ty := .double) rfl hK hP hD hS hA (a0 := (n.toNatClampNeg, .inr (.inr (.inr (.inl (fun _ => 0)))))) (fun cA => rfl) hn.1 rfl (by show n.toNatClampNeg * 8 ≤ _; omega) hcell hslot hd (fun q cA H1 hK1 hP1 hD1 hS1 => ?_)
            obtain rfl := ms_cA (t := 2) hK rfl hK1
            exact ms_fin hw hr (by rw [ms_ent_12 mm_T_nw, mm_Z_nw, mm_d_nw]) hP1 hD1 hS1 hc hsl K
          · cases htg
            refine va_newa (atype := .int) hx hb (hts _ (ms_in_arr (t := .int) (by simp))) (ty := .int) rfl hK hP hD hS hA (a0 := (n.toNatClampNeg, .inl (fun _ => 0))) (fun cA => rfl) hn.1 rfl (by show n.toNatClampNeg * 4 ≤ _; omega) hcell hslot hd (fun q cA H1 hK1 hP1 hD1 hS1 => ?_)
            obtain rfl := ms_cA (t := 0) hK rfl hK1
            exact ms_fin hw hr (by rw [ms_ent_10 mm_T_nw, mm_Z_nw, mm_i_nw]) hP1 hD1 hS1 hc hsl K
          · cases htg
            refine va_newa (atype := .long) hx hb (hts _ (ms_in_arr (t := .long) (by simp))) (ty := .long) rfl hK hP hD hS hA (a0 := (n.toNatClampNeg, .inr (.inl (fun _ => 0)))) (fun cA => rfl) hn.1 rfl (by show n.toNatClampNeg * 8 ≤ _; omega) hcell hslot hd (fun q cA H1 hK1 hP1 hD1 hS1 => ?_)
            obtain rfl := ms_cA (t := 1) hK rfl hK1
            exact ms_fin hw hr (by rw [ms_ent_11 mm_T_nw, mm_Z_nw, mm_j_nw]) hP1 hD1 hS1 hc hsl K
        · cases hs
      · cases hs
    · cases hs
  · -- anewarray
    split at hs
    · rename_i n r
      split at hs
      · rename_i hn
        obtain ⟨hn, hn2, hc3, hx9⟩ := hn
        cases hs
        subst hx9
        have hr : mm_ws (mm_N h) r := (mm_ws_cons.mp hws).2
        have hcell : cells + 1 ≤ R.cells := by
          have h1 : (mm_u h).1 + 1 ≤ u0 + R.cells := hroom.1
          omega
        have hslot : slots + n.toNatClampNeg ≤ R.slots := by
          have h1 : (mm_u h).2 + n.toNatClampNeg ≤ v0 + R.slots := hroom.2
          omega
        have hown3 : s.vm.findClass RX3 = some m.cls := by
          have : mOwn k = RX3 := by unfold mOwn; rw [hc3]; rfl
          rw [← this]; exact hown
        refine va_newq hx hb hown3 (hts _ (ms_in_lib (by simp))) hao hK hP hD hS hA hn rfl (by omega) hcell hslot hd (fun q cA H1 hK1 hP1 hD1 hS1 => ?_)
        obtain rfl := ms_cA (t := 4) hK rfl hK1
        exact ms_fin hw hr (by rw [ms_ent_14 mm_T_nw, mm_Z_nw, mm_F_nw]; rfl) hP1 hD1 hS1 hc hsl K
      · cases hs
    · cases hs
  · -- new
    split at hs
    · rename_i ci hf
      cases hs
      obtain ⟨f1, f2, f3, f4, f5⟩ := ms_new hf
      obtain ⟨c1, c2, c3, c4⟩ := ms_cls f4
      have hcell : cells + 1 ≤ R.cells := by
        have h1 : (mm_u h).1 + 1 ≤ u0 + R.cells := hroom.1
        omega
      have hslot : slots + mm_sz ci ≤ R.slots := by
        have h1 : (mm_u h).2 + mm_sz ci ≤ v0 + R.slots := hroom.2
        omega
      refine va_new (ci := ci) (fs := (List.range (mm_sz ci)).map fun j => if mm_kd ci j = 2 then Value.null else .int 0) hx hb hts c2 (mTys ci) c3 hown (hts _ f1) (hts _ f2) (hts _ f3) hK hP hD hS hA c1 (fun j hj => ?_) hcell hslot hd (fun q H1 hP1 hD1 hS1 => ?_)
      · rw [f5 j hj]
        simp [vp_V, hj]
      · refine ms_fin hw hws (by rw [ms_ent_obj mm_T_nw f4]) ?_ ?_ hS1 hc hsl K
        · have e : ms_fs (mm_at ι (mm_N h) q) b (mm_nw h ci (mm_sz ci)) (mm_N h) = (List.range (mm_sz ci)).map fun j => if mm_kd ci j = 2 then Value.null else .int 0 := by
            unfold ms_fs
            rw [mm_T_nw, mm_F_nw, mm_i_nw]
            rfl
          rw [e]
          exact hP1
        · have e : ms_fs (mm_at ι (mm_N h) q) b (mm_nw h ci (mm_sz ci)) (mm_N h) = (List.range (mm_sz ci)).map fun j => if mm_kd ci j = 2 then Value.null else .int 0 := by
            unfold ms_fs
            rw [mm_T_nw, mm_F_nw, mm_i_nw]
            rfl
          rw [e]
          exact hD1
    · cases hs
  · -- min, arraycopy
    split at hs
    · rename_i a1 a2 hm
      split at hs
      · rename_i y x r
        split at hs
        · rename_i hr
          cases hs
          exact va_mmin hx hb (by rw [hml, hL]) hown (hts _ (ms_lib10 hm)) (hts _ (ms_in_lib (by simp))) (hts _ (ms_in_lib (by simp))) (hts _ (ms_in_lib (by simp))) (by omega) (by rw [ms_catr]; omega) (by have := hroom.1; omega) (by have := hroom.2; omega) hd (K ι H locs cells slots rf hI hc hsl)
        · cases hs
      · cases hs
    · rename_i a1 a2 hm
      split at hs
      · rename_i n dp a sp a0 r
        split at hs
        · rename_i hr
          obtain ⟨t0, t1, ⟨n1, n2, n3⟩, q1, q2, q3, q4, q5⟩ := hr
          cases hs
          refine va_copyi hx hb (by rw [hml, hL]) hown (hts _ (ms_lib11 hm)) (hts _ (ms_in_lib (by simp))) (hts _ (ms_in_lib (by simp))) (hts _ (ms_in_lib (by simp))) hK hP hD hS a0 a 0 0 (h10 t0) (h10 t1) rfl rfl (ty := .int) rfl n1 n2 n3 q1 q2 (fun _ _ => rfl) (by omega) (by have := ms_nat_words; rw [ms_catr]; omega) hd (fun H1 locs1 hP1 hD1 hS1 => ?_)
          rw [ms_set_c t1] at hP1 hD1
          exact K ι H1 locs1 cells slots rf ⟨hP1, hD1, hS1, (mm_wh_pc hw _ _ _ _ _).1⟩ hc hsl
        · cases hs
      · cases hs
    · cases hs
  · -- Object.<init>
    split at hs
    · rename_i a1 a2 hm
      split at hs
      · split at hs
        · rename_i hr
          cases hs
          refine W.objInit hx hb hown (hts _ (ms_lib12 hm)) (hts _ (ms_in_lib (by simp))) (hts _ (ms_in_lib (by simp))) rfl (by rw [hml]; exact hL) rfl hd (by omega) ?_ ?_
          · have h9 := ms_catr (ι := ι) (b := b) st'
            show 2 * 0 + _ + 12 ≤ R.locals
            rw [h9]
            omega
          · exact K ι H locs cells slots rf hI hc hsl
        · cases hs
      · cases hs
    · cases hs
end S3
