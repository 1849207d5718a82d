/-! THE CLAIM OUT OF ONE WALK OF THE LAW'S BODY. Your part is whole_start (and what it stands on); all else here is the same for every law, but numbers. -/
def R_law : String := "CondoLedgerLaw"
def lw_P (b : Addr) (xs : List Int32) (args : Array Value) (s : State) : Prop := args = #[.ref b] ∧ s.IntsAt b xs ∧ xs.length ≤ 3072 ∧ (Jvm.Cond.and given_1 narrow_1).before args s = true
/-- what a walk over the start with the record d0 says of its end, said of the start itself -/
theorem lw_closed {s t : State} {o : Outcome} {d0 : Drawn} {L : List Loc} {k n : Nat} (hd0 : s.drawn.sameBut d0 lw_cs) (hv : ∃ v, o = .returned v) (hW : (s.setDrawn d0).WarmedH t.vm) (hs : (s.setDrawn d0).sameButNew ({ t with vm := s.vm } : State) L k n) : State.butDraws s t lw_cs (fun t1 => Framed s o t1 L k n) := by
  have h2 : t.drawn = d0 := congrArg State.drawn hs.1
  refine ⟨⟨hv, hW, State.sameButNew.setDrawn hs s.drawn⟩, ?_, by decide⟩
  rw [h2]
  exact hd0
def lw_Q (_ : Array Value) (s : State) (o : Outcome) (t : State) : Prop := o = .returned (some (.int 1)) ∧ State.butDraws s t lw_cs (fun t1 => Framed s o t1 [] 601024 7293034)
def lw_Z (below : List Frame) (a : Array Value) (s : State) : State → Prop := fun t => ∃ o, t.status = .running ∧ Ended t below o ∧ lw_Q a s o t
/-- the law's own end, with 1 on the stack, nothing written that was there before, its room as the claim has it; d0: the record of draws at this point (at the entry s.drawn: begin with 'refine W.base ?_' and 'have hd0 := Drawn.sameBut.refl s.drawn lw_cs') -/
theorem lw_ret {p : Program} {l : Launch} {e : Env} {s : State} {m : MethodId} {below : List Frame} {meth : Method} {c : Code} {b : Nat} {d0 : Drawn} (hd0 : s.drawn.sameBut d0 lw_cs) (hx : p.tables.exec = Jvm.exec) (hb : c.code = code) (hr : meth.sig.returnType = ret) (hlocks : meth.locks = false) {pc : Nat} {H : Heap} {ls : Array Slot} (hdg : decode code pc = .ok (.ireturn, 1)) : W p l e room_1 (s.setDrawn d0) m #[Value.ref b] below meth c H [] 601024 7293034 (lw_Z below #[Value.ref b] s) (F0 m pc ls [.int 1]) := by
  intro T hT X
  obtain ⟨fs, hret, hrun, hended, hW, hframe⟩ := X.leave (v := some (.int 1)) (hlocks := hlocks) (fun h => by rw [hr] at h; cases h)
  have hmeth' : T.vm.method? m = some meth := X.method'
  refine ⟨T.setFrames fs, ?_, .returned (some (.int 1)), hrun, hended, rfl, lw_closed hd0 ⟨_, rfl⟩ hW hframe⟩
  jvm_step X.here [X.here.top, hx, hb, hdg, hmeth', hr, ret, narrow_b1]
  (try refine ⟨rfl, ?_⟩); (try refine ⟨rfl, ?_⟩)
  first | (intro acts; rw [hret _ acts rfl rfl rfl]) | rw [hret _ _ rfl rfl rfl]
  exact Steps.refl _
/-- what holds at the law's entry: the machine, the code, the tables' words (any of lw_tbl by 'hts w (by decide +kernel)'), the script of L ints xs at the cell b, what the Statement gives of the start (any of its parts by flat_of_before) -/
def lw_At (p : Program) (s : State) (m : MethodId) (meth : Method) (c : Code) (b L : Nat) (xs : Nat → Int32) : Prop :=
  p.tables.exec = Jvm.exec ∧ c.code = code ∧ meth.sig.returnType = ret ∧ c.maxLocals = 9 ∧ s.vm.findClass R_law = some m.cls ∧ (∀ w ∈ lw_tbl, w.before #[Value.ref b] s = true) ∧ va_X b L xs s s.heap ∧ b < s.heap.size ∧ meth.locks = false ∧ (Jvm.Cond.and given_1 narrow_1).before #[Value.ref b] s = true
-- ===== YOUR PART BEGINS =====
-- ===== the law's frame =====
def mm_h0 (X : Nat × (Nat → Int32)) : mm_H := ((0, fun _ => (99, 0), fun _ _ => .null, X), fun _ _ => 0, fun _ _ => 0, fun _ _ => 0, (0, 0))
def mm_L0 : mm_L := [some (.retAddr 0), none, none, none, none, none, none, none, none]
theorem ms_str_ok : ms_strs.all (fun q => decide (Cond.stringRef RX7 q.1 q.2 ∈ lw_tbl)) = true := by decide +kernel
theorem ms_str2_ok : ms_strs.all (fun q => decide (Cond.exactly (.string RX7 q.1) "java/lang/String" ∈ flatC (Cond.and given_1 narrow_1))) = true := by decide +kernel
theorem ms_ncs_ok : ms_ncs.all (fun q => decide (Cond.not (.castable q.1 q.2) ∈ flatC (Cond.and given_1 narrow_1))) = true := by decide +kernel
theorem ms_ao_ok : Cond.arrayOver (.object RX4) ∈ lw_tbl := by decide +kernel
theorem ms_st1_ok : Cond.isRef (.static Bundle.tN "UNASSIGNED_STACK" Bundle.steD) ∈ flatC (Cond.and given_1 narrow_1) := by decide +kernel
theorem ms_st2_ok : Cond.isRef (.static Bundle.tN "SUPPRESSED_SENTINEL" Bundle.listD) ∈ flatC (Cond.and given_1 narrow_1) := by decide +kernel
theorem ms_st3_ok : Cond.laysStatic Bundle.tN "UNASSIGNED_STACK" Bundle.steD ∈ lw_tbl := by decide +kernel
theorem ms_st4_ok : Cond.laysStatic Bundle.tN "SUPPRESSED_SENTINEL" Bundle.listD ∈ lw_tbl := by decide +kernel
theorem ms_st5_ok : Cond.initialized Bundle.tN ∈ lw_tbl := by decide +kernel
theorem ms_ins_ok : (List.range 9).all (fun ci => decide (Cond.instantiable (mCns.getD ci RL) (mm_sz ci) ∈ lw_tbl)) = true := by decide +kernel
theorem ms_amb0 {args : Array Value} {s : State} (hts : ∀ w ∈ lw_tbl, w.before args s = true) (hgv : (Cond.and given_1 narrow_1).before args s = true) : ms_amb (fun q => s.heap.size ≤ q) s s.heap := by
  have hs := flat_of_before _ hgv
  have hA : ∀ a : Nat, a < s.heap.size → ¬ s.heap.size ≤ a := fun a h => Nat.not_le.mpr h
  refine ⟨vx_Zqof (hts _ ms_st3_ok) (hts _ ms_st5_ok) (hs _ ms_st1_ok) hA, vx_Zqof (hts _ ms_st4_ok) (hts _ ms_st5_ok) (hs _ ms_st2_ok) hA, fun q hq => ?_, fun w hw => ?_, va_AO.of (hts _ ms_ao_ok), fun q hq => ?_⟩
  · have h1 := of_decide_eq_true (List.all_eq_true.mp ms_str_ok q hq)
    have h2 := hs _ (of_decide_eq_true (List.all_eq_true.mp ms_str2_ok q hq))
    obtain ⟨a, c, cA, kA, q1, -⟩ := Cond.exactly_spec (args := args) (first := s) (o := none) (s := s) (idx := []) (t := .string RX7 q.1) (cls := "java/lang/String") h2
    exact ⟨a, vk_R.of (hts _ h1) q1⟩
  · have h1 := List.mem_filter.mp hw
    exact va_Nw.of (ms_nw_on h1.2) (hts w h1.1)
  · exact va_Nc.of (hs _ (of_decide_eq_true (List.all_eq_true.mp ms_ncs_ok q hq)))
theorem ms_K0 {args : Array Value} {s : State} (hts : ∀ w ∈ lw_tbl, w.before args s = true) : ∃ (D : va_G) (aC : Nat → ClassId), va_K D vwCl (ms_tys aC) s := by
  have hb : ∀ w ∈ ms_base, w.before args s = true := fun w hw => hts w (List.mem_filter.mp hw).1
  have h1 : ∀ ci, ∃ (cC : ClassId) (iS : Nat → Nat), ci < 9 → u_Kn s (mCns.getD ci RL) (mTs ci) (mm_sz ci) cC iS := fun ci => by
    by_cases h : ci < 9
    · obtain ⟨c1, c2, c3, c4⟩ := ms_cls h
      obtain ⟨cC, iS, hk⟩ := u_known hb c2 (hts _ (of_decide_eq_true (List.all_eq_true.mp ms_ins_ok ci (List.mem_range.mpr h))))
      exact ⟨cC, iS, fun _ => hk⟩
    · exact ⟨0, fun _ => 0, fun q => absurd q h⟩
  have h2 : ∀ t : FieldType, t ∈ ([.int, .long, .double, .char] : List FieldType) → ∃ cA, ArrOfT s cA t ∧ s.vm.findClass ("[" ++ t.toString) = some cA := fun t ht => by
    obtain ⟨c, k, comp, e1, e2, e3⟩ := Cond.arrayClass_spec (hts _ (List.mem_filter.mp (ms_in_arr ht)).1)
    exact ⟨c, fun n z => ⟨fun k h => (by cases h), k, e2, comp, e3⟩, e1⟩
  obtain ⟨a0, p0, q0⟩ := h2 .int (by simp)
  obtain ⟨a1, p1, q1⟩ := h2 .long (by simp)
  obtain ⟨a2, p2, q2⟩ := h2 .double (by simp)
  obtain ⟨a3, p3, q3⟩ := h2 .char (by simp)
  obtain ⟨comp, a4, k, e1, e2, e3, e4, e5⟩ := Cond.arrayOver_spec (hts _ ms_ao_ok)
  refine ⟨(fun ci => Classical.choose (h1 ci), fun ci => Classical.choose (Classical.choose_spec (h1 ci))), fun j => [a0, a1, a2, a3, a4].getD j 0, fun ci q hq => ?_, fun j q hj => ?_⟩
  · have h9 : ci < 9 := (List.getElem?_eq_some_iff.mp hq).1
    have hc := (ms_cls h9).1
    cases Option.some.inj (hc.symm.trans hq)
    exact Classical.choose_spec (Classical.choose_spec (h1 ci)) h9
  · match j, hj with
    | 0, hj => cases hj; exact ⟨p0, q0⟩
    | 1, hj => cases hj; exact ⟨p1, q1⟩
    | 2, hj => cases hj; exact ⟨p2, q2⟩
    | 3, hj => cases hj; exact ⟨p3, q3⟩
    | 4, hj => cases hj; exact ⟨fun n z => ⟨fun k h => (by cases h), k, e3, comp, e4⟩, k, comp, e3, e4, e1, e5⟩
    | j + 5, hj => cases hj
set_option maxHeartbeats 4000000 in
/-- THE LAW, out of a run of the small machine -/
theorem ms_law {p : Program} {e : Env} {s : State} {m : MethodId} {below : List Frame} {meth : Method} {c : Code} (l : Launch) (hflags : l.flags = flags0) {b L : Nat} {xs : Nat → Int32} (C0 : lw_At p s m meth c b L xs)
    {n : Nat} {h' : mm_H} (hrun : mm_run n 231 0 mm_L0 [] (mm_h0 (L, xs)) = some (.inl (some (.int 1)), h')) (hu : (mm_u h').1 ≤ 601024 ∧ (mm_u h').2 ≤ 7293034) :
    W p l e room_1 s m #[Value.ref b] below meth c s.heap [] 0 0 (lw_Z below #[Value.ref b] s) (entryFrame m ([Value.ref b] : List Value).toArray 9) := by
  obtain ⟨hx, hb, hr, hml, hown, hts, hX, hbl, hlocks, hgv⟩ := id C0
  have hst : l.stackTraces = false := by
    unfold Launch.stackTraces
    rw [hflags]
    decide +kernel
  obtain ⟨D, aC, hK⟩ := ms_K0 hts
  have ham := ms_amb0 hts hgv
  refine W.base ?_
  have hd0 := Drawn.sameBut.refl s.drawn lw_cs
  have hts2 := dr_words hts s.drawn
  have hl := lv_entry ([.ref b]) (n := 9) (Nat.le_of_ble_eq_true rfl)
  rw [lg_entry_eq]
  generalize (lg_sl ([.ref b]) ++ List.replicate (9 - (lg_sl ([.ref b])).length) Slot.unset).toArray = ls at hl ⊢
  have hl : lv_has ls 9 [(0, .ref b)] := hl
  have hF : ms_Fr p l room_1 (s.setDrawn s.drawn) m #[Value.ref b] meth c D aC b (fun q => s.heap.size ≤ q) 231 (L, xs) :=
    ⟨hx, hb, hml, hown, fun w hw => hts2 w (List.mem_filter.mp hw).1, hlocks, fun q => (by cases q), va_K.moved (Vm.Alike.refl _) hK, fun _ q => q, Nat.le_of_ble_eq_true rfl, Nat.le_of_ble_eq_true rfl,
      ms_amb.moved (U := s.setDrawn s.drawn) ham (State.WarmedH.refl s) (fun _ q => q) (fun _ _ _ => rfl), hst, fun q => absurd q (by decide), fun _ => ⟨hX.moved (Vm.Alike.refl _), hbl, Nat.not_le.mpr hbl⟩⟩
  have hLR : ms_LR (fun q => q) b 231 ls mm_L0 := by
    refine ⟨rfl, hl.1, hl.2.1, fun i v hv => ?_, fun hg => by cases hg⟩
    match i, hv with
    | 0, hv => cases hv; exact hl.2.2 (0, .ref b) List.mem_cons_self
    | 1, hv => cases hv
    | 2, hv => cases hv
    | 3, hv => cases hv
    | 4, hv => cases hv
    | 5, hv => cases hv
    | 6, hv => cases hv
    | 7, hv => cases hv
    | 8, hv => cases hv
    | i + 9, hv => cases hv
  have hI : ms_I D aC (fun q => q) b (fun q => s.heap.size ≤ q) (s.setDrawn s.drawn).heap s.heap [] (mm_h0 (L, xs)) :=
    ⟨fun k q hk => (by cases hk), ⟨fun i j p q hi => (by cases hi), fun k q hk => (by cases hk)⟩, va_S.rf, fun _ _ => rfl, fun _ _ a ha => (by cases ha)⟩
  refine ms_walk_all n 231 0 mm_L0 [] (mm_h0 (L, xs)) _ h' hrun (by decide) p l e room_1 (s.setDrawn s.drawn) m _ below meth c _ D aC (fun q => q) b _ s.heap [] 0 0 ls 0 0 (L, xs) hF rfl hI hLR ?_ (fun v hv => by cases hv) rfl rfl
    (by rw [Nat.zero_add]; exact hu.1) (by rw [Nat.zero_add]; exact hu.2) ?_ ?_ ?_
  · intro i v hv a ha
    match i, hv with
    | 0, hv => cases hv; cases ha
    | 1, hv => cases hv
    | 2, hv => cases hv
    | 3, hv => cases hv
    | 4, hv => cases hv
    | 5, hv => cases hv
    | 6, hv => cases hv
    | 7, hv => cases hv
    | 8, hv => cases hv
    | i + 9, hv => cases hv
  · intro v ι' H' locs' cells' slots' pc' ls' ho hag hI' hc' hs' hrd
    cases ho
    refine va_forget (fun q hq => hI'.2.2.1.2.2 q hq) ?_
    rw [Nat.zero_add] at hc' hs'
    refine W.widen (k := 601024) (n := 7293034) (by rw [← hc']; exact hu.1) (by rw [← hs']; exact hu.2) ?_
    exact lw_ret hd0 hx hb hr hlocks hrd.1
  · intro ex d ι' H' locs' cells' slots' pc' ls' st' h2 ho
    cases ho
  · intro ex E ce q ι' H' locs' cells' slots' pc' ls' rest ho
    cases ho
