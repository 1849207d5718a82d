-- ===== soundness: calls =====
section S6
variable {p : Program} {l : Launch} {e : Env} {R : Room} {s : State} {m : MethodId} {args : Array Value} {below : List Frame} {meth : Method} {c : Code} {H : Heap} {locs : List Loc} {cells slots : Nat} {Q : State → Prop}
variable {pc : Nat} {ls : Array Slot} {ι : Nat → Nat} {b : Nat} {k : Nat} {st : List Value} {D : va_G} {aC : Nat → ClassId} {A : Nat → Prop} {h h1 : mm_H} {u0 v0 : Nat} {X : Nat × (Nat → Int32)} {t k' na x m2 : Nat} {o1 : Option Value ⊕ Nat}
theorem ms_wk_in {k' : Nat} (hk : k' < 231) : ∀ w ∈ ms_wk k', w ∈ ms_base := fun w hw => by
  rcases List.mem_cons.mp hw with rfl | hw
  · exact ms_wd_in k' hk
  · exact hw
theorem ms_wk_c {k' : Nat} (hX : mX k' = []) : ms_wk k' = Cond.code (mY k') (mB k') (mL k') (mRt k') :: ms_base := by
  unfold ms_wk ms_wd
  rw [if_pos hX]
theorem ms_wk_w {k' : Nat} (hX : mX k' ≠ []) : ms_wk k' = Cond.codeWith (mY k') (mB k') (mL k') (mRt k') (mX k') :: ms_base := by
  unfold ms_wk ms_wd
  rw [if_neg hX]
theorem ms_cons4 {w1 w2 w3 w4 : Cond} {ws : List Cond} (h1 : w1 ∈ ms_base) (h2 : w2 ∈ ms_base) (h3 : w3 ∈ ms_base) (h4 : w4 ∈ ms_base) (hw : ∀ w ∈ ws, w ∈ ms_base) : ∀ w ∈ ([w1, w2, w3, w4] : List Cond) ++ ws, w ∈ ms_base := fun w h => by
  rcases List.mem_append.mp h with h | h
  · simp only [List.mem_cons, List.not_mem_nil, or_false] at h
    rcases h with rfl | rfl | rfl | rfl <;> assumption
  · exact hw w h
theorem ms_cons3 {w1 w2 w3 : Cond} {ws : List Cond} (h1 : w1 ∈ ms_base) (h2 : w2 ∈ ms_base) (h3 : w3 ∈ ms_base) (hw : ∀ w ∈ ws, w ∈ ms_base) : ∀ w ∈ ([w1, w2, w3] : List Cond) ++ ws, w ∈ ms_base := fun w h => by
  rcases List.mem_append.mp h with h | h
  · simp only [List.mem_cons, List.not_mem_nil, or_false] at h
    rcases h with rfl | rfl | rfl <;> assumption
  · exact hw w h
theorem ms_free (hI : ms_I D aC ι b A s.heap H locs h) (hA : ∀ q, s.heap.size ≤ q → A q) : ∀ q, va_A (ms_ws ι b aC h) H.size q → A q := by
  rintro q (⟨j, e', hj⟩ | hq)
  · exact hI.2.1.2 j (q, e') hj
  · exact hA q (Nat.le_trans hI.2.2.1.1 hq)
theorem ms_pre (hF : ms_Fr p l R s m args meth c D aC b A k X) (hI : ms_I D aC ι b A s.heap H locs h) (As : List Value) : PreS s H (ms_Pc D aC ι b h As H.size) (As.map (ms_tr ι b)) := by
  obtain ⟨hx, hb, hml, hown, hts, hlk, hin, hK, hA, hRf, hRo, ham, -, -, hscr⟩ := hF
  refine ⟨ms_blind, fun U hU hW => ⟨rfl, by rw [hU], by rw [hU]; exact hI.1, hK.moved hW.alike, hI.2.1.weaken (fun _ _ _ _ => trivial), ?_⟩⟩
  refine ham.moved hW (ms_free hI hA) (fun a ha hna => ?_)
  rw [hU]
  exact hI.2.2.1.2.1 a ha hna
set_option maxHeartbeats 4000000 in
theorem ms_runW (hF : ms_Fr p l R s m args meth c D aC b A k X) (hI : ms_I D aC ι b A s.heap H locs h) (hl : ls.size = mL k) (hm : mMet (mC k) x = some (t, k', na)) (ht : t < 10) (hM : ms_Met l k' (st.take m2).reverse h o1 h1)
    (hm2 : m2 = if t = 1 ∨ t = 4 ∨ t = 7 then na else na + 1) (hlen : m2 ≤ st.length) (hrcv : mm_rcv h t k' (st.take m2).reverse = true) (hcat : mm_cat (st.drop m2) ≤ 8) (hfr : mF k' < mF k) (hlo : 8 + (mL k' + 11) + mO k' ≤ mO k)
    (hroom : cells + ((mm_u h1).1 - (mm_u h).1) ≤ R.cells ∧ slots + ((mm_u h1).2 - (mm_u h).2) ≤ R.slots)
    (hd0 : t = 0 → decode (mB k) pc = .ok (.invokevirtual x, 3)) (hd1 : t = 1 ∨ t = 4 ∨ t = 7 → decode (mB k) pc = .ok (.invokestatic x, 3)) (hd2 : t = 2 ∨ t = 5 → decode (mB k) pc = .ok (.invokespecial x, 3)) :
    vx_Run p l e R s m args below meth c H locs cells slots ((mm_u h1).1 - (mm_u h).1) ((mm_u h1).2 - (mm_u h).2) (F0 m pc ls (st.map (ms_tr ι b))) ((st.drop m2).map (ms_tr ι b))
      (ms_Qc D aC ι b (mm_N h) (va_A (ms_ws ι b aC h) H.size) k' o1 h1 (((st.take m2).reverse).map (ms_tr ι b)).toArray) (ms_XC D aC ι b (mm_N h) (va_A (ms_ws ι b aC h) H.size) o1 h1) (va_A (ms_ws ι b aC h) H.size) := by
  have hF' := hF
  obtain ⟨hx, hb, hml, hown, hts, hlk, hin, hK, hA, hRf, hRo, ham, -, -, hscr⟩ := hF
  have hcp : ms_callP (mC k) x t k' na := ms_call_ok _ (ms_lookup mMetT (mC k, x) (t, k', na) hm) ht
  obtain ⟨⟨p1, p2, p3, p4⟩, hkind⟩ := hcp
  have hM1 := hM D aC ι b H.size
  have hS : CallFix p m c (mB k) (mL k) s args ms_base (mOwn k) := ⟨hx, hb, hml, hown, hts⟩
  have hR : (ms_rm k' h h1).frames + 1 ≤ R.frames ∧ 8 + (mL k' + 11) + (ms_rm k' h h1).locals ≤ R.locals := ⟨by show mF k' + 1 ≤ _; omega, by show _ + mO k' ≤ _; omega⟩
  have hW8 : ∀ g : List Value, 2 * (F0 m pc ls g).monitorRoom + (((st.drop m2).map (ms_tr ι b)).map fun v => v.category).sum ≤ 8 := fun g => lv_room (by rw [ms_catr]; exact hcat)
  have hsp : st.map (ms_tr ι b) = (((st.take m2).reverse).map (ms_tr ι b)).reverse ++ (st.drop m2).map (ms_tr ι b) := by
    rw [← List.map_reverse, List.reverse_reverse, ← List.map_append, List.take_append_drop]
  have hlt : (st.take m2).reverse.length = m2 := by
    rw [List.length_reverse, List.length_take]
    omega
  generalize hAs : (st.take m2).reverse = As at *
  rcases hkind with ⟨rfl, q1, q2, q3, q4, q5⟩ | ⟨rfl, q1, q2, q3, q4⟩ | ⟨rfl, q1, q2, q3, q4, q5, q6⟩ | ⟨rfl, q1, q2, q3⟩ | ⟨rfl, q1, q2, q3, q4, q5, q6⟩ | ⟨rfl, q1, q2, q3⟩
  · -- invokevirtual
    rw [if_neg (by decide)] at hm2
    have hsh : ∃ a As1, As = .ref a :: As1 ∧ mm_T h a = mC k' := by
      unfold mm_rcv at hrcv
      rw [if_neg (by decide)] at hrcv
      split at hrcv
      · exact ⟨_, _, rfl, of_decide_eq_true hrcv⟩
      · cases hrcv
    obtain ⟨a, As1, rfl, hT⟩ := hsh
    have hPS := ms_pre hF' hI (.ref a :: As1)
    have hna : (As1.map (ms_tr ι b)).length = na := by
      rw [List.length_map]
      rw [List.length_cons] at hlt
      omega
    obtain ⟨c1, -⟩ := ms_cls q5
    have he : (ms_ws ι b aC h)[a]? = some (ι a, .inr (mC k', ms_fs ι b h a)) := by
      rw [ms_ws_get (hI.2.2.2.lt hT (by omega)), ms_ent_obj hT q5]
    refine vx_runV (C := (mY k').cls) (b := ι a) (As := As1.map (ms_tr ι b)) hS hM1 (cwV na hts (ms_good (ms_cons4 q2 q3 q4 p2 (ms_wk_in p1))) (ms_wk_c q1) rfl rfl ⟨rfl, p3⟩ hR) ⟨hPS.1, ?_, hPS.2⟩ rfl hna hl ?_ (hW8 _) (hd0 rfl) hroom
    · have := va_recv hK hI.1 c1 he
      rw [p4]
      exact this
    · rw [hsp]
      show (((Value.ref (ι a)) :: As1.map (ms_tr ι b)).reverse ++ _ : List Value) = _
      simp
  · -- invokestatic
    have hPS := ms_pre hF' hI As
    have hna : (As.map (ms_tr ι b)).length = na := by
      rw [List.length_map, hlt, hm2]
      rfl
    exact vx_runS hS hM1 (cwS na hts (ms_good (ms_cons3 q2 q3 (by have h9 := p2; rw [q4] at h9; exact h9) (ms_wk_in p1))) (ms_wk_c q1) rfl rfl ⟨q4, p3⟩ hR) hPS rfl hna hl hsp (hW8 _) (hd1 (Or.inl rfl)) hroom
  · -- a constructor
    rw [if_neg (by decide)] at hm2
    have hsh : ∃ a As1, As = .ref a :: As1 ∧ mm_T h a = mC k' := by
      unfold mm_rcv at hrcv
      rw [if_neg (by decide)] at hrcv
      split at hrcv
      · exact ⟨_, _, rfl, of_decide_eq_true hrcv⟩
      · cases hrcv
    obtain ⟨a, As1, rfl, hT⟩ := hsh
    have hPS := ms_pre hF' hI (.ref a :: As1)
    have hna : (As1.map (ms_tr ι b)).length = na := by
      rw [List.length_map]
      rw [List.length_cons] at hlt
      omega
    have hrt : mRt k' = none := by unfold mRt; rw [q5]; rfl
    have hwk := ms_wk_c q1
    rw [hrt] at hwk
    refine vx_runI (b := ι a) (As := As1.map (ms_tr ι b)) hS hM1 (cwI na hts (ms_good (ms_wk_in p1)) hwk rfl rfl (hts _ p2) (hts _ q2) (hts _ q3) q4 p3 hR) hPS rfl hna hl ?_ (hW8 _) (hd2 (Or.inl rfl)) hroom
    rw [hsp]
    show (((Value.ref (ι a)) :: As1.map (ms_tr ι b)).reverse ++ _ : List Value) = _
    simp
  · -- a private static method of a nest mate
    have hPS := ms_pre hF' hI As
    have hna : (As.map (ms_tr ι b)).length = na := by
      rw [List.length_map, hlt, hm2]
      rfl
    exact vx_runSN hS hM1 ⟨va_cnB na hts (ms_good (ms_wk_in p1)) (ms_wk_c q1) rfl rfl (ham.2.2.2.1 _ q2) (hts _ p2) p3 hR, hts _ q3, trivial⟩ hPS rfl hna hl hsp (hW8 _) (hd1 (Or.inr (Or.inl rfl))) hroom
  · -- a private constructor of a nest mate
    rw [if_neg (by decide)] at hm2
    have hsh : ∃ a As1, As = .ref a :: As1 ∧ mm_T h a = mC k' := by
      unfold mm_rcv at hrcv
      rw [if_neg (by decide)] at hrcv
      split at hrcv
      · exact ⟨_, _, rfl, of_decide_eq_true hrcv⟩
      · cases hrcv
    obtain ⟨a, As1, rfl, hT⟩ := hsh
    have hPS := ms_pre hF' hI (.ref a :: As1)
    have hna : (As1.map (ms_tr ι b)).length = na := by
      rw [List.length_map]
      rw [List.length_cons] at hlt
      omega
    have hrt : mRt k' = none := by unfold mRt; rw [q5]; rfl
    have hwk := ms_wk_c q1
    rw [hrt] at hwk
    refine vx_runIN (b := ι a) (As := As1.map (ms_tr ι b)) hS hM1 ⟨va_cnB na hts (ms_good (ms_wk_in p1)) hwk rfl rfl (ham.2.2.2.1 _ q2) (hts _ p2) p3 hR, q4, hts _ q3⟩ hPS rfl hna hl ?_ (hW8 _) (hd2 (Or.inr rfl)) hroom
    rw [hsp]
    show (((Value.ref (ι a)) :: As1.map (ms_tr ι b)).reverse ++ _ : List Value) = _
    simp
  · -- a static method with handlers
    have hPS := ms_pre hF' hI As
    have hna : (As.map (ms_tr ι b)).length = na := by
      rw [List.length_map, hlt, hm2]
      rfl
    exact vx_runSX hS hM1 (vx_cwSW na hts (ms_good (ms_cons3 q2 q3 p2 (ms_wk_in p1))) (ms_wk_w q1) rfl rfl p3 hR) hPS rfl hna hl hsp (hW8 _) (hd1 (Or.inr (Or.inr rfl))) hroom
end S6
