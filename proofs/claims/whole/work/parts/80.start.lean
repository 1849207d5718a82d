-- ===== the start of the law, and its run =====
theorem kN_end : kN 219 = kT := by
  funext a
  unfold kN
  by_cases h : a < 219
  · rw [show Nat.blt a 219 = true from Nat.blt_eq.mpr h]
    rfl
  · have e : Nat.blt a 219 = false := Bool.eq_false_iff.mpr (fun q => h (Nat.blt_eq.mp q))
    rw [e]
    unfold kT
    rw [e]
    rfl
theorem fT_k {a k : Nat} (h : 20 ≤ k) : fT a k = .null := by
  have e : ∀ c, c < 20 → Nat.beq k c = false := fun c hc => Bool.eq_false_iff.mpr (fun q => by have := Nat.eq_of_beq_eq_true q; omega)
  unfold fT
  simp only [e 0 (by decide), e 1 (by decide), e 2 (by decide), e 3 (by decide), e 4 (by decide), e 5 (by decide), e 6 (by decide), e 7 (by decide), e 8 (by decide), e 9 (by decide), e 10 (by decide), e 11 (by decide), e 15 (by decide), cond_false, Bool.cond_self]
theorem fT_a {a k : Nat} (h : ¬ a < 219) : fT a k = .null := by
  have e : Nat.blt a 219 = false := Bool.eq_false_iff.mpr (fun q => h (Nat.blt_eq.mp q))
  unfold fT
  rw [e]
  rfl
theorem fJ_end : fJ 225 = fT := by
  funext a k
  rcases fJ_or 225 (Nat.le_refl _) a k with q | ⟨q1, q2⟩
  · exact q
  · rw [q1]
    by_cases ha : a < 219
    · by_cases hk : k < 20
      · have h := List.all_eq_true.mp (List.all_eq_true.mp PF_all a (List.mem_range.mpr ha)) k (List.mem_range.mpr hk)
        rcases Bool.or_eq_true_iff.mp h with h | h
        · exact (nlV_eq h).symm
        · obtain ⟨i, hi, h⟩ := List.any_eq_true.mp h
          obtain ⟨h1, h2⟩ := Bool.and_eq_true_iff.mp h
          exact absurd ⟨Nat.eq_of_beq_eq_true h1, Nat.eq_of_beq_eq_true h2⟩ (q2 i (List.mem_range.mp hi))
      · exact (fT_k (by omega)).symm
    · exact (fT_a ha).symm
theorem SS_end {X : Nat × (Nat → Int32)} : ((219, kN 219, fJ 225, X) : mm_S) = SS X := by
  rw [kN_end, fJ_end]
  rfl
theorem mm_h0_eq {X : Nat × (Nat → Int32)} : mm_h0 X = ((0, kN 0, fJ 0, X), iJ 0, z64, zdb, (0, uZ 0)) := by
  have e : kN 0 = fun _ => (99, 0) := by
    funext a
    unfold kN
    rw [show Nat.blt a 0 = false from Bool.eq_false_iff.mpr (fun q => Nat.not_lt_zero _ (Nat.blt_eq.mp q))]
    rfl
  rw [e]
  rfl
theorem law_0 {X : Nat × (Nat → Int32)} : mE 231 0 mm_L0 [] ((0, kN 0, fJ 0, X), iJ 0, z64, zdb, (0, uZ 0)) = mE 231 28 [some (.retAddr 0), some (.ref 0), some (.ref 207), some (.ref 217), some (.ref 218), some (.int (nI 0)), none, none, none] [] ((219, kN 219, fJ 225, X), iJ 27, z64, zdb, (219, uZ 219)) := by
  unfold mm_L0
  simp (disch := first | exact id rfl | exact Nat.le_of_ble_eq_true (id rfl) | decide +kernel) only [q_231_0, q_231_3, q_231_4, q_231_7, q_231_8, q_231_11, q_231_12, q_231_15, q_231_16, q_231_17, q_231_19, q_231_20, q_231_21, q_231_23, q_231_25, q_231_26, nwr, kt_kv, Nat.reduceAdd, mz_7, mz_8, cn_X7_0, cn_X8_207]
theorem it0_LR : LR 5 (iJ 27) (iJ 27 208) 0 0 0 :=
  ⟨⟨by decide +kernel, by decide +kernel, by decide +kernel, by decide +kernel⟩, by decide +kernel, by decide +kernel, fun u hu => absurd hu (Nat.not_lt_zero _), fun u hu => absurd hu (Nat.not_lt_zero _), fun u hu => absurd hu (Nat.not_lt_zero _)⟩
theorem it0_st : iJ 27 208 0 = nI 30 ∧ iJ 27 208 1 = nI 50 := by decide +kernel
theorem it0_b : ∀ p, p < 5 → iJ 27 208 (99 + p) = nI 0 := by decide +kernel
theorem it0_GI : GI (iJ 27 208) 0 0 0 := by
  refine ⟨⟨by decide +kernel, by decide, by decide +kernel, by decide, by decide +kernel, by decide⟩, fun s hs => ?_, fun p hp => ⟨0, by decide, it0_b p hp⟩, fun u hu => absurd hu (Nat.not_lt_zero _), fun u hu => absurd hu (Nat.not_lt_zero _), ⟨fun _ => 0, fun u hu => absurd hu (Nat.not_lt_zero _), by decide⟩, ⟨fun _ => 0, fun u hu => absurd hu (Nat.not_lt_zero _), by decide⟩⟩
  match s, hs with
  | 0, _ => exact ⟨30, by decide, it0_st.1⟩
  | 1, _ => exact ⟨50, by decide, it0_st.2⟩
  | s + 2, hs => exact absurd hs (by omega)
theorem it0_CR : CR (iJ 27) (iJ 27 208) (false, fun _ => 0) (0, fun _ _ => 0) (0, fun _ => 0) (-1, nI 0) :=
  ⟨⟨0, 0, 0, it0_LR, it0_GI⟩, ⟨by decide +kernel, fun h => by cases h⟩, ⟨Nat.zero_le _, 0, by decide, by decide +kernel, by decide +kernel, fun i hi => absurd hi (Nat.not_lt_zero _)⟩, ⟨by decide +kernel, Nat.zero_le _, fun i hi => absurd hi (Nat.not_lt_zero _)⟩, ⟨by decide +kernel, by decide +kernel⟩⟩
theorem it0_MR : MR (iJ 27) (iJ 27 208) (false, fun _ => 0) (0, fun _ _ => 0) (0, fun _ => 0) (-1, nI 0) :=
  ⟨rfl, ⟨by decide +kernel, fun h => by cases h⟩, ⟨by decide +kernel, Nat.zero_le _, fun i hi => absurd hi (Nat.not_lt_zero _)⟩, ⟨by decide +kernel, fun i hi => absurd hi (Nat.not_lt_zero _)⟩, ⟨by decide +kernel, by decide +kernel⟩⟩
theorem uZ_end : uZ 219 ≤ 100000 := by decide +kernel
/-- the law's run in the small machine -/
theorem law_run {L : Nat} {xs : Nat → Int32} (hL : L ≤ 3072) : ∃ n h', mm_run n 231 0 mm_L0 [] (mm_h0 (L, xs)) = some (.inl (some (.int 1)), h') ∧ (mm_u h').1 ≤ 601024 ∧ (mm_u h').2 ≤ 7293034 := by
  obtain ⟨h', e, h1, h2⟩ := lp_run (X := (L, xs)) (show L ≤ 10000 by omega) (L / 6) 0 (iJ 27) z64 zdb (219, uZ 219) none none ⟨_, _, _, _, _, it0_CR, it0_MR⟩ (show 0 + 6 * (L / 6) ≤ L by omega) (show L < 0 + 6 * (L / 6) + 6 by omega)
  have e2 : mE 231 0 mm_L0 [] (mm_h0 (L, xs)) = some (.inl (some (.int 1)), h') := by
    rw [mm_h0_eq, law_0, SS_end]
    exact e
  obtain ⟨n, hn⟩ := mE_some.mp e2
  have hu := uZ_end
  have h1 : (mm_u h').1 ≤ 219 + L / 6 := h1
  have h2 : (mm_u h').2 ≤ uZ 219 + 6 * (L / 6) := h2
  exact ⟨n, h', hn, by omega, by omega⟩
