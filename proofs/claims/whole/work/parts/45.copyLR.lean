-- ===== what a copy keeps =====
section S15
variable {it it' : Nat → Nat → Int32} {a b n c m : Nat} {g g' : Nat → Int32}
theorem cp_in {f : Nat → Nat → Int32} {a b k y : Nat} (h : y < k) : mm_cp f a b 0 0 k b y = f a y := by
  unfold mm_cp
  rw [if_pos ⟨rfl, by omega, by omega⟩]
  congr 1
  omega
theorem cp_ne {f : Nat → Nat → Int32} {a b s d k x y : Nat} (h : x ≠ b) : mm_cp f a b s d k x y = f x y := by
  unfold mm_cp
  rw [if_neg (fun q => h q.1)]
theorem up_in {α : Type} {f : Nat → Nat → α} {a k : Nat} {v : α} : mm_up f a k v a k = v := by
  unfold mm_up
  rw [if_pos ⟨rfl, rfl⟩]
theorem up_ne {α : Type} {f : Nat → Nat → α} {a k x y : Nat} {v : α} (h : x ≠ a) : mm_up f a k v x y = f x y := by
  unfold mm_up
  rw [if_neg (fun q => h q.1)]
theorem up_nk {α : Type} {f : Nat → Nat → α} {a k x y : Nat} {v : α} (h : y ≠ k) : mm_up f a k v x y = f x y := by
  unfold mm_up
  rw [if_neg (fun q => h q.2)]
theorem cpL_ne {x y : Nat} (h : x < b ∨ b + 18 ≤ x) : cpL a b it x y = it x y := by
  unfold cpL sC oC kC uC
  simp (disch := omega) only [up_ne, cp_ne]
theorem cpL_LR (hl : LR a it g n c m) (hn : n ≤ 12) (hc : c ≤ 20) (hm : m ≤ 8) (hd : a + 18 ≤ b ∨ b + 18 ≤ a) : LR b (cpL a b it) g n c m := by
  obtain ⟨⟨h1, h2, h3, h4⟩, h5, h6, h7, h8, h9⟩ := hl
  have z (i : Nat) (hi : i < 18) (j : Nat) (hj : j < 18) : a + i ≠ b + j := by omega
  have z0 (j : Nat) (hj : j < 18) : a ≠ b + j := by omega
  refine ⟨⟨?_, ?_, ?_, ?_⟩, fun p hp => ?_, fun s hs => ?_, fun u hu i hi => ?_, fun k hk => ⟨fun i hi => ?_, fun u hu => ?_⟩, fun k hk => ⟨fun i hi => ?_, fun u hu => ?_⟩⟩
  · unfold cpL
    rw [up_in]
    unfold sC oC kC uC
    simp (disch := omega) only [up_ne, cp_ne]
    exact h1
  · unfold cpL sC oC kC uC
    simp (disch := omega) only [up_ne, cp_ne, up_in]
    exact h2
  · unfold cpL sC oC kC uC
    simp (disch := omega) only [up_ne, cp_ne, up_in]
    exact h3
  · unfold cpL sC oC kC uC
    simp (disch := omega) only [up_ne, cp_ne, up_in]
    exact h4
  · unfold cpL sC oC kC uC
    simp (disch := omega) only [up_ne, cp_ne, up_in, cp_in]
    exact h5 p hp
  · unfold cpL sC oC kC uC
    simp (disch := omega) only [up_ne, cp_ne, up_in, cp_in]
    exact h6 s hs
  · have h7 := h7 u hu i hi
    rcases (show i = 0 ∨ i = 1 ∨ i = 2 ∨ i = 3 ∨ i = 4 ∨ i = 5 ∨ i = 6 ∨ i = 7 by omega) with rfl | rfl | rfl | rfl | rfl | rfl | rfl | rfl
    all_goals
      unfold cpL sC oC kC uC
      simp (disch := omega) only [Nat.add_assoc, Nat.reduceAdd, up_ne, cp_ne, up_in, cp_in] at h7 ⊢
      exact h7
  · unfold cpL sC oC kC uC
    simp (disch := omega) only [up_ne, cp_ne, up_in, cp_in]
    exact (h8 k hk).1 i hi
  · unfold cpL sC oC kC uC
    simp (disch := omega) only [up_ne, cp_ne, up_in, cp_in]
    exact (h8 k hk).2 u hu
  · unfold cpL sC oC kC uC
    simp (disch := omega) only [up_ne, cp_ne, up_in, cp_in]
    exact (h9 k hk).1 i hi
  · unfold cpL sC oC kC uC
    simp (disch := omega) only [up_ne, cp_ne, up_in, cp_in]
    exact (h9 k hk).2 u hu
/-- a ledger stands in its eighteen cells alone, a row in its 603 places alone -/
theorem LR_it (hl : LR a it g n c m) (h : ∀ x y, a ≤ x → x < a + 18 → it' x y = it x y) : LR a it' g n c m := by
  obtain ⟨⟨h1, h2, h3, h4⟩, h5, h6, h7, h8, h9⟩ := hl
  refine ⟨⟨?_, ?_, ?_, ?_⟩, fun p hp => ?_, fun s hs => ?_, fun u hu i hi => ?_, fun k hk => ⟨fun i hi => ?_, fun u hu => ?_⟩, fun k hk => ⟨fun i hi => ?_, fun u hu => ?_⟩⟩
  all_goals rw [h _ _ (by omega) (by omega)]
  · exact h1
  · exact h2
  · exact h3
  · exact h4
  · exact h5 p hp
  · exact h6 s hs
  · exact h7 u hu i hi
  · exact (h8 k hk).1 i hi
  · exact (h8 k hk).2 u hu
  · exact (h9 k hk).1 i hi
  · exact (h9 k hk).2 u hu
theorem LR_g (hl : LR a it g n c m) (hn : n ≤ 12) (hc : c ≤ 20) (hm : m ≤ 8) (h : ∀ y, y < 603 → g' y = g y) : LR a it g' n c m := by
  obtain ⟨⟨h1, h2, h3, h4⟩, h5, h6, h7, h8, h9⟩ := hl
  refine ⟨⟨?_, ?_, ?_, ?_⟩, fun p hp => ?_, fun s hs => ?_, fun u hu i hi => ?_, fun k hk => ⟨fun i hi => ?_, fun u hu => ?_⟩, fun k hk => ⟨fun i hi => ?_, fun u hu => ?_⟩⟩
  all_goals rw [h _ (by omega)]
  · exact h1
  · exact h2
  · exact h3
  · exact h4
  · exact h5 p hp
  · exact h6 s hs
  · exact h7 u hu i hi
  · exact (h8 k hk).1 i hi
  · exact (h8 k hk).2 u hu
  · exact (h9 k hk).1 i hi
  · exact (h9 k hk).2 u hu
end S15
