-- ===== the law's loop =====
def LSt0 (j : Nat) (X : Nat × (Nat → Int32)) (it : Nat → Nat → Int32) (lg : Nat → Nat → Int64) (db : Nat → Nat → UInt64) (w : Nat × Nat) (p : Nat) (l6 l7 : Option Value) : Prop := ∃ (it' : Nat → Nat → Int32) (lg' : Nat → Nat → Int64) (db' : Nat → Nat → UInt64) (w' : Nat × Nat) (l6' l7' : Option Value), mE 231 45 [some (.retAddr 0), some (.ref 0), some (.ref 207), some (.ref 217), some (.ref 218), some (.int (nI p)), l6, l7, none] [.int (nI j)] (SS X, it, lg, db, w) = mE 231 2023 [some (.retAddr 0), some (.ref 0), some (.ref 207), some (.ref 217), some (.ref 218), some (.int (nI p)), l6', l7', none] [] (SS X, it', lg', db', w') ∧ (∃ g S H T Q, CR it' g S H T Q ∧ MR it' g S H T Q) ∧ w'.1 ≤ w.1 + 1 ∧ w'.2 ≤ w.2 + 6
section S48
variable {X : Nat × (Nat → Int32)} {it : Nat → Nat → Int32} {lg : Nat → Nat → Int64} {db : Nat → Nat → UInt64} {w : Nat × Nat} {p : Nat} {g : Nat → Int32} {S : Bool × (Nat → Int32)} {H : Nat × (Nat → Nat → Int32)} {T : Nat × (Nat → Int32)} {Q : Int32 × Int32} {l6 l7 : Option Value}
theorem st_none (hC : CR it g S H T Q) (hM : MR it g S H T Q) : LSt 2023 X it lg db w p l6 l7 := ⟨it, lg, db, w, l6, l7, rfl, ⟨g, S, H, T, Q, hC, hM⟩, Nat.le_add_right _ _, Nat.le_add_right _ _⟩
theorem ld_0 (hs : LSt 180 X it lg db w p l6 l7) : LSt0 0 X it lg db w p l6 l7 := by
  unfold LSt0
  rw [q_231_45, if_pos rfl]
  exact hs
theorem ld_1 (hs : LSt 272 X it lg db w p l6 l7) : LSt0 1 X it lg db w p l6 l7 := by
  unfold LSt0
  rw [q_231_45, if_neg (show ¬ nI 1 = nI 0 by decide), if_pos rfl]
  exact hs
theorem ld_2 (hs : LSt 340 X it lg db w p l6 l7) : LSt0 2 X it lg db w p l6 l7 := by
  unfold LSt0
  rw [q_231_45, if_neg (show ¬ nI 2 = nI 0 by decide), if_neg (show ¬ nI 2 = nI 1 by decide), if_pos rfl]
  exact hs
theorem ld_3 (hs : LSt 408 X it lg db w p l6 l7) : LSt0 3 X it lg db w p l6 l7 := by
  unfold LSt0
  rw [q_231_45, if_neg (show ¬ nI 3 = nI 0 by decide), if_neg (show ¬ nI 3 = nI 1 by decide), if_neg (show ¬ nI 3 = nI 2 by decide), if_pos rfl]
  exact hs
theorem ld_4 (hs : LSt 476 X it lg db w p l6 l7) : LSt0 4 X it lg db w p l6 l7 := by
  unfold LSt0
  rw [q_231_45, if_neg (show ¬ nI 4 = nI 0 by decide), if_neg (show ¬ nI 4 = nI 1 by decide), if_neg (show ¬ nI 4 = nI 2 by decide), if_neg (show ¬ nI 4 = nI 3 by decide), if_pos rfl]
  exact hs
theorem ld_5 (hs : LSt 544 X it lg db w p l6 l7) : LSt0 5 X it lg db w p l6 l7 := by
  unfold LSt0
  rw [q_231_45, if_neg (show ¬ nI 5 = nI 0 by decide), if_neg (show ¬ nI 5 = nI 1 by decide), if_neg (show ¬ nI 5 = nI 2 by decide), if_neg (show ¬ nI 5 = nI 3 by decide), if_neg (show ¬ nI 5 = nI 4 by decide), if_pos rfl]
  exact hs
theorem ld_6 (hs : LSt 600 X it lg db w p l6 l7) : LSt0 6 X it lg db w p l6 l7 := by
  unfold LSt0
  rw [q_231_45, if_neg (show ¬ nI 6 = nI 0 by decide), if_neg (show ¬ nI 6 = nI 1 by decide), if_neg (show ¬ nI 6 = nI 2 by decide), if_neg (show ¬ nI 6 = nI 3 by decide), if_neg (show ¬ nI 6 = nI 4 by decide), if_neg (show ¬ nI 6 = nI 5 by decide), if_pos rfl]
  exact hs
theorem ld_7 (hs : LSt 644 X it lg db w p l6 l7) : LSt0 7 X it lg db w p l6 l7 := by
  unfold LSt0
  rw [q_231_45, if_neg (show ¬ nI 7 = nI 0 by decide), if_neg (show ¬ nI 7 = nI 1 by decide), if_neg (show ¬ nI 7 = nI 2 by decide), if_neg (show ¬ nI 7 = nI 3 by decide), if_neg (show ¬ nI 7 = nI 4 by decide), if_neg (show ¬ nI 7 = nI 5 by decide), if_neg (show ¬ nI 7 = nI 6 by decide), if_pos rfl]
  exact hs
theorem ld_8 (hs : LSt 712 X it lg db w p l6 l7) : LSt0 8 X it lg db w p l6 l7 := by
  unfold LSt0
  rw [q_231_45, if_neg (show ¬ nI 8 = nI 0 by decide), if_neg (show ¬ nI 8 = nI 1 by decide), if_neg (show ¬ nI 8 = nI 2 by decide), if_neg (show ¬ nI 8 = nI 3 by decide), if_neg (show ¬ nI 8 = nI 4 by decide), if_neg (show ¬ nI 8 = nI 5 by decide), if_neg (show ¬ nI 8 = nI 6 by decide), if_neg (show ¬ nI 8 = nI 7 by decide), if_pos rfl]
  exact hs
theorem ld_9 (hs : LSt 780 X it lg db w p l6 l7) : LSt0 9 X it lg db w p l6 l7 := by
  unfold LSt0
  rw [q_231_45, if_neg (show ¬ nI 9 = nI 0 by decide), if_neg (show ¬ nI 9 = nI 1 by decide), if_neg (show ¬ nI 9 = nI 2 by decide), if_neg (show ¬ nI 9 = nI 3 by decide), if_neg (show ¬ nI 9 = nI 4 by decide), if_neg (show ¬ nI 9 = nI 5 by decide), if_neg (show ¬ nI 9 = nI 6 by decide), if_neg (show ¬ nI 9 = nI 7 by decide), if_neg (show ¬ nI 9 = nI 8 by decide), if_pos rfl]
  exact hs
theorem ld_10 (hs : LSt 900 X it lg db w p l6 l7) : LSt0 10 X it lg db w p l6 l7 := by
  unfold LSt0
  rw [q_231_45, if_neg (show ¬ nI 10 = nI 0 by decide), if_neg (show ¬ nI 10 = nI 1 by decide), if_neg (show ¬ nI 10 = nI 2 by decide), if_neg (show ¬ nI 10 = nI 3 by decide), if_neg (show ¬ nI 10 = nI 4 by decide), if_neg (show ¬ nI 10 = nI 5 by decide), if_neg (show ¬ nI 10 = nI 6 by decide), if_neg (show ¬ nI 10 = nI 7 by decide), if_neg (show ¬ nI 10 = nI 8 by decide), if_neg (show ¬ nI 10 = nI 9 by decide), if_pos rfl]
  exact hs
theorem ld_11 (hs : LSt 968 X it lg db w p l6 l7) : LSt0 11 X it lg db w p l6 l7 := by
  unfold LSt0
  rw [q_231_45, if_neg (show ¬ nI 11 = nI 0 by decide), if_neg (show ¬ nI 11 = nI 1 by decide), if_neg (show ¬ nI 11 = nI 2 by decide), if_neg (show ¬ nI 11 = nI 3 by decide), if_neg (show ¬ nI 11 = nI 4 by decide), if_neg (show ¬ nI 11 = nI 5 by decide), if_neg (show ¬ nI 11 = nI 6 by decide), if_neg (show ¬ nI 11 = nI 7 by decide), if_neg (show ¬ nI 11 = nI 8 by decide), if_neg (show ¬ nI 11 = nI 9 by decide), if_neg (show ¬ nI 11 = nI 10 by decide), if_pos rfl]
  exact hs
theorem ld_12 (hs : LSt 1036 X it lg db w p l6 l7) : LSt0 12 X it lg db w p l6 l7 := by
  unfold LSt0
  rw [q_231_45, if_neg (show ¬ nI 12 = nI 0 by decide), if_neg (show ¬ nI 12 = nI 1 by decide), if_neg (show ¬ nI 12 = nI 2 by decide), if_neg (show ¬ nI 12 = nI 3 by decide), if_neg (show ¬ nI 12 = nI 4 by decide), if_neg (show ¬ nI 12 = nI 5 by decide), if_neg (show ¬ nI 12 = nI 6 by decide), if_neg (show ¬ nI 12 = nI 7 by decide), if_neg (show ¬ nI 12 = nI 8 by decide), if_neg (show ¬ nI 12 = nI 9 by decide), if_neg (show ¬ nI 12 = nI 10 by decide), if_neg (show ¬ nI 12 = nI 11 by decide), if_pos rfl]
  exact hs
theorem ld_13 (hs : LSt 1128 X it lg db w p l6 l7) : LSt0 13 X it lg db w p l6 l7 := by
  unfold LSt0
  rw [q_231_45, if_neg (show ¬ nI 13 = nI 0 by decide), if_neg (show ¬ nI 13 = nI 1 by decide), if_neg (show ¬ nI 13 = nI 2 by decide), if_neg (show ¬ nI 13 = nI 3 by decide), if_neg (show ¬ nI 13 = nI 4 by decide), if_neg (show ¬ nI 13 = nI 5 by decide), if_neg (show ¬ nI 13 = nI 6 by decide), if_neg (show ¬ nI 13 = nI 7 by decide), if_neg (show ¬ nI 13 = nI 8 by decide), if_neg (show ¬ nI 13 = nI 9 by decide), if_neg (show ¬ nI 13 = nI 10 by decide), if_neg (show ¬ nI 13 = nI 11 by decide), if_neg (show ¬ nI 13 = nI 12 by decide), if_pos rfl]
  exact hs
theorem ld_14 (hs : LSt 1196 X it lg db w p l6 l7) : LSt0 14 X it lg db w p l6 l7 := by
  unfold LSt0
  rw [q_231_45, if_neg (show ¬ nI 14 = nI 0 by decide), if_neg (show ¬ nI 14 = nI 1 by decide), if_neg (show ¬ nI 14 = nI 2 by decide), if_neg (show ¬ nI 14 = nI 3 by decide), if_neg (show ¬ nI 14 = nI 4 by decide), if_neg (show ¬ nI 14 = nI 5 by decide), if_neg (show ¬ nI 14 = nI 6 by decide), if_neg (show ¬ nI 14 = nI 7 by decide), if_neg (show ¬ nI 14 = nI 8 by decide), if_neg (show ¬ nI 14 = nI 9 by decide), if_neg (show ¬ nI 14 = nI 10 by decide), if_neg (show ¬ nI 14 = nI 11 by decide), if_neg (show ¬ nI 14 = nI 12 by decide), if_neg (show ¬ nI 14 = nI 13 by decide), if_pos rfl]
  exact hs
theorem ld_15 (hs : LSt 1252 X it lg db w p l6 l7) : LSt0 15 X it lg db w p l6 l7 := by
  unfold LSt0
  rw [q_231_45, if_neg (show ¬ nI 15 = nI 0 by decide), if_neg (show ¬ nI 15 = nI 1 by decide), if_neg (show ¬ nI 15 = nI 2 by decide), if_neg (show ¬ nI 15 = nI 3 by decide), if_neg (show ¬ nI 15 = nI 4 by decide), if_neg (show ¬ nI 15 = nI 5 by decide), if_neg (show ¬ nI 15 = nI 6 by decide), if_neg (show ¬ nI 15 = nI 7 by decide), if_neg (show ¬ nI 15 = nI 8 by decide), if_neg (show ¬ nI 15 = nI 9 by decide), if_neg (show ¬ nI 15 = nI 10 by decide), if_neg (show ¬ nI 15 = nI 11 by decide), if_neg (show ¬ nI 15 = nI 12 by decide), if_neg (show ¬ nI 15 = nI 13 by decide), if_neg (show ¬ nI 15 = nI 14 by decide), if_pos rfl]
  exact hs
theorem ld_16 (hs : LSt 1296 X it lg db w p l6 l7) : LSt0 16 X it lg db w p l6 l7 := by
  unfold LSt0
  rw [q_231_45, if_neg (show ¬ nI 16 = nI 0 by decide), if_neg (show ¬ nI 16 = nI 1 by decide), if_neg (show ¬ nI 16 = nI 2 by decide), if_neg (show ¬ nI 16 = nI 3 by decide), if_neg (show ¬ nI 16 = nI 4 by decide), if_neg (show ¬ nI 16 = nI 5 by decide), if_neg (show ¬ nI 16 = nI 6 by decide), if_neg (show ¬ nI 16 = nI 7 by decide), if_neg (show ¬ nI 16 = nI 8 by decide), if_neg (show ¬ nI 16 = nI 9 by decide), if_neg (show ¬ nI 16 = nI 10 by decide), if_neg (show ¬ nI 16 = nI 11 by decide), if_neg (show ¬ nI 16 = nI 12 by decide), if_neg (show ¬ nI 16 = nI 13 by decide), if_neg (show ¬ nI 16 = nI 14 by decide), if_neg (show ¬ nI 16 = nI 15 by decide), if_pos rfl]
  exact hs
theorem ld_17 (hs : LSt 1388 X it lg db w p l6 l7) : LSt0 17 X it lg db w p l6 l7 := by
  unfold LSt0
  rw [q_231_45, if_neg (show ¬ nI 17 = nI 0 by decide), if_neg (show ¬ nI 17 = nI 1 by decide), if_neg (show ¬ nI 17 = nI 2 by decide), if_neg (show ¬ nI 17 = nI 3 by decide), if_neg (show ¬ nI 17 = nI 4 by decide), if_neg (show ¬ nI 17 = nI 5 by decide), if_neg (show ¬ nI 17 = nI 6 by decide), if_neg (show ¬ nI 17 = nI 7 by decide), if_neg (show ¬ nI 17 = nI 8 by decide), if_neg (show ¬ nI 17 = nI 9 by decide), if_neg (show ¬ nI 17 = nI 10 by decide), if_neg (show ¬ nI 17 = nI 11 by decide), if_neg (show ¬ nI 17 = nI 12 by decide), if_neg (show ¬ nI 17 = nI 13 by decide), if_neg (show ¬ nI 17 = nI 14 by decide), if_neg (show ¬ nI 17 = nI 15 by decide), if_neg (show ¬ nI 17 = nI 16 by decide), if_pos rfl]
  exact hs
theorem ld_18 (hs : LSt 1468 X it lg db w p l6 l7) : LSt0 18 X it lg db w p l6 l7 := by
  unfold LSt0
  rw [q_231_45, if_neg (show ¬ nI 18 = nI 0 by decide), if_neg (show ¬ nI 18 = nI 1 by decide), if_neg (show ¬ nI 18 = nI 2 by decide), if_neg (show ¬ nI 18 = nI 3 by decide), if_neg (show ¬ nI 18 = nI 4 by decide), if_neg (show ¬ nI 18 = nI 5 by decide), if_neg (show ¬ nI 18 = nI 6 by decide), if_neg (show ¬ nI 18 = nI 7 by decide), if_neg (show ¬ nI 18 = nI 8 by decide), if_neg (show ¬ nI 18 = nI 9 by decide), if_neg (show ¬ nI 18 = nI 10 by decide), if_neg (show ¬ nI 18 = nI 11 by decide), if_neg (show ¬ nI 18 = nI 12 by decide), if_neg (show ¬ nI 18 = nI 13 by decide), if_neg (show ¬ nI 18 = nI 14 by decide), if_neg (show ¬ nI 18 = nI 15 by decide), if_neg (show ¬ nI 18 = nI 16 by decide), if_neg (show ¬ nI 18 = nI 17 by decide), if_pos rfl]
  exact hs
theorem ld_19 (hs : LSt 1524 X it lg db w p l6 l7) : LSt0 19 X it lg db w p l6 l7 := by
  unfold LSt0
  rw [q_231_45, if_neg (show ¬ nI 19 = nI 0 by decide), if_neg (show ¬ nI 19 = nI 1 by decide), if_neg (show ¬ nI 19 = nI 2 by decide), if_neg (show ¬ nI 19 = nI 3 by decide), if_neg (show ¬ nI 19 = nI 4 by decide), if_neg (show ¬ nI 19 = nI 5 by decide), if_neg (show ¬ nI 19 = nI 6 by decide), if_neg (show ¬ nI 19 = nI 7 by decide), if_neg (show ¬ nI 19 = nI 8 by decide), if_neg (show ¬ nI 19 = nI 9 by decide), if_neg (show ¬ nI 19 = nI 10 by decide), if_neg (show ¬ nI 19 = nI 11 by decide), if_neg (show ¬ nI 19 = nI 12 by decide), if_neg (show ¬ nI 19 = nI 13 by decide), if_neg (show ¬ nI 19 = nI 14 by decide), if_neg (show ¬ nI 19 = nI 15 by decide), if_neg (show ¬ nI 19 = nI 16 by decide), if_neg (show ¬ nI 19 = nI 17 by decide), if_neg (show ¬ nI 19 = nI 18 by decide), if_pos rfl]
  exact hs
theorem ld_20 (hs : LSt 1592 X it lg db w p l6 l7) : LSt0 20 X it lg db w p l6 l7 := by
  unfold LSt0
  rw [q_231_45, if_neg (show ¬ nI 20 = nI 0 by decide), if_neg (show ¬ nI 20 = nI 1 by decide), if_neg (show ¬ nI 20 = nI 2 by decide), if_neg (show ¬ nI 20 = nI 3 by decide), if_neg (show ¬ nI 20 = nI 4 by decide), if_neg (show ¬ nI 20 = nI 5 by decide), if_neg (show ¬ nI 20 = nI 6 by decide), if_neg (show ¬ nI 20 = nI 7 by decide), if_neg (show ¬ nI 20 = nI 8 by decide), if_neg (show ¬ nI 20 = nI 9 by decide), if_neg (show ¬ nI 20 = nI 10 by decide), if_neg (show ¬ nI 20 = nI 11 by decide), if_neg (show ¬ nI 20 = nI 12 by decide), if_neg (show ¬ nI 20 = nI 13 by decide), if_neg (show ¬ nI 20 = nI 14 by decide), if_neg (show ¬ nI 20 = nI 15 by decide), if_neg (show ¬ nI 20 = nI 16 by decide), if_neg (show ¬ nI 20 = nI 17 by decide), if_neg (show ¬ nI 20 = nI 18 by decide), if_neg (show ¬ nI 20 = nI 19 by decide), if_pos rfl]
  exact hs
theorem ld_21 (hs : LSt 1660 X it lg db w p l6 l7) : LSt0 21 X it lg db w p l6 l7 := by
  unfold LSt0
  rw [q_231_45, if_neg (show ¬ nI 21 = nI 0 by decide), if_neg (show ¬ nI 21 = nI 1 by decide), if_neg (show ¬ nI 21 = nI 2 by decide), if_neg (show ¬ nI 21 = nI 3 by decide), if_neg (show ¬ nI 21 = nI 4 by decide), if_neg (show ¬ nI 21 = nI 5 by decide), if_neg (show ¬ nI 21 = nI 6 by decide), if_neg (show ¬ nI 21 = nI 7 by decide), if_neg (show ¬ nI 21 = nI 8 by decide), if_neg (show ¬ nI 21 = nI 9 by decide), if_neg (show ¬ nI 21 = nI 10 by decide), if_neg (show ¬ nI 21 = nI 11 by decide), if_neg (show ¬ nI 21 = nI 12 by decide), if_neg (show ¬ nI 21 = nI 13 by decide), if_neg (show ¬ nI 21 = nI 14 by decide), if_neg (show ¬ nI 21 = nI 15 by decide), if_neg (show ¬ nI 21 = nI 16 by decide), if_neg (show ¬ nI 21 = nI 17 by decide), if_neg (show ¬ nI 21 = nI 18 by decide), if_neg (show ¬ nI 21 = nI 19 by decide), if_neg (show ¬ nI 21 = nI 20 by decide), if_pos rfl]
  exact hs
theorem ld_22 (hs : LSt 1716 X it lg db w p l6 l7) : LSt0 22 X it lg db w p l6 l7 := by
  unfold LSt0
  rw [q_231_45, if_neg (show ¬ nI 22 = nI 0 by decide), if_neg (show ¬ nI 22 = nI 1 by decide), if_neg (show ¬ nI 22 = nI 2 by decide), if_neg (show ¬ nI 22 = nI 3 by decide), if_neg (show ¬ nI 22 = nI 4 by decide), if_neg (show ¬ nI 22 = nI 5 by decide), if_neg (show ¬ nI 22 = nI 6 by decide), if_neg (show ¬ nI 22 = nI 7 by decide), if_neg (show ¬ nI 22 = nI 8 by decide), if_neg (show ¬ nI 22 = nI 9 by decide), if_neg (show ¬ nI 22 = nI 10 by decide), if_neg (show ¬ nI 22 = nI 11 by decide), if_neg (show ¬ nI 22 = nI 12 by decide), if_neg (show ¬ nI 22 = nI 13 by decide), if_neg (show ¬ nI 22 = nI 14 by decide), if_neg (show ¬ nI 22 = nI 15 by decide), if_neg (show ¬ nI 22 = nI 16 by decide), if_neg (show ¬ nI 22 = nI 17 by decide), if_neg (show ¬ nI 22 = nI 18 by decide), if_neg (show ¬ nI 22 = nI 19 by decide), if_neg (show ¬ nI 22 = nI 20 by decide), if_neg (show ¬ nI 22 = nI 21 by decide), if_pos rfl]
  exact hs
theorem ld_23 (hs : LSt 1754 X it lg db w p l6 l7) : LSt0 23 X it lg db w p l6 l7 := by
  unfold LSt0
  rw [q_231_45, if_neg (show ¬ nI 23 = nI 0 by decide), if_neg (show ¬ nI 23 = nI 1 by decide), if_neg (show ¬ nI 23 = nI 2 by decide), if_neg (show ¬ nI 23 = nI 3 by decide), if_neg (show ¬ nI 23 = nI 4 by decide), if_neg (show ¬ nI 23 = nI 5 by decide), if_neg (show ¬ nI 23 = nI 6 by decide), if_neg (show ¬ nI 23 = nI 7 by decide), if_neg (show ¬ nI 23 = nI 8 by decide), if_neg (show ¬ nI 23 = nI 9 by decide), if_neg (show ¬ nI 23 = nI 10 by decide), if_neg (show ¬ nI 23 = nI 11 by decide), if_neg (show ¬ nI 23 = nI 12 by decide), if_neg (show ¬ nI 23 = nI 13 by decide), if_neg (show ¬ nI 23 = nI 14 by decide), if_neg (show ¬ nI 23 = nI 15 by decide), if_neg (show ¬ nI 23 = nI 16 by decide), if_neg (show ¬ nI 23 = nI 17 by decide), if_neg (show ¬ nI 23 = nI 18 by decide), if_neg (show ¬ nI 23 = nI 19 by decide), if_neg (show ¬ nI 23 = nI 20 by decide), if_neg (show ¬ nI 23 = nI 21 by decide), if_neg (show ¬ nI 23 = nI 22 by decide), if_pos rfl]
  exact hs
theorem ld_24 (hs : LSt 1798 X it lg db w p l6 l7) : LSt0 24 X it lg db w p l6 l7 := by
  unfold LSt0
  rw [q_231_45, if_neg (show ¬ nI 24 = nI 0 by decide), if_neg (show ¬ nI 24 = nI 1 by decide), if_neg (show ¬ nI 24 = nI 2 by decide), if_neg (show ¬ nI 24 = nI 3 by decide), if_neg (show ¬ nI 24 = nI 4 by decide), if_neg (show ¬ nI 24 = nI 5 by decide), if_neg (show ¬ nI 24 = nI 6 by decide), if_neg (show ¬ nI 24 = nI 7 by decide), if_neg (show ¬ nI 24 = nI 8 by decide), if_neg (show ¬ nI 24 = nI 9 by decide), if_neg (show ¬ nI 24 = nI 10 by decide), if_neg (show ¬ nI 24 = nI 11 by decide), if_neg (show ¬ nI 24 = nI 12 by decide), if_neg (show ¬ nI 24 = nI 13 by decide), if_neg (show ¬ nI 24 = nI 14 by decide), if_neg (show ¬ nI 24 = nI 15 by decide), if_neg (show ¬ nI 24 = nI 16 by decide), if_neg (show ¬ nI 24 = nI 17 by decide), if_neg (show ¬ nI 24 = nI 18 by decide), if_neg (show ¬ nI 24 = nI 19 by decide), if_neg (show ¬ nI 24 = nI 20 by decide), if_neg (show ¬ nI 24 = nI 21 by decide), if_neg (show ¬ nI 24 = nI 22 by decide), if_neg (show ¬ nI 24 = nI 23 by decide), if_pos rfl]
  exact hs
theorem ld_25 (hs : LSt 1811 X it lg db w p l6 l7) : LSt0 25 X it lg db w p l6 l7 := by
  unfold LSt0
  rw [q_231_45, if_neg (show ¬ nI 25 = nI 0 by decide), if_neg (show ¬ nI 25 = nI 1 by decide), if_neg (show ¬ nI 25 = nI 2 by decide), if_neg (show ¬ nI 25 = nI 3 by decide), if_neg (show ¬ nI 25 = nI 4 by decide), if_neg (show ¬ nI 25 = nI 5 by decide), if_neg (show ¬ nI 25 = nI 6 by decide), if_neg (show ¬ nI 25 = nI 7 by decide), if_neg (show ¬ nI 25 = nI 8 by decide), if_neg (show ¬ nI 25 = nI 9 by decide), if_neg (show ¬ nI 25 = nI 10 by decide), if_neg (show ¬ nI 25 = nI 11 by decide), if_neg (show ¬ nI 25 = nI 12 by decide), if_neg (show ¬ nI 25 = nI 13 by decide), if_neg (show ¬ nI 25 = nI 14 by decide), if_neg (show ¬ nI 25 = nI 15 by decide), if_neg (show ¬ nI 25 = nI 16 by decide), if_neg (show ¬ nI 25 = nI 17 by decide), if_neg (show ¬ nI 25 = nI 18 by decide), if_neg (show ¬ nI 25 = nI 19 by decide), if_neg (show ¬ nI 25 = nI 20 by decide), if_neg (show ¬ nI 25 = nI 21 by decide), if_neg (show ¬ nI 25 = nI 22 by decide), if_neg (show ¬ nI 25 = nI 23 by decide), if_neg (show ¬ nI 25 = nI 24 by decide), if_pos rfl]
  exact hs
theorem ld_26 (hs : LSt 1867 X it lg db w p l6 l7) : LSt0 26 X it lg db w p l6 l7 := by
  unfold LSt0
  rw [q_231_45, if_neg (show ¬ nI 26 = nI 0 by decide), if_neg (show ¬ nI 26 = nI 1 by decide), if_neg (show ¬ nI 26 = nI 2 by decide), if_neg (show ¬ nI 26 = nI 3 by decide), if_neg (show ¬ nI 26 = nI 4 by decide), if_neg (show ¬ nI 26 = nI 5 by decide), if_neg (show ¬ nI 26 = nI 6 by decide), if_neg (show ¬ nI 26 = nI 7 by decide), if_neg (show ¬ nI 26 = nI 8 by decide), if_neg (show ¬ nI 26 = nI 9 by decide), if_neg (show ¬ nI 26 = nI 10 by decide), if_neg (show ¬ nI 26 = nI 11 by decide), if_neg (show ¬ nI 26 = nI 12 by decide), if_neg (show ¬ nI 26 = nI 13 by decide), if_neg (show ¬ nI 26 = nI 14 by decide), if_neg (show ¬ nI 26 = nI 15 by decide), if_neg (show ¬ nI 26 = nI 16 by decide), if_neg (show ¬ nI 26 = nI 17 by decide), if_neg (show ¬ nI 26 = nI 18 by decide), if_neg (show ¬ nI 26 = nI 19 by decide), if_neg (show ¬ nI 26 = nI 20 by decide), if_neg (show ¬ nI 26 = nI 21 by decide), if_neg (show ¬ nI 26 = nI 22 by decide), if_neg (show ¬ nI 26 = nI 23 by decide), if_neg (show ¬ nI 26 = nI 24 by decide), if_neg (show ¬ nI 26 = nI 25 by decide), if_pos rfl]
  exact hs
theorem ld_27 (hs : LSt 1944 X it lg db w p l6 l7) : LSt0 27 X it lg db w p l6 l7 := by
  unfold LSt0
  rw [q_231_45, if_neg (show ¬ nI 27 = nI 0 by decide), if_neg (show ¬ nI 27 = nI 1 by decide), if_neg (show ¬ nI 27 = nI 2 by decide), if_neg (show ¬ nI 27 = nI 3 by decide), if_neg (show ¬ nI 27 = nI 4 by decide), if_neg (show ¬ nI 27 = nI 5 by decide), if_neg (show ¬ nI 27 = nI 6 by decide), if_neg (show ¬ nI 27 = nI 7 by decide), if_neg (show ¬ nI 27 = nI 8 by decide), if_neg (show ¬ nI 27 = nI 9 by decide), if_neg (show ¬ nI 27 = nI 10 by decide), if_neg (show ¬ nI 27 = nI 11 by decide), if_neg (show ¬ nI 27 = nI 12 by decide), if_neg (show ¬ nI 27 = nI 13 by decide), if_neg (show ¬ nI 27 = nI 14 by decide), if_neg (show ¬ nI 27 = nI 15 by decide), if_neg (show ¬ nI 27 = nI 16 by decide), if_neg (show ¬ nI 27 = nI 17 by decide), if_neg (show ¬ nI 27 = nI 18 by decide), if_neg (show ¬ nI 27 = nI 19 by decide), if_neg (show ¬ nI 27 = nI 20 by decide), if_neg (show ¬ nI 27 = nI 21 by decide), if_neg (show ¬ nI 27 = nI 22 by decide), if_neg (show ¬ nI 27 = nI 23 by decide), if_neg (show ¬ nI 27 = nI 24 by decide), if_neg (show ¬ nI 27 = nI 25 by decide), if_neg (show ¬ nI 27 = nI 26 by decide), if_pos rfl]
  exact hs
theorem ld_28 (hs : LSt 1988 X it lg db w p l6 l7) : LSt0 28 X it lg db w p l6 l7 := by
  unfold LSt0
  rw [q_231_45, if_neg (show ¬ nI 28 = nI 0 by decide), if_neg (show ¬ nI 28 = nI 1 by decide), if_neg (show ¬ nI 28 = nI 2 by decide), if_neg (show ¬ nI 28 = nI 3 by decide), if_neg (show ¬ nI 28 = nI 4 by decide), if_neg (show ¬ nI 28 = nI 5 by decide), if_neg (show ¬ nI 28 = nI 6 by decide), if_neg (show ¬ nI 28 = nI 7 by decide), if_neg (show ¬ nI 28 = nI 8 by decide), if_neg (show ¬ nI 28 = nI 9 by decide), if_neg (show ¬ nI 28 = nI 10 by decide), if_neg (show ¬ nI 28 = nI 11 by decide), if_neg (show ¬ nI 28 = nI 12 by decide), if_neg (show ¬ nI 28 = nI 13 by decide), if_neg (show ¬ nI 28 = nI 14 by decide), if_neg (show ¬ nI 28 = nI 15 by decide), if_neg (show ¬ nI 28 = nI 16 by decide), if_neg (show ¬ nI 28 = nI 17 by decide), if_neg (show ¬ nI 28 = nI 18 by decide), if_neg (show ¬ nI 28 = nI 19 by decide), if_neg (show ¬ nI 28 = nI 20 by decide), if_neg (show ¬ nI 28 = nI 21 by decide), if_neg (show ¬ nI 28 = nI 22 by decide), if_neg (show ¬ nI 28 = nI 23 by decide), if_neg (show ¬ nI 28 = nI 24 by decide), if_neg (show ¬ nI 28 = nI 25 by decide), if_neg (show ¬ nI 28 = nI 26 by decide), if_neg (show ¬ nI 28 = nI 27 by decide), if_pos rfl]
  exact hs
theorem ld_29 (hs : LSt 1999 X it lg db w p l6 l7) : LSt0 29 X it lg db w p l6 l7 := by
  unfold LSt0
  rw [q_231_45, if_neg (show ¬ nI 29 = nI 0 by decide), if_neg (show ¬ nI 29 = nI 1 by decide), if_neg (show ¬ nI 29 = nI 2 by decide), if_neg (show ¬ nI 29 = nI 3 by decide), if_neg (show ¬ nI 29 = nI 4 by decide), if_neg (show ¬ nI 29 = nI 5 by decide), if_neg (show ¬ nI 29 = nI 6 by decide), if_neg (show ¬ nI 29 = nI 7 by decide), if_neg (show ¬ nI 29 = nI 8 by decide), if_neg (show ¬ nI 29 = nI 9 by decide), if_neg (show ¬ nI 29 = nI 10 by decide), if_neg (show ¬ nI 29 = nI 11 by decide), if_neg (show ¬ nI 29 = nI 12 by decide), if_neg (show ¬ nI 29 = nI 13 by decide), if_neg (show ¬ nI 29 = nI 14 by decide), if_neg (show ¬ nI 29 = nI 15 by decide), if_neg (show ¬ nI 29 = nI 16 by decide), if_neg (show ¬ nI 29 = nI 17 by decide), if_neg (show ¬ nI 29 = nI 18 by decide), if_neg (show ¬ nI 29 = nI 19 by decide), if_neg (show ¬ nI 29 = nI 20 by decide), if_neg (show ¬ nI 29 = nI 21 by decide), if_neg (show ¬ nI 29 = nI 22 by decide), if_neg (show ¬ nI 29 = nI 23 by decide), if_neg (show ¬ nI 29 = nI 24 by decide), if_neg (show ¬ nI 29 = nI 25 by decide), if_neg (show ¬ nI 29 = nI 26 by decide), if_neg (show ¬ nI 29 = nI 27 by decide), if_neg (show ¬ nI 29 = nI 28 by decide), if_pos rfl]
  exact hs
theorem ld_30 (hs : LSt 2023 X it lg db w p l6 l7) : LSt0 30 X it lg db w p l6 l7 := by
  unfold LSt0
  rw [q_231_45, if_neg (show ¬ nI 30 = nI 0 by decide), if_neg (show ¬ nI 30 = nI 1 by decide), if_neg (show ¬ nI 30 = nI 2 by decide), if_neg (show ¬ nI 30 = nI 3 by decide), if_neg (show ¬ nI 30 = nI 4 by decide), if_neg (show ¬ nI 30 = nI 5 by decide), if_neg (show ¬ nI 30 = nI 6 by decide), if_neg (show ¬ nI 30 = nI 7 by decide), if_neg (show ¬ nI 30 = nI 8 by decide), if_neg (show ¬ nI 30 = nI 9 by decide), if_neg (show ¬ nI 30 = nI 10 by decide), if_neg (show ¬ nI 30 = nI 11 by decide), if_neg (show ¬ nI 30 = nI 12 by decide), if_neg (show ¬ nI 30 = nI 13 by decide), if_neg (show ¬ nI 30 = nI 14 by decide), if_neg (show ¬ nI 30 = nI 15 by decide), if_neg (show ¬ nI 30 = nI 16 by decide), if_neg (show ¬ nI 30 = nI 17 by decide), if_neg (show ¬ nI 30 = nI 18 by decide), if_neg (show ¬ nI 30 = nI 19 by decide), if_neg (show ¬ nI 30 = nI 20 by decide), if_neg (show ¬ nI 30 = nI 21 by decide), if_neg (show ¬ nI 30 = nI 22 by decide), if_neg (show ¬ nI 30 = nI 23 by decide), if_neg (show ¬ nI 30 = nI 24 by decide), if_neg (show ¬ nI 30 = nI 25 by decide), if_neg (show ¬ nI 30 = nI 26 by decide), if_neg (show ¬ nI 30 = nI 27 by decide), if_neg (show ¬ nI 30 = nI 28 by decide), if_neg (show ¬ nI 30 = nI 29 by decide)]
  exact hs
theorem ld_31 (hs : LSt 2023 X it lg db w p l6 l7) : LSt0 31 X it lg db w p l6 l7 := by
  unfold LSt0
  rw [q_231_45, if_neg (show ¬ nI 31 = nI 0 by decide), if_neg (show ¬ nI 31 = nI 1 by decide), if_neg (show ¬ nI 31 = nI 2 by decide), if_neg (show ¬ nI 31 = nI 3 by decide), if_neg (show ¬ nI 31 = nI 4 by decide), if_neg (show ¬ nI 31 = nI 5 by decide), if_neg (show ¬ nI 31 = nI 6 by decide), if_neg (show ¬ nI 31 = nI 7 by decide), if_neg (show ¬ nI 31 = nI 8 by decide), if_neg (show ¬ nI 31 = nI 9 by decide), if_neg (show ¬ nI 31 = nI 10 by decide), if_neg (show ¬ nI 31 = nI 11 by decide), if_neg (show ¬ nI 31 = nI 12 by decide), if_neg (show ¬ nI 31 = nI 13 by decide), if_neg (show ¬ nI 31 = nI 14 by decide), if_neg (show ¬ nI 31 = nI 15 by decide), if_neg (show ¬ nI 31 = nI 16 by decide), if_neg (show ¬ nI 31 = nI 17 by decide), if_neg (show ¬ nI 31 = nI 18 by decide), if_neg (show ¬ nI 31 = nI 19 by decide), if_neg (show ¬ nI 31 = nI 20 by decide), if_neg (show ¬ nI 31 = nI 21 by decide), if_neg (show ¬ nI 31 = nI 22 by decide), if_neg (show ¬ nI 31 = nI 23 by decide), if_neg (show ¬ nI 31 = nI 24 by decide), if_neg (show ¬ nI 31 = nI 25 by decide), if_neg (show ¬ nI 31 = nI 26 by decide), if_neg (show ¬ nI 31 = nI 27 by decide), if_neg (show ¬ nI 31 = nI 28 by decide), if_neg (show ¬ nI 31 = nI 29 by decide)]
  exact hs
theorem ld_all (hC : CR it g S H T Q) (hM : MR it g S H T Q) (hL1 : (xS (SS X)).1 ≤ 10000) (hL2 : p + 6 ≤ (xS (SS X)).1) (j : Nat) (hj : j < 32) : LSt0 j X it lg db w p l6 l7 := by
  match j, hj with
  | 0, _ => exact ld_0 (st_addUnit hC hM hL1 hL2)
  | 1, _ => exact ld_1 (st_setOwner hC hM hL1 hL2)
  | 2, _ => exact ld_2 (st_set hC hM hL1 hL2)
  | 3, _ => exact ld_3 (st_read hC hM hL1 hL2)
  | 4, _ => exact ld_4 (st_unit hC hM hL1 hL2)
  | 5, _ => exact ld_5 (st_owned hC hM hL1 hL2)
  | 6, _ => exact ld_6 (st_debtor hC hM hL1 hL2)
  | 7, _ => exact ld_7 (st_shares hC hM hL1 hL2)
  | 8, _ => exact ld_8 (st_pay hC hM hL1 hL2)
  | 9, _ => exact ld_9 (st_book hC hM hL1 hL2)
  | 10, _ => exact ld_10 (st_cost hC hM hL1 hL2)
  | 11, _ => exact ld_11 (st_part hC hM hL1 hL2)
  | 12, _ => exact ld_12 (st_wouldPay hC hM hL1 hL2)
  | 13, _ => exact ld_13 (st_fund hC hM hL1 hL2)
  | 14, _ => exact ld_14 (st_balance hC hM hL1 hL2)
  | 15, _ => exact ld_15 (st_refusal hC hM hL1 hL2)
  | 16, _ => exact ld_16 (st_move hC hM hL1 hL2)
  | 17, _ => exact ld_17 (st_vote hC hM hL1 hL2)
  | 18, _ => exact ld_18 (st_close hC hM hL1 hL2)
  | 19, _ => exact ld_19 (st_motion hC hM hL1 hL2)
  | 20, _ => exact ld_20 (st_voted hC hM hL1 hL2)
  | 21, _ => exact ld_21 (st_lacking hC hM hL1 hL2)
  | 22, _ => exact ld_22 (st_append hC hM hL1 hL2)
  | 23, _ => exact ld_23 (st_bookAll hC hM hL1 hL2)
  | 24, _ => exact ld_24 (st_fault hC hM hL1 hL2)
  | 25, _ => exact ld_25 (st_account hC hM hL1 hL2)
  | 26, _ => exact ld_26 (st_share hC hM hL1 hL2)
  | 27, _ => exact ld_27 (st_undo hC hM hL1 hL2)
  | 28, _ => exact ld_28 (st_save hC hM hL1 hL2)
  | 29, _ => exact ld_29 (st_restore hC hM hL1 hL2)
  | 30, _ => exact ld_30 (st_none hC hM)
  | 31, _ => exact ld_31 (st_none hC hM)
  | j + 32, hj => exact absurd hj (by omega)
theorem nI_gap {a b c : Nat} (ha : a ≤ 10000) (hb : b ≤ 10000) (hc : c ≤ 10000) : (nI a - nI b < nI c) ↔ (a < c + b) := by
  rw [Int32.lt_iff_toInt_lt, pk_sub_toInt (by omega) (by omega), nI_toInt (show c < 2 ^ 31 by omega)]
  omega
/-- one call of the law -/
theorem lp_step (hC : CR it g S H T Q) (hM : MR it g S H T Q) (hL1 : X.1 ≤ 10000) (hL2 : p + 6 ≤ X.1) : ∃ (it' : Nat → Nat → Int32) (lg' : Nat → Nat → Int64) (db' : Nat → Nat → UInt64) (w' : Nat × Nat) (l6' l7' : Option Value), mE 231 28 [some (.retAddr 0), some (.ref 0), some (.ref 207), some (.ref 217), some (.ref 218), some (.int (nI p)), l6, l7, none] [] (SS X, it, lg, db, w) = mE 231 28 [some (.retAddr 0), some (.ref 0), some (.ref 207), some (.ref 217), some (.ref 218), some (.int (nI (p + 6))), l6', l7', none] [] (SS X, it', lg', db', w') ∧ (∃ g S H T Q, CR it' g S H T Q ∧ MR it' g S H T Q) ∧ w'.1 ≤ w.1 + 1 ∧ w'.2 ≤ w.2 + 6 := by
  have hL1' : (xS (SS X)).1 ≤ 10000 := hL1
  have hL2' : p + 6 ≤ (xS (SS X)).1 := hL2
  obtain ⟨j, hj, ej⟩ := pk_andE ((xS (SS X)).2 p) (m := nI 31) 5 (by decide)
  have hj : j < 32 := hj
  obtain ⟨it', lg', db', w', l6', l7', e, hp, h1, h2⟩ := ld_all (X := X) (lg := lg) (db := db) (w := w) (l6 := l6) (l7 := l7) hC hM hL1' hL2' j hj
  refine ⟨it', lg', db', w', l6', l7', ?_, hp, h1, h2⟩
  have hge : ¬ (nI (xS (SS X)).1 - nI 6 < nI p) := fun q => by
    have := (nI_gap hL1' (by omega) (by omega)).mp q
    omega
  rw [q_231_28, q_231_30, q_231_31, q_231_32, q_231_34, q_231_35, if_neg hge, q_231_38, q_231_39, q_231_41 hL1' (by omega), q_231_42, q_231_44, ej, e, q_231_2023, q_231_2026, nI_add]
theorem lp_run (hL1 : X.1 ≤ 10000) : ∀ (d p : Nat) (it : Nat → Nat → Int32) (lg : Nat → Nat → Int64) (db : Nat → Nat → UInt64) (w : Nat × Nat) (l6 l7 : Option Value), (∃ g S H T Q, CR it g S H T Q ∧ MR it g S H T Q) → p + 6 * d ≤ X.1 → X.1 < p + 6 * d + 6 → ∃ h', mE 231 28 [some (.retAddr 0), some (.ref 0), some (.ref 207), some (.ref 217), some (.ref 218), some (.int (nI p)), l6, l7, none] [] (SS X, it, lg, db, w) = some (.inl (some (.int (nI 1))), h') ∧ (mm_u h').1 ≤ w.1 + d ∧ (mm_u h').2 ≤ w.2 + 6 * d
  | 0, p, it, lg, db, w, l6, l7, hp, h1, h2 => by
      have hlt : nI (xS (SS X)).1 - nI 6 < nI p := (nI_gap (a := (xS (SS X)).1) hL1 (by omega) (by omega)).mpr (show X.1 < p + 6 by omega)
      refine ⟨(SS X, it, lg, db, w), ?_, Nat.le_refl _, Nat.le_refl _⟩
      rw [q_231_28, q_231_30, q_231_31, q_231_32, q_231_34, q_231_35, if_pos hlt, q_231_2029, q_231_2030 (s0 := nI 1) (Or.inr rfl)]
  | d + 1, p, it, lg, db, w, l6, l7, ⟨g, S, H, T, Q, hC, hM⟩, h1, h2 => by
      obtain ⟨it', lg', db', w', l6', l7', e, hp, a1, a2⟩ := lp_step (X := X) (lg := lg) (db := db) (w := w) (l6 := l6) (l7 := l7) hC hM hL1 (p := p) (by omega)
      obtain ⟨h', e', b1, b2⟩ := lp_run hL1 d (p + 6) it' lg' db' w' l6' l7' hp (by omega) (by omega)
      exact ⟨h', e.trans e', by omega, by omega⟩
end S48
