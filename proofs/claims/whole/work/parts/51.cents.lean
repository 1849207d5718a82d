-- ===== the divider: cents =====
/-- the greatest of R, the first of them -/
def mx (R : Nat → Int64) : Nat → Nat
  | 0 => 0
  | i + 1 => if R (mx R i) < R i then i else mx R i
def gv (N : Nat) (s : (Nat → Int32) × (Nat → Int64)) : (Nat → Int32) × (Nat → Int64) := (fun y => if y = mx s.2 N then s.1 y + nI 1 else s.1 y, fun y => if y = mx s.2 N then -1 else s.2 y)
def gvs (N : Nat) (s : (Nat → Int32) × (Nat → Int64)) : Nat → (Nat → Int32) × (Nat → Int64)
  | 0 => s
  | i + 1 => gv N (gvs N s i)
theorem mx_1 {R : Nat → Int64} : mx R 1 = 0 := by
  show (if R 0 < R 0 then 0 else 0) = 0
  split <;> rfl
theorem mx_lt {R : Nat → Int64} : ∀ {n : Nat}, 1 ≤ n → mx R n < n
  | 1, _ => by rw [mx_1]; omega
  | n + 2, _ => by
    have := mx_lt (R := R) (n := n + 1) (by omega)
    rw [mx]
    split <;> omega
theorem lg_pos {x y : Int64} : (lg_cmp x y ≤ nI 0) ↔ x ≤ y := by
  unfold lg_cmp
  simp only [gt_iff_lt, Int64.lt_iff_toInt_lt, Int64.le_iff_toInt_le, ← Int64.toInt_inj]
  by_cases h1 : y.toInt < x.toInt
  · rw [if_pos h1]
    constructor
    · intro h
      exact absurd h (by decide)
    · intro h
      omega
  · rw [if_neg h1]
    constructor
    · intro _
      omega
    · intro h
      split
      · decide
      · decide
section S21
variable {X : Nat × (Nat → Int32)} {it : Nat → Nat → Int32} {lg : Nat → Nat → Int64} {db : Nat → Nat → UInt64} {w : Nat × Nat} {B u n c m k i j p q x y A T : Nat} {g : Nat → Int32} {a b d e v : Int32} {f : Nat → Int64} {W : Nat → Nat} {s : (Nat → Int32) × (Nat → Int64)}
theorem rw_up (h : k < i) {P P' : Nat → Int32} {v : Int32} (hP : ∀ y, P' y = if y = k then v else P y) : mm_up (rw_ it q P i) q k v = rw_ it q P' i := by
  funext x y
  unfold mm_up rw_
  by_cases h1 : x = q ∧ y = k
  · rw [if_pos h1, if_pos (by omega), hP, if_pos h1.2]
  · rw [if_neg h1]
    by_cases h2 : x = q ∧ y < i
    · rw [if_pos h2, if_pos h2, hP, if_neg (by omega)]
    · rw [if_neg h2, if_neg h2]
theorem rwL_up (h : k < i) {P P' : Nat → Int64} {v : Int64} (hP : ∀ y, P' y = if y = k then v else P y) : mm_up (rwL lg q P i) q k v = rwL lg q P' i := by
  funext x y
  unfold mm_up rwL
  by_cases h1 : x = q ∧ y = k
  · rw [if_pos h1, if_pos (by omega), hP, if_pos h1.2]
  · rw [if_neg h1]
    by_cases h2 : x = q ∧ y < i
    · rw [if_pos h2, if_pos h2, hP, if_neg (by omega)]
    · rw [if_neg h2, if_neg h2]
theorem h_give : mCl 29 [.ref 1] (SS X, rw_ it 2 s.1 12, rwL lg 4 s.2 12, db, w) = some (.inl none, (SS X, rw_ it 2 (gv 12 s).1 12, rwL lg 4 (gv 12 s).2 12, db, w)) := by
  show mE 29 0 [some (.ref 1), none, none] [] _ = _
  simp (disch := first | exact id rfl | omega | exact Nat.le_of_ble_eq_true (id rfl) | exact Or.inl (id rfl) | exact Or.inr (id rfl) | exact zlt (z := 12) (id rfl) (by omega) | exact zlt (z := 603) (id rfl) (by omega) | exact zlt (z := 5) (id rfl) (by omega) | exact zlt (z := 2) (id rfl) (by omega) | exact zlt (z := 40) (id rfl) (by omega) | exact zlt (z := 96) (id rfl) (by omega) | exact zlt (z := 120) (id rfl) (by omega) | exact zlt (z := 240) (id rfl) (by omega) | exact zlt (z := 4824) (id rfl) (by omega) | exact zlt (z := 60) (id rfl) (by omega) | exact zlt (z := 8) (id rfl) (by omega) | exact zlt (z := 1) (id rfl) (by omega) | exact zle (z := 12) (id rfl) (by omega) | exact zle (z := 603) (id rfl) (by omega) | exact zle (z := 5) (id rfl) (by omega) | exact zle (z := 2) (id rfl) (by omega) | exact zle (z := 40) (id rfl) (by omega) | exact zle (z := 96) (id rfl) (by omega) | exact zle (z := 120) (id rfl) (by omega) | exact zle (z := 240) (id rfl) (by omega) | exact zle (z := 4824) (id rfl) (by omega) | exact zle (z := 60) (id rfl) (by omega) | exact zle (z := 8) (id rfl) (by omega) | exact zle (z := 1) (id rfl) (by omega)) only [q_29_0, q_29_1, q_29_2, q_29_3, q_29_5, q_29_7, q_29_10, q_29_11, q_29_14, q_29_15, q_29_16, q_29_17, q_29_20, q_29_21, q_29_22, q_29_23, q_29_26, q_29_27, q_29_28, q_29_31, q_29_34, q_29_35, q_29_38, q_29_39, q_29_40, q_29_41, q_29_42, q_29_43, q_29_44, q_29_45, q_29_48, q_29_49, q_29_52, q_29_53, f_0_0, f_0_1, f_0_2, f_0_4, f_0_5, f_1_0, f_1_1, f_1_2, f_5_0, f_5_1, f_5_2, f_5_3, f_5_4, f_5_6, f_6_1, f_6_2, f_6_3, f_6_4, f_6_5, f_6_6, f_6_7, f_6_8, f_15_1, f_15_2, f_18_1, f_18_2, f_23_0, f_23_1, f_23_2, f_23_3, f_23_4, f_23_6, f_24_1, f_24_2, f_24_3, f_24_4, f_24_5, f_24_6, f_24_7, f_24_8, f_33_1, f_33_2, f_36_1, f_36_2, f_41_0, f_41_1, f_41_2, f_41_3, f_41_4, f_41_6, f_42_1, f_42_2, f_42_3, f_42_4, f_42_5, f_42_6, f_42_7, f_42_8, f_51_1, f_51_2, f_54_1, f_54_2, f_59_0, f_60_0, f_60_1, f_60_2, f_60_3, f_60_4, f_60_5, f_60_6, f_60_7, f_61_0, f_61_1, f_61_2, f_61_3, f_61_4, f_61_6, f_62_1, f_62_2, f_62_3, f_62_4, f_62_5, f_62_6, f_62_7, f_62_8, f_71_1, f_71_2, f_74_1, f_74_2, f_79_0, f_79_1, f_79_2, f_79_3, f_79_4, f_79_6, f_80_1, f_80_2, f_80_3, f_80_4, f_80_5, f_80_6, f_80_7, f_80_8, f_89_1, f_89_2, f_92_1, f_92_2, f_97_0, f_97_1, f_97_2, f_97_3, f_97_4, f_97_6, f_98_1, f_98_2, f_98_3, f_98_4, f_98_5, f_98_6, f_98_7, f_98_8, f_107_1, f_107_2, f_110_1, f_110_2, f_115_0, f_115_1, f_115_2, f_115_3, f_115_4, f_115_6, f_116_1, f_116_2, f_116_3, f_116_4, f_116_5, f_116_6, f_116_7, f_116_8, f_125_1, f_125_2, f_128_1, f_128_2, f_133_0, f_133_1, f_133_2, f_133_3, f_133_4, f_133_6, f_134_1, f_134_2, f_134_3, f_134_4, f_134_5, f_134_6, f_134_7, f_134_8, f_143_1, f_143_2, f_146_1, f_146_2, f_151_0, f_151_1, f_151_2, f_151_3, f_151_4, f_151_6, f_152_1, f_152_2, f_152_3, f_152_4, f_152_5, f_152_6, f_152_7, f_152_8, f_161_1, f_161_2, f_164_1, f_164_2, f_169_0, f_169_1, f_169_2, f_169_3, f_169_4, f_169_6, f_170_1, f_170_2, f_170_3, f_170_4, f_170_5, f_170_6, f_170_7, f_170_8, f_179_1, f_179_2, f_182_1, f_182_2, f_187_0, f_187_1, f_187_2, f_187_3, f_187_4, f_187_6, f_188_1, f_188_2, f_188_3, f_188_4, f_188_5, f_188_6, f_188_7, f_188_8, f_197_1, f_197_2, f_200_1, f_200_2, f_205_6, f_207_0, f_207_1, f_207_2, f_207_4, f_207_8, f_207_9, f_207_10, f_207_11, f_207_15]
  have e1 : (nI 0 : Int32) = nI (mx s.2 1) := by rw [mx_1]
  rw [e1]
  refine (lpS (fun i => mE 29 4 [some (.ref 1), some (.int (nI (mx s.2 i))), some (.int (nI i))] [] (SS X, rw_ it 2 s.1 12, rwL lg 4 s.2 12, db, w)) 1 12 (by omega) (fun i hi1 hi => ?_)).trans ?_
  · have hx : ¬ 12 ≤ i := by omega
    have hm : mx s.2 i < 12 := Nat.lt_trans (mx_lt hi1) hi
    rw [q_29_4]
    simp (disch := first | exact id rfl | omega | exact Nat.le_of_ble_eq_true (id rfl) | exact Or.inl (id rfl) | exact Or.inr (id rfl) | exact zlt (z := 12) (id rfl) (by omega) | exact zlt (z := 603) (id rfl) (by omega) | exact zlt (z := 5) (id rfl) (by omega) | exact zlt (z := 2) (id rfl) (by omega) | exact zlt (z := 40) (id rfl) (by omega) | exact zlt (z := 96) (id rfl) (by omega) | exact zlt (z := 120) (id rfl) (by omega) | exact zlt (z := 240) (id rfl) (by omega) | exact zlt (z := 4824) (id rfl) (by omega) | exact zlt (z := 60) (id rfl) (by omega) | exact zlt (z := 8) (id rfl) (by omega) | exact zlt (z := 1) (id rfl) (by omega) | exact zle (z := 12) (id rfl) (by omega) | exact zle (z := 603) (id rfl) (by omega) | exact zle (z := 5) (id rfl) (by omega) | exact zle (z := 2) (id rfl) (by omega) | exact zle (z := 40) (id rfl) (by omega) | exact zle (z := 96) (id rfl) (by omega) | exact zle (z := 120) (id rfl) (by omega) | exact zle (z := 240) (id rfl) (by omega) | exact zle (z := 4824) (id rfl) (by omega) | exact zle (z := 60) (id rfl) (by omega) | exact zle (z := 8) (id rfl) (by omega) | exact zle (z := 1) (id rfl) (by omega)) only [q_29_0, q_29_1, q_29_2, q_29_3, q_29_5, q_29_7, q_29_10, q_29_11, q_29_14, q_29_15, q_29_16, q_29_17, q_29_20, q_29_21, q_29_22, q_29_23, q_29_26, q_29_27, q_29_28, q_29_31, q_29_34, q_29_35, q_29_38, q_29_39, q_29_40, q_29_41, q_29_42, q_29_43, q_29_44, q_29_45, q_29_48, q_29_49, q_29_52, q_29_53, f_0_0, f_0_1, f_0_2, f_0_4, f_0_5, f_1_0, f_1_1, f_1_2, f_5_0, f_5_1, f_5_2, f_5_3, f_5_4, f_5_6, f_6_1, f_6_2, f_6_3, f_6_4, f_6_5, f_6_6, f_6_7, f_6_8, f_15_1, f_15_2, f_18_1, f_18_2, f_23_0, f_23_1, f_23_2, f_23_3, f_23_4, f_23_6, f_24_1, f_24_2, f_24_3, f_24_4, f_24_5, f_24_6, f_24_7, f_24_8, f_33_1, f_33_2, f_36_1, f_36_2, f_41_0, f_41_1, f_41_2, f_41_3, f_41_4, f_41_6, f_42_1, f_42_2, f_42_3, f_42_4, f_42_5, f_42_6, f_42_7, f_42_8, f_51_1, f_51_2, f_54_1, f_54_2, f_59_0, f_60_0, f_60_1, f_60_2, f_60_3, f_60_4, f_60_5, f_60_6, f_60_7, f_61_0, f_61_1, f_61_2, f_61_3, f_61_4, f_61_6, f_62_1, f_62_2, f_62_3, f_62_4, f_62_5, f_62_6, f_62_7, f_62_8, f_71_1, f_71_2, f_74_1, f_74_2, f_79_0, f_79_1, f_79_2, f_79_3, f_79_4, f_79_6, f_80_1, f_80_2, f_80_3, f_80_4, f_80_5, f_80_6, f_80_7, f_80_8, f_89_1, f_89_2, f_92_1, f_92_2, f_97_0, f_97_1, f_97_2, f_97_3, f_97_4, f_97_6, f_98_1, f_98_2, f_98_3, f_98_4, f_98_5, f_98_6, f_98_7, f_98_8, f_107_1, f_107_2, f_110_1, f_110_2, f_115_0, f_115_1, f_115_2, f_115_3, f_115_4, f_115_6, f_116_1, f_116_2, f_116_3, f_116_4, f_116_5, f_116_6, f_116_7, f_116_8, f_125_1, f_125_2, f_128_1, f_128_2, f_133_0, f_133_1, f_133_2, f_133_3, f_133_4, f_133_6, f_134_1, f_134_2, f_134_3, f_134_4, f_134_5, f_134_6, f_134_7, f_134_8, f_143_1, f_143_2, f_146_1, f_146_2, f_151_0, f_151_1, f_151_2, f_151_3, f_151_4, f_151_6, f_152_1, f_152_2, f_152_3, f_152_4, f_152_5, f_152_6, f_152_7, f_152_8, f_161_1, f_161_2, f_164_1, f_164_2, f_169_0, f_169_1, f_169_2, f_169_3, f_169_4, f_169_6, f_170_1, f_170_2, f_170_3, f_170_4, f_170_5, f_170_6, f_170_7, f_170_8, f_179_1, f_179_2, f_182_1, f_182_2, f_187_0, f_187_1, f_187_2, f_187_3, f_187_4, f_187_6, f_188_1, f_188_2, f_188_3, f_188_4, f_188_5, f_188_6, f_188_7, f_188_8, f_197_1, f_197_2, f_200_1, f_200_2, f_205_6, f_207_0, f_207_1, f_207_2, f_207_4, f_207_8, f_207_9, f_207_10, f_207_11, f_207_15, nI_leI, nI_ltI, nI_eq, nI_add, pk_mul, ↓reduceIte, hx, rwL_in, lg_pos, mx]
    by_cases h5 : s.2 (mx s.2 i) < s.2 i
    · simp [h5, Int64.not_le.mpr h5]
    · simp [h5, Int64.not_lt.mp h5]
  · rw [q_29_4]
    have hx : 12 ≤ 12 := by omega
    have hm : mx s.2 12 < 12 := mx_lt (by omega)
    have h1 : mm_up (rw_ it 2 s.1 12) 2 (mx s.2 12) (s.1 (mx s.2 12) + nI 1) = rw_ it 2 (gv 12 s).1 12 := rw_up hm (fun y => by
      show (if y = mx s.2 12 then s.1 y + nI 1 else s.1 y) = _
      split
      · rename_i q
        rw [q]
      · rfl)
    have h2 : mm_up (rwL lg 4 s.2 12) 4 (mx s.2 12) (-1) = rwL lg 4 (gv 12 s).2 12 := rwL_up hm (fun y => rfl)
    simp (disch := first | exact id rfl | omega | exact Nat.le_of_ble_eq_true (id rfl) | exact Or.inl (id rfl) | exact Or.inr (id rfl) | exact zlt (z := 12) (id rfl) (by omega) | exact zlt (z := 603) (id rfl) (by omega) | exact zlt (z := 5) (id rfl) (by omega) | exact zlt (z := 2) (id rfl) (by omega) | exact zlt (z := 40) (id rfl) (by omega) | exact zlt (z := 96) (id rfl) (by omega) | exact zlt (z := 120) (id rfl) (by omega) | exact zlt (z := 240) (id rfl) (by omega) | exact zlt (z := 4824) (id rfl) (by omega) | exact zlt (z := 60) (id rfl) (by omega) | exact zlt (z := 8) (id rfl) (by omega) | exact zlt (z := 1) (id rfl) (by omega) | exact zle (z := 12) (id rfl) (by omega) | exact zle (z := 603) (id rfl) (by omega) | exact zle (z := 5) (id rfl) (by omega) | exact zle (z := 2) (id rfl) (by omega) | exact zle (z := 40) (id rfl) (by omega) | exact zle (z := 96) (id rfl) (by omega) | exact zle (z := 120) (id rfl) (by omega) | exact zle (z := 240) (id rfl) (by omega) | exact zle (z := 4824) (id rfl) (by omega) | exact zle (z := 60) (id rfl) (by omega) | exact zle (z := 8) (id rfl) (by omega) | exact zle (z := 1) (id rfl) (by omega)) only [q_29_0, q_29_1, q_29_2, q_29_3, q_29_5, q_29_7, q_29_10, q_29_11, q_29_14, q_29_15, q_29_16, q_29_17, q_29_20, q_29_21, q_29_22, q_29_23, q_29_26, q_29_27, q_29_28, q_29_31, q_29_34, q_29_35, q_29_38, q_29_39, q_29_40, q_29_41, q_29_42, q_29_43, q_29_44, q_29_45, q_29_48, q_29_49, q_29_52, q_29_53, f_0_0, f_0_1, f_0_2, f_0_4, f_0_5, f_1_0, f_1_1, f_1_2, f_5_0, f_5_1, f_5_2, f_5_3, f_5_4, f_5_6, f_6_1, f_6_2, f_6_3, f_6_4, f_6_5, f_6_6, f_6_7, f_6_8, f_15_1, f_15_2, f_18_1, f_18_2, f_23_0, f_23_1, f_23_2, f_23_3, f_23_4, f_23_6, f_24_1, f_24_2, f_24_3, f_24_4, f_24_5, f_24_6, f_24_7, f_24_8, f_33_1, f_33_2, f_36_1, f_36_2, f_41_0, f_41_1, f_41_2, f_41_3, f_41_4, f_41_6, f_42_1, f_42_2, f_42_3, f_42_4, f_42_5, f_42_6, f_42_7, f_42_8, f_51_1, f_51_2, f_54_1, f_54_2, f_59_0, f_60_0, f_60_1, f_60_2, f_60_3, f_60_4, f_60_5, f_60_6, f_60_7, f_61_0, f_61_1, f_61_2, f_61_3, f_61_4, f_61_6, f_62_1, f_62_2, f_62_3, f_62_4, f_62_5, f_62_6, f_62_7, f_62_8, f_71_1, f_71_2, f_74_1, f_74_2, f_79_0, f_79_1, f_79_2, f_79_3, f_79_4, f_79_6, f_80_1, f_80_2, f_80_3, f_80_4, f_80_5, f_80_6, f_80_7, f_80_8, f_89_1, f_89_2, f_92_1, f_92_2, f_97_0, f_97_1, f_97_2, f_97_3, f_97_4, f_97_6, f_98_1, f_98_2, f_98_3, f_98_4, f_98_5, f_98_6, f_98_7, f_98_8, f_107_1, f_107_2, f_110_1, f_110_2, f_115_0, f_115_1, f_115_2, f_115_3, f_115_4, f_115_6, f_116_1, f_116_2, f_116_3, f_116_4, f_116_5, f_116_6, f_116_7, f_116_8, f_125_1, f_125_2, f_128_1, f_128_2, f_133_0, f_133_1, f_133_2, f_133_3, f_133_4, f_133_6, f_134_1, f_134_2, f_134_3, f_134_4, f_134_5, f_134_6, f_134_7, f_134_8, f_143_1, f_143_2, f_146_1, f_146_2, f_151_0, f_151_1, f_151_2, f_151_3, f_151_4, f_151_6, f_152_1, f_152_2, f_152_3, f_152_4, f_152_5, f_152_6, f_152_7, f_152_8, f_161_1, f_161_2, f_164_1, f_164_2, f_169_0, f_169_1, f_169_2, f_169_3, f_169_4, f_169_6, f_170_1, f_170_2, f_170_3, f_170_4, f_170_5, f_170_6, f_170_7, f_170_8, f_179_1, f_179_2, f_182_1, f_182_2, f_187_0, f_187_1, f_187_2, f_187_3, f_187_4, f_187_6, f_188_1, f_188_2, f_188_3, f_188_4, f_188_5, f_188_6, f_188_7, f_188_8, f_197_1, f_197_2, f_200_1, f_200_2, f_205_6, f_207_0, f_207_1, f_207_2, f_207_4, f_207_8, f_207_9, f_207_10, f_207_11, f_207_15, nI_leI, nI_ltI, nI_eq, nI_add, pk_mul, ↓reduceIte, hx, rw_in, h1, h2]
end S21
