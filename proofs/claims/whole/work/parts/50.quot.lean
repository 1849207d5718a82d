-- ===== the divider: quotients =====
def rwL (lg : Nat → Nat → Int64) (q : Nat) (f : Nat → Int64) (i : Nat) : Nat → Nat → Int64 := fun x y => if x = q ∧ y < i then f y else lg x y
def lastJ (f : Nat → Int64) : Nat → Option Value
  | 0 => none
  | i + 1 => some (.long (f i))
theorem sN_congr {f f' : Nat → Nat} : ∀ {n : Nat}, (∀ i, i < n → f i = f' i) → sN f n = sN f' n
  | 0, _ => rfl
  | n + 1, h => by rw [sN, sN, sN_congr (fun i hi => h i (by omega)), h n (by omega)]
theorem sN_le {f f' : Nat → Nat} : ∀ {n : Nat}, (∀ i, i < n → f i ≤ f' i) → sN f n ≤ sN f' n
  | 0, _ => Nat.le_refl _
  | n + 1, h => by
    have h1 := sN_le (n := n) (fun i hi => h i (by omega))
    have h2 := h n (by omega)
    rw [sN, sN]
    omega
theorem sN_mul {f : Nat → Nat} {a : Nat} : ∀ {n : Nat}, sN (fun u => a * f u) n = a * sN f n
  | 0 => rfl
  | n + 1 => by rw [sN, sN, sN_mul, Nat.mul_add]
theorem sN_mono {f : Nat → Nat} {n k : Nat} (h : n ≤ k) : sN f n ≤ sN f k := by
  obtain ⟨j, rfl⟩ := Nat.le.dest h
  clear h
  induction j with
  | zero => exact Nat.le_refl _
  | succ j ih => exact Nat.le_trans ih (by rw [← Nat.add_assoc, sN]; omega)
theorem sN_add {f f' : Nat → Nat} : ∀ {n : Nat}, sN (fun u => f u + f' u) n = sN f n + sN f' n
  | 0 => rfl
  | n + 1 => by rw [sN, sN, sN, sN_add]; omega
theorem sN_const {a : Nat} : ∀ {n : Nat}, sN (fun _ => a) n = n * a
  | 0 => by rw [sN, Nat.zero_mul]
  | n + 1 => by rw [sN, sN_const, Nat.succ_mul]
theorem sN_zero {f : Nat → Nat} {n : Nat} (h : ∀ i, i < n → f i = 0) : sN f n = 0 := by
  rw [sN_congr h, sN_const, Nat.mul_zero]
/-- the quotients never pass the amount -/
theorem q_le {W : Nat → Nat} {A T n : Nat} (hT : sN W n ≤ T) (h0 : 0 < T) : sN (fun u => A * W u / T) n ≤ A := by
  have h1 : T * sN (fun u => A * W u / T) n ≤ A * T := by
    rw [← sN_mul]
    refine Nat.le_trans (sN_le (f' := fun u => A * W u) (fun i _ => ?_)) ?_
    · exact Nat.mul_div_le _ _
    · rw [sN_mul]
      exact Nat.mul_le_mul_left _ hT
  exact Nat.le_of_mul_le_mul_left (by rw [Nat.mul_comm T A]; exact h1) h0
/-- what is left over is less than the units -/
theorem q_left {W : Nat → Nat} {A T n : Nat} (hT : sN W n = T) (h0 : 0 < T) (hn : 0 < n) : A < sN (fun u => A * W u / T) n + n := by
  have h1 : A * T + sN (fun _ => 1) n ≤ sN (fun u => T * (A * W u / T) + T) n := by
    rw [← hT, ← sN_mul, ← sN_add]
    refine sN_le (fun i _ => ?_)
    have h2 := Nat.div_add_mod (A * W i) T
    have h3 := Nat.mod_lt (A * W i) h0
    rw [hT]
    omega
  rw [sN_add, sN_mul, sN_const, sN_const] at h1
  have h4 : T * A < T * (sN (fun u => A * W u / T) n + n) := by
    rw [Nat.mul_add, Nat.mul_comm T n, Nat.mul_comm T A]
    omega
  exact Nat.lt_of_mul_lt_mul_left h4
section S20
variable {X : Nat × (Nat → Int32)} {it : Nat → Nat → Int32} {lg : Nat → Nat → Int64} {db : Nat → Nat → UInt64} {w : Nat × Nat} {B u n c m k i j p q x y A T : Nat} {g : Nat → Int32} {a b d e v : Int32} {f : Nat → Int64} {W : Nat → Nat}
theorem rwL_0 : rwL lg q f 0 = lg := by
  funext x y
  unfold rwL
  rw [if_neg (by omega)]
theorem rwL_S : mm_up (rwL lg q f i) q i (f i) = rwL lg q f (i + 1) := by
  funext x y
  unfold mm_up rwL
  by_cases h1 : x = q ∧ y = i
  · rw [if_pos h1, if_pos (by omega), h1.2]
  · rw [if_neg h1]
    by_cases h2 : x = q ∧ y < i
    · rw [if_pos h2, if_pos (by omega)]
    · rw [if_neg h2, if_neg (by omega)]
theorem rwL_ne (h : x ≠ q) : rwL lg q f i x y = lg x y := if_neg (fun z => h z.1)
theorem rwL_in (h : y < i) : rwL lg q f i q y = f y := if_pos ⟨rfl, h⟩
theorem h_sumWeights (hW : ∀ u, u < 12 → it 3 u = nI (W u) ∧ W u < 2 ^ 31) : mCl 28 [.ref 1] (SS X, it, lg, db, w) = some (.inl (some (.long (lN (sN W 12)))), (SS X, it, lg, db, w)) := by
  show mE 28 0 [some (.ref 1), none, none, none] [] _ = _
  simp (disch := first | exact id rfl | omega | exact Nat.le_of_ble_eq_true (id rfl) | exact Or.inl (id rfl) | exact Or.inr (id rfl) | exact zlt (z := 12) (id rfl) (by omega) | exact zlt (z := 603) (id rfl) (by omega) | exact zlt (z := 5) (id rfl) (by omega) | exact zlt (z := 2) (id rfl) (by omega) | exact zlt (z := 40) (id rfl) (by omega) | exact zlt (z := 96) (id rfl) (by omega) | exact zlt (z := 120) (id rfl) (by omega) | exact zlt (z := 240) (id rfl) (by omega) | exact zlt (z := 4824) (id rfl) (by omega) | exact zlt (z := 60) (id rfl) (by omega) | exact zlt (z := 8) (id rfl) (by omega) | exact zlt (z := 1) (id rfl) (by omega) | exact zle (z := 12) (id rfl) (by omega) | exact zle (z := 603) (id rfl) (by omega) | exact zle (z := 5) (id rfl) (by omega) | exact zle (z := 2) (id rfl) (by omega) | exact zle (z := 40) (id rfl) (by omega) | exact zle (z := 96) (id rfl) (by omega) | exact zle (z := 120) (id rfl) (by omega) | exact zle (z := 240) (id rfl) (by omega) | exact zle (z := 4824) (id rfl) (by omega) | exact zle (z := 60) (id rfl) (by omega) | exact zle (z := 8) (id rfl) (by omega) | exact zle (z := 1) (id rfl) (by omega)) only [q_28_0, q_28_1, q_28_2, q_28_3, q_28_5, q_28_7, q_28_10, q_28_11, q_28_12, q_28_15, q_28_16, q_28_17, q_28_18, q_28_19, q_28_20, q_28_23, q_28_26, q_28_27, f_0_0, f_0_1, f_0_2, f_0_4, f_0_5, f_1_0, f_1_1, f_1_2, f_5_0, f_5_1, f_5_2, f_5_3, f_5_4, f_5_6, f_6_1, f_6_2, f_6_3, f_6_4, f_6_5, f_6_6, f_6_7, f_6_8, f_15_1, f_15_2, f_18_1, f_18_2, f_23_0, f_23_1, f_23_2, f_23_3, f_23_4, f_23_6, f_24_1, f_24_2, f_24_3, f_24_4, f_24_5, f_24_6, f_24_7, f_24_8, f_33_1, f_33_2, f_36_1, f_36_2, f_41_0, f_41_1, f_41_2, f_41_3, f_41_4, f_41_6, f_42_1, f_42_2, f_42_3, f_42_4, f_42_5, f_42_6, f_42_7, f_42_8, f_51_1, f_51_2, f_54_1, f_54_2, f_59_0, f_60_0, f_60_1, f_60_2, f_60_3, f_60_4, f_60_5, f_60_6, f_60_7, f_61_0, f_61_1, f_61_2, f_61_3, f_61_4, f_61_6, f_62_1, f_62_2, f_62_3, f_62_4, f_62_5, f_62_6, f_62_7, f_62_8, f_71_1, f_71_2, f_74_1, f_74_2, f_79_0, f_79_1, f_79_2, f_79_3, f_79_4, f_79_6, f_80_1, f_80_2, f_80_3, f_80_4, f_80_5, f_80_6, f_80_7, f_80_8, f_89_1, f_89_2, f_92_1, f_92_2, f_97_0, f_97_1, f_97_2, f_97_3, f_97_4, f_97_6, f_98_1, f_98_2, f_98_3, f_98_4, f_98_5, f_98_6, f_98_7, f_98_8, f_107_1, f_107_2, f_110_1, f_110_2, f_115_0, f_115_1, f_115_2, f_115_3, f_115_4, f_115_6, f_116_1, f_116_2, f_116_3, f_116_4, f_116_5, f_116_6, f_116_7, f_116_8, f_125_1, f_125_2, f_128_1, f_128_2, f_133_0, f_133_1, f_133_2, f_133_3, f_133_4, f_133_6, f_134_1, f_134_2, f_134_3, f_134_4, f_134_5, f_134_6, f_134_7, f_134_8, f_143_1, f_143_2, f_146_1, f_146_2, f_151_0, f_151_1, f_151_2, f_151_3, f_151_4, f_151_6, f_152_1, f_152_2, f_152_3, f_152_4, f_152_5, f_152_6, f_152_7, f_152_8, f_161_1, f_161_2, f_164_1, f_164_2, f_169_0, f_169_1, f_169_2, f_169_3, f_169_4, f_169_6, f_170_1, f_170_2, f_170_3, f_170_4, f_170_5, f_170_6, f_170_7, f_170_8, f_179_1, f_179_2, f_182_1, f_182_2, f_187_0, f_187_1, f_187_2, f_187_3, f_187_4, f_187_6, f_188_1, f_188_2, f_188_3, f_188_4, f_188_5, f_188_6, f_188_7, f_188_8, f_197_1, f_197_2, f_200_1, f_200_2, f_205_6, f_207_0, f_207_1, f_207_2, f_207_4, f_207_8, f_207_9, f_207_10, f_207_11, f_207_15]
  refine (lp (fun i => mE 28 4 [some (.ref 1), some (.long (lN (sN W i))), none, some (.int (nI i))] [] (SS X, it, lg, db, w)) 12 (fun i hi => ?_)).trans ?_
  · have hx : ¬ 12 ≤ i := by omega
    obtain ⟨h1, h2⟩ := hW i hi
    have h3 := nI_l h2
    rw [q_28_4]
    simp (disch := first | exact id rfl | omega | exact Nat.le_of_ble_eq_true (id rfl) | exact Or.inl (id rfl) | exact Or.inr (id rfl) | exact zlt (z := 12) (id rfl) (by omega) | exact zlt (z := 603) (id rfl) (by omega) | exact zlt (z := 5) (id rfl) (by omega) | exact zlt (z := 2) (id rfl) (by omega) | exact zlt (z := 40) (id rfl) (by omega) | exact zlt (z := 96) (id rfl) (by omega) | exact zlt (z := 120) (id rfl) (by omega) | exact zlt (z := 240) (id rfl) (by omega) | exact zlt (z := 4824) (id rfl) (by omega) | exact zlt (z := 60) (id rfl) (by omega) | exact zlt (z := 8) (id rfl) (by omega) | exact zlt (z := 1) (id rfl) (by omega) | exact zle (z := 12) (id rfl) (by omega) | exact zle (z := 603) (id rfl) (by omega) | exact zle (z := 5) (id rfl) (by omega) | exact zle (z := 2) (id rfl) (by omega) | exact zle (z := 40) (id rfl) (by omega) | exact zle (z := 96) (id rfl) (by omega) | exact zle (z := 120) (id rfl) (by omega) | exact zle (z := 240) (id rfl) (by omega) | exact zle (z := 4824) (id rfl) (by omega) | exact zle (z := 60) (id rfl) (by omega) | exact zle (z := 8) (id rfl) (by omega) | exact zle (z := 1) (id rfl) (by omega)) only [q_28_0, q_28_1, q_28_2, q_28_3, q_28_5, q_28_7, q_28_10, q_28_11, q_28_12, q_28_15, q_28_16, q_28_17, q_28_18, q_28_19, q_28_20, q_28_23, q_28_26, q_28_27, f_0_0, f_0_1, f_0_2, f_0_4, f_0_5, f_1_0, f_1_1, f_1_2, f_5_0, f_5_1, f_5_2, f_5_3, f_5_4, f_5_6, f_6_1, f_6_2, f_6_3, f_6_4, f_6_5, f_6_6, f_6_7, f_6_8, f_15_1, f_15_2, f_18_1, f_18_2, f_23_0, f_23_1, f_23_2, f_23_3, f_23_4, f_23_6, f_24_1, f_24_2, f_24_3, f_24_4, f_24_5, f_24_6, f_24_7, f_24_8, f_33_1, f_33_2, f_36_1, f_36_2, f_41_0, f_41_1, f_41_2, f_41_3, f_41_4, f_41_6, f_42_1, f_42_2, f_42_3, f_42_4, f_42_5, f_42_6, f_42_7, f_42_8, f_51_1, f_51_2, f_54_1, f_54_2, f_59_0, f_60_0, f_60_1, f_60_2, f_60_3, f_60_4, f_60_5, f_60_6, f_60_7, f_61_0, f_61_1, f_61_2, f_61_3, f_61_4, f_61_6, f_62_1, f_62_2, f_62_3, f_62_4, f_62_5, f_62_6, f_62_7, f_62_8, f_71_1, f_71_2, f_74_1, f_74_2, f_79_0, f_79_1, f_79_2, f_79_3, f_79_4, f_79_6, f_80_1, f_80_2, f_80_3, f_80_4, f_80_5, f_80_6, f_80_7, f_80_8, f_89_1, f_89_2, f_92_1, f_92_2, f_97_0, f_97_1, f_97_2, f_97_3, f_97_4, f_97_6, f_98_1, f_98_2, f_98_3, f_98_4, f_98_5, f_98_6, f_98_7, f_98_8, f_107_1, f_107_2, f_110_1, f_110_2, f_115_0, f_115_1, f_115_2, f_115_3, f_115_4, f_115_6, f_116_1, f_116_2, f_116_3, f_116_4, f_116_5, f_116_6, f_116_7, f_116_8, f_125_1, f_125_2, f_128_1, f_128_2, f_133_0, f_133_1, f_133_2, f_133_3, f_133_4, f_133_6, f_134_1, f_134_2, f_134_3, f_134_4, f_134_5, f_134_6, f_134_7, f_134_8, f_143_1, f_143_2, f_146_1, f_146_2, f_151_0, f_151_1, f_151_2, f_151_3, f_151_4, f_151_6, f_152_1, f_152_2, f_152_3, f_152_4, f_152_5, f_152_6, f_152_7, f_152_8, f_161_1, f_161_2, f_164_1, f_164_2, f_169_0, f_169_1, f_169_2, f_169_3, f_169_4, f_169_6, f_170_1, f_170_2, f_170_3, f_170_4, f_170_5, f_170_6, f_170_7, f_170_8, f_179_1, f_179_2, f_182_1, f_182_2, f_187_0, f_187_1, f_187_2, f_187_3, f_187_4, f_187_6, f_188_1, f_188_2, f_188_3, f_188_4, f_188_5, f_188_6, f_188_7, f_188_8, f_197_1, f_197_2, f_200_1, f_200_2, f_205_6, f_207_0, f_207_1, f_207_2, f_207_4, f_207_8, f_207_9, f_207_10, f_207_11, f_207_15, nI_leI, nI_ltI, nI_eq, nI_add, pk_mul, ↓reduceIte, hx, h1, h3, sN, lN_add]
  · rw [q_28_4]
    have hx : 12 ≤ 12 := by omega
    simp (disch := first | exact id rfl | omega | exact Nat.le_of_ble_eq_true (id rfl) | exact Or.inl (id rfl) | exact Or.inr (id rfl) | exact zlt (z := 12) (id rfl) (by omega) | exact zlt (z := 603) (id rfl) (by omega) | exact zlt (z := 5) (id rfl) (by omega) | exact zlt (z := 2) (id rfl) (by omega) | exact zlt (z := 40) (id rfl) (by omega) | exact zlt (z := 96) (id rfl) (by omega) | exact zlt (z := 120) (id rfl) (by omega) | exact zlt (z := 240) (id rfl) (by omega) | exact zlt (z := 4824) (id rfl) (by omega) | exact zlt (z := 60) (id rfl) (by omega) | exact zlt (z := 8) (id rfl) (by omega) | exact zlt (z := 1) (id rfl) (by omega) | exact zle (z := 12) (id rfl) (by omega) | exact zle (z := 603) (id rfl) (by omega) | exact zle (z := 5) (id rfl) (by omega) | exact zle (z := 2) (id rfl) (by omega) | exact zle (z := 40) (id rfl) (by omega) | exact zle (z := 96) (id rfl) (by omega) | exact zle (z := 120) (id rfl) (by omega) | exact zle (z := 240) (id rfl) (by omega) | exact zle (z := 4824) (id rfl) (by omega) | exact zle (z := 60) (id rfl) (by omega) | exact zle (z := 8) (id rfl) (by omega) | exact zle (z := 1) (id rfl) (by omega)) only [q_28_0, q_28_1, q_28_2, q_28_3, q_28_5, q_28_7, q_28_10, q_28_11, q_28_12, q_28_15, q_28_16, q_28_17, q_28_18, q_28_19, q_28_20, q_28_23, q_28_26, q_28_27, f_0_0, f_0_1, f_0_2, f_0_4, f_0_5, f_1_0, f_1_1, f_1_2, f_5_0, f_5_1, f_5_2, f_5_3, f_5_4, f_5_6, f_6_1, f_6_2, f_6_3, f_6_4, f_6_5, f_6_6, f_6_7, f_6_8, f_15_1, f_15_2, f_18_1, f_18_2, f_23_0, f_23_1, f_23_2, f_23_3, f_23_4, f_23_6, f_24_1, f_24_2, f_24_3, f_24_4, f_24_5, f_24_6, f_24_7, f_24_8, f_33_1, f_33_2, f_36_1, f_36_2, f_41_0, f_41_1, f_41_2, f_41_3, f_41_4, f_41_6, f_42_1, f_42_2, f_42_3, f_42_4, f_42_5, f_42_6, f_42_7, f_42_8, f_51_1, f_51_2, f_54_1, f_54_2, f_59_0, f_60_0, f_60_1, f_60_2, f_60_3, f_60_4, f_60_5, f_60_6, f_60_7, f_61_0, f_61_1, f_61_2, f_61_3, f_61_4, f_61_6, f_62_1, f_62_2, f_62_3, f_62_4, f_62_5, f_62_6, f_62_7, f_62_8, f_71_1, f_71_2, f_74_1, f_74_2, f_79_0, f_79_1, f_79_2, f_79_3, f_79_4, f_79_6, f_80_1, f_80_2, f_80_3, f_80_4, f_80_5, f_80_6, f_80_7, f_80_8, f_89_1, f_89_2, f_92_1, f_92_2, f_97_0, f_97_1, f_97_2, f_97_3, f_97_4, f_97_6, f_98_1, f_98_2, f_98_3, f_98_4, f_98_5, f_98_6, f_98_7, f_98_8, f_107_1, f_107_2, f_110_1, f_110_2, f_115_0, f_115_1, f_115_2, f_115_3, f_115_4, f_115_6, f_116_1, f_116_2, f_116_3, f_116_4, f_116_5, f_116_6, f_116_7, f_116_8, f_125_1, f_125_2, f_128_1, f_128_2, f_133_0, f_133_1, f_133_2, f_133_3, f_133_4, f_133_6, f_134_1, f_134_2, f_134_3, f_134_4, f_134_5, f_134_6, f_134_7, f_134_8, f_143_1, f_143_2, f_146_1, f_146_2, f_151_0, f_151_1, f_151_2, f_151_3, f_151_4, f_151_6, f_152_1, f_152_2, f_152_3, f_152_4, f_152_5, f_152_6, f_152_7, f_152_8, f_161_1, f_161_2, f_164_1, f_164_2, f_169_0, f_169_1, f_169_2, f_169_3, f_169_4, f_169_6, f_170_1, f_170_2, f_170_3, f_170_4, f_170_5, f_170_6, f_170_7, f_170_8, f_179_1, f_179_2, f_182_1, f_182_2, f_187_0, f_187_1, f_187_2, f_187_3, f_187_4, f_187_6, f_188_1, f_188_2, f_188_3, f_188_4, f_188_5, f_188_6, f_188_7, f_188_8, f_197_1, f_197_2, f_200_1, f_200_2, f_205_6, f_207_0, f_207_1, f_207_2, f_207_4, f_207_8, f_207_9, f_207_10, f_207_11, f_207_15, nI_leI, nI_ltI, nI_eq, nI_add, pk_mul, ↓reduceIte, hx]
end S20
