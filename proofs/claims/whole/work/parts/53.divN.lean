-- ===== dividing, in naturals =====
def gw (n : Nat) (s : (Nat → Nat) × (Nat → Int64)) : (Nat → Nat) × (Nat → Int64) := (fun y => if y = mx s.2 n then s.1 y + 1 else s.1 y, fun y => if y = mx s.2 n then -1 else s.2 y)
def gws (n : Nat) (s : (Nat → Nat) × (Nat → Int64)) : Nat → (Nat → Nat) × (Nat → Int64)
  | 0 => s
  | i + 1 => gw n (gws n s i)
def dv0 (W : Nat → Nat) (A T : Nat) : (Nat → Nat) × (Nat → Int64) := (fun y => A * W y / T, fun y => lN (A * W y % T))
/-- the parts of A by the weights W among n units -/
def dv (W : Nat → Nat) (A n : Nat) : Nat → Nat := (gws n (dv0 W A (sN W n)) (lft W A (sN W n) n)).1
theorem mx_ge {R : Nat → Int64} : ∀ {n y : Nat}, y < n → R y ≤ R (mx R n)
  | 0, y, h => absurd h (Nat.not_lt_zero _)
  | n + 1, y, h => by
    rw [mx]
    by_cases e : y = n
    · subst e
      split
      · exact Int64.le_refl _
      · rename_i q
        exact Int64.not_lt.mp q
    · have h1 := mx_ge (R := R) (n := n) (y := y) (by omega)
      split
      · rename_i q
        exact Int64.le_trans h1 (Int64.le_of_lt q)
      · exact h1
theorem mx_far {R : Nat → Int64} {n j : Nat} (h : ∀ y, n ≤ y → y < n + j → R y ≤ R (mx R n)) : mx R (n + j) = mx R n := by
  induction j with
  | zero => rfl
  | succ j ih =>
    have h1 := ih (fun y a b => h y a (by omega))
    rw [← Nat.add_assoc, mx, h1, if_neg (Int64.not_lt.mpr (h (n + j) (by omega) (by omega)))]
theorem mx_congr {R R' : Nat → Int64} : ∀ {n : Nat}, (∀ y, y < n → R y = R' y) → mx R n = mx R' n
  | 0, _ => rfl
  | 1, _ => by rw [mx_1, mx_1]
  | n + 2, h => by
    have h1 := mx_congr (R := R) (R' := R') (n := n + 1) (fun y hy => h y (by omega))
    have h2 : mx R' (n + 1) < n + 1 := mx_lt (by omega)
    show (if R (mx R (n + 1)) < R (n + 1) then n + 1 else mx R (n + 1)) = (if R' (mx R' (n + 1)) < R' (n + 1) then n + 1 else mx R' (n + 1))
    rw [h1, h _ (show mx R' (n + 1) < n + 2 by omega), h (n + 1) (by omega)]
theorem sN_one {f f' : Nat → Nat} {k : Nat} : ∀ {n : Nat}, (∀ y, y < n → y ≠ k → f' y = f y) → n ≤ k → sN f' n = sN f n
  | 0, _, _ => rfl
  | n + 1, h, hk => by
    rw [sN, sN, sN_one (k := k) (fun y hy e => h y (by omega) e) (by omega), h n (by omega) (by omega)]
theorem sN_up {f : Nat → Nat} {k : Nat} : ∀ {n : Nat}, k < n → sN (fun y => if y = k then f y + 1 else f y) n = sN f n + 1
  | 0, h => absurd h (Nat.not_lt_zero _)
  | n + 1, h => by
    rw [sN, sN]
    by_cases e : k = n
    · subst e
      rw [if_pos rfl, sN_one (f := f) (k := k) (fun y hy e => if_neg e) (Nat.le_refl _)]
      omega
    · rw [if_neg (fun q => e q.symm), sN_up (by omega)]
      omega
theorem sN_mem {f : Nat → Nat} {k : Nat} : ∀ {n : Nat}, k < n → f k ≤ sN f n
  | 0, h => absurd h (Nat.not_lt_zero _)
  | n + 1, h => by
    rw [sN]
    by_cases e : k = n
    · subst e
      omega
    · have := sN_mem (f := f) (k := k) (n := n) (by omega)
      omega
theorem sN_far {f : Nat → Nat} {n : Nat} (h : ∀ y, n ≤ y → f y = 0) : ∀ {k : Nat}, n ≤ k → sN f k = sN f n := by
  intro k hk
  obtain ⟨j, rfl⟩ := Nat.le.dest hk
  clear hk
  induction j with
  | zero => rfl
  | succ j ih => rw [← Nat.add_assoc, sN, ih, h _ (by omega)]; rfl
section S23
variable {W : Nat → Nat} {A T n i : Nat}
/-- what giving cents keeps -/
theorem gws_inv (hn : 1 ≤ n) (hT : 0 < T) (hTb : T < 2 ^ 62) : (∀ y, n ≤ y → (gws n (dv0 W A T) i).1 y = A * W y / T ∧ (gws n (dv0 W A T) i).2 y = lN (A * W y % T)) ∧ (∀ y, y < n → (gws n (dv0 W A T) i).2 y = -1 ∨ ∃ v, v < 2 ^ 62 ∧ (gws n (dv0 W A T) i).2 y = lN v) ∧ sN (fun y => if (gws n (dv0 W A T) i).2 y = -1 then 1 else 0) n ≤ i ∧ sN (gws n (dv0 W A T) i).1 n = sN (fun u => A * W u / T) n + i := by
  induction i with
  | zero =>
    have hne : ∀ v, v < T → lN v ≠ -1 := fun v hv q => by
      have h1 := pk_lT (n := v) (by omega)
      rw [q] at h1
      have h2 : (-1 : Int64).toInt = -1 := by decide
      omega
    refine ⟨fun y _ => ⟨rfl, rfl⟩, fun y _ => Or.inr ⟨A * W y % T, ?_, rfl⟩, ?_, rfl⟩
    · have := Nat.mod_lt (A * W y) hT
      omega
    · rw [sN_zero]
      · exact Nat.le_refl _
      · intro y _
        exact if_neg (hne _ (Nat.mod_lt _ hT))
  | succ i ih =>
    obtain ⟨h1, h2, h3, h4⟩ := ih
    have hm : mx (gws n (dv0 W A T) i).2 n < n := mx_lt hn
    refine ⟨fun y hy => ?_, fun y hy => ?_, ?_, ?_⟩
    · have e : y ≠ mx (gws n (dv0 W A T) i).2 n := by omega
      exact ⟨(if_neg e).trans (h1 y hy).1, (if_neg e).trans (h1 y hy).2⟩
    · by_cases e : y = mx (gws n (dv0 W A T) i).2 n
      · exact Or.inl (if_pos e)
      · rcases h2 y hy with q | ⟨v, q1, q2⟩
        · exact Or.inl ((if_neg e).trans q)
        · exact Or.inr ⟨v, q1, (if_neg e).trans q2⟩
    · refine Nat.le_trans (sN_le (f' := fun y => if y = mx (gws n (dv0 W A T) i).2 n then (if (gws n (dv0 W A T) i).2 y = -1 then 1 else 0) + 1 else (if (gws n (dv0 W A T) i).2 y = -1 then 1 else 0)) (fun y hy => ?_)) ?_
      · show (if (if y = mx (gws n (dv0 W A T) i).2 n then -1 else (gws n (dv0 W A T) i).2 y) = -1 then 1 else 0) ≤ _
        by_cases e : y = mx (gws n (dv0 W A T) i).2 n
        · rw [if_pos e, if_pos e, if_pos rfl]
          omega
        · rw [if_neg e, if_neg e]
          exact Nat.le_refl _
      · rw [sN_up hm]
        omega
    · show sN (fun y => if y = mx (gws n (dv0 W A T) i).2 n then (gws n (dv0 W A T) i).1 y + 1 else (gws n (dv0 W A T) i).1 y) n = _
      rw [sN_up hm, h4]
      omega
/-- while cents are left some remainder is there -/
theorem gws_pos (hn : 1 ≤ n) (hT : 0 < T) (hTb : T < 2 ^ 62) (hi : i < n) : lN 0 ≤ (gws n (dv0 W A T) i).2 (mx (gws n (dv0 W A T) i).2 n) := by
  obtain ⟨-, h2, h3, -⟩ := gws_inv (W := W) (A := A) (i := i) hn hT hTb
  by_cases h : ∃ y, y < n ∧ ∃ v, v < 2 ^ 62 ∧ (gws n (dv0 W A T) i).2 y = lN v
  · obtain ⟨y, hy, v, hv, e⟩ := h
    refine Int64.le_trans ?_ (mx_ge hy)
    rw [e, pk_lLE (by omega) (by omega)]
    exact Nat.zero_le _
  · exfalso
    have h4 : sN (fun y => if (gws n (dv0 W A T) i).2 y = -1 then 1 else 0) n = sN (fun _ => 1) n := sN_congr (fun y hy => by
      rcases h2 y hy with q | q
      · exact if_pos q
      · exact absurd ⟨y, hy, q⟩ h)
    rw [h4, sN_const] at h3
    omega
/-- the class gives its cents among twelve, the model among n -/
theorem gvs_gws {P : Nat → Int32} (hn : 1 ≤ n) (hn2 : n ≤ 12) (hz : ∀ y, n ≤ y → W y = 0) (hT : 0 < T) (hTb : T < 2 ^ 62) (hi : i ≤ n) : ∀ y, y < 12 → (gvs 12 (ps0 P W A T) i).1 y = P y + nI ((gws n (dv0 W A T) i).1 y) ∧ (gvs 12 (ps0 P W A T) i).2 y = (gws n (dv0 W A T) i).2 y := by
  induction i with
  | zero => exact fun y _ => ⟨rfl, rfl⟩
  | succ i ih =>
    have ih := ih (by omega)
    have hm : mx (gvs 12 (ps0 P W A T) i).2 12 = mx (gws n (dv0 W A T) i).2 n := by
      rw [mx_congr (fun y hy => (ih y hy).2)]
      have h12 : n + (12 - n) = 12 := by omega
      have h := mx_far (R := (gws n (dv0 W A T) i).2) (n := n) (j := 12 - n) (fun y h1 _ => by
        rw [((gws_inv hn hT hTb).1 y h1).2, hz y h1, Nat.mul_zero, Nat.zero_mod]
        exact gws_pos hn hT hTb (by omega))
      rw [h12] at h
      exact h
    intro y hy
    show (if y = mx (gvs 12 (ps0 P W A T) i).2 12 then (gvs 12 (ps0 P W A T) i).1 y + nI 1 else (gvs 12 (ps0 P W A T) i).1 y) = P y + nI (if y = mx (gws n (dv0 W A T) i).2 n then (gws n (dv0 W A T) i).1 y + 1 else (gws n (dv0 W A T) i).1 y) ∧ (if y = mx (gvs 12 (ps0 P W A T) i).2 12 then -1 else (gvs 12 (ps0 P W A T) i).2 y) = (if y = mx (gws n (dv0 W A T) i).2 n then -1 else (gws n (dv0 W A T) i).2 y)
    rw [hm, (ih y hy).1, (ih y hy).2]
    by_cases e : y = mx (gws n (dv0 W A T) i).2 n
    · rw [if_pos e, if_pos e, ← nI_add, Int32.add_assoc]
      exact ⟨rfl, rfl⟩
    · rw [if_neg e, if_neg e]
      exact ⟨rfl, rfl⟩
theorem lft_lt (h0 : 0 < sN W n) (hn : 1 ≤ n) : lft W A (sN W n) n < n := by
  have := q_left (A := A) (W := W) (n := n) rfl h0 hn
  unfold lft
  omega
theorem dv_sum (h0 : 0 < sN W n) (hb : sN W n < 2 ^ 62) (hn : 1 ≤ n) : sN (dv W A n) n = A := by
  have h := (gws_inv (W := W) (A := A) (i := lft W A (sN W n) n) hn h0 hb).2.2.2
  have hq := q_le (A := A) (W := W) (n := n) (Nat.le_refl _) h0
  unfold dv
  rw [h]
  unfold lft
  omega
theorem dv_le (h0 : 0 < sN W n) (hb : sN W n < 2 ^ 62) (hn : 1 ≤ n) (hy : i < n) : dv W A n i ≤ A := by
  have h := sN_mem (f := dv W A n) hy
  rw [dv_sum h0 hb hn] at h
  exact h
theorem dv_out (h0 : 0 < sN W n) (hb : sN W n < 2 ^ 62) (hn : 1 ≤ n) (hz : ∀ y, n ≤ y → W y = 0) (hy : n ≤ i) : dv W A n i = 0 := by
  unfold dv
  rw [((gws_inv hn h0 hb).1 i hy).1, hz i hy, Nat.mul_zero, Nat.zero_div]
theorem dv_0 : dv W 0 n i = 0 := by
  unfold dv lft
  rw [Nat.zero_sub]
  show 0 * W i / sN W n = 0
  rw [Nat.zero_mul, Nat.zero_div]
end S23
