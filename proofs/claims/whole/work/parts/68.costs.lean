-- ===== a cost booked =====
/-- the numbers and parts of a cost, as they lie in a row -/
def vKN (a b : Int32) (p A P : Nat) (cnt : Int32) (D : Nat → Nat) : Nat → Int32
  | 0 => a
  | 1 => b
  | 2 => nI p
  | 3 => nI A
  | 4 => nI P
  | 5 => cnt
  | i + 6 => nI (D i)
def puts (B : Nat) (it : Nat → Nat → Int32) (k : Nat) (V : Nat → Int32) : Nat → Nat → Nat → Int32
  | 0 => it
  | i + 1 => mm_up (puts B it k V i) (B + 11) (k * 6 + i) (V i)
/-- the row's part ahead of the costs, when a cost was charged -/
def gLow (g : Nat → Int32) (n : Nat) (D : Nat → Nat) (p : Nat) (v1 v2 : Int32) (bill : Bool) : Nat → Int32 := if bill = true then gBl (gCh (up1 (up1 g (99 + p) v1) 104 v2) D n) n else gCh (up1 (up1 g (99 + p) v1) 104 v2) D n
def gBK (g : Nat → Int32) (n c : Nat) (a b : Int32) (p A P : Nat) : Nat → Int32 := gKN (if c = 20 then gDr (gLow g n (DV g n a b (A - P)) p (g (99 + p) - nI P) (g 104 + nI P) (decide (a = nI 4) && decide (P < A))) else gLow g n (DV g n a b (A - P)) p (g (99 + p) - nI P) (g 104 + nI P) (decide (a = nI 4) && decide (P < A))) (if c = 20 then 19 else c) (vKN a b p A P (cncG g n a b) (DV g n a b (A - P)))
def cB (c : Nat) : Nat := if c = 20 then 20 else c + 1
def gDri (g : Nat → Int32) (i : Nat) : Nat → Int32 := fun y => if 106 ≤ y ∧ y < i then g (y + 18) else g y
def gKNi (g : Nat → Int32) (k : Nat) (v : Nat → Int32) (i : Nat) : Nat → Int32 := fun y => if y = 105 then nI (k + 1) else if 106 + 18 * k ≤ y ∧ y < 106 + 18 * k + i then v (y - (106 + 18 * k)) else g y
section S38
variable {X : Nat × (Nat → Int32)} {it it' it1 it3 : Nat → Nat → Int32} {lg lg' lg3 : Nat → Nat → Int64} {db : Nat → Nat → UInt64} {w : Nat × Nat} {B u n c m k i j p q s x y r o A P c' ka : Nat} {g g' G : Nat → Int32} {a b d v v1 v2 z : Int32} {D : Nat → Nat} {V V' : Nat → Int32} {bill : Bool}
theorem DV_congr (h : ∀ y, y < 99 → g' y = g y) (hn : n ≤ 12) : DV g' n a b A = DV g n a b A := by
  have hS : ∀ a b, wS g' n a b = wS g n a b := fun a b => funext fun u => by
    unfold wS
    by_cases hu : u < n
    · rw [cnB_congr (h _ (by omega)) (h _ (by omega)), h (3 + 8 * u + 2) (by omega)]
    · rw [decide_eq_false hu, Bool.false_and, Bool.false_and, if_neg (by decide), if_neg (by decide)]
  have hus : ∀ u, u < n → useG g' u = useG g u := fun u hu => by
    unfold useG
    rw [h _ (by omega), h _ (by omega)]
  have hU : wU g' n = wU g n := funext fun u => by
    unfold wU
    by_cases hu : u < n
    · rw [if_pos hu, if_pos hu, hus u hu]
    · rw [if_neg hu, if_neg hu]
  have hA : anyU g' n = anyU g n := by
    unfold anyU
    apply Bool.eq_iff_iff.mpr
    rw [anyB_iff, anyB_iff]
    constructor
    · rintro ⟨i, h1, h2⟩
      exact ⟨i, h1, by rw [← hus i h1]; exact h2⟩
    · rintro ⟨i, h1, h2⟩
      exact ⟨i, h1, by rw [hus i h1]; exact h2⟩
  have hM : wM g' n = wM g n := by
    unfold wM
    rw [hA, hU, hS]
  have hb : bsG g' A = bsG g A := by
    unfold bsG
    rw [h 0 (by omega)]
  unfold DV
  rw [hS, hM, hb, hS]
theorem cnc_congr (h : ∀ y, y < 99 → g' y = g y) (hn : n ≤ 12) : cncG g' n a b = cncG g n a b := sm_congr (fun u hu => by rw [cnB_congr (h _ (by omega)) (h _ (by omega))])
theorem gKN_lt (h : y < 105 ∨ (106 ≤ y ∧ y < 106 + 18 * k) ∨ 124 + 18 * k ≤ y) : gKN g k V y = g y := by
  unfold gKN
  rw [if_neg (by omega), if_neg (by omega)]
theorem gKN_in (h : i < 18) : gKN g k V (106 + 18 * k + i) = V i := by
  unfold gKN
  rw [if_neg (by omega), if_pos (by omega)]
  congr 1
  omega
theorem gDr_lt (h : y < 106 ∨ 448 ≤ y) : gDr g y = g y := if_neg (by omega)
theorem gDr_in (h : 106 ≤ y) (h2 : y < 448) : gDr g y = g (y + 18) := if_pos ⟨h, h2⟩
theorem gLow_hi (hn : n ≤ 12) (hp : p < 5) (h : 105 ≤ y) : gLow g n D p v1 v2 bill y = g y := by
  unfold gLow
  split
  · rw [gBl_ne (by omega), gCh_ne (by omega), up1_ne (by omega), up1_ne (by omega)]
  · rw [gCh_ne (by omega), up1_ne (by omega), up1_ne (by omega)]
/-- changes of costs alone -/
theorem GI_cost (hg : GI g n c m) (h1 : ∀ y, y < 105 → g' y = g y) (h2 : ∀ y, 466 ≤ y → g' y = g y) (h3 : g' 105 = nI c') (hc : c' ≤ 20) : GI g' n c' m := by
  obtain ⟨⟨e1, e2, e3, e4, e5, e6⟩, a2, a3, a4, a5, ⟨F, hF, hFb⟩, ⟨F2, hF2, hFb2⟩⟩ := hg
  exact ⟨⟨by rw [h1 2 (by omega)]; exact e1, e2, h3, hc, by rw [h2 _ (by omega)]; exact e5, e6⟩, fun s hs => by rw [h1 s (by omega)]; exact a2 s hs, fun p hp => by rw [h1 _ (by omega)]; exact a3 p hp, fun u hu => GU_congr (fun i hi => h1 _ (by omega)) (a4 u hu), fun k hk => GM_congr (fun i hi => h2 _ (by omega)) (fun u hu => ⟨h1 _ (by omega), h1 _ (by omega)⟩) (a5 k hk), ⟨F, fun u hu => by rw [h1 _ (by omega)]; exact hF u hu, hFb⟩, ⟨F2, fun u hu => by rw [h1 _ (by omega)]; exact hF2 u hu, hFb2⟩⟩
theorem dO_ne (h : x ≠ B + 10) (h1 : x ≠ B + 11) (h2 : x ≠ B + 12) : dO B it x y = it x y := by
  unfold dO
  rw [cp_ne h2, cp_ne h1, up_ne h]
theorem LR_dO (hl : LR B it g n 20 m) (hn : n ≤ 12) : LR B (dO B it) (gDr (up1 g 105 (nI 19))) n 19 m := by
  obtain ⟨⟨h1, h2, h3, h4⟩, h5, h6, h7, h8, h9⟩ := hl
  refine ⟨⟨?_, ?_, ?_, ?_⟩, fun p' hp' => ?_, fun s' hs => ?_, fun u' hu' i' hi' => ?_, fun k' hk' => ⟨fun j hj => ?_, fun j hj => ?_⟩, fun k' hk' => ⟨fun j hj => ?_, fun j hj => ?_⟩⟩
  · rw [dO_ne (by omega) (by omega) (by omega), gDr_lt (by omega), up1_ne (by omega)]; exact h1
  · rw [dO_ne (by omega) (by omega) (by omega), gDr_lt (by omega), up1_ne (by omega)]; exact h2
  · rw [gDr_lt (by omega), up1_in]
    unfold dO
    rw [cp_ne (by omega), cp_ne (by omega), up_in]
  · rw [dO_ne (by omega) (by omega) (by omega), gDr_lt (by omega), up1_ne (by omega)]; exact h4
  · rw [dO_ne (by omega) (by omega) (by omega), gDr_lt (by omega), up1_ne (by omega)]; exact h5 p' hp'
  · rw [dO_ne (by omega) (by omega) (by omega), gDr_lt (by omega), up1_ne (by omega)]; exact h6 s' hs
  · rw [dO_ne (by omega) (by omega) (by omega), gDr_lt (by omega), up1_ne (by omega)]; exact h7 u' hu' i' hi'
  · rw [gDr_in (by omega) (by omega), up1_ne (by omega), show 106 + 18 * k' + j + 18 = 106 + 18 * (k' + 1) + j by omega, ← (h8 (k' + 1) (by omega)).1 j hj]
    unfold dO
    rw [cp_ne (by omega)]
    unfold mm_cp
    rw [if_pos (by omega), up_ne (by omega), show 6 + (k' * 6 + j - 0) = (k' + 1) * 6 + j by omega]
  · rw [gDr_in (by omega) (by omega), up1_ne (by omega), show 106 + 18 * k' + 6 + j + 18 = 106 + 18 * (k' + 1) + 6 + j by omega, ← (h8 (k' + 1) (by omega)).2 j hj]
    unfold dO
    rw [mm_cp, if_pos (by omega), cp_ne (by omega), up_ne (by omega), show 12 + (k' * 12 + j - 0) = (k' + 1) * 12 + j by omega]
  · rw [dO_ne (by omega) (by omega) (by omega), gDr_lt (by omega), up1_ne (by omega)]; exact (h9 k' hk').1 j hj
  · rw [dO_ne (by omega) (by omega) (by omega), gDr_lt (by omega), up1_ne (by omega)]; exact (h9 k' hk').2 j hj
theorem puts_ne (h : x ≠ B + 11) : puts B it k V i x y = it x y := by
  induction i with
  | zero => rfl
  | succ i ih => rw [puts, up_ne h, ih]
theorem puts_nk (h : y < k * 6 ∨ k * 6 + i ≤ y) : puts B it k V i x y = it x y := by
  induction i with
  | zero => rfl
  | succ i ih => rw [puts, up_nk (by omega), ih (by omega)]
theorem puts_in (h : j < i) : puts B it k V i (B + 11) (k * 6 + j) = V j := by
  induction i with
  | zero => omega
  | succ i ih =>
    rw [puts]
    by_cases e : j = i
    · rw [e, up_in]
    · rw [up_nk (by omega), ih (by omega)]
theorem kA_ne (h : x ≠ B + 10) (h1 : x ≠ B + 12) : kA B it k x y = it x y := by
  unfold kA
  rw [up_ne h, cp_ne h1]
theorem LR_KN (hl : LR B it g n c m) (hn : n ≤ 12) (hc : c < 20) (hB : 2 < B) (hD : ∀ y, y < 12 → it 2 y = nI (D y)) {cnt : Int32} : LR B (puts B (kA B it c) c (vKN a b p A P cnt D) 6) (gKN g c (vKN a b p A P cnt D)) n (c + 1) m := by
  obtain ⟨⟨h1, h2, h3, h4⟩, h5, h6, h7, h8, h9⟩ := hl
  refine ⟨⟨?_, ?_, ?_, ?_⟩, fun p' hp' => ?_, fun s' hs => ?_, fun u' hu' i' hi' => ?_, fun k' hk' => ⟨fun j hj => ?_, fun j hj => ?_⟩, fun k' hk' => ⟨fun j hj => ?_, fun j hj => ?_⟩⟩
  · rw [puts_ne (by omega), kA_ne (by omega) (by omega), gKN_lt (by omega)]; exact h1
  · rw [puts_ne (by omega), kA_ne (by omega) (by omega), gKN_lt (by omega)]; exact h2
  · rw [puts_ne (by omega)]
    unfold kA
    rw [up_in]
    exact (if_pos rfl).symm
  · rw [puts_ne (by omega), kA_ne (by omega) (by omega), gKN_lt (by omega)]; exact h4
  · rw [puts_ne (by omega), kA_ne (by omega) (by omega), gKN_lt (by omega)]; exact h5 p' hp'
  · rw [puts_ne (by omega), kA_ne (by omega) (by omega), gKN_lt (by omega)]; exact h6 s' hs
  · rw [puts_ne (by omega), kA_ne (by omega) (by omega), gKN_lt (by omega)]; exact h7 u' hu' i' hi'
  · by_cases e : k' = c
    · rw [e, puts_in hj, gKN_in (by omega)]
    · rw [puts_nk (by omega), kA_ne (by omega) (by omega), gKN_lt (by omega)]; exact (h8 k' (by omega)).1 j hj
  · rw [puts_ne (by omega)]
    unfold kA
    rw [up_ne (by omega)]
    unfold mm_cp
    by_cases e : k' = c
    · rw [if_pos (by omega), e, Nat.add_assoc (106 + 18 * c) 6 j, gKN_in (by omega), show 0 + (c * 12 + j - c * 12) = j by omega, hD j hj, Nat.add_comm 6 j]
      rfl
    · rw [if_neg (by omega), gKN_lt (by omega)]; exact (h8 k' (by omega)).2 j hj
  · rw [puts_ne (by omega), kA_ne (by omega) (by omega), gKN_lt (by omega)]; exact (h9 k' hk').1 j hj
  · rw [puts_ne (by omega), kA_ne (by omega) (by omega), gKN_lt (by omega)]; exact (h9 k' hk').2 j hj
theorem gKN_105 : gKN (gDr (up1 g 105 v)) 19 V = gKN (gDr g) 19 V := by
  funext y
  unfold gKN
  by_cases h1 : y = 105
  · rw [if_pos h1, if_pos h1]
  · rw [if_neg h1, if_neg h1]
    split
    · rfl
    · unfold gDr
      split
      · rw [up1_ne (by omega)]
      · rw [up1_ne h1]
theorem gLow_GI (hg : GI g n c m) (hp : p < 5) (hv1 : ∃ v, v ≤ 99999999 ∧ v1 = nI v) {F : Nat → Nat} (hF : ∀ u, u < n → g (3 + 8 * u + 7) = nI (F u)) (hb : sN F n + sN D n ≤ 999999999) : GI (gLow g n D p v1 v2 bill) n c m := by
  have hn := hg.1.2.1
  obtain ⟨v, hv, rfl⟩ := hv1
  have h1 := GI_c (D := D) (GI_t (v := v2) (GI_f hg hp hv)) (F := F) (fun u hu => by rw [up1_ne (by omega), up1_ne (by omega)]; exact hF u hu) hb
  unfold gLow
  split
  · exact GI_b h1
  · exact h1
theorem gBK_GI (hg : GI g n c m) (hp : p < 5) (hv1 : ∃ v, v ≤ 99999999 ∧ g (99 + p) - nI P = nI v) {F : Nat → Nat} (hF : ∀ u, u < n → g (3 + 8 * u + 7) = nI (F u)) (hb : sN F n + sN (DV g n a b (A - P)) n ≤ 999999999) : GI (gBK g n c a b p A P) n (cB c) m := by
  have hn := hg.1.2.1
  have hc := hg.1.2.2.2.1
  have h1 := gLow_GI (D := DV g n a b (A - P)) (v2 := g 104 + nI P) (bill := decide (a = nI 4) && decide (P < A)) hg hp hv1 hF hb
  unfold gBK cB
  by_cases e : c = 20
  · rw [if_pos e, if_pos e, if_pos e]
    exact GI_cost h1 (fun y hy => by rw [gKN_lt (by omega), gDr_lt (by omega)]) (fun y hy => by rw [gKN_lt (by omega), gDr_lt (by omega)]) (if_pos rfl) (by omega)
  · rw [if_neg e, if_neg e, if_neg e]
    exact GI_cost h1 (fun y hy => gKN_lt (by omega)) (fun y hy => gKN_lt (by omega)) (if_pos rfl) (by omega)
theorem h_takeCost_5 (hl : LR 5 it g n c m) (hg : GI g n c m) (hp : p < 5) (hA : A ≤ 9999999) (hu : u < n) (hcn : cnB g a b u = true) (hP : P ≤ A) (hpb : pbG g p (nI A) z = nI P) (hv1 : ∃ v, v ≤ 99999999 ∧ g (99 + p) - nI P = nI v) (hcc : ccG g n (DV g n a b (A - P)) (A - P) = true) : ∃ it' lg', mCl 40 [.ref 5, .int a, .int b, .int (nI p), .int (nI A), .int z] (SS X, it, lg, db, w) = some (.inl (some (.int (nI P))), (SS X, it', lg', db, w)) ∧ LR 5 it' (gBK g n c a b p A P) n (cB c) m ∧ (∀ x, x < 5 ∨ 23 ≤ x → x ≠ 2 → x ≠ 3 → it' x = it x) ∧ (∀ x, x ≠ 4 → lg' x = lg x) := by
  have hn := hg.1.2.1
  have hc := hg.1.2.2.2.1
  obtain ⟨F, hF, hFb⟩ := cc_ok hg (DV_sum hg hu hcn) (show A - P ≤ 9999999 by omega) hcc
  have h1 := g_payable_5 (X := X) (lg := lg) (db := db) (w := w) (a := nI A) (f := z) hl hp
  rw [hpb] at h1
  have hsub : nI A - nI P = nI (A - P) := pk_sub hP
  have e1 : it 21 p = g (99 + p) := hl.2.1 p hp
  have e2 : mm_up it 21 p (g (99 + p) - nI P) 5 5 = g 104 := (up_ne (by omega)).trans hl.1.1
  obtain ⟨v, hv, hv2⟩ := hv1
  have hl0 : LR 5 (mm_up (mm_up it 21 p (g (99 + p) - nI P)) 5 5 (g 104 + nI P)) (up1 (up1 g (99 + p) (g (99 + p) - nI P)) 104 (g 104 + nI P)) n c m := LR_t (LR_f hl hn hp) hn
  have hg0 : GI (up1 (up1 g (99 + p) (g (99 + p) - nI P)) 104 (g 104 + nI P)) n c m := by
    rw [hv2]
    exact GI_t (GI_f hg hp hv)
  have hlo : ∀ y, y < 99 → up1 (up1 g (99 + p) (g (99 + p) - nI P)) 104 (g 104 + nI P) y = g y := fun y hy => by rw [up1_ne (by omega), up1_ne (by omega)]
  obtain ⟨it1, lg', hd1, hd2, hd3, hd4⟩ := h_divide_5 (X := X) (lg := lg) (db := db) (w := w) (A := A - P) (a := a) (b := b) hl0 hg0 (by omega) hu (by rw [cnB_congr (hlo _ (by omega)) (hlo _ (by omega))]; exact hcn)
  rw [DV_congr hlo hn] at hd4
  have e3 : mm_up (mm_up it 21 p (g (99 + p) - nI P)) 5 5 (g 104 + nI P) 22 0 = up1 (up1 g (99 + p) (g (99 + p) - nI P)) 104 (g 104 + nI P) 0 := hl0.2.2.1 0 (by omega)
  have hl1 : LR 5 it1 (up1 (up1 g (99 + p) (g (99 + p) - nI P)) 104 (g 104 + nI P)) n c m := LR_fr hl0 (by omega) hd2
  have hch := h_charge_5 (X := X) (it := it1) (lg := lg') (db := db) (w := w) hn (lc_5 hl1 hg0).1
  have hl2 := LR_c (D := DV g n a b (A - P)) hl1 hn (by omega) (fun y hy => hd4 y (by omega))
  -- to the join
  have key : ∃ it3, mCl 40 [.ref 5, .int a, .int b, .int (nI p), .int (nI A), .int z] (SS X, it, lg, db, w) = mE 40 92 [some (.ref 5), some (.int a), some (.int b), some (.int (nI p)), some (.int (nI A)), some (.int z), some (.int (nI P)), some (.int (nI (A - P))), none] [] (SS X, it3, lg', db, w) ∧ LR 5 it3 (gLow g n (DV g n a b (A - P)) p (g (99 + p) - nI P) (g 104 + nI P) (decide (a = nI 4) && decide (P < A))) n c m ∧ (∀ x, x < 5 ∨ 23 ≤ x → it3 x = it1 x) := by
    by_cases hb : a = nI 4 ∧ P < A
    · have hx : ¬ A - P ≤ 0 := by omega
      refine ⟨mm_cp (chg 5 it1 n) 11 12 0 0 12, ?_, ?_, fun x hx => (funext fun y => cp_ne (by omega)).trans (funext fun y => if_neg (by omega))⟩
      · show mE 40 0 [some (.ref 5), some (.int a), some (.int b), some (.int (nI p)), some (.int (nI A)), some (.int z), none, none, none] [] _ = _
        rw [hb.1] at hd1 ⊢
        simp (disch := first | exact id rfl | omega | exact Nat.le_of_ble_eq_true (id rfl) | exact Or.inl (id rfl) | exact Or.inr (id rfl) | exact zlt (z := 12) (id rfl) (by omega) | exact zlt (z := 603) (id rfl) (by omega) | exact zlt (z := 5) (id rfl) (by omega) | exact zlt (z := 2) (id rfl) (by omega) | exact zlt (z := 40) (id rfl) (by omega) | exact zlt (z := 96) (id rfl) (by omega) | exact zlt (z := 120) (id rfl) (by omega) | exact zlt (z := 240) (id rfl) (by omega) | exact zlt (z := 4824) (id rfl) (by omega) | exact zlt (z := 60) (id rfl) (by omega) | exact zlt (z := 8) (id rfl) (by omega) | exact zlt (z := 1) (id rfl) (by omega) | exact zle (z := 12) (id rfl) (by omega) | exact zle (z := 603) (id rfl) (by omega) | exact zle (z := 5) (id rfl) (by omega) | exact zle (z := 2) (id rfl) (by omega) | exact zle (z := 40) (id rfl) (by omega) | exact zle (z := 96) (id rfl) (by omega) | exact zle (z := 120) (id rfl) (by omega) | exact zle (z := 240) (id rfl) (by omega) | exact zle (z := 4824) (id rfl) (by omega) | exact zle (z := 60) (id rfl) (by omega) | exact zle (z := 8) (id rfl) (by omega) | exact zle (z := 1) (id rfl) (by omega)) only [q_40_0, q_40_1, q_40_2, q_40_4, q_40_6, q_40_9, q_40_11, q_40_13, q_40_15, q_40_16, q_40_18, q_40_19, q_40_22, q_40_23, q_40_24, q_40_25, q_40_27, q_40_28, q_40_29, q_40_30, q_40_31, q_40_34, q_40_36, q_40_37, q_40_40, q_40_41, q_40_44, q_40_45, q_40_48, q_40_49, q_40_52, q_40_53, q_40_54, q_40_55, q_40_56, q_40_58, q_40_61, q_40_62, q_40_65, q_40_66, q_40_69, q_40_72, q_40_75, q_40_76, q_40_77, q_40_80, q_40_82, q_40_85, q_40_86, q_40_89, q_40_93, q_40_96, q_40_97, q_40_100, q_40_103, q_40_106, q_40_108, q_40_109, q_40_112, q_40_114, q_40_115, q_40_116, q_40_119, q_40_120, q_40_123, q_40_125, q_40_126, q_40_127, q_40_130, q_40_131, q_40_134, q_40_136, q_40_137, q_40_138, q_40_141, q_40_142, q_40_145, q_40_147, q_40_148, q_40_150, q_40_153, q_40_154, q_40_157, q_40_159, q_40_160, q_40_162, q_40_165, q_40_166, q_40_169, q_40_171, q_40_172, q_40_173, q_40_176, q_40_177, q_40_178, q_40_181, q_40_184, q_40_186, f_0_0, f_0_1, f_0_2, f_0_4, f_0_5, f_1_0, f_1_1, f_1_2, f_5_0, f_5_1, f_5_2, f_5_3, f_5_4, f_5_6, f_6_1, f_6_2, f_6_3, f_6_4, f_6_5, f_6_6, f_6_7, f_6_8, f_15_1, f_15_2, f_18_1, f_18_2, f_23_0, f_23_1, f_23_2, f_23_3, f_23_4, f_23_6, f_24_1, f_24_2, f_24_3, f_24_4, f_24_5, f_24_6, f_24_7, f_24_8, f_33_1, f_33_2, f_36_1, f_36_2, f_41_0, f_41_1, f_41_2, f_41_3, f_41_4, f_41_6, f_42_1, f_42_2, f_42_3, f_42_4, f_42_5, f_42_6, f_42_7, f_42_8, f_51_1, f_51_2, f_54_1, f_54_2, f_59_0, f_60_0, f_60_1, f_60_2, f_60_3, f_60_4, f_60_5, f_60_6, f_60_7, f_61_0, f_61_1, f_61_2, f_61_3, f_61_4, f_61_6, f_62_1, f_62_2, f_62_3, f_62_4, f_62_5, f_62_6, f_62_7, f_62_8, f_71_1, f_71_2, f_74_1, f_74_2, f_79_0, f_79_1, f_79_2, f_79_3, f_79_4, f_79_6, f_80_1, f_80_2, f_80_3, f_80_4, f_80_5, f_80_6, f_80_7, f_80_8, f_89_1, f_89_2, f_92_1, f_92_2, f_97_0, f_97_1, f_97_2, f_97_3, f_97_4, f_97_6, f_98_1, f_98_2, f_98_3, f_98_4, f_98_5, f_98_6, f_98_7, f_98_8, f_107_1, f_107_2, f_110_1, f_110_2, f_115_0, f_115_1, f_115_2, f_115_3, f_115_4, f_115_6, f_116_1, f_116_2, f_116_3, f_116_4, f_116_5, f_116_6, f_116_7, f_116_8, f_125_1, f_125_2, f_128_1, f_128_2, f_133_0, f_133_1, f_133_2, f_133_3, f_133_4, f_133_6, f_134_1, f_134_2, f_134_3, f_134_4, f_134_5, f_134_6, f_134_7, f_134_8, f_143_1, f_143_2, f_146_1, f_146_2, f_151_0, f_151_1, f_151_2, f_151_3, f_151_4, f_151_6, f_152_1, f_152_2, f_152_3, f_152_4, f_152_5, f_152_6, f_152_7, f_152_8, f_161_1, f_161_2, f_164_1, f_164_2, f_169_0, f_169_1, f_169_2, f_169_3, f_169_4, f_169_6, f_170_1, f_170_2, f_170_3, f_170_4, f_170_5, f_170_6, f_170_7, f_170_8, f_179_1, f_179_2, f_182_1, f_182_2, f_187_0, f_187_1, f_187_2, f_187_3, f_187_4, f_187_6, f_188_1, f_188_2, f_188_3, f_188_4, f_188_5, f_188_6, f_188_7, f_188_8, f_197_1, f_197_2, f_200_1, f_200_2, f_205_6, f_207_0, f_207_1, f_207_2, f_207_4, f_207_8, f_207_9, f_207_10, f_207_11, f_207_15, kt_ki, kt_kix, kt_kv, kt_kvx, kt_kl, kt_klx, kt_kq, kt_kqx, h1, hsub, e1, e2, e3, hd1, hch, nI_leI, hx, h_billMeters_5, ↓reduceIte]
      · unfold gLow
        rw [decide_eq_true hb.1, decide_eq_true hb.2, if_pos (by decide)]
        exact LR_b hl2 hn
    · refine ⟨chg 5 it1 n, ?_, ?_, fun x hx => (funext fun y => if_neg (by omega))⟩
      · show mE 40 0 [some (.ref 5), some (.int a), some (.int b), some (.int (nI p)), some (.int (nI A)), some (.int z), none, none, none] [] _ = _
        by_cases h4 : a = nI 4
        · have hx : A - P ≤ 0 := by
            have : ¬ P < A := fun q => hb ⟨h4, q⟩
            omega
          rw [h4] at hd1 ⊢
          simp (disch := first | exact id rfl | omega | exact Nat.le_of_ble_eq_true (id rfl) | exact Or.inl (id rfl) | exact Or.inr (id rfl) | exact zlt (z := 12) (id rfl) (by omega) | exact zlt (z := 603) (id rfl) (by omega) | exact zlt (z := 5) (id rfl) (by omega) | exact zlt (z := 2) (id rfl) (by omega) | exact zlt (z := 40) (id rfl) (by omega) | exact zlt (z := 96) (id rfl) (by omega) | exact zlt (z := 120) (id rfl) (by omega) | exact zlt (z := 240) (id rfl) (by omega) | exact zlt (z := 4824) (id rfl) (by omega) | exact zlt (z := 60) (id rfl) (by omega) | exact zlt (z := 8) (id rfl) (by omega) | exact zlt (z := 1) (id rfl) (by omega) | exact zle (z := 12) (id rfl) (by omega) | exact zle (z := 603) (id rfl) (by omega) | exact zle (z := 5) (id rfl) (by omega) | exact zle (z := 2) (id rfl) (by omega) | exact zle (z := 40) (id rfl) (by omega) | exact zle (z := 96) (id rfl) (by omega) | exact zle (z := 120) (id rfl) (by omega) | exact zle (z := 240) (id rfl) (by omega) | exact zle (z := 4824) (id rfl) (by omega) | exact zle (z := 60) (id rfl) (by omega) | exact zle (z := 8) (id rfl) (by omega) | exact zle (z := 1) (id rfl) (by omega)) only [q_40_0, q_40_1, q_40_2, q_40_4, q_40_6, q_40_9, q_40_11, q_40_13, q_40_15, q_40_16, q_40_18, q_40_19, q_40_22, q_40_23, q_40_24, q_40_25, q_40_27, q_40_28, q_40_29, q_40_30, q_40_31, q_40_34, q_40_36, q_40_37, q_40_40, q_40_41, q_40_44, q_40_45, q_40_48, q_40_49, q_40_52, q_40_53, q_40_54, q_40_55, q_40_56, q_40_58, q_40_61, q_40_62, q_40_65, q_40_66, q_40_69, q_40_72, q_40_75, q_40_76, q_40_77, q_40_80, q_40_82, q_40_85, q_40_86, q_40_89, q_40_93, q_40_96, q_40_97, q_40_100, q_40_103, q_40_106, q_40_108, q_40_109, q_40_112, q_40_114, q_40_115, q_40_116, q_40_119, q_40_120, q_40_123, q_40_125, q_40_126, q_40_127, q_40_130, q_40_131, q_40_134, q_40_136, q_40_137, q_40_138, q_40_141, q_40_142, q_40_145, q_40_147, q_40_148, q_40_150, q_40_153, q_40_154, q_40_157, q_40_159, q_40_160, q_40_162, q_40_165, q_40_166, q_40_169, q_40_171, q_40_172, q_40_173, q_40_176, q_40_177, q_40_178, q_40_181, q_40_184, q_40_186, f_0_0, f_0_1, f_0_2, f_0_4, f_0_5, f_1_0, f_1_1, f_1_2, f_5_0, f_5_1, f_5_2, f_5_3, f_5_4, f_5_6, f_6_1, f_6_2, f_6_3, f_6_4, f_6_5, f_6_6, f_6_7, f_6_8, f_15_1, f_15_2, f_18_1, f_18_2, f_23_0, f_23_1, f_23_2, f_23_3, f_23_4, f_23_6, f_24_1, f_24_2, f_24_3, f_24_4, f_24_5, f_24_6, f_24_7, f_24_8, f_33_1, f_33_2, f_36_1, f_36_2, f_41_0, f_41_1, f_41_2, f_41_3, f_41_4, f_41_6, f_42_1, f_42_2, f_42_3, f_42_4, f_42_5, f_42_6, f_42_7, f_42_8, f_51_1, f_51_2, f_54_1, f_54_2, f_59_0, f_60_0, f_60_1, f_60_2, f_60_3, f_60_4, f_60_5, f_60_6, f_60_7, f_61_0, f_61_1, f_61_2, f_61_3, f_61_4, f_61_6, f_62_1, f_62_2, f_62_3, f_62_4, f_62_5, f_62_6, f_62_7, f_62_8, f_71_1, f_71_2, f_74_1, f_74_2, f_79_0, f_79_1, f_79_2, f_79_3, f_79_4, f_79_6, f_80_1, f_80_2, f_80_3, f_80_4, f_80_5, f_80_6, f_80_7, f_80_8, f_89_1, f_89_2, f_92_1, f_92_2, f_97_0, f_97_1, f_97_2, f_97_3, f_97_4, f_97_6, f_98_1, f_98_2, f_98_3, f_98_4, f_98_5, f_98_6, f_98_7, f_98_8, f_107_1, f_107_2, f_110_1, f_110_2, f_115_0, f_115_1, f_115_2, f_115_3, f_115_4, f_115_6, f_116_1, f_116_2, f_116_3, f_116_4, f_116_5, f_116_6, f_116_7, f_116_8, f_125_1, f_125_2, f_128_1, f_128_2, f_133_0, f_133_1, f_133_2, f_133_3, f_133_4, f_133_6, f_134_1, f_134_2, f_134_3, f_134_4, f_134_5, f_134_6, f_134_7, f_134_8, f_143_1, f_143_2, f_146_1, f_146_2, f_151_0, f_151_1, f_151_2, f_151_3, f_151_4, f_151_6, f_152_1, f_152_2, f_152_3, f_152_4, f_152_5, f_152_6, f_152_7, f_152_8, f_161_1, f_161_2, f_164_1, f_164_2, f_169_0, f_169_1, f_169_2, f_169_3, f_169_4, f_169_6, f_170_1, f_170_2, f_170_3, f_170_4, f_170_5, f_170_6, f_170_7, f_170_8, f_179_1, f_179_2, f_182_1, f_182_2, f_187_0, f_187_1, f_187_2, f_187_3, f_187_4, f_187_6, f_188_1, f_188_2, f_188_3, f_188_4, f_188_5, f_188_6, f_188_7, f_188_8, f_197_1, f_197_2, f_200_1, f_200_2, f_205_6, f_207_0, f_207_1, f_207_2, f_207_4, f_207_8, f_207_9, f_207_10, f_207_11, f_207_15, kt_ki, kt_kix, kt_kv, kt_kvx, kt_kl, kt_klx, kt_kq, kt_kqx, h1, hsub, e1, e2, e3, hd1, hch, nI_leI, hx, ↓reduceIte]
        · simp (disch := first | exact id rfl | omega | exact Nat.le_of_ble_eq_true (id rfl) | exact Or.inl (id rfl) | exact Or.inr (id rfl) | exact zlt (z := 12) (id rfl) (by omega) | exact zlt (z := 603) (id rfl) (by omega) | exact zlt (z := 5) (id rfl) (by omega) | exact zlt (z := 2) (id rfl) (by omega) | exact zlt (z := 40) (id rfl) (by omega) | exact zlt (z := 96) (id rfl) (by omega) | exact zlt (z := 120) (id rfl) (by omega) | exact zlt (z := 240) (id rfl) (by omega) | exact zlt (z := 4824) (id rfl) (by omega) | exact zlt (z := 60) (id rfl) (by omega) | exact zlt (z := 8) (id rfl) (by omega) | exact zlt (z := 1) (id rfl) (by omega) | exact zle (z := 12) (id rfl) (by omega) | exact zle (z := 603) (id rfl) (by omega) | exact zle (z := 5) (id rfl) (by omega) | exact zle (z := 2) (id rfl) (by omega) | exact zle (z := 40) (id rfl) (by omega) | exact zle (z := 96) (id rfl) (by omega) | exact zle (z := 120) (id rfl) (by omega) | exact zle (z := 240) (id rfl) (by omega) | exact zle (z := 4824) (id rfl) (by omega) | exact zle (z := 60) (id rfl) (by omega) | exact zle (z := 8) (id rfl) (by omega) | exact zle (z := 1) (id rfl) (by omega)) only [q_40_0, q_40_1, q_40_2, q_40_4, q_40_6, q_40_9, q_40_11, q_40_13, q_40_15, q_40_16, q_40_18, q_40_19, q_40_22, q_40_23, q_40_24, q_40_25, q_40_27, q_40_28, q_40_29, q_40_30, q_40_31, q_40_34, q_40_36, q_40_37, q_40_40, q_40_41, q_40_44, q_40_45, q_40_48, q_40_49, q_40_52, q_40_53, q_40_54, q_40_55, q_40_56, q_40_58, q_40_61, q_40_62, q_40_65, q_40_66, q_40_69, q_40_72, q_40_75, q_40_76, q_40_77, q_40_80, q_40_82, q_40_85, q_40_86, q_40_89, q_40_93, q_40_96, q_40_97, q_40_100, q_40_103, q_40_106, q_40_108, q_40_109, q_40_112, q_40_114, q_40_115, q_40_116, q_40_119, q_40_120, q_40_123, q_40_125, q_40_126, q_40_127, q_40_130, q_40_131, q_40_134, q_40_136, q_40_137, q_40_138, q_40_141, q_40_142, q_40_145, q_40_147, q_40_148, q_40_150, q_40_153, q_40_154, q_40_157, q_40_159, q_40_160, q_40_162, q_40_165, q_40_166, q_40_169, q_40_171, q_40_172, q_40_173, q_40_176, q_40_177, q_40_178, q_40_181, q_40_184, q_40_186, f_0_0, f_0_1, f_0_2, f_0_4, f_0_5, f_1_0, f_1_1, f_1_2, f_5_0, f_5_1, f_5_2, f_5_3, f_5_4, f_5_6, f_6_1, f_6_2, f_6_3, f_6_4, f_6_5, f_6_6, f_6_7, f_6_8, f_15_1, f_15_2, f_18_1, f_18_2, f_23_0, f_23_1, f_23_2, f_23_3, f_23_4, f_23_6, f_24_1, f_24_2, f_24_3, f_24_4, f_24_5, f_24_6, f_24_7, f_24_8, f_33_1, f_33_2, f_36_1, f_36_2, f_41_0, f_41_1, f_41_2, f_41_3, f_41_4, f_41_6, f_42_1, f_42_2, f_42_3, f_42_4, f_42_5, f_42_6, f_42_7, f_42_8, f_51_1, f_51_2, f_54_1, f_54_2, f_59_0, f_60_0, f_60_1, f_60_2, f_60_3, f_60_4, f_60_5, f_60_6, f_60_7, f_61_0, f_61_1, f_61_2, f_61_3, f_61_4, f_61_6, f_62_1, f_62_2, f_62_3, f_62_4, f_62_5, f_62_6, f_62_7, f_62_8, f_71_1, f_71_2, f_74_1, f_74_2, f_79_0, f_79_1, f_79_2, f_79_3, f_79_4, f_79_6, f_80_1, f_80_2, f_80_3, f_80_4, f_80_5, f_80_6, f_80_7, f_80_8, f_89_1, f_89_2, f_92_1, f_92_2, f_97_0, f_97_1, f_97_2, f_97_3, f_97_4, f_97_6, f_98_1, f_98_2, f_98_3, f_98_4, f_98_5, f_98_6, f_98_7, f_98_8, f_107_1, f_107_2, f_110_1, f_110_2, f_115_0, f_115_1, f_115_2, f_115_3, f_115_4, f_115_6, f_116_1, f_116_2, f_116_3, f_116_4, f_116_5, f_116_6, f_116_7, f_116_8, f_125_1, f_125_2, f_128_1, f_128_2, f_133_0, f_133_1, f_133_2, f_133_3, f_133_4, f_133_6, f_134_1, f_134_2, f_134_3, f_134_4, f_134_5, f_134_6, f_134_7, f_134_8, f_143_1, f_143_2, f_146_1, f_146_2, f_151_0, f_151_1, f_151_2, f_151_3, f_151_4, f_151_6, f_152_1, f_152_2, f_152_3, f_152_4, f_152_5, f_152_6, f_152_7, f_152_8, f_161_1, f_161_2, f_164_1, f_164_2, f_169_0, f_169_1, f_169_2, f_169_3, f_169_4, f_169_6, f_170_1, f_170_2, f_170_3, f_170_4, f_170_5, f_170_6, f_170_7, f_170_8, f_179_1, f_179_2, f_182_1, f_182_2, f_187_0, f_187_1, f_187_2, f_187_3, f_187_4, f_187_6, f_188_1, f_188_2, f_188_3, f_188_4, f_188_5, f_188_6, f_188_7, f_188_8, f_197_1, f_197_2, f_200_1, f_200_2, f_205_6, f_207_0, f_207_1, f_207_2, f_207_4, f_207_8, f_207_9, f_207_10, f_207_11, f_207_15, kt_ki, kt_kix, kt_kv, kt_kvx, kt_kl, kt_klx, kt_kq, kt_kqx, h1, hsub, e1, e2, e3, hd1, hch, h4, ↓reduceIte]
      · have : (decide (a = nI 4) && decide (P < A)) = false := by
          rw [Bool.and_eq_false_iff, decide_eq_false_iff_not, decide_eq_false_iff_not]
          by_cases h4 : a = nI 4
          · exact Or.inr (fun q => hb ⟨h4, q⟩)
          · exact Or.inl h4
        unfold gLow
        rw [this, if_neg (by decide)]
        exact hl2
  obtain ⟨it3, hk1, hk2, hk3⟩ := key
  have hD3 : ∀ y, y < 12 → it3 2 y = nI (DV g n a b (A - P) y) := fun y hy => by rw [hk3 2 (by omega)]; exact hd4 y hy
  have hGc : ∀ y, y < 99 → y < 8 ∨ (10 ≤ y ∧ (y - 10) % 8 ≠ 0 ∧ (y - 8) % 8 ≠ 0) → gLow g n (DV g n a b (A - P)) p (g (99 + p) - nI P) (g 104 + nI P) (decide (a = nI 4) && decide (P < A)) y = g y := fun y h1 h2 => by
    unfold gLow
    split
    · rw [gBl_ne (by omega), gCh_ne (by omega), up1_ne (by omega), up1_ne (by omega)]
    · rw [gCh_ne (by omega), up1_ne (by omega), up1_ne (by omega)]
  have hG2 : it3 6 0 = nI n := by
    rw [hk2.1.2.1]
    unfold gLow
    split
    · rw [gBl_ne (by omega), gCh_ne (by omega), up1_ne (by omega), up1_ne (by omega)]; exact hg.1.1
    · rw [gCh_ne (by omega), up1_ne (by omega), up1_ne (by omega)]; exact hg.1.1
  have hG105 : it3 15 0 = nI c := by
    rw [hk2.1.2.2.1, gLow_hi hn hp (by omega)]
    exact hg.1.2.2.1
  -- concerned units are counted behind the five numbers
  have hcount : ∀ it5 : Nat → Nat → Int32, it5 6 = it3 6 → it5 7 = it3 7 → it5 8 = it3 8 → mCl 78 [.ref 6, .int a, .int b] (SS X, it5, lg', db, w) = some (.inl (some (.int (cncG g n a b))), (SS X, it5, lg', db, w)) := fun it5 q1 q2 q3 => by
    refine t_countConcerned_5 hn (by rw [q1]; exact hG2) (fun u hu => ⟨?_, ?_⟩)
    · rw [q2, ← hGc (3 + 8 * u + 0) (by omega) (by omega)]
      exact hk2.2.2.2.1 u hu 0 (by omega)
    · rw [q3, ← hGc (3 + 8 * u + 1) (by omega) (by omega)]
      exact hk2.2.2.2.1 u hu 1 (by omega)
  by_cases hfull : c = 20
  · subst hfull
    have hadd := h_costAddF_5 (X := X) (it := it3) (lg := lg') (db := db) (w := w) hG105
    have hf4 : ∀ x, x ≠ 15 → x ≠ 16 → x ≠ 17 → kA 5 (dO 5 it3) 19 x = it3 x := fun x q1 q2 q3 => funext fun y => by rw [kA_ne q1 q3, dO_ne q1 q2 q3]
    have hD4 : ∀ y, y < 12 → dO 5 it3 2 y = nI (DV g n a b (A - P) y) := fun y hy => by rw [dO_ne (by omega) (by omega) (by omega)]; exact hD3 y hy
    have hl4 := LR_KN (a := a) (b := b) (p := p) (A := A) (P := P) (D := DV g n a b (A - P)) (cnt := cncG g n a b) (LR_dO hk2 hn) hn (show 19 < 20 by omega) (by omega) hD4
    rw [gKN_105] at hl4
    have hc5 := hcount (puts 5 (kA 5 (dO 5 it3) 19) 19 (vKN a b p A P (cncG g n a b) (DV g n a b (A - P))) 5) (funext fun y => by rw [puts_ne (by omega), hf4 _ (by omega) (by omega) (by omega)]) (funext fun y => by rw [puts_ne (by omega), hf4 _ (by omega) (by omega) (by omega)]) (funext fun y => by rw [puts_ne (by omega), hf4 _ (by omega) (by omega) (by omega)])
    have hc5 : mCl 78 [.ref 6, .int a, .int b] (SS X, mm_up (mm_up (mm_up (mm_up (mm_up (kA 5 (dO 5 it3) 19) 16 (19 * 6 + 0) a) 16 (19 * 6 + 1) b) 16 (19 * 6 + 2) (nI p)) 16 (19 * 6 + 3) (nI A)) 16 (19 * 6 + 4) (nI P), lg', db, w) = some (.inl (some (.int (cncG g n a b))), (SS X, mm_up (mm_up (mm_up (mm_up (mm_up (kA 5 (dO 5 it3) 19) 16 (19 * 6 + 0) a) 16 (19 * 6 + 1) b) 16 (19 * 6 + 2) (nI p)) 16 (19 * 6 + 3) (nI A)) 16 (19 * 6 + 4) (nI P), lg', db, w)) := hc5
    refine ⟨puts 5 (kA 5 (dO 5 it3) 19) 19 (vKN a b p A P (cncG g n a b) (DV g n a b (A - P))) 6, lg', ?_, ?_, fun x h1 h2 h3 => ?_, hd3⟩
    · rw [hk1]
      simp (disch := first | exact id rfl | omega | exact Nat.le_of_ble_eq_true (id rfl) | exact Or.inl (id rfl) | exact Or.inr (id rfl) | exact zlt (z := 12) (id rfl) (by omega) | exact zlt (z := 603) (id rfl) (by omega) | exact zlt (z := 5) (id rfl) (by omega) | exact zlt (z := 2) (id rfl) (by omega) | exact zlt (z := 40) (id rfl) (by omega) | exact zlt (z := 96) (id rfl) (by omega) | exact zlt (z := 120) (id rfl) (by omega) | exact zlt (z := 240) (id rfl) (by omega) | exact zlt (z := 4824) (id rfl) (by omega) | exact zlt (z := 60) (id rfl) (by omega) | exact zlt (z := 8) (id rfl) (by omega) | exact zlt (z := 1) (id rfl) (by omega) | exact zle (z := 12) (id rfl) (by omega) | exact zle (z := 603) (id rfl) (by omega) | exact zle (z := 5) (id rfl) (by omega) | exact zle (z := 2) (id rfl) (by omega) | exact zle (z := 40) (id rfl) (by omega) | exact zle (z := 96) (id rfl) (by omega) | exact zle (z := 120) (id rfl) (by omega) | exact zle (z := 240) (id rfl) (by omega) | exact zle (z := 4824) (id rfl) (by omega) | exact zle (z := 60) (id rfl) (by omega) | exact zle (z := 8) (id rfl) (by omega) | exact zle (z := 1) (id rfl) (by omega)) only [q_40_6, q_40_9, q_40_11, q_40_13, q_40_15, q_40_16, q_40_18, q_40_19, q_40_22, q_40_23, q_40_24, q_40_25, q_40_27, q_40_28, q_40_29, q_40_30, q_40_31, q_40_34, q_40_36, q_40_37, q_40_40, q_40_41, q_40_44, q_40_45, q_40_48, q_40_49, q_40_52, q_40_53, q_40_54, q_40_55, q_40_56, q_40_58, q_40_61, q_40_62, q_40_65, q_40_66, q_40_69, q_40_72, q_40_75, q_40_76, q_40_77, q_40_80, q_40_82, q_40_85, q_40_86, q_40_89, q_40_92, q_40_93, q_40_96, q_40_97, q_40_100, q_40_103, q_40_106, q_40_108, q_40_109, q_40_112, q_40_114, q_40_115, q_40_116, q_40_119, q_40_120, q_40_123, q_40_125, q_40_126, q_40_127, q_40_130, q_40_131, q_40_134, q_40_136, q_40_137, q_40_138, q_40_141, q_40_142, q_40_145, q_40_147, q_40_148, q_40_150, q_40_153, q_40_154, q_40_157, q_40_159, q_40_160, q_40_162, q_40_165, q_40_166, q_40_169, q_40_171, q_40_172, q_40_173, q_40_176, q_40_177, q_40_178, q_40_181, q_40_184, q_40_186, f_0_0, f_0_1, f_0_2, f_0_4, f_0_5, f_1_0, f_1_1, f_1_2, f_5_0, f_5_1, f_5_2, f_5_3, f_5_4, f_5_6, f_6_1, f_6_2, f_6_3, f_6_4, f_6_5, f_6_6, f_6_7, f_6_8, f_15_1, f_15_2, f_18_1, f_18_2, f_23_0, f_23_1, f_23_2, f_23_3, f_23_4, f_23_6, f_24_1, f_24_2, f_24_3, f_24_4, f_24_5, f_24_6, f_24_7, f_24_8, f_33_1, f_33_2, f_36_1, f_36_2, f_41_0, f_41_1, f_41_2, f_41_3, f_41_4, f_41_6, f_42_1, f_42_2, f_42_3, f_42_4, f_42_5, f_42_6, f_42_7, f_42_8, f_51_1, f_51_2, f_54_1, f_54_2, f_59_0, f_60_0, f_60_1, f_60_2, f_60_3, f_60_4, f_60_5, f_60_6, f_60_7, f_61_0, f_61_1, f_61_2, f_61_3, f_61_4, f_61_6, f_62_1, f_62_2, f_62_3, f_62_4, f_62_5, f_62_6, f_62_7, f_62_8, f_71_1, f_71_2, f_74_1, f_74_2, f_79_0, f_79_1, f_79_2, f_79_3, f_79_4, f_79_6, f_80_1, f_80_2, f_80_3, f_80_4, f_80_5, f_80_6, f_80_7, f_80_8, f_89_1, f_89_2, f_92_1, f_92_2, f_97_0, f_97_1, f_97_2, f_97_3, f_97_4, f_97_6, f_98_1, f_98_2, f_98_3, f_98_4, f_98_5, f_98_6, f_98_7, f_98_8, f_107_1, f_107_2, f_110_1, f_110_2, f_115_0, f_115_1, f_115_2, f_115_3, f_115_4, f_115_6, f_116_1, f_116_2, f_116_3, f_116_4, f_116_5, f_116_6, f_116_7, f_116_8, f_125_1, f_125_2, f_128_1, f_128_2, f_133_0, f_133_1, f_133_2, f_133_3, f_133_4, f_133_6, f_134_1, f_134_2, f_134_3, f_134_4, f_134_5, f_134_6, f_134_7, f_134_8, f_143_1, f_143_2, f_146_1, f_146_2, f_151_0, f_151_1, f_151_2, f_151_3, f_151_4, f_151_6, f_152_1, f_152_2, f_152_3, f_152_4, f_152_5, f_152_6, f_152_7, f_152_8, f_161_1, f_161_2, f_164_1, f_164_2, f_169_0, f_169_1, f_169_2, f_169_3, f_169_4, f_169_6, f_170_1, f_170_2, f_170_3, f_170_4, f_170_5, f_170_6, f_170_7, f_170_8, f_179_1, f_179_2, f_182_1, f_182_2, f_187_0, f_187_1, f_187_2, f_187_3, f_187_4, f_187_6, f_188_1, f_188_2, f_188_3, f_188_4, f_188_5, f_188_6, f_188_7, f_188_8, f_197_1, f_197_2, f_200_1, f_200_2, f_205_6, f_207_0, f_207_1, f_207_2, f_207_4, f_207_8, f_207_9, f_207_10, f_207_11, f_207_15, kt_ki, kt_kix, kt_kv, kt_kvx, kt_kl, kt_klx, kt_kq, kt_kqx, hadd, h_putNumber_5, hc5]
      rfl
    · unfold gBK cB
      rw [if_pos rfl, if_pos rfl, if_pos rfl]
      exact hl4
    · refine (funext fun y => puts_ne (by omega)).trans ((hf4 x (by omega) (by omega) (by omega)).trans ((hk3 x h1).trans ((hd2 x h2 h3).trans (funext fun y => ?_))))
      rw [up_ne (by omega), up_ne (by omega)]
  · have hc20 : c < 20 := by omega
    have hadd := h_costAdd_5 (X := X) (it := it3) (lg := lg') (db := db) (w := w) hG105 hc20
    have hf4 : ∀ x, x ≠ 15 → x ≠ 16 → x ≠ 17 → kA 5 it3 c x = it3 x := fun x q1 q2 q3 => funext fun y => by rw [kA_ne q1 q3]
    have hl4 := LR_KN (a := a) (b := b) (p := p) (A := A) (P := P) (D := DV g n a b (A - P)) (cnt := cncG g n a b) hk2 hn hc20 (by omega) hD3
    have hc5 := hcount (puts 5 (kA 5 it3 c) c (vKN a b p A P (cncG g n a b) (DV g n a b (A - P))) 5) (funext fun y => by rw [puts_ne (by omega), hf4 _ (by omega) (by omega) (by omega)]) (funext fun y => by rw [puts_ne (by omega), hf4 _ (by omega) (by omega) (by omega)]) (funext fun y => by rw [puts_ne (by omega), hf4 _ (by omega) (by omega) (by omega)])
    have hc5 : mCl 78 [.ref 6, .int a, .int b] (SS X, mm_up (mm_up (mm_up (mm_up (mm_up (kA 5 it3 c) 16 (c * 6 + 0) a) 16 (c * 6 + 1) b) 16 (c * 6 + 2) (nI p)) 16 (c * 6 + 3) (nI A)) 16 (c * 6 + 4) (nI P), lg', db, w) = some (.inl (some (.int (cncG g n a b))), (SS X, mm_up (mm_up (mm_up (mm_up (mm_up (kA 5 it3 c) 16 (c * 6 + 0) a) 16 (c * 6 + 1) b) 16 (c * 6 + 2) (nI p)) 16 (c * 6 + 3) (nI A)) 16 (c * 6 + 4) (nI P), lg', db, w)) := hc5
    refine ⟨puts 5 (kA 5 it3 c) c (vKN a b p A P (cncG g n a b) (DV g n a b (A - P))) 6, lg', ?_, ?_, fun x h1 h2 h3 => ?_, hd3⟩
    · rw [hk1]
      simp (disch := first | exact id rfl | omega | exact Nat.le_of_ble_eq_true (id rfl) | exact Or.inl (id rfl) | exact Or.inr (id rfl) | exact zlt (z := 12) (id rfl) (by omega) | exact zlt (z := 603) (id rfl) (by omega) | exact zlt (z := 5) (id rfl) (by omega) | exact zlt (z := 2) (id rfl) (by omega) | exact zlt (z := 40) (id rfl) (by omega) | exact zlt (z := 96) (id rfl) (by omega) | exact zlt (z := 120) (id rfl) (by omega) | exact zlt (z := 240) (id rfl) (by omega) | exact zlt (z := 4824) (id rfl) (by omega) | exact zlt (z := 60) (id rfl) (by omega) | exact zlt (z := 8) (id rfl) (by omega) | exact zlt (z := 1) (id rfl) (by omega) | exact zle (z := 12) (id rfl) (by omega) | exact zle (z := 603) (id rfl) (by omega) | exact zle (z := 5) (id rfl) (by omega) | exact zle (z := 2) (id rfl) (by omega) | exact zle (z := 40) (id rfl) (by omega) | exact zle (z := 96) (id rfl) (by omega) | exact zle (z := 120) (id rfl) (by omega) | exact zle (z := 240) (id rfl) (by omega) | exact zle (z := 4824) (id rfl) (by omega) | exact zle (z := 60) (id rfl) (by omega) | exact zle (z := 8) (id rfl) (by omega) | exact zle (z := 1) (id rfl) (by omega)) only [q_40_6, q_40_9, q_40_11, q_40_13, q_40_15, q_40_16, q_40_18, q_40_19, q_40_22, q_40_23, q_40_24, q_40_25, q_40_27, q_40_28, q_40_29, q_40_30, q_40_31, q_40_34, q_40_36, q_40_37, q_40_40, q_40_41, q_40_44, q_40_45, q_40_48, q_40_49, q_40_52, q_40_53, q_40_54, q_40_55, q_40_56, q_40_58, q_40_61, q_40_62, q_40_65, q_40_66, q_40_69, q_40_72, q_40_75, q_40_76, q_40_77, q_40_80, q_40_82, q_40_85, q_40_86, q_40_89, q_40_92, q_40_93, q_40_96, q_40_97, q_40_100, q_40_103, q_40_106, q_40_108, q_40_109, q_40_112, q_40_114, q_40_115, q_40_116, q_40_119, q_40_120, q_40_123, q_40_125, q_40_126, q_40_127, q_40_130, q_40_131, q_40_134, q_40_136, q_40_137, q_40_138, q_40_141, q_40_142, q_40_145, q_40_147, q_40_148, q_40_150, q_40_153, q_40_154, q_40_157, q_40_159, q_40_160, q_40_162, q_40_165, q_40_166, q_40_169, q_40_171, q_40_172, q_40_173, q_40_176, q_40_177, q_40_178, q_40_181, q_40_184, q_40_186, f_0_0, f_0_1, f_0_2, f_0_4, f_0_5, f_1_0, f_1_1, f_1_2, f_5_0, f_5_1, f_5_2, f_5_3, f_5_4, f_5_6, f_6_1, f_6_2, f_6_3, f_6_4, f_6_5, f_6_6, f_6_7, f_6_8, f_15_1, f_15_2, f_18_1, f_18_2, f_23_0, f_23_1, f_23_2, f_23_3, f_23_4, f_23_6, f_24_1, f_24_2, f_24_3, f_24_4, f_24_5, f_24_6, f_24_7, f_24_8, f_33_1, f_33_2, f_36_1, f_36_2, f_41_0, f_41_1, f_41_2, f_41_3, f_41_4, f_41_6, f_42_1, f_42_2, f_42_3, f_42_4, f_42_5, f_42_6, f_42_7, f_42_8, f_51_1, f_51_2, f_54_1, f_54_2, f_59_0, f_60_0, f_60_1, f_60_2, f_60_3, f_60_4, f_60_5, f_60_6, f_60_7, f_61_0, f_61_1, f_61_2, f_61_3, f_61_4, f_61_6, f_62_1, f_62_2, f_62_3, f_62_4, f_62_5, f_62_6, f_62_7, f_62_8, f_71_1, f_71_2, f_74_1, f_74_2, f_79_0, f_79_1, f_79_2, f_79_3, f_79_4, f_79_6, f_80_1, f_80_2, f_80_3, f_80_4, f_80_5, f_80_6, f_80_7, f_80_8, f_89_1, f_89_2, f_92_1, f_92_2, f_97_0, f_97_1, f_97_2, f_97_3, f_97_4, f_97_6, f_98_1, f_98_2, f_98_3, f_98_4, f_98_5, f_98_6, f_98_7, f_98_8, f_107_1, f_107_2, f_110_1, f_110_2, f_115_0, f_115_1, f_115_2, f_115_3, f_115_4, f_115_6, f_116_1, f_116_2, f_116_3, f_116_4, f_116_5, f_116_6, f_116_7, f_116_8, f_125_1, f_125_2, f_128_1, f_128_2, f_133_0, f_133_1, f_133_2, f_133_3, f_133_4, f_133_6, f_134_1, f_134_2, f_134_3, f_134_4, f_134_5, f_134_6, f_134_7, f_134_8, f_143_1, f_143_2, f_146_1, f_146_2, f_151_0, f_151_1, f_151_2, f_151_3, f_151_4, f_151_6, f_152_1, f_152_2, f_152_3, f_152_4, f_152_5, f_152_6, f_152_7, f_152_8, f_161_1, f_161_2, f_164_1, f_164_2, f_169_0, f_169_1, f_169_2, f_169_3, f_169_4, f_169_6, f_170_1, f_170_2, f_170_3, f_170_4, f_170_5, f_170_6, f_170_7, f_170_8, f_179_1, f_179_2, f_182_1, f_182_2, f_187_0, f_187_1, f_187_2, f_187_3, f_187_4, f_187_6, f_188_1, f_188_2, f_188_3, f_188_4, f_188_5, f_188_6, f_188_7, f_188_8, f_197_1, f_197_2, f_200_1, f_200_2, f_205_6, f_207_0, f_207_1, f_207_2, f_207_4, f_207_8, f_207_9, f_207_10, f_207_11, f_207_15, kt_ki, kt_kix, kt_kv, kt_kvx, kt_kl, kt_klx, kt_kq, kt_kqx, hadd, h_putNumber_5, hc5]
      rfl
    · unfold gBK cB
      rw [if_neg hfull, if_neg hfull, if_neg hfull]
      exact hl4
    · refine (funext fun y => puts_ne (by omega)).trans ((hf4 x (by omega) (by omega) (by omega)).trans ((hk3 x h1).trans ((hd2 x h2 h3).trans (funext fun y => ?_))))
      rw [up_ne (by omega), up_ne (by omega)]
theorem h_takeCost_23 (hl : LR 23 it g n c m) (hg : GI g n c m) (hp : p < 5) (hA : A ≤ 9999999) (hu : u < n) (hcn : cnB g a b u = true) (hP : P ≤ A) (hpb : pbG g p (nI A) z = nI P) (hv1 : ∃ v, v ≤ 99999999 ∧ g (99 + p) - nI P = nI v) (hcc : ccG g n (DV g n a b (A - P)) (A - P) = true) : ∃ it' lg', mCl 40 [.ref 23, .int a, .int b, .int (nI p), .int (nI A), .int z] (SS X, it, lg, db, w) = some (.inl (some (.int (nI P))), (SS X, it', lg', db, w)) ∧ LR 23 it' (gBK g n c a b p A P) n (cB c) m ∧ (∀ x, x < 23 ∨ 41 ≤ x → x ≠ 2 → x ≠ 3 → it' x = it x) ∧ (∀ x, x ≠ 4 → lg' x = lg x) := by
  have hn := hg.1.2.1
  have hc := hg.1.2.2.2.1
  obtain ⟨F, hF, hFb⟩ := cc_ok hg (DV_sum hg hu hcn) (show A - P ≤ 9999999 by omega) hcc
  have h1 := g_payable_23 (X := X) (lg := lg) (db := db) (w := w) (a := nI A) (f := z) hl hp
  rw [hpb] at h1
  have hsub : nI A - nI P = nI (A - P) := pk_sub hP
  have e1 : it 39 p = g (99 + p) := hl.2.1 p hp
  have e2 : mm_up it 39 p (g (99 + p) - nI P) 23 5 = g 104 := (up_ne (by omega)).trans hl.1.1
  obtain ⟨v, hv, hv2⟩ := hv1
  have hl0 : LR 23 (mm_up (mm_up it 39 p (g (99 + p) - nI P)) 23 5 (g 104 + nI P)) (up1 (up1 g (99 + p) (g (99 + p) - nI P)) 104 (g 104 + nI P)) n c m := LR_t (LR_f hl hn hp) hn
  have hg0 : GI (up1 (up1 g (99 + p) (g (99 + p) - nI P)) 104 (g 104 + nI P)) n c m := by
    rw [hv2]
    exact GI_t (GI_f hg hp hv)
  have hlo : ∀ y, y < 99 → up1 (up1 g (99 + p) (g (99 + p) - nI P)) 104 (g 104 + nI P) y = g y := fun y hy => by rw [up1_ne (by omega), up1_ne (by omega)]
  obtain ⟨it1, lg', hd1, hd2, hd3, hd4⟩ := h_divide_23 (X := X) (lg := lg) (db := db) (w := w) (A := A - P) (a := a) (b := b) hl0 hg0 (by omega) hu (by rw [cnB_congr (hlo _ (by omega)) (hlo _ (by omega))]; exact hcn)
  rw [DV_congr hlo hn] at hd4
  have e3 : mm_up (mm_up it 39 p (g (99 + p) - nI P)) 23 5 (g 104 + nI P) 40 0 = up1 (up1 g (99 + p) (g (99 + p) - nI P)) 104 (g 104 + nI P) 0 := hl0.2.2.1 0 (by omega)
  have hl1 : LR 23 it1 (up1 (up1 g (99 + p) (g (99 + p) - nI P)) 104 (g 104 + nI P)) n c m := LR_fr hl0 (by omega) hd2
  have hch := h_charge_23 (X := X) (it := it1) (lg := lg') (db := db) (w := w) hn (lc_23 hl1 hg0).1
  have hl2 := LR_c (D := DV g n a b (A - P)) hl1 hn (by omega) (fun y hy => hd4 y (by omega))
  -- to the join
  have key : ∃ it3, mCl 40 [.ref 23, .int a, .int b, .int (nI p), .int (nI A), .int z] (SS X, it, lg, db, w) = mE 40 92 [some (.ref 23), some (.int a), some (.int b), some (.int (nI p)), some (.int (nI A)), some (.int z), some (.int (nI P)), some (.int (nI (A - P))), none] [] (SS X, it3, lg', db, w) ∧ LR 23 it3 (gLow g n (DV g n a b (A - P)) p (g (99 + p) - nI P) (g 104 + nI P) (decide (a = nI 4) && decide (P < A))) n c m ∧ (∀ x, x < 23 ∨ 41 ≤ x → it3 x = it1 x) := by
    by_cases hb : a = nI 4 ∧ P < A
    · have hx : ¬ A - P ≤ 0 := by omega
      refine ⟨mm_cp (chg 23 it1 n) 29 30 0 0 12, ?_, ?_, fun x hx => (funext fun y => cp_ne (by omega)).trans (funext fun y => if_neg (by omega))⟩
      · show mE 40 0 [some (.ref 23), some (.int a), some (.int b), some (.int (nI p)), some (.int (nI A)), some (.int z), none, none, none] [] _ = _
        rw [hb.1] at hd1 ⊢
        simp (disch := first | exact id rfl | omega | exact Nat.le_of_ble_eq_true (id rfl) | exact Or.inl (id rfl) | exact Or.inr (id rfl) | exact zlt (z := 12) (id rfl) (by omega) | exact zlt (z := 603) (id rfl) (by omega) | exact zlt (z := 5) (id rfl) (by omega) | exact zlt (z := 2) (id rfl) (by omega) | exact zlt (z := 40) (id rfl) (by omega) | exact zlt (z := 96) (id rfl) (by omega) | exact zlt (z := 120) (id rfl) (by omega) | exact zlt (z := 240) (id rfl) (by omega) | exact zlt (z := 4824) (id rfl) (by omega) | exact zlt (z := 60) (id rfl) (by omega) | exact zlt (z := 8) (id rfl) (by omega) | exact zlt (z := 1) (id rfl) (by omega) | exact zle (z := 12) (id rfl) (by omega) | exact zle (z := 603) (id rfl) (by omega) | exact zle (z := 5) (id rfl) (by omega) | exact zle (z := 2) (id rfl) (by omega) | exact zle (z := 40) (id rfl) (by omega) | exact zle (z := 96) (id rfl) (by omega) | exact zle (z := 120) (id rfl) (by omega) | exact zle (z := 240) (id rfl) (by omega) | exact zle (z := 4824) (id rfl) (by omega) | exact zle (z := 60) (id rfl) (by omega) | exact zle (z := 8) (id rfl) (by omega) | exact zle (z := 1) (id rfl) (by omega)) only [q_40_0, q_40_1, q_40_2, q_40_4, q_40_6, q_40_9, q_40_11, q_40_13, q_40_15, q_40_16, q_40_18, q_40_19, q_40_22, q_40_23, q_40_24, q_40_25, q_40_27, q_40_28, q_40_29, q_40_30, q_40_31, q_40_34, q_40_36, q_40_37, q_40_40, q_40_41, q_40_44, q_40_45, q_40_48, q_40_49, q_40_52, q_40_53, q_40_54, q_40_55, q_40_56, q_40_58, q_40_61, q_40_62, q_40_65, q_40_66, q_40_69, q_40_72, q_40_75, q_40_76, q_40_77, q_40_80, q_40_82, q_40_85, q_40_86, q_40_89, q_40_93, q_40_96, q_40_97, q_40_100, q_40_103, q_40_106, q_40_108, q_40_109, q_40_112, q_40_114, q_40_115, q_40_116, q_40_119, q_40_120, q_40_123, q_40_125, q_40_126, q_40_127, q_40_130, q_40_131, q_40_134, q_40_136, q_40_137, q_40_138, q_40_141, q_40_142, q_40_145, q_40_147, q_40_148, q_40_150, q_40_153, q_40_154, q_40_157, q_40_159, q_40_160, q_40_162, q_40_165, q_40_166, q_40_169, q_40_171, q_40_172, q_40_173, q_40_176, q_40_177, q_40_178, q_40_181, q_40_184, q_40_186, f_0_0, f_0_1, f_0_2, f_0_4, f_0_5, f_1_0, f_1_1, f_1_2, f_5_0, f_5_1, f_5_2, f_5_3, f_5_4, f_5_6, f_6_1, f_6_2, f_6_3, f_6_4, f_6_5, f_6_6, f_6_7, f_6_8, f_15_1, f_15_2, f_18_1, f_18_2, f_23_0, f_23_1, f_23_2, f_23_3, f_23_4, f_23_6, f_24_1, f_24_2, f_24_3, f_24_4, f_24_5, f_24_6, f_24_7, f_24_8, f_33_1, f_33_2, f_36_1, f_36_2, f_41_0, f_41_1, f_41_2, f_41_3, f_41_4, f_41_6, f_42_1, f_42_2, f_42_3, f_42_4, f_42_5, f_42_6, f_42_7, f_42_8, f_51_1, f_51_2, f_54_1, f_54_2, f_59_0, f_60_0, f_60_1, f_60_2, f_60_3, f_60_4, f_60_5, f_60_6, f_60_7, f_61_0, f_61_1, f_61_2, f_61_3, f_61_4, f_61_6, f_62_1, f_62_2, f_62_3, f_62_4, f_62_5, f_62_6, f_62_7, f_62_8, f_71_1, f_71_2, f_74_1, f_74_2, f_79_0, f_79_1, f_79_2, f_79_3, f_79_4, f_79_6, f_80_1, f_80_2, f_80_3, f_80_4, f_80_5, f_80_6, f_80_7, f_80_8, f_89_1, f_89_2, f_92_1, f_92_2, f_97_0, f_97_1, f_97_2, f_97_3, f_97_4, f_97_6, f_98_1, f_98_2, f_98_3, f_98_4, f_98_5, f_98_6, f_98_7, f_98_8, f_107_1, f_107_2, f_110_1, f_110_2, f_115_0, f_115_1, f_115_2, f_115_3, f_115_4, f_115_6, f_116_1, f_116_2, f_116_3, f_116_4, f_116_5, f_116_6, f_116_7, f_116_8, f_125_1, f_125_2, f_128_1, f_128_2, f_133_0, f_133_1, f_133_2, f_133_3, f_133_4, f_133_6, f_134_1, f_134_2, f_134_3, f_134_4, f_134_5, f_134_6, f_134_7, f_134_8, f_143_1, f_143_2, f_146_1, f_146_2, f_151_0, f_151_1, f_151_2, f_151_3, f_151_4, f_151_6, f_152_1, f_152_2, f_152_3, f_152_4, f_152_5, f_152_6, f_152_7, f_152_8, f_161_1, f_161_2, f_164_1, f_164_2, f_169_0, f_169_1, f_169_2, f_169_3, f_169_4, f_169_6, f_170_1, f_170_2, f_170_3, f_170_4, f_170_5, f_170_6, f_170_7, f_170_8, f_179_1, f_179_2, f_182_1, f_182_2, f_187_0, f_187_1, f_187_2, f_187_3, f_187_4, f_187_6, f_188_1, f_188_2, f_188_3, f_188_4, f_188_5, f_188_6, f_188_7, f_188_8, f_197_1, f_197_2, f_200_1, f_200_2, f_205_6, f_207_0, f_207_1, f_207_2, f_207_4, f_207_8, f_207_9, f_207_10, f_207_11, f_207_15, kt_ki, kt_kix, kt_kv, kt_kvx, kt_kl, kt_klx, kt_kq, kt_kqx, h1, hsub, e1, e2, e3, hd1, hch, nI_leI, hx, h_billMeters_23, ↓reduceIte]
      · unfold gLow
        rw [decide_eq_true hb.1, decide_eq_true hb.2, if_pos (by decide)]
        exact LR_b hl2 hn
    · refine ⟨chg 23 it1 n, ?_, ?_, fun x hx => (funext fun y => if_neg (by omega))⟩
      · show mE 40 0 [some (.ref 23), some (.int a), some (.int b), some (.int (nI p)), some (.int (nI A)), some (.int z), none, none, none] [] _ = _
        by_cases h4 : a = nI 4
        · have hx : A - P ≤ 0 := by
            have : ¬ P < A := fun q => hb ⟨h4, q⟩
            omega
          rw [h4] at hd1 ⊢
          simp (disch := first | exact id rfl | omega | exact Nat.le_of_ble_eq_true (id rfl) | exact Or.inl (id rfl) | exact Or.inr (id rfl) | exact zlt (z := 12) (id rfl) (by omega) | exact zlt (z := 603) (id rfl) (by omega) | exact zlt (z := 5) (id rfl) (by omega) | exact zlt (z := 2) (id rfl) (by omega) | exact zlt (z := 40) (id rfl) (by omega) | exact zlt (z := 96) (id rfl) (by omega) | exact zlt (z := 120) (id rfl) (by omega) | exact zlt (z := 240) (id rfl) (by omega) | exact zlt (z := 4824) (id rfl) (by omega) | exact zlt (z := 60) (id rfl) (by omega) | exact zlt (z := 8) (id rfl) (by omega) | exact zlt (z := 1) (id rfl) (by omega) | exact zle (z := 12) (id rfl) (by omega) | exact zle (z := 603) (id rfl) (by omega) | exact zle (z := 5) (id rfl) (by omega) | exact zle (z := 2) (id rfl) (by omega) | exact zle (z := 40) (id rfl) (by omega) | exact zle (z := 96) (id rfl) (by omega) | exact zle (z := 120) (id rfl) (by omega) | exact zle (z := 240) (id rfl) (by omega) | exact zle (z := 4824) (id rfl) (by omega) | exact zle (z := 60) (id rfl) (by omega) | exact zle (z := 8) (id rfl) (by omega) | exact zle (z := 1) (id rfl) (by omega)) only [q_40_0, q_40_1, q_40_2, q_40_4, q_40_6, q_40_9, q_40_11, q_40_13, q_40_15, q_40_16, q_40_18, q_40_19, q_40_22, q_40_23, q_40_24, q_40_25, q_40_27, q_40_28, q_40_29, q_40_30, q_40_31, q_40_34, q_40_36, q_40_37, q_40_40, q_40_41, q_40_44, q_40_45, q_40_48, q_40_49, q_40_52, q_40_53, q_40_54, q_40_55, q_40_56, q_40_58, q_40_61, q_40_62, q_40_65, q_40_66, q_40_69, q_40_72, q_40_75, q_40_76, q_40_77, q_40_80, q_40_82, q_40_85, q_40_86, q_40_89, q_40_93, q_40_96, q_40_97, q_40_100, q_40_103, q_40_106, q_40_108, q_40_109, q_40_112, q_40_114, q_40_115, q_40_116, q_40_119, q_40_120, q_40_123, q_40_125, q_40_126, q_40_127, q_40_130, q_40_131, q_40_134, q_40_136, q_40_137, q_40_138, q_40_141, q_40_142, q_40_145, q_40_147, q_40_148, q_40_150, q_40_153, q_40_154, q_40_157, q_40_159, q_40_160, q_40_162, q_40_165, q_40_166, q_40_169, q_40_171, q_40_172, q_40_173, q_40_176, q_40_177, q_40_178, q_40_181, q_40_184, q_40_186, f_0_0, f_0_1, f_0_2, f_0_4, f_0_5, f_1_0, f_1_1, f_1_2, f_5_0, f_5_1, f_5_2, f_5_3, f_5_4, f_5_6, f_6_1, f_6_2, f_6_3, f_6_4, f_6_5, f_6_6, f_6_7, f_6_8, f_15_1, f_15_2, f_18_1, f_18_2, f_23_0, f_23_1, f_23_2, f_23_3, f_23_4, f_23_6, f_24_1, f_24_2, f_24_3, f_24_4, f_24_5, f_24_6, f_24_7, f_24_8, f_33_1, f_33_2, f_36_1, f_36_2, f_41_0, f_41_1, f_41_2, f_41_3, f_41_4, f_41_6, f_42_1, f_42_2, f_42_3, f_42_4, f_42_5, f_42_6, f_42_7, f_42_8, f_51_1, f_51_2, f_54_1, f_54_2, f_59_0, f_60_0, f_60_1, f_60_2, f_60_3, f_60_4, f_60_5, f_60_6, f_60_7, f_61_0, f_61_1, f_61_2, f_61_3, f_61_4, f_61_6, f_62_1, f_62_2, f_62_3, f_62_4, f_62_5, f_62_6, f_62_7, f_62_8, f_71_1, f_71_2, f_74_1, f_74_2, f_79_0, f_79_1, f_79_2, f_79_3, f_79_4, f_79_6, f_80_1, f_80_2, f_80_3, f_80_4, f_80_5, f_80_6, f_80_7, f_80_8, f_89_1, f_89_2, f_92_1, f_92_2, f_97_0, f_97_1, f_97_2, f_97_3, f_97_4, f_97_6, f_98_1, f_98_2, f_98_3, f_98_4, f_98_5, f_98_6, f_98_7, f_98_8, f_107_1, f_107_2, f_110_1, f_110_2, f_115_0, f_115_1, f_115_2, f_115_3, f_115_4, f_115_6, f_116_1, f_116_2, f_116_3, f_116_4, f_116_5, f_116_6, f_116_7, f_116_8, f_125_1, f_125_2, f_128_1, f_128_2, f_133_0, f_133_1, f_133_2, f_133_3, f_133_4, f_133_6, f_134_1, f_134_2, f_134_3, f_134_4, f_134_5, f_134_6, f_134_7, f_134_8, f_143_1, f_143_2, f_146_1, f_146_2, f_151_0, f_151_1, f_151_2, f_151_3, f_151_4, f_151_6, f_152_1, f_152_2, f_152_3, f_152_4, f_152_5, f_152_6, f_152_7, f_152_8, f_161_1, f_161_2, f_164_1, f_164_2, f_169_0, f_169_1, f_169_2, f_169_3, f_169_4, f_169_6, f_170_1, f_170_2, f_170_3, f_170_4, f_170_5, f_170_6, f_170_7, f_170_8, f_179_1, f_179_2, f_182_1, f_182_2, f_187_0, f_187_1, f_187_2, f_187_3, f_187_4, f_187_6, f_188_1, f_188_2, f_188_3, f_188_4, f_188_5, f_188_6, f_188_7, f_188_8, f_197_1, f_197_2, f_200_1, f_200_2, f_205_6, f_207_0, f_207_1, f_207_2, f_207_4, f_207_8, f_207_9, f_207_10, f_207_11, f_207_15, kt_ki, kt_kix, kt_kv, kt_kvx, kt_kl, kt_klx, kt_kq, kt_kqx, h1, hsub, e1, e2, e3, hd1, hch, nI_leI, hx, ↓reduceIte]
        · simp (disch := first | exact id rfl | omega | exact Nat.le_of_ble_eq_true (id rfl) | exact Or.inl (id rfl) | exact Or.inr (id rfl) | exact zlt (z := 12) (id rfl) (by omega) | exact zlt (z := 603) (id rfl) (by omega) | exact zlt (z := 5) (id rfl) (by omega) | exact zlt (z := 2) (id rfl) (by omega) | exact zlt (z := 40) (id rfl) (by omega) | exact zlt (z := 96) (id rfl) (by omega) | exact zlt (z := 120) (id rfl) (by omega) | exact zlt (z := 240) (id rfl) (by omega) | exact zlt (z := 4824) (id rfl) (by omega) | exact zlt (z := 60) (id rfl) (by omega) | exact zlt (z := 8) (id rfl) (by omega) | exact zlt (z := 1) (id rfl) (by omega) | exact zle (z := 12) (id rfl) (by omega) | exact zle (z := 603) (id rfl) (by omega) | exact zle (z := 5) (id rfl) (by omega) | exact zle (z := 2) (id rfl) (by omega) | exact zle (z := 40) (id rfl) (by omega) | exact zle (z := 96) (id rfl) (by omega) | exact zle (z := 120) (id rfl) (by omega) | exact zle (z := 240) (id rfl) (by omega) | exact zle (z := 4824) (id rfl) (by omega) | exact zle (z := 60) (id rfl) (by omega) | exact zle (z := 8) (id rfl) (by omega) | exact zle (z := 1) (id rfl) (by omega)) only [q_40_0, q_40_1, q_40_2, q_40_4, q_40_6, q_40_9, q_40_11, q_40_13, q_40_15, q_40_16, q_40_18, q_40_19, q_40_22, q_40_23, q_40_24, q_40_25, q_40_27, q_40_28, q_40_29, q_40_30, q_40_31, q_40_34, q_40_36, q_40_37, q_40_40, q_40_41, q_40_44, q_40_45, q_40_48, q_40_49, q_40_52, q_40_53, q_40_54, q_40_55, q_40_56, q_40_58, q_40_61, q_40_62, q_40_65, q_40_66, q_40_69, q_40_72, q_40_75, q_40_76, q_40_77, q_40_80, q_40_82, q_40_85, q_40_86, q_40_89, q_40_93, q_40_96, q_40_97, q_40_100, q_40_103, q_40_106, q_40_108, q_40_109, q_40_112, q_40_114, q_40_115, q_40_116, q_40_119, q_40_120, q_40_123, q_40_125, q_40_126, q_40_127, q_40_130, q_40_131, q_40_134, q_40_136, q_40_137, q_40_138, q_40_141, q_40_142, q_40_145, q_40_147, q_40_148, q_40_150, q_40_153, q_40_154, q_40_157, q_40_159, q_40_160, q_40_162, q_40_165, q_40_166, q_40_169, q_40_171, q_40_172, q_40_173, q_40_176, q_40_177, q_40_178, q_40_181, q_40_184, q_40_186, f_0_0, f_0_1, f_0_2, f_0_4, f_0_5, f_1_0, f_1_1, f_1_2, f_5_0, f_5_1, f_5_2, f_5_3, f_5_4, f_5_6, f_6_1, f_6_2, f_6_3, f_6_4, f_6_5, f_6_6, f_6_7, f_6_8, f_15_1, f_15_2, f_18_1, f_18_2, f_23_0, f_23_1, f_23_2, f_23_3, f_23_4, f_23_6, f_24_1, f_24_2, f_24_3, f_24_4, f_24_5, f_24_6, f_24_7, f_24_8, f_33_1, f_33_2, f_36_1, f_36_2, f_41_0, f_41_1, f_41_2, f_41_3, f_41_4, f_41_6, f_42_1, f_42_2, f_42_3, f_42_4, f_42_5, f_42_6, f_42_7, f_42_8, f_51_1, f_51_2, f_54_1, f_54_2, f_59_0, f_60_0, f_60_1, f_60_2, f_60_3, f_60_4, f_60_5, f_60_6, f_60_7, f_61_0, f_61_1, f_61_2, f_61_3, f_61_4, f_61_6, f_62_1, f_62_2, f_62_3, f_62_4, f_62_5, f_62_6, f_62_7, f_62_8, f_71_1, f_71_2, f_74_1, f_74_2, f_79_0, f_79_1, f_79_2, f_79_3, f_79_4, f_79_6, f_80_1, f_80_2, f_80_3, f_80_4, f_80_5, f_80_6, f_80_7, f_80_8, f_89_1, f_89_2, f_92_1, f_92_2, f_97_0, f_97_1, f_97_2, f_97_3, f_97_4, f_97_6, f_98_1, f_98_2, f_98_3, f_98_4, f_98_5, f_98_6, f_98_7, f_98_8, f_107_1, f_107_2, f_110_1, f_110_2, f_115_0, f_115_1, f_115_2, f_115_3, f_115_4, f_115_6, f_116_1, f_116_2, f_116_3, f_116_4, f_116_5, f_116_6, f_116_7, f_116_8, f_125_1, f_125_2, f_128_1, f_128_2, f_133_0, f_133_1, f_133_2, f_133_3, f_133_4, f_133_6, f_134_1, f_134_2, f_134_3, f_134_4, f_134_5, f_134_6, f_134_7, f_134_8, f_143_1, f_143_2, f_146_1, f_146_2, f_151_0, f_151_1, f_151_2, f_151_3, f_151_4, f_151_6, f_152_1, f_152_2, f_152_3, f_152_4, f_152_5, f_152_6, f_152_7, f_152_8, f_161_1, f_161_2, f_164_1, f_164_2, f_169_0, f_169_1, f_169_2, f_169_3, f_169_4, f_169_6, f_170_1, f_170_2, f_170_3, f_170_4, f_170_5, f_170_6, f_170_7, f_170_8, f_179_1, f_179_2, f_182_1, f_182_2, f_187_0, f_187_1, f_187_2, f_187_3, f_187_4, f_187_6, f_188_1, f_188_2, f_188_3, f_188_4, f_188_5, f_188_6, f_188_7, f_188_8, f_197_1, f_197_2, f_200_1, f_200_2, f_205_6, f_207_0, f_207_1, f_207_2, f_207_4, f_207_8, f_207_9, f_207_10, f_207_11, f_207_15, kt_ki, kt_kix, kt_kv, kt_kvx, kt_kl, kt_klx, kt_kq, kt_kqx, h1, hsub, e1, e2, e3, hd1, hch, h4, ↓reduceIte]
      · have : (decide (a = nI 4) && decide (P < A)) = false := by
          rw [Bool.and_eq_false_iff, decide_eq_false_iff_not, decide_eq_false_iff_not]
          by_cases h4 : a = nI 4
          · exact Or.inr (fun q => hb ⟨h4, q⟩)
          · exact Or.inl h4
        unfold gLow
        rw [this, if_neg (by decide)]
        exact hl2
  obtain ⟨it3, hk1, hk2, hk3⟩ := key
  have hD3 : ∀ y, y < 12 → it3 2 y = nI (DV g n a b (A - P) y) := fun y hy => by rw [hk3 2 (by omega)]; exact hd4 y hy
  have hGc : ∀ y, y < 99 → y < 8 ∨ (10 ≤ y ∧ (y - 10) % 8 ≠ 0 ∧ (y - 8) % 8 ≠ 0) → gLow g n (DV g n a b (A - P)) p (g (99 + p) - nI P) (g 104 + nI P) (decide (a = nI 4) && decide (P < A)) y = g y := fun y h1 h2 => by
    unfold gLow
    split
    · rw [gBl_ne (by omega), gCh_ne (by omega), up1_ne (by omega), up1_ne (by omega)]
    · rw [gCh_ne (by omega), up1_ne (by omega), up1_ne (by omega)]
  have hG2 : it3 24 0 = nI n := by
    rw [hk2.1.2.1]
    unfold gLow
    split
    · rw [gBl_ne (by omega), gCh_ne (by omega), up1_ne (by omega), up1_ne (by omega)]; exact hg.1.1
    · rw [gCh_ne (by omega), up1_ne (by omega), up1_ne (by omega)]; exact hg.1.1
  have hG105 : it3 33 0 = nI c := by
    rw [hk2.1.2.2.1, gLow_hi hn hp (by omega)]
    exact hg.1.2.2.1
  -- concerned units are counted behind the five numbers
  have hcount : ∀ it5 : Nat → Nat → Int32, it5 24 = it3 24 → it5 25 = it3 25 → it5 26 = it3 26 → mCl 78 [.ref 24, .int a, .int b] (SS X, it5, lg', db, w) = some (.inl (some (.int (cncG g n a b))), (SS X, it5, lg', db, w)) := fun it5 q1 q2 q3 => by
    refine t_countConcerned_23 hn (by rw [q1]; exact hG2) (fun u hu => ⟨?_, ?_⟩)
    · rw [q2, ← hGc (3 + 8 * u + 0) (by omega) (by omega)]
      exact hk2.2.2.2.1 u hu 0 (by omega)
    · rw [q3, ← hGc (3 + 8 * u + 1) (by omega) (by omega)]
      exact hk2.2.2.2.1 u hu 1 (by omega)
  by_cases hfull : c = 20
  · subst hfull
    have hadd := h_costAddF_23 (X := X) (it := it3) (lg := lg') (db := db) (w := w) hG105
    have hf4 : ∀ x, x ≠ 33 → x ≠ 34 → x ≠ 35 → kA 23 (dO 23 it3) 19 x = it3 x := fun x q1 q2 q3 => funext fun y => by rw [kA_ne q1 q3, dO_ne q1 q2 q3]
    have hD4 : ∀ y, y < 12 → dO 23 it3 2 y = nI (DV g n a b (A - P) y) := fun y hy => by rw [dO_ne (by omega) (by omega) (by omega)]; exact hD3 y hy
    have hl4 := LR_KN (a := a) (b := b) (p := p) (A := A) (P := P) (D := DV g n a b (A - P)) (cnt := cncG g n a b) (LR_dO hk2 hn) hn (show 19 < 20 by omega) (by omega) hD4
    rw [gKN_105] at hl4
    have hc5 := hcount (puts 23 (kA 23 (dO 23 it3) 19) 19 (vKN a b p A P (cncG g n a b) (DV g n a b (A - P))) 5) (funext fun y => by rw [puts_ne (by omega), hf4 _ (by omega) (by omega) (by omega)]) (funext fun y => by rw [puts_ne (by omega), hf4 _ (by omega) (by omega) (by omega)]) (funext fun y => by rw [puts_ne (by omega), hf4 _ (by omega) (by omega) (by omega)])
    have hc5 : mCl 78 [.ref 24, .int a, .int b] (SS X, mm_up (mm_up (mm_up (mm_up (mm_up (kA 23 (dO 23 it3) 19) 34 (19 * 6 + 0) a) 34 (19 * 6 + 1) b) 34 (19 * 6 + 2) (nI p)) 34 (19 * 6 + 3) (nI A)) 34 (19 * 6 + 4) (nI P), lg', db, w) = some (.inl (some (.int (cncG g n a b))), (SS X, mm_up (mm_up (mm_up (mm_up (mm_up (kA 23 (dO 23 it3) 19) 34 (19 * 6 + 0) a) 34 (19 * 6 + 1) b) 34 (19 * 6 + 2) (nI p)) 34 (19 * 6 + 3) (nI A)) 34 (19 * 6 + 4) (nI P), lg', db, w)) := hc5
    refine ⟨puts 23 (kA 23 (dO 23 it3) 19) 19 (vKN a b p A P (cncG g n a b) (DV g n a b (A - P))) 6, lg', ?_, ?_, fun x h1 h2 h3 => ?_, hd3⟩
    · rw [hk1]
      simp (disch := first | exact id rfl | omega | exact Nat.le_of_ble_eq_true (id rfl) | exact Or.inl (id rfl) | exact Or.inr (id rfl) | exact zlt (z := 12) (id rfl) (by omega) | exact zlt (z := 603) (id rfl) (by omega) | exact zlt (z := 5) (id rfl) (by omega) | exact zlt (z := 2) (id rfl) (by omega) | exact zlt (z := 40) (id rfl) (by omega) | exact zlt (z := 96) (id rfl) (by omega) | exact zlt (z := 120) (id rfl) (by omega) | exact zlt (z := 240) (id rfl) (by omega) | exact zlt (z := 4824) (id rfl) (by omega) | exact zlt (z := 60) (id rfl) (by omega) | exact zlt (z := 8) (id rfl) (by omega) | exact zlt (z := 1) (id rfl) (by omega) | exact zle (z := 12) (id rfl) (by omega) | exact zle (z := 603) (id rfl) (by omega) | exact zle (z := 5) (id rfl) (by omega) | exact zle (z := 2) (id rfl) (by omega) | exact zle (z := 40) (id rfl) (by omega) | exact zle (z := 96) (id rfl) (by omega) | exact zle (z := 120) (id rfl) (by omega) | exact zle (z := 240) (id rfl) (by omega) | exact zle (z := 4824) (id rfl) (by omega) | exact zle (z := 60) (id rfl) (by omega) | exact zle (z := 8) (id rfl) (by omega) | exact zle (z := 1) (id rfl) (by omega)) only [q_40_6, q_40_9, q_40_11, q_40_13, q_40_15, q_40_16, q_40_18, q_40_19, q_40_22, q_40_23, q_40_24, q_40_25, q_40_27, q_40_28, q_40_29, q_40_30, q_40_31, q_40_34, q_40_36, q_40_37, q_40_40, q_40_41, q_40_44, q_40_45, q_40_48, q_40_49, q_40_52, q_40_53, q_40_54, q_40_55, q_40_56, q_40_58, q_40_61, q_40_62, q_40_65, q_40_66, q_40_69, q_40_72, q_40_75, q_40_76, q_40_77, q_40_80, q_40_82, q_40_85, q_40_86, q_40_89, q_40_92, q_40_93, q_40_96, q_40_97, q_40_100, q_40_103, q_40_106, q_40_108, q_40_109, q_40_112, q_40_114, q_40_115, q_40_116, q_40_119, q_40_120, q_40_123, q_40_125, q_40_126, q_40_127, q_40_130, q_40_131, q_40_134, q_40_136, q_40_137, q_40_138, q_40_141, q_40_142, q_40_145, q_40_147, q_40_148, q_40_150, q_40_153, q_40_154, q_40_157, q_40_159, q_40_160, q_40_162, q_40_165, q_40_166, q_40_169, q_40_171, q_40_172, q_40_173, q_40_176, q_40_177, q_40_178, q_40_181, q_40_184, q_40_186, f_0_0, f_0_1, f_0_2, f_0_4, f_0_5, f_1_0, f_1_1, f_1_2, f_5_0, f_5_1, f_5_2, f_5_3, f_5_4, f_5_6, f_6_1, f_6_2, f_6_3, f_6_4, f_6_5, f_6_6, f_6_7, f_6_8, f_15_1, f_15_2, f_18_1, f_18_2, f_23_0, f_23_1, f_23_2, f_23_3, f_23_4, f_23_6, f_24_1, f_24_2, f_24_3, f_24_4, f_24_5, f_24_6, f_24_7, f_24_8, f_33_1, f_33_2, f_36_1, f_36_2, f_41_0, f_41_1, f_41_2, f_41_3, f_41_4, f_41_6, f_42_1, f_42_2, f_42_3, f_42_4, f_42_5, f_42_6, f_42_7, f_42_8, f_51_1, f_51_2, f_54_1, f_54_2, f_59_0, f_60_0, f_60_1, f_60_2, f_60_3, f_60_4, f_60_5, f_60_6, f_60_7, f_61_0, f_61_1, f_61_2, f_61_3, f_61_4, f_61_6, f_62_1, f_62_2, f_62_3, f_62_4, f_62_5, f_62_6, f_62_7, f_62_8, f_71_1, f_71_2, f_74_1, f_74_2, f_79_0, f_79_1, f_79_2, f_79_3, f_79_4, f_79_6, f_80_1, f_80_2, f_80_3, f_80_4, f_80_5, f_80_6, f_80_7, f_80_8, f_89_1, f_89_2, f_92_1, f_92_2, f_97_0, f_97_1, f_97_2, f_97_3, f_97_4, f_97_6, f_98_1, f_98_2, f_98_3, f_98_4, f_98_5, f_98_6, f_98_7, f_98_8, f_107_1, f_107_2, f_110_1, f_110_2, f_115_0, f_115_1, f_115_2, f_115_3, f_115_4, f_115_6, f_116_1, f_116_2, f_116_3, f_116_4, f_116_5, f_116_6, f_116_7, f_116_8, f_125_1, f_125_2, f_128_1, f_128_2, f_133_0, f_133_1, f_133_2, f_133_3, f_133_4, f_133_6, f_134_1, f_134_2, f_134_3, f_134_4, f_134_5, f_134_6, f_134_7, f_134_8, f_143_1, f_143_2, f_146_1, f_146_2, f_151_0, f_151_1, f_151_2, f_151_3, f_151_4, f_151_6, f_152_1, f_152_2, f_152_3, f_152_4, f_152_5, f_152_6, f_152_7, f_152_8, f_161_1, f_161_2, f_164_1, f_164_2, f_169_0, f_169_1, f_169_2, f_169_3, f_169_4, f_169_6, f_170_1, f_170_2, f_170_3, f_170_4, f_170_5, f_170_6, f_170_7, f_170_8, f_179_1, f_179_2, f_182_1, f_182_2, f_187_0, f_187_1, f_187_2, f_187_3, f_187_4, f_187_6, f_188_1, f_188_2, f_188_3, f_188_4, f_188_5, f_188_6, f_188_7, f_188_8, f_197_1, f_197_2, f_200_1, f_200_2, f_205_6, f_207_0, f_207_1, f_207_2, f_207_4, f_207_8, f_207_9, f_207_10, f_207_11, f_207_15, kt_ki, kt_kix, kt_kv, kt_kvx, kt_kl, kt_klx, kt_kq, kt_kqx, hadd, h_putNumber_23, hc5]
      rfl
    · unfold gBK cB
      rw [if_pos rfl, if_pos rfl, if_pos rfl]
      exact hl4
    · refine (funext fun y => puts_ne (by omega)).trans ((hf4 x (by omega) (by omega) (by omega)).trans ((hk3 x h1).trans ((hd2 x h2 h3).trans (funext fun y => ?_))))
      rw [up_ne (by omega), up_ne (by omega)]
  · have hc20 : c < 20 := by omega
    have hadd := h_costAdd_23 (X := X) (it := it3) (lg := lg') (db := db) (w := w) hG105 hc20
    have hf4 : ∀ x, x ≠ 33 → x ≠ 34 → x ≠ 35 → kA 23 it3 c x = it3 x := fun x q1 q2 q3 => funext fun y => by rw [kA_ne q1 q3]
    have hl4 := LR_KN (a := a) (b := b) (p := p) (A := A) (P := P) (D := DV g n a b (A - P)) (cnt := cncG g n a b) hk2 hn hc20 (by omega) hD3
    have hc5 := hcount (puts 23 (kA 23 it3 c) c (vKN a b p A P (cncG g n a b) (DV g n a b (A - P))) 5) (funext fun y => by rw [puts_ne (by omega), hf4 _ (by omega) (by omega) (by omega)]) (funext fun y => by rw [puts_ne (by omega), hf4 _ (by omega) (by omega) (by omega)]) (funext fun y => by rw [puts_ne (by omega), hf4 _ (by omega) (by omega) (by omega)])
    have hc5 : mCl 78 [.ref 24, .int a, .int b] (SS X, mm_up (mm_up (mm_up (mm_up (mm_up (kA 23 it3 c) 34 (c * 6 + 0) a) 34 (c * 6 + 1) b) 34 (c * 6 + 2) (nI p)) 34 (c * 6 + 3) (nI A)) 34 (c * 6 + 4) (nI P), lg', db, w) = some (.inl (some (.int (cncG g n a b))), (SS X, mm_up (mm_up (mm_up (mm_up (mm_up (kA 23 it3 c) 34 (c * 6 + 0) a) 34 (c * 6 + 1) b) 34 (c * 6 + 2) (nI p)) 34 (c * 6 + 3) (nI A)) 34 (c * 6 + 4) (nI P), lg', db, w)) := hc5
    refine ⟨puts 23 (kA 23 it3 c) c (vKN a b p A P (cncG g n a b) (DV g n a b (A - P))) 6, lg', ?_, ?_, fun x h1 h2 h3 => ?_, hd3⟩
    · rw [hk1]
      simp (disch := first | exact id rfl | omega | exact Nat.le_of_ble_eq_true (id rfl) | exact Or.inl (id rfl) | exact Or.inr (id rfl) | exact zlt (z := 12) (id rfl) (by omega) | exact zlt (z := 603) (id rfl) (by omega) | exact zlt (z := 5) (id rfl) (by omega) | exact zlt (z := 2) (id rfl) (by omega) | exact zlt (z := 40) (id rfl) (by omega) | exact zlt (z := 96) (id rfl) (by omega) | exact zlt (z := 120) (id rfl) (by omega) | exact zlt (z := 240) (id rfl) (by omega) | exact zlt (z := 4824) (id rfl) (by omega) | exact zlt (z := 60) (id rfl) (by omega) | exact zlt (z := 8) (id rfl) (by omega) | exact zlt (z := 1) (id rfl) (by omega) | exact zle (z := 12) (id rfl) (by omega) | exact zle (z := 603) (id rfl) (by omega) | exact zle (z := 5) (id rfl) (by omega) | exact zle (z := 2) (id rfl) (by omega) | exact zle (z := 40) (id rfl) (by omega) | exact zle (z := 96) (id rfl) (by omega) | exact zle (z := 120) (id rfl) (by omega) | exact zle (z := 240) (id rfl) (by omega) | exact zle (z := 4824) (id rfl) (by omega) | exact zle (z := 60) (id rfl) (by omega) | exact zle (z := 8) (id rfl) (by omega) | exact zle (z := 1) (id rfl) (by omega)) only [q_40_6, q_40_9, q_40_11, q_40_13, q_40_15, q_40_16, q_40_18, q_40_19, q_40_22, q_40_23, q_40_24, q_40_25, q_40_27, q_40_28, q_40_29, q_40_30, q_40_31, q_40_34, q_40_36, q_40_37, q_40_40, q_40_41, q_40_44, q_40_45, q_40_48, q_40_49, q_40_52, q_40_53, q_40_54, q_40_55, q_40_56, q_40_58, q_40_61, q_40_62, q_40_65, q_40_66, q_40_69, q_40_72, q_40_75, q_40_76, q_40_77, q_40_80, q_40_82, q_40_85, q_40_86, q_40_89, q_40_92, q_40_93, q_40_96, q_40_97, q_40_100, q_40_103, q_40_106, q_40_108, q_40_109, q_40_112, q_40_114, q_40_115, q_40_116, q_40_119, q_40_120, q_40_123, q_40_125, q_40_126, q_40_127, q_40_130, q_40_131, q_40_134, q_40_136, q_40_137, q_40_138, q_40_141, q_40_142, q_40_145, q_40_147, q_40_148, q_40_150, q_40_153, q_40_154, q_40_157, q_40_159, q_40_160, q_40_162, q_40_165, q_40_166, q_40_169, q_40_171, q_40_172, q_40_173, q_40_176, q_40_177, q_40_178, q_40_181, q_40_184, q_40_186, f_0_0, f_0_1, f_0_2, f_0_4, f_0_5, f_1_0, f_1_1, f_1_2, f_5_0, f_5_1, f_5_2, f_5_3, f_5_4, f_5_6, f_6_1, f_6_2, f_6_3, f_6_4, f_6_5, f_6_6, f_6_7, f_6_8, f_15_1, f_15_2, f_18_1, f_18_2, f_23_0, f_23_1, f_23_2, f_23_3, f_23_4, f_23_6, f_24_1, f_24_2, f_24_3, f_24_4, f_24_5, f_24_6, f_24_7, f_24_8, f_33_1, f_33_2, f_36_1, f_36_2, f_41_0, f_41_1, f_41_2, f_41_3, f_41_4, f_41_6, f_42_1, f_42_2, f_42_3, f_42_4, f_42_5, f_42_6, f_42_7, f_42_8, f_51_1, f_51_2, f_54_1, f_54_2, f_59_0, f_60_0, f_60_1, f_60_2, f_60_3, f_60_4, f_60_5, f_60_6, f_60_7, f_61_0, f_61_1, f_61_2, f_61_3, f_61_4, f_61_6, f_62_1, f_62_2, f_62_3, f_62_4, f_62_5, f_62_6, f_62_7, f_62_8, f_71_1, f_71_2, f_74_1, f_74_2, f_79_0, f_79_1, f_79_2, f_79_3, f_79_4, f_79_6, f_80_1, f_80_2, f_80_3, f_80_4, f_80_5, f_80_6, f_80_7, f_80_8, f_89_1, f_89_2, f_92_1, f_92_2, f_97_0, f_97_1, f_97_2, f_97_3, f_97_4, f_97_6, f_98_1, f_98_2, f_98_3, f_98_4, f_98_5, f_98_6, f_98_7, f_98_8, f_107_1, f_107_2, f_110_1, f_110_2, f_115_0, f_115_1, f_115_2, f_115_3, f_115_4, f_115_6, f_116_1, f_116_2, f_116_3, f_116_4, f_116_5, f_116_6, f_116_7, f_116_8, f_125_1, f_125_2, f_128_1, f_128_2, f_133_0, f_133_1, f_133_2, f_133_3, f_133_4, f_133_6, f_134_1, f_134_2, f_134_3, f_134_4, f_134_5, f_134_6, f_134_7, f_134_8, f_143_1, f_143_2, f_146_1, f_146_2, f_151_0, f_151_1, f_151_2, f_151_3, f_151_4, f_151_6, f_152_1, f_152_2, f_152_3, f_152_4, f_152_5, f_152_6, f_152_7, f_152_8, f_161_1, f_161_2, f_164_1, f_164_2, f_169_0, f_169_1, f_169_2, f_169_3, f_169_4, f_169_6, f_170_1, f_170_2, f_170_3, f_170_4, f_170_5, f_170_6, f_170_7, f_170_8, f_179_1, f_179_2, f_182_1, f_182_2, f_187_0, f_187_1, f_187_2, f_187_3, f_187_4, f_187_6, f_188_1, f_188_2, f_188_3, f_188_4, f_188_5, f_188_6, f_188_7, f_188_8, f_197_1, f_197_2, f_200_1, f_200_2, f_205_6, f_207_0, f_207_1, f_207_2, f_207_4, f_207_8, f_207_9, f_207_10, f_207_11, f_207_15, kt_ki, kt_kix, kt_kv, kt_kvx, kt_kl, kt_klx, kt_kq, kt_kqx, hadd, h_putNumber_23, hc5]
      rfl
    · unfold gBK cB
      rw [if_neg hfull, if_neg hfull, if_neg hfull]
      exact hl4
    · refine (funext fun y => puts_ne (by omega)).trans ((hf4 x (by omega) (by omega) (by omega)).trans ((hk3 x h1).trans ((hd2 x h2 h3).trans (funext fun y => ?_))))
      rw [up_ne (by omega), up_ne (by omega)]
end S38
