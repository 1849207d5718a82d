-- ===== single changes of a ledger and its row =====
/-- the bills of the units below i -/
def gBl (g : Nat → Int32) (i : Nat) : Nat → Int32 := fun y => if 8 ≤ y ∧ y < 8 + 8 * i ∧ (y - 8) % 8 = 0 then g (y - 1) else g y
def gDr (g : Nat → Int32) : Nat → Int32 := fun y => if 106 ≤ y ∧ y < 448 then g (y + 18) else g y
/-- a cost more, at place k -/
def gKN (g : Nat → Int32) (k : Nat) (v : Nat → Int32) : Nat → Int32 := fun y => if y = 105 then nI (k + 1) else if 106 + 18 * k ≤ y ∧ y < 124 + 18 * k then v (y - (106 + 18 * k)) else g y
/-- a unit more -/
def gAU (g : Nat → Int32) (n : Nat) (v : Nat → Int32) : Nat → Int32 := fun y => if y = 2 then nI (n + 1) else if 3 + 8 * n ≤ y ∧ y < 11 + 8 * n then v (y - (3 + 8 * n)) else g y
/-- a motion more -/
def gMN (g : Nat → Int32) (k : Nat) (v : Nat → Int32) : Nat → Int32 := fun y => if y = 466 then nI (k + 1) else if 467 + 17 * k ≤ y ∧ y < 484 + 17 * k then v (y - (467 + 17 * k)) else g y
section S32
variable {X : Nat × (Nat → Int32)} {it it' : Nat → Nat → Int32} {lg : Nat → Nat → Int64} {db : Nat → Nat → UInt64} {w : Nat × Nat} {B u n c m k i j p q s x y r o A P : Nat} {g g' G : Nat → Int32} {a b d e v : Int32} {D : Nat → Nat}
theorem LR_u (hl : LR B it g n c m) (hn : n ≤ 12) (hu : u < n) (hi : i < 8) : LR B (mm_up it (B + 2 + i) u v) (up1 g (3 + 8 * u + i) v) n c m := by
  obtain ⟨⟨h1, h2, h3, h4⟩, h5, h6, h7, h8, h9⟩ := hl
  refine ⟨⟨?_, ?_, ?_, ?_⟩, fun p hp => ?_, fun s hs => ?_, fun u' hu' i' hi' => ?_, fun k hk => ⟨fun j hj => ?_, fun j hj => ?_⟩, fun k hk => ⟨fun j hj => ?_, fun j hj => ?_⟩⟩
  · rw [up_ne (by omega), up1_ne (by omega)]; exact h1
  · rw [up_ne (by omega), up1_ne (by omega)]; exact h2
  · rw [up_ne (by omega), up1_ne (by omega)]; exact h3
  · rw [up_ne (by omega), up1_ne (by omega)]; exact h4
  · rw [up_ne (by omega), up1_ne (by omega)]; exact h5 p hp
  · rw [up_ne (by omega), up1_ne (by omega)]; exact h6 s hs
  · by_cases e1 : i' = i
    · by_cases e2 : u' = u
      · rw [e1, e2, up_in, up1_in]
      · rw [e1, up_nk e2, up1_ne (by omega), ← e1]; exact h7 u' hu' i' hi'
    · rw [up_ne (by omega), up1_ne (by omega)]; exact h7 u' hu' i' hi'
  · rw [up_ne (by omega), up1_ne (by omega)]; exact (h8 k hk).1 j hj
  · rw [up_ne (by omega), up1_ne (by omega)]; exact (h8 k hk).2 j hj
  · rw [up_ne (by omega), up1_ne (by omega)]; exact (h9 k hk).1 j hj
  · rw [up_ne (by omega), up1_ne (by omega)]; exact (h9 k hk).2 j hj
theorem LR_s (hl : LR B it g n c m) (hn : n ≤ 12) (hs : s < 2) : LR B (mm_up it (B + 17) s v) (up1 g s v) n c m := by
  obtain ⟨⟨h1, h2, h3, h4⟩, h5, h6, h7, h8, h9⟩ := hl
  refine ⟨⟨?_, ?_, ?_, ?_⟩, fun p hp => ?_, fun s' hs => ?_, fun u' hu' i' hi' => ?_, fun k hk => ⟨fun j hj => ?_, fun j hj => ?_⟩, fun k hk => ⟨fun j hj => ?_, fun j hj => ?_⟩⟩
  · rw [up_ne (by omega), up1_ne (by omega)]; exact h1
  · rw [up_ne (by omega), up1_ne (by omega)]; exact h2
  · rw [up_ne (by omega), up1_ne (by omega)]; exact h3
  · rw [up_ne (by omega), up1_ne (by omega)]; exact h4
  · rw [up_ne (by omega), up1_ne (by omega)]; exact h5 p hp
  · by_cases e2 : s' = s
    · rw [e2, up_in, up1_in]
    · rw [up_nk e2, up1_ne (by omega)]; exact h6 s' hs
  · rw [up_ne (by omega), up1_ne (by omega)]; exact h7 u' hu' i' hi'
  · rw [up_ne (by omega), up1_ne (by omega)]; exact (h8 k hk).1 j hj
  · rw [up_ne (by omega), up1_ne (by omega)]; exact (h8 k hk).2 j hj
  · rw [up_ne (by omega), up1_ne (by omega)]; exact (h9 k hk).1 j hj
  · rw [up_ne (by omega), up1_ne (by omega)]; exact (h9 k hk).2 j hj
theorem LR_f (hl : LR B it g n c m) (hn : n ≤ 12) (hp : p < 5) : LR B (mm_up it (B + 16) p v) (up1 g (99 + p) v) n c m := by
  obtain ⟨⟨h1, h2, h3, h4⟩, h5, h6, h7, h8, h9⟩ := hl
  refine ⟨⟨?_, ?_, ?_, ?_⟩, fun p' hp' => ?_, fun s' hs => ?_, fun u' hu' i' hi' => ?_, fun k hk => ⟨fun j hj => ?_, fun j hj => ?_⟩, fun k hk => ⟨fun j hj => ?_, fun j hj => ?_⟩⟩
  · rw [up_ne (by omega), up1_ne (by omega)]; exact h1
  · rw [up_ne (by omega), up1_ne (by omega)]; exact h2
  · rw [up_ne (by omega), up1_ne (by omega)]; exact h3
  · rw [up_ne (by omega), up1_ne (by omega)]; exact h4
  · by_cases e2 : p' = p
    · rw [e2, up_in, up1_in]
    · rw [up_nk e2, up1_ne (by omega)]; exact h5 p' hp'
  · rw [up_ne (by omega), up1_ne (by omega)]; exact h6 s' hs
  · rw [up_ne (by omega), up1_ne (by omega)]; exact h7 u' hu' i' hi'
  · rw [up_ne (by omega), up1_ne (by omega)]; exact (h8 k hk).1 j hj
  · rw [up_ne (by omega), up1_ne (by omega)]; exact (h8 k hk).2 j hj
  · rw [up_ne (by omega), up1_ne (by omega)]; exact (h9 k hk).1 j hj
  · rw [up_ne (by omega), up1_ne (by omega)]; exact (h9 k hk).2 j hj
theorem LR_t (hl : LR B it g n c m) (hn : n ≤ 12) : LR B (mm_up it B 5 v) (up1 g 104 v) n c m := by
  obtain ⟨⟨h1, h2, h3, h4⟩, h5, h6, h7, h8, h9⟩ := hl
  refine ⟨⟨?_, ?_, ?_, ?_⟩, fun p' hp' => ?_, fun s' hs => ?_, fun u' hu' i' hi' => ?_, fun k hk => ⟨fun j hj => ?_, fun j hj => ?_⟩, fun k hk => ⟨fun j hj => ?_, fun j hj => ?_⟩⟩
  · rw [up_in, up1_in]
  · rw [up_ne (by omega), up1_ne (by omega)]; exact h2
  · rw [up_ne (by omega), up1_ne (by omega)]; exact h3
  · rw [up_ne (by omega), up1_ne (by omega)]; exact h4
  · rw [up_ne (by omega), up1_ne (by omega)]; exact h5 p' hp'
  · rw [up_ne (by omega), up1_ne (by omega)]; exact h6 s' hs
  · rw [up_ne (by omega), up1_ne (by omega)]; exact h7 u' hu' i' hi'
  · rw [up_ne (by omega), up1_ne (by omega)]; exact (h8 k hk).1 j hj
  · rw [up_ne (by omega), up1_ne (by omega)]; exact (h8 k hk).2 j hj
  · rw [up_ne (by omega), up1_ne (by omega)]; exact (h9 k hk).1 j hj
  · rw [up_ne (by omega), up1_ne (by omega)]; exact (h9 k hk).2 j hj
theorem LR_v (hl : LR B it g n c m) (hn : n ≤ 12) (hc : c ≤ 20) (hk : k < m) (hu : u < 12) : LR B (mm_up it (B + 15) (k * 12 + u) v) (up1 g (467 + 17 * k + (5 + u)) v) n c m := by
  obtain ⟨⟨h1, h2, h3, h4⟩, h5, h6, h7, h8, h9⟩ := hl
  refine ⟨⟨?_, ?_, ?_, ?_⟩, fun p' hp' => ?_, fun s' hs => ?_, fun u' hu' i' hi' => ?_, fun k' hk' => ⟨fun j hj => ?_, fun j hj => ?_⟩, fun k' hk' => ⟨fun j hj => ?_, fun j hj => ?_⟩⟩
  · rw [up_ne (by omega), up1_ne (by omega)]; exact h1
  · rw [up_ne (by omega), up1_ne (by omega)]; exact h2
  · rw [up_ne (by omega), up1_ne (by omega)]; exact h3
  · rw [up_ne (by omega), up1_ne (by omega)]; exact h4
  · rw [up_ne (by omega), up1_ne (by omega)]; exact h5 p' hp'
  · rw [up_ne (by omega), up1_ne (by omega)]; exact h6 s' hs
  · rw [up_ne (by omega), up1_ne (by omega)]; exact h7 u' hu' i' hi'
  · rw [up_ne (by omega), up1_ne (by omega)]; exact (h8 k' hk').1 j hj
  · rw [up_ne (by omega), up1_ne (by omega)]; exact (h8 k' hk').2 j hj
  · rw [up_ne (by omega), up1_ne (by omega)]; exact (h9 k' hk').1 j hj
  · by_cases e : k' = k ∧ j = u
    · rw [e.1, e.2, up_in, up1_in]
    · rw [up_nk (by omega), up1_ne (by omega)]; exact (h9 k' hk').2 j hj
theorem LR_m (hl : LR B it g n c m) (hn : n ≤ 12) (hc : c ≤ 20) (hk : k < m) (hi : i < 5) : LR B (mm_up it (B + 14) (k * 5 + i) v) (up1 g (467 + 17 * k + i) v) n c m := by
  obtain ⟨⟨h1, h2, h3, h4⟩, h5, h6, h7, h8, h9⟩ := hl
  refine ⟨⟨?_, ?_, ?_, ?_⟩, fun p' hp' => ?_, fun s' hs => ?_, fun u' hu' i' hi' => ?_, fun k' hk' => ⟨fun j hj => ?_, fun j hj => ?_⟩, fun k' hk' => ⟨fun j hj => ?_, fun j hj => ?_⟩⟩
  · rw [up_ne (by omega), up1_ne (by omega)]; exact h1
  · rw [up_ne (by omega), up1_ne (by omega)]; exact h2
  · rw [up_ne (by omega), up1_ne (by omega)]; exact h3
  · rw [up_ne (by omega), up1_ne (by omega)]; exact h4
  · rw [up_ne (by omega), up1_ne (by omega)]; exact h5 p' hp'
  · rw [up_ne (by omega), up1_ne (by omega)]; exact h6 s' hs
  · rw [up_ne (by omega), up1_ne (by omega)]; exact h7 u' hu' i' hi'
  · rw [up_ne (by omega), up1_ne (by omega)]; exact (h8 k' hk').1 j hj
  · rw [up_ne (by omega), up1_ne (by omega)]; exact (h8 k' hk').2 j hj
  · by_cases e : k' = k ∧ j = i
    · rw [e.1, e.2, up_in, up1_in]
    · rw [up_nk (by omega), up1_ne (by omega)]; exact (h9 k' hk').1 j hj
  · rw [up_ne (by omega), up1_ne (by omega)]; exact (h9 k' hk').2 j hj
theorem LR_c (hl : LR B it g n c m) (hn : n ≤ 12) (hB : 2 < B) (hD : ∀ y, y < n → it 2 y = nI (D y)) : LR B (chg B it n) (gCh g D n) n c m := by
  obtain ⟨⟨h1, h2, h3, h4⟩, h5, h6, h7, h8, h9⟩ := hl
  have hne : ∀ x y, x ≠ B + 9 → chg B it n x y = it x y := fun x y h => if_neg (fun q => h q.1)
  refine ⟨⟨?_, ?_, ?_, ?_⟩, fun p' hp' => ?_, fun s' hs => ?_, fun u' hu' i' hi' => ?_, fun k' hk' => ⟨fun j hj => ?_, fun j hj => ?_⟩, fun k' hk' => ⟨fun j hj => ?_, fun j hj => ?_⟩⟩
  · rw [hne _ _ (by omega), gCh_ne (by omega)]; exact h1
  · rw [hne _ _ (by omega), gCh_ne (by omega)]; exact h2
  · rw [hne _ _ (by omega), gCh_ne (by omega)]; exact h3
  · rw [hne _ _ (by omega), gCh_ne (by omega)]; exact h4
  · rw [hne _ _ (by omega), gCh_ne (by omega)]; exact h5 p' hp'
  · rw [hne _ _ (by omega), gCh_ne (by omega)]; exact h6 s' hs
  · by_cases e : i' = 7
    · rw [e, gCh_7 hu', show B + 2 + 7 = B + 9 by omega]
      unfold chg
      rw [if_pos ⟨rfl, hu'⟩, hD u' hu']
      have := h7 u' hu' 7 (by omega)
      rw [show B + 2 + 7 = B + 9 by omega] at this
      rw [this]
    · rw [hne _ _ (by omega), gCh_ne (by omega)]; exact h7 u' hu' i' hi'
  · rw [hne _ _ (by omega), gCh_ne (by omega)]; exact (h8 k' hk').1 j hj
  · rw [hne _ _ (by omega), gCh_ne (by omega)]; exact (h8 k' hk').2 j hj
  · rw [hne _ _ (by omega), gCh_ne (by omega)]; exact (h9 k' hk').1 j hj
  · rw [hne _ _ (by omega), gCh_ne (by omega)]; exact (h9 k' hk').2 j hj
theorem gBl_ne (h : y < 8 ∨ 8 + 8 * i ≤ y ∨ (y - 8) % 8 ≠ 0) : gBl g i y = g y := if_neg (by omega)
theorem gBl_5 (h : u < i) : gBl g i (3 + 8 * u + 5) = g (3 + 8 * u + 4) := by
  unfold gBl
  rw [if_pos (by omega)]
  congr 1
theorem LR_b (hl : LR B it g n c m) (hn : n ≤ 12) : LR B (mm_cp it (B + 6) (B + 7) 0 0 12) (gBl g n) n c m := by
  obtain ⟨⟨h1, h2, h3, h4⟩, h5, h6, h7, h8, h9⟩ := hl
  refine ⟨⟨?_, ?_, ?_, ?_⟩, fun p' hp' => ?_, fun s' hs => ?_, fun u' hu' i' hi' => ?_, fun k' hk' => ⟨fun j hj => ?_, fun j hj => ?_⟩, fun k' hk' => ⟨fun j hj => ?_, fun j hj => ?_⟩⟩
  · rw [cp_ne (by omega), gBl_ne (by omega)]; exact h1
  · rw [cp_ne (by omega), gBl_ne (by omega)]; exact h2
  · rw [cp_ne (by omega), gBl_ne (by omega)]; exact h3
  · rw [cp_ne (by omega), gBl_ne (by omega)]; exact h4
  · rw [cp_ne (by omega), gBl_ne (by omega)]; exact h5 p' hp'
  · rw [cp_ne (by omega), gBl_ne (by omega)]; exact h6 s' hs
  · by_cases e : i' = 5
    · have := h7 u' hu' 4 (by omega)
      rw [e, gBl_5 hu', show B + 2 + 5 = B + 7 by omega, cp_in (by omega), ← this, show B + 2 + 4 = B + 6 by omega]
    · rw [cp_ne (by omega), gBl_ne (by omega)]; exact h7 u' hu' i' hi'
  · rw [cp_ne (by omega), gBl_ne (by omega)]; exact (h8 k' hk').1 j hj
  · rw [cp_ne (by omega), gBl_ne (by omega)]; exact (h8 k' hk').2 j hj
  · rw [cp_ne (by omega), gBl_ne (by omega)]; exact (h9 k' hk').1 j hj
  · rw [cp_ne (by omega), gBl_ne (by omega)]; exact (h9 k' hk').2 j hj
-- what the invariants allow
theorem GI_s (hg : GI g n c m) (hs : s < 2) (hv : A ≤ 100) : GI (up1 g s (nI A)) n c m := by
  obtain ⟨⟨e1, e2, e3, e4, e5, e6⟩, a2, a3, a4, a5, ⟨F, hF, hFb⟩, ⟨F2, hF2, hFb2⟩⟩ := hg
  have h : ∀ y, 2 ≤ y → up1 g s (nI A) y = g y := fun y hy => up1_ne (by omega)
  refine ⟨⟨by rw [h _ (by omega)]; exact e1, e2, by rw [h _ (by omega)]; exact e3, e4, by rw [h _ (by omega)]; exact e5, e6⟩, fun s' hs' => ?_, fun p hp => by rw [h _ (by omega)]; exact a3 p hp, fun u hu => GU_congr (fun i hi => h _ (by omega)) (a4 u hu), fun k hk => GM_congr (fun i hi => h _ (by omega)) (fun u hu => ⟨h _ (by omega), h _ (by omega)⟩) (a5 k hk), ⟨F, fun u hu => by rw [h _ (by omega)]; exact hF u hu, hFb⟩, ⟨F2, fun u hu => by rw [h _ (by omega)]; exact hF2 u hu, hFb2⟩⟩
  by_cases e : s' = s
  · exact ⟨A, hv, by rw [e]; exact up1_in⟩
  · rw [up1_ne e]
    exact a2 s' hs'
theorem GI_f (hg : GI g n c m) (hp : p < 5) (hv : A ≤ 99999999) : GI (up1 g (99 + p) (nI A)) n c m := by
  obtain ⟨⟨e1, e2, e3, e4, e5, e6⟩, a2, a3, a4, a5, ⟨F, hF, hFb⟩, ⟨F2, hF2, hFb2⟩⟩ := hg
  have h : ∀ y, y < 99 ∨ 104 ≤ y → up1 g (99 + p) (nI A) y = g y := fun y hy => up1_ne (by omega)
  refine ⟨⟨by rw [h _ (by omega)]; exact e1, e2, by rw [h _ (by omega)]; exact e3, e4, by rw [h _ (by omega)]; exact e5, e6⟩, fun s hs => by rw [h _ (by omega)]; exact a2 s hs, fun p' hp' => ?_, fun u hu => GU_congr (fun i hi => h _ (by omega)) (a4 u hu), fun k hk => GM_congr (fun i hi => h _ (by omega)) (fun u hu => ⟨h _ (by omega), h _ (by omega)⟩) (a5 k hk), ⟨F, fun u hu => by rw [h _ (by omega)]; exact hF u hu, hFb⟩, ⟨F2, fun u hu => by rw [h _ (by omega)]; exact hF2 u hu, hFb2⟩⟩
  by_cases e : p' = p
  · exact ⟨A, hv, by rw [e]; exact up1_in⟩
  · rw [up1_ne (by omega)]
    exact a3 p' hp'
theorem GI_t (hg : GI g n c m) : GI (up1 g 104 v) n c m := by
  obtain ⟨⟨e1, e2, e3, e4, e5, e6⟩, a2, a3, a4, a5, ⟨F, hF, hFb⟩, ⟨F2, hF2, hFb2⟩⟩ := hg
  have h : ∀ y, y ≠ 104 → up1 g 104 v y = g y := fun y hy => up1_ne hy
  exact ⟨⟨by rw [h _ (by omega)]; exact e1, e2, by rw [h _ (by omega)]; exact e3, e4, by rw [h _ (by omega)]; exact e5, e6⟩, fun s hs => by rw [h _ (by omega)]; exact a2 s hs, fun p' hp' => by rw [h _ (by omega)]; exact a3 p' hp', fun u hu => GU_congr (fun i hi => h _ (by omega)) (a4 u hu), fun k hk => GM_congr (fun i hi => h _ (by omega)) (fun u hu => ⟨h _ (by omega), h _ (by omega)⟩) (a5 k hk), ⟨F, fun u hu => by rw [h _ (by omega)]; exact hF u hu, hFb⟩, ⟨F2, fun u hu => by rw [h _ (by omega)]; exact hF2 u hu, hFb2⟩⟩
theorem GI_m (hg : GI g n c m) (hk : k < m) (hi : 4 ≤ i) (hi2 : i < 17) : GI (up1 g (467 + 17 * k + i) v) n c m := GI_congr hg (fun y hy => up1_ne (by omega)) (up1_ne (by omega)) (fun k' hk' i' hi' => up1_ne (by omega))
theorem GI_o (hg : GI g n c m) (hu : u < n) (hv : A ≤ 7) : GI (up1 g (3 + 8 * u + 3) (nI A)) n c m := by
  obtain ⟨⟨e1, e2, e3, e4, e5, e6⟩, a2, a3, a4, a5, ⟨F, hF, hFb⟩, ⟨F2, hF2, hFb2⟩⟩ := hg
  have h : ∀ y, y ≠ 3 + 8 * u + 3 → up1 g (3 + 8 * u + 3) (nI A) y = g y := fun y hy => up1_ne hy
  refine ⟨⟨by rw [h _ (by omega)]; exact e1, e2, by rw [h _ (by omega)]; exact e3, e4, by rw [h _ (by omega)]; exact e5, e6⟩, fun s hs => by rw [h _ (by omega)]; exact a2 s hs, fun p' hp' => by rw [h _ (by omega)]; exact a3 p' hp', fun u' hu' => ?_, fun k hk => GM_congr (fun i hi => h _ (by omega)) (fun u hu => ⟨h _ (by omega), h _ (by omega)⟩) (a5 k hk), ⟨F, fun u hu => by rw [h _ (by omega)]; exact hF u hu, hFb⟩, ⟨F2, fun u hu => by rw [h _ (by omega)]; exact hF2 u hu, hFb2⟩⟩
  by_cases e : u' = u
  · obtain ⟨b0, b1, b2, b3, r, b, b4, b5, b6, b7⟩ := a4 u' hu'
    unfold GU
    rw [h _ (by omega), h _ (by omega), h (3 + 8 * u' + 2) (by omega), h (3 + 8 * u' + 4) (by omega), h (3 + 8 * u' + 5) (by omega)]
    exact ⟨b0, b1, b2, ⟨A, hv, by rw [e]; exact up1_in⟩, r, b, b4, b5, b6, b7⟩
  · exact GU_congr (fun i hi => h _ (by omega)) (a4 u' hu')
theorem GI_r (hg : GI g n c m) (hu : u < n) (h0 : g (3 + 8 * u + 4) ≤ nI A) (hv : A ≤ 99999) : GI (up1 g (3 + 8 * u + 4) (nI A)) n c m := by
  obtain ⟨⟨e1, e2, e3, e4, e5, e6⟩, a2, a3, a4, a5, ⟨F, hF, hFb⟩, ⟨F2, hF2, hFb2⟩⟩ := hg
  have h : ∀ y, y ≠ 3 + 8 * u + 4 → up1 g (3 + 8 * u + 4) (nI A) y = g y := fun y hy => up1_ne hy
  refine ⟨⟨by rw [h _ (by omega)]; exact e1, e2, by rw [h _ (by omega)]; exact e3, e4, by rw [h _ (by omega)]; exact e5, e6⟩, fun s hs => by rw [h _ (by omega)]; exact a2 s hs, fun p' hp' => by rw [h _ (by omega)]; exact a3 p' hp', fun u' hu' => ?_, fun k hk => GM_congr (fun i hi => h _ (by omega)) (fun u hu => ⟨h _ (by omega), h _ (by omega)⟩) (a5 k hk), ⟨F, fun u hu => by rw [h _ (by omega)]; exact hF u hu, hFb⟩, ⟨F2, fun u hu => by rw [h _ (by omega)]; exact hF2 u hu, hFb2⟩⟩
  by_cases e : u' = u
  · obtain ⟨b0, b1, b2, b3, r, b, b4, b5, b6, b7⟩ := a4 u' hu'
    unfold GU
    rw [h _ (by omega), h _ (by omega), h (3 + 8 * u' + 2) (by omega), h (3 + 8 * u' + 3) (by omega), h (3 + 8 * u' + 5) (by omega)]
    rw [e] at b6
    rw [b6, nI_leI (by omega) (by omega)] at h0
    exact ⟨b0, b1, b2, b3, A, b, by omega, hv, by rw [e]; exact up1_in, b7⟩
  · exact GU_congr (fun i hi => h _ (by omega)) (a4 u' hu')
theorem GI_p (hg : GI g n c m) (hu : u < n) {F : Nat → Nat} (hF : ∀ u, u < n → g (3 + 8 * u + 6) = nI (F u)) (hb : sN F n + A ≤ 999999999) : GI (up1 g (3 + 8 * u + 6) (nI (F u + A))) n c m := by
  obtain ⟨⟨e1, e2, e3, e4, e5, e6⟩, a2, a3, a4, a5, -, ⟨F2, hF2, hFb2⟩⟩ := hg
  have h : ∀ y, y ≠ 3 + 8 * u + 6 → up1 g (3 + 8 * u + 6) (nI (F u + A)) y = g y := fun y hy => up1_ne hy
  refine ⟨⟨by rw [h _ (by omega)]; exact e1, e2, by rw [h _ (by omega)]; exact e3, e4, by rw [h _ (by omega)]; exact e5, e6⟩, fun s hs => by rw [h _ (by omega)]; exact a2 s hs, fun p' hp' => by rw [h _ (by omega)]; exact a3 p' hp', fun u' hu' => GU_congr (fun i hi => h _ (by omega)) (a4 u' hu'), fun k hk => GM_congr (fun i hi => h _ (by omega)) (fun u hu => ⟨h _ (by omega), h _ (by omega)⟩) (a5 k hk), ⟨fun y => if y = u then F y + A else F y, fun u' hu' => ?_, ?_⟩, ⟨F2, fun u hu => by rw [h _ (by omega)]; exact hF2 u hu, hFb2⟩⟩
  · dsimp only
    by_cases e : u' = u
    · rw [e, up1_in, if_pos rfl]
    · rw [h _ (by omega), if_neg e]
      exact hF u' hu'
  · have key : ∀ k, sN (fun y => if y = u then F y + A else F y) k ≤ sN F k + A := fun k => by
      have h2 : ∀ k, k ≤ u → sN (fun y => if y = u then F y + A else F y) k = sN F k := fun k hk => sN_congr (fun i hi => if_neg (by omega))
      induction k with
      | zero => exact Nat.le_add_right _ _
      | succ k ih =>
        rw [sN, sN]
        by_cases e : k = u
        · rw [if_pos e, h2 k (by omega)]
          omega
        · rw [if_neg e]
          omega
    exact Nat.le_trans (key n) hb
theorem GI_c (hg : GI g n c m) {F : Nat → Nat} (hF : ∀ u, u < n → g (3 + 8 * u + 7) = nI (F u)) (hb : sN F n + sN D n ≤ 999999999) : GI (gCh g D n) n c m := by
  have hn := hg.1.2.1
  obtain ⟨⟨e1, e2, e3, e4, e5, e6⟩, a2, a3, a4, a5, ⟨F1, hF1, hFb1⟩, -⟩ := hg
  have h : ∀ y, y < 10 ∨ 10 + 8 * n ≤ y ∨ (y - 10) % 8 ≠ 0 → gCh g D n y = g y := fun y hy => gCh_ne hy
  refine ⟨⟨by rw [h _ (by omega)]; exact e1, e2, by rw [h _ (by omega)]; exact e3, e4, by rw [h _ (by omega)]; exact e5, e6⟩, fun s hs => by rw [h _ (by omega)]; exact a2 s hs, fun p' hp' => by rw [h _ (by omega)]; exact a3 p' hp', fun u' hu' => GU_congr (fun i hi => h _ (by omega)) (a4 u' hu'), fun k hk => GM_congr (fun i hi => h _ (by omega)) (fun u hu => ⟨h _ (by omega), h _ (by omega)⟩) (a5 k hk), ⟨F1, fun u hu => by rw [h _ (by omega)]; exact hF1 u hu, hFb1⟩, ⟨fun y => F y + D y, fun u hu => by rw [gCh_7 hu, hF u hu, nI_add], by rw [sN_add]; exact hb⟩⟩
theorem GI_b (hg : GI g n c m) : GI (gBl g n) n c m := by
  have hn := hg.1.2.1
  obtain ⟨⟨e1, e2, e3, e4, e5, e6⟩, a2, a3, a4, a5, ⟨F, hF, hFb⟩, ⟨F2, hF2, hFb2⟩⟩ := hg
  have h : ∀ y, y < 8 ∨ 8 + 8 * n ≤ y ∨ (y - 8) % 8 ≠ 0 → gBl g n y = g y := fun y hy => gBl_ne hy
  refine ⟨⟨by rw [h _ (by omega)]; exact e1, e2, by rw [h _ (by omega)]; exact e3, e4, by rw [h _ (by omega)]; exact e5, e6⟩, fun s hs => by rw [h _ (by omega)]; exact a2 s hs, fun p' hp' => by rw [h _ (by omega)]; exact a3 p' hp', fun u' hu' => ?_, fun k hk => GM_congr (fun i hi => h _ (by omega)) (fun u hu => ⟨h _ (by omega), h _ (by omega)⟩) (a5 k hk), ⟨F, fun u hu => by rw [h _ (by omega)]; exact hF u hu, hFb⟩, ⟨F2, fun u hu => by rw [h _ (by omega)]; exact hF2 u hu, hFb2⟩⟩
  obtain ⟨b0, b1, b2, b3, r, b, b4, b5, b6, b7⟩ := a4 u' hu'
  unfold GU
  rw [gBl_5 hu', h _ (by omega), h _ (by omega), h (3 + 8 * u' + 2) (by omega), h (3 + 8 * u' + 3) (by omega), h (3 + 8 * u' + 4) (by omega)]
  exact ⟨b0, b1, b2, b3, r, r, Nat.le_refl _, b5, b6, b6⟩
-- what a charge that is allowed says
theorem cc_ok (hg : GI g n c m) (hs : sN D n = A) (hA : A ≤ 9999999) (h : ccG g n D A = true) : ∃ F : Nat → Nat, (∀ u, u < n → g (3 + 8 * u + 7) = nI (F u)) ∧ sN F n + sN D n ≤ 999999999 := by
  obtain ⟨F, hF, hFb⟩ := hg.2.2.2.2.2.2
  refine ⟨F, hF, ?_⟩
  unfold ccG at h
  rw [Bool.and_eq_true, decide_eq_true_eq, sm_nI hF, nI_add, nI_leI (by omega) (by omega)] at h
  rw [hs]
  exact h.2
-- a unit, a cost, a motion more
theorem gAU_lt (h : y < 2 ∨ (3 ≤ y ∧ y < 3 + 8 * n) ∨ 11 + 8 * n ≤ y) {v : Nat → Int32} : gAU g n v y = g y := by
  unfold gAU
  rw [if_neg (by omega), if_neg (by omega)]
theorem gAU_in (h : i < 8) {v : Nat → Int32} : gAU g n v (3 + 8 * n + i) = v i := by
  unfold gAU
  rw [if_neg (by omega), if_pos (by omega)]
  congr 1
  omega
theorem GI_AU (hg : GI g n c m) (hn : n < 12) {v : Nat → Int32} (h0 : A ≤ 2 ∧ v 0 = nI A) (h1 : P ≤ 2 ∧ v 1 = nI P) (h2 : 1 ≤ q ∧ q ≤ 300 ∧ v 2 = nI q) (h3 : o ≤ 7 ∧ v 3 = nI o) (h4 : ∀ i, 4 ≤ i → i < 8 → v i = nI 0) : GI (gAU g n v) (n + 1) c m := by
  obtain ⟨⟨e1, e2, e3, e4, e5, e6⟩, a2, a3, a4, a5, ⟨F, hF, hFb⟩, ⟨F2, hF2, hFb2⟩⟩ := hg
  have hs : ∀ F : Nat → Nat, sN (fun u => if u = n then 0 else F u) (n + 1) = sN F n := fun F => by
    rw [sN, if_pos rfl, Nat.add_zero]
    exact sN_congr (fun i hi => if_neg (by omega))
  refine ⟨⟨if_pos rfl, by omega, by rw [gAU_lt (by omega)]; exact e3, e4, by rw [gAU_lt (by omega)]; exact e5, e6⟩, fun s hs => by rw [gAU_lt (by omega)]; exact a2 s hs, fun p hp => by rw [gAU_lt (by omega)]; exact a3 p hp, fun u hu => ?_, fun k hk => ?_, ⟨fun u => if u = n then 0 else F u, fun u hu => ?_, by rw [hs]; exact hFb⟩, ⟨fun u => if u = n then 0 else F2 u, fun u hu => ?_, by rw [hs]; exact hFb2⟩⟩
  · by_cases e : u = n
    · subst e
      unfold GU
      rw [gAU_in (by omega), gAU_in (by omega), gAU_in (by omega), gAU_in (by omega), gAU_in (by omega), gAU_in (by omega)]
      exact ⟨⟨A, h0⟩, ⟨P, h1⟩, ⟨q, h2⟩, ⟨o, h3⟩, 0, 0, Nat.le_refl _, by omega, h4 4 (by omega) (by omega), h4 5 (by omega) (by omega)⟩
    · exact GU_congr (fun i hi => gAU_lt (by omega)) (a4 u (by omega))
  · obtain ⟨b0, b1, b2, u, b3, b4⟩ := GM_congr (g' := gAU g n v) (fun i hi => gAU_lt (by omega)) (fun u hu => ⟨gAU_lt (by omega), gAU_lt (by omega)⟩) (a5 k hk)
    exact ⟨b0, b1, b2, u, by omega, b4⟩
  · dsimp only
    by_cases e : u = n
    · rw [if_pos e, e, gAU_in (by omega)]
      exact h4 6 (by omega) (by omega)
    · rw [if_neg e, gAU_lt (by omega)]
      exact hF u (by omega)
  · dsimp only
    by_cases e : u = n
    · rw [if_pos e, e, gAU_in (by omega)]
      exact h4 7 (by omega) (by omega)
    · rw [if_neg e, gAU_lt (by omega)]
      exact hF2 u (by omega)
theorem gMN_lt (h : y < 466 ∨ (467 ≤ y ∧ y < 467 + 17 * k) ∨ 484 + 17 * k ≤ y) {v : Nat → Int32} : gMN g k v y = g y := by
  unfold gMN
  rw [if_neg (by omega), if_neg (by omega)]
theorem gMN_in (h : i < 17) {v : Nat → Int32} : gMN g k v (467 + 17 * k + i) = v i := by
  unfold gMN
  rw [if_neg (by omega), if_pos (by omega)]
  congr 1
  omega
theorem GI_MN (hg : GI g n c m) (hm : m < 8) {v : Nat → Int32} (h0 : A ≤ 3 ∧ v 0 = nI A) (h2 : p ≤ 4 ∧ v 2 = nI p) (h3 : 1 ≤ q ∧ q ≤ 9999999 ∧ v 3 = nI q) (hu : u < n) (hc : cnB g (v 0) (v 1) u = true) : GI (gMN g m v) n c (m + 1) := by
  obtain ⟨⟨e1, e2, e3, e4, e5, e6⟩, a2, a3, a4, a5, ⟨F, hF, hFb⟩, ⟨F2, hF2, hFb2⟩⟩ := hg
  refine ⟨⟨by rw [gMN_lt (by omega)]; exact e1, e2, by rw [gMN_lt (by omega)]; exact e3, e4, if_pos rfl, by omega⟩, fun s hs => by rw [gMN_lt (by omega)]; exact a2 s hs, fun p hp => by rw [gMN_lt (by omega)]; exact a3 p hp, fun u hu => GU_congr (fun i hi => gMN_lt (by omega)) (a4 u hu), fun k hk => ?_, ⟨F, fun u hu => by rw [gMN_lt (by omega)]; exact hF u hu, hFb⟩, ⟨F2, fun u hu => by rw [gMN_lt (by omega)]; exact hF2 u hu, hFb2⟩⟩
  by_cases e : k = m
  · subst e
    unfold GM
    rw [gMN_in (by omega), gMN_in (by omega), gMN_in (by omega), gMN_in (by omega)]
    exact ⟨⟨A, h0⟩, ⟨p, h2⟩, ⟨q, h3⟩, u, hu, by rw [cnB_congr (gMN_lt (by omega)) (gMN_lt (by omega))]; exact hc⟩
  · exact GM_congr (fun i hi => gMN_lt (by omega)) (fun u hu => ⟨gMN_lt (by omega), gMN_lt (by omega)⟩) (a5 k (by omega))
end S32
