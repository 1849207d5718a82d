-- ===== soundness: the throws' words =====
def ms_exs4 : List (Nat × Nat × String) := [(62, 66, "java/lang/IllegalArgumentException"), (78, 82, "java/lang/IllegalStateException"), (102, 106, "java/lang/IndexOutOfBoundsException"), (379, 383, "java/lang/UnsupportedOperationException")]
def ms_wB (L : List Cond) : Bool := L.all fun w => vx_ot w && (if goodWord w = true then decide (w ∈ ms_base) else decide (w ∈ ms_nwT))
def ms_exA (q : Nat × Nat × String) : Bool := decide (Cond.classLink RX7 q.1 q.2.2 ∈ ms_base) && (decide (Cond.initialized q.2.2 ∈ ms_base) && Bundle.fit q.2.2)
theorem ms_exA_ok : ms_exs.all ms_exA = true := by decide +kernel
theorem ms_ex4_ok : ms_exs4.all (fun q => ms_wB (vx_atS RX7 q.2.1 q.2.2 ms_nms)) = true := by decide +kernel
abbrev ms_rx : ByteArray := prog_22_method_4_code
theorem ms_rx0 : decode ms_rx 0 = .ok (.aload_n 0, 1) := by decide +kernel
theorem ms_rx1 : decode ms_rx 1 = .ok (.aload_n 1, 1) := by decide +kernel
theorem ms_rx2 : decode ms_rx 2 = .ok (.invokespecial 13, 3) := by decide +kernel
theorem ms_rx5 : decode ms_rx 5 = .ok (.return_, 1) := by decide +kernel
abbrev ms_nxl : List Cond := (nx_atoms RX7 149 "java/util/NoSuchElementException" "java/lang/RuntimeException" ["java/lang/Exception"] 13 ms_rx).filter vx_no
theorem ms_nx_ok : ms_wB ms_nxl = true := by decide +kernel
theorem ms_fitR : Bundle.fit "java/lang/RuntimeException" = true := by decide +kernel
theorem ms_fitE : ∀ n ∈ ["java/lang/Exception"], Bundle.fit n = true := by decide +kernel
theorem ms_nw_on {w : Cond} (h : ms_isNw w = true) : w.onTables = true := by
  cases w <;> first
    | rfl
    | (cases h; done)
section S7
variable {p : Program} {l : Launch} {e : Env} {R : Room} {s : State} {m : MethodId} {args : Array Value} {below : List Frame} {meth : Method} {c : Code} {H : Heap} {locs : List Loc} {cells slots : Nat}
variable {pc : Nat} {ls : Array Slot} {ι : Nat → Nat} {b : Nat} {k : Nat} {st : List Value} {D : va_G} {aC : Nat → ClassId} {A : Nat → Prop} {h : mm_H} {X : Nat × (Nat → Int32)} {mc ms : Nat} {free : Addr → Prop}
variable {Qc : Array Value → State → Outcome → State → Prop} {XC : String → State → State → Prop}
theorem ms_w_at (hF : ms_Fr p l R s m args meth c D aC b A k X) {L : List Cond} (h : ms_wB L = true) : (∀ w ∈ L, w.before args s = true) ∧ ∀ w ∈ L, vx_ot w = true := by
  obtain ⟨hx, hb, hml, hown, hts, hlk, hin, hK, hA, hRf, hRo, ham, -, -, hscr⟩ := hF
  refine ⟨fun w hw => ?_, fun w hw => ?_⟩
  · have h1 := List.all_eq_true.mp h w hw
    rw [Bool.and_eq_true] at h1
    have h2 := h1.2
    split at h2
    · exact hts w (of_decide_eq_true h2)
    · have h3 := of_decide_eq_true h2
      exact va_Nw.use (ms_nw_on (List.mem_filter.mp h3).2) (ham.2.2.2.1 w h3)
  · have h1 := List.all_eq_true.mp h w hw
    rw [Bool.and_eq_true] at h1
    exact h1.1
set_option maxHeartbeats 4000000 in
theorem ms_thrW {ex : Nat} {d : Nat × Nat × Nat × Nat} (hF : ms_Fr p l R s m args meth c D aC b A k X) (hI : ms_I D aC ι b A s.heap H locs h) (hthr : mThr k pc = some (ex, d)) (hX : mX k = []) (h6 : 6 ≤ mF k) (h90 : 90 ≤ mO k) (hl : ls.size = mL k) (hcat : mm_cat st ≤ 8) (hroom : cells + 1 ≤ R.cells ∧ slots + 6 ≤ R.slots)
    (hx : ∀ (E : String) (t : State), mExc[ex]? = some E → s.vm.Alike t.vm → H.size ≤ t.heap.size → (∀ q : Nat, q < H.size → t.heap[q]? = H[q]?) → XC E s t) (hf : ∀ z ∈ locs, free z.base) (hc : cells + 1 ≤ mc) (hs : slots + 6 ≤ ms) :
    W p l e R s m args below meth c H locs cells slots (vx_MQ below Qc XC args s mc ms free) (F0 m pc ls (st.map (ms_tr ι b))) := by
  have hF' := hF
  obtain ⟨hxe, hb, hml, hown, hts, hlk, hin, hK, hA, hRf, hRo, ham, hst, htab, hscr⟩ := hF
  obtain ⟨ik, is, ic, wd⟩ := d
  have h1 := List.all_eq_true.mp ms_thr_ok _ (ms_lookup mThrT (k, pc) (ex, ik, is, ic, wd) hthr)
  simp only [ms_thrB, Bool.and_eq_true, decide_eq_true_eq] at h1
  obtain ⟨g1, g2, g3, g4, g5, g6, g7⟩ := h1
  split at g7
  · cases g7
  rename_i E hE
  have g7 := of_decide_eq_true g7
  have ho : mOwn k = RX7 := by unfold mOwn; rw [g1]; rfl
  rw [ho] at hown
  have hA1 := List.all_eq_true.mp ms_exA_ok _ g7
  simp only [ms_exA, Bool.and_eq_true, decide_eq_true_eq] at hA1
  obtain ⟨a1, a2, a3⟩ := hA1
  obtain ⟨z, hz, hzs⟩ := List.any_eq_true.mp g6
  have hzs := of_decide_eq_true hzs
  obtain ⟨sa, hsa⟩ := ham.2.2.1 z hz
  rw [hzs] at hsa
  have hout : ∀ n : Nat, ∀ x ∈ c.exceptionTable.toList, covers x n = false := fun n x hx9 => by
    rw [htab g2, hX] at hx9
    cases hx9
  have hsz : ls.size = c.maxLocals := by rw [hml]; exact hl
  have hgo : ∀ {L : List Cond}, (∀ w ∈ L, vx_ot w = true) → ∀ w ∈ Cond.classLink RX7 ik E :: Cond.initialized E :: L, vx_ot w = true := fun {L} hL w hw => by
    rcases List.mem_cons.mp hw with rfl | hw
    · rfl
    · rcases List.mem_cons.mp hw with rfl | hw
      · rfl
      · exact hL w hw
  have hroomL : (((st.map (ms_tr ι b)).map fun v => v.category).sum) + (13 * (2 + 1) + 43) ≤ R.locals := by
    rw [ms_catr]
    omega
  by_cases hN : (ik, ic, E) ∈ ms_exs4
  · obtain ⟨w1, w2⟩ := ms_w_at hF' (List.all_eq_true.mp ms_ex4_ok _ hN)
    split at g5
    · simp only [Bool.and_eq_true, decide_eq_true_eq] at g5
      exact vx_throwS hxe hb hst hown a3 ms_nms_ok (hts _ a1) (hts _ a2) hsa w1 (hgo w2) ham.1 ham.2.1 hI.2.2.1 hsz g3 g4 g5.1 g5.2.1 g5.2.2 (hout _) (by show 2 + 3 < _; omega) hroomL hroom.1 hroom.2 hlk (fun t => hx E t hE) hf hc hs
    · simp only [Bool.and_eq_true, decide_eq_true_eq] at g5
      exact vx_throwSW hxe hb hst hown a3 ms_nms_ok (hts _ a1) (hts _ a2) hsa w1 (hgo w2) ham.1 ham.2.1 hI.2.2.1 hsz g3 g4 g5.1 g5.2.1 g5.2.2 (hout _) (by show 2 + 3 < _; omega) hroomL hroom.1 hroom.2 hlk (fun t => hx E t hE) hf hc hs
  · have hN2 : (ik, ic, E) = (145, 149, "java/util/NoSuchElementException") := by
      simp only [ms_exs, ms_exs4, List.mem_cons, List.not_mem_nil, or_false, not_or] at g7 hN
      rcases g7 with q | q | q | q | q
      · exact absurd q hN.1
      · exact absurd q hN.2.1
      · exact absurd q hN.2.2.1
      · exact q
      · exact absurd q hN.2.2.2
    cases hN2
    obtain ⟨w1, w2⟩ := ms_w_at hF' ms_nx_ok
    split at g5
    · simp only [Bool.and_eq_true, decide_eq_true_eq] at g5
      exact nx_throwS hxe hb hst hown a3 ms_fitR ms_fitE ms_rx0 ms_rx1 ms_rx2 ms_rx5 (hts _ a1) (hts _ a2) hsa w1 (hgo w2) ham.1 ham.2.1 hI.2.2.1 hsz g3 g4 g5.1 g5.2.1 g5.2.2 (hout _) (by show 1 + 4 < _; omega) hroomL hroom.1 hroom.2 hlk (fun t => hx _ t hE) hf hc hs
    · simp only [Bool.and_eq_true, decide_eq_true_eq] at g5
      exact nx_throwSW hxe hb hst hown a3 ms_fitR ms_fitE ms_rx0 ms_rx1 ms_rx2 ms_rx5 (hts _ a1) (hts _ a2) hsa w1 (hgo w2) ham.1 ham.2.1 hI.2.2.1 hsz g3 g4 g5.1 g5.2.1 g5.2.2 (hout _) (by show 1 + 4 < _; omega) hroomL hroom.1 hroom.2 hlk (fun t => hx _ t hE) hf hc hs
end S7
