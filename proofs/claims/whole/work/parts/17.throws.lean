-- ===== soundness: throws =====
abbrev ms_nms : List String := ["java/lang/RuntimeException", "java/lang/Exception"]
def ms_exs : List (Nat × Nat × String) := [(62, 66, "java/lang/IllegalArgumentException"), (78, 82, "java/lang/IllegalStateException"), (102, 106, "java/lang/IndexOutOfBoundsException"), (145, 149, "java/util/NoSuchElementException"), (379, 383, "java/lang/UnsupportedOperationException")]
def ms_thrB (q : (Nat × Nat) × (Nat × Nat × Nat × Nat × Nat)) : Bool :=
  decide (mC q.1.1 = 7) && (decide (q.1.1 < 231) && (decide (decode (mB q.1.1) q.1.2 = .ok (.new q.2.2.1, 3)) && (decide (decode (mB q.1.1) (q.1.2 + 3) = .ok (.dup, 1)) &&
  ((if q.2.2.2.2.2 = 0 then decide (decode (mB q.1.1) (q.1.2 + 4) = .ok (.ldc q.2.2.2.1, 2)) && (decide (decode (mB q.1.1) (q.1.2 + 6) = .ok (.invokespecial q.2.2.2.2.1, 3)) && decide (decode (mB q.1.1) (q.1.2 + 9) = .ok (.athrow, 1)))
    else decide (decode (mB q.1.1) (q.1.2 + 4) = .ok (.ldc_w q.2.2.2.1, 3)) && (decide (decode (mB q.1.1) (q.1.2 + 7) = .ok (.invokespecial q.2.2.2.2.1, 3)) && decide (decode (mB q.1.1) (q.1.2 + 10) = .ok (.athrow, 1)))) &&
  ((ms_strs.any fun z => decide (z.1 = q.2.2.2.1)) && match mExc[q.2.1]? with
    | none => false
    | some E => decide ((q.2.2.1, q.2.2.2.2.1, E) ∈ ms_exs)))))) 
theorem ms_thr_ok : mThrT.all ms_thrB = true := by decide +kernel
theorem ms_nms_ok : ∀ n ∈ ms_nms, Bundle.fit n = true := by decide +kernel
