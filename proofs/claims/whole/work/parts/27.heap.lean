-- ===== the kinds that touch the heap, returns, calls =====
section EH
variable {k pc : Nat} {cc : ByteArray} {L L' : mm_L} {st : List Value} {h : mm_H} {S : mm_S} {it : Nat → Nat → Int32} {lg : Nat → Nat → Int64} {db : Nat → Nat → UInt64} {u : Nat × Nat}
theorem mE_sh {len : Nat} {i : ClassFile.Instr} {st' : List Value} {h' : mm_H} (hb : mB k = cc) (hd : decode cc pc = .ok (i, len)) (hl : mm_ln i = len ∨ mm_ln i = 0) (h1 : mm_sA (mC k) i st = none) (h2 : mm_sL (mG k) i L st = none) (h3 : mm_sB pc len i st = none) (hs : mm_sH k i st h = some (st', h')) : mE k pc L st h = mE k (pc + len) L st' h' := by
  refine mE_sm hb hd hl ?_
  unfold mm_sm
  rw [h1, h2, h3, hs]
theorem e_getI {x ci s kd a : Nat} (hb : mB k = cc) (hd : decode cc pc = .ok (.getfield x, 3)) (hf : mFld (mC k) x = some (ci, s, kd)) (hn : kd ≠ 2) (hk : kS S a = ci) : mE k pc L (.ref a :: st) (S, it, lg, db, u) = mE k (pc + 3) L (.int (it a s) :: st) (S, it, lg, db, u) := by
  refine mE_sh hb hd (Or.inl rfl) rfl rfl rfl ?_
  unfold mm_sH
  dsimp only
  rw [hf]
  dsimp only
  rw [if_pos (show mm_T (S, it, lg, db, u) a = ci from hk), if_neg hn]
  rfl
theorem e_getF {x ci s a : Nat} (hb : mB k = cc) (hd : decode cc pc = .ok (.getfield x, 3)) (hf : mFld (mC k) x = some (ci, s, 2)) (hk : kS S a = ci) {v : Value} (hv : fS S a s = v) : mE k pc L (.ref a :: st) (S, it, lg, db, u) = mE k (pc + 3) L (v :: st) (S, it, lg, db, u) := by
  subst hv
  refine mE_sh hb hd (Or.inl rfl) rfl rfl rfl ?_
  unfold mm_sH
  dsimp only
  rw [hf]
  dsimp only
  rw [if_pos (show mm_T (S, it, lg, db, u) a = ci from hk), if_pos rfl]
  rfl
theorem e_putI {x ci s a : Nat} {v : Int32} (hb : mB k = cc) (hd : decode cc pc = .ok (.putfield x, 3)) (hf : mFld (mC k) x = some (ci, s, 0)) (hk : kS S a = ci) : mE k pc L (.int v :: .ref a :: st) (S, it, lg, db, u) = mE k (pc + 3) L st (S, mm_up it a s v, lg, db, u) := by
  refine mE_sh hb hd (Or.inl rfl) rfl rfl rfl ?_
  unfold mm_sH
  dsimp only
  rw [hf]
  dsimp only
  rw [if_pos ⟨hk, Or.inl rfl⟩]
  rfl
theorem e_putZ {x ci s a : Nat} {v : Int32} (hb : mB k = cc) (hd : decode cc pc = .ok (.putfield x, 3)) (hf : mFld (mC k) x = some (ci, s, 1)) (hk : kS S a = ci) (hv : v = 0 ∨ v = 1) : mE k pc L (.int v :: .ref a :: st) (S, it, lg, db, u) = mE k (pc + 3) L st (S, mm_up it a s v, lg, db, u) := by
  refine mE_sh hb hd (Or.inl rfl) rfl rfl rfl ?_
  unfold mm_sH
  dsimp only
  rw [hf]
  dsimp only
  rw [if_pos ⟨hk, Or.inr ⟨rfl, hv⟩⟩]
  rfl
theorem e_putF {x ci s a q : Nat} (hb : mB k = cc) (hd : decode cc pc = .ok (.putfield x, 3)) (hf : mFld (mC k) x = some (ci, s, 2)) (hk : kS S a = ci) (hN : mN k = true) (hC : mC k = ci) : mE k pc L (.ref q :: .ref a :: st) (S, it, lg, db, u) = mE k (pc + 3) L st ((S.1, S.2.1, mm_up S.2.2.1 a s (.ref q), S.2.2.2), it, lg, db, u) := by
  refine mE_sh hb hd (Or.inl rfl) rfl rfl rfl ?_
  unfold mm_sH
  dsimp only
  rw [hf]
  dsimp only
  rw [if_pos ⟨hk, rfl, hN, hC⟩]
  rfl
theorem mm_ix_nI {i n : Nat} (h : i < n) (hn : n ≤ 10000) : mm_ix (nI i) n = some i := by
  have e : (nI i).toNatClampNeg = i := pk_cl i rfl (by omega)
  have h0 : ¬ (nI i < 0) := by
    intro q
    have := (nI_ltI (a := i) (b := 0) (by omega) (by omega)).mp q
    omega
  unfold mm_ix
  rw [e, if_pos ⟨h0, h⟩]
theorem e_iald {i a : Nat} (hb : mB k = cc) (hd : decode cc pc = .ok (.iaload, 1)) (hk : kS S a = 10) (hz : zS S a ≤ 10000) (hi : i < zS S a) : mE k pc L (.int (nI i) :: .ref a :: st) (S, it, lg, db, u) = mE k (pc + 1) L (.int (it a i) :: st) (S, it, lg, db, u) := by
  refine mE_sh hb hd (Or.inl rfl) rfl rfl rfl ?_
  unfold mm_sH
  dsimp only
  rw [if_pos (show mm_T (S, it, lg, db, u) a = 10 from hk), show mm_Z (S, it, lg, db, u) a = zS S a from rfl, mm_ix_nI hi hz]
  rfl
theorem e_cald {i a : Nat} (hb : mB k = cc) (hd : decode cc pc = .ok (.caload, 1)) (hk : kS S a = 13) (hz : zS S a ≤ 10000) (hi : i < zS S a) : mE k pc L (.int (nI i) :: .ref a :: st) (S, it, lg, db, u) = mE k (pc + 1) L (.int (it a i) :: st) (S, it, lg, db, u) := by
  refine mE_sh hb hd (Or.inl rfl) rfl rfl rfl ?_
  unfold mm_sH
  dsimp only
  rw [if_pos (show mm_T (S, it, lg, db, u) a = 13 from hk), show mm_Z (S, it, lg, db, u) a = zS S a from rfl, mm_ix_nI hi hz]
  rfl
theorem e_lald {i a : Nat} (hb : mB k = cc) (hd : decode cc pc = .ok (.laload, 1)) (hk : kS S a = 11) (hz : zS S a ≤ 10000) (hi : i < zS S a) : mE k pc L (.int (nI i) :: .ref a :: st) (S, it, lg, db, u) = mE k (pc + 1) L (.long (lg a i) :: st) (S, it, lg, db, u) := by
  refine mE_sh hb hd (Or.inl rfl) rfl rfl rfl ?_
  unfold mm_sH
  dsimp only
  rw [if_pos (show mm_T (S, it, lg, db, u) a = 11 from hk), show mm_Z (S, it, lg, db, u) a = zS S a from rfl, mm_ix_nI hi hz]
  rfl
theorem e_dald {i a : Nat} (hb : mB k = cc) (hd : decode cc pc = .ok (.daload, 1)) (hk : kS S a = 12) (hz : zS S a ≤ 10000) (hi : i < zS S a) : mE k pc L (.int (nI i) :: .ref a :: st) (S, it, lg, db, u) = mE k (pc + 1) L (.double (db a i) :: st) (S, it, lg, db, u) := by
  refine mE_sh hb hd (Or.inl rfl) rfl rfl rfl ?_
  unfold mm_sH
  dsimp only
  rw [if_pos (show mm_T (S, it, lg, db, u) a = 12 from hk), show mm_Z (S, it, lg, db, u) a = zS S a from rfl, mm_ix_nI hi hz]
  rfl
theorem e_aald {i a q : Nat} (hb : mB k = cc) (hd : decode cc pc = .ok (.aaload, 1)) (hk : kS S a = 14) (hz : zS S a ≤ 10000) (hi : i < zS S a) (hv : fS S a i = .ref q) : mE k pc L (.int (nI i) :: .ref a :: st) (S, it, lg, db, u) = mE k (pc + 1) L (.ref q :: st) (S, it, lg, db, u) := by
  refine mE_sh hb hd (Or.inl rfl) rfl rfl rfl ?_
  unfold mm_sH
  dsimp only
  rw [if_pos (show mm_T (S, it, lg, db, u) a = 14 from hk), show mm_Z (S, it, lg, db, u) a = zS S a from rfl, mm_ix_nI hi hz]
  show (match fS S a i with
      | Value.ref q => some (Value.ref q :: st, ((S, it, lg, db, u) : mm_H))
      | _ => none) = _
  rw [hv]
theorem e_xald {i x : Nat} (hb : mB 231 = cc) (hd : decode cc pc = .ok (.iaload, 1)) (hz : (xS S).1 ≤ 10000) (hi : i < (xS S).1) : mE 231 pc L (.int (nI i) :: .retAddr x :: st) (S, it, lg, db, u) = mE 231 (pc + 1) L (.int ((xS S).2 i) :: st) (S, it, lg, db, u) := by
  refine mE_sh hb hd (Or.inl rfl) rfl rfl rfl ?_
  unfold mm_sH
  dsimp only
  rw [if_pos (show (231 : Nat) = mm_law from rfl), show (mm_X (S, it, lg, db, u)).1 = (xS S).1 from rfl, mm_ix_nI hi hz]
  rfl
theorem e_xlen {x : Nat} (hb : mB 231 = cc) (hd : decode cc pc = .ok (.arraylength, 1)) : mE 231 pc L (.retAddr x :: st) (S, it, lg, db, u) = mE 231 (pc + 1) L (.int (nI (xS S).1) :: st) (S, it, lg, db, u) := mE_sh hb hd (Or.inl rfl) rfl rfl rfl rfl
theorem e_iast {i a : Nat} {v : Int32} (hb : mB k = cc) (hd : decode cc pc = .ok (.iastore, 1)) (hk : kS S a = 10) (hz : zS S a ≤ 10000) (hi : i < zS S a) : mE k pc L (.int v :: .int (nI i) :: .ref a :: st) (S, it, lg, db, u) = mE k (pc + 1) L st (S, mm_up it a i v, lg, db, u) := by
  refine mE_sh hb hd (Or.inl rfl) rfl rfl rfl ?_
  unfold mm_sH
  dsimp only
  rw [if_pos (show mm_T (S, it, lg, db, u) a = 10 from hk), show mm_Z (S, it, lg, db, u) a = zS S a from rfl, mm_ix_nI hi hz]
  rfl
theorem e_cast {i a : Nat} {v : Int32} (hb : mB k = cc) (hd : decode cc pc = .ok (.castore, 1)) (hk : kS S a = 13) (hz : zS S a ≤ 10000) (hi : i < zS S a) : mE k pc L (.int v :: .int (nI i) :: .ref a :: st) (S, it, lg, db, u) = mE k (pc + 1) L st (S, mm_up it a i (vp_nar .char v), lg, db, u) := by
  refine mE_sh hb hd (Or.inl rfl) rfl rfl rfl ?_
  unfold mm_sH
  dsimp only
  rw [if_pos (show mm_T (S, it, lg, db, u) a = 13 from hk), show mm_Z (S, it, lg, db, u) a = zS S a from rfl, mm_ix_nI hi hz]
  rfl
theorem e_last {i a : Nat} {v : Int64} (hb : mB k = cc) (hd : decode cc pc = .ok (.lastore, 1)) (hk : kS S a = 11) (hz : zS S a ≤ 10000) (hi : i < zS S a) : mE k pc L (.long v :: .int (nI i) :: .ref a :: st) (S, it, lg, db, u) = mE k (pc + 1) L st (S, it, mm_up lg a i v, db, u) := by
  refine mE_sh hb hd (Or.inl rfl) rfl rfl rfl ?_
  unfold mm_sH
  dsimp only
  rw [if_pos (show mm_T (S, it, lg, db, u) a = 11 from hk), show mm_Z (S, it, lg, db, u) a = zS S a from rfl, mm_ix_nI hi hz]
  rfl
theorem e_dast {i a : Nat} {v : UInt64} (hb : mB k = cc) (hd : decode cc pc = .ok (.dastore, 1)) (hk : kS S a = 12) (hz : zS S a ≤ 10000) (hi : i < zS S a) : mE k pc L (.double v :: .int (nI i) :: .ref a :: st) (S, it, lg, db, u) = mE k (pc + 1) L st (S, it, lg, mm_up db a i v, u) := by
  refine mE_sh hb hd (Or.inl rfl) rfl rfl rfl ?_
  unfold mm_sH
  dsimp only
  rw [if_pos (show mm_T (S, it, lg, db, u) a = 12 from hk), show mm_Z (S, it, lg, db, u) a = zS S a from rfl, mm_ix_nI hi hz]
  rfl
theorem e_aast {i a q : Nat} (hb : mB k = cc) (hd : decode cc pc = .ok (.aastore, 1)) (hk : kS S a = 14) (hq : kS S q = 4) (hz : zS S a ≤ 10000) (hi : i < zS S a) : mE k pc L (.ref q :: .int (nI i) :: .ref a :: st) (S, it, lg, db, u) = mE k (pc + 1) L st ((S.1, S.2.1, mm_up S.2.2.1 a i (.ref q), S.2.2.2), it, lg, db, u) := by
  refine mE_sh hb hd (Or.inl rfl) rfl rfl rfl ?_
  unfold mm_sH
  dsimp only
  rw [if_pos (show mm_T (S, it, lg, db, u) a = 14 ∧ mm_T (S, it, lg, db, u) q = 4 from ⟨hk, hq⟩), show mm_Z (S, it, lg, db, u) a = zS S a from rfl, mm_ix_nI hi hz]
  rfl
theorem nI_cl {n : Nat} (h : n ≤ 10000) : (nI n).toNatClampNeg = n := pk_cl n rfl (by omega)
theorem nI_nn {n : Nat} (h : n ≤ 10000) : ¬ (nI n < 0) := by
  intro q
  have := (nI_ltI (a := n) (b := 0) (by omega) (by omega)).mp q
  omega
theorem e_newarr {t : ClassFile.ArrayType} {tg n : Nat} (hb : mB k = cc) (hd : decode cc pc = .ok (.newarray t, 2)) (ht : mm_aty t = some tg) (hn : n ≤ 10000) : mE k pc L (.int (nI n) :: st) h = mE k (pc + 2) L (.ref h.1.1 :: st) (mm_nw h tg n) := by
  refine mE_sh hb hd (Or.inl rfl) rfl rfl rfl ?_
  unfold mm_sH
  dsimp only
  rw [ht]
  dsimp only
  rw [nI_cl hn, if_pos ⟨nI_nn hn, hn⟩]
  rfl
theorem e_anew {n : Nat} (hb : mB k = cc) (hd : decode cc pc = .ok (.anewarray 9, 3)) (hC : mC k = 3) (hn : n ≤ 10000) : mE k pc L (.int (nI n) :: st) h = mE k (pc + 3) L (.ref h.1.1 :: st) (mm_nw h 14 n) := by
  refine mE_sh hb hd (Or.inl rfl) rfl rfl rfl ?_
  unfold mm_sH
  dsimp only
  rw [nI_cl hn, if_pos ⟨nI_nn hn, hn, hC, rfl⟩]
  rfl
theorem e_new {x ci : Nat} (hb : mB k = cc) (hd : decode cc pc = .ok (.new x, 3)) (hx : mNew (mC k) x = some ci) : mE k pc L st h = mE k (pc + 3) L (.ref h.1.1 :: st) (mm_nw h ci (mm_sz ci)) := by
  refine mE_sh hb hd (Or.inl rfl) rfl rfl rfl ?_
  unfold mm_sH
  dsimp only
  rw [hx]
  rfl
theorem e_min {x n1 n2 : Nat} {a b : Int32} (hb : mB k = cc) (hd : decode cc pc = .ok (.invokestatic x, 3)) (hm : mMet (mC k) x = some (10, n1, n2)) (hc : mm_cat st ≤ 8) (hF : 1 ≤ mF k) (hO : 21 ≤ mO k) : mE k pc L (.int b :: .int a :: st) h = mE k (pc + 3) L (.int (if b < a then b else a) :: st) h := by
  refine mE_sh hb hd (Or.inl rfl) rfl rfl rfl ?_
  unfold mm_sH
  dsimp only
  rw [hm]
  exact if_pos ⟨hc, hF, hO⟩
theorem e_acopy {x n1 n2 n dp sp a a0 : Nat} (hb : mB k = cc) (hd : decode cc pc = .ok (.invokestatic x, 3)) (hm : mMet (mC k) x = some (11, n1, n2)) (hc : mm_cat st ≤ 8) (hF : 1 ≤ mF k) (hO : 48 ≤ mO k) (h0 : kS S a0 = 10) (h1 : kS S a = 10) (hz : zS S a0 ≤ 10000) (hz1 : zS S a ≤ 10000) (h2 : sp + n ≤ zS S a0) (h3 : dp + n ≤ zS S a) : mE k pc L (.int (nI n) :: .int (nI dp) :: .ref a :: .int (nI sp) :: .ref a0 :: st) (S, it, lg, db, u) = mE k (pc + 3) L st (S, mm_cp it a0 a sp dp n, lg, db, u) := by
  refine mE_sh hb hd (Or.inl rfl) rfl rfl rfl ?_
  unfold mm_sH
  dsimp only
  rw [hm]
  refine (if_pos ⟨h0, h1, ⟨nI_nn (by omega), nI_nn (by omega), nI_nn (by omega)⟩, ?_, ?_, hc, hF, hO⟩).trans ?_
  · rw [nI_cl (show n ≤ 10000 by omega), nI_cl (show sp ≤ 10000 by omega), nI_cl (show dp ≤ 10000 by omega)]
    rfl
  · rw [nI_cl (show n ≤ 10000 by omega), nI_cl (show sp ≤ 10000 by omega)]
    exact h2
  · rw [nI_cl (show n ≤ 10000 by omega), nI_cl (show dp ≤ 10000 by omega)]
    exact h3
theorem e_oinit {x n1 n2 a : Nat} (hb : mB k = cc) (hd : decode cc pc = .ok (.invokespecial x, 3)) (hm : mMet (mC k) x = some (12, n1, n2)) (hc : mm_cat st ≤ 8) (hF : 1 ≤ mF k) (hO : 20 ≤ mO k) : mE k pc L (.ref a :: st) h = mE k (pc + 3) L st h := by
  refine mE_sh hb hd (Or.inl rfl) rfl rfl rfl ?_
  unfold mm_sH
  dsimp only
  rw [hm]
  exact if_pos ⟨hc, hF, hO⟩
theorem mE_n2 {len : Nat} {i : ClassFile.Instr} (hb : mB k = cc) (hd : decode cc pc = .ok (i, len)) (hl : mm_ln i = len ∨ mm_ln i = 0) (hs : mm_sm k pc len i L st h = none) : mE k pc L st h = mm_st2 mE k pc i L st h := by
  rw [mE_no hb hd]
  unfold mm_st mm_st2
  rw [if_pos hl, hs]
  cases i <;> rfl
theorem e_ireturn {v : Int32} (hb : mB k = cc) (hd : decode cc pc = .ok (.ireturn, 1)) (hr : mR k = 1) : mE k pc L [.int v] h = some (.inl (some (.int v)), h) := by
  rw [mE_n2 hb hd (Or.inl rfl) rfl]
  exact if_pos (Or.inl hr)
theorem e_zreturn {v : Int32} (hb : mB k = cc) (hd : decode cc pc = .ok (.ireturn, 1)) (hr : mR k = 2) (hv : v = 0 ∨ v = 1) : mE k pc L [.int v] h = some (.inl (some (.int v)), h) := by
  rw [mE_n2 hb hd (Or.inl rfl) rfl]
  exact if_pos (Or.inr ⟨hr, hv⟩)
theorem e_lreturn {v : Int64} (hb : mB k = cc) (hd : decode cc pc = .ok (.lreturn, 1)) (hr : mR k = 3) : mE k pc L [.long v] h = some (.inl (some (.long v)), h) := by
  rw [mE_n2 hb hd (Or.inl rfl) rfl]
  exact if_pos hr
theorem e_dreturn {v : UInt64} (hb : mB k = cc) (hd : decode cc pc = .ok (.dreturn, 1)) (hr : mR k = 4) : mE k pc L [.double v] h = some (.inl (some (.double v)), h) := by
  rw [mE_n2 hb hd (Or.inl rfl) rfl]
  exact if_pos hr
theorem e_return (hb : mB k = cc) (hd : decode cc pc = .ok (.return_, 1)) (hr : mR k = 0) : mE k pc L [] h = some (.inl none, h) := by
  rw [mE_n2 hb hd (Or.inl rfl) rfl]
  exact if_pos hr
theorem e_throw {x e : Nat} {q : Nat × Nat × Nat × Nat} (hb : mB k = cc) (hd : decode cc pc = .ok (.new x, 3)) (hx : mNew (mC k) x = none) (ht : mThr k pc = some (e, q)) (hc : mm_cat st ≤ 8) (hX : mX k = []) (hF : 6 ≤ mF k) (hO : 90 ≤ mO k) : mE k pc L st (S, it, lg, db, u) = some (.inr e, (S, it, lg, db, (u.1 + 1, u.2 + 6))) := by
  rw [mE_n2 hb hd (Or.inl rfl) (by unfold mm_sm mm_sA mm_sL mm_sB mm_sH; dsimp only; rw [hx])]
  unfold mm_st2
  dsimp only
  rw [ht]
  exact if_pos ⟨hc, hX, hF, hO⟩
theorem e_tsw {dflt lo hi : Int} {offs : Array Int} {x : Int32} (hb : mB k = cc) {len : Nat} (hd : decode cc pc = .ok (.tableswitch dflt lo hi offs, len)) {t : Nat} (ht : (if x.toInt < lo ∨ hi < x.toInt then mm_tg pc dflt else (offs[(x.toInt - lo).toNat]?).bind (mm_tg pc)) = some t) : mE k pc L (.int x :: st) h = mE k t L st h := by
  refine mE_sm hb hd (Or.inr rfl) ?_
  unfold mm_sm mm_sA mm_sL mm_sB
  dsimp only
  split at ht
  · rename_i q
    rw [if_pos q, ht]
    rfl
  · rename_i q
    rw [if_neg q]
    cases ho : offs[(x.toInt - lo).toNat]? with
    | none => rw [ho] at ht; cases ht
    | some off =>
      rw [ho] at ht
      dsimp only [Option.bind] at ht ⊢
      rw [ht]
      rfl
theorem e_lsw {dflt : Int} {ps : Array (Int × Int)} {x : Int32} (hb : mB k = cc) {len : Nat} (hd : decode cc pc = .ok (.lookupswitch dflt ps, len)) (ha : (ps.toList.zip (ps.toList.drop 1)).all (fun (a, next) => a.1 < next.1) = true) {t : Nat} (ht : mm_tg pc (Op.lookupswitch.offset ps.toList dflt x.toInt) = some t) : mE k pc L (.int x :: st) h = mE k t L st h := by
  refine mE_sm hb hd (Or.inr rfl) ?_
  unfold mm_sm mm_sA mm_sL mm_sB
  dsimp only
  rw [if_pos ha, ht]
  rfl
noncomputable def mm_kh (k pc : Nat) (L : mm_L) (rest : List Value) (r : Option mm_R) : Option mm_R := match r with
  | some (.inl (some (.int v)), h') => mE k pc L (.int v :: rest) h'
  | some (.inr e, h') => mm_hd mE k (pc - 3) L e h'
  | _ => none
noncomputable def mm_khv (k pc : Nat) (L : mm_L) (rest : List Value) (r : Option mm_R) : Option mm_R := match r with
  | some (.inl none, h') => mE k pc L rest h'
  | some (.inr e, h') => mm_hd mE k (pc - 3) L e h'
  | _ => none
noncomputable def mm_khq (k pc : Nat) (L : mm_L) (rest : List Value) (r : Option mm_R) : Option mm_R := match r with
  | some (.inl (some (.double v)), h') => mE k pc L (.double v :: rest) h'
  | some (.inr e, h') => mm_hd mE k (pc - 3) L e h'
  | _ => none
theorem kt_kh {v : Int32} : mm_kh k pc L st (some (.inl (some (.int v)), h)) = mE k pc L (.int v :: st) h := rfl
theorem kt_khx {e : Nat} : mm_kh k pc L st (some (.inr e, h)) = mm_hd mE k (pc - 3) L e h := rfl
theorem kt_khv : mm_khv k pc L st (some (.inl none, h)) = mE k pc L st h := rfl
theorem kt_khvx {e : Nat} : mm_khv k pc L st (some (.inr e, h)) = mm_hd mE k (pc - 3) L e h := rfl
theorem kt_khq {v : UInt64} : mm_khq k pc L st (some (.inl (some (.double v)), h)) = mE k pc L (.double v :: st) h := rfl
theorem kt_khqx {e : Nat} : mm_khq k pc L st (some (.inr e, h)) = mm_hd mE k (pc - 3) L e h := rfl
theorem mm_hd_nil {e : Nat} (hX : mX k = []) : mm_hd mE k pc L e h = some (.inr e, h) := by
  unfold mm_hd
  rw [hX]
  rfl
/-- a call, however its answer is taken -/
theorem mm_call_eq {t k' n m : Nat} {As rest : List Value} (hm : (if t = 1 ∨ t = 4 ∨ t = 7 then n else n + 1) = m) (hl : As.length = m) (hA : As.all mm_arg = true) (hc : mm_rcv h t k' As = true) (hr : mm_cat rest ≤ 8) (hL : m ≤ mL k') (hF : mF k' < mF k) (hO : 8 + (mL k' + 11) + mO k' ≤ mO k) : mm_call mE k pc L (As.reverse ++ rest) h t k' n = match mCl k' As h with
    | none => none
    | some (.inl v, h') => if mm_rt k' v = true then mE k (pc + 3) L (v.toList ++ rest) h' else none
    | some (.inr e, h') => mm_hd mE k pc L e h' := by
  have e1 : (As.reverse ++ rest).take m = As.reverse := by
    rw [List.take_append_of_le_length (by rw [List.length_reverse]; omega), List.take_of_length_le (by rw [List.length_reverse]; omega)]
  have e2 : (As.reverse ++ rest).drop m = rest := by
    rw [List.drop_append_of_le_length (by rw [List.length_reverse]; omega), List.drop_of_length_le (by rw [List.length_reverse]; omega), List.nil_append]
  unfold mm_call
  rw [hm]
  dsimp only
  rw [e1, e2, List.reverse_reverse, if_pos ⟨by rw [List.length_append, List.length_reverse]; omega, by rw [List.all_reverse]; exact hA, hc, hr, hL, hF, hO⟩]
  rfl
theorem e_call {x t k' n m : Nat} {i : ClassFile.Instr} {As rest : List Value} (hb : mB k = cc) (hd : decode cc pc = .ok (i, 3)) (hi : (i = .invokevirtual x ∧ t = 0) ∨ (i = .invokestatic x ∧ (t = 1 ∨ t = 4 ∨ t = 7)) ∨ (i = .invokespecial x ∧ (t = 2 ∨ t = 5))) (hM : mMet (mC k) x = some (t, k', n)) (hm : (if t = 1 ∨ t = 4 ∨ t = 7 then n else n + 1) = m) (hl : As.length = m) (hA : As.all mm_arg = true) (hc : mm_rcv h t k' As = true) (hr : mm_cat rest ≤ 8) (hL : m ≤ mL k') (hF : mF k' < mF k) (hO : 8 + (mL k' + 11) + mO k' ≤ mO k) : mE k pc L (As.reverse ++ rest) h = match mCl k' As h with
    | none => none
    | some (.inl v, h') => if mm_rt k' v = true then mE k (pc + 3) L (v.toList ++ rest) h' else none
    | some (.inr e, h') => mm_hd mE k pc L e h' := by
  rw [← mm_call_eq hm hl hA hc hr hL hF hO]
  rcases hi with ⟨rfl, rfl⟩ | ⟨rfl, ht⟩ | ⟨rfl, ht⟩
  · rw [mE_n2 hb hd (Or.inl rfl) rfl]
    unfold mm_st2
    dsimp only
    rw [hM]
    exact if_pos rfl
  · rw [mE_n2 hb hd (Or.inl rfl) (by
      unfold mm_sm mm_sA mm_sL mm_sB mm_sH
      dsimp only
      rw [hM]
      rcases ht with rfl | rfl | rfl <;> rfl)]
    unfold mm_st2
    dsimp only
    rw [hM]
    exact if_pos ht
  · rw [mE_n2 hb hd (Or.inl rfl) (by
      unfold mm_sm mm_sA mm_sL mm_sB mm_sH
      dsimp only
      rw [hM]
      rcases ht with rfl | rfl <;> rfl)]
    unfold mm_st2
    dsimp only
    rw [hM]
    exact if_pos ht
/-- the answer's shape, from what the method is said to give back -/
theorem mm_kiE {k' : Nat} {r : Option mm_R} (hR : mR k' = 1 ∨ mR k' = 2) : (match r with
    | none => none
    | some (.inl v, h') => if mm_rt k' v = true then mE k (pc + 3) L (v.toList ++ st) h' else none
    | some (.inr e, h') => mm_hd mE k pc L e h') = mm_kh k (pc + 3) L st r := by
  rcases r with _ | ⟨_ | e, h'⟩
  · rfl
  · rename_i v
    rcases v with _ | v
    · have e1 : mm_rt k' none = false := by
        unfold mm_rt
        rcases hR with q | q <;> simp [q]
      simp [e1, mm_kh]
    · cases v with
      | int v =>
        have e1 : mm_rt k' (some (.int v)) = true := by
          unfold mm_rt
          rcases hR with q | q <;> simp [q]
        simp [e1, mm_kh]
      | long v =>
        have e1 : mm_rt k' (some (.long v)) = false := by
          unfold mm_rt
          rcases hR with q | q <;> simp [q]
        simp [e1, mm_kh]
      | double v =>
        have e1 : mm_rt k' (some (.double v)) = false := by
          unfold mm_rt
          rcases hR with q | q <;> simp [q]
        simp [e1, mm_kh]
      | _ => simp [mm_rt, mm_kh]
  · rfl
theorem mm_kvE {k' : Nat} {r : Option mm_R} (hR : mR k' = 0) : (match r with
    | none => none
    | some (.inl v, h') => if mm_rt k' v = true then mE k (pc + 3) L (v.toList ++ st) h' else none
    | some (.inr e, h') => mm_hd mE k pc L e h') = mm_khv k (pc + 3) L st r := by
  rcases r with _ | ⟨_ | e, h'⟩
  · rfl
  · rename_i v
    rcases v with _ | v
    · simp [mm_rt, hR, mm_khv]
    · cases v <;> simp [mm_rt, hR, mm_khv]
  · rfl
theorem mm_kqE {k' : Nat} {r : Option mm_R} (hR : mR k' = 4) : (match r with
    | none => none
    | some (.inl v, h') => if mm_rt k' v = true then mE k (pc + 3) L (v.toList ++ st) h' else none
    | some (.inr e, h') => mm_hd mE k pc L e h') = mm_khq k (pc + 3) L st r := by
  rcases r with _ | ⟨_ | e, h'⟩
  · rfl
  · rename_i v
    rcases v with _ | v
    · simp [mm_rt, hR, mm_khq]
    · cases v <;> simp [mm_rt, hR, mm_khq]
  · rfl
theorem mm_klE {k' : Nat} {r : Option mm_R} (hX : mX k = []) (hR : mR k' = 3) : (match r with
    | none => none
    | some (.inl v, h') => if mm_rt k' v = true then mE k (pc + 3) L (v.toList ++ st) h' else none
    | some (.inr e, h') => mm_hd mE k pc L e h') = mm_kl k (pc + 3) L st r := by
  rcases r with _ | ⟨_ | e, h'⟩
  · rfl
  · rename_i v
    rcases v with _ | v
    · simp [mm_rt, hR, mm_kl]
    · cases v <;> simp [mm_rt, hR, mm_kl]
  · exact mm_hd_nil hX
theorem mm_khN {r : Option mm_R} (hX : mX k = []) : mm_kh k (pc + 3) L st r = mm_ki k (pc + 3) L st r := by
  rcases r with _ | ⟨(_ | v) | e, h'⟩
  · rfl
  · rfl
  · cases v <;> rfl
  · exact mm_hd_nil hX
theorem mm_khvN {r : Option mm_R} (hX : mX k = []) : mm_khv k (pc + 3) L st r = mm_kv k (pc + 3) L st r := by
  rcases r with _ | ⟨(_ | v) | e, h'⟩
  · rfl
  · rfl
  · cases v <;> rfl
  · exact mm_hd_nil hX
theorem mm_khqN {r : Option mm_R} (hX : mX k = []) : mm_khq k (pc + 3) L st r = mm_kq k (pc + 3) L st r := by
  rcases r with _ | ⟨(_ | v) | e, h'⟩
  · rfl
  · rfl
  · cases v <;> rfl
  · exact mm_hd_nil hX
end EH
