-- ===== one equation a kind of instruction =====
def kS (S : mm_S) (a : Nat) : Nat := (S.2.1 a).1
def zS (S : mm_S) (a : Nat) : Nat := (S.2.1 a).2
def fS (S : mm_S) (a k : Nat) : Value := S.2.2.1 a k
def xS (S : mm_S) : Nat × (Nat → Int32) := S.2.2.2
/-- a call of the method k' -/
noncomputable def mCl (k' : Nat) (As : List Value) (h : mm_H) : Option mm_R := mE k' 0 (mm_en k' As) [] h
noncomputable def mm_ki (k pc : Nat) (L : mm_L) (rest : List Value) (r : Option mm_R) : Option mm_R := match r with
  | some (.inl (some (.int v)), h') => mE k pc L (.int v :: rest) h'
  | some (.inr e, h') => some (.inr e, h')
  | _ => none
noncomputable def mm_kv (k pc : Nat) (L : mm_L) (rest : List Value) (r : Option mm_R) : Option mm_R := match r with
  | some (.inl none, h') => mE k pc L rest h'
  | some (.inr e, h') => some (.inr e, h')
  | _ => none
noncomputable def mm_kl (k pc : Nat) (L : mm_L) (rest : List Value) (r : Option mm_R) : Option mm_R := match r with
  | some (.inl (some (.long v)), h') => mE k pc L (.long v :: rest) h'
  | some (.inr e, h') => some (.inr e, h')
  | _ => none
noncomputable def mm_kq (k pc : Nat) (L : mm_L) (rest : List Value) (r : Option mm_R) : Option mm_R := match r with
  | some (.inl (some (.double v)), h') => mE k pc L (.double v :: rest) h'
  | some (.inr e, h') => some (.inr e, h')
  | _ => none
section EK
variable {k pc : Nat} {cc : ByteArray} {L L' : mm_L} {st : List Value} {h : mm_H} {S : mm_S} {it : Nat → Nat → Int32} {lg : Nat → Nat → Int64} {db : Nat → Nat → UInt64} {u : Nat × Nat}
theorem kt_ki {v : Int32} : mm_ki k pc L st (some (.inl (some (.int v)), h)) = mE k pc L (.int v :: st) h := rfl
theorem kt_kix {e : Nat} : mm_ki k pc L st (some (.inr e, h)) = some (.inr e, h) := rfl
theorem kt_kv : mm_kv k pc L st (some (.inl none, h)) = mE k pc L st h := rfl
theorem kt_kvx {e : Nat} : mm_kv k pc L st (some (.inr e, h)) = some (.inr e, h) := rfl
theorem kt_kl {v : Int64} : mm_kl k pc L st (some (.inl (some (.long v)), h)) = mE k pc L (.long v :: st) h := rfl
theorem kt_klx {e : Nat} : mm_kl k pc L st (some (.inr e, h)) = some (.inr e, h) := rfl
theorem kt_kq {v : UInt64} : mm_kq k pc L st (some (.inl (some (.double v)), h)) = mE k pc L (.double v :: st) h := rfl
theorem kt_kqx {e : Nat} : mm_kq k pc L st (some (.inr e, h)) = some (.inr e, h) := rfl
theorem e_iconst {n : Int} {v : Int32} (hb : mB k = cc) (hd : decode cc pc = .ok (.iconst n, 1)) (hv : Int32.ofInt n = v) : mE k pc L st h = mE k (pc + 1) L (.int v :: st) h := by
  subst hv
  exact mE_sm hb hd (Or.inl rfl) rfl
theorem e_bipush {n : Int} {v : Int32} (hb : mB k = cc) (hd : decode cc pc = .ok (.bipush n, 2)) (hv : (Int8.ofInt n).toInt32 = v) : mE k pc L st h = mE k (pc + 2) L (.int v :: st) h := by
  subst hv
  exact mE_sm hb hd (Or.inl rfl) rfl
theorem e_sipush {n : Int} {v : Int32} (hb : mB k = cc) (hd : decode cc pc = .ok (.sipush n, 3)) (hv : (Int16.ofInt n).toInt32 = v) : mE k pc L st h = mE k (pc + 3) L (.int v :: st) h := by
  subst hv
  exact mE_sm hb hd (Or.inl rfl) rfl
theorem e_lconst {n : Fin 2} {v : Int64} (hb : mB k = cc) (hd : decode cc pc = .ok (.lconst n, 1)) (hv : Int64.ofNat (n : Nat) = v) : mE k pc L st h = mE k (pc + 1) L (.long v :: st) h := by
  subst hv
  exact mE_sm hb hd (Or.inl rfl) rfl
theorem e_dconst0 (hb : mB k = cc) (hd : decode cc pc = .ok (.dconst 0, 1)) : mE k pc L st h = mE k (pc + 1) L (.double FP.dconst0 :: st) h := mE_sm hb hd (Or.inl rfl) rfl
theorem e_ldc {x : Nat} {v : Int32} (hb : mB k = cc) (hd : decode cc pc = .ok (.ldc x, 2)) (hv : mCst (mC k) x = some v) : mE k pc L st h = mE k (pc + 2) L (.int v :: st) h := by
  refine mE_sm hb hd (Or.inl rfl) ?_
  unfold mm_sm mm_sA
  dsimp only
  rw [hv]
  rfl
theorem e_ldcw {x : Nat} {v : Int32} (hb : mB k = cc) (hd : decode cc pc = .ok (.ldc_w x, 3)) (hv : mCst (mC k) x = some v) : mE k pc L st h = mE k (pc + 3) L (.int v :: st) h := by
  refine mE_sm hb hd (Or.inl rfl) ?_
  unfold mm_sm mm_sA
  dsimp only
  rw [hv]
  rfl
theorem e_ldc2 {x : Nat} {v : Int64} (hb : mB k = cc) (hd : decode cc pc = .ok (.ldc2_w x, 3)) (hv : mCstL (mC k) x = some v) : mE k pc L st h = mE k (pc + 3) L (.long v :: st) h := by
  refine mE_sm hb hd (Or.inl rfl) ?_
  unfold mm_sm mm_sA
  dsimp only
  rw [hv]
  rfl
theorem e_iadd {x y : Int32} (hb : mB k = cc) (hd : decode cc pc = .ok (.iadd, 1)) : mE k pc L (.int y :: .int x :: st) h = mE k (pc + 1) L (.int (x + y) :: st) h := mE_sm hb hd (Or.inl rfl) rfl
theorem e_isub {x y : Int32} (hb : mB k = cc) (hd : decode cc pc = .ok (.isub, 1)) : mE k pc L (.int y :: .int x :: st) h = mE k (pc + 1) L (.int (x - y) :: st) h := mE_sm hb hd (Or.inl rfl) rfl
theorem e_imul {x y : Int32} (hb : mB k = cc) (hd : decode cc pc = .ok (.imul, 1)) : mE k pc L (.int y :: .int x :: st) h = mE k (pc + 1) L (.int (x * y) :: st) h := mE_sm hb hd (Or.inl rfl) rfl
theorem e_iand {x y : Int32} (hb : mB k = cc) (hd : decode cc pc = .ok (.iand, 1)) : mE k pc L (.int y :: .int x :: st) h = mE k (pc + 1) L (.int (x &&& y) :: st) h := mE_sm hb hd (Or.inl rfl) rfl
theorem e_ior {x y : Int32} (hb : mB k = cc) (hd : decode cc pc = .ok (.ior, 1)) : mE k pc L (.int y :: .int x :: st) h = mE k (pc + 1) L (.int (x ||| y) :: st) h := mE_sm hb hd (Or.inl rfl) rfl
theorem e_ixor {x y : Int32} (hb : mB k = cc) (hd : decode cc pc = .ok (.ixor, 1)) : mE k pc L (.int y :: .int x :: st) h = mE k (pc + 1) L (.int (x ^^^ y) :: st) h := mE_sm hb hd (Or.inl rfl) rfl
theorem e_ishl {x y : Int32} (hb : mB k = cc) (hd : decode cc pc = .ok (.ishl, 1)) : mE k pc L (.int y :: .int x :: st) h = mE k (pc + 1) L (.int (x <<< (y &&& 31)) :: st) h := mE_sm hb hd (Or.inl rfl) rfl
theorem e_ishr {x y : Int32} (hb : mB k = cc) (hd : decode cc pc = .ok (.ishr, 1)) : mE k pc L (.int y :: .int x :: st) h = mE k (pc + 1) L (.int (x >>> (y &&& 31)) :: st) h := mE_sm hb hd (Or.inl rfl) rfl
theorem e_ladd {x y : Int64} (hb : mB k = cc) (hd : decode cc pc = .ok (.ladd, 1)) : mE k pc L (.long y :: .long x :: st) h = mE k (pc + 1) L (.long (x + y) :: st) h := mE_sm hb hd (Or.inl rfl) rfl
theorem e_lsub {x y : Int64} (hb : mB k = cc) (hd : decode cc pc = .ok (.lsub, 1)) : mE k pc L (.long y :: .long x :: st) h = mE k (pc + 1) L (.long (x - y) :: st) h := mE_sm hb hd (Or.inl rfl) rfl
theorem e_lmul {x y : Int64} (hb : mB k = cc) (hd : decode cc pc = .ok (.lmul, 1)) : mE k pc L (.long y :: .long x :: st) h = mE k (pc + 1) L (.long (x * y) :: st) h := mE_sm hb hd (Or.inl rfl) rfl
theorem e_lcmp {x y : Int64} (hb : mB k = cc) (hd : decode cc pc = .ok (.lcmp, 1)) : mE k pc L (.long y :: .long x :: st) h = mE k (pc + 1) L (.int (lg_cmp x y) :: st) h := mE_sm hb hd (Or.inl rfl) rfl
theorem e_dcmp {x y : UInt64} {op : CmpOp} (hb : mB k = cc) (hd : decode cc pc = .ok (.dcmp op, 1)) : mE k pc L (.double y :: .double x :: st) h = mE k (pc + 1) L (.int (Op.cmpValue (FP.dcmp x y) op) :: st) h := mE_sm hb hd (Or.inl rfl) rfl
theorem mE_ite {c : Prop} [Decidable c] {a : Option mm_R} {b : Option mm_R} {x : Option mm_R} (h1 : c → x = a) (h2 : ¬ c → x = b) : x = if c then a else b := by
  split
  · rename_i q
    exact h1 q
  · rename_i q
    exact h2 q
theorem e_irem {x y : Int32} (hb : mB k = cc) (hd : decode cc pc = .ok (.irem, 1)) : mE k pc L (.int y :: .int x :: st) h = if y = 0 then none else mE k (pc + 1) L (.int (x - x / y * y) :: st) h := by
  refine mE_ite (fun q => ?_) (fun q => mE_sm hb hd (Or.inl rfl) (by unfold mm_sm mm_sA mm_ii; dsimp only; rw [if_neg q]; rfl))
  rw [mE_no hb hd]
  unfold mm_st mm_sm mm_sA mm_ii
  dsimp only
  rw [if_pos q]
  rfl
theorem e_ldiv {x y : Int64} (hb : mB k = cc) (hd : decode cc pc = .ok (.ldiv, 1)) : mE k pc L (.long y :: .long x :: st) h = if y = 0 then none else mE k (pc + 1) L (.long (x / y) :: st) h := by
  refine mE_ite (fun q => ?_) (fun q => mE_sm hb hd (Or.inl rfl) (by unfold mm_sm mm_sA mm_jj; dsimp only; rw [if_neg q]; rfl))
  rw [mE_no hb hd]
  unfold mm_st mm_sm mm_sA mm_jj
  dsimp only
  rw [if_pos q]
  rfl
theorem e_lrem {x y : Int64} (hb : mB k = cc) (hd : decode cc pc = .ok (.lrem, 1)) : mE k pc L (.long y :: .long x :: st) h = if y = 0 then none else mE k (pc + 1) L (.long (x - x / y * y) :: st) h := by
  refine mE_ite (fun q => ?_) (fun q => mE_sm hb hd (Or.inl rfl) (by unfold mm_sm mm_sA mm_jj; dsimp only; rw [if_neg q]; rfl))
  rw [mE_no hb hd]
  unfold mm_st mm_sm mm_sA mm_jj
  dsimp only
  rw [if_pos q]
  rfl
theorem e_ddiv {x y : UInt64} (hb : mB k = cc) (hd : decode cc pc = .ok (.ddiv, 1)) (q : FP.ddiv x y &&& 0x7fffffffffffffff ≤ 0x7ff0000000000000) : mE k pc L (.double y :: .double x :: st) h = mE k (pc + 1) L (.double (FP.ddiv x y) :: st) h :=
  mE_sm hb hd (Or.inl rfl) (by unfold mm_sm mm_sA mm_dd; dsimp only; rw [if_pos q]; rfl)
theorem e_i2l {x : Int32} (hb : mB k = cc) (hd : decode cc pc = .ok (.i2l, 1)) : mE k pc L (.int x :: st) h = mE k (pc + 1) L (.long x.toInt64 :: st) h := mE_sm hb hd (Or.inl rfl) rfl
theorem e_l2i {x : Int64} (hb : mB k = cc) (hd : decode cc pc = .ok (.l2i, 1)) : mE k pc L (.long x :: st) h = mE k (pc + 1) L (.int x.toInt32 :: st) h := mE_sm hb hd (Or.inl rfl) rfl
theorem e_i2c {x : Int32} (hb : mB k = cc) (hd : decode cc pc = .ok (.i2c, 1)) : mE k pc L (.int x :: st) h = mE k (pc + 1) L (.int (x.toUInt32 % 65536).toInt32 :: st) h := mE_sm hb hd (Or.inl rfl) rfl
theorem e_i2d {x : Int32} (hb : mB k = cc) (hd : decode cc pc = .ok (.i2d, 1)) : mE k pc L (.int x :: st) h = mE k (pc + 1) L (.double (FP.i2d x) :: st) h := mE_sm hb hd (Or.inl rfl) rfl
theorem e_dup {v : Value} (hb : mB k = cc) (hd : decode cc pc = .ok (.dup, 1)) (hv : v.category = 1) : mE k pc L (v :: st) h = mE k (pc + 1) L (v :: v :: st) h := mE_sm hb hd (Or.inl rfl) (by unfold mm_sm mm_sA; dsimp only; rw [if_pos hv])
theorem e_dup2 {v w : Value} (hb : mB k = cc) (hd : decode cc pc = .ok (.dup2, 1)) (hv : v.category = 1) (hw : w.category = 1) : mE k pc L (v :: w :: st) h = mE k (pc + 1) L (v :: w :: v :: w :: st) h := mE_sm hb hd (Or.inl rfl) (by unfold mm_sm mm_sA; dsimp only; rw [if_pos ⟨hv, hw⟩])
theorem e_pop {v : Value} (hb : mB k = cc) (hd : decode cc pc = .ok (.pop, 1)) (hv : v.category = 1) : mE k pc L (v :: st) h = mE k (pc + 1) L st h := mE_sm hb hd (Or.inl rfl) (by unfold mm_sm mm_sA; dsimp only; rw [if_pos hv])
theorem e_iload {i : Nat} {x : Int32} (hb : mB k = cc) (hd : decode cc pc = .ok (.iload i, 2)) (hl : L[i]? = some (some (.int x))) : mE k pc L st h = mE k (pc + 2) L (.int x :: st) h := mE_sm hb hd (Or.inl rfl) (by unfold mm_sm mm_sA mm_sL mm_ldI; dsimp only; rw [hl])
theorem e_iload_n {i : Fin 4} {x : Int32} (hb : mB k = cc) (hd : decode cc pc = .ok (.iload_n i, 1)) (hl : L[(i : Nat)]? = some (some (.int x))) : mE k pc L st h = mE k (pc + 1) L (.int x :: st) h := mE_sm hb hd (Or.inl rfl) (by unfold mm_sm mm_sA mm_sL mm_ldI; dsimp only; rw [hl])
theorem e_lload {i : Nat} {x : Int64} (hb : mB k = cc) (hd : decode cc pc = .ok (.lload i, 2)) (hl : L[i]? = some (some (.long x))) : mE k pc L st h = mE k (pc + 2) L (.long x :: st) h := mE_sm hb hd (Or.inl rfl) (by unfold mm_sm mm_sA mm_sL mm_ldJ; dsimp only; rw [hl])
theorem e_lload_n {i : Fin 4} {x : Int64} (hb : mB k = cc) (hd : decode cc pc = .ok (.lload_n i, 1)) (hl : L[(i : Nat)]? = some (some (.long x))) : mE k pc L st h = mE k (pc + 1) L (.long x :: st) h := mE_sm hb hd (Or.inl rfl) (by unfold mm_sm mm_sA mm_sL mm_ldJ; dsimp only; rw [hl])
theorem e_aload {i : Nat} {x : Nat} (hb : mB k = cc) (hd : decode cc pc = .ok (.aload i, 2)) (hl : L[i]? = some (some (.ref x))) : mE k pc L st h = mE k (pc + 2) L (.ref x :: st) h := mE_sm hb hd (Or.inl rfl) (by unfold mm_sm mm_sA mm_sL mm_ldA; dsimp only; rw [hl])
theorem e_aload_n {i : Fin 4} {x : Nat} (hb : mB k = cc) (hd : decode cc pc = .ok (.aload_n i, 1)) (hl : L[(i : Nat)]? = some (some (.ref x))) : mE k pc L st h = mE k (pc + 1) L (.ref x :: st) h := mE_sm hb hd (Or.inl rfl) (by unfold mm_sm mm_sA mm_sL mm_ldA; dsimp only; rw [hl])
theorem e_dload {i : Nat} {x : UInt64} (hb : mB k = cc) (hd : decode cc pc = .ok (.dload i, 2)) (hl : L[i]? = some (some (.double x))) : mE k pc L st h = mE k (pc + 2) L (.double x :: st) h := mE_sm hb hd (Or.inl rfl) (by unfold mm_sm mm_sA mm_sL mm_ldD; dsimp only; rw [hl])
theorem e_aload_ns {i : Fin 4} {x : Nat} (hb : mB k = cc) (hd : decode cc pc = .ok (.aload_n i, 1)) (hl : L[(i : Nat)]? = some (some (.retAddr x))) : mE k pc L st h = mE k (pc + 1) L (.retAddr x :: st) h := mE_sm hb hd (Or.inl rfl) (by unfold mm_sm mm_sA mm_sL mm_ldA; dsimp only; rw [hl])
theorem mm_ok_f {L : mm_L} {i : Nat} (h : i < L.length) : mm_ok false L i = true := by
  simp [mm_ok, h]
theorem mm_ok_t {L : mm_L} {i : Nat} {l : Option Value} (h : i + 1 < L.length) (hl : L[i]? = some l) (hc : mm_c2 (some l) = false) : mm_ok true L (i + 1) = true := by
  simp [mm_ok, h, hl, hc]
theorem mm_ok_n {L : mm_L} {i : Nat} {l : Option Value} (hl : L[i]? = some l) (hc : mm_c2 (some l) = true) : mm_ok true L (i + 1) = false := by
  simp [mm_ok, hl, hc]
theorem e_istore {i : Nat} {x : Int32} (hb : mB k = cc) (hd : decode cc pc = .ok (.istore i, 2)) (hg : mG k = false) (hi : i < L.length) (hL : L.set i (some (.int x)) = L') : mE k pc L (.int x :: st) h = mE k (pc + 2) L' st h := by
  subst hL
  exact mE_sm hb hd (Or.inl rfl) (by unfold mm_sm mm_sA mm_sL mm_stI; dsimp only; rw [hg, mm_ok_f hi]; rfl)
theorem e_istoreg {i : Nat} {j : Nat} {l : Option Value} {x : Int32} (hb : mB k = cc) (hd : decode cc pc = .ok (.istore i, 2)) (hg : mG k = true) (hj : i = j + 1) (hi : j + 1 < L.length) (hl : L[j]? = some l) (hL : L.set i (some (.int x)) = L') : mE k pc L (.int x :: st) h = if mm_c2 (some l) = true then none else mE k (pc + 2) L' st h := by
  subst hL
  refine mE_ite (fun q => ?_) (fun q => mE_sm hb hd (Or.inl rfl) (by unfold mm_sm mm_sA mm_sL mm_stI; dsimp only; rw [hg, hj, mm_ok_t hi hl (Bool.not_eq_true _ ▸ q)]; rfl))
  rw [mE_no hb hd]
  unfold mm_st mm_sm mm_sA mm_sL mm_stI
  dsimp only
  rw [hg, hj, mm_ok_n hl q]
  rfl
theorem e_istore_n {i : Fin 4} {x : Int32} (hb : mB k = cc) (hd : decode cc pc = .ok (.istore_n i, 1)) (hg : mG k = false) (hi : (i : Nat) < L.length) (hL : L.set (i : Nat) (some (.int x)) = L') : mE k pc L (.int x :: st) h = mE k (pc + 1) L' st h := by
  subst hL
  exact mE_sm hb hd (Or.inl rfl) (by unfold mm_sm mm_sA mm_sL mm_stI; dsimp only; rw [hg, mm_ok_f hi]; rfl)
theorem e_istore_ng {i : Fin 4} {j : Nat} {l : Option Value} {x : Int32} (hb : mB k = cc) (hd : decode cc pc = .ok (.istore_n i, 1)) (hg : mG k = true) (hj : (i : Nat) = j + 1) (hi : j + 1 < L.length) (hl : L[j]? = some l) (hL : L.set (i : Nat) (some (.int x)) = L') : mE k pc L (.int x :: st) h = if mm_c2 (some l) = true then none else mE k (pc + 1) L' st h := by
  subst hL
  refine mE_ite (fun q => ?_) (fun q => mE_sm hb hd (Or.inl rfl) (by unfold mm_sm mm_sA mm_sL mm_stI; dsimp only; rw [hg, hj, mm_ok_t hi hl (Bool.not_eq_true _ ▸ q)]; rfl))
  rw [mE_no hb hd]
  unfold mm_st mm_sm mm_sA mm_sL mm_stI
  dsimp only
  rw [hg, hj, mm_ok_n hl q]
  rfl
theorem e_astore {i : Nat} {x : Nat} (hb : mB k = cc) (hd : decode cc pc = .ok (.astore i, 2)) (hg : mG k = false) (hi : i < L.length) (hL : L.set i (some (.ref x)) = L') : mE k pc L (.ref x :: st) h = mE k (pc + 2) L' st h := by
  subst hL
  exact mE_sm hb hd (Or.inl rfl) (by unfold mm_sm mm_sA mm_sL mm_stA; dsimp only; rw [hg, mm_ok_f hi]; rfl)
theorem e_astoreg {i : Nat} {j : Nat} {l : Option Value} {x : Nat} (hb : mB k = cc) (hd : decode cc pc = .ok (.astore i, 2)) (hg : mG k = true) (hj : i = j + 1) (hi : j + 1 < L.length) (hl : L[j]? = some l) (hL : L.set i (some (.ref x)) = L') : mE k pc L (.ref x :: st) h = if mm_c2 (some l) = true then none else mE k (pc + 2) L' st h := by
  subst hL
  refine mE_ite (fun q => ?_) (fun q => mE_sm hb hd (Or.inl rfl) (by unfold mm_sm mm_sA mm_sL mm_stA; dsimp only; rw [hg, hj, mm_ok_t hi hl (Bool.not_eq_true _ ▸ q)]; rfl))
  rw [mE_no hb hd]
  unfold mm_st mm_sm mm_sA mm_sL mm_stA
  dsimp only
  rw [hg, hj, mm_ok_n hl q]
  rfl
theorem e_astore_n {i : Fin 4} {x : Nat} (hb : mB k = cc) (hd : decode cc pc = .ok (.astore_n i, 1)) (hg : mG k = false) (hi : (i : Nat) < L.length) (hL : L.set (i : Nat) (some (.ref x)) = L') : mE k pc L (.ref x :: st) h = mE k (pc + 1) L' st h := by
  subst hL
  exact mE_sm hb hd (Or.inl rfl) (by unfold mm_sm mm_sA mm_sL mm_stA; dsimp only; rw [hg, mm_ok_f hi]; rfl)
theorem e_astore_ng {i : Fin 4} {j : Nat} {l : Option Value} {x : Nat} (hb : mB k = cc) (hd : decode cc pc = .ok (.astore_n i, 1)) (hg : mG k = true) (hj : (i : Nat) = j + 1) (hi : j + 1 < L.length) (hl : L[j]? = some l) (hL : L.set (i : Nat) (some (.ref x)) = L') : mE k pc L (.ref x :: st) h = if mm_c2 (some l) = true then none else mE k (pc + 1) L' st h := by
  subst hL
  refine mE_ite (fun q => ?_) (fun q => mE_sm hb hd (Or.inl rfl) (by unfold mm_sm mm_sA mm_sL mm_stA; dsimp only; rw [hg, hj, mm_ok_t hi hl (Bool.not_eq_true _ ▸ q)]; rfl))
  rw [mE_no hb hd]
  unfold mm_st mm_sm mm_sA mm_sL mm_stA
  dsimp only
  rw [hg, hj, mm_ok_n hl q]
  rfl
theorem e_lstoreg {i : Nat} {j : Nat} {l : Option Value} {x : Int64} (hb : mB k = cc) (hd : decode cc pc = .ok (.lstore i, 2)) (hg : mG k = true) (hj : i = j + 1) (hi : j + 1 + 1 < L.length) (hl : L[j]? = some l) (hL : (L.set i (some (.long x))).set (i + 1) none = L') : mE k pc L (.long x :: st) h = if mm_c2 (some l) = true then none else mE k (pc + 2) L' st h := by
  subst hL
  refine mE_ite (fun q => ?_) (fun q => mE_sm hb hd (Or.inl rfl) (by unfold mm_sm mm_sA mm_sL mm_stJ; dsimp only; rw [hg, hj, mm_ok_t (by omega) hl (Bool.not_eq_true _ ▸ q), if_pos ⟨rfl, rfl, hi⟩]))
  rw [mE_no hb hd]
  unfold mm_st mm_sm mm_sA mm_sL mm_stJ
  dsimp only
  rw [hg, hj, mm_ok_n hl q]
  rfl
theorem e_lstore_ng {i : Fin 4} {j : Nat} {l : Option Value} {x : Int64} (hb : mB k = cc) (hd : decode cc pc = .ok (.lstore_n i, 1)) (hg : mG k = true) (hj : (i : Nat) = j + 1) (hi : j + 1 + 1 < L.length) (hl : L[j]? = some l) (hL : (L.set (i : Nat) (some (.long x))).set ((i : Nat) + 1) none = L') : mE k pc L (.long x :: st) h = if mm_c2 (some l) = true then none else mE k (pc + 1) L' st h := by
  subst hL
  refine mE_ite (fun q => ?_) (fun q => mE_sm hb hd (Or.inl rfl) (by unfold mm_sm mm_sA mm_sL mm_stJ; dsimp only; rw [hg, hj, mm_ok_t (by omega) hl (Bool.not_eq_true _ ▸ q), if_pos ⟨rfl, rfl, hi⟩]))
  rw [mE_no hb hd]
  unfold mm_st mm_sm mm_sA mm_sL mm_stJ
  dsimp only
  rw [hg, hj, mm_ok_n hl q]
  rfl
theorem e_dstoreg {i : Nat} {j : Nat} {l : Option Value} {x : UInt64} (hb : mB k = cc) (hd : decode cc pc = .ok (.dstore i, 2)) (hg : mG k = true) (hj : i = j + 1) (hi : j + 1 + 1 < L.length) (hl : L[j]? = some l) (hL : (L.set i (some (.double x))).set (i + 1) none = L') : mE k pc L (.double x :: st) h = if mm_c2 (some l) = true then none else mE k (pc + 2) L' st h := by
  subst hL
  refine mE_ite (fun q => ?_) (fun q => mE_sm hb hd (Or.inl rfl) (by unfold mm_sm mm_sA mm_sL mm_stD; dsimp only; rw [hg, hj, mm_ok_t (by omega) hl (Bool.not_eq_true _ ▸ q), if_pos ⟨rfl, rfl, hi⟩]))
  rw [mE_no hb hd]
  unfold mm_st mm_sm mm_sA mm_sL mm_stD
  dsimp only
  rw [hg, hj, mm_ok_n hl q]
  rfl
theorem e_iinc {i : Nat} {n : Int} {x v : Int32} (hb : mB k = cc) (hd : decode cc pc = .ok (.iinc i n, 3)) (hg : mG k = false) (hl : L[i]? = some (some (.int x))) (hi : i < L.length) (hv : Int32.ofInt n = v) (hL : L.set i (some (.int (x + v))) = L') : mE k pc L st h = mE k (pc + 3) L' st h := by
  subst hL
  subst hv
  exact mE_sm hb hd (Or.inl rfl) (by unfold mm_sm mm_sA mm_sL mm_inc; dsimp only; rw [hl]; dsimp only; rw [hg, mm_ok_f hi]; rfl)
theorem e_iincg {i j : Nat} {l : Option Value} {n : Int} {x v : Int32} (hb : mB k = cc) (hd : decode cc pc = .ok (.iinc i n, 3)) (hg : mG k = true) (hj : i = j + 1) (hlj : L[j]? = some l) (hl : L[i]? = some (some (.int x))) (hi : j + 1 < L.length) (hv : Int32.ofInt n = v) (hL : L.set i (some (.int (x + v))) = L') : mE k pc L st h = if mm_c2 (some l) = true then none else mE k (pc + 3) L' st h := by
  subst hL
  subst hv
  subst hj
  refine mE_ite (fun q => ?_) (fun q => mE_sm hb hd (Or.inl rfl) (by unfold mm_sm mm_sA mm_sL mm_inc; dsimp only; rw [hl]; dsimp only; rw [hg, mm_ok_t hi hlj (Bool.not_eq_true _ ▸ q)]; rfl))
  rw [mE_no hb hd]
  unfold mm_st mm_sm mm_sA mm_sL mm_inc
  dsimp only
  rw [hl]
  dsimp only
  rw [hg, mm_ok_n hlj q]
  rfl
theorem mm_tg_of {pc t : Nat} {off : Int} (h : (pc : Int) + off = (t : Int)) : mm_tg pc off = some t := by
  unfold mm_tg
  rw [h, if_pos (Int.natCast_nonneg t)]
  rfl
theorem e_goto {off : Int} {t : Nat} (hb : mB k = cc) (hd : decode cc pc = .ok (.goto off, 3)) (ht : (pc : Int) + off = (t : Int)) : mE k pc L st h = mE k t L st h := mE_sm hb hd (Or.inl rfl) (by unfold mm_sm mm_sA mm_sL mm_sB; dsimp only; rw [mm_tg_of ht]; rfl)
theorem e_if_eq {off : Int} {t : Nat} {x : Int32} (hb : mB k = cc) (hd : decode cc pc = .ok (.ifCond .eq off, 3)) (ht : (pc : Int) + off = (t : Int)) : mE k pc L (.int x :: st) h = if x = 0 then mE k t L st h else mE k (pc + 3) L st h := by
  refine mE_ite (fun q => mE_sm hb hd (Or.inl rfl) ?_) (fun q => mE_sm hb hd (Or.inl rfl) ?_)
  · unfold mm_sm mm_sA mm_sL mm_sB
    dsimp only
    rw [mm_tg_of ht]
    simp [mm_cd, q]
  · unfold mm_sm mm_sA mm_sL mm_sB
    dsimp only
    rw [mm_tg_of ht]
    simp [mm_cd, q]
theorem e_icmp_eq {off : Int} {t : Nat} {x y : Int32} (hb : mB k = cc) (hd : decode cc pc = .ok (.if_icmp .eq off, 3)) (ht : (pc : Int) + off = (t : Int)) : mE k pc L (.int y :: .int x :: st) h = if x = y then mE k t L st h else mE k (pc + 3) L st h := by
  refine mE_ite (fun q => mE_sm hb hd (Or.inl rfl) ?_) (fun q => mE_sm hb hd (Or.inl rfl) ?_)
  · unfold mm_sm mm_sA mm_sL mm_sB
    dsimp only
    rw [mm_tg_of ht]
    simp [mm_cd, q]
  · unfold mm_sm mm_sA mm_sL mm_sB
    dsimp only
    rw [mm_tg_of ht]
    simp [mm_cd, q]
theorem e_if_ne {off : Int} {t : Nat} {x : Int32} (hb : mB k = cc) (hd : decode cc pc = .ok (.ifCond .ne off, 3)) (ht : (pc : Int) + off = (t : Int)) : mE k pc L (.int x :: st) h = if x = 0 then mE k (pc + 3) L st h else mE k t L st h := by
  refine mE_ite (fun q => mE_sm hb hd (Or.inl rfl) ?_) (fun q => mE_sm hb hd (Or.inl rfl) ?_)
  · unfold mm_sm mm_sA mm_sL mm_sB
    dsimp only
    rw [mm_tg_of ht]
    simp [mm_cd, q]
  · unfold mm_sm mm_sA mm_sL mm_sB
    dsimp only
    rw [mm_tg_of ht]
    simp [mm_cd, q]
theorem e_icmp_ne {off : Int} {t : Nat} {x y : Int32} (hb : mB k = cc) (hd : decode cc pc = .ok (.if_icmp .ne off, 3)) (ht : (pc : Int) + off = (t : Int)) : mE k pc L (.int y :: .int x :: st) h = if x = y then mE k (pc + 3) L st h else mE k t L st h := by
  refine mE_ite (fun q => mE_sm hb hd (Or.inl rfl) ?_) (fun q => mE_sm hb hd (Or.inl rfl) ?_)
  · unfold mm_sm mm_sA mm_sL mm_sB
    dsimp only
    rw [mm_tg_of ht]
    simp [mm_cd, q]
  · unfold mm_sm mm_sA mm_sL mm_sB
    dsimp only
    rw [mm_tg_of ht]
    simp [mm_cd, q]
theorem e_if_lt {off : Int} {t : Nat} {x : Int32} (hb : mB k = cc) (hd : decode cc pc = .ok (.ifCond .lt off, 3)) (ht : (pc : Int) + off = (t : Int)) : mE k pc L (.int x :: st) h = if x < 0 then mE k t L st h else mE k (pc + 3) L st h := by
  refine mE_ite (fun q => mE_sm hb hd (Or.inl rfl) ?_) (fun q => mE_sm hb hd (Or.inl rfl) ?_)
  · unfold mm_sm mm_sA mm_sL mm_sB
    dsimp only
    rw [mm_tg_of ht]
    simp [mm_cd, q]
  · unfold mm_sm mm_sA mm_sL mm_sB
    dsimp only
    rw [mm_tg_of ht]
    simp [mm_cd, q]
theorem e_icmp_lt {off : Int} {t : Nat} {x y : Int32} (hb : mB k = cc) (hd : decode cc pc = .ok (.if_icmp .lt off, 3)) (ht : (pc : Int) + off = (t : Int)) : mE k pc L (.int y :: .int x :: st) h = if x < y then mE k t L st h else mE k (pc + 3) L st h := by
  refine mE_ite (fun q => mE_sm hb hd (Or.inl rfl) ?_) (fun q => mE_sm hb hd (Or.inl rfl) ?_)
  · unfold mm_sm mm_sA mm_sL mm_sB
    dsimp only
    rw [mm_tg_of ht]
    simp [mm_cd, q]
  · unfold mm_sm mm_sA mm_sL mm_sB
    dsimp only
    rw [mm_tg_of ht]
    simp [mm_cd, q]
theorem e_if_ge {off : Int} {t : Nat} {x : Int32} (hb : mB k = cc) (hd : decode cc pc = .ok (.ifCond .ge off, 3)) (ht : (pc : Int) + off = (t : Int)) : mE k pc L (.int x :: st) h = if 0 ≤ x then mE k t L st h else mE k (pc + 3) L st h := by
  refine mE_ite (fun q => mE_sm hb hd (Or.inl rfl) ?_) (fun q => mE_sm hb hd (Or.inl rfl) ?_)
  · unfold mm_sm mm_sA mm_sL mm_sB
    dsimp only
    rw [mm_tg_of ht]
    simp [mm_cd, q]
  · unfold mm_sm mm_sA mm_sL mm_sB
    dsimp only
    rw [mm_tg_of ht]
    simp [mm_cd, q]
theorem e_icmp_ge {off : Int} {t : Nat} {x y : Int32} (hb : mB k = cc) (hd : decode cc pc = .ok (.if_icmp .ge off, 3)) (ht : (pc : Int) + off = (t : Int)) : mE k pc L (.int y :: .int x :: st) h = if y ≤ x then mE k t L st h else mE k (pc + 3) L st h := by
  refine mE_ite (fun q => mE_sm hb hd (Or.inl rfl) ?_) (fun q => mE_sm hb hd (Or.inl rfl) ?_)
  · unfold mm_sm mm_sA mm_sL mm_sB
    dsimp only
    rw [mm_tg_of ht]
    simp [mm_cd, q]
  · unfold mm_sm mm_sA mm_sL mm_sB
    dsimp only
    rw [mm_tg_of ht]
    simp [mm_cd, q]
theorem e_if_gt {off : Int} {t : Nat} {x : Int32} (hb : mB k = cc) (hd : decode cc pc = .ok (.ifCond .gt off, 3)) (ht : (pc : Int) + off = (t : Int)) : mE k pc L (.int x :: st) h = if 0 < x then mE k t L st h else mE k (pc + 3) L st h := by
  refine mE_ite (fun q => mE_sm hb hd (Or.inl rfl) ?_) (fun q => mE_sm hb hd (Or.inl rfl) ?_)
  · unfold mm_sm mm_sA mm_sL mm_sB
    dsimp only
    rw [mm_tg_of ht]
    simp [mm_cd, q]
  · unfold mm_sm mm_sA mm_sL mm_sB
    dsimp only
    rw [mm_tg_of ht]
    simp [mm_cd, q]
theorem e_icmp_gt {off : Int} {t : Nat} {x y : Int32} (hb : mB k = cc) (hd : decode cc pc = .ok (.if_icmp .gt off, 3)) (ht : (pc : Int) + off = (t : Int)) : mE k pc L (.int y :: .int x :: st) h = if y < x then mE k t L st h else mE k (pc + 3) L st h := by
  refine mE_ite (fun q => mE_sm hb hd (Or.inl rfl) ?_) (fun q => mE_sm hb hd (Or.inl rfl) ?_)
  · unfold mm_sm mm_sA mm_sL mm_sB
    dsimp only
    rw [mm_tg_of ht]
    simp [mm_cd, q]
  · unfold mm_sm mm_sA mm_sL mm_sB
    dsimp only
    rw [mm_tg_of ht]
    simp [mm_cd, q]
theorem e_if_le {off : Int} {t : Nat} {x : Int32} (hb : mB k = cc) (hd : decode cc pc = .ok (.ifCond .le off, 3)) (ht : (pc : Int) + off = (t : Int)) : mE k pc L (.int x :: st) h = if x ≤ 0 then mE k t L st h else mE k (pc + 3) L st h := by
  refine mE_ite (fun q => mE_sm hb hd (Or.inl rfl) ?_) (fun q => mE_sm hb hd (Or.inl rfl) ?_)
  · unfold mm_sm mm_sA mm_sL mm_sB
    dsimp only
    rw [mm_tg_of ht]
    simp [mm_cd, q]
  · unfold mm_sm mm_sA mm_sL mm_sB
    dsimp only
    rw [mm_tg_of ht]
    simp [mm_cd, q]
theorem e_icmp_le {off : Int} {t : Nat} {x y : Int32} (hb : mB k = cc) (hd : decode cc pc = .ok (.if_icmp .le off, 3)) (ht : (pc : Int) + off = (t : Int)) : mE k pc L (.int y :: .int x :: st) h = if x ≤ y then mE k t L st h else mE k (pc + 3) L st h := by
  refine mE_ite (fun q => mE_sm hb hd (Or.inl rfl) ?_) (fun q => mE_sm hb hd (Or.inl rfl) ?_)
  · unfold mm_sm mm_sA mm_sL mm_sB
    dsimp only
    rw [mm_tg_of ht]
    simp [mm_cd, q]
  · unfold mm_sm mm_sA mm_sL mm_sB
    dsimp only
    rw [mm_tg_of ht]
    simp [mm_cd, q]
end EK
