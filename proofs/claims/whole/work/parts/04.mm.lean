/-! The small machine: a pure interpreter of the bytecode over a logical heap. A heap: ((size, kinds, references, script), ints, longs, doubles, used). A kind: (tag, length); tags 0..8: an object of that class of vwCl; 10 int[], 11 long[], 12 double[], 13 char[], 14 Ledger[] -/
abbrev mm_L : Type := List (Option Value)
abbrev mm_S : Type := Nat × (Nat → Nat × Nat) × (Nat → Nat → Value) × (Nat × (Nat → Int32))
abbrev mm_H : Type := mm_S × (Nat → Nat → Int32) × (Nat → Nat → Int64) × (Nat → Nat → UInt64) × (Nat × Nat)
abbrev mm_R : Type := (Option Value ⊕ Nat) × mm_H
def mm_N (h : mm_H) : Nat := h.1.1
def mm_T (h : mm_H) (a : Nat) : Nat := (h.1.2.1 a).1
def mm_Z (h : mm_H) (a : Nat) : Nat := (h.1.2.1 a).2
def mm_F (h : mm_H) (a k : Nat) : Value := h.1.2.2.1 a k
def mm_X (h : mm_H) : Nat × (Nat → Int32) := h.1.2.2.2
def mm_i (h : mm_H) (a k : Nat) : Int32 := h.2.1 a k
def mm_j (h : mm_H) (a k : Nat) : Int64 := h.2.2.1 a k
def mm_d (h : mm_H) (a k : Nat) : UInt64 := h.2.2.2.1 a k
def mm_u (h : mm_H) : Nat × Nat := h.2.2.2.2
def mm_up {α : Type} (f : Nat → Nat → α) (a k : Nat) (v : α) : Nat → Nat → α := fun x y => if x = a ∧ y = k then v else f x y
def mm_at {α : Type} (f : Nat → α) (a : Nat) (v : α) : Nat → α := fun x => if x = a then v else f x
def mm_cp (f : Nat → Nat → Int32) (a0 a sp dp n : Nat) : Nat → Nat → Int32 := fun x y => if x = a ∧ dp ≤ y ∧ y < dp + n then f a0 (sp + (y - dp)) else f x y
def mm_pi (h : mm_H) (a k : Nat) (v : Int32) : mm_H := (h.1, mm_up h.2.1 a k v, h.2.2)
def mm_pj (h : mm_H) (a k : Nat) (v : Int64) : mm_H := (h.1, h.2.1, mm_up h.2.2.1 a k v, h.2.2.2)
def mm_pd (h : mm_H) (a k : Nat) (v : UInt64) : mm_H := (h.1, h.2.1, h.2.2.1, mm_up h.2.2.2.1 a k v, h.2.2.2.2)
def mm_pf (h : mm_H) (a k : Nat) (v : Value) : mm_H := ((h.1.1, h.1.2.1, mm_up h.1.2.2.1 a k v, h.1.2.2.2), h.2)
def mm_pc (h : mm_H) (a0 a sp dp n : Nat) : mm_H := (h.1, mm_cp h.2.1 a0 a sp dp n, h.2.2)
def mm_th (h : mm_H) : mm_H := (h.1, h.2.1, h.2.2.1, h.2.2.2.1, (h.2.2.2.2.1 + 1, h.2.2.2.2.2 + 6))
/-- a new cell of tag t and length z -/
def mm_nw (h : mm_H) (t z : Nat) : mm_H := ((h.1.1 + 1, mm_at h.1.2.1 h.1.1 (t, z), mm_at h.1.2.2.1 h.1.1 (fun _ => .null), h.1.2.2.2), mm_at h.2.1 h.1.1 (fun _ => 0), mm_at h.2.2.1 h.1.1 (fun _ => 0), mm_at h.2.2.2.1 h.1.1 (fun _ => 0), (h.2.2.2.2.1 + 1, h.2.2.2.2.2 + z))
/-- how many fields a class's objects have; which of them hold references -/
def mm_szs : List Nat := [8, 3, 3, 3, 7, 3, 9, 8, 17]
def mm_sz (t : Nat) : Nat := mm_szs.getD t 0
def mm_law : Nat := 231
-- stacks
def mm_ii (st : List Value) (f : Int32 → Int32 → Option Value) : Option (List Value) := match st with
  | .int y :: .int x :: r => (f x y).map (fun v => v :: r)
  | _ => none
def mm_jj (st : List Value) (f : Int64 → Int64 → Option Value) : Option (List Value) := match st with
  | .long y :: .long x :: r => (f x y).map (fun v => v :: r)
  | _ => none
def mm_dd (st : List Value) (f : UInt64 → UInt64 → Option Value) : Option (List Value) := match st with
  | .double y :: .double x :: r => (f x y).map (fun v => v :: r)
  | _ => none
def mm_i1 (st : List Value) (f : Int32 → Value) : Option (List Value) := match st with
  | .int x :: r => some (f x :: r)
  | _ => none
def mm_j1 (st : List Value) (f : Int64 → Value) : Option (List Value) := match st with
  | .long x :: r => some (f x :: r)
  | _ => none
def mm_sA (c : Nat) (i : ClassFile.Instr) (st : List Value) : Option (List Value) := match i with
  | .iadd => mm_ii st fun x y => some (.int (x + y))
  | .isub => mm_ii st fun x y => some (.int (x - y))
  | .imul => mm_ii st fun x y => some (.int (x * y))
  | .iand => mm_ii st fun x y => some (.int (x &&& y))
  | .ior => mm_ii st fun x y => some (.int (x ||| y))
  | .ixor => mm_ii st fun x y => some (.int (x ^^^ y))
  | .irem => mm_ii st fun x y => if y = 0 then none else some (.int (x - x / y * y))
  | .ishl => mm_ii st fun x y => some (.int (x <<< (y &&& 31)))
  | .ishr => mm_ii st fun x y => some (.int (x >>> (y &&& 31)))
  | .ladd => mm_jj st fun x y => some (.long (x + y))
  | .lsub => mm_jj st fun x y => some (.long (x - y))
  | .lmul => mm_jj st fun x y => some (.long (x * y))
  | .ldiv => mm_jj st fun x y => if y = 0 then none else some (.long (x / y))
  | .lrem => mm_jj st fun x y => if y = 0 then none else some (.long (x - x / y * y))
  | .lcmp => mm_jj st fun x y => some (.int (lg_cmp x y))
  | .ddiv => mm_dd st fun x y => if FP.ddiv x y &&& 0x7fffffffffffffff ≤ 0x7ff0000000000000 then some (.double (FP.ddiv x y)) else none
  | .dcmp op => mm_dd st fun x y => some (.int (Op.cmpValue (FP.dcmp x y) op))
  | .i2l => mm_i1 st fun x => .long x.toInt64
  | .l2i => mm_j1 st fun x => .int x.toInt32
  | .i2c => mm_i1 st fun x => .int (x.toUInt32 % 65536).toInt32
  | .i2d => mm_i1 st fun x => .double (FP.i2d x)
  | .iconst n => some (.int (Int32.ofInt n) :: st)
  | .bipush n => some (.int (Int8.ofInt n).toInt32 :: st)
  | .sipush n => some (.int (Int16.ofInt n).toInt32 :: st)
  | .lconst n => some (.long (Int64.ofNat (n : Nat)) :: st)
  | .dconst n => if n = 0 then some (.double FP.dconst0 :: st) else none
  | .ldc x => (mCst c x).map fun v => .int v :: st
  | .ldc_w x => (mCst c x).map fun v => .int v :: st
  | .ldc2_w x => (mCstL c x).map fun v => .long v :: st
  | .dup => match st with
    | v :: r => if v.category = 1 then some (v :: v :: r) else none
    | _ => none
  | .dup2 => match st with
    | v :: w :: r => if v.category = 1 ∧ w.category = 1 then some (v :: w :: v :: w :: r) else none
    | _ => none
  | .pop => match st with
    | v :: r => if v.category = 1 then some r else none
    | _ => none
  | _ => none
-- locals
def mm_c2 (o : Option (Option Value)) : Bool := match o with
  | some (some v) => v.category == 2
  | _ => false
def mm_ok (g : Bool) (L : mm_L) (i : Nat) : Bool := decide (i < L.length) && (!g || (decide (i = 0) || !mm_c2 L[i - 1]?))
def mm_ldI (L : mm_L) (i : Nat) (st : List Value) : Option (mm_L × List Value) := match L[i]? with
  | some (some (.int x)) => some (L, .int x :: st)
  | _ => none
def mm_ldJ (L : mm_L) (i : Nat) (st : List Value) : Option (mm_L × List Value) := match L[i]? with
  | some (some (.long x)) => some (L, .long x :: st)
  | _ => none
def mm_ldD (L : mm_L) (i : Nat) (st : List Value) : Option (mm_L × List Value) := match L[i]? with
  | some (some (.double x)) => some (L, .double x :: st)
  | _ => none
def mm_ldA (L : mm_L) (i : Nat) (st : List Value) : Option (mm_L × List Value) := match L[i]? with
  | some (some (.ref x)) => some (L, .ref x :: st)
  | some (some (.retAddr x)) => some (L, .retAddr x :: st)
  | _ => none
def mm_stI (g : Bool) (L : mm_L) (i : Nat) (st : List Value) : Option (mm_L × List Value) := match st with
  | .int x :: r => if mm_ok g L i = true then some (L.set i (some (.int x)), r) else none
  | _ => none
def mm_stA (g : Bool) (L : mm_L) (i : Nat) (st : List Value) : Option (mm_L × List Value) := match st with
  | .ref x :: r => if mm_ok g L i = true then some (L.set i (some (.ref x)), r) else none
  | _ => none
def mm_stJ (g : Bool) (L : mm_L) (i : Nat) (st : List Value) : Option (mm_L × List Value) := match st with
  | .long x :: r => if mm_ok g L i = true ∧ g = true ∧ i + 1 < L.length then some ((L.set i (some (.long x))).set (i + 1) none, r) else none
  | _ => none
def mm_stD (g : Bool) (L : mm_L) (i : Nat) (st : List Value) : Option (mm_L × List Value) := match st with
  | .double x :: r => if mm_ok g L i = true ∧ g = true ∧ i + 1 < L.length then some ((L.set i (some (.double x))).set (i + 1) none, r) else none
  | _ => none
def mm_inc (g : Bool) (L : mm_L) (i : Nat) (n : Int) (st : List Value) : Option (mm_L × List Value) := match L[i]? with
  | some (some (.int x)) => if mm_ok g L i = true then some (L.set i (some (.int (x + Int32.ofInt n))), st) else none
  | _ => none
def mm_sL (g : Bool) (i : ClassFile.Instr) (L : mm_L) (st : List Value) : Option (mm_L × List Value) := match i with
  | .iload_n j => mm_ldI L j st
  | .iload j => mm_ldI L j st
  | .lload_n j => mm_ldJ L j st
  | .lload j => mm_ldJ L j st
  | .dload j => mm_ldD L j st
  | .aload_n j => mm_ldA L j st
  | .aload j => mm_ldA L j st
  | .istore_n j => mm_stI g L j st
  | .istore j => mm_stI g L j st
  | .lstore_n j => mm_stJ g L j st
  | .lstore j => mm_stJ g L j st
  | .dstore j => mm_stD g L j st
  | .astore_n j => mm_stA g L j st
  | .astore j => mm_stA g L j st
  | .iinc j n => mm_inc g L j n st
  | _ => none
-- branches
def mm_tg (pc : Nat) (off : Int) : Option Nat := if 0 ≤ (pc : Int) + off then some ((pc : Int) + off).toNat else none
def mm_cd (c : ClassFile.Cond) (x y : Int32) : Bool := match c with
  | .eq => decide (x = y)
  | .ne => !decide (x = y)
  | .lt => decide (x < y)
  | .ge => decide (y ≤ x)
  | .gt => decide (y < x)
  | .le => decide (x ≤ y)
def mm_sB (pc len : Nat) (i : ClassFile.Instr) (st : List Value) : Option (Nat × List Value) := match i with
  | .goto off => (mm_tg pc off).map fun t => (t, st)
  | .ifCond c off => match st with
    | .int x :: r => (mm_tg pc off).map (fun t => (if mm_cd c x 0 = true then t else pc + len, r))
    | _ => none
  | .if_icmp c off => match st with
    | .int y :: .int x :: r => (mm_tg pc off).map (fun t => (if mm_cd c x y = true then t else pc + len, r))
    | _ => none
  | .tableswitch dflt lo hi offs => match st with
    | .int x :: r => if x.toInt < lo ∨ hi < x.toInt then (mm_tg pc dflt).map (fun t => (t, r)) else match offs[(x.toInt - lo).toNat]? with
      | some off => (mm_tg pc off).map (fun t => (t, r))
      | none => none
    | _ => none
  | .lookupswitch dflt ps => match st with
    | .int x :: r => if (ps.toList.zip (ps.toList.drop 1)).all (fun (a, next) => a.1 < next.1) = true then (mm_tg pc (Op.lookupswitch.offset ps.toList dflt x.toInt)).map (fun t => (t, r)) else none
    | _ => none
  | _ => none
-- heap
def mm_ix (i : Int32) (n : Nat) : Option Nat := if ¬ i < 0 ∧ i.toNatClampNeg < n then some i.toNatClampNeg else none
def mm_cat (st : List Value) : Nat := (st.map fun v => v.category).sum
def mm_aty (t : ClassFile.ArrayType) : Option Nat := match t with
  | .int => some 10
  | .long => some 11
  | .double => some 12
  | .char => some 13
  | _ => none
def mm_sH (k : Nat) (i : ClassFile.Instr) (st : List Value) (h : mm_H) : Option (List Value × mm_H) := match i with
  | .getfield x => match mFld (mC k) x with
    | some (ci, s, kd) => match st with
      | .ref a :: r => if mm_T h a = ci then some ((if kd = 2 then mm_F h a s else .int (mm_i h a s)) :: r, h) else none
      | _ => none
    | none => none
  | .putfield x => match mFld (mC k) x with
    | some (ci, s, kd) => match st with
      | .int v :: .ref a :: r => if mm_T h a = ci ∧ (kd = 0 ∨ (kd = 1 ∧ (v = 0 ∨ v = 1))) then some (r, mm_pi h a s v) else none
      | .ref q :: .ref a :: r => if mm_T h a = ci ∧ kd = 2 ∧ mN k = true ∧ mC k = ci then some (r, mm_pf h a s (.ref q)) else none
      | _ => none
    | none => none
  | .iaload => match st with
    | .int j :: .ref a :: r => if mm_T h a = 10 then (mm_ix j (mm_Z h a)).map (fun j => (.int (mm_i h a j) :: r, h)) else none
    | .int j :: .retAddr _ :: r => if k = mm_law then (mm_ix j (mm_X h).1).map (fun j => (.int ((mm_X h).2 j) :: r, h)) else none
    | _ => none
  | .caload => match st with
    | .int j :: .ref a :: r => if mm_T h a = 13 then (mm_ix j (mm_Z h a)).map (fun j => (.int (mm_i h a j) :: r, h)) else none
    | _ => none
  | .laload => match st with
    | .int j :: .ref a :: r => if mm_T h a = 11 then (mm_ix j (mm_Z h a)).map (fun j => (.long (mm_j h a j) :: r, h)) else none
    | _ => none
  | .daload => match st with
    | .int j :: .ref a :: r => if mm_T h a = 12 then (mm_ix j (mm_Z h a)).map (fun j => (.double (mm_d h a j) :: r, h)) else none
    | _ => none
  | .aaload => match st with
    | .int j :: .ref a :: r => if mm_T h a = 14 then (mm_ix j (mm_Z h a)).bind (fun j => match mm_F h a j with
      | .ref q => some (.ref q :: r, h)
      | _ => none) else none
    | _ => none
  | .iastore => match st with
    | .int v :: .int j :: .ref a :: r => if mm_T h a = 10 then (mm_ix j (mm_Z h a)).map (fun j => (r, mm_pi h a j v)) else none
    | _ => none
  | .castore => match st with
    | .int v :: .int j :: .ref a :: r => if mm_T h a = 13 then (mm_ix j (mm_Z h a)).map (fun j => (r, mm_pi h a j (vp_nar .char v))) else none
    | _ => none
  | .lastore => match st with
    | .long v :: .int j :: .ref a :: r => if mm_T h a = 11 then (mm_ix j (mm_Z h a)).map (fun j => (r, mm_pj h a j v)) else none
    | _ => none
  | .dastore => match st with
    | .double v :: .int j :: .ref a :: r => if mm_T h a = 12 then (mm_ix j (mm_Z h a)).map (fun j => (r, mm_pd h a j v)) else none
    | _ => none
  | .aastore => match st with
    | .ref q :: .int j :: .ref a :: r => if mm_T h a = 14 ∧ mm_T h q = 4 then (mm_ix j (mm_Z h a)).map (fun j => (r, mm_pf h a j (.ref q))) else none
    | _ => none
  | .arraylength => match st with
    | .retAddr _ :: r => if k = mm_law then some (.int (Int32.ofNat (mm_X h).1) :: r, h) else none
    | _ => none
  | .newarray t => match st with
    | .int n :: r => match mm_aty t with
      | some tg => if ¬ n < 0 ∧ n.toNatClampNeg ≤ 10000 then some (.ref (mm_N h) :: r, mm_nw h tg n.toNatClampNeg) else none
      | none => none
    | _ => none
  | .anewarray x => match st with
    | .int n :: r => if ¬ n < 0 ∧ n.toNatClampNeg ≤ 10000 ∧ mC k = 3 ∧ x = 9 then some (.ref (mm_N h) :: r, mm_nw h 14 n.toNatClampNeg) else none
    | _ => none
  | .new x => match mNew (mC k) x with
    | some ci => some (.ref (mm_N h) :: st, mm_nw h ci (mm_sz ci))
    | none => none
  | .invokestatic x => match mMet (mC k) x with
    | some (10, _, _) => match st with
      | .int y :: .int x :: r => if mm_cat r ≤ 8 ∧ 1 ≤ mF k ∧ 21 ≤ mO k then some (.int (if y < x then y else x) :: r, h) else none
      | _ => none
    | some (11, _, _) => match st with
      | .int n :: .int dp :: .ref a :: .int sp :: .ref a0 :: r =>
        if mm_T h a0 = 10 ∧ mm_T h a = 10 ∧ (¬ sp < 0 ∧ ¬ dp < 0 ∧ ¬ n < 0) ∧ sp.toNatClampNeg + n.toNatClampNeg ≤ mm_Z h a0 ∧ dp.toNatClampNeg + n.toNatClampNeg ≤ mm_Z h a ∧ mm_cat r ≤ 8 ∧ 1 ≤ mF k ∧ 48 ≤ mO k
        then some (r, mm_pc h a0 a sp.toNatClampNeg dp.toNatClampNeg n.toNatClampNeg) else none
      | _ => none
    | _ => none
  | .invokespecial x => match mMet (mC k) x with
    | some (12, _, _) => match st with
      | .ref _ :: r => if mm_cat r ≤ 8 ∧ 1 ≤ mF k ∧ 20 ≤ mO k then some (r, h) else none
      | _ => none
    | _ => none
  | _ => none
def mm_ln (i : ClassFile.Instr) : Nat := match i with
  | .bipush _ | .iload _ | .lload _ | .dload _ | .aload _ | .istore _ | .lstore _ | .dstore _ | .astore _ | .newarray _ | .ldc _ => 2
  | .sipush _ | .ldc_w _ | .ldc2_w _ | .getfield _ | .putfield _ | .invokevirtual _ | .invokespecial _ | .invokestatic _ | .new _ | .anewarray _ | .iinc _ _ | .ifCond _ _ | .if_icmp _ _ | .goto _ => 3
  | .tableswitch _ _ _ _ | .lookupswitch _ _ => 0
  | _ => 1
/-- an instruction that is neither a call of a method of ours, nor a throw, nor a return -/
def mm_sm (k pc len : Nat) (i : ClassFile.Instr) (L : mm_L) (st : List Value) (h : mm_H) : Option (Nat × mm_L × List Value × mm_H) :=
  match mm_sA (mC k) i st with
  | some st' => some (pc + len, L, st', h)
  | none => match mm_sL (mG k) i L st with
    | some (L', st') => some (pc + len, L', st', h)
    | none => match mm_sB pc len i st with
      | some (pc', st') => some (pc', L, st', h)
      | none => match mm_sH k i st h with
        | some (st', h') => some (pc + len, L, st', h')
        | none => none
def mm_en (k : Nat) (As : List Value) : mm_L := As.map some ++ List.replicate (mL k - As.length) none
def mCTs : List (Nat × Nat) := [(13, 0), (15, 1), (21, 2), (48, 3), (40, 4)]
def mm_find (hh : List (Nat × Nat × Nat × Nat)) (pc e : Nat) : Option Nat := match hh with
  | [] => none
  | q :: t => if q.1 ≤ pc ∧ pc < q.2.1 ∧ mCTs.lookup q.2.2.2 = some e then some q.2.2.1 else mm_find t pc e
abbrev mm_Rec : Type := Nat → Nat → mm_L → List Value → mm_H → Option mm_R
def mm_hd (rec : mm_Rec) (k pc : Nat) (L : mm_L) (e : Nat) (h : mm_H) : Option mm_R := match mm_find (mX k) pc e with
  | none => some (.inr e, h)
  | some hp => match decode (mB k) hp with
    | .ok (.astore_n j, 1) => if (j : Nat) < L.length ∧ mG k = false then rec k (hp + 1) (L.set j none) [] h else none
    | .ok (.astore j, 2) => if j < L.length ∧ mG k = false then rec k (hp + 2) (L.set j none) [] h else none
    | _ => none
/-- the receiver fits; every argument is of one word, none is the script -/
def mm_arg (v : Value) : Bool := match v with
  | .int _ | .ref _ => true
  | _ => false
def mm_rcv (h : mm_H) (t k' : Nat) (As : List Value) : Bool := if t = 1 ∨ t = 4 ∨ t = 7 then true else match As with
  | .ref a :: _ => decide (mm_T h a = mC k')
  | _ => false
def mm_rt (k : Nat) (v : Option Value) : Bool := match v with
  | none => decide (mR k = 0)
  | some (.int _) => decide (mR k = 1 ∨ mR k = 2)
  | some (.long _) => decide (mR k = 3)
  | some (.double _) => decide (mR k = 4)
  | _ => false
def mm_call (rec : mm_Rec) (k pc : Nat) (L : mm_L) (st : List Value) (h : mm_H) (t k' n : Nat) : Option mm_R :=
  let m := if t = 1 ∨ t = 4 ∨ t = 7 then n else n + 1
  if m ≤ st.length ∧ (st.take m).all mm_arg = true ∧ mm_rcv h t k' (st.take m).reverse = true ∧ mm_cat (st.drop m) ≤ 8 ∧ m ≤ mL k' ∧ mF k' < mF k ∧ 8 + (mL k' + 11) + mO k' ≤ mO k then
    match rec k' 0 (mm_en k' (st.take m).reverse) [] h with
    | none => none
    | some (.inl v, h') => if mm_rt k' v = true then rec k (pc + 3) L (v.toList ++ st.drop m) h' else none
    | some (.inr e, h') => mm_hd rec k pc L e h'
  else none
def mm_st (rec : mm_Rec) (k pc len : Nat) (i : ClassFile.Instr) (L : mm_L) (st : List Value) (h : mm_H) : Option mm_R :=
  if (mm_ln i = len ∨ mm_ln i = 0) then
    match mm_sm k pc len i L st h with
    | some (pc', L', st', h') => rec k pc' L' st' h'
    | none => match i with
      | .ireturn => match st with
        | [.int v] => if mR k = 1 ∨ (mR k = 2 ∧ (v = 0 ∨ v = 1)) then some (.inl (some (.int v)), h) else none
        | _ => none
      | .lreturn => match st with
        | [.long v] => if mR k = 3 then some (.inl (some (.long v)), h) else none
        | _ => none
      | .dreturn => match st with
        | [.double v] => if mR k = 4 then some (.inl (some (.double v)), h) else none
        | _ => none
      | .return_ => match st with
        | [] => if mR k = 0 then some (.inl none, h) else none
        | _ => none
      | .invokevirtual x => match mMet (mC k) x with
        | some (t, k', n) => if t = 0 then mm_call rec k pc L st h t k' n else none
        | none => none
      | .invokestatic x => match mMet (mC k) x with
        | some (t, k', n) => if t = 1 ∨ t = 4 ∨ t = 7 then mm_call rec k pc L st h t k' n else none
        | none => none
      | .invokespecial x => match mMet (mC k) x with
        | some (t, k', n) => if t = 2 ∨ t = 5 then mm_call rec k pc L st h t k' n else none
        | none => none
      | .new _ => match mThr k pc with
        | some (e, _) => if mm_cat st ≤ 8 ∧ mX k = [] ∧ 6 ≤ mF k ∧ 90 ≤ mO k then some (.inr e, mm_th h) else none
        | none => none
      | _ => none
  else none
def mm_run : Nat → mm_Rec
  | 0 => fun _ _ _ _ _ => none
  | n + 1 => fun k pc L st h => match decode (mB k) pc with
    | .ok (i, len) => mm_st (mm_run n) k pc len i L st h
    | _ => none
