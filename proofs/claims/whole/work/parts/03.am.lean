/-! ===== THE ABSTRACT MACHINE: a heap is a list of cells, by the order in which they were made; references are places in it ===== -/
abbrev am_H : Type := List va_E
/-- an instruction, its length, two numbers that say what it is linked to, the place of its word, the constant that it pushes or adds -/
abbrev am_I : Type := Instr × Nat × Nat × Nat × Nat × Value
abbrev am_L : Type := List (Option Value)
abbrev am_F : Type := Nat × am_L × List Value
/-- String constants are the references from here on; the script is the one at am_SC -/
def am_SB : Nat := 1000000
def am_SC : Nat := 2000000
def am_ty (t : Nat) : FieldType := match t with
  | 0 => .int
  | 1 => .long
  | 2 => .byte
  | 3 => .boolean
  | 4 => .object "DateVale$Stand"
  | _ => .object "DateVale$Mark"
def RX99 : String := "java/util/NoSuchElementException"
def TX99 : u_T := fun _ => ("", "", "", false)
abbrev am_cl : List vw_C := [(RX0, TX0, 3), (RX1, TX1, 3), (RX2, TX2, 3), (RX3, TX3, 4), (RX5, TX5, 3), (RX6, TX6, 11), (RX7, TX7, 9), (RX8, TX8, 16), (RX9, TX9, 14), (RX10, TX10, 32), (RX99, TX99, 0)]
def am_fty (ci k : Nat) : FieldType := match ci with
  | 0 => tyX0 k
  | 1 => tyX1 k
  | 2 => tyX2 k
  | 3 => tyX3 k
  | 4 => tyX5 k
  | 5 => tyX6 k
  | 6 => tyX7 k
  | 7 => tyX8 k
  | 8 => tyX9 k
  | 9 => tyX10 k
  | _ => .int
/-! ## heap -/
def am_gF (h : am_H) (a ci k : Nat) : Option Value := match h[a]? with
  | some (.inr (c, fs)) => if c = ci then fs[k]? else none
  | _ => none
def am_fit (ty : FieldType) (v : Value) : Bool := match ty, v with
  | .int, .int _ => true
  | .long, .long _ => true
  | .boolean, .int x => x == 0 || x == 1
  | .object _, .ref _ => true
  | .array _, .ref _ => true
  | _, _ => false
def am_pF (h : am_H) (a ci k : Nat) (v : Value) : Option am_H := match h[a]? with
  | some (.inr (c, fs)) => if c = ci ∧ k < fs.length ∧ am_fit (am_fty ci k) v = true then some (h.set a (.inr (ci, fs.set k v))) else none
  | _ => none
def am_aI (h : am_H) (t a : Nat) (i : Int32) : Option Int32 := match h[a]? with
  | some (.inl (t', n, .inl f)) => if t' = t ∧ ¬ (i < 0 ∨ n ≤ i.toNatClampNeg) then some (f i.toNatClampNeg) else none
  | _ => none
def am_aL (h : am_H) (a : Nat) (i : Int32) : Option Int64 := match h[a]? with
  | some (.inl (t', n, .inr (.inl f))) => if t' = 1 ∧ ¬ (i < 0 ∨ n ≤ i.toNatClampNeg) then some (f i.toNatClampNeg) else none
  | _ => none
def am_aR (h : am_H) (a : Nat) (i : Int32) : Option Nat := match h[a]? with
  | some (.inl (t', n, .inr (.inr (.inr (.inr f))))) => if (t' = 4 ∨ t' = 5) ∧ ¬ (i < 0 ∨ n ≤ i.toNatClampNeg) then f i.toNatClampNeg else none
  | _ => none
def am_nar (t : Nat) (x : Int32) : Int32 := match t with
  | 2 => vp_nar .byte x
  | 3 => vp_nar .boolean x
  | _ => x
def am_sI (h : am_H) (t a : Nat) (i x : Int32) : Option am_H := match h[a]? with
  | some (.inl (t', n, .inl f)) => if t' = t ∧ ¬ (i < 0 ∨ n ≤ i.toNatClampNeg) then some (h.set a (.inl (t, n, .inl (upd f i.toNatClampNeg (am_nar t x))))) else none
  | _ => none
def am_sL (h : am_H) (a : Nat) (i : Int32) (x : Int64) : Option am_H := match h[a]? with
  | some (.inl (t', n, .inr (.inl f))) => if t' = 1 ∧ ¬ (i < 0 ∨ n ≤ i.toNatClampNeg) then some (h.set a (.inl (1, n, .inr (.inl (vp_updL f i.toNatClampNeg x))))) else none
  | _ => none
def am_okR (t ci : Nat) : Bool := (t == 4 && ci == 5) || (t == 5 && ci == 2)
def am_sR (h : am_H) (a : Nat) (i : Int32) (v : Nat) : Option am_H := match h[a]?, h[v]? with
  | some (.inl (t, n, .inr (.inr (.inr (.inr f))))), some (.inr (ci, _)) => if am_okR t ci = true ∧ ¬ (i < 0 ∨ n ≤ i.toNatClampNeg) then some (h.set a (.inl (t, n, .inr (.inr (.inr (.inr (va_up f i.toNatClampNeg (some v)))))))) else none
  | _, _ => none
def am_len (h : am_H) (a : Nat) : Option Int32 := match h[a]? with
  | some (.inl (t, n, _)) => if t < 6 then some (Int32.ofNat n) else none
  | _ => none
def am_cp (h : am_H) (a0 : Nat) (sp : Int32) (a1 : Nat) (dp n : Int32) : Option am_H := match h[a0]?, h[a1]? with
  | some (.inl (t0, n0, .inl f)), some (.inl (t1, n1, .inl g)) =>
    if t0 = 0 ∧ t1 = 0 ∧ ¬ sp < 0 ∧ ¬ dp < 0 ∧ ¬ n < 0 ∧ sp.toNatClampNeg + n.toNatClampNeg ≤ n0 ∧ dp.toNatClampNeg + n.toNatClampNeg ≤ n1 then some (h.set a1 (.inl (0, n1, .inl (va_cpy f g sp.toNatClampNeg dp.toNatClampNeg n.toNatClampNeg)))) else none
  | _, _ => none
def am_def (ci : Nat) : Option (List Value) := match am_cl[ci]? with
  | some q => some ((List.range q.2.2).map (fun k => defaultValue (am_fty ci k)))
  | none => none
def am_zero (t : Nat) : (Nat → Int32) ⊕ (Nat → Int64) ⊕ (Nat → UInt32) ⊕ (Nat → UInt64) ⊕ (Nat → Option Nat) := match t with
  | 1 => .inr (.inl (fun _ => 0))
  | _ => .inl (fun _ => 0)
/-! ## frames -/
def am_st1 (ls : am_L) (i : Nat) (v : Value) : Option am_L :=
  if i < ls.length then
    match i with
    | 0 => some (ls.set 0 (some v))
    | j + 1 => match ls[j]? with
      | some (some w) => cond (Nat.beq w.category 2) (some ((ls.set j none).set (j + 1) (some v))) (some (ls.set (j + 1) (some v)))
      | _ => some (ls.set (j + 1) (some v))
  else none
def am_st2 (ls : am_L) (i : Nat) (v : Value) : Option am_L :=
  if i + 1 < ls.length then am_st1 (ls.set (i + 1) none) i v else none
def am_lI (ls : am_L) (i : Nat) (st : List Value) : Option (am_L × List Value) := match ls[i]? with
  | some (some (.int x)) => some (ls, .int x :: st)
  | _ => none
def am_lL (ls : am_L) (i : Nat) (st : List Value) : Option (am_L × List Value) := match ls[i]? with
  | some (some (.long x)) => some (ls, .long x :: st)
  | _ => none
def am_lA (ls : am_L) (i : Nat) (st : List Value) : Option (am_L × List Value) := match ls[i]? with
  | some (some (.ref x)) => some (ls, .ref x :: st)
  | _ => none
def am_sti (ls : am_L) (i : Nat) (st : List Value) : Option (am_L × List Value) := match st with
  | .int x :: r => (am_st1 ls i (.int x)).map (fun l => (l, r))
  | _ => none
def am_sta (ls : am_L) (i : Nat) (st : List Value) : Option (am_L × List Value) := match st with
  | .ref x :: r => (am_st1 ls i (.ref x)).map (fun l => (l, r))
  | _ => none
def am_stl (ls : am_L) (i : Nat) (st : List Value) : Option (am_L × List Value) := match st with
  | .long x :: r => (am_st2 ls i (.long x)).map (fun l => (l, r))
  | _ => none
def am_inc (ls : am_L) (i : Nat) (K : Value) (st : List Value) : Option (am_L × List Value) := match ls[i]?, K with
  | some (some (.int x)), .int c => (am_st1 ls i (.int (x + c))).map (fun l => (l, st))
  | _, _ => none
def am_ii (f : Int32 → Int32 → Int32) (ls : am_L) (st : List Value) : Option (am_L × List Value) := match st with
  | .int y :: .int x :: r => some (ls, .int (f x y) :: r)
  | _ => none
def am_ll (f : Int64 → Int64 → Int64) (ls : am_L) (st : List Value) : Option (am_L × List Value) := match st with
  | .long y :: .long x :: r => some (ls, .long (f x y) :: r)
  | _ => none
def am_li (f : Int64 → Int32 → Int64) (ls : am_L) (st : List Value) : Option (am_L × List Value) := match st with
  | .int y :: .long x :: r => some (ls, .long (f x y) :: r)
  | _ => none
def am_dup (ls : am_L) (st : List Value) : Option (am_L × List Value) := match st with
  | .int x :: r => some (ls, .int x :: .int x :: r)
  | .ref x :: r => some (ls, .ref x :: .ref x :: r)
  | _ => none
def am_dup2 (ls : am_L) (st : List Value) : Option (am_L × List Value) := match st with
  | .int x :: .ref y :: r => some (ls, .int x :: .ref y :: .int x :: .ref y :: r)
  | _ => none
/-- what changes the frame alone -/
def am_p (i : am_I) (ls : am_L) (st : List Value) : Option (am_L × List Value) := match i with
  | (.iconst _, _, _, _, _, K) => some (ls, K :: st)
  | (.bipush _, _, _, _, _, K) => some (ls, K :: st)
  | (.sipush _, _, _, _, _, K) => some (ls, K :: st)
  | (.lconst _, _, _, _, _, K) => some (ls, K :: st)
  | (.ldc _, _, _, _, _, K) => some (ls, K :: st)
  | (.ldc_w _, _, _, _, _, K) => some (ls, K :: st)
  | (.ldc2_w _, _, _, _, _, K) => some (ls, K :: st)
  | (.iload_n k, _, _, _, _, _) => am_lI ls k st
  | (.iload k, _, _, _, _, _) => am_lI ls k st
  | (.lload_n k, _, _, _, _, _) => am_lL ls k st
  | (.lload k, _, _, _, _, _) => am_lL ls k st
  | (.aload_n k, _, _, _, _, _) => am_lA ls k st
  | (.aload k, _, _, _, _, _) => am_lA ls k st
  | (.istore_n k, _, _, _, _, _) => am_sti ls k st
  | (.istore k, _, _, _, _, _) => am_sti ls k st
  | (.lstore_n k, _, _, _, _, _) => am_stl ls k st
  | (.lstore k, _, _, _, _, _) => am_stl ls k st
  | (.astore_n k, _, _, _, _, _) => am_sta ls k st
  | (.astore k, _, _, _, _, _) => am_sta ls k st
  | (.iinc k _, _, _, _, _, K) => am_inc ls k K st
  | (.iadd, _, _, _, _, _) => am_ii (fun x y => x + y) ls st
  | (.isub, _, _, _, _, _) => am_ii (fun x y => x - y) ls st
  | (.imul, _, _, _, _, _) => am_ii (fun x y => x * y) ls st
  | (.iand, _, _, _, _, _) => am_ii (fun x y => x &&& y) ls st
  | (.ior, _, _, _, _, _) => am_ii (fun x y => x ||| y) ls st
  | (.ixor, _, _, _, _, _) => am_ii (fun x y => x ^^^ y) ls st
  | (.ishl, _, _, _, _, _) => am_ii (fun x y => x <<< (y &&& 31)) ls st
  | (.ishr, _, _, _, _, _) => am_ii (fun x y => x >>> (y &&& 31)) ls st
  | (.iushr, _, _, _, _, _) => am_ii (fun x y => (x.toUInt32 >>> (y.toUInt32 &&& Int32.toUInt32 31)).toInt32) ls st
  | (.ladd, _, _, _, _, _) => am_ll (fun x y => x + y) ls st
  | (.lsub, _, _, _, _, _) => am_ll (fun x y => x - y) ls st
  | (.lmul, _, _, _, _, _) => am_ll (fun x y => x * y) ls st
  | (.land, _, _, _, _, _) => am_ll (fun x y => x &&& y) ls st
  | (.lor, _, _, _, _, _) => am_ll (fun x y => x ||| y) ls st
  | (.lshl, _, _, _, _, _) => am_li (fun x y => x <<< (y.toInt64 &&& 63)) ls st
  | (.lshr, _, _, _, _, _) => am_li (fun x y => x >>> (y.toInt64 &&& 63)) ls st
  | (.lushr, _, _, _, _, _) => am_li (fun x y => (x.toUInt64 >>> (y.toInt64.toUInt64 &&& Int64.toUInt64 63)).toInt64) ls st
  | (.ineg, _, _, _, _, _) => match st with
    | .int x :: r => some (ls, .int (-x) :: r)
    | _ => none
  | (.i2l, _, _, _, _, _) => match st with
    | .int x :: r => some (ls, .long x.toInt64 :: r)
    | _ => none
  | (.l2i, _, _, _, _, _) => match st with
    | .long x :: r => some (ls, .int x.toInt32 :: r)
    | _ => none
  | (.i2b, _, _, _, _, _) => match st with
    | .int x :: r => some (ls, .int x.toInt8.toInt32 :: r)
    | _ => none
  | (.lcmp, _, _, _, _, _) => match st with
    | .long y :: .long x :: r => some (ls, .int (lg_cmp x y) :: r)
    | _ => none
  | (.dup, _, _, _, _, _) => am_dup ls st
  | (.dup2, _, _, _, _, _) => am_dup2 ls st
  | (.pop, _, _, _, _, _) => match st with
    | .int _ :: r => some (ls, r)
    | _ => none
  | _ => none
/-- branches: how far the next instruction is -/
def am_bb1 (cd : Jvm.ClassFile.Cond) (off : Int) (x : Int32) (r : List Value) : Option (Int × List Value) := match cd with
  | .eq => if x = 0 then some (off, r) else some (3, r)
  | .ne => if ¬ x = 0 then some (off, r) else some (3, r)
  | .lt => if x < 0 then some (off, r) else some (3, r)
  | .ge => if 0 ≤ x then some (off, r) else some (3, r)
  | .gt => if 0 < x then some (off, r) else some (3, r)
  | .le => if x ≤ 0 then some (off, r) else some (3, r)
def am_bb2 (cd : Jvm.ClassFile.Cond) (off : Int) (x y : Int32) (r : List Value) : Option (Int × List Value) := match cd with
  | .eq => if x = y then some (off, r) else some (3, r)
  | .ne => if ¬ x = y then some (off, r) else some (3, r)
  | .lt => if x < y then some (off, r) else some (3, r)
  | .ge => if y ≤ x then some (off, r) else some (3, r)
  | .gt => if y < x then some (off, r) else some (3, r)
  | .le => if x ≤ y then some (off, r) else some (3, r)
def am_br1 (cd : Jvm.ClassFile.Cond) (off : Int) (st : List Value) : Option (Int × List Value) := match st with
  | .int x :: r => am_bb1 cd off x r
  | _ => none
def am_br2 (cd : Jvm.ClassFile.Cond) (off : Int) (st : List Value) : Option (Int × List Value) := match st with
  | .int y :: .int x :: r => am_bb2 cd off x y r
  | _ => none
def am_br3 (dflt lo hi : Int) (offs : Array Int) (st : List Value) : Option (Int × List Value) := match st with
  | .int x :: r => if x.toInt < lo ∨ hi < x.toInt then some (dflt, r) else (offs[(x.toInt - lo).toNat]?).map (fun off => (off, r))
  | _ => none
def am_b (i : am_I) (st : List Value) : Option (Int × List Value) := match i.1 with
  | .goto off => some (off, st)
  | .ifCond cd off => am_br1 cd off st
  | .if_icmp cd off => am_br2 cd off st
  | .tableswitch dflt lo hi offs => am_br3 dflt lo hi offs st
  | _ => none
/-- what reads and writes the heap, and what can fail (sc: the script) -/
def am_h (sc : Nat × (Nat → Int32)) (i : am_I) (st : List Value) (h : am_H) : Option (List Value × am_H) := match i, st with
  | (.idiv, _, _, _, _, _), .int y :: .int x :: r => if y = 0 then none else some (.int (x / y) :: r, h)
  | (.irem, _, _, _, _, _), .int y :: .int x :: r => if y = 0 then none else some (.int (x - x / y * y) :: r, h)
  | (.ldiv, _, _, _, _, _), .long y :: .long x :: r => if y = 0 then none else some (.long (x / y) :: r, h)
  | (.lrem, _, _, _, _, _), .long y :: .long x :: r => if y = 0 then none else some (.long (x - x / y * y) :: r, h)
  | (.getfield _, _, ci, k, _, _), .ref a :: r => (am_gF h a ci k).map (fun v => (v :: r, h))
  | (.putfield _, _, ci, k, _, _), v :: .ref a :: r => (am_pF h a ci k v).map (fun h' => (r, h'))
  | (.iaload, _, _, _, _, _), .int j :: .ref a :: r => match am_aI h 0 a j with
    | some v => some (.int v :: r, h)
    | none => if a = am_SC ∧ ¬ (j < 0 ∨ sc.1 ≤ j.toNatClampNeg) then some (.int (sc.2 j.toNatClampNeg) :: r, h) else none
  | (.baload, _, t, _, _, _), .int j :: .ref a :: r => (am_aI h t a j).map (fun v => (.int v :: r, h))
  | (.laload, _, _, _, _, _), .int j :: .ref a :: r => (am_aL h a j).map (fun v => (.long v :: r, h))
  | (.aaload, _, _, _, _, _), .int j :: .ref a :: r => (am_aR h a j).map (fun v => (.ref v :: r, h))
  | (.iastore, _, _, _, _, _), .int x :: .int j :: .ref a :: r => (am_sI h 0 a j x).map (fun h' => (r, h'))
  | (.bastore, _, t, _, _, _), .int x :: .int j :: .ref a :: r => (am_sI h t a j x).map (fun h' => (r, h'))
  | (.lastore, _, _, _, _, _), .long x :: .int j :: .ref a :: r => (am_sL h a j x).map (fun h' => (r, h'))
  | (.aastore, _, _, _, _, _), .ref v :: .int j :: .ref a :: r => (am_sR h a j v).map (fun h' => (r, h'))
  | (.arraylength, _, _, _, _, _), .ref a :: r => match am_len h a with
    | some v => some (.int v :: r, h)
    | none => if a = am_SC then some (.int (Int32.ofNat sc.1) :: r, h) else none
  | (.new _, _, ci, _, _, _), r => if h.length < am_SB then (am_def ci).map (fun fs => (.ref h.length :: r, h ++ [.inr (ci, fs)])) else none
  | (.newarray _, _, t, _, _, _), .int n :: r => if h.length < am_SB ∧ ¬ n < 0 ∧ n.toNatClampNeg ≤ 10000 then some (.ref h.length :: r, h ++ [.inl (t, n.toNatClampNeg, am_zero t)]) else none
  | (.anewarray _, _, t, _, _, _), .int n :: r => if h.length < am_SB ∧ ¬ n < 0 ∧ n.toNatClampNeg ≤ 10000 then some (.ref h.length :: r, h ++ [.inl (t, n.toNatClampNeg, .inr (.inr (.inr (.inr (fun _ => none)))))]) else none
  | (.invokespecial _, _, 999, _, _, _), .ref _ :: r => if (r.map fun v => v.category).sum ≤ 8 then some (r, h) else none
  | (.invokestatic _, _, 998, _, _, _), .int n :: .int dp :: .ref a1 :: .int sp :: .ref a0 :: r => if (r.map fun v => v.category).sum ≤ 8 then (am_cp h a0 sp a1 dp n).map (fun h' => (r, h')) else none
  | _, _ => none
def am_s1 (sc : Nat × (Nat → Int32)) (cd : Nat → Option am_I) (f : am_F) (h : am_H) : Option (am_F × am_H) := match cd f.1 with
  | none => none
  | some i => match am_p i f.2.1 f.2.2 with
    | some q => some ((f.1 + i.2.1, q.1, q.2), h)
    | none => match am_b i f.2.2 with
      | some q => if 0 ≤ (f.1 : Int) + q.1 then some ((((f.1 : Int) + q.1).toNat, f.2.1, q.2), h) else none
      | none => match am_h sc i f.2.2 h with
        | some q => some ((f.1 + i.2.1, f.2.1, q.1), q.2)
        | none => none
/-- a call: which method, how many values it takes (the receiver too) -/
def am_inv (i : am_I) : Option (Nat × Nat) := match i with
  | (.invokevirtual _, _, m, n, _, _) => some (m, n)
  | (.invokespecial _, _, m, n, _, _) => if m = 999 then none else some (m, n)
  | (.invokestatic _, _, m, n, _, _) => if m = 998 then none else some (m, n)
  | _ => none
abbrev am_C : Type := Nat → List Value → am_H → Option Value → am_H → Prop
/-- less is known of the locals -/
def am_sub : am_L → am_L → Prop
  | [], [] => True
  | none :: a, _ :: b => am_sub a b
  | some v :: a, some w :: b => v = w ∧ am_sub a b
  | _, _ => False
def am_stp (sc : Nat × (Nat → Int32)) (C : am_C) (cd : Nat → Option am_I) (s t : am_F × am_H) : Prop :=
  am_s1 sc cd s.1 s.2 = some t ∨ (∃ ls', am_sub ls' s.1.2.1 ∧ t = ((s.1.1, ls', s.1.2.2), s.2)) ∨
  ∃ (i : am_I) (m n : Nat) (As rest : List Value) (v : Option Value) (h' : am_H), cd s.1.1 = some i ∧ am_inv i = some (m, n) ∧ s.1.2.2 = As.reverse ++ rest ∧ As.length = n ∧ (rest.map fun v => v.category).sum ≤ 8 ∧ C m As s.2 v h' ∧ t = ((s.1.1 + 3, s.1.2.1, v.toList ++ rest), h')
def am_rch (sc : Nat × (Nat → Int32)) (C : am_C) (cd : Nat → Option am_I) : Nat → am_F × am_H → am_F × am_H → Prop
  | 0, s, t => s = t
  | n + 1, s, t => ∃ u, am_stp sc C cd s u ∧ am_rch sc C cd n u t
def am_Rch (sc : Nat × (Nat → Int32)) (C : am_C) (cd : Nat → Option am_I) (s t : am_F × am_H) : Prop := ∃ n, am_rch sc C cd n s t
def am_ent : List Value → am_L
  | [] => []
  | v :: vs => if v.category = 2 then some v :: none :: am_ent vs else some v :: am_ent vs
def am_pad (l : am_L) (n : Nat) : am_L := l ++ List.replicate (n - l.length) none
/-- the value with which a method ends, by its kind (0: void, 1: int, 2: boolean) -/
def am_ret (rk : Nat) (cd : Nat → Option am_I) (f : am_F) : Option (Option Value) := match cd f.1, rk, f.2.2 with
  | some (.return_, _, _, _, _, _), 0, [] => some none
  | some (.ireturn, _, _, _, _, _), 1, [.int x] => some (some (.int x))
  | some (.ireturn, _, _, _, _, _), 2, [.int x] => if x = 0 ∨ x = 1 then some (some (.int x)) else none
  | _, _, _ => none
def am_at : List (Nat × am_I) → Nat → Option am_I
  | [], _ => none
  | q :: l, pc => cond (Nat.beq q.1 pc) (some q.2) (am_at l pc)
/-! ## reaching -/
section AMR
variable {sc : Nat × (Nat → Int32)} {C : am_C} {cd : Nat → Option am_I}
theorem am_rch.trans : ∀ {n k : Nat} {s t u : am_F × am_H}, am_rch sc C cd n s t → am_rch sc C cd k t u → am_rch sc C cd (n + k) s u
  | 0, k, s, t, u, h, g => by cases h; rw [Nat.zero_add]; exact g
  | n + 1, k, s, t, u, ⟨v, h1, h2⟩, g => by rw [Nat.add_right_comm]; exact ⟨v, h1, am_rch.trans h2 g⟩
theorem am_Rch.rf {s : am_F × am_H} : am_Rch sc C cd s s := ⟨0, rfl⟩
theorem am_Rch.trans {s t u : am_F × am_H} (h : am_Rch sc C cd s t) (g : am_Rch sc C cd t u) : am_Rch sc C cd s u := by
  obtain ⟨n, h⟩ := h
  obtain ⟨k, g⟩ := g
  exact ⟨n + k, h.trans g⟩
theorem am_Rch.one {s t u : am_F × am_H} (h : am_s1 sc cd s.1 s.2 = some t) (g : am_Rch sc C cd t u) : am_Rch sc C cd s u := by
  obtain ⟨k, g⟩ := g
  exact ⟨k + 1, t, Or.inl h, g⟩
/-- frames alone, several steps -/
def am_run (cd : Nat → Option am_I) : Nat → am_F → Option am_F
  | 0, f => some f
  | n + 1, f => match cd f.1 with
    | none => none
    | some i => match am_p i f.2.1 f.2.2 with
      | some q => am_run cd n (f.1 + i.2.1, q.1, q.2)
      | none => match i.1 with
        | .goto off => match (f.1 : Int) + off with
          | .ofNat tgt => am_run cd n (tgt, f.2.1, f.2.2)
          | _ => none
        | _ => none
theorem am_p_goto {off : Int} {r : Nat × Nat × Nat × Nat × Value} (ls : am_L) (st : List Value) : am_p (.goto off, r) ls st = none := by
  obtain ⟨a, b, c, d, e⟩ := r
  rfl
theorem am_run_rch : ∀ (n : Nat) (f g : am_F) (h : am_H), am_run cd n f = some g → am_Rch sc C cd (f, h) (g, h) := by
  intro n
  induction n with
  | zero => intro f g h e; simp only [am_run, Option.some.injEq] at e; subst e; exact am_Rch.rf
  | succ n ih =>
    intro f g h e
    unfold am_run at e
    cases hc : cd f.1 with
    | none => rw [hc] at e; simp at e
    | some i =>
      rw [hc] at e
      simp only at e
      cases hp : am_p i f.2.1 f.2.2 with
      | some q =>
        rw [hp] at e
        simp only at e
        refine am_Rch.one (t := ((f.1 + i.2.1, q.1, q.2), h)) ?_ (ih _ _ h e)
        simp only [am_s1, hc, hp]
      | none =>
        rw [hp] at e
        simp only at e
        split at e
        · rename_i off he
          split at e
          · rename_i tgt ht
            refine am_Rch.one (t := ((tgt, f.2.1, f.2.2), h)) ?_ (ih _ _ h e)
            have hb : am_b i f.2.2 = some (off, f.2.2) := by
              unfold am_b
              rw [he]
            simp only [am_s1, hc, hp, hb]
            rw [ht]
            simp
          · simp at e
        · simp at e
theorem am_Rch.fr {f g : am_F} {h : am_H} {u : am_F × am_H} (n : Nat) (e : am_run cd n f = some g) (k : am_Rch sc C cd (g, h) u) : am_Rch sc C cd (f, h) u := (am_run_rch n f g h e).trans k
/-- a branch -/
theorem am_Rch.br {pc tgt : Nat} {ls : am_L} {st st' : List Value} {h : am_H} {u : am_F × am_H} {i : am_I} {off : Int} (hc : cd pc = some i) (hp : am_p i ls st = none) (hb : am_b i st = some (off, st')) (ht : (pc : Int) + off = (tgt : Int)) (k : am_Rch sc C cd ((tgt, ls, st'), h) u) : am_Rch sc C cd ((pc, ls, st), h) u := by
  refine am_Rch.one (t := ((tgt, ls, st'), h)) ?_ k
  simp only [am_s1, hc, hp, hb]
  rw [ht]
  simp
/-- the heap -/
theorem am_Rch.hp {pc : Nat} {ls : am_L} {st st' : List Value} {h h' : am_H} {u : am_F × am_H} {i : am_I} (hc : cd pc = some i) (hp : am_p i ls st = none) (hb : am_b i st = none) (hh : am_h sc i st h = some (st', h')) (k : am_Rch sc C cd ((pc + i.2.1, ls, st'), h') u) : am_Rch sc C cd ((pc, ls, st), h) u := by
  refine am_Rch.one (t := ((pc + i.2.1, ls, st'), h')) ?_ k
  simp only [am_s1, hc, hp, hb, hh]
/-- a call -/
theorem am_Rch.cl {pc : Nat} {ls : am_L} {st : List Value} {h h' : am_H} {u : am_F × am_H} {i : am_I} {m n : Nat} (As rest : List Value) {v : Option Value} (hc : cd pc = some i) (hi : am_inv i = some (m, n)) (hs : st = As.reverse ++ rest) (hn : As.length = n) (hr : (rest.map fun v => v.category).sum ≤ 8) (hC : C m As h v h') (k : am_Rch sc C cd ((pc + 3, ls, v.toList ++ rest), h') u) : am_Rch sc C cd ((pc, ls, st), h) u := by
  obtain ⟨k, g⟩ := k
  exact ⟨k + 1, _, Or.inr (Or.inr ⟨i, m, n, As, rest, v, h', hc, hi, hs, hn, hr, hC, rfl⟩), g⟩
/-- forgetting -/
theorem am_Rch.fg {pc : Nat} {ls ls' : am_L} {st : List Value} {h : am_H} {u : am_F × am_H} (hs : am_sub ls' ls) (k : am_Rch sc C cd ((pc, ls', st), h) u) : am_Rch sc C cd ((pc, ls, st), h) u := by
  obtain ⟨k, g⟩ := k
  exact ⟨k + 1, _, Or.inr (Or.inl ⟨ls', hs, rfl⟩), g⟩
end AMR
theorem am_sub_ok : ∀ {a b : am_L}, am_sub a b → a.length = b.length ∧ ∀ (i : Nat) (v : Value), a[i]? = some (some v) → b[i]? = some (some v)
  | [], [], _ => ⟨rfl, fun i v h => by simp at h⟩
  | none :: a, x :: b, h => by
    have hh : am_sub a b := by unfold am_sub at h; exact h
    obtain ⟨h1, h2⟩ := am_sub_ok hh
    refine ⟨by simp [h1], fun i v hi => ?_⟩
    cases i with
    | zero => simp at hi
    | succ j => simp only [List.getElem?_cons_succ] at hi ⊢; exact h2 j v hi
  | some v :: a, some w :: b, h => by
    unfold am_sub at h
    obtain ⟨rfl, hh⟩ := h
    obtain ⟨h1, h2⟩ := am_sub_ok hh
    refine ⟨by simp [h1], fun i v hi => ?_⟩
    cases i with
    | zero => simpa using hi
    | succ j => simp only [List.getElem?_cons_succ] at hi ⊢; exact h2 j v hi
  | some v :: a, none :: b, h => by unfold am_sub at h; exact h.elim
  | [], x :: b, h => by unfold am_sub at h; exact h.elim
  | none :: a, [], h => by unfold am_sub at h; exact h.elim
  | some v :: a, [], h => by unfold am_sub at h; exact h.elim
