/-! A SMALL MACHINE over plain data: a heap of numbered cells, its steps as one rule, and 'comes to its end with Q' as the least thing closed under that rule. Part 05 shows that the real machine does what it does. -/
/-- cells so far; kind and length of each; ints, longs, references by cell and place -/
abbrev am_H : Type := Nat × (Nat → Nat × Nat) × (Nat → Nat → Int32) × (Nat → Nat → Int64) × (Nat → Nat → Option Nat)
abbrev am_S : Type := Nat × (Nat → Int32)
abbrev am_Q : Type := Option Value → am_H → Prop
/-- method, depth left, cells and slots made, place, locals, stack, heap, end -/
abbrev am_X : Type := Nat → Nat → Nat → Nat → Nat → List Value → List Value → am_H → am_Q → Prop
noncomputable def am_at (y pc : Nat) : am_L := (am_p.get y).get pc
noncomputable def am_mm (y : Nat) : am_M := am_q.get y
noncomputable abbrev am_nm (y : Nat) : MethodName := (am_mm y).1
noncomputable abbrev am_by (y : Nat) : ByteArray := (am_mm y).2.1
noncomputable abbrev am_ml (y : Nat) : Nat := (am_mm y).2.2.1
noncomputable abbrev am_rt (y : Nat) : Option FieldType := (am_mm y).2.2.2.1
noncomputable abbrev am_mc (y : Nat) : Nat := (am_mm y).2.2.2.2.1
noncomputable abbrev am_ms (y : Nat) : Nat := (am_mm y).2.2.2.2.2.1
noncomputable abbrev am_kd (y : Nat) : Nat := (am_mm y).2.2.2.2.2.2.1
noncomputable abbrev am_ow (y : Nat) : Nat := (am_mm y).2.2.2.2.2.2.2.1
noncomputable abbrev am_np (y : Nat) : Nat := (am_mm y).2.2.2.2.2.2.2.2.1
noncomputable abbrev am_in (y : Nat) : Nat := (am_mm y).2.2.2.2.2.2.2.2.2
def am_jk : Value := .float 0
def am_isr : Value → Bool
  | .ref _ => true
  | .null => true
  | .retAddr _ => true
  | _ => false
def am_rv : Option Nat → Value
  | none => .null
  | some a => .ref a
def am_u {α : Type} (f : Nat → Nat → α) (a i : Nat) (v : α) : Nat → Nat → α := fun b j => if b = a then (if j = i then v else f b j) else f b j
def am_z {α : Type} (f : Nat → Nat → α) (a : Nat) (v : α) : Nat → Nat → α := fun b j => if b = a then v else f b j
/-- a new cell -/
def am_n (h : am_H) (kind len : Nat) : am_H := (h.1 + 1, (fun b => if b = h.1 then (kind, len) else h.2.1 b), am_z h.2.2.1 h.1 0, am_z h.2.2.2.1 h.1 0, am_z h.2.2.2.2 h.1 none)
def am_kl (lo : List Value) : Nat → List Value
  | 0 => lo
  | k + 1 => match lo[k]? with
    | some (.long _) => lo.set k am_jk
    | some (.double _) => lo.set k am_jk
    | _ => lo
def am_s1 (lo : List Value) (i : Nat) (v : Value) : List Value := (am_kl lo i).set i v
def am_s2 (lo : List Value) (i : Nat) (v : Value) : List Value := ((am_kl lo i).set i v).set (i + 1) am_jk
def am_ly : List Value → List Value
  | [] => []
  | .long v :: vs => .long v :: am_jk :: am_ly vs
  | .double v :: vs => .double v :: am_jk :: am_ly vs
  | v :: vs => v :: am_ly vs
noncomputable def am_en (z : Nat) (as : List Value) : List Value := am_ly as ++ List.replicate (am_ml z - (am_ly as).length) am_jk
/-- rows that were there before: 0, 1 two rows of the class, 4 the bytes of its words (2: the text), else the script -/
def am_wd : List Int32 := ("costs gains fines bars go give inspect wait if times by of to or and not person years want keys watch before others hour odds mood bread inside done found place holds ".toList).map (fun ch => Int32.ofNat ch.toNat)
def am_pe (S : am_S) (t : Nat) : am_S := match t with
  | 0 => (4, fun k => if k = 1 then 1 else 0)
  | 1 => (4, fun k => if k = 0 then 9999 else if k = 1 then 6 else if k = 2 then 10 else 9)
  | 4 => (am_wd.length, fun k => am_wd.getD k 0)
  | _ => S
def am_cat (r : List Value) : Nat := (r.map fun v => v.category).sum
def am_gf (h : am_H) (a k : Nat) : Nat → Value
  | 1 => .long (h.2.2.2.1 a k)
  | 2 => am_rv (h.2.2.2.2 a k)
  | _ => .int (h.2.2.1 a k)
def am_pI (h : am_H) (a k : Nat) (x : Int32) : am_H := (h.1, h.2.1, am_u h.2.2.1 a k x, h.2.2.2.1, h.2.2.2.2)
def am_pL (h : am_H) (a k : Nat) (x : Int64) : am_H := (h.1, h.2.1, h.2.2.1, am_u h.2.2.2.1 a k x, h.2.2.2.2)
def am_pR (h : am_H) (a k : Nat) (x : Option Nat) : am_H := (h.1, h.2.1, h.2.2.1, h.2.2.2.1, am_u h.2.2.2.2 a k x)
abbrev am_go : Type := Nat → List Value → List Value → am_H → Prop
def am_ldr (go : am_go) (nx i : Nat) (lo st : List Value) (h : am_H) : Prop := match lo[i]? with
  | some v => if am_isr v = true then go nx lo (v :: st) h else False
  | none => False
def am_ldi (go : am_go) (nx i : Nat) (lo st : List Value) (h : am_H) : Prop := match lo[i]? with
  | some (.int v) => go nx lo (.int v :: st) h
  | _ => False
def am_ldl (go : am_go) (nx i : Nat) (lo st : List Value) (h : am_H) : Prop := match lo[i]? with
  | some (.long v) => go nx lo (.long v :: st) h
  | _ => False
def am_str (go : am_go) (nx i : Nat) (lo st : List Value) (h : am_H) : Prop := match st with
  | v :: r => if am_isr v = true then go nx (am_s1 lo i v) r h else False
  | _ => False
def am_sti (go : am_go) (nx i : Nat) (lo st : List Value) (h : am_H) : Prop := match st with
  | .int v :: r => go nx (am_s1 lo i (.int v)) r h
  | _ => False
def am_stl (go : am_go) (nx i : Nat) (lo st : List Value) (h : am_H) : Prop := match st with
  | .long v :: r => go nx (am_s2 lo i (.long v)) r h
  | _ => False
def am_b2 (f : Int32 → Int32 → Int32) (go : am_go) (nx : Nat) (lo st : List Value) (h : am_H) : Prop := match st with
  | .int y :: .int x :: r => go nx lo (.int (f x y) :: r) h
  | _ => False
def am_l2 (f : Int64 → Int64 → Int64) (go : am_go) (nx : Nat) (lo st : List Value) (h : am_H) : Prop := match st with
  | .long y :: .long x :: r => go nx lo (.long (f x y) :: r) h
  | _ => False
def am_if (c : ClassFile.Cond) (x y : Int32) (A B : Prop) : Prop := match c with
  | .eq => if x = y then A else B
  | .ne => if x = y then B else A
  | .lt => if x < y then A else B
  | .ge => if y ≤ x then A else B
  | .gt => if y < x then A else B
  | .le => if x ≤ y then A else B
/-- one instruction: where it goes on, what it makes, what it calls, what it answers -/
def am_C (S : am_S) (go : am_go) (al : Nat → List Value → am_H → Prop) (cl : Nat → Nat → Nat → List Value → Prop) (rt : Option Value → Prop) (pc : Nat) (ins : Instr) (nx la lb lc : Nat) (v : Value) (lo st : List Value) (h : am_H) : Prop :=
  match ins with
  | .aload_n _ => am_ldr go nx la lo st h
  | .aload _ => am_ldr go nx la lo st h
  | .iload_n _ => am_ldi go nx la lo st h
  | .iload _ => am_ldi go nx la lo st h
  | .lload_n _ => am_ldl go nx la lo st h
  | .lload _ => am_ldl go nx la lo st h
  | .astore_n _ => am_str go nx la lo st h
  | .astore _ => am_str go nx la lo st h
  | .istore_n _ => am_sti go nx la lo st h
  | .istore _ => am_sti go nx la lo st h
  | .lstore_n _ => am_stl go nx la lo st h
  | .lstore _ => am_stl go nx la lo st h
  | .iinc _ _ => match lo[la]?, v with
    | some (.int x), .int n => go nx (am_s1 lo la (.int (x + n))) st h
    | _, _ => False
  | .iconst _ => go nx lo (v :: st) h
  | .bipush _ => go nx lo (v :: st) h
  | .sipush _ => go nx lo (v :: st) h
  | .lconst _ => go nx lo (v :: st) h
  | .ldc _ => go nx lo (v :: st) h
  | .ldc_w _ => go nx lo (v :: st) h
  | .ldc2_w _ => go nx lo (v :: st) h
  | .aconst_null => go nx lo (.null :: st) h
  | .getstatic _ => go nx lo (v :: st) h
  | .dup => match st with
    | w :: r => if w.category = 1 then go nx lo (w :: w :: r) h else False
    | _ => False
  | .dup_x1 => match st with
    | w :: u :: r => if w.category = 1 ∧ u.category = 1 then go nx lo (w :: u :: w :: r) h else False
    | _ => False
  | .dup2 => match st with
    | w :: u :: r => if w.category = 1 ∧ u.category = 1 then go nx lo (w :: u :: w :: u :: r) h else False
    | _ => False
  | .pop => match st with
    | w :: r => if w.category = 1 then go nx lo r h else False
    | _ => False
  | .iadd => am_b2 (fun x y => x + y) go nx lo st h
  | .isub => am_b2 (fun x y => x - y) go nx lo st h
  | .imul => am_b2 (fun x y => x * y) go nx lo st h
  | .iand => am_b2 (fun x y => x &&& y) go nx lo st h
  | .ior => am_b2 (fun x y => x ||| y) go nx lo st h
  | .ixor => am_b2 (fun x y => x ^^^ y) go nx lo st h
  | .ishl => am_b2 (fun x y => x <<< (y &&& 31)) go nx lo st h
  | .ishr => am_b2 (fun x y => x >>> (y &&& 31)) go nx lo st h
  | .iushr => am_b2 (fun x y => (x.toUInt32 >>> (y.toUInt32 &&& Int32.toUInt32 31)).toInt32) go nx lo st h
  | .idiv => match st with
    | .int y :: .int x :: r => if y = 0 then False else go nx lo (.int (x / y) :: r) h
    | _ => False
  | .irem => match st with
    | .int y :: .int x :: r => if y = 0 then False else go nx lo (.int (x - x / y * y) :: r) h
    | _ => False
  | .ineg => match st with
    | .int x :: r => go nx lo (.int (-x) :: r) h
    | _ => False
  | .ladd => am_l2 (fun x y => x + y) go nx lo st h
  | .lsub => am_l2 (fun x y => x - y) go nx lo st h
  | .lmul => am_l2 (fun x y => x * y) go nx lo st h
  | .ldiv => match st with
    | .long y :: .long x :: r => if y = 0 then False else go nx lo (.long (x / y) :: r) h
    | _ => False
  | .lrem => match st with
    | .long y :: .long x :: r => if y = 0 then False else go nx lo (.long (x - x / y * y) :: r) h
    | _ => False
  | .lshl => match st with
    | .int y :: .long x :: r => go nx lo (.long (x <<< (y.toInt64 &&& 63)) :: r) h
    | _ => False
  | .lcmp => match st with
    | .long y :: .long x :: r => go nx lo (.int (lg_cmp x y) :: r) h
    | _ => False
  | .i2l => match st with
    | .int x :: r => go nx lo (.long x.toInt64 :: r) h
    | _ => False
  | .i2c => match st with
    | .int x :: r => go nx lo (.int (x.toUInt32 % 65536).toInt32 :: r) h
    | _ => False
  | .l2i => match st with
    | .long x :: r => go nx lo (.int x.toInt32 :: r) h
    | _ => False
  | .ifCond c _ => match st with
    | .int x :: r => am_if c x 0 (go la lo r h) (go nx lo r h)
    | _ => False
  | .if_icmp c _ => match st with
    | .int y :: .int x :: r => am_if c x y (go la lo r h) (go nx lo r h)
    | _ => False
  | .goto _ => go la lo st h
  | .ifnonnull _ => match st with
    | .ref _ :: r => go la lo r h
    | .null :: r => go nx lo r h
    | _ => False
  | .tableswitch df lw hi offs => match st with
    | .int x :: r => if x.toInt < lw ∨ hi < x.toInt then go ((pc : Int) + df).toNat lo r h else match offs[(x.toInt - lw).toNat]? with
      | some off => go ((pc : Int) + off).toNat lo r h
      | none => False
    | _ => False
  | .getfield _ => match st with
    | .ref a :: r => if (h.2.1 a).1 = la + 1 ∧ lc < 4 then go nx lo (am_gf h a lb lc :: r) h else False
    | .retAddr t :: r => if t = 2 then (if lc = 5 then go nx lo (.retAddr 4 :: r) h else if lc = 6 then go nx lo (.int 0 :: r) h else False) else False
    | _ => False
  | .putfield _ => match st with
    | .int x :: .ref a :: r => if (h.2.1 a).1 = la + 1 then (if lc = 0 ∨ (lc = 3 ∧ (x = 0 ∨ x = 1)) then go nx lo r (am_pI h a lb x) else False) else False
    | .long x :: .ref a :: r => if (h.2.1 a).1 = la + 1 then (if lc = 1 then go nx lo r (am_pL h a lb x) else False) else False
    | .ref x :: .ref a :: r => if (h.2.1 a).1 = la + 1 then (if lc = 2 then go nx lo r (am_pR h a lb (some x)) else False) else False
    | .null :: .ref a :: r => if (h.2.1 a).1 = la + 1 then (if lc = 2 then go nx lo r (am_pR h a lb none) else False) else False
    | _ => False
  | .iaload => match st with
    | .int i :: .ref a :: r => if (h.2.1 a).1 = 20 then (if i < 0 ∨ (h.2.1 a).2 ≤ i.toNatClampNeg then False else go nx lo (.int (h.2.2.1 a i.toNatClampNeg) :: r) h) else False
    | .int i :: .retAddr t :: r => if t = 0 ∨ t = 1 ∨ t = 3 then (if i < 0 ∨ (am_pe S t).1 ≤ i.toNatClampNeg then False else go nx lo (.int ((am_pe S t).2 i.toNatClampNeg) :: r) h) else False
    | _ => False
  | .baload => match st with
    | .int i :: .ref a :: r => if (h.2.1 a).1 = 22 then (if i < 0 ∨ (h.2.1 a).2 ≤ i.toNatClampNeg then False else go nx lo (.int (h.2.2.1 a i.toNatClampNeg) :: r) h) else False
    | .int i :: .retAddr t :: r => if t = 4 then (if i < 0 ∨ (am_pe S 4).1 ≤ i.toNatClampNeg then False else go nx lo (.int ((am_pe S 4).2 i.toNatClampNeg) :: r) h) else False
    | _ => False
  | .laload => match st with
    | .int i :: .ref a :: r => if (h.2.1 a).1 = 21 then (if i < 0 ∨ (h.2.1 a).2 ≤ i.toNatClampNeg then False else go nx lo (.long (h.2.2.2.1 a i.toNatClampNeg) :: r) h) else False
    | _ => False
  | .aaload => match st with
    | .int i :: .ref a :: r => if (h.2.1 a).1 = 23 ∨ (h.2.1 a).1 = 24 then (if i < 0 ∨ (h.2.1 a).2 ≤ i.toNatClampNeg then False else go nx lo (am_rv (h.2.2.2.2 a i.toNatClampNeg) :: r) h) else False
    | _ => False
  | .iastore => match st with
    | .int x :: .int i :: .ref a :: r => if (h.2.1 a).1 = 20 then (if i < 0 ∨ (h.2.1 a).2 ≤ i.toNatClampNeg then False else go nx lo r (am_pI h a i.toNatClampNeg x)) else False
    | _ => False
  | .bastore => match st with
    | .int x :: .int i :: .ref a :: r => if (h.2.1 a).1 = 22 then (if i < 0 ∨ (h.2.1 a).2 ≤ i.toNatClampNeg then False else go nx lo r (am_pI h a i.toNatClampNeg (vp_nar .boolean x))) else False
    | _ => False
  | .lastore => match st with
    | .long x :: .int i :: .ref a :: r => if (h.2.1 a).1 = 21 then (if i < 0 ∨ (h.2.1 a).2 ≤ i.toNatClampNeg then False else go nx lo r (am_pL h a i.toNatClampNeg x)) else False
    | _ => False
  | .aastore => match st with
    | .ref x :: .int i :: .ref a :: r => if ((h.2.1 a).1 = 23 ∧ (h.2.1 x).1 = 7) ∨ ((h.2.1 a).1 = 24 ∧ (h.2.1 x).1 = 11) then (if i < 0 ∨ (h.2.1 a).2 ≤ i.toNatClampNeg then False else go nx lo r (am_pR h a i.toNatClampNeg (some x))) else False
    | .null :: .int i :: .ref a :: r => if (h.2.1 a).1 = 23 ∨ (h.2.1 a).1 = 24 then (if i < 0 ∨ (h.2.1 a).2 ≤ i.toNatClampNeg then False else go nx lo r (am_pR h a i.toNatClampNeg none)) else False
    | _ => False
  | .arraylength => match st with
    | .ref a :: r => if 20 ≤ (h.2.1 a).1 ∧ (h.2.1 a).1 ≤ 24 then go nx lo (.int (Int32.ofNat (h.2.1 a).2) :: r) h else False
    | .retAddr t :: r => if t = 3 ∨ t = 4 then go nx lo (.int (Int32.ofNat (am_pe S t).1) :: r) h else False
    | _ => False
  | .new _ => al lb (.ref h.1 :: st) (am_n h (la + 1) 0)
  | .newarray _ => match st with
    | .int n :: r => if n < 0 ∨ 60000000 < n.toNatClampNeg then False else al n.toNatClampNeg (.ref h.1 :: r) (am_n h la n.toNatClampNeg)
    | _ => False
  | .anewarray _ => match st with
    | .int n :: r => if n < 0 ∨ 60000000 < n.toNatClampNeg then False else al n.toNatClampNeg (.ref h.1 :: r) (am_n h la n.toNatClampNeg)
    | _ => False
  | .invokestatic _ => if la = 1 ∨ la = 4 ∨ la = 7 ∨ la = 10 ∨ la = 11 ∨ la = 12 then cl la lb lc st else False
  | .invokevirtual _ => if la = 0 ∨ la = 3 then cl la lb lc st else False
  | .invokespecial _ => if la = 2 ∨ la = 5 ∨ la = 6 then cl la lb lc st else False
  | .ireturn => match st with
    | [.int x] => rt (some (.int x))
    | _ => False
  | .lreturn => match st with
    | [.long x] => rt (some (.long x))
    | _ => False
  | .areturn => match st with
    | [.ref x] => rt (some (.ref x))
    | [.null] => rt (some .null)
    | _ => False
  | .return_ => match st with
    | [] => rt none
    | _ => False
  | _ => False
/-- does the answer fit -/
def am_ro : Option FieldType → Option Value → Prop
  | none, none => True
  | some .int, some (.int _) => True
  | some .boolean, some (.int x) => x = 0 ∨ x = 1
  | some .byte, some (.int x) => narrow .byte (.int x) = .int x
  | some .char, some (.int x) => narrow .char (.int x) = .int x
  | some .long, some (.long _) => True
  | some (.object _), some (.ref _) => True
  | some (.object _), some .null => True
  | _, _ => False
/-- a call of z with the arguments as, r left on the stack -/
def am_do (mc ms mcz msz mlz : Nat) (en : List Value) (X : am_X) (y d cs ss nx : Nat) (lo : List Value) (h : am_H) (Q : am_Q) (z : Nat) (r : List Value) : Prop :=
  if am_cat r ≤ 8 ∧ cs + mcz ≤ mc ∧ ss + msz ≤ ms ∧ en.length = mlz then ∃ Q' : am_Q, X z d 0 0 0 en [] h Q' ∧ ∀ (v : Option Value) (h' : am_H), Q' v h' → X y (d + 1) (cs + mcz) (ss + msz) nx lo (v.toList ++ r) h' Q else False
def am_cp (h : am_H) (a0 a1 sp dp n : Nat) : am_H := (h.1, h.2.1, (fun b j => if b = a1 then va_cpy (h.2.2.1 a0) (h.2.2.1 a1) sp dp n j else h.2.2.1 b j), h.2.2.2.1, h.2.2.2.2)
noncomputable def am_cl (S : am_S) (X : am_X) (y cs ss nx : Nat) (lo : List Value) (h : am_H) (Q : am_Q) (d kind z n : Nat) (st : List Value) : Prop := match d with
  | 0 => False
  | d + 1 => match kind with
    | 1 => if (st.take n).length = n then am_do (am_mc y) (am_ms y) (am_mc z) (am_ms z) (am_ml z) (am_en z (st.take n).reverse) X y d cs ss nx lo h Q z (st.drop n) else False
    | 4 => if (st.take n).length = n then am_do (am_mc y) (am_ms y) (am_mc z) (am_ms z) (am_ml z) (am_en z (st.take n).reverse) X y d cs ss nx lo h Q z (st.drop n) else False
    | 6 => match st with
      | .ref _ :: r => if am_cat r ≤ 8 then X y (d + 1) cs ss nx lo r h Q else False
      | _ => False
    | 7 => match st with
      | .int n :: .int dp :: .ref a1 :: .int sp :: .ref a0 :: r => if (h.2.1 a0).1 = 20 ∧ (h.2.1 a1).1 = 20 ∧ ¬ sp < 0 ∧ ¬ dp < 0 ∧ ¬ n < 0 ∧ sp.toNatClampNeg + n.toNatClampNeg ≤ (h.2.1 a0).2 ∧ dp.toNatClampNeg + n.toNatClampNeg ≤ (h.2.1 a1).2 ∧ am_cat r ≤ 8 then X y (d + 1) cs ss nx lo r (am_cp h a0 a1 sp.toNatClampNeg dp.toNatClampNeg n.toNatClampNeg) Q else False
      | _ => False
    | 10 => match st with
      | .int b :: .int a :: r => if am_cat r ≤ 8 then X y (d + 1) cs ss nx lo (.int (if b < a then b else a) :: r) h Q else False
      | _ => False
    | 11 => match st with
      | .int b :: .int a :: r => if am_cat r ≤ 8 then X y (d + 1) cs ss nx lo (.int (if a < b then b else a) :: r) h Q else False
      | _ => False
    | 12 => match st with
      | .int a :: r => if am_cat r ≤ 8 then X y (d + 1) cs ss nx lo (.int (if 0 ≤ a then a else 0 - a) :: r) h Q else False
      | _ => False
    | _ => match st.drop n with
      | .ref b :: r => if (st.take n).length = n ∧ (h.2.1 b).1 = am_kd z then am_do (am_mc y) (am_ms y) (am_mc z) (am_ms z) (am_ml z) (am_en z (.ref b :: (st.take n).reverse)) X y d cs ss nx lo h Q z r else False
      | .retAddr t :: r => if (st.take n).length = n ∧ t = 2 ∧ kind = 0 ∧ am_kd z = 15 then am_do (am_mc y) (am_ms y) (am_mc z) (am_ms z) (am_ml z) (am_en z (.retAddr t :: (st.take n).reverse)) X y d cs ss nx lo h Q z r else False
      | _ => False
/-- the rule -/
noncomputable def am_F (S : am_S) (X : am_X) : am_X := fun y d cs ss pc lo st h Q => match am_at y pc with
  | (pc', ins, nx, (la, lb, lc), v, _) =>
    if Nat.beq pc' pc = true then
      am_C S (fun pc lo st h => X y d cs ss pc lo st h Q) (fun n st h => if cs + 1 ≤ am_mc y ∧ ss + n ≤ am_ms y then X y d (cs + 1) (ss + n) nx lo st h Q else False) (fun kind z n st => am_cl S X y cs ss nx lo h Q d kind z n st) (fun r => am_ro (am_rt y) r ∧ Q r h) pc ins nx la lb lc v lo st h
    else False
/-- it comes to its end, with Q -/
noncomputable def am_E (S : am_S) : am_X := fun y d cs ss pc lo st h Q => ∀ X : am_X, (∀ y d cs ss pc lo st h Q, am_F S X y d cs ss pc lo st h Q → X y d cs ss pc lo st h Q) → X y d cs ss pc lo st h Q
theorem am_if_mono {c : ClassFile.Cond} {x y : Int32} {A B A' B' : Prop} (ha : A → A') (hb : B → B') (h : am_if c x y A B) : am_if c x y A' B' := by
  cases c <;> simp only [am_if] at h ⊢ <;> split at h <;> rename_i hc <;> simp only [hc, if_true, if_false] <;> first | exact ha h | exact hb h
theorem am_do_mono {mc ms mcz msz mlz : Nat} {en : List Value} {X Y : am_X} {y d cs ss nx : Nat} {lo : List Value} {h : am_H} {Q : am_Q} {z : Nat} {r : List Value} (hXY : ∀ y d cs ss pc lo st h Q, X y d cs ss pc lo st h Q → Y y d cs ss pc lo st h Q) (hh : am_do mc ms mcz msz mlz en X y d cs ss nx lo h Q z r) : am_do mc ms mcz msz mlz en Y y d cs ss nx lo h Q z r := by
  unfold am_do at hh ⊢
  split at hh
  · rename_i hc
    rw [if_pos hc]
    obtain ⟨Q', h1, h2⟩ := hh
    exact ⟨Q', hXY _ _ _ _ _ _ _ _ _ h1, fun v h' hq => hXY _ _ _ _ _ _ _ _ _ (h2 v h' hq)⟩
  · exact hh.elim
theorem am_C_mono {S : am_S} {go go' : am_go} {al al' : Nat → List Value → am_H → Prop} {cl cl' : Nat → Nat → Nat → List Value → Prop} {rt rt' : Option Value → Prop} {pc : Nat} {ins : Instr} {nx la lb lc : Nat} {v : Value} {lo st : List Value} {h : am_H}
    (hgo : ∀ pc lo st h, go pc lo st h → go' pc lo st h) (hal : ∀ n st h, al n st h → al' n st h) (hcl : ∀ k z n st, cl k z n st → cl' k z n st) (hrt : ∀ r, rt r → rt' r) (hh : am_C S go al cl rt pc ins nx la lb lc v lo st h) : am_C S go' al' cl' rt' pc ins nx la lb lc v lo st h := by
  revert hh
  unfold am_C
  split <;> (try unfold am_ldr) <;> (try unfold am_ldi) <;> (try unfold am_ldl) <;> (try unfold am_str) <;> (try unfold am_sti) <;> (try unfold am_stl) <;> (try unfold am_b2) <;> (try unfold am_l2) <;> (repeat' split) <;> intro hh <;> (first | exact hh.elim | exact hgo _ _ _ _ hh | exact hal _ _ _ hh | exact hcl _ _ _ _ hh | exact hrt _ hh | exact am_if_mono (hgo _ _ _ _) (hgo _ _ _ _) hh)
theorem am_cl_mono {S : am_S} {X Y : am_X} (hXY : ∀ y d cs ss pc lo st h Q, X y d cs ss pc lo st h Q → Y y d cs ss pc lo st h Q) {y cs ss nx : Nat} {lo : List Value} {h : am_H} {Q : am_Q} {d kind z n : Nat} {st : List Value} (hh : am_cl S X y cs ss nx lo h Q d kind z n st) : am_cl S Y y cs ss nx lo h Q d kind z n st := by
  revert hh
  unfold am_cl
  (repeat' split) <;> intro hh <;> first | exact hh.elim | exact am_do_mono hXY hh | exact hXY _ _ _ _ _ _ _ _ _ hh
theorem am_F_mono {S : am_S} {X Y : am_X} (hXY : ∀ y d cs ss pc lo st h Q, X y d cs ss pc lo st h Q → Y y d cs ss pc lo st h Q) : ∀ y d cs ss pc lo st h Q, am_F S X y d cs ss pc lo st h Q → am_F S Y y d cs ss pc lo st h Q := by
  intro y d cs ss pc lo st h Q
  unfold am_F
  split
  split
  · refine am_C_mono (fun _ _ _ _ => hXY _ _ _ _ _ _ _ _ _) (fun n st h => ?_) (fun _ _ _ _ => am_cl_mono hXY) (fun _ => id)
    split
    · exact hXY _ _ _ _ _ _ _ _ _
    · exact id
  · exact id
/-- a step -/
theorem am_E.go {S : am_S} {y d cs ss pc : Nat} {lo st : List Value} {h : am_H} {Q : am_Q} (hh : am_F S (am_E S) y d cs ss pc lo st h Q) : am_E S y d cs ss pc lo st h Q := fun X hX => hX _ _ _ _ _ _ _ _ _ (am_F_mono (fun _ _ _ _ _ _ _ _ _ h => h X hX) _ _ _ _ _ _ _ _ _ hh)
/-- to the next of the places 'cu', or n steps -/
noncomputable def am_G (S : am_S) (cu : List Nat) : Nat → am_X
  | 0 => am_E S
  | n + 1 => fun y d cs ss pc lo st h Q => bif cu.elem pc then am_E S y d cs ss pc lo st h Q else am_F S (am_G S cu n) y d cs ss pc lo st h Q
theorem am_G_E {S : am_S} {cu : List Nat} : ∀ (n : Nat) (y d cs ss pc : Nat) (lo st : List Value) (h : am_H) (Q : am_Q), am_G S cu n y d cs ss pc lo st h Q → am_E S y d cs ss pc lo st h Q
  | 0, _, _, _, _, _, _, _, _, _, hh => hh
  | n + 1, y, d, cs, ss, pc, lo, st, h, Q, hh => by
    unfold am_G at hh
    cases hc : cu.elem pc with
    | true => rw [hc] at hh; exact hh
    | false => rw [hc] at hh; exact am_E.go (am_F_mono (am_G_E n) _ _ _ _ _ _ _ _ _ hh)
/-- a walk from here to the next of the places 'cu' -/
theorem am_E.run {S : am_S} (cu : List Nat) (n : Nat) {y d cs ss pc : Nat} {lo st : List Value} {h : am_H} {Q : am_Q} (hh : am_F S (am_G S cu n) y d cs ss pc lo st h Q) : am_E S y d cs ss pc lo st h Q := am_E.go (am_F_mono (am_G_E n) _ _ _ _ _ _ _ _ _ hh)
