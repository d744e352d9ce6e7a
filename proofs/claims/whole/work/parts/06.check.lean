/-! EVERY ROW OF THE TABLES IS WHAT THE BYTES SAY, AND ITS WORDS STAND IN THE CLAIM'S TABLES -/
def am_tx : String := "costs gains fines bars go give inspect wait if times by of to or and not person years want keys watch before others hour odds mood bread inside done found place holds "
def am_il : Instr → Nat
  | .aload _ => 2
  | .iload _ => 2
  | .lload _ => 2
  | .astore _ => 2
  | .istore _ => 2
  | .lstore _ => 2
  | .bipush _ => 2
  | .ldc _ => 2
  | .newarray _ => 2
  | .sipush _ => 3
  | .ldc_w _ => 3
  | .ldc2_w _ => 3
  | .getfield _ => 3
  | .putfield _ => 3
  | .getstatic _ => 3
  | .new _ => 3
  | .anewarray _ => 3
  | .invokestatic _ => 3
  | .invokevirtual _ => 3
  | .invokespecial _ => 3
  | .ifCond _ _ => 3
  | .if_icmp _ _ => 3
  | .goto _ => 3
  | .ifnonnull _ => 3
  | .iinc _ _ => 3
  | _ => 1
noncomputable def am_wc (z : Nat) : Cond := .code (am_nm z) (am_by z) (am_ml z) (am_rt z)
noncomputable def am_wl (own : String) (ins : Instr) (la lb lc : Nat) (v : Value) : List Cond := match ins with
  | .getfield i => if lc = 5 then [.fieldLink own i "java/lang/String" "value" "[B"] else if lc = 6 then [.fieldLink own i "java/lang/String" "coder" "B"] else match vwCl[la]? with
    | some q => [.fieldLink own i (q.2.1 lb).1 (q.2.1 lb).2.1 (q.2.1 lb).2.2.1]
    | none => []
  | .putfield i => match vwCl[la]? with
    | some q => [.fieldLink own i (q.2.1 lb).1 (q.2.1 lb).2.1 (q.2.1 lb).2.2.1]
    | none => []
  | .getstatic i => match la with
    | 0 => [.fieldLink own i "KeyKeepers" "TERM_LEAST" "[I"]
    | 1 => [.fieldLink own i "KeyKeepers" "TERM_MOST" "[I"]
    | 5 => [.fieldLink own i "jdk/internal/util/Preconditions" "SIOOBE_FORMATTER" "Ljava/util/function/BiFunction;"]
    | _ => [.fieldLink own i "java/lang/String" "COMPACT_STRINGS" "Z"]
  | .ldc i => match v with
    | .int x => [.constant own i x]
    | _ => [.stringRef own i am_tx]
  | .ldc_w i => match v with
    | .int x => [.constant own i x]
    | _ => []
  | .ldc2_w i => match v with
    | .long x => [.constantLong own i x]
    | _ => []
  | .new i => match vwCl[la]? with
    | some q => [.classLink own i q.1, .instantiable q.1 q.2.2, .initialized q.1]
    | none => []
  | .newarray t => [.arrayClass (newarray.typeOf t)]
  | .anewarray i => if la = 23 then [.classLink own i RX6, .arrayOver (.object RX6)] else [.classLink own i RX10, .arrayOver (.object RX10)]
  | .invokestatic i => if la = 7 then [.methodLink own i arraycopyName, .native arraycopyName, .static arraycopyName, .initialized "java/lang/System"] else [if la = 1 then .methodLink own i (am_nm lb) else .methodLinkNest own i (am_nm lb) "KeyKeepers", .static (am_nm lb), .initialized (am_nm lb).cls, am_wc lb]
  | .invokespecial i => if la = 6 then [.methodLink own i objectInit, .instanceMethod objectInit, .code objectInit ⟨#[0xb1]⟩ 1 none] else [if la = 2 then .methodLink own i (am_nm lb) else .methodLinkNest own i (am_nm lb) "KeyKeepers", .instanceMethod (am_nm lb), .initialized (am_nm lb).cls, am_wc lb]
  | .invokevirtual i => [if la = 0 then .methodLink own i (am_nm lb) else .methodLinkNest own i (am_nm lb) "KeyKeepers", .instanceMethod (am_nm lb), .selects (am_nm lb).cls (am_nm lb) (am_nm lb), .initialized (am_nm lb).cls, am_wc lb]
  | _ => []
def am_fk (T : String × String × String × Bool) (lc : Nat) : Bool := match lc, parseFieldDescriptor T.2.2.1 with
  | 0, some .int => true
  | 1, some .long => true
  | 3, some .boolean => true
  | 2, some (.object _) => true
  | 2, some (.array _) => true
  | _, _ => false
/-- what a call wants of its callee -/
noncomputable def am_cw (z n : Nat) : Bool := decide ((am_nm z).cls ≠ "java/lang/invoke/MethodHandle") && decide ((am_nm z).cls ≠ "java/lang/invoke/VarHandle") && decide ((parseMethodDescriptor (am_nm z).desc).map (fun d => d.parameters.length) = some n) && decide (am_ml z ≤ 40)
noncomputable def am_cx (M : am_M) (pc : Nat) (ins : Instr) (la lb lc : Nat) (v : Value) : Bool := match ins with
  | .aload_n k => decide (k.val = la ∧ la < M.2.2.1)
  | .iload_n k => decide (k.val = la ∧ la < M.2.2.1)
  | .lload_n k => decide (k.val = la ∧ la < M.2.2.1)
  | .astore_n k => decide (k.val = la ∧ la < M.2.2.1)
  | .istore_n k => decide (k.val = la ∧ la < M.2.2.1)
  | .lstore_n k => decide (k.val = la ∧ la + 1 < M.2.2.1)
  | .aload k => decide (k = la ∧ la < M.2.2.1)
  | .iload k => decide (k = la ∧ la < M.2.2.1)
  | .lload k => decide (k = la ∧ la < M.2.2.1)
  | .astore k => decide (k = la ∧ la < M.2.2.1)
  | .istore k => decide (k = la ∧ la < M.2.2.1)
  | .lstore k => decide (k = la ∧ la + 1 < M.2.2.1)
  | .iinc k n => decide (k = la ∧ la < M.2.2.1 ∧ v = .int (Int32.ofInt n))
  | .iconst n => decide (v = .int (Int32.ofInt n))
  | .bipush n => decide (v = .int (Int8.ofInt n).toInt32)
  | .sipush n => decide (v = .int (Int16.ofInt n).toInt32)
  | .lconst n => decide (v = .long (Int64.ofNat n.val))
  | .ldc i => match v with
    | .int _ => true
    | .retAddr 2 => decide (M.1.cls = "KeyKeepers$Reader" ∧ i = 164)
    | _ => false
  | .ldc_w _ => match v with
    | .int _ => true
    | _ => false
  | .ldc2_w _ => match v with
    | .long _ => true
    | _ => false
  | .getstatic _ => decide ((la = 0 ∧ v = .retAddr 0) ∨ (la = 1 ∧ v = .retAddr 1) ∨ (la = 5 ∧ v = .retAddr 5) ∨ (la = 7 ∧ v = .int 1))
  | .ifCond _ off => decide ((pc : Int) + off = (la : Int))
  | .if_icmp _ off => decide ((pc : Int) + off = (la : Int))
  | .goto off => decide ((pc : Int) + off = (la : Int))
  | .ifnonnull off => decide ((pc : Int) + off = (la : Int))
  | .tableswitch df _ _ offs => decide (0 ≤ (pc : Int) + df) && offs.toList.all (fun o => decide (0 ≤ (pc : Int) + o))
  | .getfield _ => decide (lc = 5 ∨ lc = 6) || (match vwCl[la]? with
    | some q => decide (la < 13 ∧ lb < q.2.2 ∧ am_ft la lb = lc)
    | none => false)
  | .putfield _ => match vwCl[la]? with
    | some q => decide (la < 13 ∧ lb < q.2.2 ∧ am_ft la lb = lc ∧ ((q.2.1 lb).2.2.2 = true → M.1.name = "<init>" ∧ (q.2.1 lb).1 = M.1.cls)) && am_fk (q.2.1 lb) lc
    | none => false
  | .new _ => match vwCl[la]? with
    | some q => decide (la < 13 ∧ lb = q.2.2)
    | none => false
  | .newarray t => decide ((la = 20 ∧ newarray.typeOf t = .int) ∨ (la = 21 ∧ newarray.typeOf t = .long) ∨ (la = 22 ∧ newarray.typeOf t = .boolean))
  | .anewarray _ => decide (la = 23 ∨ la = 24)
  | .invokestatic _ => decide (la = 7) || (decide (la = 1 ∨ la = 4) && am_cw lb lc)
  | .invokespecial _ => decide (la = 6) || (decide (la = 2 ∨ la = 5) && am_cw lb lc && decide ((am_nm lb).name = "<init>" ∧ am_rt lb = none))
  | .invokevirtual _ => decide (la = 0 ∨ la = 3) && am_cw lb lc && (decide (am_kd lb = 15 ∧ (am_nm lb).cls = "java/lang/String") || (match vwCl[am_kd lb - 1]? with
    | some q => decide (0 < am_kd lb ∧ am_kd lb ≤ 13 ∧ q.1 = (am_nm lb).cls)
    | none => false))
  | _ => true
def am_tb : Instr → Bool
  | .tableswitch _ _ _ _ => true
  | _ => false
noncomputable def am_ck (M : am_M) (e : am_L) : Bool := match e with
  | (pc, ins, nx, (la, lb, lc), v, ps) => (bif am_tb ins then decide (decode M.2.1 pc = .ok (ins, nx - pc)) else decide (decode M.2.1 pc = .ok (ins, am_il ins) ∧ nx = pc + am_il ins)) && decide (ps.map (fun i => lw_tbl[i]?) = (am_wl M.1.cls ins la lb lc v).map some) && am_cx M pc ins la lb lc v
def am_all {α : Type} (P : α → Bool) : Lean.RArray α → Bool
  | .leaf a => P a
  | .branch _ l r => am_all P l && am_all P r
theorem am_all_get {α : Type} {P : α → Bool} : ∀ {t : Lean.RArray α}, am_all P t = true → ∀ i, P (t.get i) = true
  | .leaf a, h, i => h
  | .branch k l r, h, i => by
    have h2 : am_all P l = true ∧ am_all P r = true := by simpa [am_all] using h
    show P ((Nat.ble k i).rec (l.get i) (r.get i)) = true
    cases Nat.ble k i
    · exact am_all_get h2.1 i
    · exact am_all_get h2.2 i
def am_a2 {α β : Type} (P : α → β → Prop) : Lean.RArray α → Lean.RArray β → Prop
  | .leaf a, .leaf b => P a b
  | .branch k l r, .branch k' l' r' => k = k' ∧ am_a2 P l l' ∧ am_a2 P r r'
  | _, _ => False
theorem am_a2_get {α β : Type} {P : α → β → Prop} : ∀ {t : Lean.RArray α} {u : Lean.RArray β}, am_a2 P t u → ∀ i, P (t.get i) (u.get i)
  | .leaf a, .leaf b, h, i => h
  | .branch k l r, .branch k' l' r', h, i => by
    obtain ⟨h1, h2, h3⟩ := h
    subst h1
    show P ((Nat.ble k i).rec (l.get i) (r.get i)) ((Nat.ble k i).rec (l'.get i) (r'.get i))
    cases Nat.ble k i
    · exact am_a2_get h2 i
    · exact am_a2_get h3 i
  | .leaf a, .branch _ _ _, h, i => h.elim
  | .branch _ _ _, .leaf b, h, i => h.elim
