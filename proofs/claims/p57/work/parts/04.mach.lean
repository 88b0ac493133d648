/-! A SMALL MACHINE OF ITS OWN: what the methods of this claim do, over cells that are told by their number (not by their address). It is shown below (05 ff.) that the real machine does the same. All else of the proof speaks of this one. -/
/-- locals: none is a local of which nothing is said -/
abbrev ev_VL : Type := List (Option Value)
/-- a cell: an array of ints (0), chars (1), bytes (2); an object of a class (below 90), an array of longs (100), doubles (101), references (102) -/
abbrev ev_AC : Type := (Nat × List Int32) ⊕ (Nat × List Value)
/-- the cells made by the run (cell i has the number 1000 + i); how many cells and slots were used -/
abbrev ev_AH : Type := List ev_AC × Nat × Nat
/-- a method: its class by number, its name, code, locals, answer, handlers, instructions -/
abbrev ev_MD : Type := Nat × MethodName × ByteArray × Nat × Option FieldType × List (Nat × Nat × Nat × Nat) × List (Nat × Instr × Nat)
/-- a method's end: returned, or threw an exception of a class told by number -/
abbrev ev_O : Type := Option Value ⊕ Nat
abbrev ev_G : Type := (Nat → Nat → Option (Nat × Nat)) × (Nat → Nat → Option (Nat × Nat × Nat × ev_MD)) × (Nat → Nat → Option Nat) × (Nat → Nat → Nat → Option Nat) × (Nat → Nat → Nat → Option Value) × (Nat → Option ev_AC) × (Nat → List (FieldType × Bool)) × (Nat → Nat → Option Nat)
/-- fields: class of the code, entry: class of the object, place -/
abbrev ev_fld (G : ev_G) := G.1
/-- calls: class of the code, entry: kind, arguments, receiver's class, method -/
abbrev ev_ct (G : ev_G) := G.2.1
/-- 'new' of a class of objects -/
abbrev ev_nw (G : ev_G) := G.2.2.1
/-- a throw of a new exception with a text, in class 0: entries of class, text, constructor: its number -/
abbrev ev_ex (G : ev_G) := G.2.2.2.1
/-- constants (0), statics (1), the class of references' arrays (2), of byte arrays (3), their clone (4): class of the code, entry -/
abbrev ev_sk (G : ev_G) := G.2.2.2.2.1
/-- cells that were there before, and stay -/
abbrev ev_cst (G : ev_G) := G.2.2.2.2.2.1
/-- fields of a class: type, final -/
abbrev ev_ft (G : ev_G) := G.2.2.2.2.2.2.1
/-- a handler's class entry in the law: which exceptions it takes: entry, exception: 1 yes, 0 no -/
abbrev ev_hc (G : ev_G) := G.2.2.2.2.2.2.2
def ev_lk {α : Type} : List (Nat × α) → Nat → Option α
  | [], _ => none
  | (k, v) :: r, i => bif Nat.beq k i then some v else ev_lk r i
def ev_rd (G : ev_G) (h : ev_AH) (a : Nat) : Option ev_AC := bif Nat.blt a 1000 then ev_cst G a else h.1[a - 1000]?
/-- a cell that may be written -/
def ev_wr (h : ev_AH) (a : Nat) (x : ev_AC) : ev_AH := (h.1.set (a - 1000) x, h.2)
def ev_in (i : Int32) (n : Nat) : Bool := !(decide (i < 0)) && Nat.blt i.toNatClampNeg n
def ev_i2 (f : Int32 → Int32 → Int32) : List Value → Option (List Value)
  | .int y :: .int x :: r => some (.int (f x y) :: r)
  | _ => none
def ev_i2n (f : Int32 → Int32 → Int32) : List Value → Option (List Value)
  | .int y :: .int x :: r => bif decide (y = 0) then none else some (.int (f x y) :: r)
  | _ => none
def ev_i1 (f : Int32 → Value) : List Value → Option (List Value)
  | .int x :: r => some (f x :: r)
  | _ => none
def ev_cnd : Jvm.ClassFile.Cond → Int32 → Int32 → Bool
  | .eq, x, y => decide (x = y)
  | .ne, x, y => !decide (x = y)
  | .lt, x, y => decide (x < y)
  | .ge, x, y => decide (y ≤ x)
  | .gt, x, y => decide (y < x)
  | .le, x, y => decide (x ≤ y)
/-- where a jump goes -/
def ev_tg (pc : Nat) (off : Int) : Nat := ((pc : Int) + off).toNat
/-- is it within the method's places -/
def ev_tok (pc : Nat) (off : Int) : Bool := decide (0 ≤ (pc : Int) + off)
def ev_c2 (L : ev_VL) (i : Nat) : Bool := match L[i]? with
  | some (some (.long _)) => true
  | some (some (.double _)) => true
  | _ => false
/-- may the place be written without cutting a long or double -/
def ev_sok (L : ev_VL) (i : Nat) : Bool := Nat.blt i L.length && (match i with
  | 0 => true
  | j + 1 => !(ev_c2 L j))
def ev_cat1 : Value → Bool
  | .long _ => false
  | .double _ => false
  | .retAddr _ => false
  | _ => true
def ev_okv (ty : FieldType) (v : Value) : Bool := decide (narrow ty v = v) && fits ty v
/-- loads: which place, of which sort (0 int, 1 reference, 2 float, 3 double) -/
def ev_ldi : Instr → Option (Nat × Nat)
  | .iload_n i => some (i.val, 0)
  | .iload i => some (i, 0)
  | .aload_n i => some (i.val, 1)
  | .aload i => some (i, 1)
  | .fload_n i => some (i.val, 2)
  | .fload i => some (i, 2)
  | .dload_n i => some (i.val, 3)
  | .dload i => some (i, 3)
  | _ => none
def ev_sti : Instr → Option (Nat × Nat)
  | .istore_n i => some (i.val, 0)
  | .istore i => some (i, 0)
  | .astore_n i => some (i.val, 1)
  | .astore i => some (i, 1)
  | .fstore_n i => some (i.val, 2)
  | .fstore i => some (i, 2)
  | .dstore_n i => some (i.val, 3)
  | .dstore i => some (i, 3)
  | _ => none
def ev_srt : Nat → Value → Bool
  | 0, .int _ => true
  | 1, .ref _ => true
  | 2, .float _ => true
  | 3, .double _ => true
  | _, _ => false
/-- how long an instruction is (switches: any) -/
def ev_len : Instr → Nat → Bool
  | .bipush _, n => Nat.beq n 2
  | .sipush _, n => Nat.beq n 3
  | .ldc _, n => Nat.beq n 2
  | .ldc_w _, n => Nat.beq n 3
  | .iload _, n => Nat.beq n 2
  | .aload _, n => Nat.beq n 2
  | .fload _, n => Nat.beq n 2
  | .dload _, n => Nat.beq n 2
  | .istore _, n => Nat.beq n 2
  | .astore _, n => Nat.beq n 2
  | .fstore _, n => Nat.beq n 2
  | .dstore _, n => Nat.beq n 2
  | .iinc _ _, n => Nat.beq n 3
  | .ifCond _ _, n => Nat.beq n 3
  | .if_icmp _ _, n => Nat.beq n 3
  | .goto _, n => Nat.beq n 3
  | .ifnull _, n => Nat.beq n 3
  | .ifnonnull _, n => Nat.beq n 3
  | .getfield _, n => Nat.beq n 3
  | .putfield _, n => Nat.beq n 3
  | .getstatic _, n => Nat.beq n 3
  | .new _, n => Nat.beq n 3
  | .checkcast _, n => Nat.beq n 3
  | .anewarray _, n => Nat.beq n 3
  | .newarray _, n => Nat.beq n 2
  | .invokevirtual _, n => Nat.beq n 3
  | .invokespecial _, n => Nat.beq n 3
  | .invokestatic _, n => Nat.beq n 3
  | .tableswitch _ _ _ _, _ => true
  | .lookupswitch _ _, _ => true
  | _, n => Nat.beq n 1
/-- the next pc, locals, stack, cells -/
abbrev ev_N : Type := Nat × ev_VL × List Value × ev_AH
/-- instructions that touch neither cells nor locals, and don't jump: the new stack -/
def ev_p (G : ev_G) (k : Nat) (S : List Value) : Instr → Option (List Value)
  | .iconst n => some (.int (Int32.ofInt n) :: S)
  | .bipush n => some (.int (Int8.ofInt n).toInt32 :: S)
  | .sipush n => some (.int (Int16.ofInt n).toInt32 :: S)
  | .lconst n => some (.long (Int64.ofNat n.val) :: S)
  | .fconst n => bif Nat.beq n.val 0 then some (.float FP.fconst0 :: S) else none
  | .dconst n => bif Nat.beq n.val 0 then some (.double FP.dconst0 :: S) else none
  | .aconst_null => some (.null :: S)
  | .ldc i => match ev_sk G 0 k i with
    | some v => some (v :: S)
    | none => none
  | .ldc_w i => match ev_sk G 0 k i with
    | some v => some (v :: S)
    | none => none
  | .getstatic i => match ev_sk G 1 k i with
    | some v => some (v :: S)
    | none => none
  | .dup => match S with
    | v :: r => bif ev_cat1 v then some (v :: v :: r) else none
    | _ => none
  | .pop => match S with
    | v :: r => bif ev_cat1 v then some r else none
    | _ => none
  | .dup_x1 => match S with
    | v :: w :: r => bif ev_cat1 v && ev_cat1 w then some (v :: w :: v :: r) else none
    | _ => none
  | .dup2 => match S with
    | v :: w :: r => bif ev_cat1 v && ev_cat1 w then some (v :: w :: v :: w :: r) else none
    | _ => none
  | .iadd => ev_i2 (fun x y => x + y) S
  | .isub => ev_i2 (fun x y => x - y) S
  | .imul => ev_i2 (fun x y => x * y) S
  | .idiv => ev_i2n (fun x y => x / y) S
  | .irem => ev_i2n (fun x y => x - x / y * y) S
  | .iand => ev_i2 (fun x y => x &&& y) S
  | .ior => ev_i2 (fun x y => x ||| y) S
  | .ixor => ev_i2 (fun x y => x ^^^ y) S
  | .ishl => ev_i2 (fun x y => x <<< (y &&& 31)) S
  | .ishr => ev_i2 (fun x y => x >>> (y &&& 31)) S
  | .iushr => ev_i2 (fun x y => (x.toUInt32 >>> (y.toUInt32 &&& Int32.toUInt32 31)).toInt32) S
  | .ineg => ev_i1 (fun x => .int (-x)) S
  | .i2l => ev_i1 (fun x => .long x.toInt64) S
  | .i2b => ev_i1 (fun x => .int x.toInt8.toInt32) S
  | .i2c => ev_i1 (fun x => .int (x.toUInt32 % 65536).toInt32) S
  | .i2f => ev_i1 (fun x => .float (FP.i2f x)) S
  | .i2d => ev_i1 (fun x => .double (FP.i2d x)) S
  | .fdiv => match S with
    | .float y :: .float x :: r => bif decide (FP.fdiv x y &&& 0x7fffffff ≤ 0x7f800000) then some (.float (FP.fdiv x y) :: r) else none
    | _ => none
  | .ddiv => match S with
    | .double y :: .double x :: r => bif decide (FP.ddiv x y &&& 0x7fffffffffffffff ≤ 0x7ff0000000000000) then some (.double (FP.ddiv x y) :: r) else none
    | _ => none
  | .f2d => match S with
    | .float x :: r => bif decide (FP.f2d x &&& 0x7fffffffffffffff ≤ 0x7ff0000000000000) then some (.double (FP.f2d x) :: r) else none
    | _ => none
  | .lcmp => match S with
    | .long y :: .long x :: r => some (.int (lg_cmp x y) :: r)
    | _ => none
  | .dcmp op => match S with
    | .double y :: .double x :: r => some (.int (Op.cmpValue (FP.dcmp x y) op) :: r)
    | _ => none
  | .fcmp op => match S with
    | .float y :: .float x :: r => some (.int (Op.cmpValue (FP.fcmp x y) op) :: r)
    | _ => none
  | _ => none
/-- reads of cells: the new stack -/
def ev_r (G : ev_G) (k : Nat) (S : List Value) (h : ev_AH) : Instr → Option (List Value)
  | .getfield i => match S with
    | .ref a :: r => match ev_fld G k i, ev_rd G h a with
      | some (ci, sl), some (.inr (cj, vs)) => bif Nat.beq ci cj then (match vs[sl]? with
        | some v => some (v :: r)
        | none => none) else none
      | _, _ => none
    | _ => none
  | .arraylength => match S with
    | .ref a :: r => match ev_rd G h a with
      | some (.inl (k0, l)) => bif Nat.ble k0 2 then some (.int (Int32.ofNat l.length) :: r) else none
      | some (.inr (cj, vs)) => bif Nat.ble 100 cj && Nat.ble cj 102 && Nat.ble 1000 a then some (.int (Int32.ofNat vs.length) :: r) else none
      | _ => none
    | _ => none
  | .iaload => match S with
    | .int i :: .ref a :: r => match ev_rd G h a with
      | some (.inl (0, l)) => bif ev_in i l.length then some (.int (l.getD i.toNatClampNeg 0) :: r) else none
      | _ => none
    | _ => none
  | .caload => match S with
    | .int i :: .ref a :: r => match ev_rd G h a with
      | some (.inl (1, l)) => bif ev_in i l.length && Nat.ble 1000 a then some (.int (l.getD i.toNatClampNeg 0) :: r) else none
      | _ => none
    | _ => none
  | .baload => match S with
    | .int i :: .ref a :: r => match ev_rd G h a with
      | some (.inl (2, l)) => bif ev_in i l.length then some (.int (l.getD i.toNatClampNeg 0) :: r) else none
      | _ => none
    | _ => none
  | .aaload => match S with
    | .int i :: .ref a :: r => match ev_rd G h a with
      | some (.inr (102, vs)) => bif ev_in i vs.length && Nat.ble 1000 a then (match vs[i.toNatClampNeg]? with
        | some (.ref x) => some (.ref x :: r)
        | some .null => some (.null :: r)
        | _ => none) else none
      | _ => none
    | _ => none
  | .checkcast i => match S with
    | .ref a :: r => match h.1[a - 1000]? with
      | some (.inl (2, _)) => bif Nat.ble 1000 a && (ev_sk G 3 k i).isSome then some (.ref a :: r) else none
      | _ => none
    | _ => none
  | _ => none
def ev_cs (S : List Value) : Bool := Nat.ble ((S.map fun v => v.category).sum) 8
/-- writes and makings: the new stack and cells -/
def ev_w (G : ev_G) (M : ev_MD) (S : List Value) (h : ev_AH) : Instr → Option (List Value × ev_AH)
  | .putfield i => match S with
    | v :: .ref a :: r => match ev_fld G M.1 i, h.1[a - 1000]? with
      | some (ci, sl), some (.inr (cj, vs)) => match (ev_ft G ci)[sl]? with
        | some (ty, fin) => bif Nat.beq ci cj && Nat.ble 1000 a && Nat.blt sl vs.length && ev_okv ty v && (!fin || (decide (M.2.1.name = "<init>") && Nat.beq ci M.1)) then some (r, ev_wr h a (.inr (cj, vs.set sl v))) else none
        | none => none
      | _, _ => none
    | _ => none
  | .iastore => match S with
    | .int x :: .int i :: .ref a :: r => match h.1[a - 1000]? with
      | some (.inl (0, l)) => bif ev_in i l.length && Nat.ble 1000 a then some (r, ev_wr h a (.inl (0, l.set i.toNatClampNeg x))) else none
      | _ => none
    | _ => none
  | .castore => match S with
    | .int x :: .int i :: .ref a :: r => match h.1[a - 1000]? with
      | some (.inl (1, l)) => bif ev_in i l.length && Nat.ble 1000 a then some (r, ev_wr h a (.inl (1, l.set i.toNatClampNeg (vp_nar .char x)))) else none
      | _ => none
    | _ => none
  | .bastore => match S with
    | .int x :: .int i :: .ref a :: r => match h.1[a - 1000]? with
      | some (.inl (2, l)) => bif ev_in i l.length && Nat.ble 1000 a then some (r, ev_wr h a (.inl (2, l.set i.toNatClampNeg (vp_nar .byte x)))) else none
      | _ => none
    | _ => none
  | .aastore => match S with
    | .ref x :: .int i :: .ref a :: r => match h.1[a - 1000]?, h.1[x - 1000]? with
      | some (.inr (102, vs)), some (.inr (1, _)) => bif ev_in i vs.length && Nat.ble 1000 a && Nat.ble 1000 x then some (r, ev_wr h a (.inr (102, vs.set i.toNatClampNeg (.ref x)))) else none
      | _, _ => none
    | _ => none
  | .newarray t => match S with
    | .int n :: r => bif decide (n < 0) || Nat.blt 1000000 n.toNatClampNeg then none else
      match newarray.typeOf t with
      | .int => some (.ref (1000 + h.1.length) :: r, (h.1 ++ [.inl (0, List.replicate n.toNatClampNeg 0)], h.2.1 + 1, h.2.2 + n.toNatClampNeg))
      | .char => some (.ref (1000 + h.1.length) :: r, (h.1 ++ [.inl (1, List.replicate n.toNatClampNeg 0)], h.2.1 + 1, h.2.2 + n.toNatClampNeg))
      | .byte => some (.ref (1000 + h.1.length) :: r, (h.1 ++ [.inl (2, List.replicate n.toNatClampNeg 0)], h.2.1 + 1, h.2.2 + n.toNatClampNeg))
      | _ => none
    | _ => none
  | .anewarray i => match S with
    | .int n :: r => bif decide (n < 0) || Nat.blt 1000000 n.toNatClampNeg || !(ev_sk G 2 M.1 i).isSome then none else
      some (.ref (1000 + h.1.length) :: r, (h.1 ++ [.inr (102, List.replicate n.toNatClampNeg .null)], h.2.1 + 1, h.2.2 + n.toNatClampNeg))
    | _ => none
  | .new i => match ev_nw G M.1 i with
    | some ci => some (.ref (1000 + h.1.length) :: S, (h.1 ++ [.inr (ci, (ev_ft G ci).map (fun q => defaultValue q.1))], h.2.1 + 1, h.2.2 + (ev_ft G ci).length))
    | none => none
  | .invokevirtual i => match ev_sk G 4 M.1 i with
    | some _ => (match S with
      | .ref a :: r => match h.1[a - 1000]? with
        | some (.inl (2, l)) => bif Nat.ble 1000 a && ev_cs r && l.all (fun x => fits .byte (.int x)) then some (.ref (1000 + h.1.length) :: r, (h.1 ++ [.inl (2, l)], h.2.1 + 1, h.2.2 + l.length)) else none
        | _ => none
      | _ => none)
    | none => none
  | _ => none
/-- jumps: where to, and the rest of the stack -/
def ev_j (pc : Nat) (S : List Value) : Instr → Option (Nat × List Value)
  | .ifCond c off => match S with
    | .int x :: r => bif ev_tok pc off then some (bif ev_cnd c x 0 then ev_tg pc off else pc + 3, r) else none
    | _ => none
  | .if_icmp c off => match S with
    | .int y :: .int x :: r => bif ev_tok pc off then some (bif ev_cnd c x y then ev_tg pc off else pc + 3, r) else none
    | _ => none
  | .goto off => bif ev_tok pc off then some (ev_tg pc off, S) else none
  | .ifnull off => match S with
    | .ref _ :: r => some (pc + 3, r)
    | .null :: r => bif ev_tok pc off then some (ev_tg pc off, r) else none
    | _ => none
  | .ifnonnull off => match S with
    | .ref _ :: r => bif ev_tok pc off then some (ev_tg pc off, r) else none
    | .null :: r => some (pc + 3, r)
    | _ => none
  | .tableswitch d lo hi offs => match S with
    | .int x :: r => bif decide (x.toInt < lo) || decide (hi < x.toInt) then (bif ev_tok pc d then some (ev_tg pc d, r) else none) else
      match offs[(x.toInt - lo).toNat]? with
      | some off => bif ev_tok pc off then some (ev_tg pc off, r) else none
      | none => none
    | _ => none
  | .lookupswitch d ps => match S with
    | .int x :: r => bif (ps.toList.zip (ps.toList.drop 1)).all (fun (a, next) => a.1 < next.1) && ev_tok pc (Op.lookupswitch.offset ps.toList d x.toInt) then some (ev_tg pc (Op.lookupswitch.offset ps.toList d x.toInt), r) else none
    | _ => none
  | _ => none
def ev_il : Instr → Nat
  | .bipush _ => 2
  | .sipush _ => 3
  | .ldc _ => 2
  | .getfield _ => 3
  | .putfield _ => 3
  | .getstatic _ => 3
  | .new _ => 3
  | .anewarray _ => 3
  | .newarray _ => 2
  | _ => 1
/-- one step that is no call and no end -/
def ev_s (G : ev_G) (M : ev_MD) (pc : Nat) (L : ev_VL) (S : List Value) (h : ev_AH) (i : Instr) (n : Nat) : Option ev_N :=
  match ev_ldi i with
  | some (j, t) => (match L[j]? with
    | some (some v) => bif ev_srt t v then some (pc + n, L, v :: S, h) else none
    | _ => none)
  | none => match ev_sti i with
    | some (j, t) => (match S with
      | v :: r => bif ev_srt t v && ev_sok L j then (bif Nat.beq t 3 then (bif Nat.blt (j + 1) L.length then some (pc + n, (L.set j (some v)).set (j + 1) none, r, h) else none) else some (pc + n, L.set j (some v), r, h)) else none
      | _ => none)
    | none => match i with
      | .iinc j d => (match L[j]? with
        | some (some (.int x)) => bif ev_sok L j then some (pc + 3, L.set j (some (.int (x + Int32.ofInt d))), S, h) else none
        | _ => none)
      | _ => match ev_p G M.1 S i with
        | some S' => some (pc + n, L, S', h)
        | none => match ev_r G M.1 S h i with
          | some S' => some (pc + n, L, S', h)
          | none => match ev_w G M S h i with
            | some (S', h') => some (pc + n, L, S', h')
            | none => match ev_j pc S i with
              | some (pc', S') => some (pc', L, S', h)
              | none => none
/-- the arguments of a call: the last one lies on top -/
def ev_pop : Nat → List Value → List Value → Option (List Value × List Value)
  | 0, acc, S => some (acc, S)
  | _ + 1, _, [] => none
  | n + 1, acc, v :: S => ev_pop n (v :: acc) S
/-- a thrown exception at pc: caught here (where the handler's next instruction stands, and the place where it keeps the exception), or not -/
def ev_hd (G : ev_G) (M : ev_MD) (pc E : Nat) : List (Nat × Nat × Nat × Nat) → Option (Option (Nat × Nat))
  | [] => some none
  | (lo, hi, tg, ct) :: r => bif Nat.ble lo pc && Nat.blt pc hi then (match ev_hc G ct E with
    | some 1 => (match ev_lk M.2.2.2.2.2.2 tg with
      | some (.astore_n j, 1) => some (some (tg + 1, j.val))
      | some (.astore j, 2) => some (some (tg + 2, j))
      | _ => none)
    | some 0 => ev_hd G M pc E r
    | _ => none) else ev_hd G M pc E r
/-- 'throw new E(text)' at pc: which exception -/
def ev_th (G : ev_G) (M : ev_MD) (pc i : Nat) : Option Nat :=
  match ev_lk M.2.2.2.2.2.2 (pc + 3), ev_lk M.2.2.2.2.2.2 (pc + 4) with
  | some (.dup, 1), some (.ldc is, 2) => (match ev_lk M.2.2.2.2.2.2 (pc + 6), ev_lk M.2.2.2.2.2.2 (pc + 9) with
    | some (.invokespecial ic, 3), some (.athrow, 1) => ev_ex G i is ic
    | _, _ => none)
  | some (.dup, 1), some (.ldc_w is, 3) => (match ev_lk M.2.2.2.2.2.2 (pc + 7), ev_lk M.2.2.2.2.2.2 (pc + 10) with
    | some (.invokespecial ic, 3), some (.athrow, 1) => ev_ex G i is ic
    | _, _ => none)
  | _, _ => none
/-- an end: the answer -/
def ev_e (M : ev_MD) (S : List Value) : Instr → Option (Option Value)
  | .return_ => match S, M.2.2.2.2.1 with
    | [], none => some none
    | _, _ => none
  | .ireturn => match S, M.2.2.2.2.1 with
    | [.int x], some ty => (match narrow ty (.int x) with
      | .int v => some (some (.int v))
      | _ => none)
    | _, _ => none
  | .areturn => match S, M.2.2.2.2.1 with
    | [.ref a], some (.object _) => some (some (.ref a))
    | [.ref a], some (.array _) => some (some (.ref a))
    | [.null], some (.object _) => some (some .null)
    | _, _ => none
  | .dreturn => match S, M.2.2.2.2.1 with
    | [.double x], some .double => some (some (.double x))
    | _, _ => none
  | .freturn => match S, M.2.2.2.2.1 with
    | [.float x], some .float => some (some (.float x))
    | _, _ => none
  | _ => none
/-- is a call's kind one of its instruction (0 virtual, 1 a nest mate's; 2 static, 3 a nest mate's, 8 with handlers; 4 <init>, 5 a nest mate's, 7 the superclass's) -/
def ev_ck : Instr → Nat → Bool
  | .invokevirtual _, k => Nat.beq k 0 || Nat.beq k 1 || Nat.beq k 6
  | .invokestatic _, k => Nat.beq k 2 || Nat.beq k 3 || Nat.beq k 8
  | .invokespecial _, k => Nat.beq k 4 || Nat.beq k 5 || Nat.beq k 7
  | _, _ => false
def ev_ix : Instr → Option Nat
  | .invokevirtual i => some i
  | .invokestatic i => some i
  | .invokespecial i => some i
  | _ => none
def ev_st : Nat → Bool := fun k => Nat.beq k 2 || Nat.beq k 3 || Nat.beq k 8
/-- the receiver: an object of the class of that number (for a constructor: any) -/
def ev_rc (G : ev_G) (h : ev_AH) (k rc : Nat) : Value → Bool
  | .ref a => Nat.beq k 4 || Nat.beq k 5 || (match ev_rd G h a with
    | some (.inr (ci, _)) => Nat.beq ci rc && Nat.blt ci 100
    | _ => false)
  | _ => false
/-- calls that aren't walked: kind 13: System.arraycopy between two byte arrays; 10: the constructor of Object; 11, 12: Math.min, Math.max of ints -/
def ev_na (G : ev_G) (i : Instr) (S : List Value) (h : ev_AH) : Nat → Option (List Value × ev_AH)
  | 10 => match S with
    | .ref _ :: r => bif ev_ck i 4 && ev_cs r then some (r, h) else none
    | _ => none
  | 13 => match S with
    | .int n :: .int dp :: .ref b :: .int sp :: .ref a :: r => match ev_rd G h a, h.1[b - 1000]? with
      | some (.inl (2, la)), some (.inl (2, lb)) =>
        bif ev_ck i 2 && Nat.ble 1000 b && !(decide (n < 0)) && !(decide (dp < 0)) && !(decide (sp < 0)) && Nat.ble (sp.toNatClampNeg + n.toNatClampNeg) la.length && Nat.ble (dp.toNatClampNeg + n.toNatClampNeg) lb.length && ((la.drop sp.toNatClampNeg).take n.toNatClampNeg).all (fun x => fits .byte (.int x)) && ev_cs r then
          some (r, ev_wr h b (.inl (2, lb.take dp.toNatClampNeg ++ (la.drop sp.toNatClampNeg).take n.toNatClampNeg ++ lb.drop (dp.toNatClampNeg + n.toNatClampNeg))))
        else none
      | _, _ => none
    | _ => none
  | 11 => match S with
    | .int y :: .int x :: r => bif ev_ck i 2 && ev_cs r then some (.int (if y < x then y else x) :: r, h) else none
    | _ => none
  | 12 => match S with
    | .int y :: .int x :: r => bif ev_ck i 2 && ev_cs r then some (.int (if x < y then y else x) :: r, h) else none
    | _ => none
  | _ => none
/-- may these be the arguments of a call of kind k, with r left on the stack -/
def ev_cok (G : ev_G) (h : ev_AH) (k rc : Nat) (M' : ev_MD) (A r : List Value) : Bool := ev_cs r && Nat.ble A.length M'.2.2.2.1 && Nat.ble M'.2.2.2.1 40 && A.all ev_cat1 && (ev_st k || (match A with
  | v :: _ => ev_rc G h k rc v
  | [] => false))
def ev_en (M : ev_MD) (A : List Value) : ev_VL := A.map some ++ List.replicate (M.2.2.2.1 - A.length) none
/-- THE MACHINE: n bounds the steps, d the depth of calls -/
def ev_F (G : ev_G) : Nat → Nat → ev_MD → Nat → ev_VL → List Value → ev_AH → Option (ev_O × ev_AH)
  | 0, _, _, _, _, _, _ => none
  | n + 1, d, M, pc, L, S, h => match ev_lk M.2.2.2.2.2.2 pc with
    | none => none
    | some (i, len) => bif ev_len i len then
      (match ev_s G M pc L S h i len with
      | some (pc', L', S', h') => ev_F G n d M pc' L' S' h'
      | none => match ev_e M S i with
        | some v => some (.inl v, h)
        | none => match i with
          | .new j => (match ev_th G M pc j, M.2.2.2.2.2.1 with
            | some E, [] => bif Nat.beq M.1 0 && ev_cs S then some (.inr E, (h.1, h.2.1 + 1, h.2.2 + 6)) else none
            | _, _ => none)
          | _ => match ev_ix i with
            | none => none
            | some j => match ev_ct G M.1 j with
              | none => none
              | some (k, a, rc, M') => match ev_na G i S h k with
                | some (S', h') => ev_F G n d M (pc + 3) L S' h'
                | none => match d with
                  | 0 => none
                  | d + 1 => bif ev_ck i k then
                    (match ev_pop (bif ev_st k then a else a + 1) [] S with
                    | none => none
                    | some (A, r) => bif ev_cok G h k rc M' A r then
                      (match ev_F G n d M' 0 (ev_en M' A) [] h with
                      | some (.inl v, h') => ev_F G n (d + 1) M (pc + 3) L (v.toList ++ r) h'
                      | some (.inr E, h') => (match ev_hd G M pc E M.2.2.2.2.2.1 with
                        | some none => some (.inr E, h')
                        | some (some (pc', j)) => bif ev_sok L j then ev_F G n (d + 1) M pc' (L.set j none) [] h' else none
                        | none => none)
                      | none => none) else none)
                    else none)
      else none
