/-! the abstract machine: a step, a run. Cells are numbers in the order of their making; references to them are numbers; 1000.. static arrays, 2000.. String constants, 3000.. their bytes, 4000 the script, 4001 a static that nobody looks into. -/
abbrev z_pc (e : zI) : Nat := e.1
abbrev z_in (e : zI) : Instr := e.2.1
abbrev z_k (e : zI) : Nat := e.2.2.1
abbrev z_a (e : zI) : Nat := e.2.2.2.1
abbrev z_b (e : zI) : Nat := e.2.2.2.2.1
abbrev z_v (e : zI) : Int32 := e.2.2.2.2.2.1
abbrev z_w (e : zI) : Int64 := e.2.2.2.2.2.2
abbrev z_m (mi : Nat) : zM := z_ms.getD mi zm_0
abbrev z_my (mi : Nat) : MethodName := (z_m mi).1
abbrev z_mb (mi : Nat) : ByteArray := (z_m mi).2.1
abbrev z_ml_ (mi : Nat) : Nat := (z_m mi).2.2.1
abbrev z_mr (mi : Nat) : Option FieldType := (z_m mi).2.2.2.1
abbrev z_mc (mi : Nat) : Nat := (z_m mi).2.2.2.2.1
abbrev z_mi (mi : Nat) : List zI := (z_m mi).2.2.2.2.2
abbrev z_sk (k : Nat) : Nat := (z_sh.getD k (9, 0, 0)).1
abbrev z_sc (k : Nat) : Nat := (z_sh.getD k (9, 0, 0)).2.1
abbrev z_sl_ (k : Nat) : Nat := (z_sh.getD k (9, 0, 0)).2.2
/-- is the field a reference -/
def z_rf (ci k : Nat) : Bool := !((z_T ci k).2.2.1 == "I")
/-- how long an instruction is -/
def z_len (e : zI) : Nat := match z_in e with
  | .bipush _ => 2
  | .sipush _ => 3
  | .iload _ => 2
  | .aload _ => 2
  | .lload _ => 2
  | .istore _ => 2
  | .astore _ => 2
  | .lstore _ => 2
  | .iinc _ _ => 3
  | .goto _ => 3
  | .ifCond _ _ => 3
  | .if_icmp _ _ => 3
  | .getfield _ => 3
  | .putfield _ => 3
  | .getstatic _ => 3
  | .invokevirtual _ => 3
  | .invokestatic _ => 3
  | .invokespecial _ => 3
  | .new _ => 3
  | .anewarray _ => 3
  | .newarray _ => 2
  | .ldc _ => 2
  | .ldc_w _ => 3
  | .ldc2_w _ => 3
  | .tableswitch _ _ _ _ => z_k e
  | _ => 1
/-- an instruction of the tables is as the bytes and the links have it -/
def z_ok (b : ByteArray) (c : Nat) (e : zI) : Bool := decide (decode b (z_pc e) = .ok (z_in e, z_len e)) && (match z_in e with
  | .iconst n => decide (Int32.ofInt n = z_v e)
  | .bipush n => decide ((Int8.ofInt n).toInt32 = z_v e)
  | .sipush n => decide ((Int16.ofInt n).toInt32 = z_v e)
  | .lconst n => decide (Int64.ofNat n = z_w e)
  | .iinc _ n => decide (Int32.ofInt n = z_v e)
  | .goto off => decide ((z_pc e : Int) + off = (z_a e : Int))
  | .ifCond _ off => decide ((z_pc e : Int) + off = (z_a e : Int))
  | .if_icmp _ off => decide ((z_pc e : Int) + off = (z_a e : Int))
  | .getfield i => if z_a e = 17 then z_fs.any (fun q => q.1 == c && q.2.1 == i && q.2.2.1 == z_b e) else z_fl.any (fun q => q.1 == c && q.2.1 == i && q.2.2.1 == z_a e && q.2.2.2.1 == z_b e)
  | .putfield i => z_fl.any (fun q => q.1 == c && q.2.1 == i && q.2.2.1 == z_a e && q.2.2.2.1 == z_b e)
  | .getstatic i => (z_k e == 0 && z_sl.any (fun q => q.1 == c && q.2.1 == i && q.2.2.1 == z_a e)) || (z_k e == 1 && c == 17 && i == 38 && decide (z_v e = 1)) || (z_k e == 2 && c == 17 && i == 1053)
  | .ldc i => (z_k e == 0 && z_kc.any (fun q => q.1 == c && q.2.1 == i && decide (q.2.2.1 = z_v e))) || (z_k e == 1 && z_sr.any (fun q => q.1 == c && q.2.1 == i && q.2.2.1 == z_a e))
  | .ldc_w i => z_k e == 0 && z_kc.any (fun q => q.1 == c && q.2.1 == i && decide (q.2.2.1 = z_v e))
  | .ldc2_w i => z_kl.any (fun q => q.1 == c && q.2.1 == i && decide (q.2.2.1 = z_w e))
  | .new i => z_nl.any (fun q => q.1 == c && q.2.1 == i && q.2.2.1 == z_a e)
  | .anewarray i => z_nl.any (fun q => q.1 == c && q.2.1 == i && q.2.2.1 == z_a e)
  | .newarray t => decide (t = .int) && z_k e == 1 || decide (t = .byte) && z_k e == 2 || decide (t = .boolean) && z_k e == 3
  | .invokevirtual i => z_k e == 9 || z_ml.any (fun q => q.1 == c && q.2.1 == i && q.2.2.1 == z_k e && q.2.2.2.1 == z_a e && q.2.2.2.2.1 == z_b e)
  | .invokestatic i => z_k e == 9 || z_ml.any (fun q => q.1 == c && q.2.1 == i && q.2.2.1 == z_k e && q.2.2.2.1 == z_a e && q.2.2.2.2.1 == z_b e)
  | .invokespecial i => z_ml.any (fun q => q.1 == c && q.2.1 == i && q.2.2.1 == z_k e && q.2.2.2.1 == z_a e && q.2.2.2.2.1 == z_b e)
  | _ => true)
abbrev zH : Type := Nat × (Nat → Nat → Int32) × (Nat → Nat → Option Nat)
abbrev zF : Type := Nat × List (Nat × Value) × List Value
def z_get : List (Nat × Value) → Nat → Option Value
  | [], _ => none
  | q :: l, i => if q.1 = i then some q.2 else z_get l i
def z_s1 (L : List (Nat × Value)) (i : Nat) (v : Value) : List (Nat × Value) := (i, v) :: L.filter (fun q => !(q.1 == i) && !(q.1 + 1 == i && q.2.category == 2))
def z_s2 (L : List (Nat × Value)) (i : Nat) (v : Value) : List (Nat × Value) := (i, v) :: L.filter (fun q => !(q.1 == i) && (!(q.1 == i + 1) && !(q.1 + 1 == i && q.2.category == 2)))
/-- a step that asks no cell -/
def z_A (nL : Nat) (e : zI) (pc : Nat) (L : List (Nat × Value)) (st : List Value) : Option zF :=
  match z_in e with
  | .iconst _ => some (pc + 1, L, .int (z_v e) :: st)
  | .bipush _ => some (pc + 2, L, .int (z_v e) :: st)
  | .sipush _ => some (pc + 3, L, .int (z_v e) :: st)
  | .lconst _ => some (pc + 1, L, .long (z_w e) :: st)
  | .iload_n i => match z_get L i with
    | some (.int x) => some (pc + 1, L, .int x :: st)
    | _ => none
  | .iload i => match z_get L i with
    | some (.int x) => some (pc + 2, L, .int x :: st)
    | _ => none
  | .lload_n i => match z_get L i with
    | some (.long x) => some (pc + 1, L, .long x :: st)
    | _ => none
  | .lload i => match z_get L i with
    | some (.long x) => some (pc + 2, L, .long x :: st)
    | _ => none
  | .aload_n i => match z_get L i with
    | some (.ref x) => if x = 4001 then none else some (pc + 1, L, .ref x :: st)
    | _ => none
  | .aload i => match z_get L i with
    | some (.ref x) => if x = 4001 then none else some (pc + 2, L, .ref x :: st)
    | _ => none
  | .istore_n i => match st with
    | .int x :: r => if (i : Nat) < nL then some (pc + 1, z_s1 L i (.int x), r) else none
    | _ => none
  | .istore i => match st with
    | .int x :: r => if i < nL then some (pc + 2, z_s1 L i (.int x), r) else none
    | _ => none
  | .astore_n i => match st with
    | .ref x :: r => if (i : Nat) < nL ∧ ¬ x = 4001 then some (pc + 1, z_s1 L i (.ref x), r) else none
    | _ => none
  | .astore i => match st with
    | .ref x :: r => if i < nL ∧ ¬ x = 4001 then some (pc + 2, z_s1 L i (.ref x), r) else none
    | _ => none
  | .lstore_n i => match st with
    | .long x :: r => if (i : Nat) + 1 < nL then some (pc + 1, z_s2 L i (.long x), r) else none
    | _ => none
  | .lstore i => match st with
    | .long x :: r => if i + 1 < nL then some (pc + 2, z_s2 L i (.long x), r) else none
    | _ => none
  | .iinc i _ => match z_get L i with
    | some (.int x) => if i < nL then some (pc + 3, z_s1 L i (.int (x + z_v e)), st) else none
    | _ => none
  | .iadd => match st with
    | .int y :: .int x :: r => some (pc + 1, L, .int (x + y) :: r)
    | _ => none
  | .isub => match st with
    | .int y :: .int x :: r => some (pc + 1, L, .int (x - y) :: r)
    | _ => none
  | .imul => match st with
    | .int y :: .int x :: r => some (pc + 1, L, .int (x * y) :: r)
    | _ => none
  | .iand => match st with
    | .int y :: .int x :: r => some (pc + 1, L, .int (x &&& y) :: r)
    | _ => none
  | .ior => match st with
    | .int y :: .int x :: r => some (pc + 1, L, .int (x ||| y) :: r)
    | _ => none
  | .ixor => match st with
    | .int y :: .int x :: r => some (pc + 1, L, .int (x ^^^ y) :: r)
    | _ => none
  | .idiv => match st with
    | .int y :: .int x :: r => if y = 0 then none else some (pc + 1, L, .int (x / y) :: r)
    | _ => none
  | .irem => match st with
    | .int y :: .int x :: r => if y = 0 then none else some (pc + 1, L, .int (x - x / y * y) :: r)
    | _ => none
  | .ishl => match st with
    | .int y :: .int x :: r => some (pc + 1, L, .int (x <<< (y &&& 31)) :: r)
    | _ => none
  | .ishr => match st with
    | .int y :: .int x :: r => some (pc + 1, L, .int (x >>> (y &&& 31)) :: r)
    | _ => none
  | .iushr => match st with
    | .int y :: .int x :: r => some (pc + 1, L, .int ((x.toUInt32 >>> (y.toUInt32 &&& Int32.toUInt32 31)).toInt32) :: r)
    | _ => none
  | .ladd => match st with
    | .long y :: .long x :: r => some (pc + 1, L, .long (x + y) :: r)
    | _ => none
  | .lmul => match st with
    | .long y :: .long x :: r => some (pc + 1, L, .long (x * y) :: r)
    | _ => none
  | .ldiv => match st with
    | .long y :: .long x :: r => if y = 0 then none else some (pc + 1, L, .long (x / y) :: r)
    | _ => none
  | .lrem => match st with
    | .long y :: .long x :: r => if y = 0 then none else some (pc + 1, L, .long (x - x / y * y) :: r)
    | _ => none
  | .lcmp => match st with
    | .long y :: .long x :: r => some (pc + 1, L, .int (lg_cmp x y) :: r)
    | _ => none
  | .i2l => match st with
    | .int x :: r => some (pc + 1, L, .long x.toInt64 :: r)
    | _ => none
  | .i2b => match st with
    | .int x :: r => some (pc + 1, L, .int x.toInt8.toInt32 :: r)
    | _ => none
  | .i2s => match st with
    | .int x :: r => some (pc + 1, L, .int x.toInt16.toInt32 :: r)
    | _ => none
  | .i2c => match st with
    | .int x :: r => some (pc + 1, L, .int ((x.toUInt32 % 65536).toInt32) :: r)
    | _ => none
  | .dup => match st with
    | v :: r => if v.category = 1 then some (pc + 1, L, v :: v :: r) else none
    | _ => none
  | .pop => match st with
    | v :: r => if v.category = 1 then some (pc + 1, L, r) else none
    | _ => none
  | .dup2 => match st with
    | v :: w :: r => if v.category = 1 ∧ w.category = 1 then some (pc + 1, L, v :: w :: v :: w :: r) else none
    | _ => none
  | .goto _ => some (z_a e, L, st)
  | .ifCond .eq _ => match st with
    | .int x :: r => if x = 0 then some (z_a e, L, r) else some (pc + 3, L, r)
    | _ => none
  | .ifCond .ne _ => match st with
    | .int x :: r => if ¬ x = 0 then some (z_a e, L, r) else some (pc + 3, L, r)
    | _ => none
  | .ifCond .lt _ => match st with
    | .int x :: r => if x < 0 then some (z_a e, L, r) else some (pc + 3, L, r)
    | _ => none
  | .ifCond .ge _ => match st with
    | .int x :: r => if 0 ≤ x then some (z_a e, L, r) else some (pc + 3, L, r)
    | _ => none
  | .ifCond .gt _ => match st with
    | .int x :: r => if 0 < x then some (z_a e, L, r) else some (pc + 3, L, r)
    | _ => none
  | .ifCond .le _ => match st with
    | .int x :: r => if x ≤ 0 then some (z_a e, L, r) else some (pc + 3, L, r)
    | _ => none
  | .if_icmp .eq _ => match st with
    | .int y :: .int x :: r => if x = y then some (z_a e, L, r) else some (pc + 3, L, r)
    | _ => none
  | .if_icmp .ne _ => match st with
    | .int y :: .int x :: r => if ¬ x = y then some (z_a e, L, r) else some (pc + 3, L, r)
    | _ => none
  | .if_icmp .lt _ => match st with
    | .int y :: .int x :: r => if x < y then some (z_a e, L, r) else some (pc + 3, L, r)
    | _ => none
  | .if_icmp .ge _ => match st with
    | .int y :: .int x :: r => if y ≤ x then some (z_a e, L, r) else some (pc + 3, L, r)
    | _ => none
  | .if_icmp .gt _ => match st with
    | .int y :: .int x :: r => if y < x then some (z_a e, L, r) else some (pc + 3, L, r)
    | _ => none
  | .if_icmp .le _ => match st with
    | .int y :: .int x :: r => if x ≤ y then some (z_a e, L, r) else some (pc + 3, L, r)
    | _ => none
  | .tableswitch d lo hi offs => match st with
    | .int x :: r => if x.toInt < lo ∨ hi < x.toInt then (if 0 ≤ (pc : Int) + d then some (((pc : Int) + d).toNat, L, r) else none) else match offs[(x.toInt - lo).toNat]? with
      | some off => if 0 ≤ (pc : Int) + off then some (((pc : Int) + off).toNat, L, r) else none
      | none => none
    | _ => none
  | _ => none
/-- stores -/
def z_u (σ : Nat → Nat → Int32) (k j : Nat) (x : Int32) : Nat → Nat → Int32 := fun a => if a = k then upd (σ k) j x else σ a
def z_ur (ρ : Nat → Nat → Option Nat) (k j : Nat) (x : Option Nat) : Nat → Nat → Option Nat := fun a => if a = k then va_up (ρ k) j x else ρ a
def z_cp (σ : Nat → Nat → Int32) (ks kd sp dp n : Nat) : Nat → Nat → Int32 := fun a => if a = kd then va_cpy (σ ks) (σ kd) sp dp n else σ a
def z_0 (σ : Nat → Nat → Int32) (k : Nat) : Nat → Nat → Int32 := fun a => if a = k then fun _ => 0 else σ a
def z_0r (ρ : Nat → Nat → Option Nat) (k : Nat) : Nat → Nat → Option Nat := fun a => if a = k then fun _ => none else ρ a
/-! steps that ask or change cells -/
abbrev zB : Type := Option (List Value × zH)
def z_get_ (e : zI) (k : Nat) (r : List Value) (n : Nat) (σ : Nat → Nat → Int32) (ρ : Nat → Nat → Option Nat) : zB :=
  if z_a e = 17 then (if 2000 ≤ k ∧ k < 2013 then some ((if z_b e = 0 then .ref (k + 1000) else .int 0) :: r, (n, σ, ρ)) else none)
  else if k < n ∧ z_sk k = 0 ∧ z_sc k = z_a e ∧ z_b e < z_N (z_a e) then (if z_rf (z_a e) (z_b e) = true then match ρ k (z_b e) with
      | some q => some (.ref q :: r, (n, σ, ρ))
      | none => none
    else some (.int (σ k (z_b e)) :: r, (n, σ, ρ)))
  else none
def z_puti (e : zI) (x : Int32) (k : Nat) (r : List Value) (n : Nat) (σ : Nat → Nat → Int32) (ρ : Nat → Nat → Option Nat) : zB :=
  if k < n ∧ z_sk k = 0 ∧ z_sc k = z_a e ∧ z_b e < z_N (z_a e) ∧ z_rf (z_a e) (z_b e) = false ∧ (z_T (z_a e) (z_b e)).2.2.2 = false then some (r, (n, z_u σ k (z_b e) x, ρ)) else none
def z_putr (ctor : Nat) (e : zI) (q k : Nat) (r : List Value) (n : Nat) (σ : Nat → Nat → Int32) (ρ : Nat → Nat → Option Nat) : zB :=
  if q < n ∧ k < n ∧ z_sk k = 0 ∧ z_sc k = z_a e ∧ z_b e < z_N (z_a e) ∧ z_rf (z_a e) (z_b e) = true ∧ (z_T (z_a e) (z_b e)).2.2.2 = true ∧ ctor = z_a e then some (r, (n, σ, z_ur ρ k (z_b e) (some q))) else none
def z_ild (xL : Nat) (xs : Nat → Int32) (i : Int32) (k : Nat) (r : List Value) (n : Nat) (σ : Nat → Nat → Int32) (ρ : Nat → Nat → Option Nat) : zB :=
  if k < n ∧ z_sk k = 1 ∧ ¬ (i < 0 ∨ z_sl_ k ≤ i.toNatClampNeg) then some (.int (σ k i.toNatClampNeg) :: r, (n, σ, ρ))
  else if 1000 ≤ k ∧ k < 1004 ∧ ¬ (i < 0 ∨ (z_sv.getD (k - 1000) []).length ≤ i.toNatClampNeg) then some (.int ((z_sv.getD (k - 1000) []).getD i.toNatClampNeg 0) :: r, (n, σ, ρ))
  else if k = 4000 ∧ ¬ (i < 0 ∨ xL ≤ i.toNatClampNeg) then some (.int (xs i.toNatClampNeg) :: r, (n, σ, ρ)) else none
def z_bld (i : Int32) (k : Nat) (r : List Value) (n : Nat) (σ : Nat → Nat → Int32) (ρ : Nat → Nat → Option Nat) : zB :=
  if k < n ∧ (z_sk k = 2 ∨ z_sk k = 3) ∧ ¬ (i < 0 ∨ z_sl_ k ≤ i.toNatClampNeg) then some (.int (σ k i.toNatClampNeg) :: r, (n, σ, ρ))
  else if 3000 ≤ k ∧ k < 3013 ∧ ¬ (i < 0 ∨ z_tl.getD (k - 3000) 0 ≤ i.toNatClampNeg) then some (.int ((z_tb.getD (k - 3000) []).getD i.toNatClampNeg 0) :: r, (n, σ, ρ)) else none
def z_ald (i : Int32) (k : Nat) (r : List Value) (n : Nat) (σ : Nat → Nat → Int32) (ρ : Nat → Nat → Option Nat) : zB :=
  if k < n ∧ z_sk k = 4 ∧ ¬ (i < 0 ∨ z_sl_ k ≤ i.toNatClampNeg) then match ρ k i.toNatClampNeg with
    | some q => some (.ref q :: r, (n, σ, ρ))
    | none => none
  else none
def z_ist (x i : Int32) (k : Nat) (r : List Value) (n : Nat) (σ : Nat → Nat → Int32) (ρ : Nat → Nat → Option Nat) : zB :=
  if k < n ∧ z_sk k = 1 ∧ ¬ (i < 0 ∨ z_sl_ k ≤ i.toNatClampNeg) then some (r, (n, z_u σ k i.toNatClampNeg x, ρ)) else none
def z_bst (x i : Int32) (k : Nat) (r : List Value) (n : Nat) (σ : Nat → Nat → Int32) (ρ : Nat → Nat → Option Nat) : zB :=
  if k < n ∧ z_sk k = 2 ∧ ¬ (i < 0 ∨ z_sl_ k ≤ i.toNatClampNeg) then some (r, (n, z_u σ k i.toNatClampNeg (vp_nar .byte x), ρ))
  else if k < n ∧ z_sk k = 3 ∧ ¬ (i < 0 ∨ z_sl_ k ≤ i.toNatClampNeg) then some (r, (n, z_u σ k i.toNatClampNeg (vp_nar .boolean x), ρ)) else none
def z_ast (q : Nat) (i : Int32) (k : Nat) (r : List Value) (n : Nat) (σ : Nat → Nat → Int32) (ρ : Nat → Nat → Option Nat) : zB :=
  if k < n ∧ q < n ∧ z_sk k = 4 ∧ z_sk q = 0 ∧ z_sc q = z_sc k ∧ ¬ (i < 0 ∨ z_sl_ k ≤ i.toNatClampNeg) then some (r, (n, σ, z_ur ρ k i.toNatClampNeg (some q))) else none
def z_aln (xL : Nat) (k : Nat) (r : List Value) (n : Nat) (σ : Nat → Nat → Int32) (ρ : Nat → Nat → Option Nat) : zB :=
  if k < n ∧ (z_sk k = 1 ∨ z_sk k = 2 ∨ z_sk k = 3 ∨ z_sk k = 4) then some (.int (Int32.ofNat (z_sl_ k)) :: r, (n, σ, ρ))
  else if 1000 ≤ k ∧ k < 1004 then some (.int (Int32.ofNat (z_sv.getD (k - 1000) []).length) :: r, (n, σ, ρ))
  else if 3000 ≤ k ∧ k < 3013 then some (.int (Int32.ofNat (z_tl.getD (k - 3000) 0)) :: r, (n, σ, ρ))
  else if k = 4000 then some (.int (Int32.ofNat xL) :: r, (n, σ, ρ)) else none
def z_acp (len dp : Int32) (kd : Nat) (sp : Int32) (ks : Nat) (r : List Value) (n : Nat) (σ : Nat → Nat → Int32) (ρ : Nat → Nat → Option Nat) : zB :=
  if kd < n ∧ ks < n ∧ z_sk kd = 1 ∧ z_sk ks = 1 ∧ ¬ sp < 0 ∧ ¬ dp < 0 ∧ ¬ len < 0 ∧ sp.toNatClampNeg + len.toNatClampNeg ≤ z_sl_ ks ∧ dp.toNatClampNeg + len.toNatClampNeg ≤ z_sl_ kd ∧ (r.map fun v => v.category).sum ≤ 8
  then some (r, (n, z_cp σ ks kd sp.toNatClampNeg dp.toNatClampNeg len.toNatClampNeg, ρ)) else none
def z_oin (e : zI) (k : Nat) (r : List Value) (n : Nat) (σ : Nat → Nat → Int32) (ρ : Nat → Nat → Option Nat) : zB :=
  if z_k e = 5 ∧ ¬ k = 4001 ∧ (r.map fun v => v.category).sum ≤ 8 then some (r, (n, σ, ρ)) else none
/-- ctor: the class whose constructor this is, or 99 -/
def z_B (xL : Nat) (xs : Nat → Int32) (ctor : Nat) (e : zI) (st : List Value) (n : Nat) (σ : Nat → Nat → Int32) (ρ : Nat → Nat → Option Nat) : zB :=
  match z_in e with
  | .getfield _ => match st with
    | .ref k :: r => z_get_ e k r n σ ρ
    | _ => none
  | .putfield _ => match st with
    | .int x :: .ref k :: r => z_puti e x k r n σ ρ
    | .ref q :: .ref k :: r => z_putr ctor e q k r n σ ρ
    | _ => none
  | .getstatic _ => if z_k e = 0 then some (.ref (1000 + z_a e) :: st, (n, σ, ρ)) else if z_k e = 1 then some (.int (z_v e) :: st, (n, σ, ρ)) else if z_k e = 2 then some (.ref 4001 :: st, (n, σ, ρ)) else none
  | .ldc _ => if z_k e = 0 then some (.int (z_v e) :: st, (n, σ, ρ)) else some (.ref (2000 + z_a e) :: st, (n, σ, ρ))
  | .ldc_w _ => some (.int (z_v e) :: st, (n, σ, ρ))
  | .ldc2_w _ => some (.long (z_w e) :: st, (n, σ, ρ))
  | .iaload => match st with
    | .int i :: .ref k :: r => z_ild xL xs i k r n σ ρ
    | _ => none
  | .baload => match st with
    | .int i :: .ref k :: r => z_bld i k r n σ ρ
    | _ => none
  | .aaload => match st with
    | .int i :: .ref k :: r => z_ald i k r n σ ρ
    | _ => none
  | .iastore => match st with
    | .int x :: .int i :: .ref k :: r => z_ist x i k r n σ ρ
    | _ => none
  | .bastore => match st with
    | .int x :: .int i :: .ref k :: r => z_bst x i k r n σ ρ
    | _ => none
  | .aastore => match st with
    | .ref q :: .int i :: .ref k :: r => z_ast q i k r n σ ρ
    | _ => none
  | .arraylength => match st with
    | .ref k :: r => z_aln xL k r n σ ρ
    | _ => none
  | .invokestatic _ => if z_k e = 6 then match st with
      | .int len :: .int dp :: .ref kd :: .int sp :: .ref ks :: r => z_acp len dp kd sp ks r n σ ρ
      | _ => none
    else if z_k e = 7 then match st with
      | .int y :: .int x :: r => if (r.map fun v => v.category).sum ≤ 8 then some (.int (if y < x then y else x) :: r, (n, σ, ρ)) else none
      | _ => none
    else if z_k e = 8 then match st with
      | .int y :: .int x :: r => if (r.map fun v => v.category).sum ≤ 8 then some (.int (if x < y then y else x) :: r, (n, σ, ρ)) else none
      | _ => none
    else none
  | .invokespecial _ => match st with
    | .ref k :: r => z_oin e k r n σ ρ
    | _ => none
  | _ => none
/-- a making -/
def z_C (e : zI) (st : List Value) (n : Nat) (σ : Nat → Nat → Int32) (ρ : Nat → Nat → Option Nat) : Option (List Value × zH) :=
  match z_in e with
  | .new _ => if z_sh[n]? = some (0, z_a e, z_N (z_a e)) then some (.ref n :: st, (n + 1, z_0 σ n, z_0r ρ n)) else none
  | .newarray _ => match st with
    | .int i :: r => if z_sh[n]? = some (z_k e, 0, i.toNatClampNeg) ∧ ¬ i < 0 ∧ i.toNatClampNeg < 100000 then some (.ref n :: r, (n + 1, z_0 σ n, z_0r ρ n)) else none
    | _ => none
  | .anewarray _ => match st with
    | .int i :: r => if z_sh[n]? = some (4, z_a e, i.toNatClampNeg) ∧ ¬ i < 0 ∧ i.toNatClampNeg < 100000 then some (.ref n :: r, (n + 1, z_0 σ n, z_0r ρ n)) else none
    | _ => none
  | _ => none
/-- an answer -/
def z_R (mr : Option FieldType) (e : zI) (st : List Value) : Option (Option Value) :=
  match z_in e with
  | .ireturn => match st with
    | [.int x] => match mr with
      | some .int => some (some (.int x))
      | some .boolean => if narrow .boolean (.int x) = .int x then some (some (.int x)) else none
      | some .byte => if narrow .byte (.int x) = .int x then some (some (.int x)) else none
      | some .char => if narrow .char (.int x) = .int x then some (some (.int x)) else none
      | _ => none
    | _ => none
  | .lreturn => match st with
    | [.long x] => match mr with
      | some .long => some (some (.long x))
      | _ => none
    | _ => none
  | .areturn => match st with
    | [.ref k] => match mr with
      | some (.object _) => if k = 4001 then none else some (some (.ref k))
      | _ => none
    | _ => none
  | .return_ => match st with
    | [] => match mr with
      | none => some none
      | _ => none
    | _ => none
  | _ => none
/-- a call: the method, its arguments, what is left of the stack -/
def z_rc (mj n k : Nat) : Bool := (decide (k < n) && z_sk k == 0 && z_sc k == z_mc mj) || (decide (2000 ≤ k) && decide (k < 2013) && z_mc mj == 17)
def z_Dv (e : zI) (k : Nat) (r st : List Value) (n : Nat) : Option (Nat × List Value × List Value) :=
  if z_k e = 0 ∧ z_rc (z_a e) n k = true ∧ (st.take (z_b e)).length = z_b e ∧ (r.map fun v => v.category).sum ≤ 8 ∧ ((Value.ref k :: (st.take (z_b e)).reverse).map fun v => v.category).sum ≤ z_ml_ (z_a e) then some (z_a e, .ref k :: (st.take (z_b e)).reverse, r) else none
def z_Di (e : zI) (k : Nat) (r st : List Value) : Option (Nat × List Value × List Value) :=
  if (z_k e = 2 ∨ z_k e = 3) ∧ ¬ k = 4001 ∧ (st.take (z_b e)).length = z_b e ∧ (r.map fun v => v.category).sum ≤ 8 ∧ ((Value.ref k :: (st.take (z_b e)).reverse).map fun v => v.category).sum ≤ z_ml_ (z_a e) then some (z_a e, .ref k :: (st.take (z_b e)).reverse, r) else none
def z_D (e : zI) (st : List Value) (n : Nat) : Option (Nat × List Value × List Value) :=
  match z_in e with
  | .invokevirtual _ => match st.drop (z_b e) with
      | .ref k :: r => z_Dv e k r st n
      | _ => none
  | .invokestatic _ => if (z_k e = 1 ∨ z_k e = 4) ∧ (st.take (z_b e)).length = z_b e ∧ ((st.drop (z_b e)).map fun v => v.category).sum ≤ 8 ∧ (((st.take (z_b e)).reverse).map fun v => v.category).sum ≤ z_ml_ (z_a e) then some (z_a e, (st.take (z_b e)).reverse, st.drop (z_b e)) else none
  | .invokespecial _ => match st.drop (z_b e) with
      | .ref k :: r => z_Di e k r st
      | _ => none
  | _ => none
def z_fi : List zI → Nat → Option zI
  | [], _ => none
  | e :: l, pc => if e.1 = pc then some e else z_fi l pc
def z_ct (mi : Nat) : Nat := if (z_my mi).name = "<init>" then z_mc mi else 99
/-- a reference that a making doesn't move -/
def z_avr (n k : Nat) : Bool := decide (k < n) || decide (1000 ≤ k)
def z_av (n : Nat) (v : Value) : Bool := match v with
  | .ref k => z_avr n k
  | _ => true
/-- a run, to its answer -/
def z_x (xL : Nat) (xs : Nat → Int32) : Nat → Nat → Nat → Nat → List (Nat × Value) → List Value → zH → Option (Option Value × zH)
  | 0, _, _, _, _, _, _ => none
  | f + 1, d, mi, pc, L, st, h => match z_fi (z_mi mi) pc with
    | none => none
    | some e => match z_A (z_ml_ mi) e pc L st with
      | some (pc', L', st') => z_x xL xs f d mi pc' L' st' h
      | none => match z_B xL xs (z_ct mi) e st h.1 h.2.1 h.2.2 with
        | some (st', h') => z_x xL xs f d mi (pc + z_len e) L st' h'
        | none => match z_C e st h.1 h.2.1 h.2.2 with
          | some (st', h') => if (L.all fun q => z_av h.1 q.2) && st.all (z_av h.1) then z_x xL xs f d mi (pc + z_len e) L st' h' else none
          | none => match z_R (z_mr mi) e st with
            | some r => some (r, h)
            | none => match z_D e st h.1 with
              | none => none
              | some (mj, as, r) => match d with
                | 0 => none
                | d' + 1 => match z_x xL xs f d' mj 0 (lv_args 0 as) [] h with
                  | none => none
                  | some (v, h') => if h'.1 = h.1 ∨ ((L.all fun q => z_av h.1 q.2) && st.all (z_av h.1)) = true then z_x xL xs f (d' + 1) mi (pc + 3) L (v.toList ++ r) h' else none
