/-! A small machine over typed memory: ints, longs and references by (register, position, place); positions have kinds. What it says of a run, the JVM's machine does: ab_sound. -/
section
abbrev AV : Type := Int32 ⊕ (Int64 ⊕ (Nat × Option Nat))
abbrev Mm : Type := (Nat → Nat → Nat → Int32) × (Nat → Nat → Nat → Int64) × (Nat → Nat → Nat → Option Nat) × List Nat × Nat × Nat
abbrev KS : Type := (Nat × List (Nat × Nat × Nat × Nat)) ⊕ (Nat × Nat × Nat × Nat × Nat × Nat)
abbrev Cf : Type := Nat × List (Option AV) × List AV × Mm
abbrev Rs : Type := (Option AV × Mm) ⊕ Cf
abbrev Ent : Type := Instr × Nat × Nat × Nat × Int32
def ab_uI (m : Mm) (r p j : Nat) (x : Int32) : Mm := (fun r' p' j' => if r' = r ∧ p' = p ∧ j' = j then x else m.1 r' p' j', m.2)
def ab_uJ (m : Mm) (r p j : Nat) (x : Int64) : Mm := (m.1, fun r' p' j' => if r' = r ∧ p' = p ∧ j' = j then x else m.2.1 r' p' j', m.2.2)
def ab_uR (m : Mm) (r p j : Nat) (x : Option Nat) : Mm := (m.1, m.2.1, fun r' p' j' => if r' = r ∧ p' = p ∧ j' = j then x else m.2.2.1 r' p' j', m.2.2.2)
def ab_ap (m : Mm) (k : Nat) : Mm := (m.1, m.2.1, m.2.2.1, m.2.2.2.1 ++ [k], m.2.2.2.2)
/-- an index in range -/
def ab_ix (i : Int32) (n : Nat) : Option Nat := if i < 0 ∨ n ≤ i.toNatClampNeg then none else some i.toNatClampNeg
/-- a boolean -/
def ab_bo (x : Int32) : Option Int32 := if x = 0 ∨ x = 1 then some x else none
def ab_kill (o : Option AV) : Option AV := match o with
  | some (.inr (.inl _)) => none
  | o => o
def ab_sl : List (Option AV) → Nat → AV → List (Option AV)
  | [], _, _ => []
  | _ :: L, 0, v => some v :: L
  | o :: L, 1, v => ab_kill o :: ab_sl L 0 v
  | o :: L, i + 2, v => o :: ab_sl L (i + 1) v
def ab_tn (L : List (Option AV)) : List (Option AV) := match L with
  | [] => []
  | _ :: L => none :: L
def ab_sl2 : List (Option AV) → Nat → AV → List (Option AV)
  | [], _, _ => []
  | _ :: L, 0, v => some v :: ab_tn L
  | o :: L, 1, v => ab_kill o :: ab_sl2 L 0 v
  | o :: L, i + 2, v => o :: ab_sl2 L (i + 1) v
def ab_mk : List Bool → List (Option AV) → List (Option AV)
  | true :: bs, o :: L => o :: ab_mk bs L
  | false :: bs, _ :: L => none :: ab_mk bs L
  | [], _ :: L => none :: ab_mk [] L
  | _, [] => []
def ab_sw (v : Int32) (d : Nat) (K : Nat → Option Rs) : List (Int32 × Nat) → Option Rs
  | [] => K d
  | (x, t) :: r => if v = x then K t else ab_sw v d K r
def ab_fs (KT : List KS) (ci f k : Nat) : Option (Nat × Nat × Nat × Nat) := match KT[k]? with
  | some (.inl (ci', fs)) => if ci' = ci then fs[f]? else none
  | _ => none
def ab_as (KT : List KS) (k : Nat) : Option (Nat × Nat × Nat × Nat × Nat × Nat) := match KT[k]? with
  | some (.inr q) => some q
  | _ => none
def ab_len (KT : List KS) (k : Nat) : Nat := match KT[k]? with
  | some (.inl (_, fs)) => fs.length
  | some (.inr (_, len, _)) => len
  | none => 0
def ab_gc (m : Mm) : Nat := m.2.2.2.1.length + m.2.2.2.2.1
def ab_gs (KT : List KS) (m : Mm) : Nat := (m.2.2.2.1.map (ab_len KT)).sum + m.2.2.2.2.2
def ab_i1 (S : List AV) (f : Int32 → List AV → Option Rs) : Option Rs := match S with
  | .inl v :: S' => f v S'
  | _ => none
def ab_i2 (S : List AV) (f : Int32 → Int32 → List AV → Option Rs) : Option Rs := match S with
  | .inl y :: .inl z :: S' => f y z S'
  | _ => none
def ab_l1 (S : List AV) (f : Int64 → List AV → Option Rs) : Option Rs := match S with
  | .inr (.inl v) :: S' => f v S'
  | _ => none
def ab_l2 (S : List AV) (f : Int64 → Int64 → List AV → Option Rs) : Option Rs := match S with
  | .inr (.inl y) :: .inr (.inl z) :: S' => f y z S'
  | _ => none
def ab_il (S : List AV) (f : Int32 → Int64 → List AV → Option Rs) : Option Rs := match S with
  | .inl y :: .inr (.inl z) :: S' => f y z S'
  | _ => none
def ab_r1 (S : List AV) (f : Nat → Option Nat → List AV → Option Rs) : Option Rs := match S with
  | .inr (.inr (k, o)) :: S' => f k o S'
  | _ => none
def ab_rr (S : List AV) (f : Nat → Option Nat → Nat → Option Nat → List AV → Option Rs) : Option Rs := match S with
  | .inr (.inr (k2, o2)) :: .inr (.inr (k, o)) :: S' => f k2 o2 k o S'
  | _ => none
def ab_ir (S : List AV) (f : Int32 → Nat → Option Nat → List AV → Option Rs) : Option Rs := match S with
  | .inl j :: .inr (.inr (k, o)) :: S' => f j k o S'
  | _ => none
def ab_iir (S : List AV) (f : Int32 → Int32 → Nat → Option Nat → List AV → Option Rs) : Option Rs := match S with
  | .inl v :: .inl j :: .inr (.inr (k, o)) :: S' => f v j k o S'
  | _ => none
def ab_lir (S : List AV) (f : Int64 → Int32 → Nat → Option Nat → List AV → Option Rs) : Option Rs := match S with
  | .inr (.inl v) :: .inl j :: .inr (.inr (k, o)) :: S' => f v j k o S'
  | _ => none
def ab_rir (S : List AV) (f : Nat → Option Nat → Int32 → Nat → Option Nat → List AV → Option Rs) : Option Rs := match S with
  | .inr (.inr (k2, o2)) :: .inl j :: .inr (.inr (k, o)) :: S' => f k2 o2 j k o S'
  | _ => none
def ab_Li (L : List (Option AV)) (a : Nat) (f : Int32 → Option Rs) : Option Rs := match L[a]? with
  | some (some (.inl v)) => f v
  | _ => none
def ab_Ll (L : List (Option AV)) (a : Nat) (f : Int64 → Option Rs) : Option Rs := match L[a]? with
  | some (some (.inr (.inl v))) => f v
  | _ => none
def ab_Lr (L : List (Option AV)) (a : Nat) (f : Nat → Option Nat → Option Rs) : Option Rs := match L[a]? with
  | some (some (.inr (.inr (k, o)))) => f k o
  | _ => none
/-- a field read, by its kind's table -/
def ab_gf (z : Option (Nat × Nat × Nat × Nat)) (m : Mm) (q : Nat) (f : AV → Option Rs) : Option Rs := match z with
  | some (0, r, _, _) => f (.inl (m.1 r q 0))
  | some (1, r, _, _) => f (.inl (m.1 r q 0))
  | some (2, r, k', _) => f (.inr (.inr (k', m.2.2.1 r q 0)))
  | some (3, _, k', d') => f (.inr (.inr (k', some (q + d'))))
  | _ => none
def ab_pf (z : Option (Nat × Nat × Nat × Nat)) (m : Mm) (q : Nat) (v : Int32) (f : Mm → Option Rs) : Option Rs := match z with
  | some (0, r, _, _) => f (ab_uI m r q 0 v)
  | some (1, r, _, _) => (ab_bo v).bind fun v' => f (ab_uI m r q 0 v')
  | _ => none
def ab_pr (z : Option (Nat × Nat × Nat × Nat)) (m : Mm) (q k2 q2 : Nat) (f : Mm → Option Rs) : Option Rs := match z with
  | some (2, r, k', _) => if k2 = k' then f (ab_uR m r q 0 (some q2)) else none
  | _ => none
/-- arrays: of ints (0), booleans (1), longs (2), references (3), fixed references (4) -/
def ab_ga (z : Option (Nat × Nat × Nat × Nat × Nat × Nat)) (t : Nat) (f : Nat → Nat → Option Rs) : Option Rs := match z with
  | some (r, len, t', _, _, _) => if t' = t then f r len else none
  | _ => none
def ab_gr (z : Option (Nat × Nat × Nat × Nat × Nat × Nat)) (m : Mm) (q : Nat) (j : Int32) (f : AV → Option Rs) : Option Rs := match z with
  | some (r, len, 3, k', _, _) => (ab_ix j len).bind fun i => f (.inr (.inr (k', m.2.2.1 r q i)))
  | some (_, len, 4, k', a', st) => (ab_ix j len).bind fun i => f (.inr (.inr (k', some (q + a' + st * i))))
  | _ => none
def ab_ga3 (z : Option (Nat × Nat × Nat × Nat × Nat × Nat)) (k2 : Nat) (f : Nat → Nat → Option Rs) : Option Rs := match z with
  | some (r, len, 3, k', _, _) => if k2 = k' then f r len else none
  | _ => none
/-- words on the stack -/
def ab_w1 (v : AV) : Nat := match v with
  | .inr (.inl _) => 2
  | _ => 1
def ab_wd (S : List AV) : Nat := (S.map ab_w1).sum
/-- one instruction -/
def ab_st (KT : List KS) (sc : Option (Nat × (Nat → Int32))) (sw : Nat → List (Int32 × Nat) × Nat) (eV : Nat → List AV → Mm → Option Mm) (eI : Nat → List AV → Mm → Option (Int32 × Mm)) (i : Instr) (a b d : Nat) (x : Int32) (pc : Nat) (L : List (Option AV)) (S : List AV) (m : Mm) (K : Nat → List (Option AV) → List AV → Mm → Option Rs) : Option Rs :=
  match i with
  | .iconst _ => K (pc + 1) L (.inl x :: S) m
  | .bipush _ => K (pc + 2) L (.inl x :: S) m
  | .sipush _ => K (pc + 3) L (.inl x :: S) m
  | .ldc _ => K (pc + 2) L (.inl x :: S) m
  | .lconst _ => K (pc + 1) L (.inr (.inl (Int64.ofNat a)) :: S) m
  | .ldc2_w _ => K (pc + 3) L (.inr (.inl (Int64.ofNat a)) :: S) m
  | .iload _ => ab_Li L a fun v => K (pc + 2) L (.inl v :: S) m
  | .iload_n _ => ab_Li L a fun v => K (pc + 1) L (.inl v :: S) m
  | .lload _ => ab_Ll L a fun v => K (pc + 2) L (.inr (.inl v) :: S) m
  | .lload_n _ => ab_Ll L a fun v => K (pc + 1) L (.inr (.inl v) :: S) m
  | .aload _ => ab_Lr L a fun k o => K (pc + 2) L (.inr (.inr (k, o)) :: S) m
  | .aload_n _ => ab_Lr L a fun k o => K (pc + 1) L (.inr (.inr (k, o)) :: S) m
  | .istore _ => ab_i1 S fun v S' => K (pc + 2) (ab_sl L a (.inl v)) S' m
  | .istore_n _ => ab_i1 S fun v S' => K (pc + 1) (ab_sl L a (.inl v)) S' m
  | .lstore _ => ab_l1 S fun v S' => K (pc + 2) (ab_sl2 L a (.inr (.inl v))) S' m
  | .lstore_n _ => ab_l1 S fun v S' => K (pc + 1) (ab_sl2 L a (.inr (.inl v))) S' m
  | .astore _ => ab_r1 S fun k o S' => o.bind fun q => K (pc + 2) (ab_sl L a (.inr (.inr (k, some q)))) S' m
  | .astore_n _ => ab_r1 S fun k o S' => o.bind fun q => K (pc + 1) (ab_sl L a (.inr (.inr (k, some q)))) S' m
  | .iinc _ _ => ab_Li L a fun v => K (pc + 3) (ab_sl L a (.inl (v + x))) S m
  | .iadd => ab_i2 S fun y z S' => K (pc + 1) L (.inl (z + y) :: S') m
  | .isub => ab_i2 S fun y z S' => K (pc + 1) L (.inl (z - y) :: S') m
  | .imul => ab_i2 S fun y z S' => K (pc + 1) L (.inl (z * y) :: S') m
  | .idiv => ab_i2 S fun y z S' => if y = 0 then none else K (pc + 1) L (.inl (z / y) :: S') m
  | .irem => ab_i2 S fun y z S' => if y = 0 then none else K (pc + 1) L (.inl (z - z / y * y) :: S') m
  | .iand => ab_i2 S fun y z S' => K (pc + 1) L (.inl (z &&& y) :: S') m
  | .ior => ab_i2 S fun y z S' => K (pc + 1) L (.inl (z ||| y) :: S') m
  | .ixor => ab_i2 S fun y z S' => K (pc + 1) L (.inl (z ^^^ y) :: S') m
  | .ishl => ab_i2 S fun y z S' => K (pc + 1) L (.inl (z <<< (y &&& 31)) :: S') m
  | .ishr => ab_i2 S fun y z S' => K (pc + 1) L (.inl (z >>> (y &&& 31)) :: S') m
  | .iushr => ab_i2 S fun y z S' => K (pc + 1) L (.inl ((z.toUInt32 >>> (y.toUInt32 &&& Int32.toUInt32 31)).toInt32) :: S') m
  | .ladd => ab_l2 S fun y z S' => K (pc + 1) L (.inr (.inl (z + y)) :: S') m
  | .lsub => ab_l2 S fun y z S' => K (pc + 1) L (.inr (.inl (z - y)) :: S') m
  | .land => ab_l2 S fun y z S' => K (pc + 1) L (.inr (.inl (z &&& y)) :: S') m
  | .lor => ab_l2 S fun y z S' => K (pc + 1) L (.inr (.inl (z ||| y)) :: S') m
  | .lshl => ab_il S fun y z S' => K (pc + 1) L (.inr (.inl (z <<< (y.toInt64 &&& 63))) :: S') m
  | .lshr => ab_il S fun y z S' => K (pc + 1) L (.inr (.inl (z >>> (y.toInt64 &&& 63))) :: S') m
  | .lushr => ab_il S fun y z S' => K (pc + 1) L (.inr (.inl ((z.toUInt64 >>> (y.toInt64.toUInt64 &&& Int64.toUInt64 63)).toInt64)) :: S') m
  | .i2l => ab_i1 S fun y S' => K (pc + 1) L (.inr (.inl y.toInt64) :: S') m
  | .l2i => ab_l1 S fun y S' => K (pc + 1) L (.inl y.toInt32 :: S') m
  | .lcmp => ab_l2 S fun y z S' => K (pc + 1) L (.inl (lg_cmp z y) :: S') m
  | .dup => if d = 0 then ab_i1 S fun y S' => K (pc + 1) L (.inl y :: .inl y :: S') m else ab_r1 S fun k o S' => K (pc + 1) L (.inr (.inr (k, o)) :: .inr (.inr (k, o)) :: S') m
  | .dup2 => ab_ir S fun j k o S' => K (pc + 1) L (.inl j :: .inr (.inr (k, o)) :: .inl j :: .inr (.inr (k, o)) :: S') m
  | .pop => ab_i1 S fun _ S' => K (pc + 1) L S' m
  | .goto _ => K a L S m
  | .ifCond .eq _ => ab_i1 S fun v S' => if v = 0 then K a L S' m else K (pc + 3) L S' m
  | .ifCond .ne _ => ab_i1 S fun v S' => if v = 0 then K (pc + 3) L S' m else K a L S' m
  | .ifCond .lt _ => ab_i1 S fun v S' => if v < 0 then K a L S' m else K (pc + 3) L S' m
  | .ifCond .ge _ => ab_i1 S fun v S' => if 0 ≤ v then K a L S' m else K (pc + 3) L S' m
  | .ifCond .gt _ => ab_i1 S fun v S' => if 0 < v then K a L S' m else K (pc + 3) L S' m
  | .ifCond .le _ => ab_i1 S fun v S' => if v ≤ 0 then K a L S' m else K (pc + 3) L S' m
  | .if_icmp .eq _ => ab_i2 S fun y z S' => if z = y then K a L S' m else K (pc + 3) L S' m
  | .if_icmp .ne _ => ab_i2 S fun y z S' => if z = y then K (pc + 3) L S' m else K a L S' m
  | .if_icmp .lt _ => ab_i2 S fun y z S' => if z < y then K a L S' m else K (pc + 3) L S' m
  | .if_icmp .ge _ => ab_i2 S fun y z S' => if y ≤ z then K a L S' m else K (pc + 3) L S' m
  | .if_icmp .gt _ => ab_i2 S fun y z S' => if y < z then K a L S' m else K (pc + 3) L S' m
  | .if_icmp .le _ => ab_i2 S fun y z S' => if z ≤ y then K a L S' m else K (pc + 3) L S' m
  | .ifnull _ => ab_r1 S fun _ o S' => o.elim (K a L S' m) fun _ => K (pc + 3) L S' m
  | .ifnonnull _ => ab_r1 S fun _ o S' => o.elim (K (pc + 3) L S' m) fun _ => K a L S' m
  | .tableswitch _ _ _ _ => ab_i1 S fun v S' => ab_sw v (sw pc).2 (fun t => K t L S' m) (sw pc).1
  | .getfield _ => ab_r1 S fun k o S' => o.bind fun q => ab_gf (ab_fs KT a b k) m q fun v => K (pc + 3) L (v :: S') m
  | .putfield _ => if d = 0 then ab_ir S fun v k o S' => o.bind fun q => ab_pf (ab_fs KT a b k) m q v fun m' => K (pc + 3) L S' m' else ab_rr S fun k2 o2 k o S' => o.bind fun q => o2.bind fun q2 => ab_pr (ab_fs KT a b k) m q k2 q2 fun m' => K (pc + 3) L S' m'
  | .iaload => ab_ir S fun j k o S' => if k = 0 then o.bind (fun _ => sc.bind (fun z => (ab_ix j z.1).bind fun i => K (pc + 1) L (.inl (z.2 i) :: S') m)) else o.bind fun q => ab_ga (ab_as KT k) 0 fun r len => (ab_ix j len).bind fun i => K (pc + 1) L (.inl (m.1 r q i) :: S') m
  | .baload => ab_ir S fun j k o S' => o.bind fun q => ab_ga (ab_as KT k) 1 fun r len => (ab_ix j len).bind fun i => K (pc + 1) L (.inl (m.1 r q i) :: S') m
  | .laload => ab_ir S fun j k o S' => o.bind fun q => ab_ga (ab_as KT k) 2 fun r len => (ab_ix j len).bind fun i => K (pc + 1) L (.inr (.inl (m.2.1 r q i)) :: S') m
  | .aaload => ab_ir S fun j k o S' => o.bind fun q => ab_gr (ab_as KT k) m q j fun v => K (pc + 1) L (v :: S') m
  | .iastore => ab_iir S fun v j k o S' => o.bind fun q => ab_ga (ab_as KT k) 0 fun r len => (ab_ix j len).bind fun i => K (pc + 1) L S' (ab_uI m r q i v)
  | .bastore => ab_iir S fun v j k o S' => o.bind fun q => ab_ga (ab_as KT k) 1 fun r len => (ab_ix j len).bind fun i => (ab_bo v).bind fun v' => K (pc + 1) L S' (ab_uI m r q i v')
  | .lastore => ab_lir S fun v j k o S' => o.bind fun q => ab_ga (ab_as KT k) 2 fun r len => (ab_ix j len).bind fun i => K (pc + 1) L S' (ab_uJ m r q i v)
  | .aastore => ab_rir S fun k2 o2 j k o S' => o.bind fun q => o2.bind fun q2 => ab_ga3 (ab_as KT k) k2 fun r len => (ab_ix j len).bind fun i => K (pc + 1) L S' (ab_uR m r q i (some q2))
  | .arraylength => ab_r1 S fun k o S' => if k = 0 then o.bind (fun _ => sc.bind (fun z => K (pc + 1) L (.inl (Int32.ofNat z.1) :: S') m)) else o.bind fun _ => (ab_as KT k).bind fun z => K (pc + 1) L (.inl (Int32.ofNat z.2.1) :: S') m
  | .new _ => K (pc + 3) L (.inr (.inr (a, some m.2.2.2.1.length)) :: S) (ab_ap m a)
  | .newarray _ => ab_i1 S fun v S' => (ab_as KT a).bind fun z => if v = Int32.ofNat z.2.1 then K (pc + 2) L (.inr (.inr (a, some m.2.2.2.1.length)) :: S') (ab_ap m a) else none
  | .anewarray _ => ab_i1 S fun v S' => (ab_as KT a).bind fun z => if v = Int32.ofNat z.2.1 then K (pc + 3) L (.inr (.inr (a, some m.2.2.2.1.length)) :: S') (ab_ap m a) else none
  | .invokevirtual _ => if Nat.ble (ab_wd (S.drop b)) 8 = true then (if d = 0 then (eV a (S.take b).reverse m).bind (fun m' => K (pc + 3) L (S.drop b) m') else (eI a (S.take b).reverse m).bind (fun q => K (pc + 3) L (.inl q.1 :: S.drop b) (q.2))) else none
  | .invokespecial _ => if Nat.ble (ab_wd (S.drop b)) 8 = true then (if d = 0 then (eV a (S.take b).reverse m).bind (fun m' => K (pc + 3) L (S.drop b) m') else (eI a (S.take b).reverse m).bind (fun q => K (pc + 3) L (.inl q.1 :: S.drop b) (q.2))) else none
  | .invokestatic _ => if Nat.ble (ab_wd (S.drop b)) 8 = true then (if d = 0 then (eV a (S.take b).reverse m).bind (fun m' => K (pc + 3) L (S.drop b) m') else (eI a (S.take b).reverse m).bind (fun q => K (pc + 3) L (.inl q.1 :: S.drop b) (q.2))) else none
  | .ireturn => ab_i1 S fun v S' => if S'.isEmpty = true then (if d = 0 then some (.inl (some (.inl v), m)) else (ab_bo v).bind fun v' => some (.inl (some (.inl v'), m))) else none
  | .return_ => if S.isEmpty = true then some (.inl (none, m)) else none
  | _ => none
def ab_seg (KT : List KS) (sc : Option (Nat × (Nat → Int32))) (sw : Nat → List (Int32 × Nat) × Nat) (eV : Nat → List AV → Mm → Option Mm) (eI : Nat → List AV → Mm → Option (Int32 × Mm)) (ins : Nat → Option Ent) (hd : Nat → Nat × List Bool) (go : Nat → List (Option AV) → List AV → Mm → Option Rs) : Nat → Nat → List (Option AV) → List AV → Mm → Option Rs
  | 0, _, _, _, _ => none
  | n + 1, pc, L, S, m => (ins pc).bind fun q => ab_st KT sc sw eV eI q.1 q.2.1 q.2.2.1 q.2.2.2.1 q.2.2.2.2 pc L S m fun pc' L' S' m' => match hd pc' with
    | (0, _) => ab_seg KT sc sw eV eI ins hd go n pc' L' S' m'
    | (1, msk) => go pc' (ab_mk msk L') S' m'
    | _ => some (.inr (pc', L', S', m'))
def ab_ex (KT : List KS) (sc : Option (Nat × (Nat → Int32))) (sw : Nat → List (Int32 × Nat) × Nat) (eV : Nat → List AV → Mm → Option Mm) (eI : Nat → List AV → Mm → Option (Int32 × Mm)) (ins : Nat → Option Ent) (hd : Nat → Nat × List Bool) : Nat → Nat → List (Option AV) → List AV → Mm → Option Rs
  | 0, _, _, _, _ => none
  | f + 1, pc, L, S, m => ab_seg KT sc sw eV eI ins hd (ab_ex KT sc sw eV eI ins hd f) 1000 pc L S m
end
