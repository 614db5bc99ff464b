/-! A MACHINE OF OUR OWN over the bytecode: values are ints, longs and references by kind and number; the state is what every cell holds. -/
abbrev sx_V : Type := Int32 ⊕ (Int64 ⊕ (Nat × Nat))
abbrev sx_I : Type := Nat → Nat → Nat → Int32
abbrev sx_J : Type := Nat → Nat → Nat → Int64
abbrev sx_L : Type := List (Option sx_V)
abbrev sx_R : Type := Option (Option sx_V × sx_I × sx_J)
abbrev sx_C : Type := List (Nat × Instr × Nat)
def sx_cat (v : sx_V) : Nat := match v with
  | .inr (.inl _) => 2
  | _ => 1
def sx_get (lv : sx_L) (i : Nat) : Option sx_V := match lv[i]? with
  | some (some v) => some v
  | _ => none
def sx_kil (lv : sx_L) (i : Nat) : sx_L := match i with
  | 0 => lv
  | j + 1 => match lv[j]? with
    | some (some (.inr (.inl _))) => lv.set j none
    | _ => lv
def sx_st1 (lv : sx_L) (i : Nat) (v : sx_V) : sx_L := (sx_kil lv i).set i (some v)
def sx_st2 (lv : sx_L) (i : Nat) (v : sx_V) : sx_L := (sx_st1 lv i v).set (i + 1) none
def sx_uI (I : sx_I) (a b k : Nat) (v : Int32) : sx_I := fun x y z => if x = a ∧ y = b ∧ z = k then v else I x y z
def sx_uJ (J : sx_J) (a b k : Nat) (v : Int64) : sx_J := fun x y z => if x = a ∧ y = b ∧ z = k then v else J x y z
def sx_cp (I : sx_I) (a b sp dp n : Nat) : sx_I := fun x y z => if x = 22 ∧ y = b then va_cpy (I 22 a) (I 22 b) sp dp n z else I x y z
/-- what a reference cell holds: the objects never change whom they know -/
def sx_eR (kd i k : Nat) : Option (Nat × Nat) := match kd with
  | 0 => (match k with | 0 => some (14, 1) | _ => none)
  | 1 => (match k with | 0 => some (10, 3) | _ => none)
  | 2 => (match k with | 0 => some (5, 28) | _ => none)
  | 3 => (match k with | 0 => some (5, 29) | _ => none)
  | 4 => (match k with | 2 => some (22, i) | _ => none)
  | 5 => (match k with | 10 => some (20, i) | 11 => some (21, i) | 12 => some (11, i) | _ => none)
  | 6 => (match k with | 0 => some (10, 0) | _ => none)
  | 7 => (match k with | 0 => some (10, 1) | 1 => some (10, 2) | _ => none)
  | 8 => (match k with | 0 => some (13, 0) | 1 => some (6, 0) | 2 => some (5, 0) | 3 => some (5, 1) | 4 => some (14, 0) | 5 => some (0, 0) | 6 => some (2, 0) | 7 => some (7, 0) | 8 => some (3, 0) | 9 => some (1, 0) | _ => none)
  | 9 => (match k with | 2 => some (16, 0) | 3 => some (16, 1) | 4 => some (16, 2) | 5 => some (16, 3) | 6 => some (16, 4) | 7 => some (17, 0) | 8 => some (16, 5) | 9 => some (17, 1) | 11 => some (16, 6) | 20 => some (17, 2) | 21 => some (17, 3) | 26 => some (18, 0) | 27 => some (16, 7) | 28 => some (17, 4) | 29 => some (16, 8) | _ => none)
  | 13 => if k < 8 then some (4, k) else none
  | 14 => if i = 0 then (if k < 2 then some (5, k + 2) else none) else (if k < 24 then some (5, k + 4) else none)
  | _ => none
/-- how long an array is -/
def sx_eN (kd i : Nat) : Nat := match kd with
  | 10 => (match i with | 0 => 80 | 1 => 10 | 2 => 64 | _ => 16)
  | 13 => 8
  | 14 => (match i with | 0 => 2 | _ => 24)
  | 16 => (match i with | 0 => 8 | 1 => 8 | 2 => 320 | 3 => 32 | 4 => 32 | 5 => 768 | 6 => 80 | 7 => 64 | _ => 16)
  | 17 => (match i with | 1 => 144 | 4 => 12 | _ => 6)
  | 18 => 2
  | 22 => 40
  | _ => 6
/-- how many there are of a kind -/
def sx_eC (kd : Nat) : Nat := match kd with
  | 4 => 8
  | 5 => 30
  | 10 => 4
  | 11 => 30
  | 12 => 0
  | 14 => 2
  | 15 => 3
  | 16 => 9
  | 17 => 5
  | 20 => 30
  | 21 => 30
  | 22 => 8
  | k => if k < 20 then 1 else 0
/-- the static arrays -/
def sx_eT (t k : Nat) : Int32 := match t with
  | 0 => (match k with | 0 => 10 | 1 => 11 | 2 => 12 | 3 => 11 | 4 => 13 | _ => 14)
  | 1 => (match k with | 0 => 20 | 1 => 21 | 2 => 24 | 3 => 22 | 4 => 23 | _ => 23)
  | _ => (match k with | 0 => -1 | 1 => 0 | 2 => 1 | 3 => 1 | 4 => 0 | _ => 4)
def sx_isI (kd : Nat) : Bool := match kd with
  | 10 => true
  | 16 => true
  | 20 => true
  | 21 => true
  | 22 => true
  | _ => false
def sx_isJ (kd : Nat) : Bool := match kd with
  | 11 => true
  | 17 => true
  | _ => false
def sx_in (i : Int32) (n : Nat) : Bool := decide (0 ≤ i) && decide (i.toNatClampNeg < n)
def sx_b (st : List sx_V) (f : Int32 → Int32 → Int32) (c : List sx_V → sx_R) : sx_R := match st with
  | .inl y :: .inl x :: s => c (.inl (f x y) :: s)
  | _ => none
def sx_bJ (st : List sx_V) (f : Int64 → Int64 → Int64) (c : List sx_V → sx_R) : sx_R := match st with
  | .inr (.inl y) :: .inr (.inl x) :: s => c (.inr (.inl (f x y)) :: s)
  | _ => none
def sx_u (st : List sx_V) (f : Int32 → Int32) (c : List sx_V → sx_R) : sx_R := match st with
  | .inl x :: s => c (.inl (f x) :: s)
  | _ => none
def sx_cs (st : List sx_V) : Nat := (st.map sx_cat).sum
/-- one instruction: cal is a call, k what comes behind -/
def sx_K (cal : Nat → Bool → List sx_V → sx_I → sx_J → (Option sx_V → List sx_V → sx_I → sx_J → sx_R) → sx_R) (k : Nat → sx_L → List sx_V → sx_I → sx_J → sx_R) (pc : Nat) (r : Instr) (nx : Nat) (lv : sx_L) (st : List sx_V) (I : sx_I) (J : sx_J) : sx_R :=
  match r with
  | .iload i => (match sx_get lv i with | some (.inl x) => k nx lv (.inl x :: st) I J | _ => none)
  | .lload i => (match sx_get lv i with | some (.inr (.inl x)) => k nx lv (.inr (.inl x) :: st) I J | _ => none)
  | .aload i => (match sx_get lv i with | some (.inr (.inr q)) => k nx lv (.inr (.inr q) :: st) I J | _ => none)
  | .istore i => (match st with | .inl x :: s => if i < lv.length then k nx (sx_st1 lv i (.inl x)) s I J else none | _ => none)
  | .lstore i => (match st with | .inr (.inl x) :: s => if i + 1 < lv.length then k nx (sx_st2 lv i (.inr (.inl x))) s I J else none | _ => none)
  | .astore i => (match st with | .inr (.inr q) :: s => if i < lv.length then k nx (sx_st1 lv i (.inr (.inr q))) s I J else none | _ => none)
  | .iinc i n => (match sx_get lv i with | some (.inl x) => k nx (sx_st1 lv i (.inl (x + Int32.ofInt n))) st I J | _ => none)
  | .iconst v => k nx lv (.inl (Int32.ofInt v) :: st) I J
  | .sipush v => k nx lv (.inr (.inl (Int64.ofInt v)) :: st) I J
  | .iadd => sx_b st (fun x y => x + y) (fun s => k nx lv s I J)
  | .isub => sx_b st (fun x y => x - y) (fun s => k nx lv s I J)
  | .imul => sx_b st (fun x y => x * y) (fun s => k nx lv s I J)
  | .iand => sx_b st (fun x y => x &&& y) (fun s => k nx lv s I J)
  | .ior => sx_b st (fun x y => x ||| y) (fun s => k nx lv s I J)
  | .ixor => sx_b st (fun x y => x ^^^ y) (fun s => k nx lv s I J)
  | .ishl => sx_b st (fun x y => x <<< (y &&& 31)) (fun s => k nx lv s I J)
  | .ishr => sx_b st (fun x y => x >>> (y &&& 31)) (fun s => k nx lv s I J)
  | .iushr => sx_b st (fun x y => (x.toUInt32 >>> (y.toUInt32 &&& Int32.toUInt32 31)).toInt32) (fun s => k nx lv s I J)
  | .idiv => (match st with | .inl y :: .inl x :: s => if y = 0 then none else k nx lv (.inl (x / y) :: s) I J | _ => none)
  | .ladd => sx_bJ st (fun x y => x + y) (fun s => k nx lv s I J)
  | .lsub => sx_bJ st (fun x y => x - y) (fun s => k nx lv s I J)
  | .lmul => sx_bJ st (fun x y => x * y) (fun s => k nx lv s I J)
  | .ldiv => (match st with | .inr (.inl y) :: .inr (.inl x) :: s => if y = 0 then none else k nx lv (.inr (.inl (x / y)) :: s) I J | _ => none)
  | .lrem => (match st with | .inr (.inl y) :: .inr (.inl x) :: s => if y = 0 then none else k nx lv (.inr (.inl (x - x / y * y)) :: s) I J | _ => none)
  | .lcmp => (match st with | .inr (.inl y) :: .inr (.inl x) :: s => k nx lv (.inl (lg_cmp x y) :: s) I J | _ => none)
  | .ineg => sx_u st (fun x => -x) (fun s => k nx lv s I J)
  | .i2b => sx_u st (fun x => x.toInt8.toInt32) (fun s => k nx lv s I J)
  | .i2s => sx_u st (fun x => x.toInt16.toInt32) (fun s => k nx lv s I J)
  | .i2l => (match st with | .inl x :: s => k nx lv (.inr (.inl x.toInt64) :: s) I J | _ => none)
  | .l2i => (match st with | .inr (.inl x) :: s => k nx lv (.inl x.toInt32 :: s) I J | _ => none)
  | .dup => (match st with | v :: s => if sx_cat v = 1 then k nx lv (v :: v :: s) I J else none | _ => none)
  | .dup2 => (match st with
    | .inr (.inl x) :: s => k nx lv (.inr (.inl x) :: .inr (.inl x) :: s) I J
    | v :: w :: s => if sx_cat v = 1 then (if sx_cat w = 1 then k nx lv (v :: w :: v :: w :: s) I J else none) else none
    | _ => none)
  | .goto t => k t.toNat lv st I J
  | .ifCond c t => (match st with
    | .inl x :: s => (match c with
      | .eq => if x = 0 then k t.toNat lv s I J else k nx lv s I J
      | .ne => if x = 0 then k nx lv s I J else k t.toNat lv s I J
      | .lt => if x < 0 then k t.toNat lv s I J else k nx lv s I J
      | .ge => if 0 ≤ x then k t.toNat lv s I J else k nx lv s I J
      | .gt => if 0 < x then k t.toNat lv s I J else k nx lv s I J
      | .le => if x ≤ 0 then k t.toNat lv s I J else k nx lv s I J)
    | _ => none)
  | .if_icmp c t => (match st with
    | .inl y :: .inl x :: s => (match c with
      | .eq => if x = y then k t.toNat lv s I J else k nx lv s I J
      | .ne => if x = y then k nx lv s I J else k t.toNat lv s I J
      | .lt => if x < y then k t.toNat lv s I J else k nx lv s I J
      | .ge => if y ≤ x then k t.toNat lv s I J else k nx lv s I J
      | .gt => if y < x then k t.toNat lv s I J else k nx lv s I J
      | .le => if x ≤ y then k t.toNat lv s I J else k nx lv s I J)
    | _ => none)
  | .tableswitch d lo hi offs => (match st with
    | .inl x :: s => if x.toInt < lo ∨ hi < x.toInt then (if 0 ≤ (pc : Int) + d then k ((pc : Int) + d).toNat lv s I J else none)
      else (match offs[(x.toInt - lo).toNat]? with
        | some o => if 0 ≤ (pc : Int) + o then k ((pc : Int) + o).toNat lv s I J else none
        | none => none)
    | _ => none)
  | .lookupswitch d ps => (match st with
    | .inl x :: s => if 0 ≤ (pc : Int) + Op.lookupswitch.offset ps.toList d x.toInt then k ((pc : Int) + Op.lookupswitch.offset ps.toList d x.toInt).toNat lv s I J else none
    | _ => none)
  | .getfield n => (match st with
    | .inr (.inr (kd, i)) :: s => if kd = n / 256 then (match n % 4 with
        | 1 => k nx lv (.inr (.inl (J kd i (n / 4 % 64))) :: s) I J
        | 2 => (match sx_eR kd i (n / 4 % 64) with | some q => k nx lv (.inr (.inr q) :: s) I J | none => none)
        | _ => k nx lv (.inl (I kd i (n / 4 % 64)) :: s) I J) else none
    | _ => none)
  | .putfield n => (match st with
    | .inl x :: .inr (.inr (kd, i)) :: s => if kd = n / 256 then (match n % 4 with
        | 0 => k nx lv s (sx_uI I kd i (n / 4 % 64) x) J
        | 3 => if x = 0 ∨ x = 1 then k nx lv s (sx_uI I kd i (n / 4 % 64) x) J else none
        | _ => none) else none
    | .inr (.inl x) :: .inr (.inr (kd, i)) :: s => if kd = n / 256 then (match n % 4 with
        | 1 => k nx lv s I (sx_uJ J kd i (n / 4 % 64) x)
        | _ => none) else none
    | _ => none)
  | .getstatic t => if t < 3 then k nx lv (.inr (.inr (15, t)) :: st) I J else none
  | .iaload => (match st with
    | .inl x :: .inr (.inr (kd, i)) :: s => if kd = 15 then (if sx_in x 6 then k nx lv (.inl (sx_eT i x.toNatClampNeg) :: s) I J else none)
      else if sx_isI kd then (if sx_in x (sx_eN kd i) then k nx lv (.inl (I kd i x.toNatClampNeg) :: s) I J else none) else none
    | _ => none)
  | .laload => (match st with
    | .inl x :: .inr (.inr (kd, i)) :: s => if sx_isJ kd then (if sx_in x (sx_eN kd i) then k nx lv (.inr (.inl (J kd i x.toNatClampNeg)) :: s) I J else none) else none
    | _ => none)
  | .baload => (match st with
    | .inl x :: .inr (.inr (kd, i)) :: s => if kd = 18 then (if sx_in x (sx_eN kd i) then k nx lv (.inl (I kd i x.toNatClampNeg) :: s) I J else none) else none
    | _ => none)
  | .aaload => (match st with
    | .inl x :: .inr (.inr (kd, i)) :: s => if kd = 13 ∨ kd = 14 then (if sx_in x (sx_eN kd i) then (match sx_eR kd i x.toNatClampNeg with | some q => k nx lv (.inr (.inr q) :: s) I J | none => none) else none) else none
    | _ => none)
  | .caload => (match st with
    | .inl x :: .inr (.inr (kd, i)) :: s => if kd = 19 then (if sx_in x (I 23 0 0).toNatClampNeg then k nx lv (.inl (I 19 0 x.toNatClampNeg) :: s) I J else none) else none
    | _ => none)
  | .fneg => (match st with
    | .inr (.inr (kd, i)) :: s => if kd = 19 then k nx lv (.inl (I 23 0 0) :: s) I J else none
    | _ => none)
  | .arraylength => (match st with
    | .inr (.inr (kd, i)) :: s => if kd = 15 then k nx lv (.inl 6 :: s) I J else if sx_isI kd then k nx lv (.inl (Int32.ofNat (sx_eN kd i)) :: s) I J else none
    | _ => none)
  | .iastore => (match st with
    | .inl v :: .inl x :: .inr (.inr (kd, i)) :: s => if sx_isI kd then (if sx_in x (sx_eN kd i) then k nx lv s (sx_uI I kd i x.toNatClampNeg v) J else none) else none
    | _ => none)
  | .lastore => (match st with
    | .inr (.inl v) :: .inl x :: .inr (.inr (kd, i)) :: s => if sx_isJ kd then (if sx_in x (sx_eN kd i) then k nx lv s I (sx_uJ J kd i x.toNatClampNeg v) else none) else none
    | _ => none)
  | .bastore => (match st with
    | .inl v :: .inl x :: .inr (.inr (kd, i)) :: s => if kd = 18 then (if v = 0 ∨ v = 1 then (if sx_in x (sx_eN kd i) then k nx lv s (sx_uI I kd i x.toNatClampNeg v) J else none) else none) else none
    | _ => none)
  | .invokedynamic _ => (match st with
    | .inl n :: .inl dp :: .inr (.inr (kb, b)) :: .inl sp :: .inr (.inr (ka, a)) :: s => if ka = 22 ∧ kb = 22 then (if 0 ≤ sp ∧ 0 ≤ dp ∧ 0 ≤ n ∧ sp.toNatClampNeg + n.toNatClampNeg ≤ 40 ∧ dp.toNatClampNeg + n.toNatClampNeg ≤ 40 ∧ sx_cs s ≤ 8 then k nx lv s (sx_cp I a b sp.toNatClampNeg dp.toNatClampNeg n.toNatClampNeg) J else none) else none
    | _ => none)
  | .invokevirtual mid => cal mid true st I J (fun v s I J => k nx lv (v.toList ++ s) I J)
  | .invokestatic mid => cal mid false st I J (fun v s I J => k nx lv (v.toList ++ s) I J)
  | .invokeinterface mid _ => cal mid false st I J (fun v s I J => k nx lv (v.toList ++ s) I J)
  | .ireturn => (match st with | [.inl x] => some (some (.inl x), I, J) | _ => none)
  | .areturn => (match st with | [.inl x] => if x = 0 ∨ x = 1 then some (some (.inl x), I, J) else none | _ => none)
  | .lreturn => (match st with | [.inr (.inl x)] => some (some (.inr (.inl x)), I, J) | _ => none)
  | .return_ => (match st with | [] => some (none, I, J) | _ => none)
  | _ => none
/-- the locals of a call -/
def sx_en (as : List sx_V) (n : Nat) : sx_L := let l := as.flatMap (fun v => if sx_cat v = 2 then [some v, none] else [some v]); l ++ List.replicate (n - l.length) none
def sx_wd (as : List sx_V) : Nat := (as.map sx_cat).sum
/-- a method: its code, its locals, its parameters, the kind of its object (99: static) -/
abbrev sx_M : Type := sx_C × Nat × Nat × Nat
/-- a call: of fr, what a method's code does -/
def sx_cl (mt : List sx_M) (fr : sx_C → sx_L → sx_I → sx_J → sx_R) (mid : Nat) (vt : Bool) (st : List sx_V) (I : sx_I) (J : sx_J) (c : Option sx_V → List sx_V → sx_I → sx_J → sx_R) : sx_R :=
  match mt[mid]? with
  | none => none
  | some (cd, mx, np, kd) =>
    if vt then (match st.drop np with
      | .inr (.inr (kr, i)) :: s => if kr = kd ∧ (st.take np).length = np ∧ sx_cs s ≤ 8 ∧ sx_wd (st.take np) + 1 ≤ mx then
          (match fr cd (sx_en (.inr (.inr (kr, i)) :: (st.take np).reverse) mx) I J with
          | some (v, I1, J1) => c v s I1 J1
          | none => none) else none
      | _ => none)
    else if kd = 99 ∧ (st.take np).length = np ∧ sx_cs (st.drop np) ≤ 8 ∧ sx_wd (st.take np) ≤ mx then
      (match fr cd (sx_en (st.take np).reverse mx) I J with
      | some (v, I1, J1) => c v (st.drop np) I1 J1
      | none => none) else none
/-- so many steps (n) and calls within calls (d) -/
def sx_ex (mt : List sx_M) : Nat → Nat → sx_C → Nat → sx_L → List sx_V → sx_I → sx_J → sx_R
  | 0, _, _, _, _, _, _, _ => none
  | n + 1, d, cd, pc, lv, st, I, J =>
    match cd.find? (fun e => e.1 == pc) with
    | none => none
    | some e => sx_K (fun mid vt st I J c => match d with
        | 0 => none
        | d1 + 1 => sx_cl mt (fun cd1 lv1 I J => sx_ex mt n d1 cd1 0 lv1 [] I J) mid vt st I J c) (fun pc lv st I J => sx_ex mt n d cd pc lv st I J) pc e.2.1 e.2.2 lv st I J
