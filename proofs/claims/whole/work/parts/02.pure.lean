/-! the pure machine: cells by numbers (0 the script, 1 the literal, from 2 on what was made), ints, longs and references apart -/
abbrev pj_Z : Type := Nat × (Nat → Nat) × (Nat → Nat) × (Nat → Nat → Option Nat)
abbrev pj_S : Type := pj_Z × (Nat → Nat → Int32) × (Nat → Nat → Int64)
/-- a function of two numbers, changed at a place -/
def pj_u {α : Type} (f : Nat → Nat → α) (a k : Nat) (v : α) : Nat → Nat → α := fun b j => if b = a then (if j = k then v else f b j) else f b j
theorem pj_u_same {α : Type} (f : Nat → Nat → α) (a k : Nat) (v : α) : pj_u f a k v a k = v := by simp [pj_u]
theorem pj_u_row {α : Type} (f : Nat → Nat → α) (a k : Nat) (v : α) {b : Nat} (h : b ≠ a) (j : Nat) : pj_u f a k v b j = f b j := by simp [pj_u, h]
theorem pj_u_col {α : Type} (f : Nat → Nat → α) (a k : Nat) (v : α) (b : Nat) {j : Nat} (h : j ≠ k) : pj_u f a k v b j = f b j := by simp [pj_u, h]
/-- instruction, length, next place, three numbers, an int, a long, a switch's rows -/
abbrev pj_E : Type := Instr × Nat × Nat × (Nat × Nat × Nat) × Int32 × Int64 × List (Int32 × Nat)
/-- code: rows by chunks, each chunk with its last place -/
abbrev pj_M : Type := List (Nat × List (Nat × pj_E))
def pj_lk (pc : Nat) : List (Nat × pj_E) → Option pj_E
  | [] => none
  | q :: r => match Nat.beq pc q.1 with
    | true => some q.2
    | false => pj_lk pc r
def pj_at (pc : Nat) : pj_M → Option pj_E
  | [] => none
  | q :: r => match Nat.ble pc q.1 with
    | true => pj_lk pc q.2
    | false => pj_at pc r
abbrev pj_L : Type := List (Option Value)
def pj_c (b : Bool) (K : Prop) : Prop := match b with
  | true => K
  | false => False
def pj_pI (st : List Value) (k : Int32 → List Value → Prop) : Prop := match st with
  | .int x :: r => k x r
  | _ => False
def pj_pL (st : List Value) (k : Int64 → List Value → Prop) : Prop := match st with
  | .long x :: r => k x r
  | _ => False
def pj_pR (st : List Value) (k : Nat → List Value → Prop) : Prop := match st with
  | .ref x :: r => k x r
  | _ => False
def pj_pV (st : List Value) (k : Value → List Value → Prop) : Prop := match st with
  | .int x :: r => k (.int x) r
  | .ref x :: r => k (.ref x) r
  | _ => False
def pj_gI (L : pj_L) (i : Nat) (k : Int32 → Prop) : Prop := match L[i]? with
  | some (some (.int x)) => k x
  | _ => False
def pj_gL (L : pj_L) (i : Nat) (k : Int64 → Prop) : Prop := match L[i]? with
  | some (some (.long x)) => k x
  | _ => False
def pj_gR (L : pj_L) (i : Nat) (k : Nat → Prop) : Prop := match L[i]? with
  | some (some (.ref x)) => k x
  | _ => False
/-- a long just below the place goes -/
def pj_k1 (o : Option (Option Value)) (L : pj_L) (j : Nat) : pj_L := match o with
  | some (some (.long _)) => L.set j none
  | some (some (.double _)) => L.set j none
  | _ => L
def pj_kill (L : pj_L) (i : Nat) : pj_L := match i with
  | 0 => L
  | j + 1 => pj_k1 L[j]? L j
def pj_s1 (L : pj_L) (i : Nat) (v : Value) : pj_L := (pj_kill L i).set i (some v)
def pj_s2 (L : pj_L) (i : Nat) (v : Value) : pj_L := ((pj_kill L i).set i (some v)).set (i + 1) none
def pj_en : List Value → pj_L
  | [] => []
  | .long x :: vs => some (.long x) :: none :: pj_en vs
  | .double x :: vs => some (.double x) :: none :: pj_en vs
  | v :: vs => some v :: pj_en vs
def pj_pad (n : Nat) (L : pj_L) : pj_L := L ++ List.replicate (n - L.length) none
def pj_sw (x : Int32) (rows : List (Int32 × Nat)) (d : Nat) (k : Nat → Prop) : Prop := match rows with
  | [] => k d
  | r :: rs => (x = r.1 → k r.2) ∧ (¬ x = r.1 → pj_sw x rs d k)
/-- a cell is made -/
def pj_nZ (Z : pj_Z) (kind len : Nat) : pj_Z := (Z.1 + 1, va_up Z.2.1 Z.1 kind, va_up Z.2.2.1 Z.1 len, va_up Z.2.2.2 Z.1 (fun _ => none))
/-- a table of ints is made: the outer row, then the rows -/
def pj_nZ2 (Z : pj_Z) (n len : Nat) : pj_Z :=
  (Z.1 + 1 + n, fun k => if k = Z.1 then 17 else if Z.1 < k ∧ k < Z.1 + 1 + n then 13 else Z.2.1 k, fun k => if k = Z.1 then n else if Z.1 < k ∧ k < Z.1 + 1 + n then len else Z.2.2.1 k,
    fun k => if k = Z.1 then (fun j => if j < n then some (Z.1 + 1 + j) else none) else Z.2.2.2 k)
def pj_nI2 (I : Nat → Nat → Int32) (a n : Nat) : Nat → Nat → Int32 := fun k => if a < k ∧ k < a + 1 + n then (fun _ => 0) else I k
abbrev pj_K : Type := Option Value → pj_S → Prop
abbrev pj_CT : Type := Nat → List Value → pj_S → pj_K → Prop
abbrev pj_G : Type := Nat → pj_L → List Value → pj_Z → (Nat → Nat → Int32) → (Nat → Nat → Int64) → Nat → Nat → Prop
/-- the chars of the literal -/
def pj_ow (s : String) (i : Nat) : Int32 := Int32.ofNat ((s.toList.getD i 'a').toNat)
def pj_lit : String := "coat  size  pay   man   age   wears of    warms grows leavesfire  year  liningpurse coatedif    or    and   not   all   min   max   "
/-- calls of our own methods -/
def pj_call (C : pj_CT) (go : pj_G) (x y z nx : Nat) (inst : Bool) (L : pj_L) (st : List Value) (Z : pj_Z) (I : Nat → Nat → Int32) (J : Nat → Nat → Int64) (bc bs mc ms : Nat) : Prop :=
  pj_c (Nat.ble y st.length && Nat.ble (((st.drop y).map Value.category).sum) 8 && Nat.ble mc bc && Nat.ble ms bs)
    (match inst with
      | true => pj_pR (st.take y).reverse fun a _ => pj_c (Nat.beq (Z.2.1 a) z) (C x (st.take y).reverse (Z, I, J) fun r σ' => go nx L (r.toList ++ st.drop y) σ'.1 σ'.2.1 σ'.2.2 (bc - mc) (bs - ms))
      | false => C x (st.take y).reverse (Z, I, J) fun r σ' => go nx L (r.toList ++ st.drop y) σ'.1 σ'.2.1 σ'.2.2 (bc - mc) (bs - ms))
/-- a row copied into another -/
def pj_cp (I : Nat → Nat → Int32) (s d sp dp n : Nat) : Nat → Nat → Int32 := va_up I d (va_cpy (I s) (I d) sp dp n)
/-- invokevirtual -/
def pj_iv (C : pj_CT) (go : pj_G) (nx x y z : Nat) (L : pj_L) (st : List Value) (Z : pj_Z) (I : Nat → Nat → Int32) (J : Nat → Nat → Int64) (bc bs : Nat) : Prop := match x with
  | 1005 => pj_pI st fun b st => pj_pR st fun a st => pj_c (Nat.beq a 1 && Nat.ble ((st.map Value.category).sum) 8) (vp_in b 132 ∧ go nx L (.int (pj_ow pj_lit b.toNatClampNeg) :: st) Z I J bc bs)
  | x => pj_call C go x y z nx true L st Z I J bc bs 0 0
/-- invokespecial -/
def pj_ip (C : pj_CT) (al : Nat → Nat × Nat) (go : pj_G) (nx x y z : Nat) (L : pj_L) (st : List Value) (Z : pj_Z) (I : Nat → Nat → Int32) (J : Nat → Nat → Int64) (bc bs : Nat) : Prop := match x with
  | 1000 => pj_pR st fun _ st => pj_c (Nat.ble ((st.map Value.category).sum) 8) (go nx L st Z I J bc bs)
  | x => pj_call C go x y z nx true L st Z I J bc bs (al x).1 (al x).2
/-- invokestatic -/
def pj_is (C : pj_CT) (go : pj_G) (nx x y z : Nat) (L : pj_L) (st : List Value) (Z : pj_Z) (I : Nat → Nat → Int32) (J : Nat → Nat → Int64) (bc bs : Nat) : Prop := match x with
  | 1001 => pj_pI st fun b st => pj_pI st fun a st => pj_c (Nat.ble ((st.map Value.category).sum) 8) (go nx L (.int (if b < a then b else a) :: st) Z I J bc bs)
  | 1002 => pj_pI st fun b st => pj_pI st fun a st => pj_c (Nat.ble ((st.map Value.category).sum) 8) (go nx L (.int (if a < b then b else a) :: st) Z I J bc bs)
  | 1003 => pj_pI st fun a st => pj_c (Nat.ble ((st.map Value.category).sum) 8) (go nx L (.int (if 0 ≤ a then a else 0 - a) :: st) Z I J bc bs)
  | 1004 => pj_pI st fun n st => pj_pI st fun dp st => pj_pR st fun d st => pj_pI st fun sp st => pj_pR st fun s st => pj_c (Nat.beq (Z.2.1 s) 13 && Nat.beq (Z.2.1 d) 13 && Nat.ble ((st.map Value.category).sum) 8)
      ((¬ sp < 0 ∧ ¬ dp < 0 ∧ ¬ n < 0 ∧ sp.toNatClampNeg + n.toNatClampNeg ≤ Z.2.2.1 s ∧ dp.toNatClampNeg + n.toNatClampNeg ≤ Z.2.2.1 d) ∧ go nx L st Z (pj_cp I s d sp.toNatClampNeg dp.toNatClampNeg n.toNatClampNeg) J bc bs)
  | x => pj_call C go x y z nx false L st Z I J bc bs 0 0
/-- one instruction -/
def pj_x (C : pj_CT) (al : Nat → Nat × Nat) (rt : Bool) (Q : pj_K) (go : pj_G) (i : Instr) (nx x y z : Nat) (w : Int32) (v : Int64) (sw : List (Int32 × Nat)) (L : pj_L) (st : List Value) (Z : pj_Z) (I : Nat → Nat → Int32) (J : Nat → Nat → Int64) (bc bs : Nat) : Prop :=
  match i with
  | .aload k => pj_gR L k fun a => go nx L (.ref a :: st) Z I J bc bs
  | .aload_n k => pj_gR L k.val fun a => go nx L (.ref a :: st) Z I J bc bs
  | .iload k => pj_gI L k fun a => go nx L (.int a :: st) Z I J bc bs
  | .iload_n k => pj_gI L k.val fun a => go nx L (.int a :: st) Z I J bc bs
  | .lload k => pj_gL L k fun a => go nx L (.long a :: st) Z I J bc bs
  | .lload_n k => pj_gL L k.val fun a => go nx L (.long a :: st) Z I J bc bs
  | .astore k => pj_pR st fun a st => pj_c (Nat.blt k L.length) (go nx (pj_s1 L k (.ref a)) st Z I J bc bs)
  | .astore_n k => pj_pR st fun a st => pj_c (Nat.blt k.val L.length) (go nx (pj_s1 L k.val (.ref a)) st Z I J bc bs)
  | .istore k => pj_pI st fun a st => pj_c (Nat.blt k L.length) (go nx (pj_s1 L k (.int a)) st Z I J bc bs)
  | .istore_n k => pj_pI st fun a st => pj_c (Nat.blt k.val L.length) (go nx (pj_s1 L k.val (.int a)) st Z I J bc bs)
  | .lstore k => pj_pL st fun a st => pj_c (Nat.blt (k + 1) L.length) (go nx (pj_s2 L k (.long a)) st Z I J bc bs)
  | .lstore_n k => pj_pL st fun a st => pj_c (Nat.blt (k.val + 1) L.length) (go nx (pj_s2 L k.val (.long a)) st Z I J bc bs)
  | .iinc k _ => pj_gI L k fun a => go nx (pj_s1 L k (.int (a + w))) st Z I J bc bs
  | .iconst _ => go nx L (.int w :: st) Z I J bc bs
  | .bipush _ => go nx L (.int w :: st) Z I J bc bs
  | .sipush _ => go nx L (.int w :: st) Z I J bc bs
  | .lconst _ => go nx L (.long v :: st) Z I J bc bs
  | .ldc _ => match z with
    | 0 => go nx L (.int w :: st) Z I J bc bs
    | _ => go nx L (.ref 1 :: st) Z I J bc bs
  | .ldc_w _ => go nx L (.int w :: st) Z I J bc bs
  | .ldc2_w _ => go nx L (.long v :: st) Z I J bc bs
  | .iadd => pj_pI st fun b st => pj_pI st fun a st => go nx L (.int (a + b) :: st) Z I J bc bs
  | .isub => pj_pI st fun b st => pj_pI st fun a st => go nx L (.int (a - b) :: st) Z I J bc bs
  | .imul => pj_pI st fun b st => pj_pI st fun a st => go nx L (.int (a * b) :: st) Z I J bc bs
  | .idiv => pj_pI st fun b st => pj_pI st fun a st => ¬ b = 0 ∧ go nx L (.int (a / b) :: st) Z I J bc bs
  | .irem => pj_pI st fun b st => pj_pI st fun a st => ¬ b = 0 ∧ go nx L (.int (a - a / b * b) :: st) Z I J bc bs
  | .iand => pj_pI st fun b st => pj_pI st fun a st => go nx L (.int (a &&& b) :: st) Z I J bc bs
  | .ior => pj_pI st fun b st => pj_pI st fun a st => go nx L (.int (a ||| b) :: st) Z I J bc bs
  | .ixor => pj_pI st fun b st => pj_pI st fun a st => go nx L (.int (a ^^^ b) :: st) Z I J bc bs
  | .ishl => pj_pI st fun b st => pj_pI st fun a st => go nx L (.int (a <<< (b &&& 31)) :: st) Z I J bc bs
  | .ishr => pj_pI st fun b st => pj_pI st fun a st => go nx L (.int (a >>> (b &&& 31)) :: st) Z I J bc bs
  | .iushr => pj_pI st fun b st => pj_pI st fun a st => go nx L (.int (a.toUInt32 >>> (b.toUInt32 &&& Int32.toUInt32 31)).toInt32 :: st) Z I J bc bs
  | .ladd => pj_pL st fun b st => pj_pL st fun a st => go nx L (.long (a + b) :: st) Z I J bc bs
  | .lsub => pj_pL st fun b st => pj_pL st fun a st => go nx L (.long (a - b) :: st) Z I J bc bs
  | .lmul => pj_pL st fun b st => pj_pL st fun a st => go nx L (.long (a * b) :: st) Z I J bc bs
  | .ldiv => pj_pL st fun b st => pj_pL st fun a st => ¬ b = 0 ∧ go nx L (.long (a / b) :: st) Z I J bc bs
  | .lrem => pj_pL st fun b st => pj_pL st fun a st => ¬ b = 0 ∧ go nx L (.long (a - a / b * b) :: st) Z I J bc bs
  | .land => pj_pL st fun b st => pj_pL st fun a st => go nx L (.long (a &&& b) :: st) Z I J bc bs
  | .lor => pj_pL st fun b st => pj_pL st fun a st => go nx L (.long (a ||| b) :: st) Z I J bc bs
  | .lshl => pj_pI st fun b st => pj_pL st fun a st => go nx L (.long (a <<< (b.toInt64 &&& 63)) :: st) Z I J bc bs
  | .lshr => pj_pI st fun b st => pj_pL st fun a st => go nx L (.long (a >>> (b.toInt64 &&& 63)) :: st) Z I J bc bs
  | .lcmp => pj_pL st fun b st => pj_pL st fun a st => go nx L (.int (lg_cmp a b) :: st) Z I J bc bs
  | .i2l => pj_pI st fun a st => go nx L (.long a.toInt64 :: st) Z I J bc bs
  | .l2i => pj_pL st fun a st => go nx L (.int a.toInt32 :: st) Z I J bc bs
  | .dup => pj_pV st fun a st => go nx L (a :: a :: st) Z I J bc bs
  | .dup2 => pj_pV st fun a st => pj_pV st fun b st => go nx L (a :: b :: a :: b :: st) Z I J bc bs
  | .pop => pj_pV st fun _ st => go nx L st Z I J bc bs
  | .if_icmp cd _ => pj_pI st fun b st => pj_pI st fun a st => match cd with
    | .eq => (a = b → go x L st Z I J bc bs) ∧ (¬ a = b → go nx L st Z I J bc bs)
    | .ne => (¬ a = b → go x L st Z I J bc bs) ∧ (a = b → go nx L st Z I J bc bs)
    | .lt => (a < b → go x L st Z I J bc bs) ∧ (¬ a < b → go nx L st Z I J bc bs)
    | .ge => (b ≤ a → go x L st Z I J bc bs) ∧ (¬ b ≤ a → go nx L st Z I J bc bs)
    | .gt => (b < a → go x L st Z I J bc bs) ∧ (¬ b < a → go nx L st Z I J bc bs)
    | .le => (a ≤ b → go x L st Z I J bc bs) ∧ (¬ a ≤ b → go nx L st Z I J bc bs)
  | .ifCond cd _ => pj_pI st fun a st => match cd with
    | .eq => (a = 0 → go x L st Z I J bc bs) ∧ (¬ a = 0 → go nx L st Z I J bc bs)
    | .ne => (¬ a = 0 → go x L st Z I J bc bs) ∧ (a = 0 → go nx L st Z I J bc bs)
    | .lt => (a < 0 → go x L st Z I J bc bs) ∧ (¬ a < 0 → go nx L st Z I J bc bs)
    | .ge => (0 ≤ a → go x L st Z I J bc bs) ∧ (¬ 0 ≤ a → go nx L st Z I J bc bs)
    | .gt => (0 < a → go x L st Z I J bc bs) ∧ (¬ 0 < a → go nx L st Z I J bc bs)
    | .le => (a ≤ 0 → go x L st Z I J bc bs) ∧ (¬ a ≤ 0 → go nx L st Z I J bc bs)
  | .goto _ => go x L st Z I J bc bs
  | .tableswitch _ _ _ _ => pj_pI st fun a st => pj_sw a sw x fun t => go t L st Z I J bc bs
  | .lookupswitch _ _ => pj_pI st fun a st => pj_sw a sw x fun t => go t L st Z I J bc bs
  | .getfield _ => pj_pR st fun a st => pj_c (Nat.beq (Z.2.1 a) x) (match z with
    | 0 => go nx L (.int (I a y) :: st) Z I J bc bs
    | 1 => go nx L (.long (J a y) :: st) Z I J bc bs
    | 2 => pj_c (Z.2.2.2 a y).isSome (go nx L (.ref ((Z.2.2.2 a y).getD 0) :: st) Z I J bc bs)
    | _ => go nx L (.int (I a y) :: st) Z I J bc bs)
  | .putfield _ => match z with
    | 0 => pj_pI st fun b st => pj_pR st fun a st => pj_c (Nat.beq (Z.2.1 a) x) (go nx L st Z (pj_u I a y b) J bc bs)
    | 1 => pj_pL st fun b st => pj_pR st fun a st => pj_c (Nat.beq (Z.2.1 a) x) (go nx L st Z I (pj_u J a y b) bc bs)
    | 2 => pj_pR st fun b st => pj_pR st fun a st => pj_c (Nat.beq (Z.2.1 a) x) (go nx L st (Z.1, Z.2.1, Z.2.2.1, pj_u Z.2.2.2 a y (some b)) I J bc bs)
    | _ => pj_pI st fun b st => pj_pR st fun a st => pj_c (Nat.beq (Z.2.1 a) x) (b &&& 1 = b ∧ go nx L st Z (pj_u I a y b) J bc bs)
  | .iaload => pj_pI st fun b st => pj_pR st fun a st => pj_c (Nat.beq (Z.2.1 a) 13 || Nat.beq (Z.2.1 a) 18) (vp_in b (Z.2.2.1 a) ∧ go nx L (.int (I a b.toNatClampNeg) :: st) Z I J bc bs)
  | .laload => pj_pI st fun b st => pj_pR st fun a st => pj_c (Nat.beq (Z.2.1 a) 14) (vp_in b (Z.2.2.1 a) ∧ go nx L (.long (J a b.toNatClampNeg) :: st) Z I J bc bs)
  | .baload => pj_pI st fun b st => pj_pR st fun a st => pj_c (Nat.beq (Z.2.1 a) 15) (vp_in b (Z.2.2.1 a) ∧ go nx L (.int (I a b.toNatClampNeg) :: st) Z I J bc bs)
  | .aaload => pj_pI st fun b st => pj_pR st fun a st => pj_c (Nat.beq (Z.2.1 a) 16 || Nat.beq (Z.2.1 a) 17) (vp_in b (Z.2.2.1 a) ∧ pj_c (Z.2.2.2 a b.toNatClampNeg).isSome (go nx L (.ref ((Z.2.2.2 a b.toNatClampNeg).getD 0) :: st) Z I J bc bs))
  | .iastore => pj_pI st fun q st => pj_pI st fun b st => pj_pR st fun a st => pj_c (Nat.beq (Z.2.1 a) 13) (vp_in b (Z.2.2.1 a) ∧ go nx L st Z (pj_u I a b.toNatClampNeg q) J bc bs)
  | .lastore => pj_pL st fun q st => pj_pI st fun b st => pj_pR st fun a st => pj_c (Nat.beq (Z.2.1 a) 14) (vp_in b (Z.2.2.1 a) ∧ go nx L st Z I (pj_u J a b.toNatClampNeg q) bc bs)
  | .bastore => pj_pI st fun q st => pj_pI st fun b st => pj_pR st fun a st => pj_c (Nat.beq (Z.2.1 a) 15) (vp_in b (Z.2.2.1 a) ∧ go nx L st Z (pj_u I a b.toNatClampNeg (q &&& 1)) J bc bs)
  | .aastore => pj_pR st fun q st => pj_pI st fun b st => pj_pR st fun a st => pj_c (Nat.beq (Z.2.1 a) 16 && Nat.beq (Z.2.1 q) 7) (vp_in b (Z.2.2.1 a) ∧ go nx L st (Z.1, Z.2.1, Z.2.2.1, pj_u Z.2.2.2 a b.toNatClampNeg (some q)) I J bc bs)
  | .arraylength => pj_pR st fun a st => pj_c (Nat.ble 13 (Z.2.1 a) && Nat.ble (Z.2.1 a) 18) (go nx L (.int (nI (Z.2.2.1 a)) :: st) Z I J bc bs)
  | .newarray _ => pj_pI st fun n st => pj_c (Nat.ble 1 bc && Nat.ble n.toNatClampNeg bs && Nat.ble n.toNatClampNeg 100000 && !decide (n < 0)) (go nx L (.ref Z.1 :: st) (pj_nZ Z x n.toNatClampNeg) (va_up I Z.1 (fun _ => 0)) (va_up J Z.1 (fun _ => 0)) (bc - 1) (bs - n.toNatClampNeg))
  | .anewarray _ => pj_pI st fun n st => pj_c (Nat.ble 1 bc && Nat.ble n.toNatClampNeg bs && Nat.ble n.toNatClampNeg 100000 && !decide (n < 0)) (go nx L (.ref Z.1 :: st) (pj_nZ Z 16 n.toNatClampNeg) (va_up I Z.1 (fun _ => 0)) (va_up J Z.1 (fun _ => 0)) (bc - 1) (bs - n.toNatClampNeg))
  | .multianewarray _ _ => pj_pI st fun k st => pj_pI st fun n st => pj_c (Nat.ble (1 + n.toNatClampNeg) bc && Nat.ble (n.toNatClampNeg + n.toNatClampNeg * k.toNatClampNeg) bs && Nat.ble n.toNatClampNeg 1000 && Nat.ble k.toNatClampNeg 1000 && !decide (n < 0) && !decide (k < 0)) (go nx L (.ref Z.1 :: st) (pj_nZ2 Z n.toNatClampNeg k.toNatClampNeg) (pj_nI2 I Z.1 n.toNatClampNeg) J (bc - 1 - n.toNatClampNeg) (bs - n.toNatClampNeg - n.toNatClampNeg * k.toNatClampNeg))
  | .new _ => pj_c (Nat.ble 1 bc && Nat.ble y bs) (go nx L (.ref Z.1 :: st) (pj_nZ Z x 0) (va_up I Z.1 (fun _ => 0)) (va_up J Z.1 (fun _ => 0)) (bc - 1) (bs - y))
  | .invokevirtual _ => pj_iv C go nx x y z L st Z I J bc bs
  | .invokespecial _ => pj_ip C al go nx x y z L st Z I J bc bs
  | .invokestatic _ => pj_is C go nx x y z L st Z I J bc bs
  | .ireturn => pj_pI st fun a r => pj_c (r.isEmpty && Nat.beq bc 0 && Nat.beq bs 0) (match rt with
    | true => a &&& 1 = a ∧ Q (some (.int a)) (Z, I, J)
    | false => Q (some (.int a)) (Z, I, J))
  | .lreturn => pj_pL st fun a r => pj_c (r.isEmpty && Nat.beq bc 0 && Nat.beq bs 0) (Q (some (.long a)) (Z, I, J))
  | .return_ => pj_c (st.isEmpty && Nat.beq bc 0 && Nat.beq bs 0) (Q none (Z, I, J))
  | _ => False
/-- the instruction at a place -/
def pj_1 (C : pj_CT) (al : Nat → Nat × Nat) (M : pj_M) (rt : Bool) (Q : pj_K) (go : pj_G) (pc : Nat) (L : pj_L) (st : List Value) (Z : pj_Z) (I : Nat → Nat → Int32) (J : Nat → Nat → Int64) (bc bs : Nat) : Prop :=
  match pj_at pc M with
  | none => False
  | some (i, _, nx, (x, y, z), w, v, sw) => pj_x C al rt Q go i nx x y z w v sw L st Z I J bc bs
/-- from a place on to the end: the least that holds it -/
def pj_R (C : pj_CT) (al : Nat → Nat × Nat) (M : pj_M) (rt : Bool) (Q : pj_K) : pj_G := fun pc L st Z I J bc bs =>
  ∀ P : pj_G, (∀ pc L st Z I J bc bs, pj_1 C al M rt Q P pc L st Z I J bc bs → P pc L st Z I J bc bs) → P pc L st Z I J bc bs
/-- a method: name, bytes, locals, answer's type; its class, whether the answer is a boolean; its code -/
abbrev pj_T : Type := (MethodName × ByteArray × Nat × Option FieldType) × (Nat × Bool) × pj_M
/-- calls, to a depth -/
def pj_C (T : Nat → Option pj_T) (al : Nat → Nat × Nat) : Nat → pj_CT
  | 0 => fun _ _ _ _ => False
  | d + 1 => fun mi args σ K => match T mi with
    | none => False
    | some t => pj_c (Nat.ble (pj_en args).length t.1.2.2.1) (pj_R (pj_C T al d) al t.2.2 t.2.1.2 K 0 (pj_pad t.1.2.2.1 (pj_en args)) [] σ.1 σ.2.1 σ.2.2 (al mi).1 (al mi).2)
/-- steps up to the next place of cuts -/
def pj_v (C : pj_CT) (al : Nat → Nat × Nat) (M : pj_M) (rt : Bool) (Q : pj_K) (cut : Nat → Bool) : Nat → pj_G
  | 0 => fun _ _ _ _ _ _ _ _ => False
  | n + 1 => fun pc L st Z I J bc bs => match cut pc with
    | true => pj_R C al M rt Q pc L st Z I J bc bs
    | false => pj_1 C al M rt Q (pj_v C al M rt Q cut n) pc L st Z I J bc bs
