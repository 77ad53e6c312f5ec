/-! THE SMALL MACHINE: cells by number; a cell's shape (kind, length); kinds 0 .. 12 objects of the classes of vwCl, 13 int rows, 14 long rows, 15 .. 18 rows of references. P, I, J: what the cells hold (references, ints, longs) by cell and place. A step of the code is a predicate transformer. -/
abbrev mj_S : Type := List (Nat × Nat)
abbrev mj_P : Type := Nat → Nat → Option Nat
abbrev mj_I : Type := Nat → Nat → Int32
abbrev mj_J : Type := Nat → Nat → Int64
abbrev mj_L : Type := List (Option Value)
abbrev mj_X : Type := Nat → mj_L → List Value → Nat × Nat → mj_S → mj_P → mj_I → mj_J → Prop
abbrev mj_Q : Type := Option Value → mj_S → mj_P → mj_I → mj_J → Prop
abbrev mj_C : Type := Nat → List Value → Nat × Nat → mj_S → mj_P → mj_I → mj_J → mj_Q → Prop
abbrev mj_T : Type := mj_C → mj_X → mj_Q → Nat × Nat → mj_L → List Value → Nat × Nat → mj_S → mj_P → mj_I → mj_J → Prop
def mj_kd (sh : mj_S) (a : Nat) : Nat := (sh.getD a (99, 0)).1
def mj_ln (sh : mj_S) (a : Nat) : Nat := (sh.getD a (99, 0)).2
/-- one place written -/
def mj_u {α : Type} (f : Nat → Nat → α) (a k : Nat) (v : α) : Nat → Nat → α := fun b j => if b = a then (if j = k then v else f a j) else f b j
/-- a whole cell written -/
def mj_w {α : Type} (f : Nat → Nat → α) (a : Nat) (r : Nat → α) : Nat → Nat → α := fun b => if b = a then r else f b
/-- no long stands just ahead of place i -/
def mj_nl (L : mj_L) (i : Nat) : Bool := match i with
  | 0 => true
  | i + 1 => match L.getD i none with
    | some (.long _) => false
    | some (.double _) => false
    | _ => true
def pi_int (v : Int32) (nx : Nat) : mj_T := fun _ X _ _ L st u sh P I J => X nx L (.int v :: st) u sh P I J
def pi_lng (v : Int64) (nx : Nat) : mj_T := fun _ X _ _ L st u sh P I J => X nx L (.long v :: st) u sh P I J
def pi_null (nx : Nat) : mj_T := fun _ X _ _ L st u sh P I J => X nx L (.null :: st) u sh P I J
def pi_ldcS (i : Nat) (nx : Nat) : mj_T := fun _ X _ _ L st u sh P I J => X nx L (.retAddr (2 * i) :: st) u sh P I J
/-- the formatter that a range check is handed -/
def pi_ldcF (nx : Nat) : mj_T := fun _ X _ _ L st u sh P I J => X nx L (.retAddr 99 :: st) u sh P I J
def pi_iload (i nx : Nat) : mj_T := fun _ X _ _ L st u sh P I J => match L.getD i none with
  | some (.int x) => X nx L (.int x :: st) u sh P I J
  | _ => False
def pi_lload (i nx : Nat) : mj_T := fun _ X _ _ L st u sh P I J => match L.getD i none with
  | some (.long x) => X nx L (.long x :: st) u sh P I J
  | _ => False
def pi_aload (i nx : Nat) : mj_T := fun _ X _ _ L st u sh P I J => match L.getD i none with
  | some (.ref x) => X nx L (.ref x :: st) u sh P I J
  | some (.retAddr x) => match x with
    | 99 => False
    | x => X nx L (.retAddr x :: st) u sh P I J
  | _ => False
def pi_istore (i nx : Nat) : mj_T := fun _ X _ _ L st u sh P I J => match st with
  | .int x :: st => match mj_nl L i with
    | true => X nx (L.set i (some (.int x))) st u sh P I J
    | false => False
  | _ => False
def pi_astore (i nx : Nat) : mj_T := fun _ X _ _ L st u sh P I J => match st with
  | .ref x :: st => match mj_nl L i with
    | true => X nx (L.set i (some (.ref x))) st u sh P I J
    | false => False
  | _ => False
def pi_lstore (i nx : Nat) : mj_T := fun _ X _ _ L st u sh P I J => match st with
  | .long x :: st => match mj_nl L i with
    | true => X nx ((L.set i (some (.long x))).set (i + 1) none) st u sh P I J
    | false => False
  | _ => False
def pi_iinc (i : Nat) (n : Int32) (nx : Nat) : mj_T := fun _ X _ _ L st u sh P I J => match L.getD i none with
  | some (.int x) => match mj_nl L i with
    | true => X nx (L.set i (some (.int (x + n)))) st u sh P I J
    | false => False
  | _ => False
def pi_iadd (nx : Nat) : mj_T := fun _ X _ _ L st u sh P I J => match st with
  | .int y :: .int x :: st => X nx L (.int (x + y) :: st) u sh P I J
  | _ => False
def pi_isub (nx : Nat) : mj_T := fun _ X _ _ L st u sh P I J => match st with
  | .int y :: .int x :: st => X nx L (.int (x - y) :: st) u sh P I J
  | _ => False
def pi_imul (nx : Nat) : mj_T := fun _ X _ _ L st u sh P I J => match st with
  | .int y :: .int x :: st => X nx L (.int (x * y) :: st) u sh P I J
  | _ => False
def pi_iand (nx : Nat) : mj_T := fun _ X _ _ L st u sh P I J => match st with
  | .int y :: .int x :: st => X nx L (.int (x &&& y) :: st) u sh P I J
  | _ => False
def pi_ior (nx : Nat) : mj_T := fun _ X _ _ L st u sh P I J => match st with
  | .int y :: .int x :: st => X nx L (.int (x ||| y) :: st) u sh P I J
  | _ => False
def pi_ixor (nx : Nat) : mj_T := fun _ X _ _ L st u sh P I J => match st with
  | .int y :: .int x :: st => X nx L (.int (x ^^^ y) :: st) u sh P I J
  | _ => False
def pi_ishl (nx : Nat) : mj_T := fun _ X _ _ L st u sh P I J => match st with
  | .int y :: .int x :: st => X nx L (.int (x <<< (y &&& 31)) :: st) u sh P I J
  | _ => False
def pi_ishr (nx : Nat) : mj_T := fun _ X _ _ L st u sh P I J => match st with
  | .int y :: .int x :: st => X nx L (.int (x >>> (y &&& 31)) :: st) u sh P I J
  | _ => False
def pi_iushr (nx : Nat) : mj_T := fun _ X _ _ L st u sh P I J => match st with
  | .int y :: .int x :: st => X nx L (.int (x.toUInt32 >>> (y.toUInt32 &&& Int32.toUInt32 31)).toInt32 :: st) u sh P I J
  | _ => False
def pi_idiv (nx : Nat) : mj_T := fun _ X _ _ L st u sh P I J => match st with
  | .int y :: .int x :: st => ¬ y = 0 ∧ X nx L (.int (x / y) :: st) u sh P I J
  | _ => False
def pi_irem (nx : Nat) : mj_T := fun _ X _ _ L st u sh P I J => match st with
  | .int y :: .int x :: st => ¬ y = 0 ∧ X nx L (.int (x - x / y * y) :: st) u sh P I J
  | _ => False
def pi_ladd (nx : Nat) : mj_T := fun _ X _ _ L st u sh P I J => match st with
  | .long y :: .long x :: st => X nx L (.long (x + y) :: st) u sh P I J
  | _ => False
def pi_lsub (nx : Nat) : mj_T := fun _ X _ _ L st u sh P I J => match st with
  | .long y :: .long x :: st => X nx L (.long (x - y) :: st) u sh P I J
  | _ => False
def pi_lmul (nx : Nat) : mj_T := fun _ X _ _ L st u sh P I J => match st with
  | .long y :: .long x :: st => X nx L (.long (x * y) :: st) u sh P I J
  | _ => False
def pi_lcmp (nx : Nat) : mj_T := fun _ X _ _ L st u sh P I J => match st with
  | .long y :: .long x :: st => X nx L (.int (lg_cmp x y) :: st) u sh P I J
  | _ => False
def pi_mmax (nx : Nat) : mj_T := fun _ X _ _ L st u sh P I J => match st with
  | .int y :: .int x :: st => match Nat.ble st.length 4 with
    | true => X nx L (.int (if x < y then y else x) :: st) u sh P I J
    | false => False
  | _ => False
def pi_mmin (nx : Nat) : mj_T := fun _ X _ _ L st u sh P I J => match st with
  | .int y :: .int x :: st => match Nat.ble st.length 4 with
    | true => X nx L (.int (if y < x then y else x) :: st) u sh P I J
    | false => False
  | _ => False
def pi_i2l (nx : Nat) : mj_T := fun _ X _ _ L st u sh P I J => match st with
  | .int x :: st => X nx L (.long x.toInt64 :: st) u sh P I J
  | _ => False
def pi_i2c (nx : Nat) : mj_T := fun _ X _ _ L st u sh P I J => match st with
  | .int x :: st => X nx L (.int (x.toUInt32 % 65536).toInt32 :: st) u sh P I J
  | _ => False
def pi_i2b (nx : Nat) : mj_T := fun _ X _ _ L st u sh P I J => match st with
  | .int x :: st => X nx L (.int x.toInt8.toInt32 :: st) u sh P I J
  | _ => False
def pi_dup (nx : Nat) : mj_T := fun _ X _ _ L st u sh P I J => match st with
  | .int x :: st => X nx L (.int x :: .int x :: st) u sh P I J
  | .ref x :: st => X nx L (.ref x :: .ref x :: st) u sh P I J
  | _ => False
def pi_dup2 (nx : Nat) : mj_T := fun _ X _ _ L st u sh P I J => match st with
  | .int x :: .ref a :: st => X nx L (.int x :: .ref a :: .int x :: .ref a :: st) u sh P I J
  | _ => False
def pi_pop (nx : Nat) : mj_T := fun _ X _ _ L st u sh P I J => match st with
  | .int _ :: st => X nx L st u sh P I J
  | .ref _ :: st => X nx L st u sh P I J
  | _ => False
def pi_ifeq (t nx : Nat) : mj_T := fun _ X _ _ L st u sh P I J => match st with
  | .int x :: st => (x = 0 → X t L st u sh P I J) ∧ (¬ x = 0 → X nx L st u sh P I J)
  | _ => False
def pi_ifne (t nx : Nat) : mj_T := fun _ X _ _ L st u sh P I J => match st with
  | .int x :: st => (¬ x = 0 → X t L st u sh P I J) ∧ (x = 0 → X nx L st u sh P I J)
  | _ => False
def pi_iflt (t nx : Nat) : mj_T := fun _ X _ _ L st u sh P I J => match st with
  | .int x :: st => (x < 0 → X t L st u sh P I J) ∧ (¬ x < 0 → X nx L st u sh P I J)
  | _ => False
def pi_ifge (t nx : Nat) : mj_T := fun _ X _ _ L st u sh P I J => match st with
  | .int x :: st => (0 ≤ x → X t L st u sh P I J) ∧ (¬ 0 ≤ x → X nx L st u sh P I J)
  | _ => False
def pi_ifgt (t nx : Nat) : mj_T := fun _ X _ _ L st u sh P I J => match st with
  | .int x :: st => (0 < x → X t L st u sh P I J) ∧ (¬ 0 < x → X nx L st u sh P I J)
  | _ => False
def pi_ifle (t nx : Nat) : mj_T := fun _ X _ _ L st u sh P I J => match st with
  | .int x :: st => (x ≤ 0 → X t L st u sh P I J) ∧ (¬ x ≤ 0 → X nx L st u sh P I J)
  | _ => False
def pi_ceq (t nx : Nat) : mj_T := fun _ X _ _ L st u sh P I J => match st with
  | .int y :: .int x :: st => (x = y → X t L st u sh P I J) ∧ (¬ x = y → X nx L st u sh P I J)
  | _ => False
def pi_cne (t nx : Nat) : mj_T := fun _ X _ _ L st u sh P I J => match st with
  | .int y :: .int x :: st => (¬ x = y → X t L st u sh P I J) ∧ (x = y → X nx L st u sh P I J)
  | _ => False
def pi_clt (t nx : Nat) : mj_T := fun _ X _ _ L st u sh P I J => match st with
  | .int y :: .int x :: st => (x < y → X t L st u sh P I J) ∧ (¬ x < y → X nx L st u sh P I J)
  | _ => False
def pi_cge (t nx : Nat) : mj_T := fun _ X _ _ L st u sh P I J => match st with
  | .int y :: .int x :: st => (y ≤ x → X t L st u sh P I J) ∧ (¬ y ≤ x → X nx L st u sh P I J)
  | _ => False
def pi_cgt (t nx : Nat) : mj_T := fun _ X _ _ L st u sh P I J => match st with
  | .int y :: .int x :: st => (y < x → X t L st u sh P I J) ∧ (¬ y < x → X nx L st u sh P I J)
  | _ => False
def pi_cle (t nx : Nat) : mj_T := fun _ X _ _ L st u sh P I J => match st with
  | .int y :: .int x :: st => (x ≤ y → X t L st u sh P I J) ∧ (¬ x ≤ y → X nx L st u sh P I J)
  | _ => False
def pi_goto (t : Nat) : mj_T := fun _ X _ _ L st u sh P I J => X t L st u sh P I J
def pi_ifnn (t nx : Nat) : mj_T := fun _ X _ _ L st u sh P I J => match st with
  | .ref _ :: st => X t L st u sh P I J
  | .null :: st => X nx L st u sh P I J
  | _ => False
def mj_sw (x : Int32) : List (Int32 × Nat) → Nat → (Nat → Prop) → Prop
  | [], d, K => K d
  | (v, t) :: r, d, K => (x = v → K t) ∧ (¬ x = v → mj_sw x r d K)
def pi_sw (ps : List (Int32 × Nat)) (d : Nat) : mj_T := fun _ X _ _ L st u sh P I J => match st with
  | .int x :: st => mj_sw x ps d (fun t => X t L st u sh P I J)
  | _ => False
def pi_getI (ci k nx : Nat) : mj_T := fun _ X _ _ L st u sh P I J => match st with
  | .ref a :: st => mj_kd sh a = ci ∧ X nx L (.int (I a k) :: st) u sh P I J
  | _ => False
def pi_getJ (ci k nx : Nat) : mj_T := fun _ X _ _ L st u sh P I J => match st with
  | .ref a :: st => mj_kd sh a = ci ∧ X nx L (.long (J a k) :: st) u sh P I J
  | _ => False
def pi_getR (ci k nx : Nat) : mj_T := fun _ X _ _ L st u sh P I J => match st with
  | .ref a :: st => mj_kd sh a = ci ∧ X nx L (va_rf (P a k) :: st) u sh P I J
  | _ => False
def pi_putI (ci k nx : Nat) : mj_T := fun _ X _ _ L st u sh P I J => match st with
  | .int v :: .ref a :: st => mj_kd sh a = ci ∧ X nx L st u sh P (mj_u I a k v) J
  | _ => False
def pi_putZ (ci k nx : Nat) : mj_T := fun _ X _ _ L st u sh P I J => match st with
  | .int v :: .ref a :: st => mj_kd sh a = ci ∧ (v = 0 ∨ v = 1) ∧ X nx L st u sh P (mj_u I a k v) J
  | _ => False
def pi_putJ (ci k nx : Nat) : mj_T := fun _ X _ _ L st u sh P I J => match st with
  | .long v :: .ref a :: st => mj_kd sh a = ci ∧ X nx L st u sh P I (mj_u J a k v)
  | _ => False
def pi_putR (ci k nx : Nat) : mj_T := fun _ X _ _ L st u sh P I J => match st with
  | .ref r :: .ref a :: st => mj_kd sh a = ci ∧ X nx L st u sh (mj_u P a k (some r)) I J
  | .null :: .ref a :: st => mj_kd sh a = ci ∧ X nx L st u sh (mj_u P a k none) I J
  | _ => False
def pi_iald (nx : Nat) : mj_T := fun _ X _ _ L st u sh P I J => match st with
  | .int i :: .ref a :: st => mj_kd sh a = 13 ∧ vp_in i (mj_ln sh a) ∧ X nx L (.int (I a i.toNatClampNeg) :: st) u sh P I J
  | _ => False
def pi_lald (nx : Nat) : mj_T := fun _ X _ _ L st u sh P I J => match st with
  | .int i :: .ref a :: st => mj_kd sh a = 14 ∧ vp_in i (mj_ln sh a) ∧ X nx L (.long (J a i.toNatClampNeg) :: st) u sh P I J
  | _ => False
def pi_aald (nx : Nat) : mj_T := fun _ X _ _ L st u sh P I J => match st with
  | .int i :: .ref a :: st => (15 ≤ mj_kd sh a ∧ mj_kd sh a < 19) ∧ vp_in i (mj_ln sh a) ∧ X nx L (va_rf (P a i.toNatClampNeg) :: st) u sh P I J
  | _ => False
def pi_iast (nx : Nat) : mj_T := fun _ X _ _ L st u sh P I J => match st with
  | .int x :: .int i :: .ref a :: st => mj_kd sh a = 13 ∧ vp_in i (mj_ln sh a) ∧ X nx L st u sh P (mj_u I a i.toNatClampNeg x) J
  | _ => False
def pi_last (nx : Nat) : mj_T := fun _ X _ _ L st u sh P I J => match st with
  | .long x :: .int i :: .ref a :: st => mj_kd sh a = 14 ∧ vp_in i (mj_ln sh a) ∧ X nx L st u sh P I (mj_u J a i.toNatClampNeg x)
  | _ => False
/-- the kind of what a row of references holds -/
def mj_of (k : Nat) : Nat := match k with
  | 15 => 2
  | 16 => 3
  | 17 => 7
  | _ => 99
def pi_aast (nx : Nat) : mj_T := fun _ X _ _ L st u sh P I J => match st with
  | .ref v :: .int i :: .ref a :: st => ((15 ≤ mj_kd sh a ∧ mj_kd sh a < 18) ∧ mj_kd sh v = mj_of (mj_kd sh a)) ∧ vp_in i (mj_ln sh a) ∧ X nx L st u sh (mj_u P a i.toNatClampNeg (some v)) I J
  | _ => False
def pi_alen (nx : Nat) : mj_T := fun _ X _ _ L st u sh P I J => match st with
  | .ref a :: st => (13 ≤ mj_kd sh a ∧ mj_kd sh a < 19) ∧ X nx L (.int (Int32.ofNat (mj_ln sh a)) :: st) u sh P I J
  | _ => False
/-- a new cell: all its places as they are at first -/
def pi_new (ci N nx : Nat) : mj_T := fun _ X _ lim L st u sh P I J => (u.1 + 1 ≤ lim.1 ∧ u.2 + N ≤ lim.2) ∧ X nx L (.ref sh.length :: st) (u.1 + 1, u.2 + N) (sh ++ [(ci, 0)]) (mj_w P sh.length (fun _ => none)) (mj_w I sh.length (fun _ => 0)) (mj_w J sh.length (fun _ => 0))
def pi_newI (nx : Nat) : mj_T := fun _ X _ lim L st u sh P I J => match st with
  | .int n :: st => (¬ n < 0 ∧ n.toNatClampNeg ≤ 67108864 ∧ u.1 + 1 ≤ lim.1 ∧ u.2 + n.toNatClampNeg ≤ lim.2) ∧ X nx L (.ref sh.length :: st) (u.1 + 1, u.2 + n.toNatClampNeg) (sh ++ [(13, n.toNatClampNeg)]) P (mj_w I sh.length (fun _ => 0)) J
  | _ => False
def pi_newJ (nx : Nat) : mj_T := fun _ X _ lim L st u sh P I J => match st with
  | .int n :: st => (¬ n < 0 ∧ n.toNatClampNeg ≤ 67108864 ∧ u.1 + 1 ≤ lim.1 ∧ u.2 + n.toNatClampNeg ≤ lim.2) ∧ X nx L (.ref sh.length :: st) (u.1 + 1, u.2 + n.toNatClampNeg) (sh ++ [(14, n.toNatClampNeg)]) P I (mj_w J sh.length (fun _ => 0))
  | _ => False
def pi_newR (kd nx : Nat) : mj_T := fun _ X _ lim L st u sh P I J => match st with
  | .int n :: st => (¬ n < 0 ∧ n.toNatClampNeg ≤ 67108864 ∧ u.1 + 1 ≤ lim.1 ∧ u.2 + n.toNatClampNeg ≤ lim.2) ∧ X nx L (.ref sh.length :: st) (u.1 + 1, u.2 + n.toNatClampNeg) (sh ++ [(kd, n.toNatClampNeg)]) (mj_w P sh.length (fun _ => none)) I J
  | _ => False
/-- cells from n on: rows of noughts -/
def mj_z (I : mj_I) (n : Nat) : mj_I := fun b j => if n ≤ b then 0 else I b j
/-- new int[n][k]: the outer row, then the inner ones -/
def pi_mna (nx : Nat) : mj_T := fun _ X _ lim L st u sh P I J => match st with
  | .int k :: .int n :: st => (¬ n < 0 ∧ ¬ k < 0 ∧ n.toNatClampNeg ≤ 67108864 ∧ k.toNatClampNeg ≤ 67108864 ∧ u.1 + (1 + n.toNatClampNeg) ≤ lim.1 ∧ u.2 + (n.toNatClampNeg + n.toNatClampNeg * k.toNatClampNeg) ≤ lim.2) ∧ X nx L (.ref sh.length :: st) (u.1 + (1 + n.toNatClampNeg), u.2 + (n.toNatClampNeg + n.toNatClampNeg * k.toNatClampNeg)) (sh ++ (18, n.toNatClampNeg) :: List.replicate n.toNatClampNeg (13, k.toNatClampNeg)) (mj_w P sh.length (fun j => if j < n.toNatClampNeg then some (sh.length + 1 + j) else none)) (mj_z I sh.length) J
  | _ => False
def mj_pop : Nat → List Value → List Value → Option (List Value × List Value)
  | 0, st, acc => some (acc, st)
  | n + 1, v :: st, acc => mj_pop n st (v :: acc)
  | _ + 1, [], _ => none
def mj_psh (v : Option Value) (st : List Value) : List Value := match v with
  | none => st
  | some v => v :: st
/-- a call without new cells; of a static method -/
def pi_callS (y n nx : Nat) : mj_T := fun cr X _ _ L st u sh P I J => match mj_pop n st [] with
  | some (as, st) => match Nat.ble st.length 4 with
    | true => cr y as (0, 0) sh P I J (fun v sh P I J => X nx L (mj_psh v st) u sh P I J)
    | false => False
  | none => False
/-- of an object's method -/
def pi_callV (y n ci nx : Nat) : mj_T := fun cr X _ _ L st u sh P I J => match mj_pop n st [] with
  | some (.ref r :: as, st) => match Nat.ble st.length 4 with
    | true => mj_kd sh r = ci ∧ cr y (.ref r :: as) (0, 0) sh P I J (fun v sh P I J => X nx L (mj_psh v st) u sh P I J)
    | false => False
  | _ => False
/-- the same, and it may make cells -/
def pi_callE (y n ci nx : Nat) : mj_T := fun cr X _ lim L st u sh P I J => match mj_pop n st [] with
  | some (.ref r :: as, st) => match Nat.ble st.length 4 with
    | true => mj_kd sh r = ci ∧ ∃ al : Nat × Nat, (u.1 + al.1 ≤ lim.1 ∧ u.2 + al.2 ≤ lim.2) ∧ cr y (.ref r :: as) al sh P I J (fun v sh P I J => X nx L (mj_psh v st) (u.1 + al.1, u.2 + al.2) sh P I J)
    | false => False
  | _ => False
/-- a constructor; al: the cells and places that it makes -/
def pi_callI (y n : Nat) (al : Nat × Nat) (nx : Nat) : mj_T := fun cr X _ lim L st u sh P I J => match mj_pop n st [] with
  | some (.ref r :: as, st) => match Nat.ble st.length 4 with
    | true => (u.1 + al.1 ≤ lim.1 ∧ u.2 + al.2 ≤ lim.2) ∧ cr y (.ref r :: as) al sh P I J (fun v sh P I J => X nx L (mj_psh v st) (u.1 + al.1, u.2 + al.2) sh P I J)
    | false => False
  | _ => False
/-- of a text's method -/
def mj_isS (j : Nat) : Bool := Nat.beq (j % 2) 0 && Nat.ble j 27
def pi_callT (y n nx : Nat) : mj_T := fun cr X _ _ L st u sh P I J => match mj_pop n st [] with
  | some (.retAddr r :: as, st) => match Nat.ble st.length 4 with
    | true => mj_isS r = true ∧ cr y (.retAddr r :: as) (0, 0) sh P I J (fun v sh P I J => X nx L (mj_psh v st) u sh P I J)
    | false => False
  | _ => False
def pi_oini (nx : Nat) : mj_T := fun _ X _ _ L st u sh P I J => match st with
  | .ref _ :: st => match Nat.ble st.length 4 with
    | true => X nx L st u sh P I J
    | false => False
  | _ => False
def pi_ret : mj_T := fun _ _ Q lim _ st u sh P I J => match st with
  | [] => u = lim ∧ Q none sh P I J
  | _ => False
def pi_iret : mj_T := fun _ _ Q lim _ st u sh P I J => match st with
  | [.int v] => u = lim ∧ Q (some (.int v)) sh P I J
  | _ => False
def pi_zret (ty : FieldType) : mj_T := fun _ _ Q lim _ st u sh P I J => match st with
  | [.int v] => u = lim ∧ narrow ty (.int v) = .int v ∧ Q (some (.int v)) sh P I J
  | _ => False
def pi_lret : mj_T := fun _ _ Q lim _ st u sh P I J => match st with
  | [.long v] => u = lim ∧ Q (some (.long v)) sh P I J
  | _ => False
def pi_aret : mj_T := fun _ _ Q lim _ st u sh P I J => match st with
  | [.ref v] => u = lim ∧ Q (some (.ref v)) sh P I J
  | _ => False
def pi_copy (nx : Nat) : mj_T := fun _ X _ _ L st u sh P I J => match st with
  | .int n :: .int dp :: .ref b :: .int sp :: .ref a :: st => match Nat.ble st.length 4 with
    | true => (mj_kd sh a = 13 ∧ mj_kd sh b = 13) ∧ (¬ sp < 0 ∧ ¬ dp < 0 ∧ ¬ n < 0) ∧ (sp.toNatClampNeg + n.toNatClampNeg ≤ mj_ln sh a ∧ dp.toNatClampNeg + n.toNatClampNeg ≤ mj_ln sh b) ∧ X nx L st u sh P (mj_w I b (va_cpy (I a) (I b) sp.toNatClampNeg dp.toNatClampNeg n.toNatClampNeg)) J
    | false => False
  | _ => False
/-- the texts: text i is .retAddr (2 * i), its bytes .retAddr (2 * i + 1) -/
def pi_sval (nx : Nat) : mj_T := fun _ X _ _ L st u sh P I J => match st with
  | .retAddr j :: st => mj_isS j = true ∧ X nx L (.retAddr (j + 1) :: st) u sh P I J
  | _ => False
def pi_scod (nx : Nat) : mj_T := fun _ X _ _ L st u sh P I J => match st with
  | .retAddr j :: st => mj_isS j = true ∧ X nx L (.int 0 :: st) u sh P I J
  | _ => False
def pi_blen (bt : List (List Int32)) (nx : Nat) : mj_T := fun _ X _ _ L st u sh P I J => match st with
  | .retAddr (j + 1) :: st => mj_isS j = true ∧ X nx L (.int (Int32.ofNat (bt.getD (j / 2) []).length) :: st) u sh P I J
  | _ => False
def pi_bald (bt : List (List Int32)) (nx : Nat) : mj_T := fun _ X _ _ L st u sh P I J => match st with
  | .int i :: .retAddr (j + 1) :: st => mj_isS j = true ∧ vp_in i (bt.getD (j / 2) []).length ∧ X nx L (.int ((bt.getD (j / 2) []).getD i.toNatClampNeg 0) :: st) u sh P I J
  | _ => False
/-- the law's script: .retAddr 100 -/
def pi_sld (n : Nat) (xs : Nat → Int32) (nx : Nat) : mj_T := fun _ X _ _ L st u sh P I J => match st with
  | .int i :: .retAddr 100 :: st => vp_in i n ∧ X nx L (.int (xs i.toNatClampNeg) :: st) u sh P I J
  | _ => False
def pi_slen (n : Nat) (nx : Nat) : mj_T := fun _ X _ _ L st u sh P I J => match st with
  | .retAddr 100 :: st => X nx L (.int (Int32.ofNat n) :: st) u sh P I J
  | _ => False
/-- no step from here -/
def pi_no : mj_T := fun _ _ _ _ _ _ _ _ _ _ _ => False
def mj_lk (pc : Nat) : List (Nat × mj_T) → mj_T
  | [] => pi_no
  | (q, t) :: r => match Nat.beq q pc with
    | true => t
    | false => mj_lk pc r
/-- comes to an end with Q: the least that the steps close -/
def mj_Rn (T : List (Nat × mj_T)) (cr : mj_C) (Q : mj_Q) (lim : Nat × Nat) (pc : Nat) (L : mj_L) (st : List Value) (u : Nat × Nat) (sh : mj_S) (P : mj_P) (I : mj_I) (J : mj_J) : Prop :=
  ∀ X : mj_X, (∀ pc L st u sh P I J, mj_lk pc T cr X Q lim L st u sh P I J → X pc L st u sh P I J) → X pc L st u sh P I J
def mj_sl : List Value → mj_L
  | [] => []
  | .long x :: r => some (.long x) :: none :: mj_sl r
  | .double x :: r => some (.double x) :: none :: mj_sl r
  | v :: r => some v :: mj_sl r
def mj_ent (n : Nat) (as : List Value) : mj_L := mj_sl as ++ List.replicate (n - (mj_sl as).length) none
/-- a method's run, d calls deep at most -/
def mj_ret (pr : Nat → Nat × List (Nat × mj_T)) : Nat → mj_C
  | 0 => fun _ _ _ _ _ _ _ _ => False
  | d + 1 => fun y as lim sh P I J Q => Nat.ble (mj_sl as).length (pr y).1 = true ∧ mj_Rn (pr y).2 (mj_ret pr d) Q lim 0 (mj_ent (pr y).1 as) [] (0, 0) sh P I J
theorem mj_in {pr : Nat → Nat × List (Nat × mj_T)} {d y : Nat} {as : List Value} {lim : Nat × Nat} {sh : mj_S} {P : mj_P} {I : mj_I} {J : mj_J} {Q : mj_Q} (n : Nat) (T : List (Nat × mj_T)) (hT : pr y = (n, T)) (hs : Nat.ble (mj_sl as).length n = true)
    (h : ∀ X : mj_X, (∀ pc L st u sh P I J, mj_lk pc T (mj_ret pr d) X Q lim L st u sh P I J → X pc L st u sh P I J) → X 0 (mj_ent n as) [] (0, 0) sh P I J) : mj_ret pr (d + 1) y as lim sh P I J Q := by
  show Nat.ble (mj_sl as).length (pr y).1 = true ∧ mj_Rn (pr y).2 (mj_ret pr d) Q lim 0 (mj_ent (pr y).1 as) [] (0, 0) sh P I J
  rw [hT]
  exact ⟨hs, h⟩
theorem mj_u_eq {α : Type} (f : Nat → Nat → α) (a k : Nat) (v : α) : mj_u f a k v a k = v := by simp [mj_u]
theorem mj_u_ne1 {α : Type} (f : Nat → Nat → α) {a b : Nat} (k : Nat) (v : α) (j : Nat) (h : ¬ b = a) : mj_u f a k v b j = f b j := by simp [mj_u, h]
theorem mj_u_ne2 {α : Type} (f : Nat → Nat → α) (a b : Nat) {k j : Nat} (v : α) (h : ¬ j = k) : mj_u f a k v b j = f b j := by
  by_cases hb : b = a
  · subst hb; simp [mj_u, h]
  · simp [mj_u, hb]
theorem mj_w_eq {α : Type} (f : Nat → Nat → α) (a : Nat) (r : Nat → α) : mj_w f a r a = r := by simp [mj_w]
theorem mj_w_ne {α : Type} (f : Nat → Nat → α) {a b : Nat} (r : Nat → α) (h : ¬ b = a) : mj_w f a r b = f b := by simp [mj_w, h]
