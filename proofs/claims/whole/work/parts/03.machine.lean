/-! THE MACHINE OVER A POOL: a pool is a typed heap of our own numbering (0 and 1: the two arrays that are only read; from 2 on what was made) -/
abbrev zz_P : Type := Nat × Nat × (Nat → Nat) × (Nat → Nat) × (Nat → Nat → Int32) × (Nat → Nat → Option Nat) × (Nat → Nat → Int64)
def zz_n (S : zz_P) : Nat := S.1
def zz_s (S : zz_P) : Nat := S.2.1
def zz_K (S : zz_P) (a : Nat) : Nat := S.2.2.1 a
def zz_L (S : zz_P) (a : Nat) : Nat := S.2.2.2.1 a
def zz_I (S : zz_P) (a i : Nat) : Int32 := S.2.2.2.2.1 a i
def zz_R (S : zz_P) (a i : Nat) : Option Nat := S.2.2.2.2.2.1 a i
def zz_J (S : zz_P) (a i : Nat) : Int64 := S.2.2.2.2.2.2 a i
def zz_u {α : Type} (f : Nat → Nat → α) (a i : Nat) (v : α) : Nat → Nat → α := fun b j => if b = a ∧ j = i then v else f b j
def zz_pI (S : zz_P) (a i : Nat) (v : Int32) : zz_P := (S.1, S.2.1, S.2.2.1, S.2.2.2.1, zz_u S.2.2.2.2.1 a i v, S.2.2.2.2.2.1, S.2.2.2.2.2.2)
def zz_pR (S : zz_P) (a i : Nat) (v : Option Nat) : zz_P := (S.1, S.2.1, S.2.2.1, S.2.2.2.1, S.2.2.2.2.1, zz_u S.2.2.2.2.2.1 a i v, S.2.2.2.2.2.2)
def zz_pJ (S : zz_P) (a i : Nat) (v : Int64) : zz_P := (S.1, S.2.1, S.2.2.1, S.2.2.2.1, S.2.2.2.2.1, S.2.2.2.2.2.1, zz_u S.2.2.2.2.2.2 a i v)
def zz_new (S : zz_P) (k n : Nat) : zz_P := (S.1 + 1, S.2.1 + n, va_up S.2.2.1 (S.1 + 2) k, va_up S.2.2.2.1 (S.1 + 2) n, va_up S.2.2.2.2.1 (S.1 + 2) (fun _ => 0), va_up S.2.2.2.2.2.1 (S.1 + 2) (fun _ => none), va_up S.2.2.2.2.2.2 (S.1 + 2) (fun _ => 0))
abbrev zz_Lv : Type := List (Option Value)
def zz_rv (r : Option Nat) : Value := match r with
  | none => .null
  | some a => .ref a
/-- which fields are references, by bits -/
def zz_rm (k : Nat) : Nat := match k with
  | 0 => 0
  | 1 => 7
  | 2 => 7
  | 3 => 1
  | 4 => 31
  | 5 => 0
  | 6 => 15
  | 7 => 3
  | 8 => 3
  | 9 => 15
  | 10 => 32757
  | _ => 501341062226221
def zz_ref (k i : Nat) : Bool := Nat.testBit (zz_rm k) i
theorem zz_ref_eq : ∀ k, k < 12 → ∀ i, i < zz_N k → zz_ref k i = (zz_y k i).isReference := by decide +kernel
/-- field i of an object of kind k at a -/
def zz_fv (S : zz_P) (a k i : Nat) : Value := if zz_ref k i = true then zz_rv (zz_R S a i) else .int (zz_I S a i)
def zz_ii (st : List Value) (f : Int32 → Int32 → List Value → Prop) : Prop := match st with
  | .int y :: .int x :: r => f x y r
  | _ => False
def zz_i1 (st : List Value) (f : Int32 → List Value → Prop) : Prop := match st with
  | .int x :: r => f x r
  | _ => False
def zz_ll (st : List Value) (f : Int64 → Int64 → List Value → Prop) : Prop := match st with
  | .long y :: .long x :: r => f x y r
  | _ => False
def zz_r1 (st : List Value) (f : Nat → List Value → Prop) : Prop := match st with
  | .ref a :: r => f a r
  | _ => False
def zz_ir (st : List Value) (f : Int32 → Nat → List Value → Prop) : Prop := match st with
  | .int i :: .ref a :: r => f i a r
  | _ => False
def zz_iir (st : List Value) (f : Int32 → Int32 → Nat → List Value → Prop) : Prop := match st with
  | .int x :: .int i :: .ref a :: r => f x i a r
  | _ => False
def zz_ldI (lv : zz_Lv) (n : Nat) (f : Int32 → Prop) : Prop := match lv.getD n none with
  | some (.int x) => f x
  | _ => False
def zz_ldL (lv : zz_Lv) (n : Nat) (f : Int64 → Prop) : Prop := match lv.getD n none with
  | some (.long x) => f x
  | _ => False
def zz_ldR (lv : zz_Lv) (n : Nat) (f : Nat → Prop) : Prop := match lv.getD n none with
  | some (.ref x) => f x
  | _ => False
/-- a long that ends in place n is gone once n is written -/
def zz_kill (lv : zz_Lv) (n : Nat) : zz_Lv := match n with
  | 0 => lv
  | n + 1 => match lv.getD n none with
    | some v => if v.category = 2 then lv.set n none else lv
    | none => lv
def zz_st (lv : zz_Lv) (n : Nat) (v : Value) : zz_Lv := (zz_kill lv n).set n (some v)
def zz_st2 (lv : zz_Lv) (n : Nat) (v : Value) : zz_Lv := ((zz_kill lv n).set n (some v)).set (n + 1) none
def zz_c (c : Jvm.ClassFile.Cond) (x y : Int32) : Prop := match c with
  | .eq => x = y
  | .ne => ¬ x = y
  | .lt => x < y
  | .ge => y ≤ x
  | .gt => y < x
  | .le => x ≤ y
def zz_t (pc : Nat) (off : Int) : Nat := ((pc : Int) + off).toNat
def zz_ml (j : Nat) : Nat := (zz_M j).2.2.1
def zz_ret (j : Nat) : FieldType := (zz_M j).2.2.2.1.getD .int
def zz_ent (n : Nat) (vs : List Value) : zz_Lv := (vs.flatMap fun v => if v.category = 2 then [some v, none] else [some v]) ++ List.replicate (n - (vs.flatMap fun v => if v.category = 2 then [some v, none] else [some v]).length) none
abbrev zz_Pr : Type := Nat → Nat → Nat → zz_Lv → List Value → zz_P → Option Value → zz_P → Prop
/-- a call of method a with b values off the stack -/
def zz_call (P : zz_Pr) (d a b : Nat) (st : List Value) (S : zz_P) (k : Option Value → List Value → zz_P → Prop) : Prop := match d with
  | 0 => False
  | d + 1 => b ≤ st.length ∧ ((st.take b).map Value.category).sum ≤ zz_ml a ∧ ((st.drop b).map Value.category).sum ≤ 8 ∧ ∃ v S1, P d a 0 (zz_ent (zz_ml a) (st.take b).reverse) [] S v S1 ∧ k v (st.drop b) S1
/-- an int that a field of this type holds as it is -/
def zz_fit (ty : FieldType) (x : Int32) : Prop := narrow ty (.int x) = .int x ∧ fits ty (.int x) = true
def zz_kd (t : Jvm.ClassFile.ArrayType) : Nat := match t with
  | .byte => 12
  | .char => 13
  | .int => 14
  | .long => 15
  | .boolean => 16
  | _ => 99
/-- one instruction; k is what follows it -/
def zz_x (P : zz_Pr) (d j : Nat) (o : Option Value) (S' : zz_P) (q : zz_i) (k : zz_Lv → List Value → zz_P → Prop) (lv : zz_Lv) (st : List Value) (S : zz_P) : Prop := match q.2.1 with
  | .iconst n => k lv (.int (Int32.ofInt n) :: st) S
  | .bipush n => k lv (.int (Int8.ofInt n).toInt32 :: st) S
  | .sipush n => k lv (.int (Int16.ofInt n).toInt32 :: st) S
  | .lconst n => k lv (.long (Int64.ofNat n) :: st) S
  | .ldc _ => k lv (.int (Int32.ofNat q.2.2.1) :: st) S
  | .ldc_w _ => k lv (.int (Int32.ofNat q.2.2.1) :: st) S
  | .ldc2_w _ => k lv (.long (Int64.ofNat q.2.2.1) :: st) S
  | .iload n => zz_ldI lv n fun x => k lv (.int x :: st) S
  | .iload_n n => zz_ldI lv n fun x => k lv (.int x :: st) S
  | .lload n => zz_ldL lv n fun x => k lv (.long x :: st) S
  | .lload_n n => zz_ldL lv n fun x => k lv (.long x :: st) S
  | .aload n => zz_ldR lv n fun x => k lv (.ref x :: st) S
  | .aload_n n => zz_ldR lv n fun x => k lv (.ref x :: st) S
  | .istore n => zz_i1 st fun x r => k (zz_st lv n (.int x)) r S
  | .istore_n n => zz_i1 st fun x r => k (zz_st lv n (.int x)) r S
  | .astore n => zz_r1 st fun x r => k (zz_st lv n (.ref x)) r S
  | .astore_n n => zz_r1 st fun x r => k (zz_st lv n (.ref x)) r S
  | .lstore n => match st with
    | .long x :: r => k (zz_st2 lv n (.long x)) r S
    | _ => False
  | .lstore_n n => match st with
    | .long x :: r => k (zz_st2 lv n (.long x)) r S
    | _ => False
  | .iinc n c => zz_ldI lv n fun x => k (zz_st lv n (.int (x + Int32.ofInt c))) st S
  | .iadd => zz_ii st fun x y r => k lv (.int (x + y) :: r) S
  | .isub => zz_ii st fun x y r => k lv (.int (x - y) :: r) S
  | .imul => zz_ii st fun x y r => k lv (.int (x * y) :: r) S
  | .iand => zz_ii st fun x y r => k lv (.int (x &&& y) :: r) S
  | .ior => zz_ii st fun x y r => k lv (.int (x ||| y) :: r) S
  | .ixor => zz_ii st fun x y r => k lv (.int (x ^^^ y) :: r) S
  | .ishl => zz_ii st fun x y r => k lv (.int (x <<< (y &&& 31)) :: r) S
  | .ishr => zz_ii st fun x y r => k lv (.int (x >>> (y &&& 31)) :: r) S
  | .iushr => zz_ii st fun x y r => k lv (.int (x.toUInt32 >>> (y.toUInt32 &&& Int32.toUInt32 31)).toInt32 :: r) S
  | .idiv => zz_ii st fun x y r => ¬ y = 0 ∧ k lv (.int (x / y) :: r) S
  | .irem => zz_ii st fun x y r => ¬ y = 0 ∧ k lv (.int (x - x / y * y) :: r) S
  | .ineg => zz_i1 st fun x r => k lv (.int (-x) :: r) S
  | .ladd => zz_ll st fun x y r => k lv (.long (x + y) :: r) S
  | .lmul => zz_ll st fun x y r => k lv (.long (x * y) :: r) S
  | .ldiv => zz_ll st fun x y r => ¬ y = 0 ∧ k lv (.long (x / y) :: r) S
  | .lrem => zz_ll st fun x y r => ¬ y = 0 ∧ k lv (.long (x - x / y * y) :: r) S
  | .lcmp => zz_ll st fun x y r => k lv (.int (lg_cmp x y) :: r) S
  | .i2l => zz_i1 st fun x r => k lv (.long x.toInt64 :: r) S
  | .i2b => zz_i1 st fun x r => k lv (.int x.toInt8.toInt32 :: r) S
  | .i2s => zz_i1 st fun x r => k lv (.int x.toInt16.toInt32 :: r) S
  | .i2c => zz_i1 st fun x r => k lv (.int (x.toUInt32 % 65536).toInt32 :: r) S
  | .dup => match st with
    | v :: r => v.category = 1 ∧ k lv (v :: v :: r) S
    | _ => False
  | .dup_x1 => match st with
    | v :: w :: r => v.category = 1 ∧ w.category = 1 ∧ k lv (v :: w :: v :: r) S
    | _ => False
  | .dup2 => match st with
    | v :: w :: r => v.category = 1 ∧ w.category = 1 ∧ k lv (v :: w :: v :: w :: r) S
    | _ => False
  | .pop => match st with
    | v :: r => v.category = 1 ∧ k lv r S
    | _ => False
  | .ifCond c off => zz_i1 st fun x r => (zz_c c x 0 → P d j (zz_t q.1 off) lv r S o S') ∧ (¬ zz_c c x 0 → k lv r S)
  | .if_icmp c off => zz_ii st fun x y r => (zz_c c x y → P d j (zz_t q.1 off) lv r S o S') ∧ (¬ zz_c c x y → k lv r S)
  | .goto off => P d j (zz_t q.1 off) lv st S o S'
  | .tableswitch dflt lo hi offs => zz_i1 st fun x r => (x.toInt < lo ∨ hi < x.toInt → P d j (zz_t q.1 dflt) lv r S o S') ∧ (¬ (x.toInt < lo ∨ hi < x.toInt) → ∃ off, offs[(x.toInt - lo).toNat]? = some off ∧ P d j (zz_t q.1 off) lv r S o S')
  | .lookupswitch dflt ps => zz_i1 st fun x r => P d j (zz_t q.1 (Op.lookupswitch.offset ps.toList dflt x.toInt)) lv r S o S'
  | .getfield _ => zz_r1 st fun a r => zz_K S a = q.2.2.1 ∧ k lv (zz_fv S a q.2.2.1 q.2.2.2.1 :: r) S
  | .putfield _ => match st with
    | .int x :: .ref a :: r => zz_K S a = q.2.2.1 ∧ zz_ref q.2.2.1 q.2.2.2.1 = false ∧ zz_fit (zz_y q.2.2.1 q.2.2.2.1) x ∧ k lv r (zz_pI S a q.2.2.2.1 x)
    | .ref x :: .ref a :: r => zz_K S a = q.2.2.1 ∧ zz_ref q.2.2.1 q.2.2.2.1 = true ∧ k lv r (zz_pR S a q.2.2.2.1 (some x))
    | _ => False
  | .getstatic _ => k lv (.ref 0 :: st) S
  | .arraylength => zz_r1 st fun a r => 12 ≤ zz_K S a ∧ zz_K S a < 19 ∧ k lv (.int (Int32.ofNat (zz_L S a)) :: r) S
  | .iaload => zz_ir st fun i a r => (zz_K S a = 14 ∨ zz_K S a = 18) ∧ vp_in i (zz_L S a) ∧ k lv (.int (zz_I S a i.toNatClampNeg) :: r) S
  | .baload => zz_ir st fun i a r => (zz_K S a = 12 ∨ zz_K S a = 16) ∧ vp_in i (zz_L S a) ∧ k lv (.int (zz_I S a i.toNatClampNeg) :: r) S
  | .caload => zz_ir st fun i a r => zz_K S a = 13 ∧ vp_in i (zz_L S a) ∧ k lv (.int (zz_I S a i.toNatClampNeg) :: r) S
  | .laload => zz_ir st fun i a r => zz_K S a = 15 ∧ vp_in i (zz_L S a) ∧ k lv (.long (zz_J S a i.toNatClampNeg) :: r) S
  | .aaload => zz_ir st fun i a r => zz_K S a = 17 ∧ vp_in i (zz_L S a) ∧ k lv (zz_rv (zz_R S a i.toNatClampNeg) :: r) S
  | .iastore => zz_iir st fun x i a r => zz_K S a = 14 ∧ vp_in i (zz_L S a) ∧ k lv r (zz_pI S a i.toNatClampNeg x)
  | .bastore => zz_iir st fun x i a r => (zz_K S a = 12 ∨ zz_K S a = 16) ∧ vp_in i (zz_L S a) ∧ k lv r (zz_pI S a i.toNatClampNeg (vp_nar (if zz_K S a = 12 then .byte else .boolean) x))
  | .castore => zz_iir st fun x i a r => zz_K S a = 13 ∧ vp_in i (zz_L S a) ∧ k lv r (zz_pI S a i.toNatClampNeg (vp_nar .char x))
  | .lastore => match st with
    | .long x :: .int i :: .ref a :: r => zz_K S a = 15 ∧ vp_in i (zz_L S a) ∧ k lv r (zz_pJ S a i.toNatClampNeg x)
    | _ => False
  | .aastore => match st with
    | .ref x :: .int i :: .ref a :: r => zz_K S a = 17 ∧ zz_K S x = 5 ∧ vp_in i (zz_L S a) ∧ k lv r (zz_pR S a i.toNatClampNeg (some x))
    | _ => False
  | .new _ => q.2.2.1 < 12 ∧ k lv (.ref (zz_n S + 2) :: st) (zz_new S q.2.2.1 (zz_N q.2.2.1))
  | .newarray t => zz_i1 st fun n r => ¬ n < 0 ∧ n.toNatClampNeg ≤ 8192 ∧ k lv (.ref (zz_n S + 2) :: r) (zz_new S (zz_kd t) n.toNatClampNeg)
  | .anewarray _ => zz_i1 st fun n r => ¬ n < 0 ∧ n.toNatClampNeg ≤ 8192 ∧ k lv (.ref (zz_n S + 2) :: r) (zz_new S 17 n.toNatClampNeg)
  | .invokevirtual _ => (match (st.take q.2.2.2.1).reverse with
    | .ref a :: _ => zz_K S a = q.2.2.2.2
    | _ => False) ∧ zz_call P d q.2.2.1 q.2.2.2.1 st S fun v r S1 => k lv (v.toList ++ r) S1
  | .invokestatic _ => zz_call P d q.2.2.1 q.2.2.2.1 st S fun v r S1 => k lv (v.toList ++ r) S1
  | .invokespecial _ => if q.2.2.1 = 999 then zz_r1 st fun _ r => (r.map Value.category).sum ≤ 8 ∧ 1 ≤ d ∧ k lv r S else ¬ q.2.2.1 = 998 ∧ (match (st.take q.2.2.2.1).reverse with
    | .ref _ :: _ => True
    | _ => False) ∧ zz_call P d q.2.2.1 q.2.2.2.1 st S fun v r S1 => k lv (v.toList ++ r) S1
  | .ireturn => match st with
    | [.int v] => o = some (.int v) ∧ S' = S ∧ narrow (zz_ret j) (.int v) = .int v
    | _ => False
  | .lreturn => match st with
    | [.long v] => o = some (.long v) ∧ S' = S
    | _ => False
  | .return_ => st = [] ∧ o = none ∧ S' = S
  | _ => False
/-- a block; e is where it ends -/
def zz_go (P : zz_Pr) (d j : Nat) (o : Option Value) (S' : zz_P) (e : Nat) (is : List zz_i) : zz_Lv → List Value → zz_P → Prop := is.foldr (fun q k => zz_x P d j o S' q k) (fun lv st S => P d j e lv st S o S')
def zz_blk (j pc : Nat) : Option (Nat × List zz_i) := (zz_M j).2.2.2.2.lookup pc
/-- closed under the blocks of the program, and under forgetting locals -/
def zz_cls (P : zz_Pr) : Prop :=
  (∀ d j pc lv st S o S' e is, zz_blk j pc = some (e, is) → zz_go P d j o S' e is lv st S → P d j pc lv st S o S') ∧
  (∀ d j pc lv lv' st S o S', (∀ (n : Nat) (v : Value), lv'[n]? = some (some v) → lv[n]? = some (some v)) → P d j pc lv' st S o S' → P d j pc lv st S o S')
/-- method j, from pc on with these locals, this stack and this pool, comes to its end with o and S' -/
def zz_run : zz_Pr := fun d j pc lv st S o S' => ∃ _ : Unit, ∀ P : zz_Pr, zz_cls P → P d j pc lv st S o S'

theorem zz_ii_mono {st : List Value} {f g : Int32 → Int32 → List Value → Prop} (h : ∀ x y r, f x y r → g x y r) (H : zz_ii st f) : zz_ii st g := by
  unfold zz_ii at H ⊢
  split at H
  · exact h _ _ _ H
  · exact H.elim
theorem zz_i1_mono {st : List Value} {f g : Int32 → List Value → Prop} (h : ∀ x r, f x r → g x r) (H : zz_i1 st f) : zz_i1 st g := by
  unfold zz_i1 at H ⊢
  split at H
  · exact h _ _ H
  · exact H.elim
theorem zz_ll_mono {st : List Value} {f g : Int64 → Int64 → List Value → Prop} (h : ∀ x y r, f x y r → g x y r) (H : zz_ll st f) : zz_ll st g := by
  unfold zz_ll at H ⊢
  split at H
  · exact h _ _ _ H
  · exact H.elim
theorem zz_r1_mono {st : List Value} {f g : Nat → List Value → Prop} (h : ∀ x r, f x r → g x r) (H : zz_r1 st f) : zz_r1 st g := by
  unfold zz_r1 at H ⊢
  split at H
  · exact h _ _ H
  · exact H.elim
theorem zz_ir_mono {st : List Value} {f g : Int32 → Nat → List Value → Prop} (h : ∀ x y r, f x y r → g x y r) (H : zz_ir st f) : zz_ir st g := by
  unfold zz_ir at H ⊢
  split at H
  · exact h _ _ _ H
  · exact H.elim
theorem zz_iir_mono {st : List Value} {f g : Int32 → Int32 → Nat → List Value → Prop} (h : ∀ x y z r, f x y z r → g x y z r) (H : zz_iir st f) : zz_iir st g := by
  unfold zz_iir at H ⊢
  split at H
  · exact h _ _ _ _ H
  · exact H.elim
theorem zz_ldI_mono {lv : zz_Lv} {n : Nat} {f g : Int32 → Prop} (h : ∀ x, f x → g x) (H : zz_ldI lv n f) : zz_ldI lv n g := by
  unfold zz_ldI at H ⊢
  split at H
  · exact h _ H
  · exact H.elim
theorem zz_ldL_mono {lv : zz_Lv} {n : Nat} {f g : Int64 → Prop} (h : ∀ x, f x → g x) (H : zz_ldL lv n f) : zz_ldL lv n g := by
  unfold zz_ldL at H ⊢
  split at H
  · exact h _ H
  · exact H.elim
theorem zz_ldR_mono {lv : zz_Lv} {n : Nat} {f g : Nat → Prop} (h : ∀ x, f x → g x) (H : zz_ldR lv n f) : zz_ldR lv n g := by
  unfold zz_ldR at H ⊢
  split at H
  · exact h _ H
  · exact H.elim
theorem zz_call_mono {P P' : zz_Pr} (hP : ∀ d j pc lv st S o S', P d j pc lv st S o S' → P' d j pc lv st S o S') {d a b : Nat} {st : List Value} {S : zz_P} {k k' : Option Value → List Value → zz_P → Prop} (hk : ∀ v r S1, k v r S1 → k' v r S1) (H : zz_call P d a b st S k) : zz_call P' d a b st S k' := by
  cases d with
  | zero => exact False.elim H
  | succ d =>
    obtain ⟨h1, h2, h3, v, S1, h4, h5⟩ := (H : _ ∧ _)
    exact ⟨h1, h2, h3, v, S1, hP _ _ _ _ _ _ _ _ h4, hk _ _ _ h5⟩
theorem zz_x_mono {P P' : zz_Pr} (hP : ∀ d j pc lv st S o S', P d j pc lv st S o S' → P' d j pc lv st S o S') {d j : Nat} {o : Option Value} {S' : zz_P} {q : zz_i} {k k' : zz_Lv → List Value → zz_P → Prop} (hk : ∀ lv st S, k lv st S → k' lv st S) (lv : zz_Lv) (st : List Value) (S : zz_P) (h : zz_x P d j o S' q k lv st S) : zz_x P' d j o S' q k' lv st S := by
  obtain ⟨pc, i, a, b, c⟩ := q
  cases i
  case ifCond => exact zz_i1_mono (fun x r h => ⟨fun c => hP _ _ _ _ _ _ _ _ (h.1 c), fun c => hk _ _ _ (h.2 c)⟩) h
  case if_icmp => exact zz_ii_mono (fun x y r h => ⟨fun c => hP _ _ _ _ _ _ _ _ (h.1 c), fun c => hk _ _ _ (h.2 c)⟩) h
  case goto => exact hP _ _ _ _ _ _ _ _ h
  case tableswitch => exact zz_i1_mono (fun x r h => ⟨fun c => hP _ _ _ _ _ _ _ _ (h.1 c), fun c => by obtain ⟨off, h1, h2⟩ := h.2 c; exact ⟨off, h1, hP _ _ _ _ _ _ _ _ h2⟩⟩) h
  case lookupswitch => exact zz_i1_mono (fun x r h => hP _ _ _ _ _ _ _ _ h) h
  case invokevirtual => exact ⟨h.1, zz_call_mono hP (fun v r S1 h => hk _ _ _ h) h.2⟩
  case invokestatic =>
    simp only [zz_x] at h ⊢
    exact zz_call_mono hP (fun v r S1 h => hk _ _ _ h) h
  case invokespecial =>
    simp only [zz_x] at h ⊢
    split at h
    · next hc =>
      rw [if_pos hc]
      exact zz_r1_mono (fun x r h => ⟨h.1, h.2.1, hk _ _ _ h.2.2⟩) h
    · next hc =>
      rw [if_neg hc]
      exact ⟨h.1, h.2.1, zz_call_mono hP (fun v r S1 h => hk _ _ _ h) h.2.2⟩
  case putfield =>
    simp only [zz_x] at h ⊢
    split at h
    · exact ⟨h.1, h.2.1, h.2.2.1, hk _ _ _ h.2.2.2⟩
    · exact ⟨h.1, h.2.1, hk _ _ _ h.2.2⟩
    · exact h.elim
  case ireturn => exact h
  case lreturn => exact h
  case return_ => exact h
  case lstore | lstore_n =>
    simp only [zz_x] at h ⊢
    split at h
    · exact hk _ _ _ h
    · exact h.elim
  case dup | pop =>
    simp only [zz_x] at h ⊢
    split at h
    · exact ⟨h.1, hk _ _ _ h.2⟩
    · exact h.elim
  case dup_x1 | dup2 | lastore =>
    simp only [zz_x] at h ⊢
    split at h
    · exact ⟨h.1, h.2.1, hk _ _ _ h.2.2⟩
    · exact h.elim
  case aastore =>
    simp only [zz_x] at h ⊢
    split at h
    · exact ⟨h.1, h.2.1, h.2.2.1, hk _ _ _ h.2.2.2⟩
    · exact h.elim
  case iaload | baload | caload | laload | aaload => exact zz_ir_mono (fun x y r h => ⟨h.1, h.2.1, hk _ _ _ h.2.2⟩) h
  case iastore | bastore | castore => exact zz_iir_mono (fun x y z r h => ⟨h.1, h.2.1, hk _ _ _ h.2.2⟩) h
  case arraylength => exact zz_r1_mono (fun x r h => ⟨h.1, h.2.1, hk _ _ _ h.2.2⟩) h
  case newarray | anewarray => exact zz_i1_mono (fun x r h => ⟨h.1, h.2.1, hk _ _ _ h.2.2⟩) h
  case getfield => exact zz_r1_mono (fun x r h => ⟨h.1, hk _ _ _ h.2⟩) h
  case idiv | irem => exact zz_ii_mono (fun x y r h => ⟨h.1, hk _ _ _ h.2⟩) h
  case ldiv | lrem => exact zz_ll_mono (fun x y r h => ⟨h.1, hk _ _ _ h.2⟩) h
  case iload | iload_n | iinc => exact zz_ldI_mono (fun x h => hk _ _ _ h) h
  case lload | lload_n => exact zz_ldL_mono (fun x h => hk _ _ _ h) h
  case aload | aload_n => exact zz_ldR_mono (fun x h => hk _ _ _ h) h
  case istore | istore_n | ineg | i2l | i2b | i2s | i2c => exact zz_i1_mono (fun x r h => hk _ _ _ h) h
  case astore | astore_n => exact zz_r1_mono (fun x r h => hk _ _ _ h) h
  case iadd | isub | imul | iand | ior | ixor | ishl | ishr | iushr => exact zz_ii_mono (fun x y r h => hk _ _ _ h) h
  case ladd | lmul | lcmp => exact zz_ll_mono (fun x y r h => hk _ _ _ h) h
  case iconst | bipush | sipush | lconst | ldc | ldc_w | ldc2_w | getstatic => exact hk _ _ _ h
  case new => exact ⟨h.1, hk _ _ _ h.2⟩
  all_goals exact False.elim h
theorem zz_go_mono {P P' : zz_Pr} (hP : ∀ d j pc lv st S o S', P d j pc lv st S o S' → P' d j pc lv st S o S') {d j : Nat} {o : Option Value} {S' : zz_P} {e : Nat} : ∀ (is : List zz_i) (lv : zz_Lv) (st : List Value) (S : zz_P), zz_go P d j o S' e is lv st S → zz_go P' d j o S' e is lv st S
  | [], lv, st, S, h => hP _ _ _ _ _ _ _ _ h
  | _ :: is, lv, st, S, h => zz_x_mono hP (fun lv st S h => zz_go_mono hP is lv st S h) lv st S h
theorem zz_run_cls : zz_cls zz_run :=
  ⟨fun d j pc lv st S o S' e is hb h => ⟨(), fun P hP => hP.1 d j pc lv st S o S' e is hb (zz_go_mono (fun d j pc lv st S o S' (h : zz_run d j pc lv st S o S') => h.elim (fun _ h => h P hP)) is lv st S h)⟩,
   fun d j pc lv lv' st S o S' hl h => ⟨(), fun P hP => hP.2 d j pc lv lv' st S o S' hl (Exists.elim h (fun _ h => h P hP))⟩⟩
/-- THE STEP: a block is run -/
theorem zz_step {d j pc : Nat} {lv : zz_Lv} {st : List Value} {S : zz_P} {o : Option Value} {S' : zz_P} {e : Nat} {is : List zz_i} (hb : zz_blk j pc = some (e, is)) (h : zz_go zz_run d j o S' e is lv st S) : zz_run d j pc lv st S o S' := zz_run_cls.1 d j pc lv st S o S' e is hb h
theorem zz_weak {d j pc : Nat} {lv lv' : zz_Lv} {st : List Value} {S : zz_P} {o : Option Value} {S' : zz_P} (hl : ∀ (n : Nat) (v : Value), lv'[n]? = some (some v) → lv[n]? = some (some v)) (h : zz_run d j pc lv' st S o S') : zz_run d j pc lv st S o S' := zz_run_cls.2 d j pc lv lv' st S o S' hl h
