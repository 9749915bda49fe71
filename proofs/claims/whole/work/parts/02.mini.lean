/-! THE MINI MACHINE: numbers are mathematical, cells have numbers (0: null, below 16: cells that nobody writes, from 16 on: cells that were made, in their order) -/
abbrev mV : Type := Int ⊕ (Int ⊕ Nat)
abbrev mLs : Type := List (Option mV)
/-- how many cells were made; the kind and length of each; what fields hold references; numbers -/
abbrev mM : Type := Nat × (Nat → Nat × Nat) × (Nat → Nat → Nat) × (Nat → Int → Int)
/-- where the made cells begin; classes and slots; classes of arrays by kind; addresses of the cells below 16 -/
abbrev mE : Type := Nat × va_G × (Nat → ClassId) × (Nat → Nat)
/-- instruction, length, operands a b p t, number z, targets -/
abbrev mI : Type := Instr × Nat × Nat × Nat × Nat × Nat × Int × List Nat
abbrev inI (x : Int) : Prop := -2147483648 ≤ x ∧ x ≤ 2147483647
abbrev inL (x : Int) : Prop := -9223372036854775808 ≤ x ∧ x ≤ 9223372036854775807
def mad (E : mE) (r : Nat) : Nat := if r < 16 then E.2.2.2 r else E.1 + (r - 16)
def mcv (E : mE) : mV → Value
  | .inl x => .int (Int32.ofInt x)
  | .inr (.inl x) => .long (Int64.ofInt x)
  | .inr (.inr r) => .ref (mad E r)
def mOk : mV → Prop
  | .inl x => inI x
  | .inr (.inl x) => inL x
  | .inr (.inr r) => r ≠ 0
def mTy (kd : Nat) : Nat → FieldType := match kd with
  | 0 => tyX0
  | 1 => tyX1
  | 2 => tyX2
  | 3 => tyX3
  | 4 => tyX4
  | 5 => tyX5
  | 6 => tyX6
  | 7 => tyX7
  | 8 => tyX8
  | 9 => tyX9
  | 10 => tyX10
  | _ => tyX11
def mFv (E : mE) (ty : FieldType) (r : Nat) (d : Int) : Value := match ty with
  | .long => .long (Int64.ofInt d)
  | .int => .int (Int32.ofInt d)
  | .boolean => .int (Int32.ofInt d)
  | _ => if r = 0 then .null else .ref (mad E r)
def mAv (kd : Nat) (d : Int) : Value := if kd = 101 then .long (Int64.ofInt d) else .int (Int32.ofInt d)
def mLg (sh : Nat × Nat) (j : Int) : Prop := sh.1 = 101 ∨ (sh.1 < 50 ∧ mTy sh.1 j.toNat = .long)
def mRg (μ : mM) : Prop := ∀ (a : Nat) (j : Int), (mLg (μ.2.1 a) j → inL (μ.2.2.2 a j)) ∧ (¬ mLg (μ.2.1 a) j → inI (μ.2.2.2 a j))
def mRd (U : State) (H : Heap) (a n : Nat) (f : Nat → Int32) : Prop := ∃ cell : Cell, H[a]? = some cell ∧ U.isArrayOf cell .int ∧ cell.vm ≠ .unknown ∧ n ≤ cell.slots.size ∧ cell.slots.size.toInt32 = Int32.ofNat n ∧ ∀ j : Nat, j < n → cell.slots[j]? = some (.int (f j))
def mCell (E : mE) (μ : mM) (r : Nat) (H : Heap) : Prop :=
  ((μ.2.1 r).1 < 50 ∧ ∃ q : vw_C, vwCl[(μ.2.1 r).1]? = some q ∧ t_OB (mad E r) (E.2.1.1 (μ.2.1 r).1) q.2.2 (E.2.1.2 (μ.2.1 r).1) H (fun k => mFv E (mTy (μ.2.1 r).1 k) (μ.2.2.1 r k) (μ.2.2.2 r (k : Int))))
  ∨ (100 ≤ (μ.2.1 r).1 ∧ (μ.2.1 r).1 < 104 ∧ (μ.2.1 r).2 < 2147483648 ∧ H[mad E r]? = some (arrV (E.2.2.1 (μ.2.1 r).1) (μ.2.1 r).2 (fun j => mAv (μ.2.1 r).1 (μ.2.2.2 r (j : Int)))))
def mTys (E : mE) : List (ClassId × FieldType) := [(E.2.2.1 100, .int), (E.2.2.1 101, .long), (E.2.2.1 102, .byte), (E.2.2.1 103, .boolean)]
abbrev mA (E : mE) : Nat → Prop := fun q => E.1 ≤ q
/-- the nest words, and the four texts -/
def mNw : List Cond := [
  .methodLinkNest "WordMint" 11 ⟨"WordMint$Tape", "<init>", "()V"⟩ "WordMint",
  .methodLinkNest "WordMint" 18 ⟨"WordMint$Parser", "<init>", "()V"⟩ "WordMint",
  .methodLinkNest "WordMint$Parser" 11 ⟨"WordMint$Scanner", "<init>", "()V"⟩ "WordMint",
  .methodLinkNest "WordMint" 34 ⟨"WordMint$Told", "<init>", "()V"⟩ "WordMint",
  .methodLinkNest "WordMint" 44 ⟨"WordMint$Chooser", "<init>", "()V"⟩ "WordMint",
  .methodLinkNest "WordMint" 51 ⟨"WordMint$Layout", "<init>", "()V"⟩ "WordMint",
  .methodLinkNest "WordMint$Layout" 43 ⟨"WordMint$RowChooser", "<init>", "()V"⟩ "WordMint",
  .methodLinkNest "WordMint" 58 ⟨"WordMint$Decoder", "<init>", "()V"⟩ "WordMint",
  .methodLinkNest "WordMint" 65 ⟨"WordMint$Reading", "<init>", "()V"⟩ "WordMint",
  .fieldLinkNest "WordMint$Parser" 93 "WordMint" "NEXT_STATE" "[I" "WordMint"]
def mTx : List (Nat × String × List Int32) := [(74, "field", [102, 105, 101, 108, 100]), (80, "order", [111, 114, 100, 101, 114]), (82, "alias", [97, 108, 105, 97, 115]), (84, "room", [114, 111, 111, 109])]
/-- cells that nobody writes: texts, statics; and the nest words -/
def mO (E : mE) (U : State) (H : Heap) : Prop :=
  vk_S 4 [5, 5, 5, 4] (mTx.map (fun q => q.2.2)) (fun i => E.2.2.2 (2 + i)) (fun i => E.2.2.2 (6 + i)) (mA E) U H ∧
  (∀ i : Nat, i < 4 → ∀ q, mTx[i]? = some q → vk_R "WordMint$Scanner" q.1 q.2.1 (E.2.2.2 (2 + i)) U) ∧
  va_Z "WordMint" "NEXT_STATE" "[I" (.ref (E.2.2.2 10)) (mA E) U H ∧
  va_Z "java/lang/String" "COMPACT_STRINGS" "Z" (.int 1) (mA E) U H ∧
  va_Zq "jdk/internal/util/Preconditions" "SIOOBE_FORMATTER" "Ljava/util/function/BiFunction;" (mA E) U H ∧
  ∀ w ∈ mNw, va_Nw w U
def mX (E : mE) (μ : mM) (U : State) (H : Heap) : Prop :=
  (∀ r : Nat, r < 16 → (μ.2.1 r).1 = 100 → mRd U H (E.2.2.2 r) (μ.2.1 r).2 (fun j => Int32.ofInt (μ.2.2.2 r (j : Int))) ∧ E.2.2.2 r < E.1 ∧ (μ.2.1 r).2 < 2147483648) ∧
  (∀ r : Nat, r < 16 → (μ.2.1 r).1 = 100 ∨ (μ.2.1 r).1 = 99 ∨ ((μ.2.1 r).1 = 50 ∧ 2 ≤ r ∧ r < 6))
def mHold (E : mE) (μ : mM) (U : State) (H : Heap) : Prop :=
  H.size = E.1 + μ.1 ∧ (∀ r : Nat, 16 ≤ r → r < 16 + μ.1 → mCell E μ r H) ∧ (∀ r : Nat, 16 + μ.1 ≤ r → μ.2.1 r = (99, 0)) ∧ va_K E.2.1 vwCl (mTys E) U ∧ mX E μ U H ∧ mO E U H ∧ mRg μ
def mPr (E : mE) : Nat → mLs → List (Nat × Value)
  | _, [] => []
  | i, none :: L => mPr E (i + 1) L
  | i, some v :: L => (i, mcv E v) :: mPr E (i + 1) L
/-- where a method stands -/
def mCx (mi : Nat) (E : mE) (p : Program) (R : Room) (s : State) (m : MethodId) (args : Array Value) (meth : Method) (c : Code) : Prop :=
  p.tables.exec = Jvm.exec ∧ c.code = mB mi ∧ c.maxLocals = mN mi ∧ s.vm.findClass (mY mi).cls = some m.cls ∧ (∀ w ∈ lw_tbl, goodWord w = true → w.before args s = true) ∧ meth.name = (mY mi).name ∧ mFr mi ≤ R.frames ∧ mLo mi ≤ R.locals ∧ mCe mi ≤ R.cells ∧ mSl mi ≤ R.slots ∧ E.1 ≤ s.heap.size
def mRetOk (mi : Nat) (v : Option mV) (pc : Nat) : Prop := match v with
  | none => decode (mB mi) pc = .ok (.return_, 1) ∧ mR mi = none
  | some (.inl x) => decode (mB mi) pc = .ok (.ireturn, 1) ∧ inI x ∧ (mR mi = some .int ∨ (mR mi = some .boolean ∧ (x = 0 ∨ x = 1)) ∨ (mR mi = some .byte ∧ x = 0) ∨ (mR mi = some .char ∧ 0 ≤ x ∧ x < 256))
  | some (.inr (.inl x)) => decode (mB mi) pc = .ok (.lreturn, 1) ∧ inL x ∧ mR mi = some .long
  | some (.inr (.inr _)) => False
/-- from this point of method mi the machine comes to its end with an answer and cells of which Q holds -/
def Jd (mi : Nat) (Q : Option mV → mM → Prop) (bd : Nat × Nat) (pc : Nat) (L : mLs) (st : List mV) (μ : mM) : Prop :=
  ∀ (E : mE) (p : Program) (l : Launch) (e : Env) (R : Room) (s : State) (m : MethodId) (args : Array Value) (below : List Frame) (meth : Method) (c : Code) (Z : State → Prop),
    mCx mi E p R s m args meth c →
    (∀ (v : Option mV) (μ' : mM) (pc' : Nat) (ls : Array Slot) (H : Heap) (locs : List Loc) (cells slots : Nat), Q v μ' → mRetOk mi v pc' → mHold E μ' s H → va_S (mA E) s.heap H locs → cells ≤ R.cells → slots ≤ R.slots → W p l e R s m args below meth c H locs cells slots Z (F0 m pc' ls (v.toList.map (mcv E)))) →
    ∀ (ls : Array Slot) (H : Heap) (locs : List Loc), lv_has ls (mN mi) (mPr E 0 L) → (∀ v : mV, some v ∈ L → mOk v) → (∀ v ∈ st, mOk v) → mHold E μ s H → va_S (mA E) s.heap H locs → bd.1 ≤ R.cells → bd.2 ≤ R.slots →
    W p l e R s m args below meth c H locs bd.1 bd.2 Z (F0 m pc ls (st.map (mcv E)))
/-- the locals with which a method begins -/
def mEnt : Nat → List mV → mLs
  | n, [] => List.replicate n none
  | n, .inr (.inl x) :: vs => some (.inr (.inl x)) :: none :: mEnt (n - 2) vs
  | n, .inl x :: vs => some (.inl x) :: mEnt (n - 1) vs
  | n, .inr (.inr x) :: vs => some (.inr (.inr x)) :: mEnt (n - 1) vs
def Cl (mi : Nat) (args : List mV) (μ : mM) (Q : Option mV → mM → Prop) : Prop := Jd mi Q (0, 0) 0 (mEnt (mN mi) args) [] μ
/-! one instruction -/
def mii (st : List mV) (f : Int → Int → List mV → Prop) : Prop := match st with
  | .inl y :: .inl x :: st => f x y st
  | _ => False
def mll (st : List mV) (f : Int → Int → List mV → Prop) : Prop := match st with
  | .inr (.inl y) :: .inr (.inl x) :: st => f x y st
  | _ => False
def mli (st : List mV) (f : Int → Int → List mV → Prop) : Prop := match st with
  | .inl y :: .inr (.inl x) :: st => f x y st
  | _ => False
def mi1 (st : List mV) (f : Int → List mV → Prop) : Prop := match st with
  | .inl x :: st => f x st
  | _ => False
def ml1 (st : List mV) (f : Int → List mV → Prop) : Prop := match st with
  | .inr (.inl x) :: st => f x st
  | _ => False
def mr1 (st : List mV) (f : Nat → List mV → Prop) : Prop := match st with
  | .inr (.inr x) :: st => f x st
  | _ => False
def mir (st : List mV) (f : Int → Nat → List mV → Prop) : Prop := match st with
  | .inl x :: .inr (.inr r) :: st => f x r st
  | _ => False
def mlr (st : List mV) (f : Int → Nat → List mV → Prop) : Prop := match st with
  | .inr (.inl x) :: .inr (.inr r) :: st => f x r st
  | _ => False
def mrr (st : List mV) (f : Nat → Nat → List mV → Prop) : Prop := match st with
  | .inr (.inr x) :: .inr (.inr r) :: st => f x r st
  | _ => False
def miir (st : List mV) (f : Int → Int → Nat → List mV → Prop) : Prop := match st with
  | .inl x :: .inl i :: .inr (.inr r) :: st => f x i r st
  | _ => False
def mlir (st : List mV) (f : Int → Int → Nat → List mV → Prop) : Prop := match st with
  | .inr (.inl x) :: .inl i :: .inr (.inr r) :: st => f x i r st
  | _ => False
def mget : mLs → Nat → Option mV
  | [], _ => none
  | x :: _, 0 => x
  | _ :: L, n + 1 => mget L n
def mgi (L : mLs) (a : Nat) (f : Int → Prop) : Prop := match mget L a with
  | some (.inl x) => f x
  | _ => False
def mgl (L : mLs) (a : Nat) (f : Int → Prop) : Prop := match mget L a with
  | some (.inr (.inl x)) => f x
  | _ => False
def mgr (L : mLs) (a : Nat) (f : Nat → Prop) : Prop := match mget L a with
  | some (.inr (.inr x)) => f x
  | _ => False
def mkill : Option mV → Option mV
  | some (.inr (.inl _)) => none
  | x => x
def mset : mLs → Nat → mV → mLs
  | [], _, _ => []
  | _ :: L, 0, v => some v :: L
  | x :: L, 1, v => mkill x :: mset L 0 v
  | x :: L, n + 2, v => x :: mset L (n + 1) v
def mset2 : mLs → Nat → mV → mLs
  | [], _, _ => []
  | _ :: L, 0, v => some v :: L.set 0 none
  | x :: L, 1, v => mkill x :: mset2 L 0 v
  | x :: L, n + 2, v => x :: mset2 L (n + 1) v
def mput (μ : mM) (r : Nat) (j : Int) (x : Int) : mM := (μ.1, μ.2.1, μ.2.2.1, fun a i => if a = r ∧ i = j then x else μ.2.2.2 a i)
def mputr (μ : mM) (r k : Nat) (x : Nat) : mM := (μ.1, μ.2.1, fun a i => if a = r ∧ i = k then x else μ.2.2.1 a i, μ.2.2.2)
def mnew (μ : mM) (sh : Nat × Nat) : mM := (μ.1 + 1, fun r => if r = 16 + μ.1 then sh else μ.2.1 r, fun r k => if r = 16 + μ.1 then 0 else μ.2.2.1 r k, fun r j => if r = 16 + μ.1 then 0 else μ.2.2.2 r j)
def mcat : List mV → Nat
  | [] => 0
  | .inr (.inl _) :: st => 2 + mcat st
  | .inl _ :: st => 1 + mcat st
  | .inr (.inr _) :: st => 1 + mcat st
def mpop : Nat → List mV → List mV → (List mV → List mV → Prop) → Prop
  | 0, st, acc, f => f acc st
  | n + 1, v :: st, acc, f => mpop n st (v :: acc) f
  | _ + 1, [], _, _ => False
def mpsh (r : Option mV) (st : List mV) : List mV := match r with
  | none => st
  | some v => v :: st
def mrcv (args : List mV) (f : Nat → Prop) : Prop := match args with
  | .inr (.inr r) :: _ => f r
  | _ => False
def mcnd (c : Jvm.ClassFile.Cond) (x y : Int) : Prop := match c with
  | .eq => x = y
  | .ne => x ≠ y
  | .lt => x < y
  | .ge => x ≥ y
  | .gt => x > y
  | .le => x ≤ y
def iAnd (x y : Int) : Int := (Int32.ofInt x &&& Int32.ofInt y).toInt
def iOr (x y : Int) : Int := (Int32.ofInt x ||| Int32.ofInt y).toInt
def iXor (x y : Int) : Int := (Int32.ofInt x ^^^ Int32.ofInt y).toInt
def iShl (x y : Int) : Int := (Int32.ofInt x <<< (Int32.ofInt y &&& 31)).toInt
def iShr (x y : Int) : Int := (Int32.ofInt x >>> (Int32.ofInt y &&& 31)).toInt
def iUsh (x y : Int) : Int := ((Int32.ofInt x).toUInt32 >>> ((Int32.ofInt y).toUInt32 &&& Int32.toUInt32 31)).toInt32.toInt
def iDiv (x y : Int) : Int := (Int32.ofInt x / Int32.ofInt y).toInt
def iRem (x y : Int) : Int := (Int32.ofInt x - Int32.ofInt x / Int32.ofInt y * Int32.ofInt y).toInt
def lAnd (x y : Int) : Int := (Int64.ofInt x &&& Int64.ofInt y).toInt
def lOr (x y : Int) : Int := (Int64.ofInt x ||| Int64.ofInt y).toInt
def lShl (x y : Int) : Int := (Int64.ofInt x <<< ((Int32.ofInt y).toInt64 &&& 63)).toInt
def lShr (x y : Int) : Int := (Int64.ofInt x >>> ((Int32.ofInt y).toInt64 &&& 63)).toInt
def lDiv (x y : Int) : Int := (Int64.ofInt x / Int64.ofInt y).toInt
def lCmp (x y : Int) : Int := if x > y then 1 else if x = y then 0 else -1
def l2I (x : Int) : Int := (Int64.ofInt x).toInt32.toInt
def i2B (x : Int) : Int := (Int32.ofInt x).toInt8.toInt
def mtsw (J : Nat → Prop) (d : Nat) (x : Int) : Int → List Nat → Prop
  | _, [] => J d
  | lo, t :: ts => (x = lo → J t) ∧ (x ≠ lo → mtsw J d x (lo + 1) ts)
def mlsw (J : Nat → Prop) (d : Nat) (x : Int) : List (Int × Int) → List Nat → Prop
  | (a, _) :: ps, t :: ts => (x = a → J t) ∧ (x ≠ a → mlsw J d x ps ts)
  | [], [] => J d
  | _, _ => False
def mst (mi : Nat) (Q : Option mV → mM → Prop) (bd : Nat × Nat) (L : mLs) (st : List mV) (μ : mM) (k : (Nat × Nat) → mLs → List mV → mM → Prop) (a b t : Nat) (z : Int) (ts : List Nat) (ins : Instr) : Prop :=
  match ins with
  | .iconst _ => k bd L (.inl z :: st) μ
  | .bipush _ => k bd L (.inl z :: st) μ
  | .sipush _ => k bd L (.inl z :: st) μ
  | .ldc _ => match t with
    | 0 => k bd L (.inl z :: st) μ
    | _ => k bd L (.inr (.inr a) :: st) μ
  | .ldc_w _ => k bd L (.inl z :: st) μ
  | .lconst _ => k bd L (.inr (.inl z) :: st) μ
  | .ldc2_w _ => k bd L (.inr (.inl z) :: st) μ
  | .iload _ => mgi L a (fun x => k bd L (.inl x :: st) μ)
  | .iload_n _ => mgi L a (fun x => k bd L (.inl x :: st) μ)
  | .lload _ => mgl L a (fun x => k bd L (.inr (.inl x) :: st) μ)
  | .lload_n _ => mgl L a (fun x => k bd L (.inr (.inl x) :: st) μ)
  | .aload _ => mgr L a (fun x => k bd L (.inr (.inr x) :: st) μ)
  | .aload_n _ => mgr L a (fun x => k bd L (.inr (.inr x) :: st) μ)
  | .istore _ => mi1 st (fun x st => k bd (mset L a (.inl x)) st μ)
  | .istore_n _ => mi1 st (fun x st => k bd (mset L a (.inl x)) st μ)
  | .astore _ => mr1 st (fun x st => k bd (mset L a (.inr (.inr x))) st μ)
  | .astore_n _ => mr1 st (fun x st => k bd (mset L a (.inr (.inr x))) st μ)
  | .lstore _ => ml1 st (fun x st => k bd (mset2 L a (.inr (.inl x))) st μ)
  | .lstore_n _ => ml1 st (fun x st => k bd (mset2 L a (.inr (.inl x))) st μ)
  | .iinc _ _ => mgi L a (fun x => inI (x + z) ∧ k bd (mset L a (.inl (x + z))) st μ)
  | .iadd => mii st (fun x y st => inI (x + y) ∧ k bd L (.inl (x + y) :: st) μ)
  | .isub => mii st (fun x y st => inI (x - y) ∧ k bd L (.inl (x - y) :: st) μ)
  | .imul => mii st (fun x y st => inI (x * y) ∧ k bd L (.inl (x * y) :: st) μ)
  | .iand => mii st (fun x y st => k bd L (.inl (iAnd x y) :: st) μ)
  | .ior => mii st (fun x y st => k bd L (.inl (iOr x y) :: st) μ)
  | .ixor => mii st (fun x y st => k bd L (.inl (iXor x y) :: st) μ)
  | .ishl => mii st (fun x y st => k bd L (.inl (iShl x y) :: st) μ)
  | .ishr => mii st (fun x y st => k bd L (.inl (iShr x y) :: st) μ)
  | .iushr => mii st (fun x y st => k bd L (.inl (iUsh x y) :: st) μ)
  | .idiv => mii st (fun x y st => y ≠ 0 ∧ k bd L (.inl (iDiv x y) :: st) μ)
  | .irem => mii st (fun x y st => y ≠ 0 ∧ k bd L (.inl (iRem x y) :: st) μ)
  | .ladd => mll st (fun x y st => inL (x + y) ∧ k bd L (.inr (.inl (x + y)) :: st) μ)
  | .lsub => mll st (fun x y st => inL (x - y) ∧ k bd L (.inr (.inl (x - y)) :: st) μ)
  | .lmul => mll st (fun x y st => inL (x * y) ∧ k bd L (.inr (.inl (x * y)) :: st) μ)
  | .land => mll st (fun x y st => k bd L (.inr (.inl (lAnd x y)) :: st) μ)
  | .lor => mll st (fun x y st => k bd L (.inr (.inl (lOr x y)) :: st) μ)
  | .ldiv => mll st (fun x y st => y ≠ 0 ∧ k bd L (.inr (.inl (lDiv x y)) :: st) μ)
  | .lcmp => mll st (fun x y st => k bd L (.inl (lCmp x y) :: st) μ)
  | .lshl => mli st (fun x y st => k bd L (.inr (.inl (lShl x y)) :: st) μ)
  | .lshr => mli st (fun x y st => k bd L (.inr (.inl (lShr x y)) :: st) μ)
  | .i2l => mi1 st (fun x st => k bd L (.inr (.inl x) :: st) μ)
  | .l2i => ml1 st (fun x st => k bd L (.inl (l2I x) :: st) μ)
  | .i2b => mi1 st (fun x st => k bd L (.inl (i2B x) :: st) μ)
  | .dup => match st with
    | .inl x :: st => k bd L (.inl x :: .inl x :: st) μ
    | .inr (.inr x) :: st => k bd L (.inr (.inr x) :: .inr (.inr x) :: st) μ
    | _ => False
  | .dup2 => match st with
    | .inr (.inl x) :: st => k bd L (.inr (.inl x) :: .inr (.inl x) :: st) μ
    | .inl x :: .inr (.inr r) :: st => k bd L (.inl x :: .inr (.inr r) :: .inl x :: .inr (.inr r) :: st) μ
    | _ => False
  | .if_icmp c _ => mii st (fun x y st => (mcnd c x y → Jd mi Q bd a L st μ) ∧ (¬ mcnd c x y → k bd L st μ))
  | .ifCond c _ => mi1 st (fun x st => (mcnd c x 0 → Jd mi Q bd a L st μ) ∧ (¬ mcnd c x 0 → k bd L st μ))
  | .goto _ => Jd mi Q bd a L st μ
  | .tableswitch _ _ _ _ => mi1 st (fun x st => mtsw (fun t => Jd mi Q bd t L st μ) a x z ts)
  | .lookupswitch _ ps => mi1 st (fun x st => mlsw (fun t => Jd mi Q bd t L st μ) a x ps.toList ts)
  | .ireturn => match st with
    | [.inl x] => match t with
      | 0 => Q (some (.inl x)) μ
      | _ => (x = 0 ∨ x = 1) ∧ Q (some (.inl x)) μ
    | _ => False
  | .lreturn => match st with
    | [.inr (.inl x)] => Q (some (.inr (.inl x))) μ
    | _ => False
  | .return_ => match st with
    | [] => Q none μ
    | _ => False
  | .getfield _ => mr1 st (fun r st => (μ.2.1 r).1 = a ∧ 16 ≤ r ∧ match t with
    | 0 => k bd L (.inl (μ.2.2.2 r z) :: st) μ
    | 1 => k bd L (.inr (.inl (μ.2.2.2 r z)) :: st) μ
    | _ => μ.2.2.1 r b ≠ 0 ∧ k bd L (.inr (.inr (μ.2.2.1 r b)) :: st) μ)
  | .putfield _ => match t with
    | 0 => mir st (fun x r st => (μ.2.1 r).1 = a ∧ 16 ≤ r ∧ k bd L st (mput μ r z x))
    | 1 => mlr st (fun x r st => (μ.2.1 r).1 = a ∧ 16 ≤ r ∧ k bd L st (mput μ r z x))
    | 2 => mrr st (fun x r st => (μ.2.1 r).1 = a ∧ 16 ≤ r ∧ k bd L st (mputr μ r b x))
    | _ => mir st (fun x r st => (μ.2.1 r).1 = a ∧ 16 ≤ r ∧ (x = 0 ∨ x = 1) ∧ k bd L st (mput μ r z x))
  | .getstatic _ => k bd L (.inr (.inr a) :: st) μ
  | .iaload => mir st (fun i r st => (μ.2.1 r).1 = 100 ∧ 0 ≤ i ∧ i < ((μ.2.1 r).2 : Int) ∧ k bd L (.inl (μ.2.2.2 r i) :: st) μ)
  | .laload => mir st (fun i r st => (μ.2.1 r).1 = 101 ∧ 0 ≤ i ∧ i < ((μ.2.1 r).2 : Int) ∧ k bd L (.inr (.inl (μ.2.2.2 r i)) :: st) μ)
  | .baload => mir st (fun i r st => (μ.2.1 r).1 = a ∧ 0 ≤ i ∧ i < ((μ.2.1 r).2 : Int) ∧ k bd L (.inl (μ.2.2.2 r i) :: st) μ)
  | .iastore => miir st (fun x i r st => (μ.2.1 r).1 = 100 ∧ 16 ≤ r ∧ 0 ≤ i ∧ i < ((μ.2.1 r).2 : Int) ∧ k bd L st (mput μ r i x))
  | .lastore => mlir st (fun x i r st => (μ.2.1 r).1 = 101 ∧ 0 ≤ i ∧ i < ((μ.2.1 r).2 : Int) ∧ k bd L st (mput μ r i x))
  | .bastore => match t with
    | 0 => miir st (fun x i r st => (μ.2.1 r).1 = 102 ∧ 0 ≤ i ∧ i < ((μ.2.1 r).2 : Int) ∧ k bd L st (mput μ r i (i2B x)))
    | _ => miir st (fun x i r st => (μ.2.1 r).1 = 103 ∧ 0 ≤ i ∧ i < ((μ.2.1 r).2 : Int) ∧ (x = 0 ∨ x = 1) ∧ k bd L st (mput μ r i x))
  | .arraylength => mr1 st (fun r st => 100 ≤ (μ.2.1 r).1 ∧ k bd L (.inl ((μ.2.1 r).2 : Int) :: st) μ)
  | .newarray _ => mi1 st (fun n st => 0 ≤ n ∧ n ≤ 1000000 ∧ bd.1 + 1 ≤ mCe mi ∧ bd.2 + n.toNat ≤ mSl mi ∧ k (bd.1 + 1, bd.2 + n.toNat) L (.inr (.inr (16 + μ.1)) :: st) (mnew μ (a, n.toNat)))
  | .new _ => bd.1 + 1 ≤ mCe mi ∧ bd.2 + b ≤ mSl mi ∧ k (bd.1 + 1, bd.2 + b) L (.inr (.inr (16 + μ.1)) :: st) (mnew μ (a, 0))
  | .invokestatic _ => mpop b st [] (fun args st => (Nat.ble (mcat args) z.toNat && Nat.ble (mcat st) 8) = true ∧ Cl a args μ (fun r μ' => k bd L (mpsh r st) μ'))
  | .invokevirtual _ => mpop b st [] (fun args st => (Nat.ble (mcat args) z.toNat && Nat.ble (mcat st) 8) = true ∧ mrcv args (fun r => (μ.2.1 r).1 = t) ∧ Cl a args μ (fun r μ' => k bd L (mpsh r st) μ'))
  | .invokespecial _ => match t with
    | 0 => mr1 st (fun _ st => Nat.ble (mcat st) 8 = true ∧ k bd L st μ)
    | _ => mpop b st [] (fun args st => (Nat.ble (mcat args) z.toNat && Nat.ble (mcat st) 8) = true ∧ mrcv args (fun _ => True) ∧ bd.1 + mCe a ≤ mCe mi ∧ bd.2 + mSl a ≤ mSl mi ∧ Cl a args μ (fun r μ' => k (bd.1 + mCe a, bd.2 + mSl a) L (mpsh r st) μ'))
  | _ => False
def mwp (mi : Nat) (Q : Option mV → mM → Prop) (nx : Nat) : List mI → (Nat × Nat) → mLs → List mV → mM → Prop
  | [], bd, L, st, μ => Jd mi Q bd nx L st μ
  | i :: is, bd, L, st, μ => mst mi Q bd L st μ (fun bd L st μ => mwp mi Q nx is bd L st μ) i.2.2.1 i.2.2.2.1 i.2.2.2.2.2.1 i.2.2.2.2.2.2.1 i.2.2.2.2.2.2.2 i.1
/-! what is checked of an instruction once, by program -/
def mAt (p : Nat) (w : Cond) : Bool := decide (lw_tbl[p]? = some w) && goodWord w
def mCnm (c : Nat) : String := if c = 50 then "java/lang/String" else (vwCl.getD c ("", TX0, 0)).1
def mLk (own : String) (index c b p : Nat) : Bool := match vwCl[c]? with
  | some q => decide (b < q.2.2) && mAt p (.fieldLink own index q.1 (q.2.1 b).2.1 (q.2.1 b).2.2.1) && decide ((q.2.1 b).1 = q.1)
  | none => false
def mFin (c b : Nat) : Bool := match vwCl[c]? with
  | some q => (q.2.1 b).2.2.2
  | none => true
/-- a method that can be called: its words -/
def mMok (a p1 p2 p3 : Nat) (stat : Bool) : Bool :=
  decide (a < 181) && plainFor (mY a) && decide ((mY a).cls ≠ "java/lang/invoke/MethodHandle") && decide ((mY a).cls ≠ "java/lang/invoke/VarHandle") && mAt p1 (.initialized (mY a).cls) &&
  (if stat then mAt p2 (.static (mY a)) else (mAt p2 (.instanceMethod (mY a)) && (decide ((mY a).name = "<init>") || mAt p3 (.selects (mY a).cls (mY a) (mY a)))))
def mopk (mi pc : Nat) (ins : Instr) (len a b p t : Nat) (z : Int) (ts : List Nat) : Bool :=
  match ins with
  | .iconst n => decide (len = 1 ∧ n = z ∧ inI z)
  | .bipush n => decide (len = 2 ∧ (Int8.ofInt n).toInt32 = Int32.ofInt z ∧ inI z)
  | .sipush n => decide (len = 3 ∧ (Int16.ofInt n).toInt32 = Int32.ofInt z ∧ inI z)
  | .ldc i => decide (len = 2) && match t with
    | 0 => decide (inI z) && mAt p (.constant (mY mi).cls i (Int32.ofInt z))
    | _ => decide ((mY mi).cls = "WordMint$Scanner" ∧ 2 ≤ a ∧ a < 6 ∧ (mTx[a - 2]?).map (fun q => q.1) = some i)
  | .ldc_w i => decide (len = 3 ∧ inI z) && mAt p (.constant (mY mi).cls i (Int32.ofInt z))
  | .lconst n => decide (len = 1 ∧ ((n : Nat) : Int) = z ∧ inL z)
  | .ldc2_w i => decide (len = 3 ∧ inL z) && mAt p (.constantLong (mY mi).cls i (Int64.ofInt z))
  | .iload i => decide (len = 2 ∧ i = a)
  | .iload_n i => decide (len = 1 ∧ (i : Nat) = a)
  | .lload i => decide (len = 2 ∧ i = a)
  | .lload_n i => decide (len = 1 ∧ (i : Nat) = a)
  | .aload i => decide (len = 2 ∧ i = a)
  | .aload_n i => decide (len = 1 ∧ (i : Nat) = a)
  | .istore i => decide (len = 2 ∧ i = a ∧ a < mN mi)
  | .istore_n i => decide (len = 1 ∧ (i : Nat) = a ∧ a < mN mi)
  | .astore i => decide (len = 2 ∧ i = a ∧ a < mN mi)
  | .astore_n i => decide (len = 1 ∧ (i : Nat) = a ∧ a < mN mi)
  | .lstore i => decide (len = 2 ∧ i = a ∧ a + 1 < mN mi)
  | .lstore_n i => decide (len = 1 ∧ (i : Nat) = a ∧ a + 1 < mN mi)
  | .iinc i n => decide (len = 3 ∧ i = a ∧ a < mN mi ∧ n = z)
  | .if_icmp _ off => decide (len = 3 ∧ (pc : Int) + off = (a : Int))
  | .ifCond _ off => decide (len = 3 ∧ (pc : Int) + off = (a : Int))
  | .goto off => decide (len = 3 ∧ (pc : Int) + off = (a : Int))
  | .tableswitch d lo hi offs => decide ((pc : Int) + d = (a : Int) ∧ lo = z ∧ hi = lo + (ts.length : Int) - 1 ∧ -2147483648 ≤ lo ∧ hi ≤ 2147483647 ∧ offs.toList.map (fun o => (pc : Int) + o) = ts.map (fun t : Nat => (t : Int)))
  | .lookupswitch d ps => decide ((pc : Int) + d = (a : Int) ∧ ps.toList.map (fun o => (pc : Int) + o.2) = ts.map (fun t : Nat => (t : Int))) && (ps.toList.zip (ps.toList.drop 1)).all (fun (a, next) => a.1 < next.1) && ps.toList.all (fun o => decide (inI o.1))
  | .ireturn => decide (len = 1) && match t with
    | 0 => decide (mR mi = some .int)
    | _ => decide (mR mi = some .boolean)
  | .lreturn => decide (len = 1 ∧ mR mi = some .long)
  | .return_ => decide (len = 1 ∧ mR mi = none)
  | .getfield i => decide (len = 3 ∧ (b : Int) = z ∧ a < 12) && mLk (mY mi).cls i a b p && match t with
    | 0 => decide (mTy a b = .int ∨ mTy a b = .boolean)
    | 1 => decide (mTy a b = .long)
    | _ => decide (mTy a b ≠ .int ∧ mTy a b ≠ .boolean ∧ mTy a b ≠ .long)
  | .putfield i => decide (len = 3 ∧ (b : Int) = z ∧ a < 12) && mLk (mY mi).cls i a b p && (!mFin a b || decide ((mY mi).name = "<init>" ∧ (mY mi).cls = mCnm a)) && match t with
    | 0 => decide (mTy a b = .int)
    | 1 => decide (mTy a b = .long)
    | 2 => (match mTy a b with
      | .object _ => true
      | .array _ => true
      | _ => false)
    | _ => decide (mTy a b = .boolean)
  | .getstatic i => decide (len = 3 ∧ a = 10 ∧ (Cond.fieldLinkNest (mY mi).cls i "WordMint" "NEXT_STATE" "[I" "WordMint") ∈ mNw)
  | .baload => decide (len = 1 ∧ (a = 102 ∨ a = 103))
  | .newarray ty => decide (len = 2 ∧ ((a = 100 ∧ newarray.typeOf ty = .int) ∨ (a = 101 ∧ newarray.typeOf ty = .long) ∨ (a = 102 ∧ newarray.typeOf ty = .byte) ∨ (a = 103 ∧ newarray.typeOf ty = .boolean))) && mAt p (.arrayClass (newarray.typeOf ty))
  | .new i => decide (len = 3 ∧ a < 12 ∧ ts.length = 2 ∧ (vwCl[a]?).map (fun q => q.2.2) = some b) && mAt p (.classLink (mY mi).cls i (mCnm a)) && mAt (ts.getD 0 0) (.instantiable (mCnm a) b) && mAt (ts.getD 1 0) (.initialized (mCnm a))
  | .invokestatic i => decide (len = 3 ∧ mFr a + 1 ≤ mFr mi ∧ 8 + (mN a + 11) + mLo a ≤ mLo mi ∧ mCe a = 0 ∧ mSl a = 0 ∧ (mN a : Int) = z ∧ (parseMethodDescriptor (mY a).desc).map (fun d => d.parameters.length) = some b) && mAt p (.methodLink (mY mi).cls i (mY a)) && mMok a (ts.getD 0 0) (ts.getD 1 0) 0 true
  | .invokevirtual i => decide (len = 3 ∧ 0 < b ∧ (t < 12 ∨ t = 50) ∧ mCnm t = (mY a).cls ∧ mFr a + 1 ≤ mFr mi ∧ 8 + (mN a + 11) + mLo a ≤ mLo mi ∧ mCe a = 0 ∧ mSl a = 0 ∧ (mN a : Int) = z ∧ (parseMethodDescriptor (mY a).desc).map (fun d => d.parameters.length) = some (b - 1)) && mAt p (.methodLink (mY mi).cls i (mY a)) && decide ((mY a).name ≠ "<init>") && mMok a (ts.getD 0 0) (ts.getD 1 0) (ts.getD 2 0) false
  | .invokespecial i => match t with
    | 0 => decide (len = 3 ∧ 1 ≤ mFr mi ∧ 20 ≤ mLo mi) && mAt p (.methodLink (mY mi).cls i Lib.objectInit)
    | _ => decide (len = 3 ∧ 0 < b ∧ mFr a + 1 ≤ mFr mi ∧ 8 + (mN a + 11) + mLo a ≤ mLo mi ∧ mR a = none ∧ (mY a).name = "<init>" ∧ (mN a : Int) = z ∧ (parseMethodDescriptor (mY a).desc).map (fun d => d.parameters.length) = some (b - 1)) && (match t with
      | 1 => mAt p (.methodLink (mY mi).cls i (mY a))
      | _ => decide ((Cond.methodLinkNest (mY mi).cls i (mY a) "WordMint") ∈ mNw)) && mMok a (ts.getD 0 0) (ts.getD 1 0) 0 false
  | _ => decide (len = 1)
def mck (mi pc : Nat) (i : mI) : Bool := decide (decode (mB mi) pc = .ok (i.1, i.2.1)) && mopk mi pc i.1 i.2.1 i.2.2.1 i.2.2.2.1 i.2.2.2.2.1 i.2.2.2.2.2.1 i.2.2.2.2.2.2.1 i.2.2.2.2.2.2.2
def mckB (mi : Nat) : Nat → List mI → Nat → Bool
  | pc, [], nx => decide (pc = nx)
  | pc, i :: is, nx => mck mi pc i && mckB mi (pc + i.2.1) is nx
