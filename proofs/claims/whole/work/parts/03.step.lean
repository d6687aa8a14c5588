section PS
variable {ρ : Type}
/-- ONE INSTRUCTION. K: goes on at a place; C: a call; Rr: the end -/
def sI (S : List pSh) (T : pTx) (d pc : Nat) (x : pX) (L : pL) (st : List pV) (σ : pSt) (K : Nat → pL → List pV → pSt → Option ρ) (C : Nat → Nat → List pV → Nat → Nat → pL → List pV → Option ρ) (Rr : Option pV → Option ρ) : Option ρ := match x with
  | (ins, a, b, c, w, g, z) => match ins with
    | .iconst _ => K (pc + 1) L (.inl z :: st) σ
    | .bipush _ => K (pc + 2) L (.inl z :: st) σ
    | .sipush _ => K (pc + 3) L (.inl z :: st) σ
    | .ldc _ => (match b with
      | 0 => K (pc + 2) L (.inl z :: st) σ
      | _ => (match S[a]? with
        | some (6, _, _) => K (pc + 2) L (.inr (.inr (a, 0)) :: st) σ
        | _ => none))
    | .ldc_w _ => K (pc + 3) L (.inl z :: st) σ
    | .ldc2_w _ => K (pc + 3) L (.inr (.inl (lN a)) :: st) σ
    | .lconst _ => K (pc + 1) L (.inr (.inl (lN a)) :: st) σ
    | .iload_n _ => pLdI L a fun x => K (pc + 1) L (.inl x :: st) σ
    | .iload _ => pLdI L a fun x => K (pc + 2) L (.inl x :: st) σ
    | .aload_n _ => pLdR L a fun k j => K (pc + 1) L (.inr (.inr (k, j)) :: st) σ
    | .aload _ => pLdR L a fun k j => K (pc + 2) L (.inr (.inr (k, j)) :: st) σ
    | .istore_n _ => pI1 st fun x r => pSto L a (.inl x) fun L' => K (pc + 1) L' r σ
    | .istore _ => pI1 st fun x r => pSto L a (.inl x) fun L' => K (pc + 2) L' r σ
    | .astore_n _ => pR1 st fun k j r => pSto L a (.inr (.inr (k, j))) fun L' => K (pc + 1) L' r σ
    | .astore _ => pR1 st fun k j r => pSto L a (.inr (.inr (k, j))) fun L' => K (pc + 2) L' r σ
    | .iinc _ _ => pLdI L a fun x => pSto L a (.inl (x + z)) fun L' => K (pc + 3) L' st σ
    | .iadd => pI2 st fun x y r => K (pc + 1) L (.inl (x + y) :: r) σ
    | .isub => pI2 st fun x y r => K (pc + 1) L (.inl (x - y) :: r) σ
    | .imul => pI2 st fun x y r => K (pc + 1) L (.inl (x * y) :: r) σ
    | .idiv => pI2 st fun x y r => if y = 0 then none else K (pc + 1) L (.inl (x / y) :: r) σ
    | .irem => pI2 st fun x y r => if y = 0 then none else K (pc + 1) L (.inl (x - x / y * y) :: r) σ
    | .iand => pI2 st fun x y r => K (pc + 1) L (.inl (x &&& y) :: r) σ
    | .ior => pI2 st fun x y r => K (pc + 1) L (.inl (x ||| y) :: r) σ
    | .ixor => pI2 st fun x y r => K (pc + 1) L (.inl (x ^^^ y) :: r) σ
    | .ishl => pI2 st fun x y r => K (pc + 1) L (.inl (x <<< (y &&& 31)) :: r) σ
    | .ishr => pI2 st fun x y r => K (pc + 1) L (.inl (x >>> (y &&& 31)) :: r) σ
    | .iushr => pI2 st fun x y r => K (pc + 1) L (.inl (x.toUInt32 >>> (y.toUInt32 &&& Int32.toUInt32 31)).toInt32 :: r) σ
    | .ladd => pL2 st fun x y r => K (pc + 1) L (.inr (.inl (x + y)) :: r) σ
    | .lsub => pL2 st fun x y r => K (pc + 1) L (.inr (.inl (x - y)) :: r) σ
    | .lmul => pL2 st fun x y r => K (pc + 1) L (.inr (.inl (x * y)) :: r) σ
    | .lcmp => pL2 st fun x y r => K (pc + 1) L (.inl (lg_cmp x y) :: r) σ
    | .i2l => pI1 st fun x r => K (pc + 1) L (.inr (.inl x.toInt64) :: r) σ
    | .i2b => pI1 st fun x r => K (pc + 1) L (.inl x.toInt8.toInt32 :: r) σ
    | .i2c => pI1 st fun x r => K (pc + 1) L (.inl (x.toUInt32 % 65536).toInt32 :: r) σ
    | .dup => pV1 st fun v r => pC1 v (K (pc + 1) L (v :: v :: r) σ)
    | .dup2 => pV2 st fun v u r => pC1 v (pC1 u (K (pc + 1) L (v :: u :: v :: u :: r) σ))
    | .pop => pV1 st fun v r => pC1 v (K (pc + 1) L r σ)
    | .goto _ => K a L st σ
    | .ifCond .eq _ => pI1 st fun x r => if x = 0 then K a L r σ else K (pc + 3) L r σ
    | .ifCond .ne _ => pI1 st fun x r => if x = 0 then K (pc + 3) L r σ else K a L r σ
    | .ifCond .lt _ => pI1 st fun x r => if x < 0 then K a L r σ else K (pc + 3) L r σ
    | .ifCond .ge _ => pI1 st fun x r => if 0 ≤ x then K a L r σ else K (pc + 3) L r σ
    | .ifCond .gt _ => pI1 st fun x r => if 0 < x then K a L r σ else K (pc + 3) L r σ
    | .ifCond .le _ => pI1 st fun x r => if x ≤ 0 then K a L r σ else K (pc + 3) L r σ
    | .if_icmp .eq _ => pI2 st fun x y r => if x = y then K a L r σ else K (pc + 3) L r σ
    | .if_icmp .ne _ => pI2 st fun x y r => if x = y then K (pc + 3) L r σ else K a L r σ
    | .if_icmp .lt _ => pI2 st fun x y r => if x < y then K a L r σ else K (pc + 3) L r σ
    | .if_icmp .ge _ => pI2 st fun x y r => if y ≤ x then K a L r σ else K (pc + 3) L r σ
    | .if_icmp .gt _ => pI2 st fun x y r => if y < x then K a L r σ else K (pc + 3) L r σ
    | .if_icmp .le _ => pI2 st fun x y r => if x ≤ y then K a L r σ else K (pc + 3) L r σ
    | .tableswitch d lo _ offs => pI1 st fun x r => pSwT x lo pc offs.toList d fun t => K t L r σ
    | .lookupswitch d ps => pI1 st fun x r => pSwL x pc ps.toList d fun t => K t L r σ
    | .getfield _ => pR1 st fun k j r => pGet S σ k j a b fun v => K (pc + 3) L (v :: r) σ
    | .putfield _ => pVR st fun v k j r => pPut S σ k j a b v fun σ' => K (pc + 3) L r σ'
    | .iaload => pRI st fun k j i r => pArr S k j fun t n => (match t with | 0 => pIn i n fun q => K (pc + 1) L (.inl (σ.1 k j q) :: r) σ | _ => none)
    | .baload => pRI st fun k j i r => pArr S k j fun t n => (match t with | 1 => pIn i n fun q => K (pc + 1) L (.inl (σ.1 k j q) :: r) σ | 2 => pIn i n fun q => K (pc + 1) L (.inl (σ.1 k j q) :: r) σ | _ => none)
    | .laload => pRI st fun k j i r => pArr S k j fun t n => (match t with | 3 => pIn i n fun q => K (pc + 1) L (.inr (.inl (σ.2 k q)) :: r) σ | _ => none)
    | .aaload => pRI st fun k j i r => (match S[k]?, j with
      | some (4, n, fs), 0 => pIn i n fun q => pPick fs q fun y => K (pc + 1) L (.inr (.inr (y, 0)) :: r) σ
      | some (5, n, _), 0 => pIn i n fun q => K (pc + 1) L (.inr (.inr (k, q + 1)) :: r) σ
      | _, _ => none)
    | .iastore => pRII st fun k j i x r => pArr S k j fun t n => (match t with | 0 => pIn i n fun q => K (pc + 1) L r (dset σ.1 k j q x, σ.2) | _ => none)
    | .bastore => pRII st fun k j i x r => pArr S k j fun t n => (match t with | 1 => pIn i n fun q => K (pc + 1) L r (dset σ.1 k j q x.toInt8.toInt32, σ.2) | 2 => pIn i n fun q => K (pc + 1) L r (dset σ.1 k j q (x &&& 1), σ.2) | _ => none)
    | .lastore => pRIL st fun k j i x r => pArr S k j fun t n => (match t with | 3 => pIn i n fun q => K (pc + 1) L r (σ.1, lset σ.2 k q x) | _ => none)
    | .arraylength => pR1 st fun k j r => pArr S k j fun _ n => K (pc + 1) L (.inl (nI n) :: r) σ
    | .invokevirtual _ => (match c, b with
      | 0, 0 => pR1 st fun k j r => pTxt S k j T fun t => (match pRm 8 r with | true => K (pc + 3) L (.inl (nI t.length) :: r) σ | false => none)
      | 0, _ + 1 => pRI st fun k j i r => pTxt S k j T fun t => (match pRm 8 r with | true => pIn i t.length fun q => K (pc + 3) L (.inl (t.getD q 0) :: r) σ | false => none)
      | c + 1, b => pTk b [] st fun as r => pRecv S w as (pDep d c fun d' => C a d' as g (pc + 3) L r))
    | .invokestatic _ => (match c, b with
      | 0, 0 => pCopy S σ st fun r σ' => (match pRm 8 r with | true => K (pc + 3) L r σ' | false => none)
      | 0, 1 => pI2 st fun x y r => (match pRm 8 r with | true => K (pc + 3) L (.inl (if x < y then y else x) :: r) σ | false => none)
      | 0, _ + 2 => pI2 st fun x y r => (match pRm 8 r with | true => K (pc + 3) L (.inl (if y < x then y else x) :: r) σ | false => none)
      | c + 1, b => pTk b [] st fun as r => pDep d c fun d' => C a d' as g (pc + 3) L r)
    | .ireturn => pE1 st fun x => pRet a x (Rr (some (.inl x)))
    | .areturn => pER st fun k j => Rr (some (.inr (.inr (k, j))))
    | .return_ => pE0 st (Rr none)
    | _ => none
end PS
