/-! THE PURE MACHINE. A value: an int, a long, or a reference (k, j): the cell k, or (j = i + 1) the row i of the grid k. -/
abbrev pV : Type := Int32 ⊕ Int64 ⊕ (Nat × Nat)
/-- a shape: 0 int[], 1 byte[], 2 boolean[], 3 long[] of n places; 4 an array of references (codes r + 1); 5 a grid of n rows of w places; 6 a text; ci + 7 an object of the ci-th sort, its fields' codes: 0 int, 1 long, 2 char, 2 r + 3 the cell r, 2 r + 4 the cell r once it has been put there (its number is 1 then; 2: another one, else null) -/
abbrev pSh : Type := Nat × Nat × List Nat
abbrev pD : Type := Nat → Nat → Nat → Int32
abbrev pDL : Type := Nat → Nat → Int64
abbrev pSt : Type := pD × pDL
abbrev pL : Type := List (Option pV)
abbrev pRes : Type := Option pV × pSt
/-- an entry of the code: the instruction, five numbers and an int that were found out ahead -/
abbrev pX : Type := Instr × Nat × Nat × Nat × Nat × Nat × Int32
/-- a method: its code, the cuts and what lives there -/
abbrev pM : Type := List (Nat × pX) × List (Nat × List Bool)
def dset (D : pD) (k j i : Nat) (x : Int32) : pD := fun k' j' => if k' = k ∧ j' = j then upd (D k j) i x else D k' j'
def dcpy (D : pD) (s : Nat) (sp : Nat) (d : Nat) (dp n : Nat) : pD := fun k' j' => if k' = d ∧ j' = 0 then va_cpy (D s 0) (D d 0) sp dp n else D k' j'
def lset (D : pDL) (k i : Nat) (x : Int64) : pDL := fun k' => if k' = k then vp_updL (D k) i x else D k'
/-- the texts -/
abbrev pTx : Type := List (List Int32)
section PM
variable {ρ : Type}
def pPick (fs : List Nat) (j : Nat) (f : Nat → Option ρ) : Option ρ := match fs with
  | [] => none
  | c :: t => if j = 0 then (match c with | 0 => none | r + 1 => f r) else pPick t (j - 1) f
def pI1 (st : List pV) (f : Int32 → List pV → Option ρ) : Option ρ := match st with
  | .inl x :: r => f x r
  | _ => none
def pI2 (st : List pV) (f : Int32 → Int32 → List pV → Option ρ) : Option ρ := match st with
  | .inl y :: .inl x :: r => f x y r
  | _ => none
def pL2 (st : List pV) (f : Int64 → Int64 → List pV → Option ρ) : Option ρ := match st with
  | .inr (.inl y) :: .inr (.inl x) :: r => f x y r
  | _ => none
def pR1 (st : List pV) (f : Nat → Nat → List pV → Option ρ) : Option ρ := match st with
  | .inr (.inr (k, j)) :: r => f k j r
  | _ => none
def pRI (st : List pV) (f : Nat → Nat → Int32 → List pV → Option ρ) : Option ρ := match st with
  | .inl i :: .inr (.inr (k, j)) :: r => f k j i r
  | _ => none
def pRII (st : List pV) (f : Nat → Nat → Int32 → Int32 → List pV → Option ρ) : Option ρ := match st with
  | .inl x :: .inl i :: .inr (.inr (k, j)) :: r => f k j i x r
  | _ => none
def pRIL (st : List pV) (f : Nat → Nat → Int32 → Int64 → List pV → Option ρ) : Option ρ := match st with
  | .inr (.inl x) :: .inl i :: .inr (.inr (k, j)) :: r => f k j i x r
  | _ => none
def pV1 (st : List pV) (f : pV → List pV → Option ρ) : Option ρ := match st with
  | v :: r => f v r
  | _ => none
def pV2 (st : List pV) (f : pV → pV → List pV → Option ρ) : Option ρ := match st with
  | v :: u :: r => f v u r
  | _ => none
def pVR (st : List pV) (f : pV → Nat → Nat → List pV → Option ρ) : Option ρ := match st with
  | v :: .inr (.inr (k, j)) :: r => f v k j r
  | _ => none
def pE0 (st : List pV) (f : Option ρ) : Option ρ := match st with
  | [] => f
  | _ => none
def pE1 (st : List pV) (f : Int32 → Option ρ) : Option ρ := match st with
  | [.inl x] => f x
  | _ => none
def pER (st : List pV) (f : Nat → Nat → Option ρ) : Option ρ := match st with
  | [.inr (.inr (k, j))] => f k j
  | _ => none
/-- an array of numbers at (k, j): its sort and length -/
def pArr (S : List pSh) (k j : Nat) (f : Nat → Nat → Option ρ) : Option ρ := match S[k]? with
  | none => none
  | some q => (match q.1, j with
    | 0, 0 => f 0 q.2.1
    | 1, 0 => f 1 q.2.1
    | 2, 0 => f 2 q.2.1
    | 3, 0 => f 3 q.2.1
    | 5, i + 1 => if i < q.2.1 then (match q.2.2 with | w :: _ => f 0 w | [] => none) else none
    | _, _ => none)
def pIn (i : Int32) (n : Nat) (f : Nat → Option ρ) : Option ρ := if i < 0 ∨ n ≤ i.toNatClampNeg then none else f i.toNatClampNeg
def pLdI (L : pL) (i : Nat) (f : Int32 → Option ρ) : Option ρ := match L[i]? with
  | some (some (.inl x)) => f x
  | _ => none
def pLdR (L : pL) (i : Nat) (f : Nat → Nat → Option ρ) : Option ρ := match L[i]? with
  | some (some (.inr (.inr q))) => f q.1 q.2
  | _ => none
def pSto (L : pL) (i : Nat) (v : pV) (f : pL → Option ρ) : Option ρ := match L[i]? with
  | some _ => f (L.set i (some v))
  | none => none
def pC1 (v : pV) (f : Option ρ) : Option ρ := match v with
  | .inr (.inl _) => none
  | _ => f
/-- tableswitch, as a row of tests -/
def pSwT (x : Int32) (lo : Int) (pc : Nat) (offs : List Int) (d : Int) (f : Nat → Option ρ) : Option ρ := match offs with
  | [] => f ((pc : Int) + d).toNat
  | o :: q => if x.toInt = lo then f ((pc : Int) + o).toNat else pSwT x (lo + 1) pc q d f
def pSwL (x : Int32) (pc : Nat) (ps : List (Int × Int)) (d : Int) (f : Nat → Option ρ) : Option ρ := match ps with
  | [] => f ((pc : Int) + d).toNat
  | o :: q => if x.toInt = o.1 then f ((pc : Int) + o.2).toNat else pSwL x pc q d f
/-- the object (k, j) of the sort a: its fields' codes -/
def pObj (S : List pSh) (k j a : Nat) (f : pSh → Option ρ) : Option ρ := match S[k]? with
  | none => none
  | some q => (match Nat.beq q.1 (a + 7), j with
    | true, 0 => f q
    | _, _ => none)
/-- a reference in a field: even codes once it has been put there -/
def pFr (c : Nat) : Bool × Nat := match c with
  | 0 => (true, 0)
  | 1 => (false, 0)
  | c + 2 => ((pFr c).1, (pFr c).2 + 1)
/-- a field is read -/
def pGet (S : List pSh) (σ : pSt) (k j a b : Nat) (f : pV → Option ρ) : Option ρ := pObj S k j a fun q => (match q.2.2[b]? with
    | none => none
    | some 0 => f (.inl (σ.1 k 0 b))
    | some 1 => f (.inr (.inl (σ.2 k b)))
    | some 2 => f (.inl (σ.1 k 0 b))
    | some (c + 3) => (match pFr c with
      | (true, r) => f (.inr (.inr (r, 0)))
      | (false, r) => if σ.1 k 0 b = 1 then f (.inr (.inr (r, 0))) else none))
/-- a field is written -/
def pPut (S : List pSh) (σ : pSt) (k j a b : Nat) (v : pV) (f : pSt → Option ρ) : Option ρ := pObj S k j a fun q => (match q.2.2[b]?, v with
    | some 0, .inl x => f (dset σ.1 k 0 b x, σ.2)
    | some 1, .inr (.inl x) => f (σ.1, lset σ.2 k b x)
    | some 2, .inl x => if (x.toUInt32 % 65536).toInt32 = x then f (dset σ.1 k 0 b x, σ.2) else none
    | some (c + 3), .inr (.inr (y, j)) => (match pFr c, Nat.beq y (pFr c).2, j with
      | (false, _), true, 0 => f (dset σ.1 k 0 b 1, σ.2)
      | _, _, _ => none)
    | _, _ => none)
/-- what a return of this sort may give: 0 int, 1 boolean, 2 char -/
def pRet (a : Nat) (x : Int32) (f : Option ρ) : Option ρ := match a with
  | 0 => f
  | 1 => if x &&& 1 = x then f else none
  | 2 => if (x.toUInt32 % 65536).toInt32 = x then f else none
  | _ => none
/-- is there room for what stays -/
def pRm : Nat → List pV → Bool
  | _, [] => true
  | n + 1, .inl _ :: r => pRm n r
  | n + 1, .inr (.inr _) :: r => pRm n r
  | n + 2, .inr (.inl _) :: r => pRm n r
  | _, _ => false
/-- the call's arguments, the last one first, and what stays -/
def pTk : Nat → List pV → List pV → (List pV → List pV → Option ρ) → Option ρ
  | 0, acc, r, f => (match pRm 8 r with
    | true => f acc r
    | false => none)
  | n + 1, acc, v :: r, f => pC1 v (pTk n (v :: acc) r f)
  | _ + 1, _, [], _ => none
/-- is the receiver of its sort -/
def pRecv (S : List pSh) (w : Nat) (as : List pV) (f : Option ρ) : Option ρ := match w with
  | 0 => f
  | ci + 1 => (match as with
    | .inr (.inr (k, j)) :: _ => pObj S k j ci fun _ => f
    | _ => none)
/-- the depth of a call -/
def pDep (d c : Nat) (f : Nat → Option ρ) : Option ρ := match c with
  | 0 => (match d with
    | 0 => none
    | d' + 1 => f d')
  | d' + 1 => (match Nat.blt d' d with
    | true => f d'
    | false => none)
/-- arraycopy of ints -/
def pCopy (S : List pSh) (σ : pSt) (st : List pV) (f : List pV → pSt → Option ρ) : Option ρ := match st with
  | .inl n :: .inl dp :: .inr (.inr (d, 0)) :: .inl sp :: .inr (.inr (s, 0)) :: r => (match S[s]?, S[d]? with
    | some (0, ns, _), some (0, nd, _) => if sp < 0 ∨ dp < 0 ∨ n < 0 ∨ ns < sp.toNatClampNeg + n.toNatClampNeg ∨ nd < dp.toNatClampNeg + n.toNatClampNeg then none else f r (dcpy σ.1 s sp.toNatClampNeg d dp.toNatClampNeg n.toNatClampNeg, σ.2)
    | _, _ => none)
  | _ => none
def pTxt (S : List pSh) (k j : Nat) (T : pTx) (f : List Int32 → Option ρ) : Option ρ := match S[k]?, j with
  | some (6, i, _), 0 => (match T[i]? with | some t => f t | none => none)
  | _, _ => none
/-- what a call gave: nothing, an int, the cell r -/
def pB0 (q : Option pRes) (f : pD → pDL → Option ρ) : Option ρ := match q with
  | some (none, σ) => f σ.1 σ.2
  | _ => none
def pB1 (q : Option pRes) (f : Int32 → pD → pDL → Option ρ) : Option ρ := match q with
  | some (some (.inl x), σ) => f x σ.1 σ.2
  | _ => none
def pB2 (q : Option pRes) (r : Nat) (f : pD → pDL → Option ρ) : Option ρ := match q with
  | some (some (.inr (.inr y)), σ) => if y = (r, 0) then f σ.1 σ.2 else none
  | _ => none
def pBk (q : Option pRes) (g : Nat) (f : List pV → pSt → Option ρ) : Option ρ := match g with
  | 0 => pB0 q fun D DL => f [] (D, DL)
  | 1 => pB1 q fun x D DL => f [.inl x] (D, DL)
  | r + 2 => pB2 q r fun D DL => f [.inr (.inr (r, 0))] (D, DL)
end PM
