section PR
/-- what lives at a cut -/
def pMask (keep : List Bool) (L : pL) : pL := match keep, L with
  | true :: k, v :: l => v :: pMask k l
  | false :: k, _ :: l => none :: pMask k l
  | _, _ => []
def pFind {α : Type} (pc : Nat) (l : List (Nat × α)) : Option α := match l with
  | [] => none
  | q :: t => (match Nat.beq q.1 pc with
    | true => some q.2
    | false => pFind pc t)
def pL0 (as : List pV) : pL := as.map some ++ [none, none, none, none, none, none, none, none, none, none, none, none, none, none]
def pCut (M : pM) (pc : Nat) (L : pL) : pL := match pFind pc M.2 with
  | none => L
  | some k => pMask k L
variable {ρ : Type}
abbrev pK (ρ : Type) : Type := Nat → Nat → Nat → pL → List pV → pSt → Option ρ
/-- one instruction of the method me, whose runs are E -/
def pSt1 (S : List pSh) (T : pTx) (E : pK pRes) (M : pM) (me d pc : Nat) (L : pL) (st : List pV) (σ : pSt) (K : Nat → pL → List pV → pSt → Option pRes) : Option pRes := match pFind pc M.1 with
  | none => none
  | some x => sI S T d pc x L st σ K (fun me' d' as g pc' L' r => pBk (E me' d' 0 (pL0 as) [] σ) g fun v σ' => K pc' L' (v ++ r) σ') (fun v => some (v, σ))
/-- THE RUN, n steps: method me, its depth d -/
def pr (S : List pSh) (P : List pM) (T : pTx) : Nat → pK pRes
  | 0, _, _, _, _, _, _ => none
  | n + 1, me, d, pc, L, st, σ => match P[me]? with
    | none => none
    | some M => pSt1 S T (pr S P T n) M me d pc L st σ fun pc' L' st' σ' => pr S P T n me d pc' (pCut M pc' L') st' σ'
/-! naturality -/
variable {τ : Type}
theorem nb_pick (fs : List Nat) (j : Nat) (F : Nat → Option ρ) (f : ρ → Option τ) : (pPick fs j F).bind f = pPick fs j fun x => (F x).bind f := by
  induction fs generalizing j with
  | nil => rfl
  | cons c t ih =>
    unfold pPick
    split
    · cases c <;> rfl
    · exact ih _
theorem nb_I1 (st : List pV) (F : Int32 → List pV → Option ρ) (f : ρ → Option τ) : (pI1 st F).bind f = pI1 st fun x r => (F x r).bind f := by unfold pI1; split <;> rfl
theorem nb_I2 (st : List pV) (F : Int32 → Int32 → List pV → Option ρ) (f : ρ → Option τ) : (pI2 st F).bind f = pI2 st fun x y r => (F x y r).bind f := by unfold pI2; split <;> rfl
theorem nb_L2 (st : List pV) (F : Int64 → Int64 → List pV → Option ρ) (f : ρ → Option τ) : (pL2 st F).bind f = pL2 st fun x y r => (F x y r).bind f := by unfold pL2; split <;> rfl
theorem nb_R1 (st : List pV) (F : Nat → Nat → List pV → Option ρ) (f : ρ → Option τ) : (pR1 st F).bind f = pR1 st fun x y r => (F x y r).bind f := by unfold pR1; split <;> rfl
theorem nb_RI (st : List pV) (F : Nat → Nat → Int32 → List pV → Option ρ) (f : ρ → Option τ) : (pRI st F).bind f = pRI st fun x y i r => (F x y i r).bind f := by unfold pRI; split <;> rfl
theorem nb_RII (st : List pV) (F : Nat → Nat → Int32 → Int32 → List pV → Option ρ) (f : ρ → Option τ) : (pRII st F).bind f = pRII st fun x y i z r => (F x y i z r).bind f := by unfold pRII; split <;> rfl
theorem nb_RIL (st : List pV) (F : Nat → Nat → Int32 → Int64 → List pV → Option ρ) (f : ρ → Option τ) : (pRIL st F).bind f = pRIL st fun x y i z r => (F x y i z r).bind f := by unfold pRIL; split <;> rfl
theorem nb_V1 (st : List pV) (F : pV → List pV → Option ρ) (f : ρ → Option τ) : (pV1 st F).bind f = pV1 st fun x r => (F x r).bind f := by unfold pV1; split <;> rfl
theorem nb_V2 (st : List pV) (F : pV → pV → List pV → Option ρ) (f : ρ → Option τ) : (pV2 st F).bind f = pV2 st fun x y r => (F x y r).bind f := by unfold pV2; split <;> rfl
theorem nb_VR (st : List pV) (F : pV → Nat → Nat → List pV → Option ρ) (f : ρ → Option τ) : (pVR st F).bind f = pVR st fun x k j r => (F x k j r).bind f := by unfold pVR; split <;> rfl
theorem nb_E0 (st : List pV) (F : Option ρ) (f : ρ → Option τ) : (pE0 st F).bind f = pE0 st (F.bind f) := by unfold pE0; split <;> rfl
theorem nb_E1 (st : List pV) (F : Int32 → Option ρ) (f : ρ → Option τ) : (pE1 st F).bind f = pE1 st fun x => (F x).bind f := by unfold pE1; split <;> rfl
theorem nb_ER (st : List pV) (F : Nat → Nat → Option ρ) (f : ρ → Option τ) : (pER st F).bind f = pER st fun x y => (F x y).bind f := by unfold pER; split <;> rfl
theorem nb_Arr (S : List pSh) (k j : Nat) (F : Nat → Nat → Option ρ) (f : ρ → Option τ) : (pArr S k j F).bind f = pArr S k j fun t n => (F t n).bind f := by
  unfold pArr
  split
  · rfl
  · split <;> try rfl
    split
    · split <;> rfl
    · rfl
theorem nb_In (i : Int32) (n : Nat) (F : Nat → Option ρ) (f : ρ → Option τ) : (pIn i n F).bind f = pIn i n fun q => (F q).bind f := by unfold pIn; split <;> rfl
theorem nb_LdI (L : pL) (i : Nat) (F : Int32 → Option ρ) (f : ρ → Option τ) : (pLdI L i F).bind f = pLdI L i fun q => (F q).bind f := by unfold pLdI; split <;> rfl
theorem nb_LdR (L : pL) (i : Nat) (F : Nat → Nat → Option ρ) (f : ρ → Option τ) : (pLdR L i F).bind f = pLdR L i fun k j => (F k j).bind f := by unfold pLdR; split <;> rfl
theorem nb_Sto (L : pL) (i : Nat) (v : pV) (F : pL → Option ρ) (f : ρ → Option τ) : (pSto L i v F).bind f = pSto L i v fun q => (F q).bind f := by unfold pSto; split <;> rfl
theorem nb_C1 (v : pV) (F : Option ρ) (f : ρ → Option τ) : (pC1 v F).bind f = pC1 v (F.bind f) := by unfold pC1; split <;> rfl
theorem nb_SwT (x : Int32) (pc : Nat) (offs : List Int) (d : Int) (F : Nat → Option ρ) (f : ρ → Option τ) : ∀ lo : Int, (pSwT x lo pc offs d F).bind f = pSwT x lo pc offs d fun q => (F q).bind f := by
  induction offs with
  | nil => intro lo; rfl
  | cons o t ih =>
    intro lo
    unfold pSwT
    split
    · rfl
    · exact ih _
theorem nb_SwL (x : Int32) (pc : Nat) (ps : List (Int × Int)) (d : Int) (F : Nat → Option ρ) (f : ρ → Option τ) : (pSwL x pc ps d F).bind f = pSwL x pc ps d fun q => (F q).bind f := by
  induction ps with
  | nil => rfl
  | cons o t ih =>
    unfold pSwL
    split
    · rfl
    · exact ih
theorem nb_Obj (S : List pSh) (k j a : Nat) (F : pSh → Option ρ) (f : ρ → Option τ) : (pObj S k j a F).bind f = pObj S k j a fun q => (F q).bind f := by
  unfold pObj
  split
  · rfl
  · split <;> rfl
theorem nb_Get (S : List pSh) (σ : pSt) (k j a b : Nat) (F : pV → Option ρ) (f : ρ → Option τ) : (pGet S σ k j a b F).bind f = pGet S σ k j a b fun q => (F q).bind f := by
  unfold pGet
  rw [nb_Obj]
  congr 1
  funext q
  split <;> try rfl
  split
  · rfl
  · split <;> rfl
theorem nb_Put (S : List pSh) (σ : pSt) (k j a b : Nat) (v : pV) (F : pSt → Option ρ) (f : ρ → Option τ) : (pPut S σ k j a b v F).bind f = pPut S σ k j a b v fun q => (F q).bind f := by
  unfold pPut
  rw [nb_Obj]
  congr 1
  funext q
  split <;> try rfl
  · split <;> rfl
  · split <;> rfl
theorem nb_Ret (a : Nat) (x : Int32) (F : Option ρ) (f : ρ → Option τ) : (pRet a x F).bind f = pRet a x (F.bind f) := by
  unfold pRet
  split <;> try rfl
  · split <;> rfl
  · split <;> rfl
theorem nb_Tk (F : List pV → List pV → Option ρ) (f : ρ → Option τ) : ∀ (n : Nat) (acc st : List pV), (pTk n acc st F).bind f = pTk n acc st fun x y => (F x y).bind f
  | 0, acc, st => by unfold pTk; split <;> rfl
  | n + 1, acc, v :: r => by unfold pTk; rw [nb_C1, nb_Tk F f n]
  | n + 1, acc, [] => rfl
theorem nb_Recv (S : List pSh) (w : Nat) (as : List pV) (F : Option ρ) (f : ρ → Option τ) : (pRecv S w as F).bind f = pRecv S w as (F.bind f) := by
  unfold pRecv
  split
  · rfl
  · split
    · exact nb_Obj _ _ _ _ _ _
    · rfl
theorem nb_Dep (d c : Nat) (F : Nat → Option ρ) (f : ρ → Option τ) : (pDep d c F).bind f = pDep d c fun q => (F q).bind f := by
  unfold pDep
  split
  · split <;> rfl
  · split <;> rfl
theorem nb_Copy (S : List pSh) (σ : pSt) (st : List pV) (F : List pV → pSt → Option ρ) (f : ρ → Option τ) : (pCopy S σ st F).bind f = pCopy S σ st fun x y => (F x y).bind f := by
  unfold pCopy
  split
  · split
    · split <;> rfl
    · rfl
  · rfl
theorem nb_Txt (S : List pSh) (k j : Nat) (T : pTx) (F : List Int32 → Option ρ) (f : ρ → Option τ) : (pTxt S k j T F).bind f = pTxt S k j T fun x => (F x).bind f := by
  unfold pTxt
  split
  · split <;> rfl
  · rfl
theorem nb_ite {q : Prop} {hd : Decidable q} (A B : Option ρ) (f : ρ → Option τ) : (if q then A else B).bind f = if q then A.bind f else B.bind f := by split <;> rfl
end PR
