/-! OTHER SHAPES: a run that stays among cells whose shapes are the same is the same run -/
section SHAPE
variable {A : Nat → Bool} {ms : Nat → Bool} {S S' : List pSh} {ρ : Type}
def clT (A : Nat → Bool) (S : List pSh) : Prop := (∀ k q, S[k]? = some q → A k = true → q.1 = 4 → ∀ r, r + 1 ∈ q.2.2 → A r = true) ∧ (∀ k q, S[k]? = some q → A k = true → 7 ≤ q.1 → ∀ c, c + 3 ∈ q.2.2 → A (pFr c).2 = true)
def gdX (ms : Nat → Bool) (x : pX) : Prop := match x with
  | (ins, a, b, c, _, g, _) => match ins with
    | .ldc _ => b = 0
    | .invokevirtual _ => c ≠ 0 → ms a = true ∧ g ≤ 1
    | .invokestatic _ => c ≠ 0 → ms a = true ∧ g ≤ 1
    | _ => True
theorem dArr {k j : Nat} {F F' : Nat → Nat → Option ρ} (hs : S'[k]? = S[k]?) (hF : ∀ t n, F t n = F' t n) : pArr S' k j F = pArr S k j F' := by
  unfold pArr
  rw [hs, show F = F' from funext fun t => funext (hF t)]
theorem dObj {k j a : Nat} {F F' : pSh → Option ρ} (hs : S'[k]? = S[k]?) (hF : ∀ q, S[k]? = some q → 7 ≤ q.1 → F q = F' q) : pObj S' k j a F = pObj S k j a F' := by
  unfold pObj
  rw [hs]
  cases hq : S[k]? with
  | none => rfl
  | some q =>
    dsimp only
    cases hn : Nat.beq q.1 (a + 7) with
    | false => rfl
    | true =>
      cases j with
      | zero =>
        have h7 : q.1 = a + 7 := Nat.eq_of_beq_eq_true hn
        exact hF q hq (by omega)
      | succ j => rfl
theorem dGet {σ : pSt} {k j a b : Nat} {F F' : pV → Option ρ} (hc : clT A S) (hs : S'[k]? = S[k]?) (hk : A k = true) (hF : ∀ v, okV A v → F v = F' v) : pGet S' σ k j a b F = pGet S σ k j a b F' := by
  unfold pGet
  refine dObj hs fun q hq h7 => ?_
  split
  · rfl
  · exact hF _ (okV.i _)
  · exact hF _ (okV.l _)
  · exact hF _ (okV.i _)
  · next c hcc =>
    have hA : A (pFr c).2 = true := hc.2 k q hq hk h7 c (List.mem_of_getElem? hcc)
    generalize pFr c = pf at hA ⊢
    obtain ⟨fl, r⟩ := pf
    cases fl with
    | true => exact hF _ (okV.r hA)
    | false =>
      dsimp only
      split
      · exact hF _ (okV.r hA)
      · rfl
theorem dPut {σ : pSt} {k j a b : Nat} {v : pV} {F F' : pSt → Option ρ} (hs : S'[k]? = S[k]?) (hF : ∀ σ', F σ' = F' σ') : pPut S' σ k j a b v F = pPut S σ k j a b v F' := by
  unfold pPut
  rw [show F = F' from funext hF]
  exact dObj hs fun _ _ _ => rfl
theorem dCopy {σ : pSt} {st : List pV} {F F' : List pV → pSt → Option ρ} (hs : ∀ k, A k = true → S'[k]? = S[k]?) (h : okS A st) (hF : ∀ r σ', okS A r → F r σ' = F' r σ') : pCopy S' σ st F = pCopy S σ st F' := by
  unfold pCopy
  split
  · next n dp d sp s r =>
    have hd : A d = true := h.tl.tl.hd
    have hs' : A s = true := h.tl.tl.tl.tl.hd
    rw [hs d hd, hs s hs']
    split
    · split
      · rfl
      · exact hF _ _ h.tl.tl.tl.tl.tl
    · rfl
  · rfl
theorem dTxt {k j : Nat} {T : pTx} {F F' : List Int32 → Option ρ} (hs : S'[k]? = S[k]?) (hF : ∀ t, F t = F' t) : pTxt S' k j T F = pTxt S k j T F' := by
  unfold pTxt
  rw [hs, show F = F' from funext hF]
theorem dRecv {w : Nat} {as : List pV} {F F' : Option ρ} (hs : ∀ k, A k = true → S'[k]? = S[k]?) (h : okS A as) (hF : F = F') : pRecv S' w as F = pRecv S w as F' := by
  unfold pRecv
  split
  · exact hF
  · split
    · exact dObj (hs _ h.hd) fun _ _ _ => hF
    · rfl
set_option maxHeartbeats 4000000 in
theorem dI (hc : clT A S) (hs : ∀ k, A k = true → S'[k]? = S[k]?) (T : pTx) (d pc : Nat) (x : pX) (hg : gdX ms x) {L : pL} {st : List pV} {σ : pSt} (hL : okL A L) (hS : okS A st) {K K' : Nat → pL → List pV → pSt → Option ρ} {C C' : Nat → Nat → List pV → Nat → Nat → pL → List pV → Option ρ} {R R' : Option pV → Option ρ}
    (hK : ∀ pc' L' st' σ', okL A L' → okS A st' → K pc' L' st' σ' = K' pc' L' st' σ')
    (hC : ∀ me d' as g pc' L' r, ms me = true → g ≤ 1 → okS A as → okL A L' → okS A r → C me d' as g pc' L' r = C' me d' as g pc' L' r)
    (hR : ∀ v, R v = R' v) : sI S' T d pc x L st σ K C R = sI S T d pc x L st σ K' C' R' := by
  obtain ⟨ins, a, b, c, w, g, z⟩ := x
  have o1 : ∀ (x : Int32) {r : List pV}, okS A r → okS A (.inl x :: r) := fun x r h => okS.cons (okV.i x) h
  have o2 : ∀ (x : Int64) {r : List pV}, okS A r → okS A (.inr (.inl x) :: r) := fun x r h => okS.cons (okV.l x) h
  have o3 : ∀ {k j : Nat} {r : List pV}, A k = true → okS A r → okS A (.inr (.inr (k, j)) :: r) := fun hk h => okS.cons (okV.r hk) h
  cases ins with
  | ldc i =>
    have hb : b = 0 := hg
    subst hb
    exact hK _ _ _ _ hL (o1 _ hS)
  | iload_n i => exact cLdI fun x => hK _ _ _ _ hL (o1 _ hS)
  | iload i => exact cLdI fun x => hK _ _ _ _ hL (o1 _ hS)
  | aload_n i =>
    unfold sI
    dsimp only
    refine cLdR hL fun k j hk => ?_
    exact hK _ _ _ _ hL (o3 hk hS)
  | aload i =>
    unfold sI
    dsimp only
    refine cLdR hL fun k j hk => ?_
    exact hK _ _ _ _ hL (o3 hk hS)
  | istore_n i => exact cI1 hS fun x r hr => cSto hL (okV.i _) fun L' hL' => hK _ _ _ _ hL' hr
  | istore i => exact cI1 hS fun x r hr => cSto hL (okV.i _) fun L' hL' => hK _ _ _ _ hL' hr
  | astore_n i => exact cR1 hS fun k j r hk hr => cSto hL (okV.r hk) fun L' hL' => hK _ _ _ _ hL' hr
  | astore i => exact cR1 hS fun k j r hk hr => cSto hL (okV.r hk) fun L' hL' => hK _ _ _ _ hL' hr
  | iinc i v => exact cLdI fun x => cSto hL (okV.i _) fun L' hL' => hK _ _ _ _ hL' hS
  | ifCond cd o =>
    cases cd <;>
      (refine cI1 hS fun x r hr => ?_
       split <;> exact hK _ _ _ _ hL hr)
  | if_icmp cd o =>
    cases cd <;>
      (refine cI2 hS fun x y r hr => ?_
       split <;> exact hK _ _ _ _ hL hr)
  | tableswitch dd lo hi offs => exact cI1 hS fun x r hr => cSwT (fun t => hK _ _ _ _ hL hr) _ _
  | lookupswitch dd ps => exact cI1 hS fun x r hr => cSwL (fun t => hK _ _ _ _ hL hr) _
  | idiv =>
    refine cI2 hS fun x y r hr => ?_
    split
    · rfl
    · exact hK _ _ _ _ hL (o1 _ hr)
  | irem =>
    refine cI2 hS fun x y r hr => ?_
    split
    · rfl
    · exact hK _ _ _ _ hL (o1 _ hr)
  | i2l => exact cI1 hS fun x r hr => hK _ _ _ _ hL (o2 _ hr)
  | dup => exact cV1 hS fun v r hv hr => cC1 (hK _ _ _ _ hL (okS.cons hv (okS.cons hv hr)))
  | dup2 => exact cV2 hS fun v u r hv hu hr => cC1 (cC1 (hK _ _ _ _ hL (okS.cons hv (okS.cons hu (okS.cons hv (okS.cons hu hr))))))
  | pop => exact cV1 hS fun v r hv hr => cC1 (hK _ _ _ _ hL hr)
  | goto o => exact hK _ _ _ _ hL hS
  | getfield i => exact cR1 hS fun k j r hk hr => dGet hc (hs k hk) hk fun v hv => hK _ _ _ _ hL (okS.cons hv hr)
  | putfield i => exact cVR hS fun v k j r hv hk hr => dPut (hs k hk) fun σ' => hK _ _ _ _ hL hr
  | iaload =>
    refine cRI hS fun k j i r hk hr => dArr (hs k hk) fun t n => ?_
    split
    · exact cIn fun q => hK _ _ _ _ hL (o1 _ hr)
    · rfl
  | baload =>
    refine cRI hS fun k j i r hk hr => dArr (hs k hk) fun t n => ?_
    split
    · exact cIn fun q => hK _ _ _ _ hL (o1 _ hr)
    · exact cIn fun q => hK _ _ _ _ hL (o1 _ hr)
    · rfl
  | laload =>
    refine cRI hS fun k j i r hk hr => dArr (hs k hk) fun t n => ?_
    split
    · exact cIn fun q => hK _ _ _ _ hL (o2 _ hr)
    · rfl
  | aaload =>
    refine cRI hS fun k j i r hk hr => ?_
    rw [hs k hk]
    split
    · next e => exact cIn fun q => cPick _ _ fun y hy => hK _ _ _ _ hL (o3 (hc.1 _ _ e hk rfl y hy) hr)
    · exact cIn fun q => hK _ _ _ _ hL (o3 hk hr)
    · rfl
  | iastore =>
    refine cRII hS fun k j i x r hk hr => dArr (hs k hk) fun t n => ?_
    split
    · exact cIn fun q => hK _ _ _ _ hL hr
    · rfl
  | bastore =>
    refine cRII hS fun k j i x r hk hr => dArr (hs k hk) fun t n => ?_
    split
    · exact cIn fun q => hK _ _ _ _ hL hr
    · exact cIn fun q => hK _ _ _ _ hL hr
    · rfl
  | lastore =>
    refine cRIL hS fun k j i x r hk hr => dArr (hs k hk) fun t n => ?_
    split
    · exact cIn fun q => hK _ _ _ _ hL hr
    · rfl
  | arraylength => exact cR1 hS fun k j r hk hr => dArr (hs k hk) fun t n => hK _ _ _ _ hL (o1 _ hr)
  | invokevirtual i =>
    unfold sI
    dsimp only
    split
    · refine cR1 hS fun k j r hk hr => dTxt (hs k hk) fun t => ?_
      split
      · exact hK _ _ _ _ hL (o1 _ hr)
      · rfl
    · refine cRI hS fun k j i r hk hr => dTxt (hs k hk) fun t => ?_
      split
      · exact cIn fun q => hK _ _ _ _ hL (o1 _ hr)
      · rfl
    · have h2 := hg (Nat.succ_ne_zero _)
      exact cTk (fun as r ha hr => dRecv hs ha (cDep fun d' => hC _ _ _ _ _ _ _ h2.1 h2.2 ha hL hr)) _ _ _ okS.nil hS
  | invokestatic i =>
    unfold sI
    dsimp only
    split
    · refine dCopy hs hS fun r σ' hr => ?_
      split
      · exact hK _ _ _ _ hL hr
      · rfl
    · refine cI2 hS fun x y r hr => ?_
      split
      · exact hK _ _ _ _ hL (o1 _ hr)
      · rfl
    · refine cI2 hS fun x y r hr => ?_
      split
      · exact hK _ _ _ _ hL (o1 _ hr)
      · rfl
    · have h2 := hg (Nat.succ_ne_zero _)
      exact cTk (fun as r ha hr => cDep fun d' => hC _ _ _ _ _ _ _ h2.1 h2.2 ha hL hr) _ _ _ okS.nil hS
  | ireturn => exact cE1 fun x => cRet (hR _)
  | areturn => exact cER hS fun k j hk => hR _
  | return_ => exact cE0 (hR _)
  | _ => first
    | exact hK _ _ _ _ hL (o1 _ hS)
    | exact hK _ _ _ _ hL (o2 _ hS)
    | exact cI2 hS fun x y r hr => hK _ _ _ _ hL (o1 _ hr)
    | exact cI1 hS fun x r hr => hK _ _ _ _ hL (o1 _ hr)
    | exact cL2 hS fun x y r hr => hK _ _ _ _ hL (o2 _ hr)
    | exact cL2 hS fun x y r hr => hK _ _ _ _ hL (o1 _ hr)
    | rfl
/-- the methods of ms call one another alone, and name no text -/
def gdP (ms : Nat → Bool) (P : List pM) : Prop := ∀ me M, ms me = true → P[me]? = some M → ∀ pc x, pFind pc M.1 = some x → gdX ms x
theorem sh_pr (hc : clT A S) (hs : ∀ k, A k = true → S'[k]? = S[k]?) {P : List pM} (hP : gdP ms P) (T : pTx) : ∀ (n me d pc : Nat) (L : pL) (st : List pV) (σ : pSt), ms me = true → okL A L → okS A st → pr S' P T n me d pc L st σ = pr S P T n me d pc L st σ
  | 0, _, _, _, _, _, _, _, _, _ => rfl
  | n + 1, me, d, pc, L, st, σ, hm, hL, hS => by
    unfold pr
    cases hM : P[me]? with
    | none => rfl
    | some M =>
      dsimp only
      unfold pSt1
      cases hx : pFind pc M.1 with
      | none => rfl
      | some x =>
        dsimp only
        refine dI hc hs T d pc x (hP me M hm hM pc x hx) hL hS (fun pc' L' st' σ' hL' hS' => sh_pr hc hs hP T n me d pc' _ st' σ' hm (hL'.cut M pc') hS') (fun me' d' as g pc' L' r hm' hg ha hL' hr => ?_) (fun v => rfl)
        rw [sh_pr hc hs hP T n me' d' 0 (pL0 as) [] σ hm' (pL0_ok ha) okS.nil]
        match g, hg with
        | 0, _ =>
          unfold pBk pB0
          dsimp only
          split
          · exact sh_pr hc hs hP T n me d pc' _ _ _ hm (hL'.cut M pc') hr
          · rfl
        | 1, _ =>
          unfold pBk pB1
          dsimp only
          split
          · exact sh_pr hc hs hP T n me d pc' _ _ _ hm (hL'.cut M pc') (okS.cons (okV.i _) hr)
          · rfl
theorem sh_ev (hc : clT A S) (hs : ∀ k, A k = true → S'[k]? = S[k]?) {P : List pM} (hP : gdP ms P) (T : pTx) {me d pc : Nat} {L : pL} {σ : pSt} {r : pRes} (hm : ms me = true) (hL : okL A L) (h : ev S P T me d pc L [] σ = some r) : ev S' P T me d pc L [] σ = some r := by
  obtain ⟨n, hn⟩ := (ev_iff S P T).mp h
  exact (ev_iff S' P T).mpr ⟨n, by rw [sh_pr hc hs hP T n me d pc L [] σ hm hL okS.nil]; exact hn⟩
end SHAPE
