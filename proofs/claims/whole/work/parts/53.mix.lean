/-! TWO WORLDS APART: a run whose references are of one kind alone neither reads nor writes the other cells -/
section MIX
variable (A B : Nat → Bool)
def mx (σ τ : pSt) : pSt := (fun k => if B k = true then σ.1 k else τ.1 k, fun k => if B k = true then σ.2 k else τ.2 k)
def okV (v : pV) : Prop := match v with
  | .inr (.inr q) => A q.1 = true
  | _ => True
def okS (st : List pV) : Prop := ∀ v ∈ st, okV A v
def okL (L : pL) : Prop := ∀ (i : Nat) (v : pV), L[i]? = some (some v) → okV A v
def okO (o : Option pV) : Prop := ∀ v, o = some v → okV A v
/-- the kind is closed -/
def clS (S : List pSh) : Prop := (∀ k q, S[k]? = some q → q.1 = 6 → A k = true) ∧ (∀ k q, S[k]? = some q → q.1 ≠ 6 → A k = true → B k = true) ∧ (∀ k q, S[k]? = some q → B k = true → q.1 = 4 → ∀ r, r + 1 ∈ q.2.2 → A r = true) ∧ (∀ k q, S[k]? = some q → B k = true → 7 ≤ q.1 → ∀ c, c + 3 ∈ q.2.2 → A (pFr c).2 = true)
variable {A B}
theorem okS.nil : okS A [] := fun _ h => by cases h
theorem okS.cons {v : pV} {st : List pV} (h : okV A v) (hs : okS A st) : okS A (v :: st) := fun w hw => by
  rcases List.mem_cons.mp hw with rfl | q
  · exact h
  · exact hs w q
theorem okS.tl {v : pV} {st : List pV} (h : okS A (v :: st)) : okS A st := fun w hw => h w (List.mem_cons_of_mem _ hw)
theorem okS.hd {v : pV} {st : List pV} (h : okS A (v :: st)) : okV A v := h v List.mem_cons_self
theorem okS.app {st st' : List pV} (h : okS A st) (h' : okS A st') : okS A (st ++ st') := fun w hw => by
  rcases List.mem_append.mp hw with q | q
  · exact h w q
  · exact h' w q
theorem okV.i (x : Int32) : okV A (.inl x) := True.intro
theorem okV.l (x : Int64) : okV A (.inr (.inl x)) := True.intro
theorem okV.r {k j : Nat} (h : A k = true) : okV A (.inr (.inr (k, j))) := h
theorem pL0_ok {as : List pV} (h : okS A as) : okL A (pL0 as) := by
  intro i v hv
  have hm := List.mem_of_getElem? hv
  unfold pL0 at hm
  rcases List.mem_append.mp hm with q | q
  · obtain ⟨w, hw, e⟩ := List.mem_map.mp q
    cases e
    exact h _ hw
  · simp at q
theorem okL.cut {L : pL} (h : okL A L) (M : pM) (pc : Nat) : okL A (pCut M pc L) := fun i v hv => h i v (pCut_sub M pc L i v hv)
theorem mx_1 {σ τ : pSt} {k : Nat} (h : B k = true) : (mx B σ τ).1 k = σ.1 k := if_pos h
theorem mx_2 {σ τ : pSt} {k : Nat} (h : B k = true) : (mx B σ τ).2 k = σ.2 k := if_pos h
theorem mx_self (σ : pSt) : mx B σ σ = σ := by
  unfold mx
  simp
theorem mx_dset {σ τ : pSt} {k j i : Nat} {x : Int32} (h : B k = true) : (dset (mx B σ τ).1 k j i x, (mx B σ τ).2) = mx B (dset σ.1 k j i x, σ.2) τ := by
  unfold mx
  congr 1
  funext k' j'
  unfold dset
  by_cases e : k' = k ∧ j' = j
  · obtain ⟨rfl, rfl⟩ := e
    simp [h]
  · rw [if_neg e]
    by_cases hb : B k' = true
    · simp only [hb, if_true]
      rw [if_neg e]
    · simp only [hb]
      rfl
theorem mx_lset {σ τ : pSt} {k i : Nat} {x : Int64} (h : B k = true) : ((mx B σ τ).1, lset (mx B σ τ).2 k i x) = mx B (σ.1, lset σ.2 k i x) τ := by
  unfold mx
  congr 1
  funext k'
  unfold lset
  by_cases e : k' = k
  · subst e
    simp [h]
  · rw [if_neg e]
    by_cases hb : B k' = true
    · simp only [hb, if_true]
      rw [if_neg e]
    · simp only [hb]
      rfl
theorem mx_dcpy {σ τ : pSt} {s sp d dp n : Nat} (hs : B s = true) (h : B d = true) : (dcpy (mx B σ τ).1 s sp d dp n, (mx B σ τ).2) = mx B (dcpy σ.1 s sp d dp n, σ.2) τ := by
  unfold mx
  congr 1
  funext k' j'
  unfold dcpy
  by_cases e : k' = d ∧ j' = 0
  · obtain ⟨rfl, rfl⟩ := e
    simp [h, hs]
  · rw [if_neg e]
    by_cases hb : B k' = true
    · simp only [hb, if_true]
      rw [if_neg e]
    · simp only [hb]
      rfl
variable {ρ : Type}
theorem cI1 {st : List pV} {F F' : Int32 → List pV → Option ρ} (h : okS A st) (hF : ∀ x r, okS A r → F x r = F' x r) : pI1 st F = pI1 st F' := by
  unfold pI1
  split
  · exact hF _ _ h.tl
  · rfl
theorem cI2 {st : List pV} {F F' : Int32 → Int32 → List pV → Option ρ} (h : okS A st) (hF : ∀ x y r, okS A r → F x y r = F' x y r) : pI2 st F = pI2 st F' := by
  unfold pI2
  split
  · exact hF _ _ _ h.tl.tl
  · rfl
theorem cL2 {st : List pV} {F F' : Int64 → Int64 → List pV → Option ρ} (h : okS A st) (hF : ∀ x y r, okS A r → F x y r = F' x y r) : pL2 st F = pL2 st F' := by
  unfold pL2
  split
  · exact hF _ _ _ h.tl.tl
  · rfl
theorem cR1 {st : List pV} {F F' : Nat → Nat → List pV → Option ρ} (h : okS A st) (hF : ∀ k j r, A k = true → okS A r → F k j r = F' k j r) : pR1 st F = pR1 st F' := by
  unfold pR1
  split
  · exact hF _ _ _ h.hd h.tl
  · rfl
theorem cRI {st : List pV} {F F' : Nat → Nat → Int32 → List pV → Option ρ} (h : okS A st) (hF : ∀ k j i r, A k = true → okS A r → F k j i r = F' k j i r) : pRI st F = pRI st F' := by
  unfold pRI
  split
  · exact hF _ _ _ _ h.tl.hd h.tl.tl
  · rfl
theorem cRII {st : List pV} {F F' : Nat → Nat → Int32 → Int32 → List pV → Option ρ} (h : okS A st) (hF : ∀ k j i x r, A k = true → okS A r → F k j i x r = F' k j i x r) : pRII st F = pRII st F' := by
  unfold pRII
  split
  · exact hF _ _ _ _ _ h.tl.tl.hd h.tl.tl.tl
  · rfl
theorem cRIL {st : List pV} {F F' : Nat → Nat → Int32 → Int64 → List pV → Option ρ} (h : okS A st) (hF : ∀ k j i x r, A k = true → okS A r → F k j i x r = F' k j i x r) : pRIL st F = pRIL st F' := by
  unfold pRIL
  split
  · exact hF _ _ _ _ _ h.tl.tl.hd h.tl.tl.tl
  · rfl
theorem cV1 {st : List pV} {F F' : pV → List pV → Option ρ} (h : okS A st) (hF : ∀ v r, okV A v → okS A r → F v r = F' v r) : pV1 st F = pV1 st F' := by
  unfold pV1
  split
  · exact hF _ _ h.hd h.tl
  · rfl
theorem cV2 {st : List pV} {F F' : pV → pV → List pV → Option ρ} (h : okS A st) (hF : ∀ v u r, okV A v → okV A u → okS A r → F v u r = F' v u r) : pV2 st F = pV2 st F' := by
  unfold pV2
  split
  · exact hF _ _ _ h.hd h.tl.hd h.tl.tl
  · rfl
theorem cVR {st : List pV} {F F' : pV → Nat → Nat → List pV → Option ρ} (h : okS A st) (hF : ∀ v k j r, okV A v → A k = true → okS A r → F v k j r = F' v k j r) : pVR st F = pVR st F' := by
  unfold pVR
  split
  · exact hF _ _ _ _ h.hd h.tl.hd h.tl.tl
  · rfl
theorem cE1 {st : List pV} {F F' : Int32 → Option ρ} (hF : ∀ x, F x = F' x) : pE1 st F = pE1 st F' := by
  unfold pE1
  split
  · exact hF _
  · rfl
theorem cER {st : List pV} {F F' : Nat → Nat → Option ρ} (h : okS A st) (hF : ∀ k j, A k = true → F k j = F' k j) : pER st F = pER st F' := by
  unfold pER
  split
  · exact hF _ _ h.hd
  · rfl
theorem cLdI {L : pL} {i : Nat} {F F' : Int32 → Option ρ} (hF : ∀ x, F x = F' x) : pLdI L i F = pLdI L i F' := by
  unfold pLdI
  split
  · exact hF _
  · rfl
theorem cLdR {L : pL} {i : Nat} {F F' : Nat → Nat → Option ρ} (h : okL A L) (hF : ∀ k j, A k = true → F k j = F' k j) : pLdR L i F = pLdR L i F' := by
  unfold pLdR
  split
  · next q hq => exact hF _ _ (h i _ hq)
  · rfl
theorem cSto {L : pL} {i : Nat} {v : pV} {F F' : pL → Option ρ} (h : okL A L) (hv : okV A v) (hF : ∀ L', okL A L' → F L' = F' L') : pSto L i v F = pSto L i v F' := by
  unfold pSto
  split
  · refine hF _ fun k w hk => ?_
    rw [List.getElem?_set] at hk
    split at hk
    · split at hk
      · cases hk
        exact hv
      · cases hk
    · exact h k w hk
  · rfl
theorem cC1 {v : pV} {F F' : Option ρ} (hF : F = F') : pC1 v F = pC1 v F' := by rw [hF]
theorem cIn {i : Int32} {n : Nat} {F F' : Nat → Option ρ} (hF : ∀ q, F q = F' q) : pIn i n F = pIn i n F' := by
  unfold pIn
  split
  · rfl
  · exact hF _
theorem cSwT {x : Int32} {pc : Nat} {d : Int} {F F' : Nat → Option ρ} (hF : ∀ q, F q = F' q) (offs : List Int) (lo : Int) : pSwT x lo pc offs d F = pSwT x lo pc offs d F' := by rw [show F = F' from funext hF]
theorem cSwL {x : Int32} {pc : Nat} {d : Int} {F F' : Nat → Option ρ} (hF : ∀ q, F q = F' q) (ps : List (Int × Int)) : pSwL x pc ps d F = pSwL x pc ps d F' := by rw [show F = F' from funext hF]
theorem cTxt {S : List pSh} {k j : Nat} {T : pTx} {F F' : List Int32 → Option ρ} (hF : ∀ t, F t = F' t) : pTxt S k j T F = pTxt S k j T F' := by rw [show F = F' from funext hF]
theorem cRecv {S : List pSh} {w : Nat} {as : List pV} {F F' : Option ρ} (hF : F = F') : pRecv S w as F = pRecv S w as F' := by rw [hF]
theorem cRet {a : Nat} {x : Int32} {F F' : Option ρ} (hF : F = F') : pRet a x F = pRet a x F' := by rw [hF]
theorem cE0 {st : List pV} {F F' : Option ρ} (hF : F = F') : pE0 st F = pE0 st F' := by rw [hF]
theorem cDep {d c : Nat} {F F' : Nat → Option ρ} (hF : ∀ q, F q = F' q) : pDep d c F = pDep d c F' := by rw [show F = F' from funext hF]
theorem cTk {F F' : List pV → List pV → Option ρ} (hF : ∀ as r, okS A as → okS A r → F as r = F' as r) : ∀ (n : Nat) (acc st : List pV), okS A acc → okS A st → pTk n acc st F = pTk n acc st F'
  | 0, acc, st, ha, hs => by
    unfold pTk
    split
    · exact hF _ _ ha hs
    · rfl
  | n + 1, acc, v :: r, ha, hs => by
    unfold pTk
    rw [cTk hF n (v :: acc) r (okS.cons hs.hd ha) hs.tl]
  | n + 1, acc, [], _, _ => rfl
theorem cPick {F F' : Nat → Option ρ} : ∀ (fs : List Nat) (j : Nat), (∀ y, y + 1 ∈ fs → F y = F' y) → pPick fs j F = pPick fs j F'
  | [], _, _ => rfl
  | c :: t, j, h => by
    unfold pPick
    split
    · cases c with
      | zero => rfl
      | succ r => exact h r List.mem_cons_self
    · exact cPick t _ (fun y hy => h y (List.mem_cons_of_mem _ hy))
section
variable {S : List pSh} (hc : clS A B S)
theorem cArr {k j : Nat} {F F' : Nat → Nat → Option ρ} (hc : clS A B S) (hk : A k = true) (hF : B k = true → ∀ t n, F t n = F' t n) : pArr S k j F = pArr S k j F' := by
  by_cases hb : B k = true
  · rw [show F = F' from funext fun t => funext (hF hb t)]
  · unfold pArr
    cases hq : S[k]? with
    | none => rfl
    | some q =>
      obtain ⟨kd, n, fs⟩ := q
      have h6 : kd = 6 := Classical.byContradiction fun z => hb (hc.2.1 k _ hq z hk)
      subst h6
      rfl
theorem cObj {k j a : Nat} {F F' : pSh → Option ρ} (hc : clS A B S) (hk : A k = true) (hF : B k = true → ∀ q, S[k]? = some q → 7 ≤ q.1 → F q = F' q) : pObj S k j a F = pObj S k j a F' := by
  unfold pObj
  cases hq : S[k]? with
  | none => rfl
  | some q =>
    dsimp only
    cases hn : Nat.beq q.1 (a + 7) with
    | false => rfl
    | true =>
      cases j with
      | zero =>
        have h7 : q.1 = a + 7 := Nat.eq_of_beq_eq_true hn
        exact hF (hc.2.1 k q hq (by omega) hk) q hq (by omega)
      | succ j => rfl
theorem cGet {σ τ : pSt} {k j a b : Nat} {F F' : pV → Option ρ} (hc : clS A B S) (hk : A k = true) (hF : ∀ v, okV A v → F v = F' v) : pGet S (mx B σ τ) k j a b F = pGet S σ k j a b F' := by
  unfold pGet
  refine cObj hc hk fun hb q hq h7 => ?_
  have e1 : (mx B σ τ).1 k = σ.1 k := mx_1 hb
  have e2 : (mx B σ τ).2 k = σ.2 k := mx_2 hb
  split
  · rfl
  · rw [e1]
    exact hF _ (okV.i _)
  · rw [e2]
    exact hF _ (okV.l _)
  · rw [e1]
    exact hF _ (okV.i _)
  · next c hcc =>
    have hA : A (pFr c).2 = true := hc.2.2.2 k q hq hb h7 c (List.mem_of_getElem? hcc)
    rw [e1]
    generalize pFr c = pf at hA ⊢
    obtain ⟨fl, r⟩ := pf
    cases fl with
    | true => exact hF _ (okV.r hA)
    | false =>
      dsimp only
      split
      · exact hF _ (okV.r hA)
      · rfl
theorem cPut {σ τ : pSt} {k j a b : Nat} {v : pV} {F F' : pSt → Option ρ} (hc : clS A B S) (hk : A k = true) (hF : ∀ σ', F (mx B σ' τ) = F' σ') : pPut S (mx B σ τ) k j a b v F = pPut S σ k j a b v F' := by
  unfold pPut
  refine cObj hc hk fun hb q hq h7 => ?_
  split
  · rw [mx_dset hb]
    exact hF _
  · rw [mx_lset hb]
    exact hF _
  · split
    · rw [mx_dset hb]
      exact hF _
    · rfl
  · split
    · rw [mx_dset hb]
      exact hF _
    · rfl
  · rfl
theorem cCopy {σ τ : pSt} {st : List pV} {F F' : List pV → pSt → Option ρ} (hc : clS A B S) (h : okS A st) (hF : ∀ r σ', okS A r → F r (mx B σ' τ) = F' r σ') : pCopy S (mx B σ τ) st F = pCopy S σ st F' := by
  unfold pCopy
  split
  · next n dp d sp s r =>
    have hd : A d = true := h.tl.tl.hd
    have hs : A s = true := h.tl.tl.tl.tl.hd
    split
    · next e1 e2 =>
      split
      · rfl
      · rw [mx_dcpy (hc.2.1 s _ e1 (fun z => absurd z (by simp)) hs) (hc.2.1 d _ e2 (fun z => absurd z (by simp)) hd)]
        exact hF _ _ h.tl.tl.tl.tl.tl
    · rfl
  · rfl
end
end MIX
