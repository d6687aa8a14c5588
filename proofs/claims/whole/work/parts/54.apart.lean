/-! one instruction, a run, a function -/
section APART
variable {A B : Nat → Bool} {S : List pSh} {ρ : Type}
set_option maxHeartbeats 4000000 in
theorem cI (hc : clS A B S) (T : pTx) (d pc : Nat) (x : pX) {L : pL} {st : List pV} {σ τ : pSt} (hL : okL A L) (hS : okS A st) {K K' : Nat → pL → List pV → pSt → Option ρ} {C C' : Nat → Nat → List pV → Nat → Nat → pL → List pV → Option ρ} {R R' : Option pV → Option ρ}
    (hK : ∀ pc' L' st' σ', okL A L' → okS A st' → K pc' L' st' (mx B σ' τ) = K' pc' L' st' σ')
    (hC : ∀ me d' as g pc' L' r, okS A as → okL A L' → okS A r → C me d' as g pc' L' r = C' me d' as g pc' L' r)
    (hR : ∀ v, okO A v → R v = R' v) : sI S T d pc x L st (mx B σ τ) K C R = sI S T d pc x L st σ K' C' R' := by
  obtain ⟨ins, a, b, c, w, g, z⟩ := x
  have o1 : ∀ (x : Int32) {r : List pV}, okS A r → okS A (.inl x :: r) := fun x r h => okS.cons (okV.i x) h
  have o2 : ∀ (x : Int64) {r : List pV}, okS A r → okS A (.inr (.inl x) :: r) := fun x r h => okS.cons (okV.l x) h
  have o3 : ∀ {k j : Nat} {r : List pV}, A k = true → okS A r → okS A (.inr (.inr (k, j)) :: r) := fun hk h => okS.cons (okV.r hk) h
  cases ins with
  | ldc i =>
    unfold sI
    dsimp only
    split
    · exact hK _ _ _ _ hL (o1 _ hS)
    · split
      · next e => exact hK _ _ _ _ hL (o3 (hc.1 _ _ e rfl) hS)
      · rfl
  | iload_n i => exact cLdI fun x => hK _ _ _ _ hL (o1 _ hS)
  | iload i => exact cLdI fun x => hK _ _ _ _ hL (o1 _ hS)
  | aload_n i =>
    unfold sI
    dsimp only
    refine cLdR hL fun k j hk => ?_
    exact hK _ _ _ _ hL (o3 hk hS)
  | aload i =>
    unfold sI
    dsimp only
    refine cLdR hL fun k j hk => ?_
    exact hK _ _ _ _ hL (o3 hk hS)
  | istore_n i => exact cI1 hS fun x r hr => cSto hL (okV.i _) fun L' hL' => hK _ _ _ _ hL' hr
  | istore i => exact cI1 hS fun x r hr => cSto hL (okV.i _) fun L' hL' => hK _ _ _ _ hL' hr
  | astore_n i => exact cR1 hS fun k j r hk hr => cSto hL (okV.r hk) fun L' hL' => hK _ _ _ _ hL' hr
  | astore i => exact cR1 hS fun k j r hk hr => cSto hL (okV.r hk) fun L' hL' => hK _ _ _ _ hL' hr
  | iinc i v => exact cLdI fun x => cSto hL (okV.i _) fun L' hL' => hK _ _ _ _ hL' hS
  | ifCond cd o =>
    cases cd <;>
      (refine cI1 hS fun x r hr => ?_
       split <;> exact hK _ _ _ _ hL hr)
  | if_icmp cd o =>
    cases cd <;>
      (refine cI2 hS fun x y r hr => ?_
       split <;> exact hK _ _ _ _ hL hr)
  | tableswitch dd lo hi offs => exact cI1 hS fun x r hr => cSwT (fun t => hK _ _ _ _ hL hr) _ _
  | lookupswitch dd ps => exact cI1 hS fun x r hr => cSwL (fun t => hK _ _ _ _ hL hr) _
  | idiv =>
    refine cI2 hS fun x y r hr => ?_
    split
    · rfl
    · exact hK _ _ _ _ hL (o1 _ hr)
  | irem =>
    refine cI2 hS fun x y r hr => ?_
    split
    · rfl
    · exact hK _ _ _ _ hL (o1 _ hr)
  | i2l => exact cI1 hS fun x r hr => hK _ _ _ _ hL (o2 _ hr)
  | dup => exact cV1 hS fun v r hv hr => cC1 (hK _ _ _ _ hL (okS.cons hv (okS.cons hv hr)))
  | dup2 => exact cV2 hS fun v u r hv hu hr => cC1 (cC1 (hK _ _ _ _ hL (okS.cons hv (okS.cons hu (okS.cons hv (okS.cons hu hr))))))
  | pop => exact cV1 hS fun v r hv hr => cC1 (hK _ _ _ _ hL hr)
  | goto o => exact hK _ _ _ _ hL hS
  | getfield i => exact cR1 hS fun k j r hk hr => cGet hc hk fun v hv => hK _ _ _ _ hL (okS.cons hv hr)
  | putfield i => exact cVR hS fun v k j r hv hk hr => cPut hc hk fun σ' => hK _ _ _ _ hL hr
  | iaload =>
    refine cRI hS fun k j i r hk hr => cArr hc hk fun hb t n => ?_
    split
    · exact cIn fun q => by rw [mx_1 hb]; exact hK _ _ _ _ hL (o1 _ hr)
    · rfl
  | baload =>
    refine cRI hS fun k j i r hk hr => cArr hc hk fun hb t n => ?_
    split
    · exact cIn fun q => by rw [mx_1 hb]; exact hK _ _ _ _ hL (o1 _ hr)
    · exact cIn fun q => by rw [mx_1 hb]; exact hK _ _ _ _ hL (o1 _ hr)
    · rfl
  | laload =>
    refine cRI hS fun k j i r hk hr => cArr hc hk fun hb t n => ?_
    split
    · exact cIn fun q => by rw [mx_2 hb]; exact hK _ _ _ _ hL (o2 _ hr)
    · rfl
  | aaload =>
    refine cRI hS fun k j i r hk hr => ?_
    split
    · next e => exact cIn fun q => cPick _ _ fun y hy => hK _ _ _ _ hL (o3 (hc.2.2.1 _ _ e (hc.2.1 _ _ e (fun z => absurd z (by simp)) hk) rfl y hy) hr)
    · exact cIn fun q => hK _ _ _ _ hL (o3 hk hr)
    · rfl
  | iastore =>
    refine cRII hS fun k j i x r hk hr => cArr hc hk fun hb t n => ?_
    split
    · exact cIn fun q => by rw [mx_dset hb]; exact hK _ _ _ _ hL hr
    · rfl
  | bastore =>
    refine cRII hS fun k j i x r hk hr => cArr hc hk fun hb t n => ?_
    split
    · exact cIn fun q => by rw [mx_dset hb]; exact hK _ _ _ _ hL hr
    · exact cIn fun q => by rw [mx_dset hb]; exact hK _ _ _ _ hL hr
    · rfl
  | lastore =>
    refine cRIL hS fun k j i x r hk hr => cArr hc hk fun hb t n => ?_
    split
    · exact cIn fun q => by rw [mx_lset hb]; exact hK _ _ _ _ hL hr
    · rfl
  | arraylength => exact cR1 hS fun k j r hk hr => cArr hc hk fun hb t n => hK _ _ _ _ hL (o1 _ hr)
  | invokevirtual i =>
    unfold sI
    dsimp only
    split
    · refine cR1 hS fun k j r hk hr => cTxt fun t => ?_
      split
      · exact hK _ _ _ _ hL (o1 _ hr)
      · rfl
    · refine cRI hS fun k j i r hk hr => cTxt fun t => ?_
      split
      · exact cIn fun q => hK _ _ _ _ hL (o1 _ hr)
      · rfl
    · exact cTk (fun as r ha hr => cRecv (cDep fun d' => hC _ _ _ _ _ _ _ ha hL hr)) _ _ _ okS.nil hS
  | invokestatic i =>
    unfold sI
    dsimp only
    split
    · refine cCopy hc hS fun r σ' hr => ?_
      split
      · exact hK _ _ _ _ hL hr
      · rfl
    · refine cI2 hS fun x y r hr => ?_
      split
      · exact hK _ _ _ _ hL (o1 _ hr)
      · rfl
    · refine cI2 hS fun x y r hr => ?_
      split
      · exact hK _ _ _ _ hL (o1 _ hr)
      · rfl
    · exact cTk (fun as r ha hr => cDep fun d' => hC _ _ _ _ _ _ _ ha hL hr) _ _ _ okS.nil hS
  | ireturn => exact cE1 fun x => cRet (hR _ fun v e => by cases e; exact okV.i _)
  | areturn => exact cER hS fun k j hk => hR _ fun v e => by cases e; exact okV.r hk
  | return_ => exact cE0 (hR _ fun v e => by cases e)
  | _ => first
    | exact hK _ _ _ _ hL (o1 _ hS)
    | exact hK _ _ _ _ hL (o2 _ hS)
    | exact cI2 hS fun x y r hr => hK _ _ _ _ hL (o1 _ hr)
    | exact cI1 hS fun x r hr => hK _ _ _ _ hL (o1 _ hr)
    | exact cL2 hS fun x y r hr => hK _ _ _ _ hL (o2 _ hr)
    | exact cL2 hS fun x y r hr => hK _ _ _ _ hL (o1 _ hr)
    | rfl
/-- a run's end, if what it gives is of the kind -/
noncomputable def fin (A B : Nat → Bool) (τ : pSt) (r : pRes) : Option pRes := @ite _ (okO A r.1) (Classical.propDecidable _) (some (r.1, mx B r.2 τ)) none
theorem mix_pr (hc : clS A B S) (P : List pM) (T : pTx) : ∀ (n me d pc : Nat) (L : pL) (st : List pV) (σ τ : pSt), okL A L → okS A st → pr S P T n me d pc L st (mx B σ τ) = (pr S P T n me d pc L st σ).bind (fin A B τ)
  | 0, _, _, _, _, _, _, _, _, _ => rfl
  | n + 1, me, d, pc, L, st, σ, τ, hL, hS => by
    unfold pr
    cases hM : P[me]? with
    | none => rfl
    | some M =>
      dsimp only
      unfold pSt1
      cases hx : pFind pc M.1 with
      | none => rfl
      | some x =>
        dsimp only
        rw [sI_nat]
        refine cI hc T d pc x hL hS (fun pc' L' st' σ' hL' hS' => mix_pr hc P T n me d pc' _ st' σ' τ (hL'.cut M pc') hS') (fun me' d' as g pc' L' r ha hL' hr => ?_) (fun v hv => ?_)
        · rw [mix_pr hc P T n me' d' 0 (pL0 as) [] σ τ (pL0_ok ha) okS.nil]
          have hself := mix_pr hc P T n me' d' 0 (pL0 as) [] σ σ (pL0_ok ha) okS.nil
          rw [mx_self] at hself
          cases hr' : pr S P T n me' d' 0 (pL0 as) [] σ with
          | none => cases g with
            | zero => rfl
            | succ g => cases g <;> rfl
          | some w =>
            rw [hr'] at hself
            obtain ⟨v, σ1⟩ := w
            rw [Option.bind_some] at hself ⊢
            have hv : okO A v := by
              apply Classical.byContradiction
              intro z
              unfold fin at hself
              rw [if_neg z] at hself
              cases hself
            have e : fin A B τ (v, σ1) = some (v, mx B σ1 τ) := if_pos hv
            rw [e]
            match g with
            | 0 =>
              match v with
              | none => exact mix_pr hc P T n me d pc' _ _ σ1 τ (hL'.cut M pc') hr
              | some _ => rfl
            | 1 =>
              match v with
              | some (.inl x) => exact mix_pr hc P T n me d pc' _ _ σ1 τ (hL'.cut M pc') (okS.cons (okV.i x) hr)
              | none => rfl
              | some (.inr _) => rfl
            | g + 2 =>
              match v, hv with
              | some (.inr (.inr y)), hv =>
                unfold pBk pB2
                dsimp only
                by_cases hy : y = (g, 0)
                · rw [if_pos hy, if_pos hy]
                  subst hy
                  exact mix_pr hc P T n me d pc' _ _ σ1 τ (hL'.cut M pc') (okS.cons (hv _ rfl) hr)
                · rw [if_neg hy, if_neg hy]
                  rfl
              | none, _ => rfl
              | some (.inl _), _ => rfl
              | some (.inr (.inl _)), _ => rfl
        · rw [Option.bind_some]
          exact (if_pos hv).symm
theorem mix_ev (hc : clS A B S) (P : List pM) (T : pTx) {me d pc : Nat} {L : pL} {σ : pSt} {r : pRes} (hL : okL A L) (h : ev S P T me d pc L [] σ = some r) (τ : pSt) : ev S P T me d pc L [] (mx B σ τ) = some (r.1, mx B r.2 τ) := by
  obtain ⟨n, hn⟩ := (ev_iff S P T).mp h
  refine (ev_iff S P T).mpr ⟨n, ?_⟩
  have hs := mix_pr hc P T n me d pc L [] σ σ hL okS.nil
  rw [mx_self, hn, Option.bind_some] at hs
  have hv : okO A r.1 := by
    apply Classical.byContradiction
    intro z
    unfold fin at hs
    rw [if_neg z] at hs
    cases hs
  rw [mix_pr hc P T n me d pc L [] σ τ hL okS.nil, hn, Option.bind_some]
  exact if_pos hv
end APART
def aX (k : Nat) : Bool := Nat.blt k 100 || Nat.ble 143 k
def bX (k : Nat) : Bool := Nat.blt k 100
def aM (k : Nat) : Bool := Nat.ble 100 k
def bM (k : Nat) : Bool := Nat.ble 100 k && Nat.blt k 143
def clB (A B : Nat → Bool) (S : List pSh) : Bool := (List.range S.length).all fun k => match S[k]? with
  | none => true
  | some q => (!(Nat.beq q.1 6) || A k) && ((Nat.beq q.1 6) || !(A k) || B k) && (!(B k) || !(Nat.beq q.1 4) || q.2.2.all fun c => (match c with | 0 => true | r + 1 => A r)) && (!(B k) || !(Nat.ble 7 q.1) || q.2.2.all fun c => (match c with | c + 3 => A (pFr c).2 | _ => true))
theorem clB_S {A B : Nat → Bool} {S : List pSh} (h : clB A B S = true) : clS A B S := by
  have key : ∀ k q, S[k]? = some q → ((!(Nat.beq q.1 6) || A k) && ((Nat.beq q.1 6) || !(A k) || B k) && (!(B k) || !(Nat.beq q.1 4) || q.2.2.all fun c => (match c with | 0 => true | r + 1 => A r)) && (!(B k) || !(Nat.ble 7 q.1) || q.2.2.all fun c => (match c with | c + 3 => A (pFr c).2 | _ => true))) = true := by
    intro k q hq
    have hk : k < S.length := (List.getElem?_eq_some_iff.mp hq).1
    have := List.all_eq_true.mp h k (List.mem_range.mpr hk)
    rw [hq] at this
    exact this
  refine ⟨fun k q hq h6 => ?_, fun k q hq h6 hA => ?_, fun k q hq hB h4 r hr => ?_, fun k q hq hB h7 c hcc => ?_⟩
  · have := key k q hq
    simp only [Bool.and_eq_true] at this
    have t := this.1.1.1
    rw [h6] at t
    simpa using t
  · have := key k q hq
    simp only [Bool.and_eq_true] at this
    have t := this.1.1.2
    have e : Nat.beq q.1 6 = false := by
      cases hb : Nat.beq q.1 6 with
      | false => rfl
      | true => exact absurd (Nat.eq_of_beq_eq_true hb) h6
    rw [e, hA] at t
    simpa using t
  · have := key k q hq
    simp only [Bool.and_eq_true] at this
    have t := this.1.2
    rw [h4, hB] at t
    have t2 : (q.2.2.all fun c => (match c with | 0 => true | r + 1 => A r)) = true := by simpa using t
    exact List.all_eq_true.mp t2 (r + 1) hr
  · have := key k q hq
    simp only [Bool.and_eq_true] at this
    have t := this.2
    rw [hB, Nat.ble_eq_true_of_le h7] at t
    have t2 : (q.2.2.all fun c => (match c with | c + 3 => A (pFr c).2 | _ => true)) = true := by simpa using t
    exact List.all_eq_true.mp t2 (c + 3) hcc
theorem clX : clS aX bX Sh := clB_S (by decide +kernel)
theorem clM : clS aM bM Sh := clB_S (by decide +kernel)
/-- a function of the class, of the reference -/
def isX (f : pD → pDL → Option pRes) : Prop := ∃ me d pc L, okL aX L ∧ ∀ D E, f D E = pEv me d pc L [] (D, E)
def isM (f : pD → pDL → Option pRes) : Prop := ∃ me d pc L, okL aM L ∧ ∀ D E, f D E = pEv me d pc L [] (D, E)
def cmb (D1 D2 : pD) : pD := fun k => if k < 100 then D1 k else D2 k
def cmbE (E1 E2 : pDL) : pDL := fun k => if k < 100 then E1 k else E2 k
def cmc (D2 D1 : pD) : pD := fun k => if 100 ≤ k ∧ k < 143 then D2 k else D1 k
def cmcE (E2 E1 : pDL) : pDL := fun k => if 100 ≤ k ∧ k < 143 then E2 k else E1 k
theorem bX_iff {k : Nat} : bX k = true ↔ k < 100 := by
  unfold bX
  rw [Nat.blt_eq]
theorem bM_iff {k : Nat} : bM k = true ↔ 100 ≤ k ∧ k < 143 := by
  unfold bM
  rw [Bool.and_eq_true, Nat.blt_eq, Nat.ble_eq]
theorem mx_X (σ τ : pSt) : mx bX σ τ = (cmb σ.1 τ.1, cmbE σ.2 τ.2) := by
  unfold mx cmb cmbE
  simp only [bX_iff]
theorem mx_M (σ τ : pSt) : mx bM σ τ = (cmc σ.1 τ.1, cmcE σ.2 τ.2) := by
  unfold mx cmc cmcE
  simp only [bM_iff]
theorem X_mix {f : pD → pDL → Option pRes} (hf : isX f) {D D1 D' : pD} {E E1 E' : pDL} {v : Option pV} (h : f D E = some (v, D1, E1)) (hd : ∀ k, k < 100 → D' k = D k) (he : ∀ k, k < 100 → E' k = E k) : f D' E' = some (v, cmb D1 D', cmbE E1 E') := by
  obtain ⟨me, d, pc, L, hL, e⟩ := hf
  rw [e] at h ⊢
  have := mix_ev clX Pr Tx hL h (D', E')
  rw [mx_X, mx_X] at this
  have e1 : cmb D D' = D' := funext fun k => by unfold cmb; split; (next z => exact (hd k z).symm); rfl
  have e2 : cmbE E E' = E' := funext fun k => by unfold cmbE; split; (next z => exact (he k z).symm); rfl
  dsimp only at this
  rw [e1, e2] at this
  exact this
theorem X_keep {f : pD → pDL → Option pRes} (hf : isX f) {D D1 : pD} {E E1 : pDL} {v : Option pV} (h : f D E = some (v, D1, E1)) : (∀ k, 100 ≤ k → D1 k = D k) ∧ ∀ k, 100 ≤ k → E1 k = E k := by
  have := X_mix hf h (fun _ _ => rfl) (fun _ _ => rfl)
  rw [h] at this
  have e := Option.some.inj this
  have e1 := congrArg (fun q : pRes => q.2.1) e
  have e2 := congrArg (fun q : pRes => q.2.2) e
  dsimp only at e1 e2
  constructor
  · intro k hk
    rw [e1]
    exact if_neg (by omega)
  · intro k hk
    rw [e2]
    exact if_neg (by omega)
theorem M_mix {f : pD → pDL → Option pRes} (hf : isM f) {D D1 D' : pD} {E E1 E' : pDL} {v : Option pV} (h : f D E = some (v, D1, E1)) (hd : ∀ k, 100 ≤ k → k < 143 → D' k = D k) (he : ∀ k, 100 ≤ k → k < 143 → E' k = E k) : f D' E' = some (v, cmc D1 D', cmcE E1 E') := by
  obtain ⟨me, d, pc, L, hL, e⟩ := hf
  rw [e] at h ⊢
  have := mix_ev clM Pr Tx hL h (D', E')
  rw [mx_M, mx_M] at this
  have e1 : cmc D D' = D' := funext fun k => by unfold cmc; split; (next z => exact (hd k z.1 z.2).symm); rfl
  have e2 : cmcE E E' = E' := funext fun k => by unfold cmcE; split; (next z => exact (he k z.1 z.2).symm); rfl
  dsimp only at this
  rw [e1, e2] at this
  exact this
theorem M_keep {f : pD → pDL → Option pRes} (hf : isM f) {D D1 : pD} {E E1 : pDL} {v : Option pV} (h : f D E = some (v, D1, E1)) : (∀ k, ¬ (100 ≤ k ∧ k < 143) → D1 k = D k) ∧ ∀ k, ¬ (100 ≤ k ∧ k < 143) → E1 k = E k := by
  have := M_mix hf h (fun _ _ _ => rfl) (fun _ _ _ => rfl)
  rw [h] at this
  have e := Option.some.inj this
  have e1 := congrArg (fun q : pRes => q.2.1) e
  have e2 := congrArg (fun q : pRes => q.2.2) e
  dsimp only at e1 e2
  constructor
  · intro k hk
    rw [e1]
    exact if_neg hk
  · intro k hk
    rw [e2]
    exact if_neg hk
/-- both from one state, and what holds of what they leave -/
def Bo (Q : Option pV → pD → pDL → Prop) (D : pD) (E : pDL) (f g : pD → pDL → Option pRes) : Prop := ∃ v D1 E1 D2 E2, f D E = some (v, D1, E1) ∧ g D E = some (v, D2, E2) ∧ Q v (cmb D1 D2) (cmbE E1 E2)
theorem Bo.step {Q : Option pV → pD → pDL → Prop} {D D1 D2 : pD} {E E1 E2 : pDL} {f g f' g' : pD → pDL → Option pRes} (hf : isX f') (hg : isM g') (e1 : f D E = f' D1 E1) (e2 : g D E = g' D2 E2) (h : Bo Q (cmb D1 D2) (cmbE E1 E2) f' g') : Bo Q D E f g := by
  obtain ⟨v, C1, F1, C2, F2, h1, h2, h3⟩ := h
  have a1 := X_mix hf h1 (D' := D1) (E' := E1) (fun k hk => (if_pos hk).symm) (fun k hk => (if_pos hk).symm)
  have a2 := M_mix hg h2 (D' := D2) (E' := E2) (fun k hk _ => (if_neg (by omega)).symm) (fun k hk _ => (if_neg (by omega)).symm)
  have b2 := M_keep hg h2
  refine ⟨v, _, _, _, _, e1.trans a1, e2.trans a2, ?_⟩
  have q1 : cmb (cmb C1 D1) (cmc C2 D2) = cmb C1 C2 := by
    funext k
    unfold cmb cmc
    by_cases h1 : k < 100
    · simp only [h1, if_true]
    · simp only [h1, if_false]
      by_cases h2 : 100 ≤ k ∧ k < 143
      · rw [if_pos h2]
      · rw [if_neg h2, b2.1 k h2]
        unfold cmb
        rw [if_neg h1]
  have q2 : cmbE (cmbE F1 E1) (cmcE F2 E2) = cmbE F1 F2 := by
    funext k
    unfold cmbE cmcE
    by_cases h1 : k < 100
    · simp only [h1, if_true]
    · simp only [h1, if_false]
      by_cases h2 : 100 ≤ k ∧ k < 143
      · rw [if_pos h2]
      · rw [if_neg h2, b2.2 k h2]
        unfold cmbE
        rw [if_neg h1]
  rw [q1, q2]
  exact h3
/-- a call of both -/
theorem Bo.same {D : pD} {E : pDL} {f g : pD → pDL → Option pRes} (hf : isX f) (hg : isM g) (h : Bo (fun v D' _ => (∃ x, v = some (.inl x)) ∧ Inv D') D E f g) : Same D E f g := by
  obtain ⟨v, D1, E1, D2, E2, h1, h2, ⟨x, rfl⟩, h3⟩ := h
  have k1 := X_keep hf h1
  have k2 := M_keep hg h2
  have a2 := M_mix hg h2 (D' := D1) (E' := E1) (fun k hk _ => k1.1 k hk) (fun k hk _ => k1.2 k hk)
  refine ⟨x, D1, E1, _, _, h1, a2, ?_⟩
  have : cmc D2 D1 = cmb D1 D2 := by
    funext k
    unfold cmb cmc
    by_cases h1 : k < 100
    · rw [if_pos h1, if_neg (by omega)]
    · rw [if_neg h1]
      by_cases h2 : 100 ≤ k ∧ k < 143
      · rw [if_pos h2]
      · rw [if_neg h2, k1.1 k (by omega), k2.1 k h2]
  rw [this]
  exact h3
theorem Bo.of {D D1 D2 : pD} {E E1 E2 : pDL} {f g : pD → pDL → Option pRes} (hf : isX f) (hg : isM g) {v : Int32} (h1 : f D E = some (some (.inl v), D1, E1)) (h2 : g D E = some (some (.inl v), D2, E2)) (h3 : Inv (cmb D1 D2)) : Same D E f g := Bo.same hf hg ⟨_, _, _, _, _, h1, h2, ⟨v, rfl⟩, h3⟩
theorem cmb_x {D1 D2 : pD} {k : Nat} (h : k < 100) : cmb D1 D2 k = D1 k := if_pos h
theorem cmb_m {D1 D2 : pD} {k : Nat} (h : ¬ k < 100) : cmb D1 D2 k = D2 k := if_neg h
theorem okL_nil {A : Nat → Bool} : okL A [] := fun i v h => by simp at h
theorem okL_n {A : Nat → Bool} {L : pL} (h : okL A L) : okL A (none :: L) := fun i v hv => by
  cases i with
  | zero => simp at hv
  | succ i => exact h i v (by simpa using hv)
theorem okL_i {A : Nat → Bool} {L : pL} {x : Int32} (h : okL A L) : okL A (some (.inl x) :: L) := fun i v hv => by
  cases i with
  | zero =>
    simp at hv
    subst hv
    exact okV.i x
  | succ i => exact h i v (by simpa using hv)
theorem okL_r {A : Nat → Bool} {L : pL} {k j : Nat} (hk : A k = true) (h : okL A L) : okL A (some (.inr (.inr (k, j))) :: L) := fun i v hv => by
  cases i with
  | zero =>
    simp at hv
    subst hv
    exact okV.r hk
  | succ i => exact h i v (by simpa using hv)
