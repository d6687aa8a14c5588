def pRoom (d : Nat) : Room := { frames := d + 8, cells := 0, slots := 0, locals := 64 * (d + 8) }
abbrev pInf : Type := MethodName × ByteArray × Nat × Option FieldType
/-- what a call needs of the tables -/
def pXcall (I : List pInf) (tg : List Cond) (own : String) (x : pX) : Prop := match x with
  | (ins, a, b, c, w, _, _) => match ins with
    | .invokevirtual i => c = 0 ∨ ∃ (y : MethodName) (bytes : ByteArray) (maxL : Nat) (ret : Option FieldType) (n : Nat), I[a]? = some (y, bytes, maxL, ret) ∧ Cond.methodLink own i y ∈ tg ∧ Cond.instanceMethod y ∈ tg ∧ Cond.selects y.cls y y ∈ tg ∧ Cond.initialized y.cls ∈ tg ∧ Cond.code y bytes maxL ret ∈ tg ∧ (y.cls ≠ "java/lang/invoke/MethodHandle" ∧ y.cls ≠ "java/lang/invoke/VarHandle") ∧ (parseMethodDescriptor y.desc).map (fun d => d.parameters.length) = some n ∧ b = n + 1 ∧ w ≠ 0 ∧ (∃ q, vwCl[w - 1]? = some q ∧ q.1 = y.cls) ∧ b ≤ maxL ∧ maxL ≤ 40
    | .invokestatic i => c = 0 ∨ ∃ (y : MethodName) (bytes : ByteArray) (maxL : Nat) (ret : Option FieldType), I[a]? = some (y, bytes, maxL, ret) ∧ Cond.methodLink own i y ∈ tg ∧ Cond.static y ∈ tg ∧ Cond.initialized y.cls ∈ tg ∧ Cond.code y bytes maxL ret ∈ tg ∧ (y.cls ≠ "java/lang/invoke/MethodHandle" ∧ y.cls ≠ "java/lang/invoke/VarHandle") ∧ (parseMethodDescriptor y.desc).map (fun d => d.parameters.length) = some b ∧ b ≤ maxL ∧ maxL ≤ 40
    | _ => True
def pXret (ret : Option FieldType) (x : pX) : Prop := match x.1 with
  | .ireturn => (x.2.1 = 0 → ret = some .int) ∧ (x.2.1 = 1 → ret = some .boolean) ∧ (x.2.1 = 2 → ret = some .char)
  | .areturn => ∃ t, ret = some t ∧ ((∃ n, t = .object n) ∨ ∃ q, t = .array q)
  | .return_ => ret = none
  | _ => True
def pPok (P : List pM) (I : List pInf) (tg : List Cond) (Xs : String → pX → Prop) : Prop := ∀ (me : Nat) (M : pM), P[me]? = some M → ∃ (y : MethodName) (bytes : ByteArray) (maxL : Nat) (ret : Option FieldType), I[me]? = some (y, bytes, maxL, ret) ∧ plainName y.cls = true ∧
  ∀ (pc : Nat) (x : pX), pFind pc M.1 = some x → decode bytes pc = .ok (x.1, pLen x.1 x.2.2.1) ∧ pXex y.cls tg maxL pc x ∧ pXcall I tg y.cls x ∧ pXret ret x ∧ Xs y.cls x
theorem pBk_inv {ρ : Type} {o : ρ} {q : Option pRes} {g : Nat} {F : List pV → pSt → Option ρ} (h : pBk q g F = some o) : ∃ v σ, q = some (v, σ) ∧ F v.toList σ = some o := by
  unfold pBk at h
  split at h
  · unfold pB0 at h
    split at h
    · exact ⟨_, _, rfl, h⟩
    · cases h
  · unfold pB1 at h
    split at h
    · exact ⟨_, _, rfl, h⟩
    · cases h
  · unfold pB2 at h
    split at h
    · split at h
      · next e => subst e; exact ⟨_, _, rfl, h⟩
      · cases h
    · cases h
theorem lv_args_get {ad : Nat → Nat → Nat} : ∀ (as : List pV), (∀ v ∈ as, ∀ y, v ≠ .inr (.inl y)) → ∀ (i j : Nat) (v : pV), as[j]? = some v → (i + j, rv ad v) ∈ lv_args i (as.map (rv ad))
  | [], _, _, _, _, h => by cases h
  | a :: t, hc, i, 0, v, h => by
    cases h
    exact List.mem_cons_self
  | a :: t, hc, i, j + 1, v, h => by
    have h1 : (rv ad a).category = 1 := rv_cat1 (hc a List.mem_cons_self)
    have h2 := lv_args_get (ad := ad) t (fun v hv => hc v (List.mem_cons_of_mem _ hv)) (i + 1) j v h
    show _ ∈ (i, rv ad a) :: lv_args (if (rv ad a).category = 2 then i + 2 else i + 1) (t.map (rv ad))
    rw [if_neg (by omega), show i + (j + 1) = i + 1 + j by omega]
    exact List.mem_cons_of_mem _ h2
theorem lg_sl_len {ad : Nat → Nat → Nat} : ∀ (as : List pV), (∀ v ∈ as, ∀ y, v ≠ .inr (.inl y)) → (lg_sl (as.map (rv ad))).length = as.length
  | [], _ => rfl
  | a :: t, hc => by
    have h1 : (rv ad a).category = 1 := rv_cat1 (hc a List.mem_cons_self)
    have h2 := lg_sl_len (ad := ad) t (fun v hv => hc v (List.mem_cons_of_mem _ hv))
    unfold lg_sl at h2 ⊢
    rw [List.map_cons, List.flatMap_cons, if_neg (by omega), List.length_append, h2]
    simp
    omega
theorem pL0_lv {ad : Nat → Nat → Nat} {as : List pV} {ls : Array Slot} {n : Nat} (hc : ∀ v ∈ as, ∀ y, v ≠ .inr (.inl y)) (h : lv_has ls n (lv_args 0 (as.map (rv ad)))) : pLv ad ls n (pL0 as) := by
  refine ⟨h.1, h.2.1, fun i v hi _ => ?_⟩
  have hv : as[i]? = some v := by
    unfold pL0 at hi
    by_cases hl : i < as.length
    · rw [List.getElem?_append_left (by simpa using hl), List.getElem?_map] at hi
      cases ha : as[i]? with
      | none => rw [ha] at hi; cases hi
      | some w => rw [ha] at hi; simp at hi; rw [hi]
    · rw [List.getElem?_append_right (by simpa using hl)] at hi
      have hm := List.mem_of_getElem? hi
      simp at hm
  have := h.2.2 _ (lv_args_get as hc 0 i v hv)
  simpa using this
section PRUN
variable (l : Launch) (S : List pSh) (P : List pM) (T : pTx) (I : List pInf) (tg : List Cond) (ad : Nat → Nat → Nat) (un : Nat) (cA : Nat → ClassId) (dg : va_G) (A : Nat → Prop) (Z : State → Prop) (Xs : String → pX → Prop)
def pPc (as : List pV) (σ : pSt) : Array Value → State → Prop := va_Pc (as.map (rv ad)) (fun U => pWo S ad un cA dg σ U.heap ∧ va_K dg vwCl (pTys cA) U ∧ Z U)
def pQc (v : Option pV) (σ : pSt) : Array Value → State → Outcome → State → Prop := fun _ st oc t => oc = .returned (v.map (rv ad)) ∧ pWo S ad un cA dg σ t.heap ∧ va_F A st t
/-- what holds of the whole program -/
def pAll : Prop := (∀ w ∈ tg, goodWord w = true) ∧ pClOk tg ∧ pShOk S ∧ pAp S ad un cA A ∧ pPrim tg ∧ pPok P I tg Xs ∧
  (∀ s U : State, s.WarmedH U.vm → s.heap.size ≤ U.heap.size → (∀ q : Nat, q < s.heap.size → ¬ A q → U.heap[q]? = s.heap[q]?) → Z s → Z U) ∧ (∀ (U : State) (g : JFrame) (mk : MethodId) (a : Array Value), Z U → Z (U.calling g mk a)) ∧
  ∀ (p : Program) (e : Env) (d : Nat) (s : State) (m : MethodId) (args : Array Value) (below : List Frame) (meth : Method) (c : Code) (Q : State → Prop) (nL : Nat) (cc : ByteArray) (own : String) (pc : Nat) (x : pX), p.tables.exec = Jvm.exec → c.code = cc → c.maxLocals = nL → s.vm.findClass own = some m.cls → (∀ w ∈ tg, w.before args s = true) → va_K dg vwCl (pTys cA) s → Z s → decode cc pc = .ok (x.1, pLen x.1 x.2.2.1) → Xs own x → pStr p l e (pRoom d) s m args below meth c Q S ad un cA dg A s.heap nL cc T pc x
variable {l S P T I tg ad un cA dg A Z Xs}
theorem pPc_blind (hZc : ∀ (U : State) (g : JFrame) (mk : MethodId) (a : Array Value), Z U → Z (U.calling g mk a)) {as : List pV} {σ : pSt} : FrameBlind (pPc S ad un cA dg Z as σ) := by
  intro a U g mk q
  obtain ⟨q0, q1, q2, q3⟩ := q
  exact ⟨q0, q1, va_K.moved (u := U) (U := U.calling g mk a) (Vm.Alike.refl U.vm) q2, hZc U g mk a q3⟩
/-- behind a call -/
theorem g_call {p : Program} {e : Env} {R : Room} {s : State} {m : MethodId} {args : Array Value} {below : List Frame} {meth : Method} {c : Code} {Q : State → Prop} {H H0 : Heap} {locs : List Loc} {nL pc : Nat} {L : pL} {ls : Array Slot} {st0 : List Value} {r : List pV} {v : Option pV} {σ' : pSt} {a : Array Value}
    (hr : va_Run p l e R s m args below meth c H locs 0 0 0 0 (F0 m pc ls st0) (r.map (rv ad)) (pQc S ad un cA dg A v σ' a) A) (hS : va_S A H0 H locs) (hL : pLv ad ls nL L) (kk : pG p l e R s m args below meth c Q S ad un cA dg A H0 nL (pc + 3) L (v.toList ++ r) σ') : W p l e R s m args below meth c H locs 0 0 Q (F0 m pc ls st0) := by
  intro T2 hT X
  obtain ⟨v', st₀, t, T', LL, h0, X', hLL, e1, e2, ⟨hv, hw, hz, hk⟩, stp⟩ := hr T2 hT X
  rw [h0] at hz hk
  have hv : v' = v.map (rv ad) := by injection hv
  subst hv
  obtain ⟨t2, a1, b1⟩ := kk T'.heap (locs ++ LL) ls (by rw [e1]; exact hw) ⟨Nat.le_trans hS.1 (by rw [e1]; exact hz), fun q h1 h2 => by rw [e1, hk q (Nat.lt_of_lt_of_le h1 hS.1) h2]; exact hS.2.1 q h1 h2, fun q hq => by
      rcases List.mem_append.mp hq with h | h
      · exact hS.2.2 q h
      · exact hLL q h⟩ hL T' rfl X'
  refine ⟨t2, stp t2 ?_, b1⟩
  have e3 : (v.toList ++ r).map (rv ad) = (v.map (rv ad)).toList ++ r.map (rv ad) := by cases v <;> simp
  rw [e3] at a1
  exact a1
theorem pFrame (hA : pAll l S P T I tg ad un cA dg A Z Xs) : ∀ (n me d pc : Nat) (L : pL) (st : List pV) (σ : pSt) (res : pRes), pr S P T n me d pc L st σ = some res → ∀ (y : MethodName) (bytes : ByteArray) (maxL : Nat) (ret : Option FieldType), I[me]? = some (y, bytes, maxL, ret) →
    ∀ (p : Program) (e : Env) (s : State) (m : MethodId) (args : Array Value) (below : List Frame) (meth : Method) (c : Code), p.tables.exec = Jvm.exec → c.code = bytes → meth.sig.returnType = ret → c.maxLocals = maxL → s.vm.findClass y.cls = some m.cls → (∀ w ∈ tg, w.before args s = true) → meth.locks = false → va_K dg vwCl (pTys cA) s → Z s →
    pG p l e (pRoom d) s m args below meth c (MQ below (pQc S ad un cA dg A res.1 res.2) args s 0 0 A) S ad un cA dg A s.heap maxL pc L st σ := by
  obtain ⟨hG, hCl, hSh, hJ, hCo, hPk, hZ, hZc, hXs⟩ := id hA
  intro n
  induction n with
  | zero => intro me d pc L st σ res h; cases h
  | succ n ih =>
    intro me d pc L st σ res h y bytes maxL ret hI p e s m args below meth c hx hb hr hml hown hts hlocks hK hZs
    unfold pr at h
    cases hM : P[me]? with
    | none => rw [hM] at h; cases h
    | some M =>
      rw [hM] at h
      dsimp only at h
      unfold pSt1 at h
      obtain ⟨y2, bytes2, maxL2, ret2, hI2, hpl, hall⟩ := hPk me M hM
      rw [hI] at hI2
      cases hI2
      cases hfx : pFind pc M.1 with
      | none => rw [hfx] at h; cases h
      | some x =>
        rw [hfx] at h
        dsimp only at h
        obtain ⟨hdec, hX, hXc, hXr, hXx⟩ := hall pc x hfx
        have hgood : ∀ ws : List Cond, (∀ w ∈ ws, w ∈ tg) → GoodIn tg ws := fun ws hw w h => ⟨hw w h, good_of_word (hG w (hw w h))⟩
        have hmet : ∀ (me' d' : Nat) (as : List pV) (v : Option pV) (σ' : pSt), pr S P T n me' d' 0 (pL0 as) [] σ = some (v, σ') → ∀ (y' : MethodName) (bytes' : ByteArray) (maxL' : Nat) (ret' : Option FieldType), I[me']? = some (y', bytes', maxL', ret') → (∀ v ∈ as, ∀ y, v ≠ .inr (.inl y)) → as.length ≤ maxL' → Met l y' (Cond.code y' bytes' maxL' ret' :: tg) (pRoom d') (pPc S ad un cA dg Z as σ) (pQc S ad un cA dg A v σ') 0 0 A := by
          intro me' d' as v σ' hrun y' bytes' maxL' ret' hI' hcat hlen
          have hpl' : plainName y'.cls = true := by
            cases n with
            | zero => cases hrun
            | succ n =>
              unfold pr at hrun
              cases hM' : P[me']? with
              | none => rw [hM'] at hrun; cases hrun
              | some M' =>
                obtain ⟨y3, b3, m3, r3, hI3, hp3, -⟩ := hPk me' M' hM'
                rw [hI'] at hI3
                cases hI3
                exact hp3
          refine Met.ofW (cc := bytes') (maxL := maxL') (ret := ret') hpl' rfl ?_
          intro p2 e2 s2 m2 args2 below2 meth2 c2 s₁ B hml2 hv
          obtain ⟨rfl, hW, hK2, hZ2⟩ := hv
          have hts2 := atoms_spec (ws := Cond.code y' bytes' maxL' ret' :: tg) B.pre
          have hl := lv_entry (as.map (rv ad)) (n := maxL') (by rw [lg_sl_len as hcat]; exact hlen)
          rw [lg_entry_eq]
          exact ih me' d' 0 (pL0 as) [] σ (v, σ') hrun y' bytes' maxL' ret' hI' p2 e2 s2 m2 _ below2 meth2 c2 B.exec B.bytes B.returns hml2 (findClass_of_methodNamed B.named) (fun w hw => hts2 w (List.mem_cons_of_mem _ hw)) B.notSynchronized hK2 hZ2 s2.heap [] _ hW va_S.rf (pL0_lv hcat hl)
        have hnw : nativeFrameWords "java/lang/System" "arraycopy" 5 = 7 := by decide +kernel
        have hRo : 1 ≤ (pRoom d).frames ∧ 8 + (nativeFrameWords "java/lang/System" "arraycopy" 5 + 11) ≤ (pRoom d).locals := by
          rw [hnw]
          refine ⟨?_, ?_⟩
          · show 1 ≤ d + 8
            omega
          · show 8 + (7 + 11) ≤ 64 * (d + 8)
            omega
        refine sound_step (d := d) hx hb hml hts hCl hown hK hJ hSh hCo hRo (by show 21 ≤ 64 * (d + 8); omega) hdec hX (hXs p e d s m args below meth c _ maxL bytes y.cls pc x hx hb hml hown hts hK hZs hdec hXx) ?_ ?_ ?_ ?_ ?_ ?_ h
        · intro pc' L' st' σ' hk H locs ls hW hS hL
          exact ih me d pc' _ st' σ' res hk y bytes maxL ret hI p e s m args below meth c hx hb hr hml hown hts hlocks hK hZs H locs ls hW hS (hL.mask (pCut_sub M pc' L'))
        · intro i a b c' w gk z as r d' hxe hst hlen hcat hrm hrc hd hC H locs ls hW hS hL
          subst hxe
          obtain ⟨v, σ', hrun, hk⟩ := pBk_inv hC
          rcases hXc with hc0 | ⟨y', bytes', maxL', ret', nn, hI', w1, w2, w3, w4, w5, w6, w7, w8, w9, ⟨qc, w10, w10b⟩, w11, w12⟩
          · exact absurd hc0 (Nat.succ_ne_zero _)
          · rcases hrc with hw0 | ⟨ci, k, nk, fs, t, rfl, rfl, hq⟩
            · exact absurd hw0 w9
            · have hM' := hmet a d' _ v σ' hrun y' bytes' maxL' ret' hI' hcat (by rw [hlen]; exact w11)
              have hrest := Rm_sum (ad := ad) hrm
              refine g_call (v := v) (σ' := σ') (L := L) (r := r) (va_runV (As := t.map (rv ad)) (b := ad k 0) (C := y'.cls) ⟨hx, hb, hml, hown, hts⟩ hM' (cwV nn hts (hgood _ (fun q hq2 => ?_)) rfl rfl rfl ⟨rfl, w6.1, w6.2, w7⟩ ⟨?_, ?_⟩) ⟨pPc_blind hZc, ?_, ?_⟩ rfl ?_ hL.1 ?_ (lv_room hrest) hdec ⟨Nat.le_refl _, Nat.le_refl _⟩) hS hL ?_
              · unfold wsV at hq2
                simp only [List.cons_append, List.nil_append, List.mem_cons] at hq2
                rcases hq2 with rfl | rfl | rfl | rfl | rfl | h5
                · exact w1
                · exact w2
                · exact w3
                · exact w4
                · exact w5
                · exact h5
              · show d' + 8 + 1 ≤ d + 8
                omega
              · show 8 + (maxL' + 11) + 64 * (d' + 8) ≤ 64 * (d + 8)
                omega
              · rw [Nat.add_sub_cancel] at w10
                have := va_recv (q0 := 0) hK (hW.sing (pCe_obj hq σ)) w10 rfl
                rw [w10b] at this
                exact this
              · intro U hU hWm
                refine ⟨rfl, by rw [hU]; exact hW, va_K.moved hWm.alike hK, hZ s U hWm (by rw [hU]; exact hS.1) (fun q h1 h2 => by rw [hU]; exact hS.2.1 q h1 h2) hZs⟩
              · rw [List.length_map]
                have := hlen
                rw [List.length_cons] at this
                omega
              · rw [hst]
                simp [rv]
              · intro H1 locs1 ls1 hW1 hS1 hL1
                exact ih me d _ _ _ σ' res hk y bytes maxL ret hI p e s m args below meth c hx hb hr hml hown hts hlocks hK hZs H1 locs1 ls1 hW1 hS1 (hL1.mask (pCut_sub M _ _))
        · intro i a b c' w gk z as r d' hxe hst hlen hcat hrm hd hC H locs ls hW hS hL
          subst hxe
          obtain ⟨v, σ', hrun, hk⟩ := pBk_inv hC
          rcases hXc with hc0 | ⟨y', bytes', maxL', ret', hI', w1, w2, w4, w5, w6, w7, w11, w12⟩
          · exact absurd hc0 (Nat.succ_ne_zero _)
          · have hM' := hmet a d' _ v σ' hrun y' bytes' maxL' ret' hI' hcat (by rw [hlen]; exact w11)
            have hrest := Rm_sum (ad := ad) hrm
            refine g_call (v := v) (σ' := σ') (L := L) (r := r) (va_runS (As := as.map (rv ad)) ⟨hx, hb, hml, hown, hts⟩ hM' (va_cwS b hts (hgood _ (fun q hq2 => ?_)) rfl rfl rfl ⟨w6.1, w6.2, w7⟩ ⟨?_, ?_⟩) ⟨pPc_blind hZc, ?_⟩ rfl ?_ hL.1 ?_ (lv_room hrest) hdec ⟨Nat.le_refl _, Nat.le_refl _⟩) hS hL ?_
            · unfold va_wsS at hq2
              simp only [List.cons_append, List.nil_append, List.mem_cons] at hq2
              rcases hq2 with rfl | rfl | rfl | rfl | h5
              · exact w1
              · exact w2
              · exact w4
              · exact w5
              · exact h5
            · show d' + 8 + 1 ≤ d + 8
              omega
            · show 8 + (maxL' + 11) + 64 * (d' + 8) ≤ 64 * (d + 8)
              omega
            · intro U hU hWm
              refine ⟨rfl, by rw [hU]; exact hW, va_K.moved hWm.alike hK, hZ s U hWm (by rw [hU]; exact hS.1) (fun q h1 h2 => by rw [hU]; exact hS.2.1 q h1 h2) hZs⟩
            · rw [List.length_map]
              exact hlen
            · rw [hst]
              simp
            · intro H1 locs1 ls1 hW1 hS1 hL1
              exact ih me d _ _ _ σ' res hk y bytes maxL ret hI p e s m args below meth c hx hb hr hml hown hts hlocks hK hZs H1 locs1 ls1 hW1 hS1 (hL1.mask (pCut_sub M _ _))
        · intro v hx1 hst hrt hR H locs ls hW hS hL
          cases hR
          subst hst
          obtain ⟨ins, a, b, c', w, gk, z⟩ := x
          dsimp only at hx1
          subst hx1
          obtain ⟨r0, r1, r2⟩ := hXr
          have hq : ∀ t : State, t.heap = H → s.WarmedH t.vm → pQc S ad un cA dg A (some (.inl v)) σ args s (.returned (some (.int v))) t := fun t ht _ => ⟨rfl, by rw [ht]; exact hW, hS.F ht⟩
          rcases hrt with e0 | ⟨e0, hv⟩ | ⟨e0, hv⟩
          · exact W.zret (ty := .int) hx hb (by rw [hr]; exact r0 e0) rfl hq hS.2.2 hdec hlocks
          · exact W.zret (ty := .boolean) hx hb (by rw [hr]; exact r1 e0) (by show Value.int (v &&& 1) = _; rw [hv]) hq hS.2.2 hdec hlocks
          · exact W.zret (ty := .char) hx hb (by rw [hr]; exact r2 e0) (char_nar hv).1 hq hS.2.2 hdec hlocks
        · intro q hx1 hst hR H locs ls hW hS hL
          cases hR
          subst hst
          obtain ⟨ins, a, b, c', w, gk, z⟩ := x
          dsimp only at hx1
          subst hx1
          obtain ⟨t0, ht0, hrf⟩ := hXr
          exact W.aret (rt := t0) hx hb (by rw [hr]; exact ht0) hrf (Or.inr ⟨_, rfl⟩) (fun t ht _ => ⟨rfl, by rw [ht]; exact hW, hS.F ht⟩) hS.2.2 hdec hlocks
        · intro hx1 hst hR H locs ls hW hS hL
          cases hR
          subst hst
          obtain ⟨ins, a, b, c', w, gk, z⟩ := x
          dsimp only at hx1
          subst hx1
          exact W.vret hx hb (by rw [hr]; exact hXr) (fun t ht _ => ⟨rfl, by rw [ht]; exact hW, hS.F ht⟩) hS.2.2 hdec hlocks
/-- A METHOD'S CONTRACT out of its pure run -/
theorem pMet (hA : pAll l S P T I tg ad un cA dg A Z Xs) {me d : Nat} {as : List pV} {σ σ' : pSt} {v : Option pV} (h : ev S P T me d 0 (pL0 as) [] σ = some (v, σ')) {y : MethodName} {bytes : ByteArray} {maxL : Nat} {ret : Option FieldType} (hI : I[me]? = some (y, bytes, maxL, ret)) (hp : plainName y.cls = true) (hcat : ∀ v ∈ as, ∀ y, v ≠ .inr (.inl y)) (hlen : as.length ≤ maxL) : Met l y (Cond.code y bytes maxL ret :: tg) (pRoom d) (pPc S ad un cA dg Z as σ) (pQc S ad un cA dg A v σ') 0 0 A := by
  obtain ⟨n, hrun⟩ := (ev_iff S P T).mp h
  refine Met.ofW (cc := bytes) (maxL := maxL) (ret := ret) hp rfl ?_
  intro p2 e2 s2 m2 args2 below2 meth2 c2 s₁ B hml2 hv
  obtain ⟨rfl, hW, hK2, hZ2⟩ := hv
  have hts2 := atoms_spec (ws := Cond.code y bytes maxL ret :: tg) B.pre
  have hl := lv_entry (as.map (rv ad)) (n := maxL) (by rw [lg_sl_len as hcat]; exact hlen)
  rw [lg_entry_eq]
  exact pFrame hA n me d 0 (pL0 as) [] σ (v, σ') hrun y bytes maxL ret hI p2 e2 s2 m2 _ below2 meth2 c2 B.exec B.bytes B.returns hml2 (findClass_of_methodNamed B.named) (fun w hw => hts2 w (List.mem_cons_of_mem _ hw)) B.notSynchronized hK2 hZ2 s2.heap [] _ hW va_S.rf (pL0_lv hcat hl)
end PRUN
