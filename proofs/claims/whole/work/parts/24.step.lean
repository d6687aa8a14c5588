/-- the receiver is of its sort -/
def pRecvOk (S : List pSh) (w : Nat) (as : List pV) : Prop := ∃ ci k n fs t, w = ci + 1 ∧ as = .inr (.inr (k, 0)) :: t ∧ S[k]? = some (ci + 7, n, fs)
/-- the words of the members that are rows of the kit -/
def pPrim (Ts : List Cond) : Prop := (Cond.native arraycopyName ∈ Ts ∧ Cond.static arraycopyName ∈ Ts ∧ Cond.initialized "java/lang/System" ∈ Ts) ∧ Cond.initialized "java/lang/Math" ∈ Ts ∧ (Cond.static Lib.Math.max.name ∈ Ts ∧ Cond.code Lib.Math.max.name Lib.Math.max.code 2 (some .int) ∈ Ts) ∧ Cond.static Lib.Math.min.name ∈ Ts ∧ Cond.code Lib.Math.min.name Lib.Math.min.code 2 (some .int) ∈ Ts
def pRetOk (a : Nat) (x : Int32) : Prop := a = 0 ∨ (a = 1 ∧ x &&& 1 = x) ∨ (a = 2 ∧ (x.toUInt32 % 65536).toInt32 = x)
section PG4
variable {p : Program} {l : Launch} {e : Env} {R : Room} {s : State} {m : MethodId} {args : Array Value} {below : List Frame} {meth : Method} {c : Code} {Q : State → Prop} {S : List pSh} {ad : Nat → Nat → Nat} {un : Nat} {cA : Nat → ClassId} {dg : va_G} {A : Nat → Prop} {H0 : Heap} {nL : Nat}
variable {cc : ByteArray} {pc : Nat} {L : pL} {st r : List pV} {σ : pSt}
theorem Recv_inv {ρ : Type} {o : ρ} {w : Nat} {as : List pV} {F : Option ρ} (h : pRecv S w as F = some o) : (w = 0 ∨ pRecvOk S w as) ∧ F = some o := by
  unfold pRecv at h
  split at h
  · exact ⟨Or.inl rfl, h⟩
  · split at h
    · obtain ⟨n, fs, h1, h2, h3⟩ := Obj_inv h
      subst h2
      exact ⟨Or.inr ⟨_, _, n, fs, _, rfl, rfl, h1⟩, h3⟩
    · cases h
theorem Ret_inv {ρ : Type} {o : ρ} {a : Nat} {x : Int32} {F : Option ρ} (h : pRet a x F = some o) : pRetOk a x ∧ F = some o := by
  unfold pRet at h
  split at h
  · exact ⟨Or.inl rfl, h⟩
  · split at h
    · next q => exact ⟨Or.inr (Or.inl ⟨rfl, q⟩), h⟩
    · cases h
  · split at h
    · next q => exact ⟨Or.inr (Or.inr ⟨rfl, q⟩), h⟩
    · cases h
  · cases h
theorem char_nar {x : Int32} (h : (x.toUInt32 % 65536).toInt32 = x) : narrow .char (.int x) = .int x ∧ fits .char (.int x) = true := by
  have h1 := pk_nc x
  have h2 := pk_fc x
  rw [h] at h1 h2
  exact ⟨h1, h2⟩
theorem rv_fr {cd : Nat} {q : pSt} {k b : Nat} {r2 : Nat} (h : pFr cd = (true, r2)) : rv ad (.inr (.inr (r2, 0))) = pFv ad un (q.1 k 0) (q.2 k) b (cd + 3) := by
  show Value.ref (ad r2 0) = pFa ad un (pFr cd) _
  rw [h]
  rfl
theorem rv_frd {cd : Nat} {q : pSt} {k b : Nat} {r2 : Nat} (h : pFr cd = (false, r2)) (h1 : q.1 k 0 b = 1) : rv ad (.inr (.inr (r2, 0))) = pFv ad un (q.1 k 0) (q.2 k) b (cd + 3) := by
  show Value.ref (ad r2 0) = pFa ad un (pFr cd) _
  rw [h, h1]
  rfl
/-- texts: what the rows of this method need of them -/
def pStr (p : Program) (l : Launch) (e : Env) (R : Room) (s : State) (m : MethodId) (args : Array Value) (below : List Frame) (meth : Method) (c : Code) (Q : State → Prop) (S : List pSh) (ad : Nat → Nat → Nat) (un : Nat) (cA : Nat → ClassId) (dg : va_G) (A : Nat → Prop) (H0 : Heap) (nL : Nat) (cc : ByteArray) (T : pTx) (pc : Nat) (x : pX) : Prop := match x with
  | (ins, a, b, c', _, _, _) => match ins with
    | .ldc i => b ≠ 0 → ∀ (L : pL) (st : List pV) (σ : pSt), pG p l e R s m args below meth c Q S ad un cA dg A H0 nL (pc + 2) L (.inr (.inr (a, 0)) :: st) σ → pG p l e R s m args below meth c Q S ad un cA dg A H0 nL pc L st σ
    | .invokevirtual i => c' = 0 → (b = 0 → ∀ (L : pL) (r : List pV) (σ : pSt) (k n : Nat) (fs : List Nat) (t : List Int32), S[k]? = some (6, n, fs) → T[n]? = some t → pRm 8 r = true → pG p l e R s m args below meth c Q S ad un cA dg A H0 nL (pc + 3) L (.inl (nI t.length) :: r) σ → pG p l e R s m args below meth c Q S ad un cA dg A H0 nL pc L (.inr (.inr (k, 0)) :: r) σ) ∧
      (b ≠ 0 → ∀ (L : pL) (r : List pV) (σ : pSt) (k n : Nat) (fs : List Nat) (t : List Int32) (i : Int32), S[k]? = some (6, n, fs) → T[n]? = some t → pRm 8 r = true → vp_in i t.length → pG p l e R s m args below meth c Q S ad un cA dg A H0 nL (pc + 3) L (.inl (t.getD i.toNatClampNeg 0) :: r) σ → pG p l e R s m args below meth c Q S ad un cA dg A H0 nL pc L (.inl i :: .inr (.inr (k, 0)) :: r) σ)
    | _ => True

theorem Txt_inv {ρ : Type} {o : ρ} {k j : Nat} {T : pTx} {F : List Int32 → Option ρ} (h : pTxt S k j T F = some o) : ∃ n fs t, S[k]? = some (6, n, fs) ∧ j = 0 ∧ T[n]? = some t ∧ F t = some o := by
  unfold pTxt at h
  split at h
  · next hq =>
    split at h
    · next ht => exact ⟨_, _, _, hq, rfl, ht, h⟩
    · cases h
  · cases h
theorem Copy_inv {ρ : Type} {o : ρ} {F : List pV → pSt → Option ρ} (h : pCopy S σ st F = some o) : ∃ (n dp : Int32) (d : Nat) (sp : Int32) (s0 ns nd : Nat) (r : List pV), st = .inl n :: .inl dp :: .inr (.inr (d, 0)) :: .inl sp :: .inr (.inr (s0, 0)) :: r ∧ pNi S ad un cA s0 0 0 ns ∧ pNi S ad un cA d 0 0 nd ∧ ¬ sp < 0 ∧ ¬ dp < 0 ∧ ¬ n < 0 ∧ sp.toNatClampNeg + n.toNatClampNeg ≤ ns ∧ dp.toNatClampNeg + n.toNatClampNeg ≤ nd ∧ F r (dcpy σ.1 s0 sp.toNatClampNeg d dp.toNatClampNeg n.toNatClampNeg, σ.2) = some o := by
  unfold pCopy at h
  split at h
  · split at h
    · next q1 q2 =>
      split at h
      · cases h
      · next hc =>
        refine ⟨_, _, _, _, _, _, _, _, rfl, ⟨_, q1, fun f g => rfl⟩, ⟨_, q2, fun f g => rfl⟩, fun z => hc (Or.inl z), fun z => hc (Or.inr (Or.inl z)), fun z => hc (Or.inr (Or.inr (Or.inl z))), ?_, ?_, h⟩
        · exact Nat.not_lt.mp fun z => hc (Or.inr (Or.inr (Or.inr (Or.inl z))))
        · exact Nat.not_lt.mp fun z => hc (Or.inr (Or.inr (Or.inr (Or.inr z))))
    · cases h
  · cases h
set_option maxHeartbeats 4000000 in
theorem sound_step {ρ : Type} {o : ρ} (hx : p.tables.exec = Jvm.exec) (hb : c.code = cc) (hml : c.maxLocals = nL) {own : String} {Ts : List Cond} (hts : ∀ w ∈ Ts, w.before args s = true) (hCl : pClOk Ts) (hown : s.vm.findClass own = some m.cls) (hK : va_K dg vwCl (pTys cA) s) (hJ : pAp S ad un cA A) (hSh : pShOk S)
    (hCo : pPrim Ts) (hRo : 1 ≤ R.frames ∧ 8 + (nativeFrameWords "java/lang/System" "arraycopy" 5 + 11) ≤ R.locals) (hRm : 21 ≤ R.locals)
    {T : pTx} {d : Nat} {x : pX} {K : Nat → pL → List pV → pSt → Option ρ} {C : Nat → Nat → List pV → Nat → Nat → pL → List pV → Option ρ} {Rr : Option pV → Option ρ}
    (hdec : decode cc pc = .ok (x.1, pLen x.1 x.2.2.1)) (hX : pXex own Ts nL pc x) (hStr : pStr p l e R s m args below meth c Q S ad un cA dg A H0 nL cc T pc x)
    (hKk : ∀ pc' L' st' σ', K pc' L' st' σ' = some o → pG p l e R s m args below meth c Q S ad un cA dg A H0 nL pc' L' st' σ')
    (hCv : ∀ (i a b c' w gk : Nat) (z : Int32) (as r : List pV) (d' : Nat), x = (.invokevirtual i, a, b, c' + 1, w, gk, z) → st = as.reverse ++ r → as.length = b → (∀ v ∈ as, ∀ y, v ≠ .inr (.inl y)) → pRm 8 r = true → (w = 0 ∨ pRecvOk S w as) → d' < d → C a d' as gk (pc + 3) L r = some o → pG p l e R s m args below meth c Q S ad un cA dg A H0 nL pc L st σ)
    (hCs : ∀ (i a b c' w gk : Nat) (z : Int32) (as r : List pV) (d' : Nat), x = (.invokestatic i, a, b, c' + 1, w, gk, z) → st = as.reverse ++ r → as.length = b → (∀ v ∈ as, ∀ y, v ≠ .inr (.inl y)) → pRm 8 r = true → d' < d → C a d' as gk (pc + 3) L r = some o → pG p l e R s m args below meth c Q S ad un cA dg A H0 nL pc L st σ)
    (hRi : ∀ v : Int32, x.1 = .ireturn → st = [.inl v] → pRetOk x.2.1 v → Rr (some (.inl v)) = some o → pG p l e R s m args below meth c Q S ad un cA dg A H0 nL pc L st σ)
    (hRa : ∀ q : Nat × Nat, x.1 = .areturn → st = [.inr (.inr q)] → Rr (some (.inr (.inr q))) = some o → pG p l e R s m args below meth c Q S ad un cA dg A H0 nL pc L st σ)
    (hRv : x.1 = .return_ → st = [] → Rr none = some o → pG p l e R s m args below meth c Q S ad un cA dg A H0 nL pc L st σ)
    (h : sI S T d pc x L st σ K C Rr = some o) : pG p l e R s m args below meth c Q S ad un cA dg A H0 nL pc L st σ := by
  obtain ⟨ins, a, b, c', w, gk, z⟩ := x
  cases ins with
  | iconst n =>
    unfold sI at h
    dsimp only at h
    clear hCv hCs hRi hRa hRv
    exact fun H locs ls hW hS hL => lv_iconst hx hb hdec hX (hKk _ _ _ _ h H locs ls hW hS hL)
  | bipush n =>
    unfold sI at h
    dsimp only at h
    clear hCv hCs hRi hRa hRv
    exact fun H locs ls hW hS hL => lv_bipush hx hb hdec hX (hKk _ _ _ _ h H locs ls hW hS hL)
  | sipush n =>
    unfold sI at h
    dsimp only at h
    clear hCv hCs hRi hRa hRv
    exact fun H locs ls hW hS hL => lv_sipush hx hb hdec hX (hKk _ _ _ _ h H locs ls hW hS hL)
  | ldc i =>
    unfold sI at h
    dsimp only at h
    clear hCv hCs hRi hRa hRv
    cases b with
    | zero => exact fun H locs ls hW hS hL => lv_ldc hx hb hown (hts _ (hX rfl)) hdec (hKk _ _ _ _ h H locs ls hW hS hL)
    | succ b =>
      have h : (match S[a]? with | some (6, _, _) => K (pc + 2) L (.inr (.inr (a, 0)) :: st) σ | _ => none) = some o := h
      split at h
      · exact hStr (Nat.succ_ne_zero b) L st σ (hKk _ _ _ _ h)
      · cases h
  | ldc_w i =>
    unfold sI at h
    dsimp only at h
    clear hCv hCs hRi hRa hRv
    exact fun H locs ls hW hS hL => lv_ldcw hx hb hown (hts _ hX) hdec (hKk _ _ _ _ h H locs ls hW hS hL)
  | ldc2_w i =>
    unfold sI at h
    dsimp only at h
    clear hCv hCs hRi hRa hRv
    exact fun H locs ls hW hS hL => lv_ldc2 hx hb hown (hts _ hX) hdec (hKk _ _ _ _ h H locs ls hW hS hL)
  | lconst n =>
    unfold sI at h
    dsimp only at h
    clear hCv hCs hRi hRa hRv
    exact fun H locs ls hW hS hL => lv_lconst (v := lN a) hx hb hdec (by rw [show (n : Nat) = a from hX]; rfl) (hKk _ _ _ _ h H locs ls hW hS hL)
  | iload_n n =>
    unfold sI at h
    dsimp only at h
    clear hCv hCs hRi hRa hRv
    obtain ⟨x, hl, hN⟩ := LdI_inv h; clear h; have h := hN; clear hN; exact g_iload_n hx hb hdec hX hl (hKk _ _ _ _ h)
  | iload n =>
    unfold sI at h
    dsimp only at h
    clear hCv hCs hRi hRa hRv
    obtain ⟨x, hl, hN⟩ := LdI_inv h; clear h; have h := hN; clear hN; obtain rfl := hX; exact g_iload hx hb hdec hl (hKk _ _ _ _ h)
  | aload_n n =>
    unfold sI at h
    dsimp only at h
    clear hCv hCs hRi hRa hRv
    obtain ⟨k, j, hl, hN⟩ := LdR_inv h; clear h; have h := hN; clear hN; exact g_aload_n hx hb hdec hX hl (hKk _ _ _ _ h)
  | aload n =>
    unfold sI at h
    dsimp only at h
    clear hCv hCs hRi hRa hRv
    obtain ⟨k, j, hl, hN⟩ := LdR_inv h; clear h; have h := hN; clear hN; obtain rfl := hX; exact g_aload hx hb hdec hl (hKk _ _ _ _ h)
  | istore_n n =>
    unfold sI at h
    dsimp only at h
    clear hCv hCs hRi hRa hRv
    obtain ⟨x, r, rfl, hN⟩ := I1_inv h; clear h; have h := hN; clear hN; exact g_istore_n hx hb hdec hX.1 hX.2 (hKk _ _ _ _ (Sto_inv h))
  | istore n =>
    unfold sI at h
    dsimp only at h
    clear hCv hCs hRi hRa hRv
    obtain ⟨x, r, rfl, hN⟩ := I1_inv h; clear h; have h := hN; clear hN; obtain ⟨rfl, hlt⟩ := hX; exact g_istore hx hb hdec hlt (hKk _ _ _ _ (Sto_inv h))
  | astore_n n =>
    unfold sI at h
    dsimp only at h
    clear hCv hCs hRi hRa hRv
    obtain ⟨k, j, r, rfl, hN⟩ := R1_inv h; clear h; have h := hN; clear hN; exact g_astore_n hx hb hdec hX.1 hX.2 (hKk _ _ _ _ (Sto_inv h))
  | astore n =>
    unfold sI at h
    dsimp only at h
    clear hCv hCs hRi hRa hRv
    obtain ⟨k, j, r, rfl, hN⟩ := R1_inv h; clear h; have h := hN; clear hN; obtain ⟨rfl, hlt⟩ := hX; exact g_astore hx hb hdec hlt (hKk _ _ _ _ (Sto_inv h))
  | iinc n q =>
    unfold sI at h
    dsimp only at h
    clear hCv hCs hRi hRa hRv
    obtain ⟨x, hl, hN⟩ := LdI_inv h; clear h; have h := hN; clear hN; obtain ⟨rfl, hz, hlt⟩ := hX; exact g_iinc hx hb hdec hz hlt hl (hKk _ _ _ _ (Sto_inv h))
  | iadd =>
    unfold sI at h
    dsimp only at h
    clear hCv hCs hRi hRa hRv
    obtain ⟨x, y, r, rfl, hN⟩ := I2_inv h; clear h; have h := hN; clear hN; exact fun H locs ls hW hS hL => lv_iadd hx hb hdec (hKk _ _ _ _ h H locs ls hW hS hL)
  | isub =>
    unfold sI at h
    dsimp only at h
    clear hCv hCs hRi hRa hRv
    obtain ⟨x, y, r, rfl, hN⟩ := I2_inv h; clear h; have h := hN; clear hN; exact fun H locs ls hW hS hL => lv_isub hx hb hdec (hKk _ _ _ _ h H locs ls hW hS hL)
  | imul =>
    unfold sI at h
    dsimp only at h
    clear hCv hCs hRi hRa hRv
    obtain ⟨x, y, r, rfl, hN⟩ := I2_inv h; clear h; have h := hN; clear hN; exact fun H locs ls hW hS hL => lv_imul hx hb hdec (hKk _ _ _ _ h H locs ls hW hS hL)
  | iand =>
    unfold sI at h
    dsimp only at h
    clear hCv hCs hRi hRa hRv
    obtain ⟨x, y, r, rfl, hN⟩ := I2_inv h; clear h; have h := hN; clear hN; exact fun H locs ls hW hS hL => lv_iand hx hb hdec (hKk _ _ _ _ h H locs ls hW hS hL)
  | ior =>
    unfold sI at h
    dsimp only at h
    clear hCv hCs hRi hRa hRv
    obtain ⟨x, y, r, rfl, hN⟩ := I2_inv h; clear h; have h := hN; clear hN; exact fun H locs ls hW hS hL => lv_ior hx hb hdec (hKk _ _ _ _ h H locs ls hW hS hL)
  | ixor =>
    unfold sI at h
    dsimp only at h
    clear hCv hCs hRi hRa hRv
    obtain ⟨x, y, r, rfl, hN⟩ := I2_inv h; clear h; have h := hN; clear hN; exact fun H locs ls hW hS hL => lv_ixor hx hb hdec (hKk _ _ _ _ h H locs ls hW hS hL)
  | ishl =>
    unfold sI at h
    dsimp only at h
    clear hCv hCs hRi hRa hRv
    obtain ⟨x, y, r, rfl, hN⟩ := I2_inv h; clear h; have h := hN; clear hN; exact fun H locs ls hW hS hL => lv_ishl hx hb hdec (hKk _ _ _ _ h H locs ls hW hS hL)
  | ishr =>
    unfold sI at h
    dsimp only at h
    clear hCv hCs hRi hRa hRv
    obtain ⟨x, y, r, rfl, hN⟩ := I2_inv h; clear h; have h := hN; clear hN; exact fun H locs ls hW hS hL => lv_ishr hx hb hdec (hKk _ _ _ _ h H locs ls hW hS hL)
  | iushr =>
    unfold sI at h
    dsimp only at h
    clear hCv hCs hRi hRa hRv
    obtain ⟨x, y, r, rfl, hN⟩ := I2_inv h; clear h; have h := hN; clear hN; exact fun H locs ls hW hS hL => lv_iushr hx hb hdec rfl (hKk _ _ _ _ h H locs ls hW hS hL)
  | idiv =>
    unfold sI at h
    dsimp only at h
    clear hCv hCs hRi hRa hRv
    obtain ⟨x, y, r, rfl, hN⟩ := I2_inv h; clear h; have h := hN; clear hN
    split at h
    · cases h
    · next hne => exact fun H locs ls hW hS hL => lv_idiv hx hb hdec hne (hKk _ _ _ _ h H locs ls hW hS hL)
  | irem =>
    unfold sI at h
    dsimp only at h
    clear hCv hCs hRi hRa hRv
    obtain ⟨x, y, r, rfl, hN⟩ := I2_inv h; clear h; have h := hN; clear hN
    split at h
    · cases h
    · next hne => exact fun H locs ls hW hS hL => lv_irem hx hb hdec hne (hKk _ _ _ _ h H locs ls hW hS hL)
  | ladd =>
    unfold sI at h
    dsimp only at h
    clear hCv hCs hRi hRa hRv
    obtain ⟨x, y, r, rfl, hN⟩ := L2_inv h; clear h; have h := hN; clear hN; exact fun H locs ls hW hS hL => lv_ladd hx hb hdec (hKk _ _ _ _ h H locs ls hW hS hL)
  | lsub =>
    unfold sI at h
    dsimp only at h
    clear hCv hCs hRi hRa hRv
    obtain ⟨x, y, r, rfl, hN⟩ := L2_inv h; clear h; have h := hN; clear hN; exact fun H locs ls hW hS hL => lv_lsub hx hb hdec (hKk _ _ _ _ h H locs ls hW hS hL)
  | lmul =>
    unfold sI at h
    dsimp only at h
    clear hCv hCs hRi hRa hRv
    obtain ⟨x, y, r, rfl, hN⟩ := L2_inv h; clear h; have h := hN; clear hN; exact fun H locs ls hW hS hL => lv_lmul hx hb hdec (hKk _ _ _ _ h H locs ls hW hS hL)
  | lcmp =>
    unfold sI at h
    dsimp only at h
    clear hCv hCs hRi hRa hRv
    obtain ⟨x, y, r, rfl, hN⟩ := L2_inv h; clear h; have h := hN; clear hN; exact fun H locs ls hW hS hL => W.lcmp hx hb hdec (hKk _ _ _ _ h H locs ls hW hS hL)
  | i2l =>
    unfold sI at h
    dsimp only at h
    clear hCv hCs hRi hRa hRv
    obtain ⟨x, r, rfl, hN⟩ := I1_inv h; clear h; have h := hN; clear hN; exact fun H locs ls hW hS hL => lv_i2l hx hb hdec rfl (hKk _ _ _ _ h H locs ls hW hS hL)
  | i2b =>
    unfold sI at h
    dsimp only at h
    clear hCv hCs hRi hRa hRv
    obtain ⟨x, r, rfl, hN⟩ := I1_inv h; clear h; have h := hN; clear hN; exact fun H locs ls hW hS hL => lv_i2b hx hb hdec rfl (hKk _ _ _ _ h H locs ls hW hS hL)
  | i2c =>
    unfold sI at h
    dsimp only at h
    clear hCv hCs hRi hRa hRv
    obtain ⟨x, r, rfl, hN⟩ := I1_inv h; clear h; have h := hN; clear hN; exact fun H locs ls hW hS hL => lv_i2c hx hb hdec rfl (hKk _ _ _ _ h H locs ls hW hS hL)
  | dup =>
    unfold sI at h
    dsimp only at h
    clear hCv hCs hRi hRa hRv
    obtain ⟨v, r, rfl, hN⟩ := V1_inv h; clear h; have h := hN; clear hN; obtain ⟨hc, hN⟩ := C1_inv h; clear h; have h := hN; clear hN; exact fun H locs ls hW hS hL => lv_dup hx hb hdec (rv_cat1 hc) (hKk _ _ _ _ h H locs ls hW hS hL)
  | dup2 =>
    unfold sI at h
    dsimp only at h
    clear hCv hCs hRi hRa hRv
    obtain ⟨v, u, r, rfl, hN⟩ := V2_inv h; clear h; have h := hN; clear hN; obtain ⟨hc, hN⟩ := C1_inv h; clear h; have h := hN; clear hN; obtain ⟨hc2, hN⟩ := C1_inv h; clear h; have h := hN; clear hN; exact fun H locs ls hW hS hL => lv_dup2_11 hx hb hdec (rv_cat1 hc) (rv_cat1 hc2) (hKk _ _ _ _ h H locs ls hW hS hL)
  | pop =>
    unfold sI at h
    dsimp only at h
    clear hCv hCs hRi hRa hRv
    obtain ⟨v, r, rfl, hN⟩ := V1_inv h; clear h; have h := hN; clear hN; obtain ⟨hc, hN⟩ := C1_inv h; clear h; have h := hN; clear hN; exact fun H locs ls hW hS hL => lv_pop hx hb hdec (rv_cat1 hc) (hKk _ _ _ _ h H locs ls hW hS hL)
  | goto off =>
    unfold sI at h
    dsimp only at h
    clear hCv hCs hRi hRa hRv
    exact fun H locs ls hW hS hL => lv_goto (tgt := a) hx hb hdec hX (hKk _ _ _ _ h H locs ls hW hS hL)
  | ifCond cd off =>
    cases cd with
    | eq =>
      unfold sI at h
      dsimp only at h
      obtain ⟨x, r, rfl, hN⟩ := I1_inv h; clear h; have h := hN; clear hN
      split at h
      · next q => exact fun H locs ls hW hS hL => lv_if_eq (tgt := a) hx hb hdec hX (fun _ => hKk _ _ _ _ h H locs ls hW hS hL) (fun z => absurd q z)
      · next q => exact fun H locs ls hW hS hL => lv_if_eq (tgt := a) hx hb hdec hX (fun z => absurd z q) (fun _ => hKk _ _ _ _ h H locs ls hW hS hL)
    | ne =>
      unfold sI at h
      dsimp only at h
      obtain ⟨x, r, rfl, hN⟩ := I1_inv h; clear h; have h := hN; clear hN
      split at h
      · next q => exact fun H locs ls hW hS hL => lv_if_ne (tgt := a) hx hb hdec hX (fun z => absurd q z) (fun _ => hKk _ _ _ _ h H locs ls hW hS hL)
      · next q => exact fun H locs ls hW hS hL => lv_if_ne (tgt := a) hx hb hdec hX (fun _ => hKk _ _ _ _ h H locs ls hW hS hL) (fun z => absurd z q)
    | lt =>
      unfold sI at h
      dsimp only at h
      obtain ⟨x, r, rfl, hN⟩ := I1_inv h; clear h; have h := hN; clear hN
      split at h
      · next q => exact fun H locs ls hW hS hL => lv_if_lt (tgt := a) hx hb hdec hX (fun _ => hKk _ _ _ _ h H locs ls hW hS hL) (fun z => absurd q z)
      · next q => exact fun H locs ls hW hS hL => lv_if_lt (tgt := a) hx hb hdec hX (fun z => absurd z q) (fun _ => hKk _ _ _ _ h H locs ls hW hS hL)
    | ge =>
      unfold sI at h
      dsimp only at h
      obtain ⟨x, r, rfl, hN⟩ := I1_inv h; clear h; have h := hN; clear hN
      split at h
      · next q => exact fun H locs ls hW hS hL => lv_if_ge (tgt := a) hx hb hdec hX (fun _ => hKk _ _ _ _ h H locs ls hW hS hL) (fun z => absurd q z)
      · next q => exact fun H locs ls hW hS hL => lv_if_ge (tgt := a) hx hb hdec hX (fun z => absurd z q) (fun _ => hKk _ _ _ _ h H locs ls hW hS hL)
    | gt =>
      unfold sI at h
      dsimp only at h
      obtain ⟨x, r, rfl, hN⟩ := I1_inv h; clear h; have h := hN; clear hN
      split at h
      · next q => exact fun H locs ls hW hS hL => lv_if_gt (tgt := a) hx hb hdec hX (fun _ => hKk _ _ _ _ h H locs ls hW hS hL) (fun z => absurd q z)
      · next q => exact fun H locs ls hW hS hL => lv_if_gt (tgt := a) hx hb hdec hX (fun z => absurd z q) (fun _ => hKk _ _ _ _ h H locs ls hW hS hL)
    | le =>
      unfold sI at h
      dsimp only at h
      obtain ⟨x, r, rfl, hN⟩ := I1_inv h; clear h; have h := hN; clear hN
      split at h
      · next q => exact fun H locs ls hW hS hL => lv_if_le (tgt := a) hx hb hdec hX (fun _ => hKk _ _ _ _ h H locs ls hW hS hL) (fun z => absurd q z)
      · next q => exact fun H locs ls hW hS hL => lv_if_le (tgt := a) hx hb hdec hX (fun z => absurd z q) (fun _ => hKk _ _ _ _ h H locs ls hW hS hL)
  | if_icmp cd off =>
    cases cd with
    | eq =>
      unfold sI at h
      dsimp only at h
      obtain ⟨x, y, r, rfl, hN⟩ := I2_inv h; clear h; have h := hN; clear hN
      split at h
      · next q => exact fun H locs ls hW hS hL => lv_icmp_eq (tgt := a) hx hb hdec hX (fun _ => hKk _ _ _ _ h H locs ls hW hS hL) (fun z => absurd q z)
      · next q => exact fun H locs ls hW hS hL => lv_icmp_eq (tgt := a) hx hb hdec hX (fun z => absurd z q) (fun _ => hKk _ _ _ _ h H locs ls hW hS hL)
    | ne =>
      unfold sI at h
      dsimp only at h
      obtain ⟨x, y, r, rfl, hN⟩ := I2_inv h; clear h; have h := hN; clear hN
      split at h
      · next q => exact fun H locs ls hW hS hL => lv_icmp_ne (tgt := a) hx hb hdec hX (fun z => absurd q z) (fun _ => hKk _ _ _ _ h H locs ls hW hS hL)
      · next q => exact fun H locs ls hW hS hL => lv_icmp_ne (tgt := a) hx hb hdec hX (fun _ => hKk _ _ _ _ h H locs ls hW hS hL) (fun z => absurd z q)
    | lt =>
      unfold sI at h
      dsimp only at h
      obtain ⟨x, y, r, rfl, hN⟩ := I2_inv h; clear h; have h := hN; clear hN
      split at h
      · next q => exact fun H locs ls hW hS hL => lv_icmp_lt (tgt := a) hx hb hdec hX (fun _ => hKk _ _ _ _ h H locs ls hW hS hL) (fun z => absurd q z)
      · next q => exact fun H locs ls hW hS hL => lv_icmp_lt (tgt := a) hx hb hdec hX (fun z => absurd z q) (fun _ => hKk _ _ _ _ h H locs ls hW hS hL)
    | ge =>
      unfold sI at h
      dsimp only at h
      obtain ⟨x, y, r, rfl, hN⟩ := I2_inv h; clear h; have h := hN; clear hN
      split at h
      · next q => exact fun H locs ls hW hS hL => lv_icmp_ge (tgt := a) hx hb hdec hX (fun _ => hKk _ _ _ _ h H locs ls hW hS hL) (fun z => absurd q z)
      · next q => exact fun H locs ls hW hS hL => lv_icmp_ge (tgt := a) hx hb hdec hX (fun z => absurd z q) (fun _ => hKk _ _ _ _ h H locs ls hW hS hL)
    | gt =>
      unfold sI at h
      dsimp only at h
      obtain ⟨x, y, r, rfl, hN⟩ := I2_inv h; clear h; have h := hN; clear hN
      split at h
      · next q => exact fun H locs ls hW hS hL => lv_icmp_gt (tgt := a) hx hb hdec hX (fun _ => hKk _ _ _ _ h H locs ls hW hS hL) (fun z => absurd q z)
      · next q => exact fun H locs ls hW hS hL => lv_icmp_gt (tgt := a) hx hb hdec hX (fun z => absurd z q) (fun _ => hKk _ _ _ _ h H locs ls hW hS hL)
    | le =>
      unfold sI at h
      dsimp only at h
      obtain ⟨x, y, r, rfl, hN⟩ := I2_inv h; clear h; have h := hN; clear hN
      split at h
      · next q => exact fun H locs ls hW hS hL => lv_icmp_le (tgt := a) hx hb hdec hX (fun _ => hKk _ _ _ _ h H locs ls hW hS hL) (fun z => absurd q z)
      · next q => exact fun H locs ls hW hS hL => lv_icmp_le (tgt := a) hx hb hdec hX (fun z => absurd z q) (fun _ => hKk _ _ _ _ h H locs ls hW hS hL)
  | tableswitch d2 lo hi offs =>
    unfold sI at h
    dsimp only at h
    clear hCv hCs hRi hRa hRv
    obtain ⟨x, r, rfl, hN⟩ := I1_inv h; clear h; have h := hN; clear hN
    obtain ⟨h1, h2, h3⟩ := hX
    rcases SwT_inv h with ⟨i, off, q1, q2, q3⟩ | ⟨q1, q2⟩
    · have hi2 : i < offs.toList.length := (List.getElem?_eq_some_iff.mp q1).1
      refine fun H locs ls hW hS hL => lv_tableIn (off := off) hx hb hdec (by omega) (by omega) ?_ (Int.toNat_of_nonneg (h3 off (List.mem_of_getElem? q1))).symm (hKk _ _ _ _ q3 H locs ls hW hS hL)
      rw [show (x.toInt - lo).toNat = i by omega, ← Array.getElem?_toList]
      exact q1
    · exact fun H locs ls hW hS hL => lv_tableOut hx hb hdec (by omega) (Int.toNat_of_nonneg h2).symm (hKk _ _ _ _ q2 H locs ls hW hS hL)
  | lookupswitch d2 ps =>
    unfold sI at h
    dsimp only at h
    clear hCv hCs hRi hRa hRv
    obtain ⟨x, r, rfl, hN⟩ := I1_inv h; clear h; have h := hN; clear hN
    obtain ⟨h1, h2, h3⟩ := hX
    have h := SwL_inv h
    refine fun H locs ls hW hS hL => lv_lookup hx hb hdec h1 rfl (Int.toNat_of_nonneg ?_).symm (hKk _ _ _ _ h H locs ls hW hS hL)
    rcases SwL_in ps.toList d2 x.toInt with q | ⟨q, q1, q2⟩
    · rw [q]; exact h2
    · rw [q2]; exact h3 q q1
  | getfield i =>
    unfold sI at h
    dsimp only at h
    clear hCv hCs hRi hRa hRv
    obtain ⟨k, j, r, rfl, hN⟩ := R1_inv h; clear h; have h := hN; clear hN
    obtain ⟨C2, T2, N, hc, hbN, hlk⟩ := hX
    obtain ⟨n, fs, hq, rfl, hN⟩ := Obj_inv h; clear h; have h := hN; clear hN
    dsimp only at h
    split at h
    · cases h
    · next hcd => exact g_get hx hb hts hCl hown hK hq hc hbN hlk hcd (v := .inl _) rfl hdec (hKk _ _ _ _ h)
    · next hcd => exact g_get hx hb hts hCl hown hK hq hc hbN hlk hcd (v := .inr (.inl _)) rfl hdec (hKk _ _ _ _ h)
    · next hcd => exact g_get hx hb hts hCl hown hK hq hc hbN hlk hcd (v := .inl _) rfl hdec (hKk _ _ _ _ h)
    · next hcd =>
      split at h
      · next hf => exact g_get hx hb hts hCl hown hK hq hc hbN hlk hcd (rv_fr hf) hdec (hKk _ _ _ _ h)
      · next hf =>
        split at h
        · next h1 => exact g_get hx hb hts hCl hown hK hq hc hbN hlk hcd (rv_frd hf h1) hdec (hKk _ _ _ _ h)
        · cases h
  | putfield i =>
    unfold sI at h
    dsimp only at h
    clear hCv hCs hRi hRa hRv
    obtain ⟨C2, T2, N, hc, hbN, hlk, hfin⟩ := hX
    obtain ⟨v, k, j, r, rfl, hN⟩ := VR_inv h; clear h; have h := hN; clear hN
    · obtain ⟨n, fs, hq, rfl, hN⟩ := Obj_inv h; clear h; have h := hN; clear hN
      dsimp only at h
      split at h
      · next hcd =>
        have hty := hSh k a n fs C2 T2 N hq hc b 0 hcd
        exact g_put hx hb hts hCl hown hK hJ hq hc hbN hlk hfin hcd (v := .inl _) hty rfl rfl (by show Value.int (dset _ _ _ _ _ k 0 b) = _; rw [dset_eq]; simp [upd, rv]) (fun j2 c2 hj => by dsimp only; rw [dset_eq]; unfold pFv; split <;> simp [upd, hj]) (fun k' j' hne => pCe_dset hne) hdec (hKk _ _ _ _ h)
      · next hcd =>
        have hty := hSh k a n fs C2 T2 N hq hc b 1 hcd
        exact g_put hx hb hts hCl hown hK hJ hq hc hbN hlk hfin hcd (v := .inr (.inl _)) hty rfl rfl (by show Value.long (lset _ _ _ _ k b) = _; rw [lset_eq]; simp [vp_updL, rv]) (fun j2 c2 hj => by dsimp only; rw [lset_eq]; unfold pFv; split <;> simp [vp_updL, hj]) (fun k' j' hne => pCe_lset hne) hdec (hKk _ _ _ _ h)
      · next hcd =>
        have hty := hSh k a n fs C2 T2 N hq hc b 2 hcd
        split at h
        · next hch =>
          obtain ⟨hn, hf⟩ := char_nar hch
          exact g_put hx hb hts hCl hown hK hJ hq hc hbN hlk hfin hcd (v := .inl _) hty hn hf (by show Value.int (dset _ _ _ _ _ k 0 b) = _; rw [dset_eq]; simp [upd, rv]) (fun j2 c2 hj => by dsimp only; rw [dset_eq]; unfold pFv; split <;> simp [upd, hj]) (fun k' j' hne => pCe_dset hne) hdec (hKk _ _ _ _ h)
        · cases h
      · next cd y j2 hcd =>
        obtain ⟨ty, hty, hrf⟩ := hSh k a n fs C2 T2 N hq hc b (cd + 3) hcd
        split at h
        · next r2 hf hbq =>
          have hy : y = r2 := by rw [hf] at hbq; exact Nat.eq_of_beq_eq_true hbq
          subst hy
          exact g_put hx hb hts hCl hown hK hJ hq hc hbN hlk hfin hcd (v := .inr (.inr (y, 0))) hty (by rcases hrf with ⟨q, rfl⟩ | ⟨q, rfl⟩ <;> rfl) (by rcases hrf with ⟨q, rfl⟩ | ⟨q, rfl⟩ <;> rfl) (by show pFa ad un (pFr cd) (dset _ _ _ _ _ k 0 b) = _; rw [dset_eq, hf]; simp [upd, rv, pFa]) (fun j2 c2 hj => by dsimp only; rw [dset_eq]; unfold pFv; split <;> simp [upd, hj]) (fun k' j' hne => pCe_dset hne) hdec (hKk _ _ _ _ h)
        · cases h
      · cases h
  | iaload =>
    unfold sI at h
    dsimp only at h
    clear hCv hCs hRi hRa hRv
    obtain ⟨k, j, i, r, rfl, hN⟩ := RI_inv h; clear h; have h := hN; clear hN
    obtain ⟨t, n, hN, ht, hn, hl3⟩ := pArr_inv (ad := ad) (un := un) (cA := cA) h; clear h; have h := hN; clear hN
    rcases (show t = 0 ∨ t = 1 ∨ t = 2 ∨ t = 3 by omega) with rfl | rfl | rfl | rfl
    · obtain ⟨hin, hN⟩ := In_inv h; clear h; have h := hN; clear hN; exact g_iald hx hb hK (hn (by omega)) hin hdec (hKk _ _ _ _ h)
    · cases h
    · cases h
    · cases h
  | baload =>
    unfold sI at h
    dsimp only at h
    clear hCv hCs hRi hRa hRv
    obtain ⟨k, j, i, r, rfl, hN⟩ := RI_inv h; clear h; have h := hN; clear hN
    obtain ⟨t, n, hN, ht, hn, hl3⟩ := pArr_inv (ad := ad) (un := un) (cA := cA) h; clear h; have h := hN; clear hN
    rcases (show t = 0 ∨ t = 1 ∨ t = 2 ∨ t = 3 by omega) with rfl | rfl | rfl | rfl
    · cases h
    · obtain ⟨hin, hN⟩ := In_inv h; clear h; have h := hN; clear hN; exact g_bald hx hb hK (hn (by omega)) hin hdec (hKk _ _ _ _ h)
    · obtain ⟨hin, hN⟩ := In_inv h; clear h; have h := hN; clear hN; exact g_zald hx hb hK (hn (by omega)) hin hdec (hKk _ _ _ _ h)
    · cases h
  | laload =>
    unfold sI at h
    dsimp only at h
    clear hCv hCs hRi hRa hRv
    obtain ⟨k, j, i, r, rfl, hN⟩ := RI_inv h; clear h; have h := hN; clear hN
    obtain ⟨t, n, hN, ht, hn, hl3⟩ := pArr_inv (ad := ad) (un := un) (cA := cA) h; clear h; have h := hN; clear hN
    rcases (show t = 0 ∨ t = 1 ∨ t = 2 ∨ t = 3 by omega) with rfl | rfl | rfl | rfl
    · cases h
    · cases h
    · cases h
    · obtain ⟨rfl, hn3⟩ := hl3 rfl; obtain ⟨hin, hN⟩ := In_inv h; clear h; have h := hN; clear hN; exact g_lald hx hb hK hn3 hin hdec (hKk _ _ _ _ h)
  | iastore =>
    unfold sI at h
    dsimp only at h
    clear hCv hCs hRi hRa hRv
    obtain ⟨k, j, i, x, r, rfl, hN⟩ := RII_inv h; clear h; have h := hN; clear hN
    obtain ⟨t, n, hN, ht, hn, hl3⟩ := pArr_inv (ad := ad) (un := un) (cA := cA) h; clear h; have h := hN; clear hN
    rcases (show t = 0 ∨ t = 1 ∨ t = 2 ∨ t = 3 by omega) with rfl | rfl | rfl | rfl
    · obtain ⟨hin, hN⟩ := In_inv h; clear h; have h := hN; clear hN; exact g_iast hx hb hK hJ (hn (by omega)) hin hdec (hKk _ _ _ _ h)
    · cases h
    · cases h
    · cases h
  | bastore =>
    unfold sI at h
    dsimp only at h
    clear hCv hCs hRi hRa hRv
    obtain ⟨k, j, i, x, r, rfl, hN⟩ := RII_inv h; clear h; have h := hN; clear hN
    obtain ⟨t, n, hN, ht, hn, hl3⟩ := pArr_inv (ad := ad) (un := un) (cA := cA) h; clear h; have h := hN; clear hN
    rcases (show t = 0 ∨ t = 1 ∨ t = 2 ∨ t = 3 by omega) with rfl | rfl | rfl | rfl
    · cases h
    · obtain ⟨hin, hN⟩ := In_inv h; clear h; have h := hN; clear hN; exact g_bast hx hb hK hJ (hn (by omega)) hin hdec (hKk _ _ _ _ h)
    · obtain ⟨hin, hN⟩ := In_inv h; clear h; have h := hN; clear hN; exact g_zast hx hb hK hJ (hn (by omega)) hin hdec (hKk _ _ _ _ h)
    · cases h
  | lastore =>
    unfold sI at h
    dsimp only at h
    clear hCv hCs hRi hRa hRv
    obtain ⟨k, j, i, x, r, rfl, hN⟩ := RIL_inv h; clear h; have h := hN; clear hN
    obtain ⟨t, n, hN, ht, hn, hl3⟩ := pArr_inv (ad := ad) (un := un) (cA := cA) h; clear h; have h := hN; clear hN
    rcases (show t = 0 ∨ t = 1 ∨ t = 2 ∨ t = 3 by omega) with rfl | rfl | rfl | rfl
    · cases h
    · cases h
    · cases h
    · obtain ⟨rfl, hn3⟩ := hl3 rfl; obtain ⟨hin, hN⟩ := In_inv h; clear h; have h := hN; clear hN; exact g_last hx hb hK hJ hn3 hin hdec (hKk _ _ _ _ h)
  | arraylength =>
    unfold sI at h
    dsimp only at h
    clear hCv hCs hRi hRa hRv
    obtain ⟨k, j, r, rfl, hN⟩ := R1_inv h; clear h; have h := hN; clear hN
    obtain ⟨t, n, hN, ht, hn, hl3⟩ := pArr_inv (ad := ad) (un := un) (cA := cA) h; clear h; have h := hN; clear hN
    by_cases h3 : t = 3
    · obtain ⟨rfl, hn3⟩ := hl3 h3; exact g_alenl hx hb hK hn3 hdec (hKk _ _ _ _ h)
    · exact g_alen hx hb hK ht (hn h3) hdec (hKk _ _ _ _ h)
  | aaload =>
    unfold sI at h
    dsimp only at h
    clear hCv hCs hRi hRa hRv
    obtain ⟨k, j, i, r, rfl, hN⟩ := RI_inv h; clear h; have h := hN; clear hN
    split at h
    · next hq => obtain ⟨hin, hN⟩ := In_inv h; clear h; have h := hN; clear hN; obtain ⟨y, hf, hN⟩ := pick_inv h; clear h; have h := hN; clear hN; exact g_aald4 hx hb hK hq hin hf hdec (hKk _ _ _ _ h)
    · next hq => obtain ⟨hin, hN⟩ := In_inv h; clear h; have h := hN; clear hN; exact g_aald5 hx hb hK hq hin hdec (hKk _ _ _ _ h)
    · cases h
  | invokevirtual i =>
    unfold sI at h
    dsimp only at h
    cases c' with
    | zero =>
      cases b with
      | zero =>
        obtain ⟨k, j, r, rfl, hN⟩ := R1_inv h; clear h; have h := hN; clear hN
        obtain ⟨n, fs, t, hq, rfl, ht, hN⟩ := Txt_inv h; clear h; have h := hN; clear hN
        split at h
        · next hr => exact (hStr rfl).1 rfl L r σ k n fs t hq ht hr (hKk _ _ _ _ h)
        · cases h
      | succ b =>
        obtain ⟨k, j, i, r, rfl, hN⟩ := RI_inv h; clear h; have h := hN; clear hN
        obtain ⟨n, fs, t, hq, rfl, ht, hN⟩ := Txt_inv h; clear h; have h := hN; clear hN
        split at h
        · next hr => obtain ⟨hin, hN⟩ := In_inv h; clear h; have h := hN; clear hN; exact (hStr rfl).2 (Nat.succ_ne_zero _) L r σ k n fs t i hq ht hr hin (hKk _ _ _ _ h)
        · cases h
    | succ c' =>
      obtain ⟨as, r, hst, hl, hr, hN⟩ := Tk_inv h; clear h; have h := hN; clear hN
      obtain ⟨hrc, hN⟩ := Recv_inv h; clear h; have h := hN; clear hN
      obtain ⟨d', hd, hN⟩ := Dep_inv h; clear h; have h := hN; clear hN
      rw [List.append_nil] at hrc h
      exact hCv _ _ _ _ _ _ _ as.reverse r d' rfl (by rw [List.reverse_reverse]; exact hst) (by rw [List.length_reverse]; exact hl.1) (fun v hv => hl.2 v (List.mem_reverse.mp hv)) hr hrc hd h
  | invokestatic i =>
    unfold sI at h
    dsimp only at h
    cases c' with
    | zero =>
      clear hCv hCs hRi hRa hRv
      cases b with
      | zero =>
        obtain ⟨n, dp, d0, sp, s0, ns, nd, r, hst, hs, hd0, h1, h2, h3, h4, h5, hN⟩ := Copy_inv (ad := ad) (un := un) (cA := cA) h; clear h; have h := hN; clear hN
        subst hst
        split at h
        · next hr => exact g_copy hx hb hml hown (hts _ (hX rfl)) (hts _ hCo.1.1) (hts _ hCo.1.2.1) (hts _ hCo.1.2.2) hK hJ hs hd0 h1 h2 h3 h4 h5 hRo.1 hRo.2 hr hdec (hKk _ _ _ _ h)
        · cases h
      | succ b =>
        cases b with
        | zero =>
          obtain ⟨x, y, r, hst, hN⟩ := I2_inv h; clear h; have h := hN; clear hN
          subst hst
          split at h
          · next hr =>
            intro H locs ls hW hS hL
            have hrs := Rm_sum (ad := ad) hr
            exact va_mmax hx hb (hml.trans hL.1.symm) hown (hts _ (hX rfl)) (hts _ hCo.2.2.1.1) (hts _ hCo.2.1) (hts _ hCo.2.2.1.2) hRo.1 (by omega) (Nat.zero_le _) (Nat.zero_le _) hdec (hKk _ _ _ _ h H locs ls hW hS hL)
          · cases h
        | succ b =>
          obtain ⟨x, y, r, hst, hN⟩ := I2_inv h; clear h; have h := hN; clear hN
          subst hst
          split at h
          · next hr =>
            intro H locs ls hW hS hL
            have hrs := Rm_sum (ad := ad) hr
            exact va_mmin hx hb (hml.trans hL.1.symm) hown (hts _ (hX rfl)) (hts _ hCo.2.2.2.1) (hts _ hCo.2.1) (hts _ hCo.2.2.2.2) hRo.1 (by omega) (Nat.zero_le _) (Nat.zero_le _) hdec (hKk _ _ _ _ h H locs ls hW hS hL)
          · cases h
    | succ c' =>
      obtain ⟨as, r, hst, hl, hr, hN⟩ := Tk_inv h; clear h; have h := hN; clear hN
      obtain ⟨d', hd, hN⟩ := Dep_inv h; clear h; have h := hN; clear hN
      rw [List.append_nil] at h
      exact hCs _ _ _ _ _ _ _ as.reverse r d' rfl (by rw [List.reverse_reverse]; exact hst) (by rw [List.length_reverse]; exact hl.1) (fun v hv => hl.2 v (List.mem_reverse.mp hv)) hr hd h
  | ireturn =>
    unfold sI at h
    dsimp only at h
    obtain ⟨x, hst, hN⟩ := E1_inv h; clear h; have h := hN; clear hN; obtain ⟨hr, hN⟩ := Ret_inv h; clear h; have h := hN; clear hN; exact hRi x rfl hst hr h
  | areturn =>
    unfold sI at h
    dsimp only at h
    obtain ⟨k, j, hst, hN⟩ := ER_inv h; clear h; have h := hN; clear hN; exact hRa (k, j) rfl hst h
  | return_ =>
    unfold sI at h
    dsimp only at h
    obtain ⟨hst, hN⟩ := E0_inv h; clear h; have h := hN; clear hN; exact hRv rfl hst h
  | _ => exact absurd (show (none : Option ρ) = some o from h) (fun z => by cases z)
end PG4
