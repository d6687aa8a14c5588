/-- from this pure frame the machine comes to Q -/
def pG (p : Program) (l : Launch) (e : Env) (R : Room) (s : State) (m : MethodId) (args : Array Value) (below : List Frame) (meth : Method) (c : Code) (Q : State → Prop) (S : List pSh) (ad : Nat → Nat → Nat) (un : Nat) (cA : Nat → ClassId) (dg : va_G) (A : Nat → Prop) (H0 : Heap) (nL : Nat) (pc : Nat) (L : pL) (st : List pV) (σ : pSt) : Prop :=
  ∀ (H : Heap) (locs : List Loc) (ls : Array Slot), pWo S ad un cA dg σ H → va_S A H0 H locs → pLv ad ls nL L → W p l e R s m args below meth c H locs 0 0 Q (F0 m pc ls (st.map (rv ad)))
def pLen (ins : Instr) (b : Nat) : Nat := match ins with
  | .bipush _ => 2
  | .ldc _ => 2
  | .iload _ => 2
  | .aload _ => 2
  | .istore _ => 2
  | .astore _ => 2
  | .sipush _ => 3
  | .ldc_w _ => 3
  | .ldc2_w _ => 3
  | .iinc _ _ => 3
  | .goto _ => 3
  | .ifCond _ _ => 3
  | .if_icmp _ _ => 3
  | .getfield _ => 3
  | .putfield _ => 3
  | .invokevirtual _ => 3
  | .invokestatic _ => 3
  | .tableswitch _ _ _ _ => b
  | .lookupswitch _ _ => b
  | _ => 1
def pPn (b : Nat) : MethodName := match b with
  | 0 => arraycopyName
  | 1 => Lib.Math.max.name
  | _ => Lib.Math.min.name
/-- what else an entry must be -/
def pXex (own : String) (Ts : List Cond) (nL pc : Nat) (x : pX) : Prop := match x with
  | (ins, a, b, c, _, _, z) => match ins with
    | .iconst n => Int32.ofInt n = z
    | .bipush n => (Int8.ofInt n).toInt32 = z
    | .sipush n => (Int16.ofInt n).toInt32 = z
    | .ldc i => b = 0 → Cond.constant own i z ∈ Ts
    | .ldc_w i => Cond.constant own i z ∈ Ts
    | .ldc2_w i => Cond.constantLong own i (lN a) ∈ Ts
    | .lconst n => (n : Nat) = a
    | .iload_n n => (n : Nat) = a
    | .aload_n n => (n : Nat) = a
    | .iload n => n = a
    | .aload n => n = a
    | .istore_n n => (n : Nat) = a ∧ a < nL
    | .astore_n n => (n : Nat) = a ∧ a < nL
    | .istore n => n = a ∧ a < nL
    | .astore n => n = a ∧ a < nL
    | .iinc n q => n = a ∧ Int32.ofInt q = z ∧ a < nL
    | .goto off => (pc : Int) + off = (a : Int)
    | .ifCond _ off => (pc : Int) + off = (a : Int)
    | .if_icmp _ off => (pc : Int) + off = (a : Int)
    | .tableswitch d lo hi offs => hi = lo + offs.toList.length - 1 ∧ 0 ≤ (pc : Int) + d ∧ ∀ q ∈ offs.toList, 0 ≤ (pc : Int) + q
    | .lookupswitch d ps => (ps.toList.zip (ps.toList.drop 1)).all (fun (a, next) => a.1 < next.1) = true ∧ 0 ≤ (pc : Int) + d ∧ ∀ q ∈ ps.toList, 0 ≤ (pc : Int) + q.2
    | .getfield i => ∃ (C : String) (T : u_T) (N : Nat), vwCl[a]? = some (C, T, N) ∧ b < N ∧ Cond.fieldLink own i (T b).1 (T b).2.1 (T b).2.2.1 ∈ Ts
    | .putfield i => ∃ (C : String) (T : u_T) (N : Nat), vwCl[a]? = some (C, T, N) ∧ b < N ∧ Cond.fieldLink own i (T b).1 (T b).2.1 (T b).2.2.1 ∈ Ts ∧ (T b).2.2.2 = false
    | .invokestatic i => c = 0 → Cond.methodLink own i (pPn b) ∈ Ts
    | _ => True
/-- the sorts: their fields' types, names apart, their words -/
def pClOk (Ts : List Cond) : Prop := ∀ (ci : Nat) (C : String) (T : u_T) (N : Nat), vwCl[ci]? = some (C, T, N) → (∃ ty0 : Nat → FieldType, ∀ k, k < N → parseFieldDescriptor (T k).2.2.1 = some (ty0 k)) ∧ (∀ a, a < N → ∀ b, b < N → a ≠ b → (T a).2.1 ≠ (T b).2.1) ∧ ∀ w ∈ u_ws C T N, w ∈ Ts
/-- a field's code is its type's -/
def pCodeOk (c : Nat) (d : String) : Prop := match c with
  | 0 => parseFieldDescriptor d = some .int
  | 1 => parseFieldDescriptor d = some .long
  | 2 => parseFieldDescriptor d = some .char
  | _ => ∃ t, parseFieldDescriptor d = some t ∧ ((∃ q, t = .array q) ∨ ∃ q, t = .object q)
def pShOk (S : List pSh) : Prop := ∀ (k ci n : Nat) (fs : List Nat) (C : String) (T : u_T) (N : Nat), S[k]? = some (ci + 7, n, fs) → vwCl[ci]? = some (C, T, N) → ∀ b c, fs[b]? = some c → pCodeOk c (T b).2.2.1
section PG2
variable {p : Program} {l : Launch} {e : Env} {R : Room} {s : State} {m : MethodId} {args : Array Value} {below : List Frame} {meth : Method} {c : Code} {Q : State → Prop} {S : List pSh} {ad : Nat → Nat → Nat} {un : Nat} {cA : Nat → ClassId} {dg : va_G} {A : Nat → Prop} {H0 : Heap} {nL : Nat}
variable {cc : ByteArray} {pc : Nat} {L : pL} {st r : List pV} {σ : pSt}

theorem g_iald (hx : p.tables.exec = Jvm.exec) (hb : c.code = cc) (hK : va_K dg vwCl (pTys cA) s) {k j n : Nat} {i : Int32} (hn : pNi S ad un cA k j 0 n) (hin : vp_in i n) (hdg : decode cc pc = .ok (.iaload, 1)) (kk : pG p l e R s m args below meth c Q S ad un cA dg A H0 nL (pc + 1) L (.inl (σ.1 k j i.toNatClampNeg) :: r) σ) : pG p l e R s m args below meth c Q S ad un cA dg A H0 nL pc L (.inl i :: .inr (.inr (k, j)) :: r) σ := fun H locs ls hW hS hL => va_iald hx hb hK (hW.sing (hn.ce σ)) 0 0 rfl rfl hin hdg (kk H locs ls hW hS hL)
theorem g_bald (hx : p.tables.exec = Jvm.exec) (hb : c.code = cc) (hK : va_K dg vwCl (pTys cA) s) {k j n : Nat} {i : Int32} (hn : pNi S ad un cA k j 1 n) (hin : vp_in i n) (hdg : decode cc pc = .ok (.baload, 1)) (kk : pG p l e R s m args below meth c Q S ad un cA dg A H0 nL (pc + 1) L (.inl (σ.1 k j i.toNatClampNeg) :: r) σ) : pG p l e R s m args below meth c Q S ad un cA dg A H0 nL pc L (.inl i :: .inr (.inr (k, j)) :: r) σ := fun H locs ls hW hS hL => va_bald hx hb hK (hW.sing (hn.ce σ)) 0 1 rfl rfl hin hdg (kk H locs ls hW hS hL)
theorem g_zald (hx : p.tables.exec = Jvm.exec) (hb : c.code = cc) (hK : va_K dg vwCl (pTys cA) s) {k j n : Nat} {i : Int32} (hn : pNi S ad un cA k j 2 n) (hin : vp_in i n) (hdg : decode cc pc = .ok (.baload, 1)) (kk : pG p l e R s m args below meth c Q S ad un cA dg A H0 nL (pc + 1) L (.inl (σ.1 k j i.toNatClampNeg) :: r) σ) : pG p l e R s m args below meth c Q S ad un cA dg A H0 nL pc L (.inl i :: .inr (.inr (k, j)) :: r) σ := fun H locs ls hW hS hL => va_zald hx hb hK (hW.sing (hn.ce σ)) 0 2 rfl rfl hin hdg (kk H locs ls hW hS hL)
theorem g_lald (hx : p.tables.exec = Jvm.exec) (hb : c.code = cc) (hK : va_K dg vwCl (pTys cA) s) {k n : Nat} {i : Int32} (hn : pNl S ad un cA k n) (hin : vp_in i n) (hdg : decode cc pc = .ok (.laload, 1)) (kk : pG p l e R s m args below meth c Q S ad un cA dg A H0 nL (pc + 1) L (.inr (.inl (σ.2 k i.toNatClampNeg)) :: r) σ) : pG p l e R s m args below meth c Q S ad un cA dg A H0 nL pc L (.inl i :: .inr (.inr (k, 0)) :: r) σ := fun H locs ls hW hS hL => va_lald hx hb hK (hW.sing (hn.ce σ)) 0 3 rfl rfl hin hdg (kk H locs ls hW hS hL)
theorem g_alen (hx : p.tables.exec = Jvm.exec) (hb : c.code = cc) (hK : va_K dg vwCl (pTys cA) s) {k j t n : Nat} (ht : t < 4) (hn : pNi S ad un cA k j t n) (hdg : decode cc pc = .ok (.arraylength, 1)) (kk : pG p l e R s m args below meth c Q S ad un cA dg A H0 nL (pc + 1) L (.inl (nI n) :: r) σ) : pG p l e R s m args below meth c Q S ad un cA dg A H0 nL pc L (.inr (.inr (k, j)) :: r) σ := fun H locs ls hW hS hL => va_alen hx hb hK (hW.sing (hn.ce σ)) 0 t rfl (pTys_at ht) rfl hdg (kk H locs ls hW hS hL)
theorem g_alenl (hx : p.tables.exec = Jvm.exec) (hb : c.code = cc) (hK : va_K dg vwCl (pTys cA) s) {k n : Nat} (hn : pNl S ad un cA k n) (hdg : decode cc pc = .ok (.arraylength, 1)) (kk : pG p l e R s m args below meth c Q S ad un cA dg A H0 nL (pc + 1) L (.inl (nI n) :: r) σ) : pG p l e R s m args below meth c Q S ad un cA dg A H0 nL pc L (.inr (.inr (k, 0)) :: r) σ := fun H locs ls hW hS hL => va_alen hx hb hK (hW.sing (hn.ce σ)) 0 3 rfl rfl rfl hdg (kk H locs ls hW hS hL)
theorem g_aald4 (hx : p.tables.exec = Jvm.exec) (hb : c.code = cc) (hK : va_K dg vwCl (pTys cA) s) {k n y : Nat} {fs : List Nat} {i : Int32} (hS4 : S[k]? = some (4, n, fs)) (hin : vp_in i n) (hf : fs[i.toNatClampNeg]? = some (y + 1)) (hdg : decode cc pc = .ok (.aaload, 1)) (kk : pG p l e R s m args below meth c Q S ad un cA dg A H0 nL (pc + 1) L (.inr (.inr (y, 0)) :: r) σ) : pG p l e R s m args below meth c Q S ad un cA dg A H0 nL pc L (.inl i :: .inr (.inr (k, 0)) :: r) σ := by
  intro H locs ls hW hS hL
  have he : pCe S ad un cA σ k 0 = some (.inl (cA 4, n, .inr (.inr (.inr (.inr (fun i => pRc ad (fs.getD i 0))))))) := by unfold pCe; rw [hS4]; rfl
  refine va_aldq hx hb hK (hW.sing he) 0 4 rfl rfl hin hdg ?_
  have e1 : va_rf (pRc ad (fs.getD i.toNatClampNeg 0)) = .ref (ad y 0) := by rw [List.getD_eq_getElem?_getD, hf]; rfl
  rw [e1]
  exact kk H locs ls hW hS hL
theorem g_aald5 (hx : p.tables.exec = Jvm.exec) (hb : c.code = cc) (hK : va_K dg vwCl (pTys cA) s) {k n : Nat} {fs : List Nat} {i : Int32} (hS4 : S[k]? = some (5, n, fs)) (hin : vp_in i n) (hdg : decode cc pc = .ok (.aaload, 1)) (kk : pG p l e R s m args below meth c Q S ad un cA dg A H0 nL (pc + 1) L (.inr (.inr (k, i.toNatClampNeg + 1)) :: r) σ) : pG p l e R s m args below meth c Q S ad un cA dg A H0 nL pc L (.inl i :: .inr (.inr (k, 0)) :: r) σ := by
  intro H locs ls hW hS hL
  have he : pCe S ad un cA σ k 0 = some (.inl (cA 5, n, .inr (.inr (.inr (.inr (fun i => some (ad k (i + 1)))))))) := by unfold pCe; rw [hS4]; rfl
  have hlt : i.toNatClampNeg < n := Nat.not_le.mp fun q => hin (Or.inr q)
  exact W.aald (v := .ref (ad k (i.toNatClampNeg + 1))) (ty := .array .int) hx hb (hW k 0 _ he) ((hK.2 5 _ rfl).1 n (fun j => va_rf (some (ad k (j + 1))))) rfl (fun q => by cases q) (by show ¬ (i < 0 ∨ (arrV _ _ _).slots.size ≤ _); rw [arrV_size]; exact hin) (by show (arrV _ _ _).slots[_]? = _; rw [arrV_read _ _ hlt]; rfl) rfl rfl hdg (kk H locs ls hW hS hL)
theorem g_iast (hx : p.tables.exec = Jvm.exec) (hb : c.code = cc) (hK : va_K dg vwCl (pTys cA) s) (hJ : pAp S ad un cA A) {k j n : Nat} {i x : Int32} (hn : pNi S ad un cA k j 0 n) (hin : vp_in i n) (hdg : decode cc pc = .ok (.iastore, 1)) (kk : pG p l e R s m args below meth c Q S ad un cA dg A H0 nL (pc + 1) L r (dset σ.1 k j i.toNatClampNeg x, σ.2)) : pG p l e R s m args below meth c Q S ad un cA dg A H0 nL pc L (.inl x :: .inl i :: .inr (.inr (k, j)) :: r) σ := by
  intro H locs ls hW hS hL
  refine W.iast hx hb (hW k j _ (hn.ce σ)) ((hK.2 0 _ rfl).1 n (fun q => .int (σ.1 k j q))) (fun q => by cases q) (by show ¬ (i < 0 ∨ (arrV _ _ _).slots.size ≤ _); rw [arrV_size]; exact hin) rfl rfl hdg fun H1 e1 z oq => ?_
  refine kk H1 _ ls (hW.put hJ (hn.ce σ) (fun e' h' => ?_) (fun k' j' hne e' h' => by rw [pCe_dset hne] at h'; exact h') oq) (hS.put z oq (hJ.2 σ k j _ (hn.ce σ))) hL
  rw [hn.ce] at h'
  cases h'
  show H1[ad k j]? = some (vp_cell _ _)
  rw [e1]
  rw [vp_cell_i, vp_cell_i, arrV_store]
  congr 2
  funext q
  show _ = Value.int (dset σ.1 k j _ _ k j q)
  rw [dset_eq]
  by_cases hq : q = i.toNatClampNeg
  · subst hq
    simp [updV, upd, narrow]
  · simp [updV, upd, hq]
theorem g_bast (hx : p.tables.exec = Jvm.exec) (hb : c.code = cc) (hK : va_K dg vwCl (pTys cA) s) (hJ : pAp S ad un cA A) {k j n : Nat} {i x : Int32} (hn : pNi S ad un cA k j 1 n) (hin : vp_in i n) (hdg : decode cc pc = .ok (.bastore, 1)) (kk : pG p l e R s m args below meth c Q S ad un cA dg A H0 nL (pc + 1) L r (dset σ.1 k j i.toNatClampNeg x.toInt8.toInt32, σ.2)) : pG p l e R s m args below meth c Q S ad un cA dg A H0 nL pc L (.inl x :: .inl i :: .inr (.inr (k, j)) :: r) σ := by
  intro H locs ls hW hS hL
  refine W.bast hx hb (hW k j _ (hn.ce σ)) ((hK.2 1 _ rfl).1 n (fun q => .int (σ.1 k j q))) (fun q => by cases q) (by show ¬ (i < 0 ∨ (arrV _ _ _).slots.size ≤ _); rw [arrV_size]; exact hin) rfl rfl hdg fun H1 e1 z oq => ?_
  refine kk H1 _ ls (hW.put hJ (hn.ce σ) (fun e' h' => ?_) (fun k' j' hne e' h' => by rw [pCe_dset hne] at h'; exact h') oq) (hS.put z oq (hJ.2 σ k j _ (hn.ce σ))) hL
  rw [hn.ce] at h'
  cases h'
  show H1[ad k j]? = some (vp_cell _ _)
  rw [e1]
  rw [vp_cell_i, vp_cell_i, arrV_store]
  congr 2
  funext q
  show _ = Value.int (dset σ.1 k j _ _ k j q)
  rw [dset_eq]
  by_cases hq : q = i.toNatClampNeg
  · subst hq
    simp [updV, upd, narrow]
  · simp [updV, upd, hq]
theorem g_zast (hx : p.tables.exec = Jvm.exec) (hb : c.code = cc) (hK : va_K dg vwCl (pTys cA) s) (hJ : pAp S ad un cA A) {k j n : Nat} {i x : Int32} (hn : pNi S ad un cA k j 2 n) (hin : vp_in i n) (hdg : decode cc pc = .ok (.bastore, 1)) (kk : pG p l e R s m args below meth c Q S ad un cA dg A H0 nL (pc + 1) L r (dset σ.1 k j i.toNatClampNeg (x &&& 1), σ.2)) : pG p l e R s m args below meth c Q S ad un cA dg A H0 nL pc L (.inl x :: .inl i :: .inr (.inr (k, j)) :: r) σ := by
  intro H locs ls hW hS hL
  refine W.zast hx hb (hW k j _ (hn.ce σ)) ((hK.2 2 _ rfl).1 n (fun q => .int (σ.1 k j q))) (fun q => by cases q) (by show ¬ (i < 0 ∨ (arrV _ _ _).slots.size ≤ _); rw [arrV_size]; exact hin) rfl rfl hdg fun H1 e1 z oq => ?_
  refine kk H1 _ ls (hW.put hJ (hn.ce σ) (fun e' h' => ?_) (fun k' j' hne e' h' => by rw [pCe_dset hne] at h'; exact h') oq) (hS.put z oq (hJ.2 σ k j _ (hn.ce σ))) hL
  rw [hn.ce] at h'
  cases h'
  show H1[ad k j]? = some (vp_cell _ _)
  rw [e1]
  rw [vp_cell_i, vp_cell_i, arrV_store]
  congr 2
  funext q
  show _ = Value.int (dset σ.1 k j _ _ k j q)
  rw [dset_eq]
  by_cases hq : q = i.toNatClampNeg
  · subst hq
    simp [updV, upd, narrow]
  · simp [updV, upd, hq]
theorem g_last (hx : p.tables.exec = Jvm.exec) (hb : c.code = cc) (hK : va_K dg vwCl (pTys cA) s) (hJ : pAp S ad un cA A) {k n : Nat} {i : Int32} {x : Int64} (hn : pNl S ad un cA k n) (hin : vp_in i n) (hdg : decode cc pc = .ok (.lastore, 1)) (kk : pG p l e R s m args below meth c Q S ad un cA dg A H0 nL (pc + 1) L r (σ.1, lset σ.2 k i.toNatClampNeg x)) : pG p l e R s m args below meth c Q S ad un cA dg A H0 nL pc L (.inr (.inl x) :: .inl i :: .inr (.inr (k, 0)) :: r) σ := by
  intro H locs ls hW hS hL
  refine W.last hx hb (hW k 0 _ (hn.ce σ)) ((hK.2 3 _ rfl).1 n (fun q => .long (σ.2 k q))) (fun q => by cases q) (by show ¬ (i < 0 ∨ (arrV _ _ _).slots.size ≤ _); rw [arrV_size]; exact hin) rfl rfl hdg fun H1 e1 z oq => ?_
  refine kk H1 _ ls (hW.put hJ (hn.ce σ) (fun e' h' => ?_) (fun k' j' hne e' h' => by rw [pCe_lset hne] at h'; exact h') oq) (hS.put z oq (hJ.2 σ k 0 _ (hn.ce σ))) hL
  rw [hn.ce] at h'
  cases h'
  show H1[ad k 0]? = some (vp_cell _ _)
  rw [e1]
  rw [vp_cell_l, vp_cell_l, arrV_store]
  congr 2
  funext q
  show _ = Value.long (lset σ.2 k _ _ k q)
  rw [lset_eq]
  by_cases hq : q = i.toNatClampNeg
  · subst hq
    simp [updV, vp_updL]
  · simp [updV, vp_updL, hq]
theorem pCe_obj {k a n : Nat} {fs : List Nat} (h : S[k]? = some (a + 7, n, fs)) (σ : pSt) : pCe S ad un cA σ k 0 = some (.inr (a, fs.mapIdx fun b c => pFv ad un (σ.1 k 0) (σ.2 k) b c)) := by
  unfold pCe
  rw [h]
  rfl
theorem g_get (hx : p.tables.exec = Jvm.exec) (hb : c.code = cc) {own : String} {Ts : List Cond} (hts : ∀ w ∈ Ts, w.before args s = true) (hCl : pClOk Ts) (hown : s.vm.findClass own = some m.cls) (hK : va_K dg vwCl (pTys cA) s) {k a b n i cd : Nat} {fs : List Nat} {C : String} {T : u_T} {N : Nat} (hq : S[k]? = some (a + 7, n, fs)) (hc : vwCl[a]? = some (C, T, N)) (hbN : b < N) (hlk : Cond.fieldLink own i (T b).1 (T b).2.1 (T b).2.2.1 ∈ Ts) (hcd : fs[b]? = some cd) {v : pV} (hv : rv ad v = pFv ad un (σ.1 k 0) (σ.2 k) b cd) (hdg : decode cc pc = .ok (.getfield i, 3)) (kk : pG p l e R s m args below meth c Q S ad un cA dg A H0 nL (pc + 3) L (v :: r) σ) : pG p l e R s m args below meth c Q S ad un cA dg A H0 nL pc L (.inr (.inr (k, 0)) :: r) σ := by
  intro H locs ls hW hS hL
  have kk' := kk H locs ls hW hS hL
  rw [List.map_cons, hv] at kk'
  exact va_get hx hb hts (hCl a C T N hc).2.2 hown hK (hW.sing (pCe_obj hq σ)) 0 rfl hc b hbN (hts _ hlk) (fun _ h => h) (by rw [List.getElem?_mapIdx, hcd]; rfl) hdg kk'
theorem g_put (hx : p.tables.exec = Jvm.exec) (hb : c.code = cc) {own : String} {Ts : List Cond} (hts : ∀ w ∈ Ts, w.before args s = true) (hCl : pClOk Ts) (hown : s.vm.findClass own = some m.cls) (hK : va_K dg vwCl (pTys cA) s) (hJ : pAp S ad un cA A) {k a b n i cd : Nat} {fs : List Nat} {C : String} {T : u_T} {N : Nat} (hq : S[k]? = some (a + 7, n, fs)) (hc : vwCl[a]? = some (C, T, N)) (hbN : b < N) (hlk : Cond.fieldLink own i (T b).1 (T b).2.1 (T b).2.2.1 ∈ Ts) (hfin : (T b).2.2.2 = false) (hcd : fs[b]? = some cd) {v : pV} {ty : FieldType} (hd : parseFieldDescriptor (T b).2.2.1 = some ty) (hn : narrow ty (rv ad v) = rv ad v) (hfit : fits ty (rv ad v) = true) {σ2 : pSt} (hv : pFv ad un (σ2.1 k 0) (σ2.2 k) b cd = rv ad v) (hv2 : ∀ j c, j ≠ b → pFv ad un (σ2.1 k 0) (σ2.2 k) j c = pFv ad un (σ.1 k 0) (σ.2 k) j c) (ho : ∀ k' j', ¬ (k' = k ∧ j' = 0) → pCe S ad un cA σ2 k' j' = pCe S ad un cA σ k' j') (hdg : decode cc pc = .ok (.putfield i, 3)) (kk : pG p l e R s m args below meth c Q S ad un cA dg A H0 nL (pc + 3) L r σ2) : pG p l e R s m args below meth c Q S ad un cA dg A H0 nL pc L (v :: .inr (.inr (k, 0)) :: r) σ := by
  intro H locs ls hW hS hL
  obtain ⟨⟨ty0, hty⟩, hnm, hin⟩ := hCl a C T N hc
  have he := pCe_obj (ad := ad) (un := un) (cA := cA) hq σ
  have hap := va_apart (own := own) hts hin ty0 hty hnm hK hc
  obtain ⟨q, h1, cell, q1, q2, q3, q4⟩ := hW k 0 _ he
  have hr : q = (C, T, N) := Option.some.inj (h1.symm.trans hc)
  subst hr
  obtain ⟨hSl, hfc, kC, hkC, hkind⟩ := hK.1 a _ hc
  obtain ⟨cf, kf, fi, f, hi, hsl⟩ := hSl b hbN
  have hlay := hts _ (hin _ (u_in_lay hbN))
  unfold u_lay at hlay
  rw [if_neg (by rw [hfin]; decide)] at hlay
  have hst := (u_facts hfc hkC (u_lays hts hin hbN) hi).1
  have h6 := u_store hfc hkC hkind hlay hi hd hn hfit
  have hl : b < (fs.mapIdx fun b c => pFv ad un (σ.1 k 0) (σ.2 k) b c).length := by rw [List.length_mapIdx]; exact (List.getElem?_eq_some_iff.mp hcd).1
  refine W.putK hx hb (f := f) ⟨hown, hts _ hlk, ⟨_, _, _, hi⟩, hst⟩ (by rw [q2]; exact h6) q1 q3 (by rw [hsl]; exact k2_hasslot (q4 b hbN)) rfl rfl hdg fun H1 e1 e2 e3 => ?_
  rw [hsl] at e1 ⊢
  refine kk H1 _ ls (hW.put hJ he (fun e' h' => ?_) (fun k' j' hne e' h' => by rw [ho k' j' hne] at h'; exact h') e3) (hS.put e2 e3 (hJ.2 σ k 0 _ he)) hL
  rw [pCe_obj hq] at h'
  cases h'
  have hset : (fs.mapIdx fun b c => pFv ad un (σ.1 k 0) (σ.2 k) b c).set b (rv ad v) = fs.mapIdx fun b c => pFv ad un (σ2.1 k 0) (σ2.2 k) b c := mapIdx_upd hv2 (fun c h => by rw [hcd] at h; cases h; exact hv)
  rw [← hset]
  exact ⟨_, hc, t_OB.to (V := updV (vp_V _) b (rv ad v)) ⟨_, e1, q2, q3, t_set q4 hap hbN (rv ad v)⟩ (fun j _ => vp_updV_set hl (rv ad v) j)⟩
end PG2
