/-! CONSTRUCTORS: rows for those that call others -/
def NN (U : State) : Prop := va_Nw (.methodLinkNest RX9 11 yX7_init RX9) U ∧ va_Nw (.methodLinkNest RX9 25 yX4_init RX9) U ∧ va_Nw (.methodLinkNest RX9 56 yX1_init RX9) U ∧ va_Nw (.methodLinkNest RX9 70 yX2_init RX9) U ∧ va_Nw (.methodLinkNest RX4 20 yX3_init RX9) U ∧ va_AO RX5 U ∧ (Cond.arrayOver (.array .int)).before #[] U = true
theorem NN.warm {s U : State} (hW : s.WarmedH U.vm) (h : NN s) : NN U := ⟨va_Nw.warmM hW h.1, va_Nw.warmM hW h.2.1, va_Nw.warmM hW h.2.2.1, va_Nw.warmM hW h.2.2.2.1, va_Nw.warmM hW h.2.2.2.2.1, va_AO.moved hW.alike h.2.2.2.2.2.1, over_moved hW.alike h.2.2.2.2.2.2⟩
theorem NN.calling (U : State) (g : JFrame) (mk : MethodId) (a : Array Value) (h : NN U) : NN (U.calling g mk a) := ⟨va_Nw.same rfl rfl h.1, va_Nw.same rfl rfl h.2.1, va_Nw.same rfl rfl h.2.2.1, va_Nw.same rfl rfl h.2.2.2.1, va_Nw.same rfl rfl h.2.2.2.2.1, va_AO.moved (u := U) (U := U.calling g mk a) (Vm.Alike.refl U.vm) h.2.2.2.2.2.1, over_moved (u := U) (E := U.calling g mk a) (Vm.Alike.refl U.vm) h.2.2.2.2.2.2⟩
def kZ (base : Nat) (adK adV : Nat → Nat) (U : State) : Prop := pZZ (adB base adK) adV (fun q => base ≤ q) U ∧ NN U
theorem kZ.moved {base : Nat} {adK adV : Nat → Nat} {s U : State} (hW : s.WarmedH U.vm) (hk : ∀ q : Nat, q < s.heap.size → ¬ base ≤ q → U.heap[q]? = s.heap[q]?) (h : kZ base adK adV s) : kZ base adK adV U := ⟨h.1.moved hW hk, h.2.warm hW⟩
theorem kZ.calling {base : Nat} {adK adV : Nat → Nat} (U : State) (g : JFrame) (mk : MethodId) (a : Array Value) (h : kZ base adK adV U) : kZ base adK adV (U.calling g mk a) := ⟨h.1.calling U g mk a, NN.calling U g mk a h.2⟩
def kPz (base : Nat) (adK : Nat → Nat) (un : Nat) (cA : Nat → ClassId) (dg : va_G) (adV : Nat → Nat) (as : List Value) (S : List pSh) (σ : pSt) : Array Value → State → Prop := va_Pc as (fun U => wB base adK un cA dg S σ U.heap ∧ va_K dg vwCl (pTys cA) U ∧ kZ base adK adV U)
def kQe (base : Nat) (adK : Nat → Nat) (un : Nat) (cA : Nat → ClassId) (dg : va_G) (S : List pSh) (Φ : pSt → Prop) : Array Value → State → Outcome → State → Prop := fun _ st oc t => oc = .returned none ∧ (∃ σ, Φ σ ∧ wB base adK un cA dg S σ t.heap) ∧ va_F (fun q => base ≤ q) st t
section INIT
variable {p : Program} {l : Launch} {e : Env} {R : Room} {s : State} {m : MethodId} {args : Array Value} {below : List Frame} {meth : Method} {c : Code} {Q : State → Prop} {S : List pSh} {base : Nat} {adK : Nat → Nat} {un : Nat} {cA : Nat → ClassId} {dg : va_G} {adV : Nat → Nat} {H H0 : Heap} {locs : List Loc} {cells slots pc : Nat} {ls : Array Slot} {rest : List Value} {cc : ByteArray} {σ : pSt}
/-- what holds in a frame -/
def kG (p : Program) (s : State) (m : MethodId) (args : Array Value) (c : Code) (cc : ByteArray) (own : String) (cA : Nat → ClassId) (dg : va_G) : Prop := p.tables.exec = Jvm.exec ∧ c.code = cc ∧ (∀ w ∈ tg, w.before args s = true) ∧ s.vm.findClass own = some m.cls ∧ va_K dg vwCl (pTys cA) s
theorem kF.G {own : String} (F : kF p s m args meth c cc own cA dg) : kG p s m args c cc own cA dg := ⟨F.1, F.2.1, F.2.2.1, F.2.2.2.1, F.2.2.2.2.1⟩
/-- a constructor's call -/
theorem k_init {own : String} {nL : Nat} (G : kG p s m args c cc own cA dg) (hml : c.maxLocals = nL) (hZ : kZ base adK adV s) {idx mc ms maxL a0 : Nat} {y : MethodName} {bytes : ByteArray} {rm : Room} {B : State → Prop} {As st : List Value} {Qc : Array Value → State → Outcome → State → Prop} {S2 : List pSh} {Φ : pSt → Prop}
    (hM : Met l y (Cond.code y bytes maxL none :: tg) rm (va_Pc (.ref a0 :: As) B) Qc mc ms (fun q => base ≤ q))
    (hB : ∀ U : State, wB base adK un cA dg S σ U.heap → va_K dg vwCl (pTys cA) U → kZ base adK adV U → B U)
    (hBc : ∀ (U : State) (g : JFrame) (mk : MethodId) (a : Array Value), B U → B (U.calling g mk a))
    (hQ : ∀ (a : Array Value) (st t : State) (v : Option Value), Qc a st (.returned v) t → v = none ∧ (∃ σ2, Φ σ2 ∧ wB base adK un cA dg S2 σ2 t.heap) ∧ va_F (fun q => base ≤ q) st t)
    (hrc : rm.cells = mc) (hrs : rm.slots = ms) (hlk : Cond.methodLink own idx y ∈ tg ∨ va_Nw (.methodLinkNest own idx y RX9) s) (hini : Cond.initialized y.cls ∈ tg) (hin : Cond.instanceMethod y ∈ tg) (hcd : Cond.code y bytes maxL none ∈ tg) (hy1 : y.name = "<init>") (hd : y.cls ≠ "java/lang/invoke/MethodHandle" ∧ y.cls ≠ "java/lang/invoke/VarHandle" ∧ (parseMethodDescriptor y.desc).map (fun d => d.parameters.length) = some As.length) (hR : rm.frames + 1 ≤ R.frames ∧ 8 + (maxL + 11) + rm.locals ≤ R.locals)
    (hdg : decode cc pc = .ok (.invokespecial idx, 3)) (hlsz : ls.size = nL) (hrm : (rest.map fun v => v.category).sum ≤ 8) (hcs : cells + mc ≤ R.cells ∧ slots + ms ≤ R.slots) (hst : st = As.reverse ++ .ref a0 :: rest)
    (hW : wB base adK un cA dg S σ H) (hS : va_S (fun q => base ≤ q) s.heap H locs)
    (kk : ∀ (H1 : Heap) (locs1 : List Loc) (σ2 : pSt), Φ σ2 → wB base adK un cA dg S2 σ2 H1 → va_S (fun q => base ≤ q) s.heap H1 locs1 → W p l e R s m args below meth c H1 locs1 (cells + mc) (slots + ms) Q (F0 m (pc + 3) ls rest)) : W p l e R s m args below meth c H locs cells slots Q (F0 m pc ls st) := by
  obtain ⟨hx, hb, hts, hown, hK⟩ := G
  have hgood : GoodIn tg (Cond.code y bytes maxL none :: tg) := fun w h => by
    have hw : w ∈ tg := by
      rcases List.mem_cons.mp h with rfl | h
      · exact hcd
      · exact h
    exact ⟨hw, good_of_word (tg_good w hw)⟩
  have hp : PreS s H (va_Pc (.ref a0 :: As) B) (.ref a0 :: As) := ⟨fun a U g mk q => ⟨q.1, hBc U g mk a q.2⟩, fun U hU hWm => ⟨rfl, hB U (by rw [hU]; exact hW) (va_K.moved hWm.alike hK) (hZ.moved hWm (fun q h1 h2 => by rw [hU]; exact hS.2.1 q h1 h2))⟩⟩
  have hrun : va_Run p l e R s m args below meth c H locs cells slots mc ms (F0 m pc ls st) rest (Qc (Value.ref a0 :: As).toArray) (fun q => base ≤ q) := by
    rcases hlk with hlk | hlk
    · exact va_runI (b := a0) (As := As) ⟨hx, hb, hml, hown, hts⟩ hM (cwI As.length hts hgood rfl hrc hrs (hts _ hini) (hts _ hlk) (hts _ hin) hy1 hd hR) hp rfl rfl hlsz hst (lv_room hrm) hdg hcs
    · exact va_runIN (b := a0) (As := As) ⟨hx, hb, hml, hown, hts⟩ hM ⟨va_cnB As.length hts hgood rfl hrc hrs hlk (hts _ hini) hd hR, hy1, hts _ hin⟩ hp rfl rfl hlsz hst (lv_room hrm) hdg hcs
  intro T2 hT X
  obtain ⟨v', st₀, t, T', LL, h0, X', hLL, e1, e2, hq, stp⟩ := hrun T2 hT X
  obtain ⟨rfl, ⟨σ2, hφ, hw⟩, hz1, hk⟩ := hQ _ _ _ _ hq
  rw [h0] at hz1 hk
  obtain ⟨t2, a1, b1⟩ := kk T'.heap (locs ++ LL) σ2 hφ (by rw [e1]; exact hw) ⟨Nat.le_trans hS.1 (by rw [e1]; exact hz1), fun q h1 h2 => by rw [e1, hk q (Nat.lt_of_lt_of_le h1 hS.1) h2]; exact hS.2.1 q h1 h2, fun q hq => by
      rcases List.mem_append.mp hq with h | h
      · exact hS.2.2 q h
      · exact hLL q h⟩ T' rfl X'
  exact ⟨t2, stp t2 a1, b1⟩
theorem kQc_e {S2 : List pSh} {σ2 : pSt} (a : Array Value) (st t : State) (v : Option Value) (h : kQc base adK un cA dg S2 σ2 a st (.returned v) t) : v = none ∧ (∃ σ', σ' = σ2 ∧ wB base adK un cA dg S2 σ' t.heap) ∧ va_F (fun q => base ≤ q) st t := by
  obtain ⟨h1, h2, h3⟩ := h
  injection h1 with h1
  exact ⟨h1, ⟨_, rfl, h2⟩, h3⟩
theorem kQe_e {S2 : List pSh} {Φ : pSt → Prop} (a : Array Value) (st t : State) (v : Option Value) (h : kQe base adK un cA dg S2 Φ a st (.returned v) t) : v = none ∧ (∃ σ', Φ σ' ∧ wB base adK un cA dg S2 σ' t.heap) ∧ va_F (fun q => base ≤ q) st t := by
  obtain ⟨h1, h2, h3⟩ := h
  injection h1 with h1
  exact ⟨h1, h2, h3⟩
/-- new -/
theorem w_newB {own : String} (G : kG p s m args c cc own cA dg) {C : String} {T : u_T} {N ci index : Nat} (ty : Nat → FieldType) (hty : ∀ k, k < N → parseFieldDescriptor (T k).2.2.1 = some (ty k)) (hcl : Cond.classLink own index C ∈ tg) (hinst : Cond.instantiable C N ∈ tg) (hini : Cond.initialized C ∈ tg) (hc : vwCl[ci]? = some (C, T, N)) {fs : List Nat}
    (hfs : ∀ j, j < N → defaultValue (ty j) = vp_V (fs.mapIdx fun b c => pFv (adB base adK) un (fun _ => 0) (fun _ => 0) b c) j) (hl : S.length < 143) (hr : rws S.length = 0) (hcells : cells + 1 ≤ R.cells) (hslots : slots + N ≤ R.slots) (hdg : decode cc pc = .ok (.new index, 3)) (hW : wB base adK un cA dg S σ H) (hS : va_S (fun q => base ≤ q) H0 H locs)
    (kk : ∀ H1 : Heap, wB base adK un cA dg (S ++ [(ci + 7, 0, fs)]) σ H1 → va_S (fun q => base ≤ q) H0 H1 locs → W p l e R s m args below meth c H1 locs (cells + 1) (slots + N) Q (F0 m (pc + 3) ls (.ref (adB base adK S.length 0) :: rest))) : W p l e R s m args below meth c H locs cells slots Q (F0 m pc ls rest) := by
  obtain ⟨hx, hb, hts, hown, hK⟩ := G
  obtain ⟨w1, w2, w3, w4⟩ := hW
  have z := w3 S.length (Nat.le_refl _)
  refine w_new hx hb hts (tg_cl ci C T N hc).2.2 ty hty hown (hts _ hcl) (hts _ hinst) (hts _ hini) hK hc hfs w1 w2 hl hr (z.1 0) z.2 hcells hslots hdg hS fun H1 g1 g2 g3 => ?_
  refine kk H1 ⟨g1, by rw [g2, List.length_append, List.length_singleton], ?_, w4.push hl (fun h => by dsimp only at h; omega)⟩ g3
  rw [List.length_append, List.length_singleton]
  exact w3.up (Nat.le_succ _)
/-- a field is read -/
theorem w_get {own : String} (G : kG p s m args c cc own cA dg) {k a b i N nk cd : Nat} {fs : List Nat} {C : String} {T : u_T} {v : Value} (hq : S[k]? = some (a + 7, nk, fs)) (hc : vwCl[a]? = some (C, T, N)) (hbN : b < N) (hlk : Cond.fieldLink own i (T b).1 (T b).2.1 (T b).2.2.1 ∈ tg) (hcd : fs[b]? = some cd) (hv : pFv (adB base adK) un (σ.1 k 0) (σ.2 k) b cd = v) (hdg : decode cc pc = .ok (.getfield i, 3)) (hW : wB base adK un cA dg S σ H)
    (kk : W p l e R s m args below meth c H locs cells slots Q (F0 m (pc + 3) ls (v :: rest))) : W p l e R s m args below meth c H locs cells slots Q (F0 m pc ls (.ref (adB base adK k 0) :: rest)) := by
  obtain ⟨hx, hb, hts, hown, hK⟩ := G
  rw [← hv] at kk
  exact va_get hx hb hts (tg_cl a C T N hc).2.2 hown hK (hW.1.sing (pCe_obj hq σ)) 0 rfl hc b hbN (hts _ hlk) (fun _ h => h) (by rw [List.getElem?_mapIdx, hcd]; rfl) hdg kk
/-- a field that isn't final is written -/
theorem w_put {own : String} (G : kG p s m args c cc own cA dg) {k a b i N nk cd : Nat} {fs : List Nat} {C : String} {T : u_T} {v : Value} {x : Int32} {ty : FieldType} (hq : S[k]? = some (a + 7, nk, fs)) (hc : vwCl[a]? = some (C, T, N)) (hbN : b < N) (hlk : Cond.fieldLink own i (T b).1 (T b).2.1 (T b).2.2.1 ∈ tg) (hfin : (T b).2.2.2 = false) (hcd : fs[b]? = some cd) (hd : parseFieldDescriptor (T b).2.2.1 = some ty) (hn : narrow ty v = v) (hfit : fits ty v = true) (hv : pFv (adB base adK) un (dset σ.1 k 0 b x k 0) (σ.2 k) b cd = v) (hdg : decode cc pc = .ok (.putfield i, 3)) (hW : wB base adK un cA dg S σ H) (hS : va_S (fun q => base ≤ q) H0 H locs)
    (kk : ∀ (H1 : Heap) (locs1 : List Loc), wB base adK un cA dg S (dset σ.1 k 0 b x, σ.2) H1 → va_S (fun q => base ≤ q) H0 H1 locs1 → W p l e R s m args below meth c H1 locs1 cells slots Q (F0 m (pc + 3) ls rest)) : W p l e R s m args below meth c H locs cells slots Q (F0 m pc ls (v :: .ref (adB base adK k 0) :: rest)) := by
  obtain ⟨hx, hb, hts, hown, hK⟩ := G
  obtain ⟨w1, w2, w3, w4⟩ := hW
  have hJ := pAp_B (base := base) (adK := adK) (un := un) (cA := cA) w4
  obtain ⟨⟨ty0, hty⟩, hnm, hin⟩ := tg_cl a C T N hc
  have he := pCe_obj (ad := adB base adK) (un := un) (cA := cA) hq σ
  have hap := va_apart (own := own) hts hin ty0 hty hnm hK hc
  obtain ⟨q, h1, cell, q1, q2, q3, q4⟩ := w1 k 0 _ he
  have hr : q = (C, T, N) := Option.some.inj (h1.symm.trans hc)
  subst hr
  obtain ⟨hSl, hfc, kC, hkC, hkind⟩ := hK.1 a _ hc
  obtain ⟨cf, kf, fi, f, hi, hsl⟩ := hSl b hbN
  have hlay := hts _ (hin _ (u_in_lay hbN))
  unfold u_lay at hlay
  rw [if_neg (by rw [hfin]; decide)] at hlay
  have hst := (u_facts hfc hkC (u_lays hts hin hbN) hi).1
  have h6 := u_store hfc hkC hkind hlay hi hd hn hfit
  have hl : b < (fs.mapIdx fun b c => pFv (adB base adK) un (σ.1 k 0) (σ.2 k) b c).length := by rw [List.length_mapIdx]; exact (List.getElem?_eq_some_iff.mp hcd).1
  refine W.putK hx hb (f := f) ⟨hown, hts _ hlk, ⟨_, _, _, hi⟩, hst⟩ (by rw [q2]; exact h6) q1 q3 (by rw [hsl]; exact k2_hasslot (q4 b hbN)) rfl rfl hdg fun H1 e1 e2 e3 => ?_
  rw [hsl] at e1 ⊢
  have hkl : k < S.length := (List.getElem?_eq_some_iff.mp hq).1
  refine kk H1 _ ⟨w1.put (σ' := (dset σ.1 k 0 b x, σ.2)) hJ he (fun e' h' => ?_) (fun k' j' hne e' h' => by rw [pCe_dset hne] at h'; exact h') e3, by rw [e2, w2], w3.set hkl, w4⟩ (hS.put e2 e3 (hJ.2 σ k 0 _ he))
  rw [pCe_obj hq] at h'
  cases h'
  have hset : (fs.mapIdx fun b c => pFv (adB base adK) un (σ.1 k 0) (σ.2 k) b c).set b v = fs.mapIdx fun b' c => pFv (adB base adK) un (dset σ.1 k 0 b x k 0) (σ.2 k) b' c := mapIdx_upd (fun j c hj => pFv_ne _ _ hj) (fun c h => by rw [hcd] at h; cases h; exact hv)
  rw [← hset]
  exact ⟨_, hc, t_OB.to (V := updV (vp_V _) b v) ⟨_, e1, q2, q3, t_set q4 hap hbN v⟩ (fun j _ => vp_updV_set hl v j)⟩
/-- a new array of references -/
theorem w_anew {own : String} (G : kG p s m args c cc own cA dg) (hover : va_AO RX5 s) {n index : Nat} (hn : n < 100000) (hcl : Cond.classLink own index RX5 ∈ tg) (hl : S.length < 143) (hr : rws S.length = 0) (hcells : cells + 1 ≤ R.cells) (hslots : slots + n ≤ R.slots) (hdg : decode cc pc = .ok (.anewarray index, 3)) (hW : wB base adK un cA dg S σ H) (hS : va_S (fun q => base ≤ q) H0 H locs)
    (kk : ∀ H1 : Heap, wB base adK un cA dg (S ++ [(4, n, List.replicate n 0)]) σ H1 → va_S (fun q => base ≤ q) H0 H1 locs → W p l e R s m args below meth c H1 locs (cells + 1) (slots + n) Q (F0 m (pc + 3) ls (.ref (adB base adK S.length 0) :: rest))) : W p l e R s m args below meth c H locs cells slots Q (F0 m pc ls (.int (nI n) :: rest)) := by
  obtain ⟨hx, hb, hts, hown, hK⟩ := G
  obtain ⟨w1, w2, w3, w4⟩ := hW
  have hcn : (nI n).toNatClampNeg = n := nI_clamp (by omega)
  refine W.anew hx hb hown (hts _ hcl) (va_AO.use hover) rfl hdg rfl (nI_pos (by omega)) (by rw [hcn]; omega) hcells (by rw [hcn]; exact hslots) fun cB kB comp f1 f2 f3 f4 => ?_
  rw [hcn]
  generalize hH1 : H.push ({ cls := cB, slots := Array.replicate n .null, vm := .none } : Cell) = H1
  have z1 : H1.size = H.size + 1 := by rw [← hH1, Array.size_push]
  have e1 : H1[H.size]? = some (arrV cB n (fun _ => .null)) := by rw [← hH1, Array.getElem?_push_size, ← arrV_new]
  have o1 : ∀ q : Nat, q < H.size → H1[q]? = H[q]? := fun q hq => by rw [← hH1, Array.getElem?_push, if_neg (Nat.ne_of_lt hq)]
  have had : adB base adK S.length 0 = H.size := by rw [adB_at hl, w2, Nat.add_zero]
  have hcB : cB = cA 4 := by
    obtain ⟨-, -, -, -, -, k4⟩ := (hK.2 4 _ rfl).2
    exact Option.some.inj (f1.symm.trans k4)
  subst hcB
  show W p l e R s m args below meth c H1 locs (cells + 1) (slots + n) Q (F0 m (pc + 3) ls (.ref H.size :: rest))
  rw [← had]
  refine kk H1 ⟨w1.push o1 fun j ee hj => ?_, by rw [z1, w2, List.length_append, List.length_singleton, offs_s, hr]; omega, ?_, w4.push hl (fun h => by dsimp only at h; omega)⟩ ⟨Nat.le_trans hS.1 (by omega), fun q h1 h2 => (o1 q (Nat.lt_of_lt_of_le h1 hS.1)).trans (hS.2.1 q h1 h2), hS.2.2⟩
  · cases j with
    | zero =>
      cases hj
      show H1[_]? = some (vp_cell _ _)
      rw [had, e1, vp_cell_q]
      congr 2
      funext i
      dsimp only
      rw [List.getD_eq_getElem?_getD, List.getElem?_replicate]
      split <;> rfl
    | succ j => cases hj
  · rw [List.length_append, List.length_singleton]
    exact w3.up (Nat.le_succ _)
/-- a reference into an array -/
theorem w_aast {own : String} (G : kG p s m args c cc own cA dg) {k n r nr i : Nat} {fs frs : List Nat} (hq : S[k]? = some (4, n, fs)) (hi : i < n) (hn : n < 100000) (hln : fs.length = n) (hr : S[r]? = some (12, nr, frs)) (hdg : decode cc pc = .ok (.aastore, 1)) (hW : wB base adK un cA dg S σ H) (hS : va_S (fun q => base ≤ q) H0 H locs)
    (kk : ∀ (H1 : Heap) (locs1 : List Loc), wB base adK un cA dg (S.set k (4, n, fs.set i (r + 1))) σ H1 → va_S (fun q => base ≤ q) H0 H1 locs1 → W p l e R s m args below meth c H1 locs1 cells slots Q (F0 m (pc + 1) ls rest)) : W p l e R s m args below meth c H locs cells slots Q (F0 m pc ls (.ref (adB base adK r 0) :: .int (nI i) :: .ref (adB base adK k 0) :: rest)) := by
  obtain ⟨hx, hb, hts, hown, hK⟩ := G
  obtain ⟨w1, w2, w3, w4⟩ := hW
  have hJ := pAp_B (base := base) (adK := adK) (un := un) (cA := cA) w4
  have hkl : k < S.length := (List.getElem?_eq_some_iff.mp hq).1
  have he : pCe S (adB base adK) un cA σ k 0 = some (.inl (cA 4, n, .inr (.inr (.inr (.inr (fun i => pRc (adB base adK) (fs.getD i 0))))))) := by unfold pCe; rw [hq]; rfl
  have hcn : (nI i).toNatClampNeg = i := nI_clamp (by omega)
  obtain ⟨r', hr', cellV, g1, g2, g3, -⟩ := w1 r 0 _ (pCe_obj (a := 5) hr σ)
  have hcls := (hK.1 5 _ rfl).2
  obtain ⟨kA, comp, k1, k2, k3, -⟩ := (hK.2 4 _ rfl).2
  have hcomp : comp = dg.1 5 := Option.some.inj (k3.symm.trans hcls.1)
  subst hcomp
  obtain ⟨kC, hkC, -⟩ := hcls.2
  refine W.aast hx hb (w1 k 0 _ he) (fun q h => by cases h) (fun h => by cases h) k1 k2 rfl hkC ⟨nI_pos (by omega), by show _ < (arrV _ _ _).slots.size; rw [arrV_size, hcn]; exact hi⟩ g1 (fun q h => by rw [g3] at h; cases h) (by rw [g2]; exact hkC) (by rw [g2]; exact va_assign hcls) rfl rfl hdg fun H1 e1 z oq => ?_
  rw [hcn] at e1
  have hp : plS (S.set k (4, n, fs.set i (r + 1))) := by
    intro k' q hq' h6
    by_cases ek : k = k'
    · subst ek
      rw [List.getElem?_set_self hkl] at hq'
      cases hq'
      exact ⟨(w4 k _ hq (by show (4 : Nat) ≠ 6; omega)).1, fun h => by dsimp only at h; omega⟩
    · rw [List.getElem?_set_ne ek] at hq'
      exact w4 k' q hq' h6
  refine kk H1 _ ⟨?_, by rw [z, w2, List.length_set], by rw [List.length_set]; exact w3, hp⟩ (hS.put z oq (hJ.2 σ k 0 _ he))
  intro k' j' ee hh
  unfold pCe at hh
  rw [List.getElem?_set] at hh
  by_cases ek : k = k'
  · subst ek
    rw [if_pos rfl, if_pos hkl] at hh
    dsimp only at hh
    cases j' with
    | zero =>
      cases hh
      show H1[_]? = some (vp_cell _ _)
      rw [e1, vp_cell_q, vp_cell_q, arrV_store]
      congr 2
      funext q
      dsimp only
      by_cases hqi : q = i
      · subst hqi
        rw [List.getD_eq_getElem?_getD, List.getElem?_set_self (by rw [hln]; exact hi)]
        simp [updV, va_rf, pRc]
      · rw [List.getD_eq_getElem?_getD, List.getElem?_set_ne (fun z => hqi z.symm), ← List.getD_eq_getElem?_getD]
        simp [updV, hqi]
    | succ j => cases hh
  · rw [if_neg ek] at hh
    have h2 : pCe S (adB base adK) un cA σ k' j' = some ee := hh
    exact (w1 k' j' ee h2).kept (oq _ fun q => ek (hJ.1 σ σ k 0 k' j' _ ee he h2 q.symm).1.symm)
end INIT
