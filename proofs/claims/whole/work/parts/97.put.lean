/-! WHAT IS MADE: objects, and the putting of their fields -/
section ROWS7
variable {p : Program} {l : Launch} {e : Env} {R : Room} {s : State} {m : MethodId} {args : Array Value} {below : List Frame} {meth : Method} {c : Code} {Q : State → Prop} {S : List pSh} {ad : Nat → Nat → Nat} {base : Nat} {adK : Nat → Nat} {un : Nat} {cA : Nat → ClassId} {dg : va_G} {A : Nat → Prop} {H H0 : Heap} {locs : List Loc} {cells slots pc : Nat} {ls : Array Slot} {rest : List Value} {cc : ByteArray} {σ : pSt}
/-- a final field, in its constructor -/
theorem w_putF (hx : p.tables.exec = Jvm.exec) (hb : c.code = cc) {own : String} {Ts : List Cond} (hts : ∀ w ∈ Ts, w.before args s = true) (hCl : pClOk Ts) (hown : s.vm.findClass own = some m.cls) (hK : va_K dg vwCl (pTys cA) s) (hJ : pAp S ad un cA A) (hin2 : meth.name = "<init>") {k a b n i cd : Nat} {fs : List Nat} {C : String} {T : u_T} {N : Nat} (hq : S[k]? = some (a + 7, n, fs)) (hc : vwCl[a]? = some (C, T, N)) (hbN : b < N) (hlk : Cond.fieldLink own i (T b).1 (T b).2.1 (T b).2.2.1 ∈ Ts) (hfin : (T b).2.2.2 = true) (hdecl : (T b).1 = own) (hcd : fs[b]? = some cd) {v : Value} {ty : FieldType} (hd : parseFieldDescriptor (T b).2.2.1 = some ty) (hn : narrow ty v = v) (hfit : fits ty v = true) {σ2 : pSt} (hv : pFv ad un (σ2.1 k 0) (σ2.2 k) b cd = v) (hv2 : ∀ j c, j ≠ b → pFv ad un (σ2.1 k 0) (σ2.2 k) j c = pFv ad un (σ.1 k 0) (σ.2 k) j c) (ho : ∀ k' j', ¬ (k' = k ∧ j' = 0) → pCe S ad un cA σ2 k' j' = pCe S ad un cA σ k' j') (hdg : decode cc pc = .ok (.putfield i, 3)) (hW : pWo S ad un cA dg σ H) (hS : va_S A H0 H locs)
    (kk : ∀ (H1 : Heap) (locs1 : List Loc), pWo S ad un cA dg σ2 H1 → H1.size = H.size → va_S A H0 H1 locs1 → W p l e R s m args below meth c H1 locs1 cells slots Q (F0 m (pc + 3) ls rest)) : W p l e R s m args below meth c H locs cells slots Q (F0 m pc ls (v :: .ref (ad k 0) :: rest)) := by
  obtain ⟨⟨ty0, hty⟩, hnm, hin⟩ := hCl a C T N hc
  have he := pCe_obj (ad := ad) (un := un) (cA := cA) hq σ
  have hap := va_apart (own := own) hts hin ty0 hty hnm hK hc
  obtain ⟨q, h1, cell, q1, q2, q3, q4⟩ := hW k 0 _ he
  have hr : q = (C, T, N) := Option.some.inj (h1.symm.trans hc)
  subst hr
  obtain ⟨hSl, hfc, kC, hkC, hkind⟩ := hK.1 a _ hc
  obtain ⟨cf, kf, fi, f, hi, hsl⟩ := hSl b hbN
  have hlay := hts _ (hin _ (u_in_lay hbN))
  unfold u_lay at hlay
  rw [if_pos hfin] at hlay
  have hst := (u_facts hfc hkC (u_lays hts hin hbN) hi).1
  have hcf : m.cls = cf := by
    obtain ⟨_, _, c', _, _, _, -, -, hf', -, -, -, hown2, -⟩ := Cond.laysFinal_spec hlay
    have e1 : c' = cf := by have := hi.symm.trans hf'; simp at this; exact this.1.symm
    rw [hdecl] at hown2
    rw [← e1]; exact Option.some.inj (hown.symm.trans hown2)
  have h6 := u_fits hfc hkC hkind (Or.inr hlay) hi hd hn hfit
  have hl : b < (fs.mapIdx fun b c => pFv ad un (σ.1 k 0) (σ.2 k) b c).length := by rw [List.length_mapIdx]; exact (List.getElem?_eq_some_iff.mp hcd).1
  refine W.putFinK hx hb hown (hts _ hlk) hi hst hcf hin2 (by rw [q2]; exact h6) q1 q3 (by rw [hsl]; exact k2_hasslot (q4 b hbN)) rfl rfl hdg fun H1 e1 e2 e3 => ?_
  rw [hsl] at e1 ⊢
  refine kk H1 _ (hW.put hJ he (fun e' h' => ?_) (fun k' j' hne e' h' => by rw [ho k' j' hne] at h'; exact h') e3) e2 (hS.put e2 e3 (hJ.2 σ k 0 _ he))
  rw [pCe_obj hq] at h'
  cases h'
  have hset : (fs.mapIdx fun b c => pFv ad un (σ.1 k 0) (σ.2 k) b c).set b v = fs.mapIdx fun b c => pFv ad un (σ2.1 k 0) (σ2.2 k) b c := mapIdx_upd hv2 (fun c h => by rw [hcd] at h; cases h; exact hv)
  rw [← hset]
  exact ⟨_, hc, t_OB.to (V := updV (vp_V _) b v) ⟨_, e1, q2, q3, t_set q4 hap hbN v⟩ (fun j _ => vp_updV_set hl v j)⟩
/-- a reference to the cell r, into an opened code -/
theorem pFv_up {ad : Nat → Nat → Nat} {un k b r : Nat} (D : pD) (E : pDL) : pFv ad un (dset D k 0 b 1 k 0) (E k) b (4 + 2 * r) = .ref (ad r 0) := by
  have h : pFr (1 + 2 * r) = (false, r) := by
    induction r with
    | zero => rfl
    | succ r ih =>
      rw [show 1 + 2 * (r + 1) = (1 + 2 * r) + 2 by omega]
      show ((pFr (1 + 2 * r)).1, (pFr (1 + 2 * r)).2 + 1) = _
      rw [ih]
  rw [show 4 + 2 * r = (1 + 2 * r) + 3 by omega]
  show pFa ad un (pFr (1 + 2 * r)) (dset D k 0 b 1 k 0 b) = _
  rw [h, dsA, if_pos rfl]
  rfl
theorem pFv_ne {ad : Nat → Nat → Nat} {un k b j c : Nat} {x : Int32} (D : pD) (E : pDL) (h : j ≠ b) : pFv ad un (dset D k 0 b x k 0) (E k) j c = pFv ad un (D k 0) (E k) j c := by
  have e : dset D k 0 b x k 0 j = D k 0 j := by rw [dsA, if_neg h]
  unfold pFv
  split <;> first | rfl | rw [e]
/-- new -/
theorem w_new (hx : p.tables.exec = Jvm.exec) (hb : c.code = cc) {own C : String} {T : u_T} {N ci index : Nat} {Ts : List Cond} (hts : ∀ w ∈ Ts, w.before args s = true) (hin : ∀ w ∈ u_ws C T N, w ∈ Ts) (ty : Nat → FieldType) (hty : ∀ k, k < N → parseFieldDescriptor (T k).2.2.1 = some (ty k)) (hown : s.vm.findClass own = some m.cls) (hcl : (Cond.classLink own index C).before args s = true) (hinst : (Cond.instantiable C N).before args s = true) (hini : (Cond.initialized C).before args s = true) (hK : va_K dg vwCl (pTys cA) s) (hc : vwCl[ci]? = some (C, T, N)) {fs : List Nat}
    (hfs : ∀ j, j < N → defaultValue (ty j) = vp_V (fs.mapIdx fun b c => pFv (adB base adK) un (fun _ => 0) (fun _ => 0) b c) j) (hW : pWo S (adB base adK) un cA dg σ H) (hz : H.size = base + offs S.length) (hl : S.length < 143) (hr : rws S.length = 0) (h0 : σ.1 S.length 0 = fun _ => 0) (h1 : σ.2 S.length = fun _ => 0) (hcells : cells + 1 ≤ R.cells) (hslots : slots + N ≤ R.slots) (hdg : decode cc pc = .ok (.new index, 3)) (hS : va_S (fun q => base ≤ q) H0 H locs)
    (kk : ∀ H1 : Heap, pWo (S ++ [(ci + 7, 0, fs)]) (adB base adK) un cA dg σ H1 → H1.size = base + offs (S.length + 1) → va_S (fun q => base ≤ q) H0 H1 locs → W p l e R s m args below meth c H1 locs (cells + 1) (slots + N) Q (F0 m (pc + 3) ls (.ref (adB base adK S.length 0) :: rest))) : W p l e R s m args below meth c H locs cells slots Q (F0 m pc ls rest) := by
  have hKn := hK.1 ci _ hc
  refine W.newcK hx hb hown hcl hinst hini rfl hdg hcells hslots hKn.2.1 rfl fun H1 kC hkC e1 z1 o1 => ?_
  have had : adB base adK S.length 0 = H.size := by rw [adB_at hl, hz, Nat.add_zero]
  rw [← had]
  refine kk H1 (hW.push o1 fun j ee hj => ?_) (by rw [z1, hz, offs_s, hr]; omega) ⟨Nat.le_trans hS.1 (by omega), fun q h1 h2 => (o1 q (Nat.lt_of_lt_of_le h1 hS.1)).trans (hS.2.1 q h1 h2), hS.2.2⟩
  cases j with
  | zero =>
    cases hj
    rw [h0, h1, had]
    exact ⟨_, hc, (u_born ty hts hin hKn hkC e1 hty).to hfs⟩
  | succ j => cases hj
end ROWS7
