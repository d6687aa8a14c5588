/-! CONSTRUCTORS: calls inside them -/
def noTx (S : List pSh) : Prop := ∀ (k : Nat) (q : pSh), S[k]? = some q → q.1 ≠ 6
set_option maxHeartbeats 4000000 in
theorem tx_rule' {l : Launch} {S : List pSh} {ad : Nat → Nat → Nat} {un : Nat} {cA : Nat → ClassId} {dg : va_G} {A : Nat → Prop} {adV : Nat → Nat} (hno : noTx S) : ∀ (p : Program) (e : Env) (d : Nat) (s : State) (m : MethodId) (args : Array Value) (below : List Frame) (meth : Method) (c : Code) (Q : State → Prop) (nL : Nat) (cc : ByteArray) (own : String) (pc : Nat) (x : pX), p.tables.exec = Jvm.exec → c.code = cc → c.maxLocals = nL → s.vm.findClass own = some m.cls → (∀ w ∈ tg, w.before args s = true) → va_K dg vwCl (pTys cA) s → pZZ ad adV A s → decode cc pc = .ok (x.1, pLen x.1 x.2.2.1) → pXsS own x → pStr p l e (pRoom d) s m args below meth c Q S ad un cA dg A s.heap nL cc Tx pc x := by
  intro p e d s m args below meth c Q nL cc own pc x hx hb hml hown hw hK hz hdec hX
  obtain ⟨ins, a, b, c', w, gk, z⟩ := x
  cases ins with
  | ldc i =>
    intro hb0 L st σ kk H locs ls hW hS hL
    obtain ⟨oc, rfl, hin⟩ := hX hb0
    obtain ⟨tx, htx⟩ := sx_in hin
    exact va_ldcS hx hb hown (hz.2 _ htx) hdec (kk H locs ls hW hS hL)
  | invokevirtual i =>
    intro hc0
    exact ⟨fun hb0 L r σ k n fs t hq => absurd rfl (hno k _ hq), fun hb0 L r σ k n fs t i2 hq => absurd rfl (hno k _ hq)⟩
  | _ => exact trivial
theorem tg_all' {l : Launch} {S : List pSh} {ad : Nat → Nat → Nat} {un : Nat} {cA : Nat → ClassId} {dg : va_G} {A : Nat → Prop} {adV : Nat → Nat} (hno : noTx S) (hsh : pShOk S) (hJ : pAp S ad un cA A) : pAll l S Pr Tx Inf tg ad un cA dg A (pZZ ad adV A) pXsS :=
  ⟨tg_good, tg_cl, hsh, hJ, tg_prim, tg_pok, fun _ _ hW _ hk h => h.moved hW hk, fun U g mk a h => h.calling U g mk a, tx_rule' hno⟩
section KCALL
variable {p : Program} {l : Launch} {e : Env} {R : Room} {s : State} {m : MethodId} {args : Array Value} {below : List Frame} {meth : Method} {c : Code} {Q : State → Prop} {S : List pSh} {base : Nat} {adK : Nat → Nat} {un : Nat} {cA : Nat → ClassId} {dg : va_G} {adV : Nat → Nat} {H : Heap} {locs : List Loc} {cells slots pc : Nat} {ls : Array Slot} {rest : List Value} {cc : ByteArray} {σ σ' : pSt}
/-- a method of this, without arguments and answer -/
theorem k_call {own : String} {nL : Nat} (F : kF p s m args meth c cc own cA dg) (hml : c.maxLocals = nL) (hZ : pZZ (adB base adK) adV (fun q => base ≤ q) s) (hno : noTx S) (hsh : pShOk S) {idx me d k ci nk i1 i2 i3 : Nat} {fs : List Nat} {y : MethodName} {bytes : ByteArray} {maxL : Nat} {ret : Option FieldType}
    (hev : ev S Pr Tx me d 0 (pL0 [.inr (.inr (k, 0))]) [] σ = some (none, σ')) (hz : zB S.length σ') (hmi : miT[me]? = some (false, 0, ci + 1, i1, i2, i3)) (hce : S[k]? = some (ci + 7, nk, fs)) (hI : Inf[me]? = some (y, bytes, maxL, ret)) (hlk : Cond.methodLink own idx y ∈ tg) (hfr : d + 9 ≤ R.frames) (hlo : 59 + 64 * (d + 8) ≤ R.locals) (hdg : decode cc pc = .ok (.invokevirtual idx, 3)) (hlsz : ls.size = nL) (hrm : (rest.map fun v => v.category).sum ≤ 8) (hcs : cells ≤ R.cells ∧ slots ≤ R.slots)
    (hsz : H.size = s.heap.size + cells) (hW : wB base adK un cA dg S σ H) (hS : va_S (fun q => base ≤ q) s.heap H locs)
    (kk : ∀ (H1 : Heap) (locs1 : List Loc), wB base adK un cA dg S σ' H1 → va_S (fun q => base ≤ q) s.heap H1 locs1 → W p l e R s m args below meth c H1 locs1 cells slots Q (F0 m (pc + 3) ls rest)) : W p l e R s m args below meth c H locs cells slots Q (F0 m pc ls (.ref (adB base adK k 0) :: rest)) := by
  obtain ⟨hx, hb, hts, hown, hK, -⟩ := F
  obtain ⟨w1, wz, w3, w4⟩ := hW
  obtain ⟨y2, b2, m2, r2, hI2, w6, w7, w4', hpl, w12, w5, -, hvi⟩ := mi_inf hmi
  rw [hI] at hI2
  cases hI2
  obtain ⟨w2, w3', w11, -, qc, w10, w10b⟩ := hvi rfl
  have hAll := tg_all' (l := l) (un := un) (cA := cA) (dg := dg) (adV := adV) hno hsh (pAp_B (base := base) (adK := adK) w4)
  have hcat : ∀ v ∈ ([.inr (.inr (k, 0))] : List pV), ∀ y, v ≠ .inr (.inl y) := by
    intro v hv y
    rcases List.mem_cons.mp hv with rfl | hv
    · intro z
      cases z
    · cases hv
  have hM := pMet hAll hev hI hpl hcat (show 1 ≤ maxL by have : 0 + 1 ≤ maxL := w11; omega)
  have hgood : ∀ ws : List Cond, (∀ w ∈ ws, w ∈ tg) → GoodIn tg ws := fun ws hw w h => ⟨hw w h, good_of_word (tg_good w (hw w h))⟩
  have hrun : va_Run p l e R s m args below meth c H locs cells slots 0 0 (F0 m pc ls (.ref (adB base adK k 0) :: rest)) rest (pQc S (adB base adK) un cA dg (fun q => base ≤ q) none σ' (Value.ref (adB base adK k 0) :: []).toArray) (fun q => base ≤ q) := by
    refine va_runV (As := []) (b := adB base adK k 0) (C := y.cls) ⟨hx, hb, hml, hown, hts⟩ hM (cwV 0 hts (hgood _ (fun q hq2 => ?_)) rfl rfl rfl ⟨rfl, w6.1, w6.2, w7⟩ ⟨?_, ?_⟩) ⟨pPc_blind (fun U g mk a h => h.calling U g mk a), ?_, ?_⟩ rfl rfl hlsz rfl (lv_room hrm) hdg hcs
    · unfold wsV at hq2
      simp only [List.cons_append, List.nil_append, List.mem_cons] at hq2
      rcases hq2 with rfl | rfl | rfl | rfl | rfl | h5
      · exact hlk
      · exact w2
      · exact w3'
      · exact w4'
      · exact w5
      · exact h5
    · exact hfr
    · exact Nat.le_trans (Nat.add_le_add_right (Nat.add_le_add_left (Nat.add_le_add_right w12 11) 8) _) hlo
    · have := va_recv (q0 := 0) hK (w1.sing (pCe_obj hce σ)) w10 rfl
      rw [w10b] at this
      exact this
    · intro U hU hWm
      exact ⟨rfl, by rw [hU]; exact w1, va_K.moved hWm.alike hK, hZ.moved hWm (fun q h1 h2 => by rw [hU]; exact hS.2.1 q h1 h2)⟩
  intro T2 hT X
  obtain ⟨v', st₀, t, T', LL, h0, X', hLL, e1, e2, ⟨hv, hw, hz1, hk⟩, stp⟩ := hrun T2 hT X
  rw [h0] at hz1 hk
  have hv : v' = none := by injection hv
  subst hv
  have hsame : T'.heap.size = H.size := by
    have hA := X'.heapSize
    have hB : H.size ≤ T'.heap.size := by rw [e1]; exact hz1
    rw [Nat.add_zero] at hA
    exact Nat.le_antisymm (by rw [hsz]; exact hA) hB
  obtain ⟨t2, a1, b1⟩ := kk T'.heap (locs ++ LL) ⟨by rw [e1]; exact hw, by rw [hsame]; exact wz, hz, w4⟩ ⟨Nat.le_trans hS.1 (by rw [e1]; exact hz1), fun q h1 h2 => by rw [e1, hk q (Nat.lt_of_lt_of_le h1 hS.1) h2]; exact hS.2.1 q h1 h2, fun q hq => by
      rcases List.mem_append.mp hq with h | h
      · exact hS.2.2 q h
      · exact hLL q h⟩ T' rfl X'
  exact ⟨t2, stp t2 a1, b1⟩
end KCALL
