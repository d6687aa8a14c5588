/-! THE CLAIM OUT OF ONE WALK OF THE LAW'S BODY. Your part is whole_start (and what it stands on); all else here is the same for every law, but numbers. -/
def R_law : String := "HeronBookLaw"
def lw_P (b : Addr) (xs : List Int32) (args : Array Value) (s : State) : Prop := args = #[.ref b] ∧ s.IntsAt b xs ∧ xs.length ≤ 3072 ∧ (Jvm.Cond.and given_1 narrow_1).before args s = true
def lw_Q (_ : Array Value) (s : State) (o : Outcome) (t : State) : Prop := o = .returned (some (.int 1)) ∧ Framed s o t [] 600000 7302250
def lw_Z (below : List Frame) (a : Array Value) (s : State) : State → Prop := fun t => ∃ o, t.status = .running ∧ Ended t below o ∧ lw_Q a s o t
/-- the law's own end, with 1 on the stack, nothing written that was there before, its room as the claim has it -/
theorem lw_ret {p : Program} {l : Launch} {e : Env} {s : State} {m : MethodId} {below : List Frame} {meth : Method} {c : Code} {b : Nat} (hx : p.tables.exec = Jvm.exec) (hb : c.code = code) (hr : meth.sig.returnType = ret) (hlocks : meth.locks = false) {pc : Nat} {H : Heap} {ls : Array Slot} (hdg : decode code pc = .ok (.ireturn, 1)) : W p l e room_1 s m #[Value.ref b] below meth c H [] 600000 7302250 (lw_Z below #[Value.ref b] s) (F0 m pc ls [.int 1]) := by
  intro T hT X
  obtain ⟨fs, hret, hrun, hended, hW, hframe⟩ := X.leave (v := some (.int 1)) (hlocks := hlocks) (fun h => by rw [hr] at h; cases h)
  have hmeth' : T.vm.method? m = some meth := X.method'
  refine ⟨T.setFrames fs, ?_, .returned (some (.int 1)), hrun, hended, rfl, ⟨_, rfl⟩, hW, hframe⟩
  jvm_step X.here [X.here.top, hx, hb, hdg, hmeth', hr, ret, narrow_b1]
  (try refine ⟨rfl, ?_⟩); (try refine ⟨rfl, ?_⟩)
  first | (intro acts; rw [hret _ acts rfl rfl rfl]) | rw [hret _ _ rfl rfl rfl]
  exact Steps.refl _
/-- what holds at the law's entry: the machine, the code, the tables' words (any of lw_tbl by 'hts w (by decide +kernel)'), the script of L ints xs at the cell b, what the Statement gives of the start (any of its parts by flat_of_before) -/
def lw_At (p : Program) (s : State) (m : MethodId) (meth : Method) (c : Code) (b L : Nat) (xs : Nat → Int32) : Prop :=
  p.tables.exec = Jvm.exec ∧ c.code = code ∧ meth.sig.returnType = ret ∧ c.maxLocals = 4 ∧ s.vm.findClass R_law = some m.cls ∧ (∀ w ∈ lw_tbl, w.before #[Value.ref b] s = true) ∧ va_X b L xs s s.heap ∧ b < s.heap.size ∧ meth.locks = false ∧ (Jvm.Cond.and given_1 narrow_1).before #[Value.ref b] s = true
/-- what the law's loop stands on -/
def LC (p : Program) (s : State) (m : MethodId) (c : Code) (b L : Nat) (xs : Nat → Int32) (ad : Nat → Nat → Nat) (un : Nat) (cA : Nat → ClassId) (dg : va_G) (adV : Nat → Nat) : Prop := p.tables.exec = Jvm.exec ∧ c.code = code ∧ c.maxLocals = 4 ∧ s.vm.findClass RL = some m.cls ∧ (∀ w ∈ tg, w.before #[Value.ref b] s = true) ∧ pAp Sh ad un cA (fun q => s.heap.size ≤ q) ∧ va_K dg vwCl (pTys cA) s ∧ pZZ ad adV (fun q => s.heap.size ≤ q) s ∧ va_X b L xs s s.heap ∧ b < s.heap.size ∧ L ≤ 3072
abbrev la_lv (ad : Nat → Nat → Nat) (b i : Nat) : List (Nat × Value) := [(0, .ref b), (1, .ref (ad 0 0)), (2, .ref (ad 100 0)), (3, .int (nI i))]
section LAW
variable {p : Program} {l : Launch} {e : Env} {s : State} {m : MethodId} {below : List Frame} {meth : Method} {c : Code} {Q : State → Prop} {b L : Nat} {xs : Nat → Int32} {ad : Nat → Nat → Nat} {un : Nat} {cA : Nat → ClassId} {dg : va_G} {adV : Nat → Nat} {cells slots : Nat} {H : Heap} {locs : List Loc} {ls : Array Slot} {rest : List Value}
theorem la_arg (C : LC p s m c b L xs ad un cA dg adV) {i j pc : Nat} (hl : lv_has ls 4 (la_lv ad b i)) (hS : va_S (fun q => s.heap.size ≤ q) s.heap H locs) (hij : i + j < L) (hj : Int32.ofInt (j : Int) = nI j) (d0 : decode code pc = .ok (.aload_n 0, 1)) (d1 : decode code (pc + 1) = .ok (.iload_n 3, 1)) (d2 : decode code (pc + 2) = .ok (.iconst (j : Int), 1)) (d3 : decode code (pc + 3) = .ok (.iadd, 1)) (d4 : decode code (pc + 4) = .ok (.iaload, 1))
    (kk : W p l e room_1 s m #[Value.ref b] below meth c H locs cells slots Q (F0 m (pc + 5) ls (.int (xs (i + j)) :: rest))) : W p l e room_1 s m #[Value.ref b] below meth c H locs cells slots Q (F0 m pc ls rest) := by
  obtain ⟨hx, hb, hml, hown, hts, hJ, hK, hZ, hX, hbl, hL⟩ := C
  refine lv_aload_n hx hb d0 rfl (lv_at hl 0 rfl) ?_
  refine lv_iload_n hx hb d1 rfl (lv_at hl 3 rfl) ?_
  refine lv_iconst hx hb d2 hj ?_
  refine lv_iadd hx hb d3 ?_
  rw [nI_add i j]
  refine va_sld hx hb hX hbl (Nat.not_le.mpr hbl) hS (vp_in_nI hij (by omega)) d4 ?_
  rw [nI_clamp (by omega)]
  exact kk
theorem la_call (C : LC p s m c b L xs ad un cA dg adV) {idx me d k ci nk pc i1 i2 i3 i4 : Nat} {fs : List Nat} {xa : List Int32} {v : Int32} {σ σ' : pSt} {y : MethodName} {bytes : ByteArray} {maxL : Nat} {ret : Option FieldType} {st : List Value}
    (hev : ev Sh Pr Tx me d 0 (pL0 (.inr (.inr (k, 0)) :: xa.map .inl)) [] σ = some (some (.inl v), σ')) (hmi : miT[me]? = some (false, i4, ci + 1, i1, i2, i3)) (hln : xa.length = i4) (hce : Sh[k]? = some (ci + 7, nk, fs)) (hI : Inf[me]? = some (y, bytes, maxL, ret)) (hlk : Cond.methodLink RL idx y ∈ tg) (hd : d ≤ 100) (hdg : decode code pc = .ok (.invokevirtual idx, 3)) (hlsz : ls.size = 4) (hrm : (rest.map fun v => v.category).sum ≤ 8) (hcs : cells ≤ 600000 ∧ slots ≤ 7302250) (hst : st = (xa.map Value.int).reverse ++ .ref (ad k 0) :: rest)
    (hW : pWo Sh ad un cA dg σ H) (hS : va_S (fun q => s.heap.size ≤ q) s.heap H locs)
    (kk : ∀ (H1 : Heap) (locs1 : List Loc), pWo Sh ad un cA dg σ' H1 → va_S (fun q => s.heap.size ≤ q) s.heap H1 locs1 → W p l e room_1 s m #[Value.ref b] below meth c H1 locs1 cells slots Q (F0 m (pc + 3) ls (.int v :: rest))) : W p l e room_1 s m #[Value.ref b] below meth c H locs cells slots Q (F0 m pc ls st) := by
  obtain ⟨hx, hb, hml, hown, hts, hJ, hK, hZ, hX, hbl, hL⟩ := C
  obtain ⟨y2, b2, m2, r2, hI2, w6, w7, w4, hpl, w12, w5, -, hvi⟩ := mi_inf hmi
  rw [hI] at hI2
  cases hI2
  obtain ⟨w2, w3, w11, -, qc, w10, w10b⟩ := hvi rfl
  have hAll := tg_all (l := l) (dg := dg) (adV := adV) hJ
  have hcat : ∀ v ∈ (.inr (.inr (k, 0)) :: xa.map .inl : List pV), ∀ y, v ≠ .inr (.inl y) := by
    intro v hv y
    rcases List.mem_cons.mp hv with rfl | hv
    · intro z
      cases z
    · obtain ⟨q, -, rfl⟩ := List.mem_map.mp hv
      intro z
      cases z
  have hM := pMet hAll hev hI hpl hcat (by rw [List.length_cons, List.length_map, hln]; exact w11)
  have hgood : ∀ ws : List Cond, (∀ w ∈ ws, w ∈ tg) → GoodIn tg ws := fun ws hw w h => ⟨hw w h, good_of_word (tg_good w (hw w h))⟩
  have hrun : va_Run p l e room_1 s m #[Value.ref b] below meth c H locs cells slots 0 0 (F0 m pc ls st) rest (pQc Sh ad un cA dg (fun q => s.heap.size ≤ q) (some (.inl v)) σ' (Value.ref (ad k 0) :: xa.map Value.int).toArray) (fun q => s.heap.size ≤ q) := by
    refine va_runV (As := xa.map Value.int) (b := ad k 0) (C := y.cls) ⟨hx, hb, hml, hown, hts⟩ hM (cwV i4 hts (hgood _ (fun q hq2 => ?_)) rfl rfl rfl ⟨rfl, w6.1, w6.2, w7⟩ ⟨?_, ?_⟩) ⟨pPc_blind (fun U g mk a h => h.calling U g mk a), ?_, ?_⟩ rfl (by rw [List.length_map]; exact hln) hlsz hst (lv_room hrm) hdg hcs
    · unfold wsV at hq2
      simp only [List.cons_append, List.nil_append, List.mem_cons] at hq2
      rcases hq2 with rfl | rfl | rfl | rfl | rfl | h5
      · exact hlk
      · exact w2
      · exact w3
      · exact w4
      · exact w5
      · exact h5
    · show d + 8 + 1 ≤ 2048
      omega
    · show 8 + (maxL + 11) + 64 * (d + 8) ≤ 84000
      omega
    · have := va_recv (q0 := 0) hK (hW.sing (pCe_obj hce σ)) w10 rfl
      rw [w10b] at this
      exact this
    · intro U hU hWm
      refine ⟨?_, by rw [hU]; exact hW, va_K.moved hWm.alike hK, hZ.moved hWm (fun q h1 h2 => by rw [hU]; exact hS.2.1 q h1 h2)⟩
      rw [List.map_cons, List.map_map]
      rfl
  intro T2 hT X
  obtain ⟨v', st₀, t, T', LL, h0, X', hLL, e1, e2, ⟨hv, hw, hz, hk⟩, stp⟩ := hrun T2 hT X
  rw [h0] at hz hk
  have hv : v' = some (.int v) := by injection hv
  subst hv
  obtain ⟨t2, a1, b1⟩ := kk T'.heap (locs ++ LL) (by rw [e1]; exact hw) ⟨Nat.le_trans hS.1 (by rw [e1]; exact hz), fun q h1 h2 => by rw [e1, hk q (Nat.lt_of_lt_of_le h1 hS.1) h2]; exact hS.2.1 q h1 h2, fun q hq => by
      rcases List.mem_append.mp hq with h | h
      · exact hS.2.2 q h
      · exact hLL q h⟩ T' rfl X'
  exact ⟨t2, stp t2 a1, b1⟩
end LAW
