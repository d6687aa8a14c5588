/-! ROWS OF ROWS: multianewarray with two lengths -/
section MULTI
/-- the outer array when the first i rows are in it -/
def mwO (h i : Nat) (j : Nat) : Value := if j < i then .ref (h + 1 + j) else .null
theorem mwO_s (h i : Nat) : updV (mwO h i) i (.ref (h + 1 + i)) = mwO h (i + 1) := by
  funext j
  unfold updV mwO
  by_cases e : j = i
  · subst e
    rw [if_pos rfl, if_pos (Nat.lt_succ_self _)]
  · rw [if_neg e]
    by_cases h2 : j < i
    · rw [if_pos h2, if_pos (by omega)]
    · rw [if_neg h2, if_neg (by omega)]
/-- the state with i rows made -/
def mwS (cO cI : ClassId) (N M : Nat) (T : State) : Nat → State
  | 0 => T.pushCell (arrV cO N (mwO T.heap.size 0))
  | i + 1 => ((mwS cO cI N M T i).pushCell (arrV cI M (fun _ => .int 0))).setCell T.heap.size (arrV cO N (mwO T.heap.size (i + 1)))
def mwF (cO cI : ClassId) (N M : Nat) (T U : State) (i : Nat) : Prop := U.heap.size = T.heap.size + 1 + i ∧ U.heap[T.heap.size]? = some (arrV cO N (mwO T.heap.size i)) ∧ U.vm = T.vm ∧ U.slotsUsed = T.slotsUsed + N + i * M ∧ (∀ q : Nat, q < T.heap.size → U.heap[q]? = T.heap[q]?) ∧ ∀ j, j < i → U.heap[T.heap.size + 1 + j]? = some (arrV cI M (fun _ => .int 0))
theorem mwS_F (cO cI : ClassId) (N M : Nat) (T : State) : ∀ i, mwF cO cI N M T (mwS cO cI N M T i) i
  | 0 => by
    refine ⟨by simp [mwS], by simp [mwS], rfl, by simp [mwS, arrV_size], fun q hq => State.heap_pushCell_of_lt _ _ hq, fun j hj => absurd hj (Nat.not_lt_zero _)⟩
  | i + 1 => by
    obtain ⟨a1, a2, a3, a4, a5, a6⟩ := mwS_F cO cI N M T i
    have old : ∀ q : Nat, q < T.heap.size + 1 + i → ((mwS cO cI N M T i).pushCell (arrV cI M (fun _ => .int 0))).heap[q]? = (mwS cO cI N M T i).heap[q]? := fun q hq => State.heap_pushCell_of_lt _ _ (by rw [a1]; exact hq)
    have b2 := (old T.heap.size (by omega)).trans a2
    refine ⟨?_, State.heap_setCell_self b2, by simp [mwS, a3], ?_, fun q hq => ?_, fun j hj => ?_⟩
    · simp [mwS, State.setCell, a1]
      omega
    · simp [mwS, a4, arrV_size, Nat.succ_mul]
      omega
    · show (((mwS cO cI N M T i).pushCell _).setCell T.heap.size _).heap[q]? = _
      rw [State.heap_setCell_other (Nat.ne_of_gt hq), old q (by omega)]
      exact a5 q hq
    · show (((mwS cO cI N M T i).pushCell _).setCell T.heap.size _).heap[T.heap.size + 1 + j]? = _
      rw [State.heap_setCell_other (show T.heap.size ≠ T.heap.size + 1 + j by omega)]
      by_cases e : j = i
      · subst e
        rw [← a1]
        exact State.heap_pushCell_size _ _
      · rw [old _ (by omega)]
        exact a6 j (by omega)
theorem mwS_top (cO cI : ClassId) (N M : Nat) (T : State) (f : JFrame) : ∀ i, mwS cO cI N M (T.setTop f) i = (mwS cO cI N M T i).setTop f
  | 0 => rfl
  | i + 1 => by simp only [mwS, mwS_top cO cI N M T f i, State.heap_setTop, State.pushCell_setTop, State.setCell_setTop]
theorem mwS_stand {p : Program} {l : Launch} {e : Env} {R : Room} {s : State} {m : MethodId} {args : Array Value} {below : List Frame} {meth : Method} {c : Code} {T : State} {locs : List Loc} {cells slots : Nat} (X : Stand p l e R s m args below meth c T locs cells slots) (cO cI : ClassId) (N M : Nat) : ∀ i, ∃ L : List Loc, (∀ q ∈ L, q.base = T.heap.size) ∧ Stand p l e R s m args below meth c (mwS cO cI N M T i) (locs ++ L) (cells + 1 + i) (slots + N + i * M)
  | 0 => by
    refine ⟨[], fun q h => (List.not_mem_nil h).elim, ?_⟩
    have h := X.pushed (arrV cO N (mwO T.heap.size 0))
    rw [arrV_size] at h
    rw [List.append_nil, Nat.zero_mul]
    exact h
  | i + 1 => by
    obtain ⟨L, hL, Xi⟩ := mwS_stand X cO cI N M i
    obtain ⟨a1, a2, -, -, -, -⟩ := mwS_F cO cI N M T i
    have hc : ((mwS cO cI N M T i).pushCell (arrV cI M (fun _ => .int 0))).heap[T.heap.size]? = some (arrV cO N (mwO T.heap.size i)) := by
      rw [State.heap_pushCell_of_lt (h := show T.heap.size < (mwS cO cI N M T i).heap.size by rw [a1]; omega)]
      exact a2
    have h := (Xi.pushed (arrV cI M (fun _ => .int 0))).stored hc i (.ref (T.heap.size + 1 + i))
    rw [arrV_size, arrV_store, mwO_s] at h
    refine ⟨L ++ [⟨T.heap.size, i⟩], fun q hq => ?_, ?_⟩
    · rcases List.mem_append.mp hq with h1 | h1
      · exact hL q h1
      · rw [List.mem_singleton.mp h1]
    · rw [← List.append_assoc, show slots + N + (i + 1) * M = slots + N + i * M + M by rw [Nat.succ_mul]; omega]
      exact h
variable {E : CtlPost} {e : Env} {d : Bool} {acts : List Action}
theorem mw_new {T : State} {cB comp : ClassId} {k : Class} {ty : FieldType} {len : Nat} {x : Value} {Q : Addr → Pre} (hk : T.vm.classes[cB]? = some k) (hkind : k.kind = .array comp ty) (h3 : len ≤ e.platform.arrayLengthLimit) (h4 : len * componentBytes ty ≤ e.platform.maxHeapBytes) (hf : fits ty x = true) (hd : x.isDefault = true) (h1 : T.heap.size < e.platform.maxCells) (h2 : T.slotsUsed + len ≤ e.platform.maxSlots) (hq : Q T.heap.size d acts (T.pushCell (arrV cB len (fun _ => x)))) : wp (Jvm.newArray cB len x) Q E e d acts T := by
  have g1 : ∀ i v, (Array.replicate len x)[i]? = some v → T.fitsSlot cB .none i v = true := by
    intro i v hv
    rw [Array.getElem?_replicate] at hv
    split at hv
    · cases hv
      simp [State.fitsSlot, State.slotType?, hk, hkind, hf]
    · cases hv
  have g2 : allocActs (Array.replicate len x) T.heap.size acts = acts := by
    unfold allocActs
    rw [if_pos (by rw [Array.all_replicate]; split <;> simp [hd])]
  have n3 : ¬ len > e.platform.arrayLengthLimit := by omega
  have n4 : ¬ len * componentBytes ty > e.platform.maxHeapBytes := by omega
  rw [← arrV_new] at hq
  simp only [Jvm.newArray, Jvm.arrayFits, wp_bind', W.ask, W.ite, n3, if_false, wp_pure', W.theClass, hk, hkind, n4, W.alloc, W.stop, Option.some.injEq, exists_eq_left', Array.size_replicate, g2]
  rw [if_neg (by omega)]
  exact ⟨h1, h2, g1, hq⟩
theorem mw_row {T : State} {cI cc : ClassId} {k : Class} {M : Int32} {Q : Addr → Pre} (hk : T.vm.classes[cI]? = some k) (hkind : k.kind = .array cc .int) (hM : ¬ M < 0) (h3 : M.toNatClampNeg ≤ e.platform.arrayLengthLimit) (h4 : M.toNatClampNeg * 4 ≤ e.platform.maxHeapBytes) (h1 : T.heap.size < e.platform.maxCells) (h2 : T.slotsUsed + M.toNatClampNeg ≤ e.platform.maxSlots) (hq : Q T.heap.size d acts (T.pushCell (arrV cI M.toNatClampNeg (fun _ => .int 0)))) : wp (Op.multianewarray.make cI [M]) Q E e d acts T := by
  rw [Op.multianewarray.make]
  simp only [wp_bind', W.ite, hM, if_false, wp_pure', W.theClass, hk, hkind, Option.some.injEq, exists_eq_left']
  exact mw_new hk hkind h3 h4 rfl rfl h1 h2 hq
theorem mw_rows {T : State} {cO cI cc : ClassId} {kO kI : Class} {n M : Int32} {Q : Addr → Pre} (hkO : T.vm.classes[cO]? = some kO) (hkindO : kO.kind = .array cI (.array .int)) (hkI : T.vm.classes[cI]? = some kI) (hkindI : kI.kind = .array cc .int) (hn : ¬ n < 0) (hM : ¬ M < 0) (l1 : n.toNatClampNeg ≤ e.platform.arrayLengthLimit) (l2 : n.toNatClampNeg * 4 ≤ e.platform.maxHeapBytes) (l3 : M.toNatClampNeg ≤ e.platform.arrayLengthLimit) (l4 : M.toNatClampNeg * 4 ≤ e.platform.maxHeapBytes) (r1 : T.heap.size + 1 + n.toNatClampNeg ≤ e.platform.maxCells) (r2 : T.slotsUsed + n.toNatClampNeg + n.toNatClampNeg * M.toNatClampNeg ≤ e.platform.maxSlots) (hq : ∀ d' acts', Q T.heap.size d' acts' (mwS cO cI n.toNatClampNeg M.toNatClampNeg T n.toNatClampNeg)) : wp (Op.multianewarray.make cO [n, M]) Q E e d acts T := by
  generalize hN : n.toNatClampNeg = N at *
  generalize hMM : M.toNatClampNeg = MM at *
  rw [Op.multianewarray.make]
  simp only [wp_bind', W.ite, hn, if_false, wp_pure', W.theClass, hkO, hkindO, Option.some.injEq, exists_eq_left']
  rw [hN]
  refine mw_new hkO hkindO l1 l2 rfl rfl (by omega) (by omega) ?_
  have hno : List.find? (fun x : Int32 => decide (x < 0)) [M] = none := by simp [hM]
  simp only [hno]
  rw [ite_self, wp_bind', Std.Legacy.Range.forIn_eq_forIn_range', show ([:N] : Std.Legacy.Range).size = N by simp [Std.Legacy.Range.size]]
  refine wp_forIn_inv (fun rest U => ∃ i, rest = List.range' i (N - i) ∧ i ≤ N ∧ U = mwS cO cI N MM T i) _ _ ⟨0, rfl, Nat.zero_le _, ?_⟩ ?_ ?_
  · show T.pushCell (arrV cO N (fun _ => .null)) = T.pushCell (arrV cO N (mwO T.heap.size 0))
    congr 2
  · rintro x rest U d' acts' Q' ⟨i, hl, hi, rfl⟩ next
    have hlt : i < N := by
      refine Nat.lt_of_le_of_ne hi fun z => ?_
      subst z
      rw [Nat.sub_self] at hl
      cases hl
    rw [show N - i = (N - (i + 1)) + 1 by omega, List.range'_succ] at hl
    injection hl with hx hrest
    subst hx
    obtain ⟨a1, a2, a3, a4, -, -⟩ := mwS_F cO cI N MM T x
    have hmul : x * MM + MM ≤ N * MM := by
      rw [← Nat.succ_mul]
      exact Nat.mul_le_mul_right _ hlt
    simp only [wp_bind']
    refine mw_row (by rw [a3]; exact hkI) hkindI hM (by rw [hMM]; exact l3) (by rw [hMM]; exact l4) (by rw [a1]; omega) (by rw [a4, hMM]; omega) ?_
    rw [hMM]
    simp only [wp_bind', W.writeLoc, wp_pure']
    refine ⟨arrV cO N (mwO T.heap.size x), ?_, by show ¬ VmData.none = _; simp, by rw [arrV_size]; exact hlt, ?_, next _ _ _ ⟨x + 1, hrest, hlt, ?_⟩⟩
    · rw [State.heap_pushCell_of_lt (h := show T.heap.size < (mwS cO cI N MM T x).heap.size by rw [a1]; omega)]
      exact a2
    · show State.fitsSlot _ cO .none x _ = true
      simp [State.fitsSlot, State.slotType?, a3, hkO, hkindO, fits]
    · rw [arrV_store, a1, mwO_s]
      rfl
  · rintro U d' acts' ⟨i, hl, hi, rfl⟩
    have hiN : i = N := by
      refine Nat.le_antisymm hi (Nat.le_of_not_lt fun z => ?_)
      rw [show N - i = (N - (i + 1)) + 1 by omega, List.range'_succ] at hl
      cases hl
    subst hiN
    simp only [wp_pure']
    exact hq _ _
end MULTI
section MULTIW
variable {p : Program} {l : Launch} {e : Env} {R : Room} {s : State} {m : MethodId} {args : Array Value} {below : List Frame} {meth : Method} {c : Code} {H : Heap} {locs : List Loc} {cells slots : Nat} {Q : State → Prop} {cc : ByteArray} {pc : Nat} {ls : Array Slot} {rest : List Value}
theorem mw_W (hx : p.tables.exec = Jvm.exec) (hb : c.code = cc) {own : String} {index : Nat} (hown : s.vm.findClass own = some m.cls) (hcl : (Cond.classLink own index ("[" ++ (FieldType.array .int).toString)).before args s = true) (hov : (Cond.arrayOver (.array .int)).before args s = true) (har : (Cond.arrayClass .int).before args s = true) {N M : Nat} (hN : N < 100000) (hM : M < 100000) (hcells : cells + (1 + N) ≤ R.cells) (hslots : slots + (N + N * M) ≤ R.slots) (hdg : decode cc pc = .ok (.multianewarray index 2, 4))
    (kk : ∀ (cO cI : ClassId) (H1 : Heap) (L : List Loc), s.vm.findClass ("[" ++ (FieldType.array .int).toString) = some cO → s.vm.findClass (FieldType.array .int).toString = some cI → H1.size = H.size + 1 + N → (∀ q : Nat, q < H.size → H1[q]? = H[q]?) → H1[H.size]? = some (arrV cO N (fun j => .ref (H.size + 1 + j))) → (∀ j, j < N → H1[H.size + 1 + j]? = some (arrV cI M (fun _ => .int 0))) → (∀ q ∈ L, q.base = H.size) → W p l e R s m args below meth c H1 (locs ++ L) (cells + 1 + N) (slots + N + N * M) Q (F0 m (pc + 4) ls (.ref H.size :: rest))) :
    W p l e R s m args below meth c H locs cells slots Q (F0 m pc ls (.int (nI M) :: .int (nI N) :: rest)) := by
  intro T hT X
  subst hT
  subst hb
  have cN : (nI N).toNatClampNeg = N := nI_clamp (by omega)
  have cM : (nI M).toNatClampNeg = M := nI_clamp (by omega)
  have hpl : e.platform.magicAccessors = ({} : Platform).magicAccessors := by rw [X.admits.platform]
  obtain ⟨cI, cO, kO, f1, -, f2, f3, f4⟩ := arrayOverA_spec hov
  obtain ⟨cI', kI, ce, g1, g2, g3⟩ := Cond.arrayClass_spec har
  have eI : cI' = cI := Option.some.inj (g1.symm.trans f1)
  subst eI
  obtain ⟨c0, h1, hlk⟩ := Cond.classLink_spec hown hcl e.platform hpl
  cases f4.symm.trans h1
  obtain ⟨hg1, hwarm, -⟩ := State.classEntry (e := e) X.warmed hlk
  generalize T.vm.noted m.cls index (.cls cO) = vm1 at hg1 hwarm
  obtain ⟨kO1, u1, u2⟩ := hwarm.alike.2.2 _ _ f2
  obtain ⟨kI1, v1, v2⟩ := hwarm.alike.2.2 _ _ g2
  have X1 := X.noted hwarm
  obtain ⟨r1, r2⟩ := X.roomAbove hcells hslots
  obtain ⟨L, hL, XF⟩ := mwS_stand X1 cO cI' N M N
  obtain ⟨a1, a2, a3, a4, a5, a6⟩ := mwS_F cO cI' N M (T.setVm vm1) N
  have hfull : arrV cO N (mwO T.heap.size N) = arrV cO N (fun j => .ref (T.heap.size + 1 + j)) := by
    unfold arrV
    congr 2
    funext j
    exact if_pos j.isLt
  obtain ⟨t, s1, s2⟩ := kk cO cI' _ L f4 f1 a1 a5 (by rw [← hfull]; exact a2) a6 hL (mwS cO cI' N M (T.setVm vm1) N) rfl XF
  refine ⟨t, ?_, s2⟩
  have lim : ∀ n : Nat, n < 100000 → n ≤ e.platform.arrayLengthLimit ∧ n * 4 ≤ e.platform.maxHeapBytes := fun n hn => by
    rw [Launch.admits_arrayLengthLimit X.admits, Launch.admits_maxHeapBytes X.admits]
    omega
  jvm_step X.here [hx, hdg]
  simp only [Op.multianewarray.sem, wp_bind', W.resolveClassAt_links (State.method?_setTop (F0 m pc ls (.int (nI M) :: .int (nI N) :: rest)) X.here.top) hg1]
  rw [W.popN, if_neg (by decide)]
  refine ⟨_, State.topJava?_setTop' (s := T.setVm vm1) (F0 m pc ls (.int (nI M) :: .int (nI N) :: rest)) X.here.top, [.int (nI N), .int (nI M)], rest, rfl, rfl, ?_⟩
  simp only [List.mapM_cons, List.mapM_nil, wp_bind', wp_pure']
  refine mw_rows (kO := kO1) (kI := kI1) (cc := ce) u1 (by rw [u2]; exact f3) v1 (by rw [v2]; exact g3) (nI_pos (by omega)) (nI_pos (by omega)) (by rw [cN]; exact (lim N hN).1) (by rw [cN]; exact (lim N hN).2) (by rw [cM]; exact (lim M hM).1) (by rw [cM]; exact (lim M hM).2) (by rw [cN]; show T.heap.size + 1 + _ ≤ _; omega) (by rw [cN, cM]; show T.slotsUsed + _ + _ ≤ _; omega) (fun d' acts' => ?_)
  rw [cN, cM]
  have eS : ((T.setTop (F0 m pc ls (.int (nI M) :: .int (nI N) :: rest))).setVm vm1).setTop { method := m, pc := pc, locals := ls, stack := rest, locked := none } = (T.setVm vm1).setTop (F0 m pc ls rest) := by
    show ((T.setVm vm1).setTop (F0 m pc ls (.int (nI M) :: .int (nI N) :: rest))).setTop (F0 m pc ls rest) = _
    rw [State.setTop_setTop]
  rw [eS, mwS_top]
  simp only [wp_bind', W.mark, W.pushRef, State.topJava?_setTop' _ XF.here.top, Option.some.injEq, exists_eq_left', State.setTop_setTop, State.heap_setTop]
  intro acts
  simp [jvm, XF.here.top]
  exact s1
end MULTIW
