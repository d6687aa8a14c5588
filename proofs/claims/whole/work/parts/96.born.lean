/-! WHAT IS MADE: a cell behind the others -/
section BORN
variable {S : List pSh} {ad : Nat → Nat → Nat} {un : Nat} {cA : Nat → ClassId} {dg : va_G}
theorem pWo.push {σ : pSt} {H H' : Heap} {q : pSh} (hW : pWo S ad un cA dg σ H) (hold : ∀ a : Nat, a < H.size → H'[a]? = H[a]?) (hnew : ∀ j e, pCell ad un cA q S.length j (σ.1 S.length j) (σ.2 S.length) = some e → va_at dg vwCl (ad S.length j, e) H') : pWo (S ++ [q]) ad un cA dg σ H' := by
  intro k j e h
  unfold pCe at h
  by_cases hk : k < S.length
  · rw [List.getElem?_append_left hk] at h
    have h1 := hW k j e h
    exact h1.kept (hold _ h1.lt)
  · by_cases hk2 : k = S.length
    · subst hk2
      rw [List.getElem?_append_right (Nat.le_refl _), Nat.sub_self] at h
      exact hnew j e h
    · rw [List.getElem?_append_right (by omega), List.getElem?_eq_none (by simp; omega)] at h
      cases h
theorem adB_at {base k j : Nat} {adK : Nat → Nat} (h : k < 143) : adB base adK k j = base + offs k + j := if_pos h
end BORN
section ROWS6
variable {p : Program} {l : Launch} {e : Env} {R : Room} {s : State} {m : MethodId} {args : Array Value} {below : List Frame} {meth : Method} {c : Code} {Q : State → Prop} {S : List pSh} {base : Nat} {adK : Nat → Nat} {un : Nat} {cA : Nat → ClassId} {dg : va_G} {H H0 : Heap} {locs : List Loc} {cells slots pc : Nat} {ls : Array Slot} {rest : List Value} {cc : ByteArray} {σ : pSt}
/-- the classes of the arrays -/
def aNm (cA : Nat → ClassId) (s : State) : Prop := s.vm.findClass ("[" ++ FieldType.int.toString) = some (cA 0) ∧ s.vm.findClass ("[" ++ FieldType.byte.toString) = some (cA 1) ∧ s.vm.findClass ("[" ++ FieldType.boolean.toString) = some (cA 2) ∧ s.vm.findClass ("[" ++ FieldType.long.toString) = some (cA 3)
theorem aNm_of (hK : va_K dg vwCl (pTys cA) s) : aNm cA s := ⟨(hK.2 0 _ rfl).2, (hK.2 1 _ rfl).2, (hK.2 2 _ rfl).2, (hK.2 3 _ rfl).2⟩
def atT : Nat → ArrayType
  | 0 => .int
  | 1 => .byte
  | 2 => .boolean
  | _ => .long
theorem w_newa (hx : p.tables.exec = Jvm.exec) (hb : c.code = cc) (hN : aNm cA s) {t n : Nat} (ht : t < 4) (hn : n < 100000) (harr : (Cond.arrayClass (newarray.typeOf (atT t))).before args s = true) (hW : pWo S (adB base adK) un cA dg σ H) (hz : H.size = base + offs S.length) (hl : S.length < 143) (hr : rws S.length = 0) (h0 : ∀ i, σ.1 S.length 0 i = 0) (h1 : ∀ i, σ.2 S.length i = 0) (hcells : cells + 1 ≤ R.cells) (hslots : slots + n ≤ R.slots) (hdg : decode cc pc = .ok (.newarray (atT t), 2)) (hS : va_S (fun q => base ≤ q) H0 H locs)
    (kk : ∀ H1 : Heap, pWo (S ++ [(t, n, [])]) (adB base adK) un cA dg σ H1 → H1.size = base + offs (S.length + 1) → va_S (fun q => base ≤ q) H0 H1 locs → W p l e R s m args below meth c H1 locs (cells + 1) (slots + n) Q (F0 m (pc + 2) ls (.ref (adB base adK S.length 0) :: rest))) : W p l e R s m args below meth c H locs cells slots Q (F0 m pc ls (.int (nI n) :: rest)) := by
  refine va_newaK hx hb harr rfl hdg rfl (nI_pos (by omega)) (nI_clamp (by omega)) ?_ hcells hslots rfl fun H1 cB e1 z1 o1 hAr hNm => ?_
  · have : componentBytes (newarray.typeOf (atT t)) ≤ 8 := by
      match t, ht with
      | 0, _ => decide
      | 1, _ => decide
      | 2, _ => decide
      | 3, _ => decide
    have h2 := Nat.mul_le_mul (Nat.le_of_lt hn) this
    omega
  · have had : adB base adK S.length 0 = H.size := by rw [adB_at hl, hz, Nat.add_zero]
    have hcB : cB = cA t := by
      obtain ⟨n0, n1, n2, n3⟩ := hN
      match t, ht, hNm with
      | 0, _, hNm => exact Option.some.inj (hNm.symm.trans n0)
      | 1, _, hNm => exact Option.some.inj (hNm.symm.trans n1)
      | 2, _, hNm => exact Option.some.inj (hNm.symm.trans n2)
      | 3, _, hNm => exact Option.some.inj (hNm.symm.trans n3)
    subst hcB
    rw [← had]
    refine kk H1 (hW.push o1 fun j ee hj => ?_) (by rw [z1, hz, offs_s, hr]; omega) ⟨Nat.le_trans hS.1 (by omega), fun q h1 h2 => (o1 q (Nat.lt_of_lt_of_le h1 hS.1)).trans (hS.2.1 q h1 h2), hS.2.2⟩
    match t, ht, j, hj with
    | 0, _, 0, hj =>
      cases hj
      show H1[_]? = some (vp_cell _ _)
      rw [had, e1, vp_cell_i]
      congr 2
      funext i
      rw [h0]
      rfl
    | 1, _, 0, hj =>
      cases hj
      show H1[_]? = some (vp_cell _ _)
      rw [had, e1, vp_cell_i]
      congr 2
      funext i
      rw [h0]
      rfl
    | 2, _, 0, hj =>
      cases hj
      show H1[_]? = some (vp_cell _ _)
      rw [had, e1, vp_cell_i]
      congr 2
      funext i
      rw [h0]
      rfl
    | 3, _, 0, hj =>
      cases hj
      show H1[_]? = some (vp_cell _ _)
      rw [had, e1, vp_cell_l]
      congr 2
      funext i
      rw [h1]
      rfl
    | 0, _, j + 1, hj => cases hj
    | 1, _, j + 1, hj => cases hj
    | 2, _, j + 1, hj => cases hj
    | 3, _, j + 1, hj => cases hj
end ROWS6
