/-! THE WORLD of a pure state, and what a pure step says of the machine's -/
def rv (ad : Nat → Nat → Nat) (v : pV) : Value := match v with
  | .inl x => .int x
  | .inr (.inl y) => .long y
  | .inr (.inr q) => .ref (ad q.1 q.2)
/-- what a field of references holds -/
def pFa (ad : Nat → Nat → Nat) (un : Nat) (c : Bool × Nat) (x : Int32) : Value := match c with
  | (true, r) => .ref (ad r 0)
  | (false, r) => if x = 1 then .ref (ad r 0) else if x = 2 then .ref un else .null
def pFv (ad : Nat → Nat → Nat) (un : Nat) (f : Nat → Int32) (g : Nat → Int64) (b c : Nat) : Value := match c with
  | 0 => .int (f b)
  | 1 => .long (g b)
  | 2 => .int (f b)
  | c + 3 => pFa ad un (pFr c) (f b)
def pRc (ad : Nat → Nat → Nat) (c : Nat) : Option Nat := match c with
  | 0 => none
  | r + 1 => some (ad r 0)
def pCell (ad : Nat → Nat → Nat) (un : Nat) (cA : Nat → ClassId) (q : pSh) (k j : Nat) (f : Nat → Int32) (g : Nat → Int64) : Option va_E := match q.1, j with
  | 0, 0 => some (.inl (cA 0, q.2.1, .inl f))
  | 1, 0 => some (.inl (cA 1, q.2.1, .inl f))
  | 2, 0 => some (.inl (cA 2, q.2.1, .inl f))
  | 3, 0 => some (.inl (cA 3, q.2.1, .inr (.inl g)))
  | 4, 0 => some (.inl (cA 4, q.2.1, .inr (.inr (.inr (.inr (fun i => pRc ad (q.2.2.getD i 0)))))))
  | 5, 0 => some (.inl (cA 5, q.2.1, .inr (.inr (.inr (.inr (fun i => some (ad k (i + 1))))))))
  | 5, i + 1 => if i < q.2.1 then (match q.2.2 with | w :: _ => some (.inl (cA 0, w, .inl f)) | [] => none) else none
  | ci + 7, 0 => some (.inr (ci, q.2.2.mapIdx fun b c => pFv ad un f g b c))
  | _, _ => none
section PWO
variable (S : List pSh) (ad : Nat → Nat → Nat) (un : Nat) (cA : Nat → ClassId) (dg : va_G) (A : Nat → Prop)
def pCe (σ : pSt) (k j : Nat) : Option va_E := match S[k]? with
  | none => none
  | some q => pCell ad un cA q k j (σ.1 k j) (σ.2 k)
/-- the heap holds the state -/
def pWo (σ : pSt) (H : Heap) : Prop := ∀ (k j : Nat) (e : va_E), pCe S ad un cA σ k j = some e → va_at dg vwCl (ad k j, e) H
/-- the cells are apart, and of a kind -/
def pAp : Prop := (∀ (σ σ' : pSt) (k j k' j' : Nat) (e e' : va_E), pCe S ad un cA σ k j = some e → pCe S ad un cA σ' k' j' = some e' → ad k j = ad k' j' → k' = k ∧ j' = j) ∧ ∀ (σ : pSt) (k j : Nat) (e : va_E), pCe S ad un cA σ k j = some e → A (ad k j)
def pTys : List (ClassId × FieldType) := [(cA 0, .int), (cA 1, .byte), (cA 2, .boolean), (cA 3, .long), (cA 4, .object RX5), (cA 5, .array .int)]
variable {S ad un cA dg A}
theorem pWo.sing {σ : pSt} {H : Heap} (h : pWo S ad un cA dg σ H) {k j : Nat} {e : va_E} (he : pCe S ad un cA σ k j = some e) : va_P dg vwCl [(ad k j, e)] H := by
  intro i q hq
  cases i with
  | zero => cases hq; exact h k j e he
  | succ i => cases hq
theorem dset_ne {D : pD} {k j i : Nat} {x : Int32} {k' j' : Nat} (h : ¬ (k' = k ∧ j' = j)) : dset D k j i x k' j' = D k' j' := if_neg h
theorem dset_eq {D : pD} {k j i : Nat} {x : Int32} : dset D k j i x k j = upd (D k j) i x := if_pos ⟨rfl, rfl⟩
theorem lset_ne {D : pDL} {k i : Nat} {x : Int64} {k' : Nat} (h : ¬ k' = k) : lset D k i x k' = D k' := if_neg h
theorem lset_eq {D : pDL} {k i : Nat} {x : Int64} : lset D k i x k = vp_updL (D k) i x := if_pos rfl
theorem dcpy_ne {D : pD} {s sp d dp n : Nat} {k' j' : Nat} (h : ¬ (k' = d ∧ j' = 0)) : dcpy D s sp d dp n k' j' = D k' j' := if_neg h
theorem dcpy_eq {D : pD} {s sp d dp n : Nat} : dcpy D s sp d dp n d 0 = va_cpy (D s 0) (D d 0) sp dp n := if_pos ⟨rfl, rfl⟩
/-- one cell was written -/
theorem pWo.put {σ σ' : pSt} {H H1 : Heap} {k j : Nat} {e0 : va_E} (hJ : pAp S ad un cA A) (h : pWo S ad un cA dg σ H) (he : pCe S ad un cA σ k j = some e0) (hn : ∀ e, pCe S ad un cA σ' k j = some e → va_at dg vwCl (ad k j, e) H1) (ho : ∀ k' j', ¬ (k' = k ∧ j' = j) → ∀ e, pCe S ad un cA σ' k' j' = some e → pCe S ad un cA σ k' j' = some e) (oq : ∀ q : Nat, q ≠ ad k j → H1[q]? = H[q]?) : pWo S ad un cA dg σ' H1 := by
  intro k' j' e h'
  by_cases hk : k' = k ∧ j' = j
  · obtain ⟨rfl, rfl⟩ := hk
    exact hn e h'
  · have h2 := ho k' j' hk e h'
    exact (h k' j' e h2).kept (oq _ fun q => hk (hJ.1 σ σ k j k' j' e0 e he h2 q.symm))
/-- what an array of numbers is -/
def pNi (S : List pSh) (ad : Nat → Nat → Nat) (un : Nat) (cA : Nat → ClassId) (k j t n : Nat) : Prop := ∃ q, S[k]? = some q ∧ ∀ f g, pCell ad un cA q k j f g = some (.inl (cA t, n, .inl f))
def pNl (S : List pSh) (ad : Nat → Nat → Nat) (un : Nat) (cA : Nat → ClassId) (k n : Nat) : Prop := ∃ q, S[k]? = some q ∧ ∀ f g, pCell ad un cA q k 0 f g = some (.inl (cA 3, n, .inr (.inl g)))
theorem pNi.ce {k j t n : Nat} (h : pNi S ad un cA k j t n) (σ : pSt) : pCe S ad un cA σ k j = some (.inl (cA t, n, .inl (σ.1 k j))) := by
  obtain ⟨q, h1, h2⟩ := h
  unfold pCe
  rw [h1]
  exact h2 _ _
theorem pNl.ce {k n : Nat} (h : pNl S ad un cA k n) (σ : pSt) : pCe S ad un cA σ k 0 = some (.inl (cA 3, n, .inr (.inl (σ.2 k)))) := by
  obtain ⟨q, h1, h2⟩ := h
  unfold pCe
  rw [h1]
  exact h2 _ _
theorem pArr_inv {ρ : Type} {k j : Nat} {F : Nat → Nat → Option ρ} {o : ρ} (h : pArr S k j F = some o) : ∃ t n, F t n = some o ∧ t < 4 ∧ (t ≠ 3 → pNi S ad un cA k j t n) ∧ (t = 3 → j = 0 ∧ pNl S ad un cA k n) := by
  unfold pArr at h
  cases hq : S[k]? with
  | none => rw [hq] at h; cases h
  | some q =>
    rw [hq] at h
    obtain ⟨kd, n, fs⟩ := q
    dsimp only at h
    split at h
    · exact ⟨0, _, h, by omega, fun _ => ⟨_, hq, fun f g => rfl⟩, fun z => by cases z⟩
    · exact ⟨1, _, h, by omega, fun _ => ⟨_, hq, fun f g => rfl⟩, fun z => by cases z⟩
    · exact ⟨2, _, h, by omega, fun _ => ⟨_, hq, fun f g => rfl⟩, fun z => by cases z⟩
    · exact ⟨3, _, h, by omega, fun z => absurd rfl z, fun _ => ⟨rfl, _, hq, fun f g => rfl⟩⟩
    · split at h
      · next hlt =>
        split at h
        · exact ⟨0, _, h, by omega, fun _ => ⟨_, hq, fun f g => if_pos hlt⟩, fun z => by cases z⟩
        · cases h
      · cases h
    · cases h
theorem pCell_g {q : pSh} {k j : Nat} {f : Nat → Int32} {g g' : Nat → Int64} (h : j ≠ 0) : pCell ad un cA q k j f g = pCell ad un cA q k j f g' := by
  cases j with
  | zero => exact absurd rfl h
  | succ j =>
    unfold pCell
    split <;> first | rfl | (rename_i z; cases z; done) | simp_all
theorem pCe_dset {σ : pSt} {k j i : Nat} {x : Int32} {k' j' : Nat} (h : ¬ (k' = k ∧ j' = j)) : pCe S ad un cA (dset σ.1 k j i x, σ.2) k' j' = pCe S ad un cA σ k' j' := by
  unfold pCe
  dsimp only
  rw [dset_ne h]
theorem pCe_dcpy {σ : pSt} {s sp d dp n : Nat} {k' j' : Nat} (h : ¬ (k' = d ∧ j' = 0)) : pCe S ad un cA (dcpy σ.1 s sp d dp n, σ.2) k' j' = pCe S ad un cA σ k' j' := by
  unfold pCe
  dsimp only
  rw [dcpy_ne h]
theorem pCe_lset {σ : pSt} {k i : Nat} {x : Int64} {k' j' : Nat} (h : ¬ (k' = k ∧ j' = 0)) : pCe S ad un cA (σ.1, lset σ.2 k i x) k' j' = pCe S ad un cA σ k' j' := by
  unfold pCe
  dsimp only
  split
  · rfl
  · by_cases e : k' = k
    · exact pCell_g fun z => h ⟨e, z⟩
    · rw [lset_ne e]
theorem mapIdx_upd {fs : List Nat} {F F' : Nat → Nat → Value} {b : Nat} {v : Value} (h1 : ∀ j c, j ≠ b → F' j c = F j c) (h2 : ∀ c, fs[b]? = some c → F' b c = v) : (fs.mapIdx F).set b v = fs.mapIdx F' := by
  apply List.ext_getElem?
  intro j
  rw [List.getElem?_set]
  by_cases e : b = j
  · subst e
    rw [if_pos rfl]
    by_cases hl : b < fs.length
    · rw [if_pos (by simpa using hl), List.getElem?_mapIdx, List.getElem?_eq_getElem hl]
      simp only [Option.map_some]
      rw [h2 _ (List.getElem?_eq_getElem hl)]
    · rw [if_neg (by simpa using hl), List.getElem?_eq_none (by simp; omega)]
  · rw [if_neg e, List.getElem?_mapIdx, List.getElem?_mapIdx]
    cases fs[j]? with
    | none => rfl
    | some c => simp only [Option.map_some]; rw [h1 j c (fun z => e z.symm)]
theorem pTys_at {t : Nat} (h : t < 4) : (pTys cA)[t]? = some (cA t, match t with | 0 => .int | 1 => .byte | 2 => .boolean | _ => .long) := by
  match t, h with
  | 0, _ => rfl
  | 1, _ => rfl
  | 2, _ => rfl
  | 3, _ => rfl
end PWO
/-! the locals -/
def pLv (ad : Nat → Nat → Nat) (ls : Array Slot) (nL : Nat) (L : pL) : Prop := ls.size = nL ∧ lv_wf ls ∧ ∀ (i : Nat) (v : pV), L[i]? = some (some v) → (rv ad v).category = 1 → ls[i]? = some (.val (rv ad v))
def pAs (ad : Nat → Nat → Nat) (L : pL) : List (Nat × Value) := (List.range L.length).filterMap fun i => match L[i]? with
  | some (some v) => if (rv ad v).category = 1 then some (i, rv ad v) else none
  | _ => none
theorem pLv.has {ad : Nat → Nat → Nat} {ls : Array Slot} {nL : Nat} {L : pL} (h : pLv ad ls nL L) : lv_has ls nL (pAs ad L) := by
  refine ⟨h.1, h.2.1, fun q hq => ?_⟩
  obtain ⟨i, -, hi⟩ := List.mem_filterMap.mp hq
  split at hi
  · next v hv =>
    split at hi
    · next hc =>
      cases hi
      exact h.2.2 i v hv hc
    · cases hi
  · cases hi
theorem pAs_mem {ad : Nat → Nat → Nat} {L : pL} {i : Nat} {v : pV} (h : L[i]? = some (some v)) (hc : (rv ad v).category = 1) : (i, rv ad v) ∈ pAs ad L := by
  refine List.mem_filterMap.mpr ⟨i, List.mem_range.mpr (List.getElem?_eq_some_iff.mp h).1, ?_⟩
  rw [h]
  dsimp only
  rw [if_pos hc]
/-- behind a store -/
theorem pLv.sto {ad : Nat → Nat → Nat} {ls' : Array Slot} {nL i : Nat} {L : pL} {v : pV} (h : lv_has ls' nL ((i, rv ad v) :: (pAs ad L).filter (fun q => !(q.1 == i) && !(q.1 + 1 == i && q.2.category == 2)))) : pLv ad ls' nL (L.set i (some v)) := by
  refine ⟨h.1, h.2.1, fun k w hk hc => ?_⟩
  by_cases e : k = i
  · subst e
    rw [List.getElem?_set] at hk
    split at hk
    · split at hk
      · cases hk
        exact h.2.2 (k, rv ad v) List.mem_cons_self
      · cases hk
    · next z => exact absurd rfl z
  · rw [List.getElem?_set_ne (Ne.symm e)] at hk
    refine h.2.2 (k, rv ad w) (List.mem_cons_of_mem _ (List.mem_filter.mpr ⟨pAs_mem hk hc, ?_⟩))
    simp [e, hc]
theorem pLv.mask {ad : Nat → Nat → Nat} {ls : Array Slot} {nL : Nat} {L L' : pL} (h : pLv ad ls nL L) (hm : ∀ (i : Nat) (v : pV), L'[i]? = some (some v) → L[i]? = some (some v)) : pLv ad ls nL L' := ⟨h.1, h.2.1, fun i v hi hc => h.2.2 i v (hm i v hi) hc⟩
theorem pMask_sub : ∀ (keep : List Bool) (L : pL) (i : Nat) (v : pV), (pMask keep L)[i]? = some (some v) → L[i]? = some (some v)
  | [], _, i, v, h => by simp [pMask] at h
  | true :: k, [], i, v, h => by simp [pMask] at h
  | false :: k, [], i, v, h => by simp [pMask] at h
  | true :: k, w :: l, 0, v, h => by simpa [pMask] using h
  | false :: k, w :: l, 0, v, h => by simp [pMask] at h
  | true :: k, w :: l, i + 1, v, h => by
    have := pMask_sub k l i v (by simpa [pMask] using h)
    simpa using this
  | false :: k, w :: l, i + 1, v, h => by
    have := pMask_sub k l i v (by simpa [pMask] using h)
    simpa using this
theorem pCut_sub (M : pM) (pc : Nat) (L : pL) (i : Nat) (v : pV) (h : (pCut M pc L)[i]? = some (some v)) : L[i]? = some (some v) := by
  unfold pCut at h
  split at h
  · exact h
  · exact pMask_sub _ _ _ _ h
theorem rv_cat1 {ad : Nat → Nat → Nat} {v : pV} (h : ∀ y, v ≠ .inr (.inl y)) : (rv ad v).category = 1 := by
  match v, h with
  | .inl x, _ => rfl
  | .inr (.inl y), h => exact absurd rfl (h y)
  | .inr (.inr q), _ => rfl
