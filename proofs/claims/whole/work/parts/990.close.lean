/-! CONSTRUCTORS: closing an object; Names -/
section CLOSE
variable {base : Nat} {adK : Nat → Nat} {un : Nat} {cA : Nat → ClassId} {dg : va_G} {S S' : List pSh} {σ : pSt} {H : Heap}
theorem wB.shape (h : wB base adK un cA dg S σ H) (hlen : S'.length = S.length) (hp : plS S') (hce : ∀ k j, pCe S' (adB base adK) un cA σ k j = pCe S (adB base adK) un cA σ k j) : wB base adK un cA dg S' σ H := by
  refine ⟨fun k j ee hh => h.1 k j ee (by rw [← hce]; exact hh), by rw [hlen]; exact h.2.1, by rw [hlen]; exact h.2.2.1, hp⟩
theorem pFr_o (r : Nat) : pFr (1 + 2 * r) = (false, r) := by
  induction r with
  | zero => rfl
  | succ r ih =>
    rw [show 1 + 2 * (r + 1) = (1 + 2 * r) + 2 by omega]
    show ((pFr (1 + 2 * r)).1, (pFr (1 + 2 * r)).2 + 1) = _
    rw [ih]
theorem pFr_e (r : Nat) : pFr (2 * r) = (true, r) := by
  induction r with
  | zero => rfl
  | succ r ih =>
    rw [show 2 * (r + 1) = 2 * r + 2 by omega]
    show ((pFr (2 * r)).1, (pFr (2 * r)).2 + 1) = _
    rw [ih]
theorem pFv_o {ad : Nat → Nat → Nat} {f : Nat → Int32} {g : Nat → Int64} {b r : Nat} (h : f b = 1) : pFv ad un f g b (4 + 2 * r) = .ref (ad r 0) := by
  rw [show 4 + 2 * r = (1 + 2 * r) + 3 by omega]
  show pFa ad un (pFr (1 + 2 * r)) (f b) = _
  rw [pFr_o, h]
  rfl
theorem pFv_e {ad : Nat → Nat → Nat} {f : Nat → Int32} {g : Nat → Int64} {b r : Nat} : pFv ad un f g b (3 + 2 * r) = .ref (ad r 0) := by
  rw [show 3 + 2 * r = (2 * r) + 3 by omega]
  show pFa ad un (pFr (2 * r)) (f b) = _
  rw [pFr_e]
  rfl
/-- a code, opened -/
def opn (c : Nat) : Nat := match c with
  | 0 => 0
  | 1 => 1
  | 2 => 2
  | c + 3 => if c % 2 = 0 then c + 4 else c + 3
theorem pFv_opn {ad : Nat → Nat → Nat} {f : Nat → Int32} {g : Nat → Int64} {b c : Nat} (h : 3 ≤ c → c % 2 = 1 → f b = 1) : pFv ad un f g b (opn c) = pFv ad un f g b c := by
  match c, h with
  | 0, _ => rfl
  | 1, _ => rfl
  | 2, _ => rfl
  | c + 3, h =>
    unfold opn
    dsimp only
    by_cases hc : c % 2 = 0
    · rw [if_pos hc]
      obtain ⟨r, rfl⟩ : ∃ r, c = 2 * r := ⟨c / 2, by omega⟩
      rw [show 2 * r + 4 = 4 + 2 * r by omega, show 2 * r + 3 = 3 + 2 * r by omega, pFv_o (h (by omega) (by omega)), pFv_e]
    · rw [if_neg hc]
/-- an object whose fields are all put is closed -/
theorem wB.close {k a n : Nat} {fs : List Nat} (hq : S[k]? = some (a + 7, n, fs.map opn)) (hf : ∀ b c, fs[b]? = some c → 3 ≤ c → c % 2 = 1 → σ.1 k 0 b = 1) (h : wB base adK un cA dg S σ H) : wB base adK un cA dg (S.set k (a + 7, n, fs)) σ H := by
  have hk : k < S.length := (List.getElem?_eq_some_iff.mp hq).1
  refine h.shape (List.length_set ..) ?_ fun k' j => ?_
  · intro i q hi h6
    by_cases e : k = i
    · subst e
      rw [List.getElem?_set_self hk] at hi
      cases hi
      have := h.2.2.2 _ _ hq (by show a + 7 ≠ 6; omega)
      exact ⟨this.1, fun z => by dsimp only at z; omega⟩
    · rw [List.getElem?_set_ne e] at hi
      exact h.2.2.2 i q hi h6
  · unfold pCe
    rw [List.getElem?_set]
    by_cases e : k = k'
    · subst e
      rw [if_pos rfl, if_pos hk, hq]
      dsimp only
      cases j with
      | zero =>
        show some (Sum.inr (a, fs.mapIdx fun b c => pFv _ un (σ.1 k 0) (σ.2 k) b c)) = some (Sum.inr (a, (fs.map opn).mapIdx fun b c => pFv _ un (σ.1 k 0) (σ.2 k) b c))
        congr 3
        apply List.ext_getElem?
        intro i
        rw [List.getElem?_mapIdx, List.getElem?_mapIdx, List.getElem?_map]
        cases hi : fs[i]? with
        | none => rfl
        | some c =>
          simp only [Option.map_some]
          rw [pFv_opn (hf i c hi)]
      | succ j => rfl
    · rw [if_neg e]
end CLOSE
