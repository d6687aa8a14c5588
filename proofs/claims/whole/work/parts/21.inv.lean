section PG
variable {ρ : Type} {o : ρ}
theorem I1_inv {st : List pV} {F : Int32 → List pV → Option ρ} (h : pI1 st F = some o) : ∃ x r, st = .inl x :: r ∧ F x r = some o := by
  unfold pI1 at h; split at h
  · exact ⟨_, _, rfl, h⟩
  · cases h
theorem I2_inv {st : List pV} {F : Int32 → Int32 → List pV → Option ρ} (h : pI2 st F = some o) : ∃ x y r, st = .inl y :: .inl x :: r ∧ F x y r = some o := by
  unfold pI2 at h; split at h
  · exact ⟨_, _, _, rfl, h⟩
  · cases h
theorem L2_inv {st : List pV} {F : Int64 → Int64 → List pV → Option ρ} (h : pL2 st F = some o) : ∃ x y r, st = .inr (.inl y) :: .inr (.inl x) :: r ∧ F x y r = some o := by
  unfold pL2 at h; split at h
  · exact ⟨_, _, _, rfl, h⟩
  · cases h
theorem R1_inv {st : List pV} {F : Nat → Nat → List pV → Option ρ} (h : pR1 st F = some o) : ∃ k j r, st = .inr (.inr (k, j)) :: r ∧ F k j r = some o := by
  unfold pR1 at h; split at h
  · exact ⟨_, _, _, rfl, h⟩
  · cases h
theorem RI_inv {st : List pV} {F : Nat → Nat → Int32 → List pV → Option ρ} (h : pRI st F = some o) : ∃ k j i r, st = .inl i :: .inr (.inr (k, j)) :: r ∧ F k j i r = some o := by
  unfold pRI at h; split at h
  · exact ⟨_, _, _, _, rfl, h⟩
  · cases h
theorem RII_inv {st : List pV} {F : Nat → Nat → Int32 → Int32 → List pV → Option ρ} (h : pRII st F = some o) : ∃ k j i x r, st = .inl x :: .inl i :: .inr (.inr (k, j)) :: r ∧ F k j i x r = some o := by
  unfold pRII at h; split at h
  · exact ⟨_, _, _, _, _, rfl, h⟩
  · cases h
theorem RIL_inv {st : List pV} {F : Nat → Nat → Int32 → Int64 → List pV → Option ρ} (h : pRIL st F = some o) : ∃ k j i x r, st = .inr (.inl x) :: .inl i :: .inr (.inr (k, j)) :: r ∧ F k j i x r = some o := by
  unfold pRIL at h; split at h
  · exact ⟨_, _, _, _, _, rfl, h⟩
  · cases h
theorem V1_inv {st : List pV} {F : pV → List pV → Option ρ} (h : pV1 st F = some o) : ∃ v r, st = v :: r ∧ F v r = some o := by
  unfold pV1 at h; split at h
  · exact ⟨_, _, rfl, h⟩
  · cases h
theorem V2_inv {st : List pV} {F : pV → pV → List pV → Option ρ} (h : pV2 st F = some o) : ∃ v u r, st = v :: u :: r ∧ F v u r = some o := by
  unfold pV2 at h; split at h
  · exact ⟨_, _, _, rfl, h⟩
  · cases h
theorem VR_inv {st : List pV} {F : pV → Nat → Nat → List pV → Option ρ} (h : pVR st F = some o) : ∃ v k j r, st = v :: .inr (.inr (k, j)) :: r ∧ F v k j r = some o := by
  unfold pVR at h; split at h
  · exact ⟨_, _, _, _, rfl, h⟩
  · cases h
theorem E0_inv {st : List pV} {F : Option ρ} (h : pE0 st F = some o) : st = [] ∧ F = some o := by
  unfold pE0 at h; split at h
  · exact ⟨rfl, h⟩
  · cases h
theorem E1_inv {st : List pV} {F : Int32 → Option ρ} (h : pE1 st F = some o) : ∃ x, st = [.inl x] ∧ F x = some o := by
  unfold pE1 at h; split at h
  · exact ⟨_, rfl, h⟩
  · cases h
theorem ER_inv {st : List pV} {F : Nat → Nat → Option ρ} (h : pER st F = some o) : ∃ k j, st = [.inr (.inr (k, j))] ∧ F k j = some o := by
  unfold pER at h; split at h
  · exact ⟨_, _, rfl, h⟩
  · cases h
theorem In_inv {i : Int32} {n : Nat} {F : Nat → Option ρ} (h : pIn i n F = some o) : vp_in i n ∧ F i.toNatClampNeg = some o := by
  unfold pIn at h; split at h
  · cases h
  · next q => exact ⟨q, h⟩
theorem LdI_inv {L : pL} {i : Nat} {F : Int32 → Option ρ} (h : pLdI L i F = some o) : ∃ x, L[i]? = some (some (.inl x)) ∧ F x = some o := by
  unfold pLdI at h; split at h
  · next q => exact ⟨_, q, h⟩
  · cases h
theorem LdR_inv {L : pL} {i : Nat} {F : Nat → Nat → Option ρ} (h : pLdR L i F = some o) : ∃ k j, L[i]? = some (some (.inr (.inr (k, j)))) ∧ F k j = some o := by
  unfold pLdR at h; split at h
  · next q => exact ⟨_, _, q, h⟩
  · cases h
theorem Sto_inv {L : pL} {i : Nat} {v : pV} {F : pL → Option ρ} (h : pSto L i v F = some o) : F (L.set i (some v)) = some o := by
  unfold pSto at h; split at h
  · exact h
  · cases h
theorem C1_inv {v : pV} {F : Option ρ} (h : pC1 v F = some o) : (∀ y, v ≠ .inr (.inl y)) ∧ F = some o := by
  unfold pC1 at h; split at h
  · cases h
  · next q => exact ⟨fun y e => q y e, h⟩
theorem Obj_inv {S : List pSh} {k j a : Nat} {F : pSh → Option ρ} (h : pObj S k j a F = some o) : ∃ n fs, S[k]? = some (a + 7, n, fs) ∧ j = 0 ∧ F (a + 7, n, fs) = some o := by
  unfold pObj at h
  split at h
  · cases h
  · next q hq =>
    obtain ⟨kd, n, fs⟩ := q
    split at h
    · next hb =>
      have : kd = a + 7 := Nat.eq_of_beq_eq_true hb
      subst this
      exact ⟨n, fs, hq, rfl, h⟩
    · cases h
theorem pick_inv {fs : List Nat} {F : Nat → Option ρ} : ∀ {j : Nat}, pPick fs j F = some o → ∃ r, fs[j]? = some (r + 1) ∧ F r = some o := by
  induction fs with
  | nil => intro j h; cases h
  | cons c t ih =>
    intro j h
    unfold pPick at h
    split at h
    · next hj =>
      subst hj
      cases c with
      | zero => cases h
      | succ r => exact ⟨r, rfl, h⟩
    · next hj =>
      obtain ⟨r, h1, h2⟩ := ih h
      cases j with
      | zero => exact absurd rfl hj
      | succ j => exact ⟨r, h1, h2⟩
theorem SwT_inv {x : Int32} {pc : Nat} {d : Int} {F : Nat → Option ρ} : ∀ {offs : List Int} {lo : Int}, pSwT x lo pc offs d F = some o → (∃ (i : Nat) (off : Int), offs[i]? = some off ∧ x.toInt = lo + i ∧ F ((pc : Int) + off).toNat = some o) ∨ ((x.toInt < lo ∨ lo + offs.length ≤ x.toInt) ∧ F ((pc : Int) + d).toNat = some o) := by
  intro offs
  induction offs with
  | nil =>
    intro lo h
    refine Or.inr ⟨?_, h⟩
    simp
    omega
  | cons q t ih =>
    intro lo h
    unfold pSwT at h
    split at h
    · next he => exact Or.inl ⟨0, q, rfl, by simpa using he, h⟩
    · next he =>
      rcases ih h with ⟨i, off, h1, h2, h3⟩ | ⟨h1, h2⟩
      · exact Or.inl ⟨i + 1, off, by simpa using h1, by omega, h3⟩
      · refine Or.inr ⟨?_, h2⟩
        simp
        omega
theorem SwL_inv {x : Int32} {pc : Nat} {d : Int} {F : Nat → Option ρ} : ∀ {ps : List (Int × Int)}, pSwL x pc ps d F = some o → F ((pc : Int) + Op.lookupswitch.offset ps d x.toInt).toNat = some o := by
  intro ps
  induction ps with
  | nil => intro h; exact h
  | cons q t ih =>
    intro h
    unfold pSwL at h
    obtain ⟨q1, q2⟩ := q
    rw [Op.lookupswitch.offset_cons]
    split at h
    · next he => rw [if_pos he.symm]; exact h
    · next he => rw [if_neg fun q => he q.symm]; exact ih h
theorem SwL_in (ps : List (Int × Int)) (d x : Int) : Op.lookupswitch.offset ps d x = d ∨ ∃ q ∈ ps, Op.lookupswitch.offset ps d x = q.2 := by
  induction ps with
  | nil => exact Or.inl rfl
  | cons q t ih =>
    obtain ⟨q1, q2⟩ := q
    rw [Op.lookupswitch.offset_cons]
    split
    · exact Or.inr ⟨_, List.mem_cons_self, rfl⟩
    · rcases ih with h | ⟨q, h1, h2⟩
      · exact Or.inl h
      · exact Or.inr ⟨q, List.mem_cons_of_mem _ h1, h2⟩
theorem Tk_inv {F : List pV → List pV → Option ρ} : ∀ {n : Nat} {acc st : List pV}, pTk n acc st F = some o → ∃ as r, st = as ++ r ∧ (as.length = n ∧ ∀ v ∈ as, ∀ y, v ≠ .inr (.inl y)) ∧ pRm 8 r = true ∧ F (as.reverse ++ acc) r = some o
  | 0, acc, st, h => by
    unfold pTk at h
    split at h
    · next q => exact ⟨[], st, rfl, ⟨rfl, fun v hv => by cases hv⟩, q, h⟩
    · cases h
  | n + 1, acc, [], h => by unfold pTk at h; cases h
  | n + 1, acc, v :: r, h => by
    unfold pTk at h
    obtain ⟨hc, h⟩ := C1_inv h
    obtain ⟨as, r', h1, h2, h3, h4⟩ := Tk_inv h
    refine ⟨v :: as, r', by rw [h1]; rfl, ⟨by simp [h2.1], fun u hu => ?_⟩, h3, by simpa using h4⟩
    rcases List.mem_cons.mp hu with e | e
    · subst e; exact hc
    · exact h2.2 u e
theorem Rm_sum {ad : Nat → Nat → Nat} : ∀ {n : Nat} {r : List pV}, pRm n r = true → ((r.map (rv ad)).map fun v => v.category).sum ≤ n
  | n, [], _ => by simp
  | n + 1, .inl x :: r, h => by
    have := Rm_sum (ad := ad) (n := n) (r := r) (by simpa [pRm] using h)
    simp only [List.map_cons, List.sum_cons, rv, Value.category] at this ⊢
    omega
  | n + 1, .inr (.inr x) :: r, h => by
    have := Rm_sum (ad := ad) (n := n) (r := r) (by simpa [pRm] using h)
    simp only [List.map_cons, List.sum_cons, rv, Value.category] at this ⊢
    omega
  | n + 2, .inr (.inl x) :: r, h => by
    have := Rm_sum (ad := ad) (n := n) (r := r) (by simpa [pRm] using h)
    simp only [List.map_cons, List.sum_cons, rv, Value.category] at this ⊢
    omega
  | 0, _ :: _, h => by simp [pRm] at h
  | 1, .inr (.inl x) :: r, h => by simp [pRm] at h
theorem Dep_inv {d c : Nat} {F : Nat → Option ρ} (h : pDep d c F = some o) : ∃ d', d' < d ∧ F d' = some o := by
  unfold pDep at h
  split at h
  · split at h
    · cases h
    · exact ⟨_, Nat.lt_succ_self _, h⟩
  · split at h
    · next q => exact ⟨_, by simp [Nat.blt] at q; omega, h⟩
    · cases h
end PG
