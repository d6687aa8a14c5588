/-! WHERE THE CELLS LIE: one behind the other, as they are made -/
def offs (k : Nat) : Nat := k + (if 52 < k then 4 else 0) + (if 53 < k then 16 else 0) + (if 54 < k then 5 else 0)
def rws (k : Nat) : Nat := if k = 52 then 4 else if k = 53 then 16 else if k = 54 then 5 else 0
def adB (base : Nat) (adK : Nat → Nat) (k j : Nat) : Nat := if k < 143 then base + offs k + j else adK (k - 143)
theorem offs_lt {k k' : Nat} (h : k < k') : offs k + rws k < offs k' := by
  unfold offs rws
  repeat' split
  all_goals omega
theorem offs_s (k : Nat) : offs (k + 1) = offs k + rws k + 1 := by
  unfold offs rws
  repeat' split
  all_goals omega
/-- a list of shapes that fits the places -/
def plS (S : List pSh) : Prop := ∀ k q, S[k]? = some q → q.1 ≠ 6 → k < 143 ∧ (q.1 = 5 → q.2.1 ≤ rws k)
theorem pCe_pl {S : List pSh} {ad : Nat → Nat → Nat} {un : Nat} {cA : Nat → ClassId} {σ : pSt} {k j : Nat} {e : va_E} (hS : plS S) (h : pCe S ad un cA σ k j = some e) : k < 143 ∧ j ≤ rws k := by
  unfold pCe at h
  cases hq : S[k]? with
  | none => rw [hq] at h; cases h
  | some q =>
    rw [hq] at h
    dsimp only at h
    obtain ⟨kd, n, fs⟩ := q
    have h6 : kd ≠ 6 := by
      intro z
      subst z
      unfold pCell at h
      cases j <;> cases h
    obtain ⟨h1, h2⟩ := hS k _ hq h6
    refine ⟨h1, ?_⟩
    cases j with
    | zero => exact Nat.zero_le _
    | succ j =>
      by_cases h5 : kd = 5
      · subst h5
        have h3 := h2 rfl
        unfold pCell at h
        dsimp only at h
        split at h
        · dsimp only at h3
          omega
        · cases h
      · exfalso
        unfold pCell at h
        dsimp only at h
        split at h <;> first | (cases h; done) | simp_all
theorem pAp_B {S : List pSh} {base : Nat} {adK : Nat → Nat} {un : Nat} {cA : Nat → ClassId} (hS : plS S) : pAp S (adB base adK) un cA (fun q => base ≤ q) := by
  constructor
  · intro σ σ' k j k' j' e e' h h' q
    obtain ⟨h1, h2⟩ := pCe_pl hS h
    obtain ⟨h3, h4⟩ := pCe_pl hS h'
    unfold adB at q
    rw [if_pos h1, if_pos h3] at q
    rcases Nat.lt_trichotomy k k' with z | z | z
    · have := offs_lt z
      omega
    · subst z
      exact ⟨rfl, by omega⟩
    · have := offs_lt z
      omega
  · intro σ k j e h
    obtain ⟨h1, -⟩ := pCe_pl hS h
    unfold adB
    rw [if_pos h1]
    show base ≤ _
    omega
def plB (S : List pSh) : Bool := ((List.range S.length).zip S).all fun q => decide (q.2.1 ≠ 6 → q.1 < 143 ∧ (q.2.1 = 5 → q.2.2.1 ≤ rws q.1))
theorem plB_S {S : List pSh} (h : plB S = true) : plS S := by
  intro k q hq
  have hl : k < S.length := (List.getElem?_eq_some_iff.mp hq).1
  exact of_decide_eq_true (List.all_eq_true.mp h (k, q) (List.mem_of_getElem? (i := k) (by rw [List.getElem?_zip_eq_some]; exact ⟨by rw [List.getElem?_range hl], hq⟩)))
theorem plS_Sh : plS Sh := plB_S (by decide +kernel)
theorem plS.take {S : List pSh} (h : plS S) (n : Nat) : plS (S.take n) := fun k q hq => h k q (by
  rw [List.getElem?_take] at hq
  split at hq
  · exact hq
  · cases hq)
