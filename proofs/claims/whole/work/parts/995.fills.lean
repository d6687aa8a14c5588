/-! CONSTRUCTORS: the fills of the further receivers -/
theorem fi_held_counts {E : pDL} {v : Int32} : ∀ (m t : Nat) (D : pD), t + m = 5 → ∃ D', Ja_fillI_held_counts_5 v (nI t) (nI 5) D E = some (none, D', E) ∧ Ko [4] D D' ∧ ∀ i, i < 5 → D' 4 0 i = if t ≤ i then v else D 4 0 i
  | 0, t, D, ht => by
    refine ⟨D, ?_, Ko.rf, fun i hi => by rw [if_neg (by omega)]⟩
    rw [e_Ja_fillI_held_counts_5, if_pos (nI_le (by omega) (by omega))]
  | m + 1, t, D, ht => by
    obtain ⟨D', a1, a2, a3⟩ := fi_held_counts (E := E) (v := v) m (t + 1) (dset D 4 0 t v) (by omega)
    refine ⟨D', ?_, (Ko.rf.set (by decide) _ _ _).tr a2, fun i hi => ?_⟩
    · rw [e_Ja_fillI_held_counts_5, if_neg (nI_ge (by omega) (by omega)), if_neg (iB (by omega) (by omega)), iC (by omega), nI1]
      exact a1
    · rw [a3 i hi, dsA]
      by_cases e : i = t
      · rw [if_neg (by omega), if_pos e, if_pos (by omega)]
      · rw [if_neg e]
        by_cases z : t + 1 ≤ i
        · rw [if_pos z, if_pos (by omega)]
        · rw [if_neg z, if_neg (by omega)]
theorem fi_held_weights {E : pDL} {v : Int32} : ∀ (m t : Nat) (D : pD), t + m = 24 → ∃ D', Ja_fillI_held_weights_5 v (nI t) (nI 24) D E = some (none, D', E) ∧ Ko [6] D D' ∧ ∀ i, i < 24 → D' 6 0 i = if t ≤ i then v else D 6 0 i
  | 0, t, D, ht => by
    refine ⟨D, ?_, Ko.rf, fun i hi => by rw [if_neg (by omega)]⟩
    rw [e_Ja_fillI_held_weights_5, if_pos (nI_le (by omega) (by omega))]
  | m + 1, t, D, ht => by
    obtain ⟨D', a1, a2, a3⟩ := fi_held_weights (E := E) (v := v) m (t + 1) (dset D 6 0 t v) (by omega)
    refine ⟨D', ?_, (Ko.rf.set (by decide) _ _ _).tr a2, fun i hi => ?_⟩
    · rw [e_Ja_fillI_held_weights_5, if_neg (nI_ge (by omega) (by omega)), if_neg (iB (by omega) (by omega)), iC (by omega), nI1]
      exact a1
    · rw [a3 i hi, dsA]
      by_cases e : i = t
      · rw [if_neg (by omega), if_pos e, if_pos (by omega)]
      · rw [if_neg e]
        by_cases z : t + 1 ≤ i
        · rw [if_pos z, if_pos (by omega)]
        · rw [if_neg z, if_neg (by omega)]
theorem fi_k0_kinds {E : pDL} {v : Int32} : ∀ (m t : Nat) (D : pD), t + m = 24 → ∃ D', Ja_fillI_k0_kinds_5 v (nI t) (nI 24) D E = some (none, D', E) ∧ Ko [77] D D' ∧ ∀ i, i < 24 → D' 77 0 i = if t ≤ i then v else D 77 0 i
  | 0, t, D, ht => by
    refine ⟨D, ?_, Ko.rf, fun i hi => by rw [if_neg (by omega)]⟩
    rw [e_Ja_fillI_k0_kinds_5, if_pos (nI_le (by omega) (by omega))]
  | m + 1, t, D, ht => by
    obtain ⟨D', a1, a2, a3⟩ := fi_k0_kinds (E := E) (v := v) m (t + 1) (dset D 77 0 t v) (by omega)
    refine ⟨D', ?_, (Ko.rf.set (by decide) _ _ _).tr a2, fun i hi => ?_⟩
    · rw [e_Ja_fillI_k0_kinds_5, if_neg (nI_ge (by omega) (by omega)), if_neg (iB (by omega) (by omega)), iC (by omega), nI1]
      exact a1
    · rw [a3 i hi, dsA]
      by_cases e : i = t
      · rw [if_neg (by omega), if_pos e, if_pos (by omega)]
      · rw [if_neg e]
        by_cases z : t + 1 ≤ i
        · rw [if_pos z, if_pos (by omega)]
        · rw [if_neg z, if_neg (by omega)]
theorem fi_k0_firsts {E : pDL} {v : Int32} : ∀ (m t : Nat) (D : pD), t + m = 24 → ∃ D', Ja_fillI_k0_firsts_5 v (nI t) (nI 24) D E = some (none, D', E) ∧ Ko [78] D D' ∧ ∀ i, i < 24 → D' 78 0 i = if t ≤ i then v else D 78 0 i
  | 0, t, D, ht => by
    refine ⟨D, ?_, Ko.rf, fun i hi => by rw [if_neg (by omega)]⟩
    rw [e_Ja_fillI_k0_firsts_5, if_pos (nI_le (by omega) (by omega))]
  | m + 1, t, D, ht => by
    obtain ⟨D', a1, a2, a3⟩ := fi_k0_firsts (E := E) (v := v) m (t + 1) (dset D 78 0 t v) (by omega)
    refine ⟨D', ?_, (Ko.rf.set (by decide) _ _ _).tr a2, fun i hi => ?_⟩
    · rw [e_Ja_fillI_k0_firsts_5, if_neg (nI_ge (by omega) (by omega)), if_neg (iB (by omega) (by omega)), iC (by omega), nI1]
      exact a1
    · rw [a3 i hi, dsA]
      by_cases e : i = t
      · rw [if_neg (by omega), if_pos e, if_pos (by omega)]
      · rw [if_neg e]
        by_cases z : t + 1 ≤ i
        · rw [if_pos z, if_pos (by omega)]
        · rw [if_neg z, if_neg (by omega)]
theorem fi_k0_seconds {E : pDL} {v : Int32} : ∀ (m t : Nat) (D : pD), t + m = 24 → ∃ D', Ja_fillI_k0_seconds_5 v (nI t) (nI 24) D E = some (none, D', E) ∧ Ko [79] D D' ∧ ∀ i, i < 24 → D' 79 0 i = if t ≤ i then v else D 79 0 i
  | 0, t, D, ht => by
    refine ⟨D, ?_, Ko.rf, fun i hi => by rw [if_neg (by omega)]⟩
    rw [e_Ja_fillI_k0_seconds_5, if_pos (nI_le (by omega) (by omega))]
  | m + 1, t, D, ht => by
    obtain ⟨D', a1, a2, a3⟩ := fi_k0_seconds (E := E) (v := v) m (t + 1) (dset D 79 0 t v) (by omega)
    refine ⟨D', ?_, (Ko.rf.set (by decide) _ _ _).tr a2, fun i hi => ?_⟩
    · rw [e_Ja_fillI_k0_seconds_5, if_neg (nI_ge (by omega) (by omega)), if_neg (iB (by omega) (by omega)), iC (by omega), nI1]
      exact a1
    · rw [a3 i hi, dsA]
      by_cases e : i = t
      · rw [if_neg (by omega), if_pos e, if_pos (by omega)]
      · rw [if_neg e]
        by_cases z : t + 1 ≤ i
        · rw [if_pos z, if_pos (by omega)]
        · rw [if_neg z, if_neg (by omega)]
theorem fi_k0_thirds {E : pDL} {v : Int32} : ∀ (m t : Nat) (D : pD), t + m = 24 → ∃ D', Ja_fillI_k0_thirds_5 v (nI t) (nI 24) D E = some (none, D', E) ∧ Ko [80] D D' ∧ ∀ i, i < 24 → D' 80 0 i = if t ≤ i then v else D 80 0 i
  | 0, t, D, ht => by
    refine ⟨D, ?_, Ko.rf, fun i hi => by rw [if_neg (by omega)]⟩
    rw [e_Ja_fillI_k0_thirds_5, if_pos (nI_le (by omega) (by omega))]
  | m + 1, t, D, ht => by
    obtain ⟨D', a1, a2, a3⟩ := fi_k0_thirds (E := E) (v := v) m (t + 1) (dset D 80 0 t v) (by omega)
    refine ⟨D', ?_, (Ko.rf.set (by decide) _ _ _).tr a2, fun i hi => ?_⟩
    · rw [e_Ja_fillI_k0_thirds_5, if_neg (nI_ge (by omega) (by omega)), if_neg (iB (by omega) (by omega)), iC (by omega), nI1]
      exact a1
    · rw [a3 i hi, dsA]
      by_cases e : i = t
      · rw [if_neg (by omega), if_pos e, if_pos (by omega)]
      · rw [if_neg e]
        by_cases z : t + 1 ≤ i
        · rw [if_pos z, if_pos (by omega)]
        · rw [if_neg z, if_neg (by omega)]
theorem fi_k0_notes {E : pDL} {v : Int32} : ∀ (m t : Nat) (D : pD), t + m = 24 → ∃ D', Ja_fillI_k0_notes_5 v (nI t) (nI 24) D E = some (none, D', E) ∧ Ko [81] D D' ∧ ∀ i, i < 24 → D' 81 0 i = if t ≤ i then v else D 81 0 i
  | 0, t, D, ht => by
    refine ⟨D, ?_, Ko.rf, fun i hi => by rw [if_neg (by omega)]⟩
    rw [e_Ja_fillI_k0_notes_5, if_pos (nI_le (by omega) (by omega))]
  | m + 1, t, D, ht => by
    obtain ⟨D', a1, a2, a3⟩ := fi_k0_notes (E := E) (v := v) m (t + 1) (dset D 81 0 t v) (by omega)
    refine ⟨D', ?_, (Ko.rf.set (by decide) _ _ _).tr a2, fun i hi => ?_⟩
    · rw [e_Ja_fillI_k0_notes_5, if_neg (nI_ge (by omega) (by omega)), if_neg (iB (by omega) (by omega)), iC (by omega), nI1]
      exact a1
    · rw [a3 i hi, dsA]
      by_cases e : i = t
      · rw [if_neg (by omega), if_pos e, if_pos (by omega)]
      · rw [if_neg e]
        by_cases z : t + 1 ≤ i
        · rw [if_pos z, if_pos (by omega)]
        · rw [if_neg z, if_neg (by omega)]
theorem fi_k1_kinds {E : pDL} {v : Int32} : ∀ (m t : Nat) (D : pD), t + m = 24 → ∃ D', Ja_fillI_k1_kinds_5 v (nI t) (nI 24) D E = some (none, D', E) ∧ Ko [83] D D' ∧ ∀ i, i < 24 → D' 83 0 i = if t ≤ i then v else D 83 0 i
  | 0, t, D, ht => by
    refine ⟨D, ?_, Ko.rf, fun i hi => by rw [if_neg (by omega)]⟩
    rw [e_Ja_fillI_k1_kinds_5, if_pos (nI_le (by omega) (by omega))]
  | m + 1, t, D, ht => by
    obtain ⟨D', a1, a2, a3⟩ := fi_k1_kinds (E := E) (v := v) m (t + 1) (dset D 83 0 t v) (by omega)
    refine ⟨D', ?_, (Ko.rf.set (by decide) _ _ _).tr a2, fun i hi => ?_⟩
    · rw [e_Ja_fillI_k1_kinds_5, if_neg (nI_ge (by omega) (by omega)), if_neg (iB (by omega) (by omega)), iC (by omega), nI1]
      exact a1
    · rw [a3 i hi, dsA]
      by_cases e : i = t
      · rw [if_neg (by omega), if_pos e, if_pos (by omega)]
      · rw [if_neg e]
        by_cases z : t + 1 ≤ i
        · rw [if_pos z, if_pos (by omega)]
        · rw [if_neg z, if_neg (by omega)]
theorem fi_k1_firsts {E : pDL} {v : Int32} : ∀ (m t : Nat) (D : pD), t + m = 24 → ∃ D', Ja_fillI_k1_firsts_5 v (nI t) (nI 24) D E = some (none, D', E) ∧ Ko [84] D D' ∧ ∀ i, i < 24 → D' 84 0 i = if t ≤ i then v else D 84 0 i
  | 0, t, D, ht => by
    refine ⟨D, ?_, Ko.rf, fun i hi => by rw [if_neg (by omega)]⟩
    rw [e_Ja_fillI_k1_firsts_5, if_pos (nI_le (by omega) (by omega))]
  | m + 1, t, D, ht => by
    obtain ⟨D', a1, a2, a3⟩ := fi_k1_firsts (E := E) (v := v) m (t + 1) (dset D 84 0 t v) (by omega)
    refine ⟨D', ?_, (Ko.rf.set (by decide) _ _ _).tr a2, fun i hi => ?_⟩
    · rw [e_Ja_fillI_k1_firsts_5, if_neg (nI_ge (by omega) (by omega)), if_neg (iB (by omega) (by omega)), iC (by omega), nI1]
      exact a1
    · rw [a3 i hi, dsA]
      by_cases e : i = t
      · rw [if_neg (by omega), if_pos e, if_pos (by omega)]
      · rw [if_neg e]
        by_cases z : t + 1 ≤ i
        · rw [if_pos z, if_pos (by omega)]
        · rw [if_neg z, if_neg (by omega)]
theorem fi_k1_seconds {E : pDL} {v : Int32} : ∀ (m t : Nat) (D : pD), t + m = 24 → ∃ D', Ja_fillI_k1_seconds_5 v (nI t) (nI 24) D E = some (none, D', E) ∧ Ko [85] D D' ∧ ∀ i, i < 24 → D' 85 0 i = if t ≤ i then v else D 85 0 i
  | 0, t, D, ht => by
    refine ⟨D, ?_, Ko.rf, fun i hi => by rw [if_neg (by omega)]⟩
    rw [e_Ja_fillI_k1_seconds_5, if_pos (nI_le (by omega) (by omega))]
  | m + 1, t, D, ht => by
    obtain ⟨D', a1, a2, a3⟩ := fi_k1_seconds (E := E) (v := v) m (t + 1) (dset D 85 0 t v) (by omega)
    refine ⟨D', ?_, (Ko.rf.set (by decide) _ _ _).tr a2, fun i hi => ?_⟩
    · rw [e_Ja_fillI_k1_seconds_5, if_neg (nI_ge (by omega) (by omega)), if_neg (iB (by omega) (by omega)), iC (by omega), nI1]
      exact a1
    · rw [a3 i hi, dsA]
      by_cases e : i = t
      · rw [if_neg (by omega), if_pos e, if_pos (by omega)]
      · rw [if_neg e]
        by_cases z : t + 1 ≤ i
        · rw [if_pos z, if_pos (by omega)]
        · rw [if_neg z, if_neg (by omega)]
theorem fi_k1_thirds {E : pDL} {v : Int32} : ∀ (m t : Nat) (D : pD), t + m = 24 → ∃ D', Ja_fillI_k1_thirds_5 v (nI t) (nI 24) D E = some (none, D', E) ∧ Ko [86] D D' ∧ ∀ i, i < 24 → D' 86 0 i = if t ≤ i then v else D 86 0 i
  | 0, t, D, ht => by
    refine ⟨D, ?_, Ko.rf, fun i hi => by rw [if_neg (by omega)]⟩
    rw [e_Ja_fillI_k1_thirds_5, if_pos (nI_le (by omega) (by omega))]
  | m + 1, t, D, ht => by
    obtain ⟨D', a1, a2, a3⟩ := fi_k1_thirds (E := E) (v := v) m (t + 1) (dset D 86 0 t v) (by omega)
    refine ⟨D', ?_, (Ko.rf.set (by decide) _ _ _).tr a2, fun i hi => ?_⟩
    · rw [e_Ja_fillI_k1_thirds_5, if_neg (nI_ge (by omega) (by omega)), if_neg (iB (by omega) (by omega)), iC (by omega), nI1]
      exact a1
    · rw [a3 i hi, dsA]
      by_cases e : i = t
      · rw [if_neg (by omega), if_pos e, if_pos (by omega)]
      · rw [if_neg e]
        by_cases z : t + 1 ≤ i
        · rw [if_pos z, if_pos (by omega)]
        · rw [if_neg z, if_neg (by omega)]
theorem fi_k1_notes {E : pDL} {v : Int32} : ∀ (m t : Nat) (D : pD), t + m = 24 → ∃ D', Ja_fillI_k1_notes_5 v (nI t) (nI 24) D E = some (none, D', E) ∧ Ko [87] D D' ∧ ∀ i, i < 24 → D' 87 0 i = if t ≤ i then v else D 87 0 i
  | 0, t, D, ht => by
    refine ⟨D, ?_, Ko.rf, fun i hi => by rw [if_neg (by omega)]⟩
    rw [e_Ja_fillI_k1_notes_5, if_pos (nI_le (by omega) (by omega))]
  | m + 1, t, D, ht => by
    obtain ⟨D', a1, a2, a3⟩ := fi_k1_notes (E := E) (v := v) m (t + 1) (dset D 87 0 t v) (by omega)
    refine ⟨D', ?_, (Ko.rf.set (by decide) _ _ _).tr a2, fun i hi => ?_⟩
    · rw [e_Ja_fillI_k1_notes_5, if_neg (nI_ge (by omega) (by omega)), if_neg (iB (by omega) (by omega)), iC (by omega), nI1]
      exact a1
    · rw [a3 i hi, dsA]
      by_cases e : i = t
      · rw [if_neg (by omega), if_pos e, if_pos (by omega)]
      · rw [if_neg e]
        by_cases z : t + 1 ≤ i
        · rw [if_pos z, if_pos (by omega)]
        · rw [if_neg z, if_neg (by omega)]
theorem fi_k2_kinds {E : pDL} {v : Int32} : ∀ (m t : Nat) (D : pD), t + m = 24 → ∃ D', Ja_fillI_k2_kinds_5 v (nI t) (nI 24) D E = some (none, D', E) ∧ Ko [89] D D' ∧ ∀ i, i < 24 → D' 89 0 i = if t ≤ i then v else D 89 0 i
  | 0, t, D, ht => by
    refine ⟨D, ?_, Ko.rf, fun i hi => by rw [if_neg (by omega)]⟩
    rw [e_Ja_fillI_k2_kinds_5, if_pos (nI_le (by omega) (by omega))]
  | m + 1, t, D, ht => by
    obtain ⟨D', a1, a2, a3⟩ := fi_k2_kinds (E := E) (v := v) m (t + 1) (dset D 89 0 t v) (by omega)
    refine ⟨D', ?_, (Ko.rf.set (by decide) _ _ _).tr a2, fun i hi => ?_⟩
    · rw [e_Ja_fillI_k2_kinds_5, if_neg (nI_ge (by omega) (by omega)), if_neg (iB (by omega) (by omega)), iC (by omega), nI1]
      exact a1
    · rw [a3 i hi, dsA]
      by_cases e : i = t
      · rw [if_neg (by omega), if_pos e, if_pos (by omega)]
      · rw [if_neg e]
        by_cases z : t + 1 ≤ i
        · rw [if_pos z, if_pos (by omega)]
        · rw [if_neg z, if_neg (by omega)]
theorem fi_k2_firsts {E : pDL} {v : Int32} : ∀ (m t : Nat) (D : pD), t + m = 24 → ∃ D', Ja_fillI_k2_firsts_5 v (nI t) (nI 24) D E = some (none, D', E) ∧ Ko [90] D D' ∧ ∀ i, i < 24 → D' 90 0 i = if t ≤ i then v else D 90 0 i
  | 0, t, D, ht => by
    refine ⟨D, ?_, Ko.rf, fun i hi => by rw [if_neg (by omega)]⟩
    rw [e_Ja_fillI_k2_firsts_5, if_pos (nI_le (by omega) (by omega))]
  | m + 1, t, D, ht => by
    obtain ⟨D', a1, a2, a3⟩ := fi_k2_firsts (E := E) (v := v) m (t + 1) (dset D 90 0 t v) (by omega)
    refine ⟨D', ?_, (Ko.rf.set (by decide) _ _ _).tr a2, fun i hi => ?_⟩
    · rw [e_Ja_fillI_k2_firsts_5, if_neg (nI_ge (by omega) (by omega)), if_neg (iB (by omega) (by omega)), iC (by omega), nI1]
      exact a1
    · rw [a3 i hi, dsA]
      by_cases e : i = t
      · rw [if_neg (by omega), if_pos e, if_pos (by omega)]
      · rw [if_neg e]
        by_cases z : t + 1 ≤ i
        · rw [if_pos z, if_pos (by omega)]
        · rw [if_neg z, if_neg (by omega)]
theorem fi_k2_seconds {E : pDL} {v : Int32} : ∀ (m t : Nat) (D : pD), t + m = 24 → ∃ D', Ja_fillI_k2_seconds_5 v (nI t) (nI 24) D E = some (none, D', E) ∧ Ko [91] D D' ∧ ∀ i, i < 24 → D' 91 0 i = if t ≤ i then v else D 91 0 i
  | 0, t, D, ht => by
    refine ⟨D, ?_, Ko.rf, fun i hi => by rw [if_neg (by omega)]⟩
    rw [e_Ja_fillI_k2_seconds_5, if_pos (nI_le (by omega) (by omega))]
  | m + 1, t, D, ht => by
    obtain ⟨D', a1, a2, a3⟩ := fi_k2_seconds (E := E) (v := v) m (t + 1) (dset D 91 0 t v) (by omega)
    refine ⟨D', ?_, (Ko.rf.set (by decide) _ _ _).tr a2, fun i hi => ?_⟩
    · rw [e_Ja_fillI_k2_seconds_5, if_neg (nI_ge (by omega) (by omega)), if_neg (iB (by omega) (by omega)), iC (by omega), nI1]
      exact a1
    · rw [a3 i hi, dsA]
      by_cases e : i = t
      · rw [if_neg (by omega), if_pos e, if_pos (by omega)]
      · rw [if_neg e]
        by_cases z : t + 1 ≤ i
        · rw [if_pos z, if_pos (by omega)]
        · rw [if_neg z, if_neg (by omega)]
theorem fi_k2_thirds {E : pDL} {v : Int32} : ∀ (m t : Nat) (D : pD), t + m = 24 → ∃ D', Ja_fillI_k2_thirds_5 v (nI t) (nI 24) D E = some (none, D', E) ∧ Ko [92] D D' ∧ ∀ i, i < 24 → D' 92 0 i = if t ≤ i then v else D 92 0 i
  | 0, t, D, ht => by
    refine ⟨D, ?_, Ko.rf, fun i hi => by rw [if_neg (by omega)]⟩
    rw [e_Ja_fillI_k2_thirds_5, if_pos (nI_le (by omega) (by omega))]
  | m + 1, t, D, ht => by
    obtain ⟨D', a1, a2, a3⟩ := fi_k2_thirds (E := E) (v := v) m (t + 1) (dset D 92 0 t v) (by omega)
    refine ⟨D', ?_, (Ko.rf.set (by decide) _ _ _).tr a2, fun i hi => ?_⟩
    · rw [e_Ja_fillI_k2_thirds_5, if_neg (nI_ge (by omega) (by omega)), if_neg (iB (by omega) (by omega)), iC (by omega), nI1]
      exact a1
    · rw [a3 i hi, dsA]
      by_cases e : i = t
      · rw [if_neg (by omega), if_pos e, if_pos (by omega)]
      · rw [if_neg e]
        by_cases z : t + 1 ≤ i
        · rw [if_pos z, if_pos (by omega)]
        · rw [if_neg z, if_neg (by omega)]
theorem fi_k2_notes {E : pDL} {v : Int32} : ∀ (m t : Nat) (D : pD), t + m = 24 → ∃ D', Ja_fillI_k2_notes_5 v (nI t) (nI 24) D E = some (none, D', E) ∧ Ko [93] D D' ∧ ∀ i, i < 24 → D' 93 0 i = if t ≤ i then v else D 93 0 i
  | 0, t, D, ht => by
    refine ⟨D, ?_, Ko.rf, fun i hi => by rw [if_neg (by omega)]⟩
    rw [e_Ja_fillI_k2_notes_5, if_pos (nI_le (by omega) (by omega))]
  | m + 1, t, D, ht => by
    obtain ⟨D', a1, a2, a3⟩ := fi_k2_notes (E := E) (v := v) m (t + 1) (dset D 93 0 t v) (by omega)
    refine ⟨D', ?_, (Ko.rf.set (by decide) _ _ _).tr a2, fun i hi => ?_⟩
    · rw [e_Ja_fillI_k2_notes_5, if_neg (nI_ge (by omega) (by omega)), if_neg (iB (by omega) (by omega)), iC (by omega), nI1]
      exact a1
    · rw [a3 i hi, dsA]
      by_cases e : i = t
      · rw [if_neg (by omega), if_pos e, if_pos (by omega)]
      · rw [if_neg e]
        by_cases z : t + 1 ≤ i
        · rw [if_pos z, if_pos (by omega)]
        · rw [if_neg z, if_neg (by omega)]
theorem fi_k3_kinds {E : pDL} {v : Int32} : ∀ (m t : Nat) (D : pD), t + m = 24 → ∃ D', Ja_fillI_k3_kinds_5 v (nI t) (nI 24) D E = some (none, D', E) ∧ Ko [95] D D' ∧ ∀ i, i < 24 → D' 95 0 i = if t ≤ i then v else D 95 0 i
  | 0, t, D, ht => by
    refine ⟨D, ?_, Ko.rf, fun i hi => by rw [if_neg (by omega)]⟩
    rw [e_Ja_fillI_k3_kinds_5, if_pos (nI_le (by omega) (by omega))]
  | m + 1, t, D, ht => by
    obtain ⟨D', a1, a2, a3⟩ := fi_k3_kinds (E := E) (v := v) m (t + 1) (dset D 95 0 t v) (by omega)
    refine ⟨D', ?_, (Ko.rf.set (by decide) _ _ _).tr a2, fun i hi => ?_⟩
    · rw [e_Ja_fillI_k3_kinds_5, if_neg (nI_ge (by omega) (by omega)), if_neg (iB (by omega) (by omega)), iC (by omega), nI1]
      exact a1
    · rw [a3 i hi, dsA]
      by_cases e : i = t
      · rw [if_neg (by omega), if_pos e, if_pos (by omega)]
      · rw [if_neg e]
        by_cases z : t + 1 ≤ i
        · rw [if_pos z, if_pos (by omega)]
        · rw [if_neg z, if_neg (by omega)]
theorem fi_k3_firsts {E : pDL} {v : Int32} : ∀ (m t : Nat) (D : pD), t + m = 24 → ∃ D', Ja_fillI_k3_firsts_5 v (nI t) (nI 24) D E = some (none, D', E) ∧ Ko [96] D D' ∧ ∀ i, i < 24 → D' 96 0 i = if t ≤ i then v else D 96 0 i
  | 0, t, D, ht => by
    refine ⟨D, ?_, Ko.rf, fun i hi => by rw [if_neg (by omega)]⟩
    rw [e_Ja_fillI_k3_firsts_5, if_pos (nI_le (by omega) (by omega))]
  | m + 1, t, D, ht => by
    obtain ⟨D', a1, a2, a3⟩ := fi_k3_firsts (E := E) (v := v) m (t + 1) (dset D 96 0 t v) (by omega)
    refine ⟨D', ?_, (Ko.rf.set (by decide) _ _ _).tr a2, fun i hi => ?_⟩
    · rw [e_Ja_fillI_k3_firsts_5, if_neg (nI_ge (by omega) (by omega)), if_neg (iB (by omega) (by omega)), iC (by omega), nI1]
      exact a1
    · rw [a3 i hi, dsA]
      by_cases e : i = t
      · rw [if_neg (by omega), if_pos e, if_pos (by omega)]
      · rw [if_neg e]
        by_cases z : t + 1 ≤ i
        · rw [if_pos z, if_pos (by omega)]
        · rw [if_neg z, if_neg (by omega)]
theorem fi_k3_seconds {E : pDL} {v : Int32} : ∀ (m t : Nat) (D : pD), t + m = 24 → ∃ D', Ja_fillI_k3_seconds_5 v (nI t) (nI 24) D E = some (none, D', E) ∧ Ko [97] D D' ∧ ∀ i, i < 24 → D' 97 0 i = if t ≤ i then v else D 97 0 i
  | 0, t, D, ht => by
    refine ⟨D, ?_, Ko.rf, fun i hi => by rw [if_neg (by omega)]⟩
    rw [e_Ja_fillI_k3_seconds_5, if_pos (nI_le (by omega) (by omega))]
  | m + 1, t, D, ht => by
    obtain ⟨D', a1, a2, a3⟩ := fi_k3_seconds (E := E) (v := v) m (t + 1) (dset D 97 0 t v) (by omega)
    refine ⟨D', ?_, (Ko.rf.set (by decide) _ _ _).tr a2, fun i hi => ?_⟩
    · rw [e_Ja_fillI_k3_seconds_5, if_neg (nI_ge (by omega) (by omega)), if_neg (iB (by omega) (by omega)), iC (by omega), nI1]
      exact a1
    · rw [a3 i hi, dsA]
      by_cases e : i = t
      · rw [if_neg (by omega), if_pos e, if_pos (by omega)]
      · rw [if_neg e]
        by_cases z : t + 1 ≤ i
        · rw [if_pos z, if_pos (by omega)]
        · rw [if_neg z, if_neg (by omega)]
theorem fi_k3_thirds {E : pDL} {v : Int32} : ∀ (m t : Nat) (D : pD), t + m = 24 → ∃ D', Ja_fillI_k3_thirds_5 v (nI t) (nI 24) D E = some (none, D', E) ∧ Ko [98] D D' ∧ ∀ i, i < 24 → D' 98 0 i = if t ≤ i then v else D 98 0 i
  | 0, t, D, ht => by
    refine ⟨D, ?_, Ko.rf, fun i hi => by rw [if_neg (by omega)]⟩
    rw [e_Ja_fillI_k3_thirds_5, if_pos (nI_le (by omega) (by omega))]
  | m + 1, t, D, ht => by
    obtain ⟨D', a1, a2, a3⟩ := fi_k3_thirds (E := E) (v := v) m (t + 1) (dset D 98 0 t v) (by omega)
    refine ⟨D', ?_, (Ko.rf.set (by decide) _ _ _).tr a2, fun i hi => ?_⟩
    · rw [e_Ja_fillI_k3_thirds_5, if_neg (nI_ge (by omega) (by omega)), if_neg (iB (by omega) (by omega)), iC (by omega), nI1]
      exact a1
    · rw [a3 i hi, dsA]
      by_cases e : i = t
      · rw [if_neg (by omega), if_pos e, if_pos (by omega)]
      · rw [if_neg e]
        by_cases z : t + 1 ≤ i
        · rw [if_pos z, if_pos (by omega)]
        · rw [if_neg z, if_neg (by omega)]
theorem fi_k3_notes {E : pDL} {v : Int32} : ∀ (m t : Nat) (D : pD), t + m = 24 → ∃ D', Ja_fillI_k3_notes_5 v (nI t) (nI 24) D E = some (none, D', E) ∧ Ko [99] D D' ∧ ∀ i, i < 24 → D' 99 0 i = if t ≤ i then v else D 99 0 i
  | 0, t, D, ht => by
    refine ⟨D, ?_, Ko.rf, fun i hi => by rw [if_neg (by omega)]⟩
    rw [e_Ja_fillI_k3_notes_5, if_pos (nI_le (by omega) (by omega))]
  | m + 1, t, D, ht => by
    obtain ⟨D', a1, a2, a3⟩ := fi_k3_notes (E := E) (v := v) m (t + 1) (dset D 99 0 t v) (by omega)
    refine ⟨D', ?_, (Ko.rf.set (by decide) _ _ _).tr a2, fun i hi => ?_⟩
    · rw [e_Ja_fillI_k3_notes_5, if_neg (nI_ge (by omega) (by omega)), if_neg (iB (by omega) (by omega)), iC (by omega), nI1]
      exact a1
    · rw [a3 i hi, dsA]
      by_cases e : i = t
      · rw [if_neg (by omega), if_pos e, if_pos (by omega)]
      · rw [if_neg e]
        by_cases z : t + 1 ≤ i
        · rw [if_pos z, if_pos (by omega)]
        · rw [if_neg z, if_neg (by omega)]
