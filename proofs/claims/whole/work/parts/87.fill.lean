/-! THE TEXT: begin, and what a whole text leaves behind -/
theorem cpy_n {f g : Nat → Int32} {N p : Nat} (h : p < N) : va_cpy f g 0 0 N p = f p := by
  unfold va_cpy
  rw [if_pos (by omega)]
  congr 1
  omega
theorem fi_kinds {E : pDL} {v : Int32} : ∀ (m t : Nat) (D : pD), t + m = 24 → ∃ D', Ja_fillI_now_kinds_5 v (nI t) (nI 24) D E = some (none, D', E) ∧ Ko [43] D D' ∧ ∀ i, i < 24 → D' 43 0 i = if t ≤ i then v else D 43 0 i
  | 0, t, D, ht => by
    refine ⟨D, ?_, Ko.rf, fun i hi => by rw [if_neg (by omega)]⟩
    rw [e_Ja_fillI_now_kinds_5, if_pos (nI_le (by omega) (by omega))]
  | m + 1, t, D, ht => by
    obtain ⟨D', a1, a2, a3⟩ := fi_kinds (E := E) (v := v) m (t + 1) (dset D 43 0 t (v)) (by omega)
    refine ⟨D', ?_, (Ko.rf.set (by decide) _ _ _).tr a2, fun i hi => ?_⟩
    · rw [e_Ja_fillI_now_kinds_5, if_neg (nI_ge (by omega) (by omega)), if_neg (iB (by omega) (by omega)), iC (by omega), nI1]
      exact a1
    · rw [a3 i hi, dsA]
      by_cases e : i = t
      · rw [if_neg (by omega), if_pos e, if_pos (by omega)]
      · rw [if_neg e]
        by_cases z : t + 1 ≤ i
        · rw [if_pos z, if_pos (by omega)]
        · rw [if_neg z, if_neg (by omega)]
theorem fi_firsts {E : pDL} {v : Int32} : ∀ (m t : Nat) (D : pD), t + m = 24 → ∃ D', Ja_fillI_now_firsts_5 v (nI t) (nI 24) D E = some (none, D', E) ∧ Ko [44] D D' ∧ ∀ i, i < 24 → D' 44 0 i = if t ≤ i then v else D 44 0 i
  | 0, t, D, ht => by
    refine ⟨D, ?_, Ko.rf, fun i hi => by rw [if_neg (by omega)]⟩
    rw [e_Ja_fillI_now_firsts_5, if_pos (nI_le (by omega) (by omega))]
  | m + 1, t, D, ht => by
    obtain ⟨D', a1, a2, a3⟩ := fi_firsts (E := E) (v := v) m (t + 1) (dset D 44 0 t (v)) (by omega)
    refine ⟨D', ?_, (Ko.rf.set (by decide) _ _ _).tr a2, fun i hi => ?_⟩
    · rw [e_Ja_fillI_now_firsts_5, if_neg (nI_ge (by omega) (by omega)), if_neg (iB (by omega) (by omega)), iC (by omega), nI1]
      exact a1
    · rw [a3 i hi, dsA]
      by_cases e : i = t
      · rw [if_neg (by omega), if_pos e, if_pos (by omega)]
      · rw [if_neg e]
        by_cases z : t + 1 ≤ i
        · rw [if_pos z, if_pos (by omega)]
        · rw [if_neg z, if_neg (by omega)]
theorem fi_seconds {E : pDL} {v : Int32} : ∀ (m t : Nat) (D : pD), t + m = 24 → ∃ D', Ja_fillI_now_seconds_5 v (nI t) (nI 24) D E = some (none, D', E) ∧ Ko [45] D D' ∧ ∀ i, i < 24 → D' 45 0 i = if t ≤ i then v else D 45 0 i
  | 0, t, D, ht => by
    refine ⟨D, ?_, Ko.rf, fun i hi => by rw [if_neg (by omega)]⟩
    rw [e_Ja_fillI_now_seconds_5, if_pos (nI_le (by omega) (by omega))]
  | m + 1, t, D, ht => by
    obtain ⟨D', a1, a2, a3⟩ := fi_seconds (E := E) (v := v) m (t + 1) (dset D 45 0 t (v)) (by omega)
    refine ⟨D', ?_, (Ko.rf.set (by decide) _ _ _).tr a2, fun i hi => ?_⟩
    · rw [e_Ja_fillI_now_seconds_5, if_neg (nI_ge (by omega) (by omega)), if_neg (iB (by omega) (by omega)), iC (by omega), nI1]
      exact a1
    · rw [a3 i hi, dsA]
      by_cases e : i = t
      · rw [if_neg (by omega), if_pos e, if_pos (by omega)]
      · rw [if_neg e]
        by_cases z : t + 1 ≤ i
        · rw [if_pos z, if_pos (by omega)]
        · rw [if_neg z, if_neg (by omega)]
theorem fi_thirds {E : pDL} {v : Int32} : ∀ (m t : Nat) (D : pD), t + m = 24 → ∃ D', Ja_fillI_now_thirds_5 v (nI t) (nI 24) D E = some (none, D', E) ∧ Ko [46] D D' ∧ ∀ i, i < 24 → D' 46 0 i = if t ≤ i then v else D 46 0 i
  | 0, t, D, ht => by
    refine ⟨D, ?_, Ko.rf, fun i hi => by rw [if_neg (by omega)]⟩
    rw [e_Ja_fillI_now_thirds_5, if_pos (nI_le (by omega) (by omega))]
  | m + 1, t, D, ht => by
    obtain ⟨D', a1, a2, a3⟩ := fi_thirds (E := E) (v := v) m (t + 1) (dset D 46 0 t (v)) (by omega)
    refine ⟨D', ?_, (Ko.rf.set (by decide) _ _ _).tr a2, fun i hi => ?_⟩
    · rw [e_Ja_fillI_now_thirds_5, if_neg (nI_ge (by omega) (by omega)), if_neg (iB (by omega) (by omega)), iC (by omega), nI1]
      exact a1
    · rw [a3 i hi, dsA]
      by_cases e : i = t
      · rw [if_neg (by omega), if_pos e, if_pos (by omega)]
      · rw [if_neg e]
        by_cases z : t + 1 ≤ i
        · rw [if_pos z, if_pos (by omega)]
        · rw [if_neg z, if_neg (by omega)]
theorem fi_notes {E : pDL} {v : Int32} : ∀ (m t : Nat) (D : pD), t + m = 24 → ∃ D', Ja_fillI_now_notes_5 v (nI t) (nI 24) D E = some (none, D', E) ∧ Ko [47] D D' ∧ ∀ i, i < 24 → D' 47 0 i = if t ≤ i then v else D 47 0 i
  | 0, t, D, ht => by
    refine ⟨D, ?_, Ko.rf, fun i hi => by rw [if_neg (by omega)]⟩
    rw [e_Ja_fillI_now_notes_5, if_pos (nI_le (by omega) (by omega))]
  | m + 1, t, D, ht => by
    obtain ⟨D', a1, a2, a3⟩ := fi_notes (E := E) (v := v) m (t + 1) (dset D 47 0 t (v)) (by omega)
    refine ⟨D', ?_, (Ko.rf.set (by decide) _ _ _).tr a2, fun i hi => ?_⟩
    · rw [e_Ja_fillI_now_notes_5, if_neg (nI_ge (by omega) (by omega)), if_neg (iB (by omega) (by omega)), iC (by omega), nI1]
      exact a1
    · rw [a3 i hi, dsA]
      by_cases e : i = t
      · rw [if_neg (by omega), if_pos e, if_pos (by omega)]
      · rw [if_neg e]
        by_cases z : t + 1 ≤ i
        · rw [if_pos z, if_pos (by omega)]
        · rw [if_neg z, if_neg (by omega)]
theorem fi_counts {E : pDL} {v : Int32} : ∀ (m t : Nat) (D : pD), t + m = 5 → ∃ D', Ja_fillI_draft_counts_5 v (nI t) (nI 5) D E = some (none, D', E) ∧ Ko [19] D D' ∧ ∀ i, i < 5 → D' 19 0 i = if t ≤ i then v else D 19 0 i
  | 0, t, D, ht => by
    refine ⟨D, ?_, Ko.rf, fun i hi => by rw [if_neg (by omega)]⟩
    rw [e_Ja_fillI_draft_counts_5, if_pos (nI_le (by omega) (by omega))]
  | m + 1, t, D, ht => by
    obtain ⟨D', a1, a2, a3⟩ := fi_counts (E := E) (v := v) m (t + 1) (dset D 19 0 t (v)) (by omega)
    refine ⟨D', ?_, (Ko.rf.set (by decide) _ _ _).tr a2, fun i hi => ?_⟩
    · rw [e_Ja_fillI_draft_counts_5, if_neg (nI_ge (by omega) (by omega)), if_neg (iB (by omega) (by omega)), iC (by omega), nI1]
      exact a1
    · rw [a3 i hi, dsA]
      by_cases e : i = t
      · rw [if_neg (by omega), if_pos e, if_pos (by omega)]
      · rw [if_neg e]
        by_cases z : t + 1 ≤ i
        · rw [if_pos z, if_pos (by omega)]
        · rw [if_neg z, if_neg (by omega)]
theorem fi_weights {E : pDL} {v : Int32} : ∀ (m t : Nat) (D : pD), t + m = 24 → ∃ D', Ja_fillI_draft_weights_5 v (nI t) (nI 24) D E = some (none, D', E) ∧ Ko [21] D D' ∧ ∀ i, i < 24 → D' 21 0 i = if t ≤ i then v else D 21 0 i
  | 0, t, D, ht => by
    refine ⟨D, ?_, Ko.rf, fun i hi => by rw [if_neg (by omega)]⟩
    rw [e_Ja_fillI_draft_weights_5, if_pos (nI_le (by omega) (by omega))]
  | m + 1, t, D, ht => by
    obtain ⟨D', a1, a2, a3⟩ := fi_weights (E := E) (v := v) m (t + 1) (dset D 21 0 t (v)) (by omega)
    refine ⟨D', ?_, (Ko.rf.set (by decide) _ _ _).tr a2, fun i hi => ?_⟩
    · rw [e_Ja_fillI_draft_weights_5, if_neg (nI_ge (by omega) (by omega)), if_neg (iB (by omega) (by omega)), iC (by omega), nI1]
      exact a1
    · rw [a3 i hi, dsA]
      by_cases e : i = t
      · rw [if_neg (by omega), if_pos e, if_pos (by omega)]
      · rw [if_neg e]
        by_cases z : t + 1 ≤ i
        · rw [if_pos z, if_pos (by omega)]
        · rw [if_neg z, if_neg (by omega)]
theorem fi_given {E : pDL} {v : Int32} : ∀ (m t : Nat) (D : pD), t + m = 1920 → ∃ D', Ja_fillB_four_given_5 v (nI t) (nI 1920) D E = some (none, D', E) ∧ Ko [58] D D' ∧ ∀ i, i < 1920 → D' 58 0 i = if t ≤ i then v.toInt8.toInt32 else D 58 0 i
  | 0, t, D, ht => by
    refine ⟨D, ?_, Ko.rf, fun i hi => by rw [if_neg (by omega)]⟩
    rw [e_Ja_fillB_four_given_5, if_pos (nI_le (by omega) (by omega))]
  | m + 1, t, D, ht => by
    obtain ⟨D', a1, a2, a3⟩ := fi_given (E := E) (v := v) m (t + 1) (dset D 58 0 t (v.toInt8.toInt32)) (by omega)
    refine ⟨D', ?_, (Ko.rf.set (by decide) _ _ _).tr a2, fun i hi => ?_⟩
    · rw [e_Ja_fillB_four_given_5, if_neg (nI_ge (by omega) (by omega)), if_neg (iB (by omega) (by omega)), iC (by omega), nI1]
      exact a1
    · rw [a3 i hi, dsA]
      by_cases e : i = t
      · rw [if_neg (by omega), if_pos e, if_pos (by omega)]
      · rw [if_neg e]
        by_cases z : t + 1 ≤ i
        · rw [if_pos z, if_pos (by omega)]
        · rw [if_neg z, if_neg (by omega)]
theorem co_num {E : pDL} : ∀ (m t : Nat) (D : pD), t + m = 10 → ∃ D', Mo_comes_m_num_2 (nI 10) (nI t) D E = some (none, D', E) ∧ Ko [102] D D' ∧ (∀ i, 10 ≤ i → D' 102 0 i = D 102 0 i) ∧ ∀ i, i < 10 → D' 102 0 i = if t ≤ i then D 102 0 (10 + i) else D 102 0 i
  | 0, t, D, ht => by
    refine ⟨D, ?_, Ko.rf, fun i hi => rfl, fun i hi => by rw [if_neg (by omega)]⟩
    rw [e_Mo_comes_m_num_2, if_pos (nI_le (by omega) (by omega))]
  | m + 1, t, D, ht => by
    obtain ⟨D', a1, a2, a4, a3⟩ := co_num (E := E) m (t + 1) (dset D 102 0 t (D 102 0 (10 + t))) (by omega)
    refine ⟨D', ?_, (Ko.rf.set (by decide) _ _ _).tr a2, fun i hi => by rw [a4 i hi, dsA, if_neg (by omega)], fun i hi => ?_⟩
    · rw [e_Mo_comes_m_num_2, if_neg (nI_ge (by omega) (by omega)), nI_add', if_neg (iB (by omega) (by omega)), if_neg (iB (by omega) (by omega)), iC (by omega), iC (by omega), nI1]
      exact a1
    · rw [a3 i hi, dsA, dsA, if_neg (show ¬ 10 + i = t by omega)]
      by_cases e : i = t
      · rw [if_neg (by omega), if_pos e, if_pos (by omega), e]
      · rw [if_neg e]
        by_cases z : t + 1 ≤ i
        · rw [if_pos z, if_pos (by omega)]
        · rw [if_neg z, if_neg (by omega)]
theorem co_notionTraits {E : pDL} : ∀ (m t : Nat) (D : pD), t + m = 12 → ∃ D', Mo_comes_m_notionTraits_2 (nI 12) (nI t) D E = some (none, D', E) ∧ Ko [105] D D' ∧ (∀ i, 12 ≤ i → D' 105 0 i = D 105 0 i) ∧ ∀ i, i < 12 → D' 105 0 i = if t ≤ i then D 105 0 (12 + i) else D 105 0 i
  | 0, t, D, ht => by
    refine ⟨D, ?_, Ko.rf, fun i hi => rfl, fun i hi => by rw [if_neg (by omega)]⟩
    rw [e_Mo_comes_m_notionTraits_2, if_pos (nI_le (by omega) (by omega))]
  | m + 1, t, D, ht => by
    obtain ⟨D', a1, a2, a4, a3⟩ := co_notionTraits (E := E) m (t + 1) (dset D 105 0 t (D 105 0 (12 + t))) (by omega)
    refine ⟨D', ?_, (Ko.rf.set (by decide) _ _ _).tr a2, fun i hi => by rw [a4 i hi, dsA, if_neg (by omega)], fun i hi => ?_⟩
    · rw [e_Mo_comes_m_notionTraits_2, if_neg (nI_ge (by omega) (by omega)), nI_add', if_neg (iB (by omega) (by omega)), if_neg (iB (by omega) (by omega)), iC (by omega), iC (by omega), nI1]
      exact a1
    · rw [a3 i hi, dsA, dsA, if_neg (show ¬ 12 + i = t by omega)]
      by_cases e : i = t
      · rw [if_neg (by omega), if_pos e, if_pos (by omega), e]
      · rw [if_neg e]
        by_cases z : t + 1 ≤ i
        · rw [if_pos z, if_pos (by omega)]
        · rw [if_neg z, if_neg (by omega)]
theorem co_wordTraits {E : pDL} : ∀ (m t : Nat) (D : pD), t + m = 20 → ∃ D', Mo_comes_m_wordTraits_2 (nI 20) (nI t) D E = some (none, D', E) ∧ Ko [106] D D' ∧ (∀ i, 20 ≤ i → D' 106 0 i = D 106 0 i) ∧ ∀ i, i < 20 → D' 106 0 i = if t ≤ i then D 106 0 (20 + i) else D 106 0 i
  | 0, t, D, ht => by
    refine ⟨D, ?_, Ko.rf, fun i hi => rfl, fun i hi => by rw [if_neg (by omega)]⟩
    rw [e_Mo_comes_m_wordTraits_2, if_pos (nI_le (by omega) (by omega))]
  | m + 1, t, D, ht => by
    obtain ⟨D', a1, a2, a4, a3⟩ := co_wordTraits (E := E) m (t + 1) (dset D 106 0 t (D 106 0 (20 + t))) (by omega)
    refine ⟨D', ?_, (Ko.rf.set (by decide) _ _ _).tr a2, fun i hi => by rw [a4 i hi, dsA, if_neg (by omega)], fun i hi => ?_⟩
    · rw [e_Mo_comes_m_wordTraits_2, if_neg (nI_ge (by omega) (by omega)), nI_add', if_neg (iB (by omega) (by omega)), if_neg (iB (by omega) (by omega)), iC (by omega), iC (by omega), nI1]
      exact a1
    · rw [a3 i hi, dsA, dsA, if_neg (show ¬ 20 + i = t by omega)]
      by_cases e : i = t
      · rw [if_neg (by omega), if_pos e, if_pos (by omega), e]
      · rw [if_neg e]
        by_cases z : t + 1 ≤ i
        · rw [if_pos z, if_pos (by omega)]
        · rw [if_neg z, if_neg (by omega)]
theorem co_placeNotion {E : pDL} : ∀ (m t : Nat) (D : pD), t + m = 24 → ∃ D', Mo_comes_m_placeNotion_2 (nI 24) (nI t) D E = some (none, D', E) ∧ Ko [107] D D' ∧ (∀ i, 24 ≤ i → D' 107 0 i = D 107 0 i) ∧ ∀ i, i < 24 → D' 107 0 i = if t ≤ i then D 107 0 (24 + i) else D 107 0 i
  | 0, t, D, ht => by
    refine ⟨D, ?_, Ko.rf, fun i hi => rfl, fun i hi => by rw [if_neg (by omega)]⟩
    rw [e_Mo_comes_m_placeNotion_2, if_pos (nI_le (by omega) (by omega))]
  | m + 1, t, D, ht => by
    obtain ⟨D', a1, a2, a4, a3⟩ := co_placeNotion (E := E) m (t + 1) (dset D 107 0 t (D 107 0 (24 + t))) (by omega)
    refine ⟨D', ?_, (Ko.rf.set (by decide) _ _ _).tr a2, fun i hi => by rw [a4 i hi, dsA, if_neg (by omega)], fun i hi => ?_⟩
    · rw [e_Mo_comes_m_placeNotion_2, if_neg (nI_ge (by omega) (by omega)), nI_add', if_neg (iB (by omega) (by omega)), if_neg (iB (by omega) (by omega)), iC (by omega), iC (by omega), nI1]
      exact a1
    · rw [a3 i hi, dsA, dsA, if_neg (show ¬ 24 + i = t by omega)]
      by_cases e : i = t
      · rw [if_neg (by omega), if_pos e, if_pos (by omega), e]
      · rw [if_neg e]
        by_cases z : t + 1 ≤ i
        · rw [if_pos z, if_pos (by omega)]
        · rw [if_neg z, if_neg (by omega)]
theorem co_placeBears {E : pDL} : ∀ (m t : Nat) (D : pD), t + m = 24 → ∃ D', Mo_comes_m_placeBears_2 (nI 24) (nI t) D E = some (none, D', E) ∧ Ko [108] D D' ∧ (∀ i, 24 ≤ i → D' 108 0 i = D 108 0 i) ∧ ∀ i, i < 24 → D' 108 0 i = if t ≤ i then D 108 0 (24 + i) else D 108 0 i
  | 0, t, D, ht => by
    refine ⟨D, ?_, Ko.rf, fun i hi => rfl, fun i hi => by rw [if_neg (by omega)]⟩
    rw [e_Mo_comes_m_placeBears_2, if_pos (nI_le (by omega) (by omega))]
  | m + 1, t, D, ht => by
    obtain ⟨D', a1, a2, a4, a3⟩ := co_placeBears (E := E) m (t + 1) (dset D 108 0 t (D 108 0 (24 + t))) (by omega)
    refine ⟨D', ?_, (Ko.rf.set (by decide) _ _ _).tr a2, fun i hi => by rw [a4 i hi, dsA, if_neg (by omega)], fun i hi => ?_⟩
    · rw [e_Mo_comes_m_placeBears_2, if_neg (nI_ge (by omega) (by omega)), nI_add', if_neg (iB (by omega) (by omega)), if_neg (iB (by omega) (by omega)), iC (by omega), iC (by omega), nI1]
      exact a1
    · rw [a3 i hi, dsA, dsA, if_neg (show ¬ 24 + i = t by omega)]
      by_cases e : i = t
      · rw [if_neg (by omega), if_pos e, if_pos (by omega), e]
      · rw [if_neg e]
        by_cases z : t + 1 ≤ i
        · rw [if_pos z, if_pos (by omega)]
        · rw [if_neg z, if_neg (by omega)]
theorem co_tieOne {E : pDL} : ∀ (m t : Nat) (D : pD), t + m = 20 → ∃ D', Mo_comes_m_tieOne_2 (nI 20) (nI t) D E = some (none, D', E) ∧ Ko [109] D D' ∧ (∀ i, 20 ≤ i → D' 109 0 i = D 109 0 i) ∧ ∀ i, i < 20 → D' 109 0 i = if t ≤ i then D 109 0 (20 + i) else D 109 0 i
  | 0, t, D, ht => by
    refine ⟨D, ?_, Ko.rf, fun i hi => rfl, fun i hi => by rw [if_neg (by omega)]⟩
    rw [e_Mo_comes_m_tieOne_2, if_pos (nI_le (by omega) (by omega))]
  | m + 1, t, D, ht => by
    obtain ⟨D', a1, a2, a4, a3⟩ := co_tieOne (E := E) m (t + 1) (dset D 109 0 t (D 109 0 (20 + t))) (by omega)
    refine ⟨D', ?_, (Ko.rf.set (by decide) _ _ _).tr a2, fun i hi => by rw [a4 i hi, dsA, if_neg (by omega)], fun i hi => ?_⟩
    · rw [e_Mo_comes_m_tieOne_2, if_neg (nI_ge (by omega) (by omega)), nI_add', if_neg (iB (by omega) (by omega)), if_neg (iB (by omega) (by omega)), iC (by omega), iC (by omega), nI1]
      exact a1
    · rw [a3 i hi, dsA, dsA, if_neg (show ¬ 20 + i = t by omega)]
      by_cases e : i = t
      · rw [if_neg (by omega), if_pos e, if_pos (by omega), e]
      · rw [if_neg e]
        by_cases z : t + 1 ≤ i
        · rw [if_pos z, if_pos (by omega)]
        · rw [if_neg z, if_neg (by omega)]
theorem co_tieTwo {E : pDL} : ∀ (m t : Nat) (D : pD), t + m = 20 → ∃ D', Mo_comes_m_tieTwo_2 (nI 20) (nI t) D E = some (none, D', E) ∧ Ko [110] D D' ∧ (∀ i, 20 ≤ i → D' 110 0 i = D 110 0 i) ∧ ∀ i, i < 20 → D' 110 0 i = if t ≤ i then D 110 0 (20 + i) else D 110 0 i
  | 0, t, D, ht => by
    refine ⟨D, ?_, Ko.rf, fun i hi => rfl, fun i hi => by rw [if_neg (by omega)]⟩
    rw [e_Mo_comes_m_tieTwo_2, if_pos (nI_le (by omega) (by omega))]
  | m + 1, t, D, ht => by
    obtain ⟨D', a1, a2, a4, a3⟩ := co_tieTwo (E := E) m (t + 1) (dset D 110 0 t (D 110 0 (20 + t))) (by omega)
    refine ⟨D', ?_, (Ko.rf.set (by decide) _ _ _).tr a2, fun i hi => by rw [a4 i hi, dsA, if_neg (by omega)], fun i hi => ?_⟩
    · rw [e_Mo_comes_m_tieTwo_2, if_neg (nI_ge (by omega) (by omega)), nI_add', if_neg (iB (by omega) (by omega)), if_neg (iB (by omega) (by omega)), iC (by omega), iC (by omega), nI1]
      exact a1
    · rw [a3 i hi, dsA, dsA, if_neg (show ¬ 20 + i = t by omega)]
      by_cases e : i = t
      · rw [if_neg (by omega), if_pos e, if_pos (by omega), e]
      · rw [if_neg e]
        by_cases z : t + 1 ≤ i
        · rw [if_pos z, if_pos (by omega)]
        · rw [if_neg z, if_neg (by omega)]
theorem co_tieTraits {E : pDL} : ∀ (m t : Nat) (D : pD), t + m = 20 → ∃ D', Mo_comes_m_tieTraits_2 (nI 20) (nI t) D E = some (none, D', E) ∧ Ko [111] D D' ∧ (∀ i, 20 ≤ i → D' 111 0 i = D 111 0 i) ∧ ∀ i, i < 20 → D' 111 0 i = if t ≤ i then D 111 0 (20 + i) else D 111 0 i
  | 0, t, D, ht => by
    refine ⟨D, ?_, Ko.rf, fun i hi => rfl, fun i hi => by rw [if_neg (by omega)]⟩
    rw [e_Mo_comes_m_tieTraits_2, if_pos (nI_le (by omega) (by omega))]
  | m + 1, t, D, ht => by
    obtain ⟨D', a1, a2, a4, a3⟩ := co_tieTraits (E := E) m (t + 1) (dset D 111 0 t (D 111 0 (20 + t))) (by omega)
    refine ⟨D', ?_, (Ko.rf.set (by decide) _ _ _).tr a2, fun i hi => by rw [a4 i hi, dsA, if_neg (by omega)], fun i hi => ?_⟩
    · rw [e_Mo_comes_m_tieTraits_2, if_neg (nI_ge (by omega) (by omega)), nI_add', if_neg (iB (by omega) (by omega)), if_neg (iB (by omega) (by omega)), iC (by omega), iC (by omega), nI1]
      exact a1
    · rw [a3 i hi, dsA, dsA, if_neg (show ¬ 20 + i = t by omega)]
      by_cases e : i = t
      · rw [if_neg (by omega), if_pos e, if_pos (by omega), e]
      · rw [if_neg e]
        by_cases z : t + 1 ≤ i
        · rw [if_pos z, if_pos (by omega)]
        · rw [if_neg z, if_neg (by omega)]
theorem co_knows {E : pDL} : ∀ (m t : Nat) (D : pD), t + m = 6 → ∃ D', Mo_comes_m_knows_2 (nI 6) (nI t) D E = some (none, D', E) ∧ Ko [112] D D' ∧ (∀ i, 6 ≤ i → D' 112 0 i = D 112 0 i) ∧ ∀ i, i < 6 → D' 112 0 i = if t ≤ i then D 112 0 (6 + i) else D 112 0 i
  | 0, t, D, ht => by
    refine ⟨D, ?_, Ko.rf, fun i hi => rfl, fun i hi => by rw [if_neg (by omega)]⟩
    rw [e_Mo_comes_m_knows_2, if_pos (nI_le (by omega) (by omega))]
  | m + 1, t, D, ht => by
    obtain ⟨D', a1, a2, a4, a3⟩ := co_knows (E := E) m (t + 1) (dset D 112 0 t (D 112 0 (6 + t))) (by omega)
    refine ⟨D', ?_, (Ko.rf.set (by decide) _ _ _).tr a2, fun i hi => by rw [a4 i hi, dsA, if_neg (by omega)], fun i hi => ?_⟩
    · rw [e_Mo_comes_m_knows_2, if_neg (nI_ge (by omega) (by omega)), nI_add', if_neg (iB (by omega) (by omega)), if_neg (iB (by omega) (by omega)), iC (by omega), iC (by omega), nI1]
      exact a1
    · rw [a3 i hi, dsA, dsA, if_neg (show ¬ 6 + i = t by omega)]
      by_cases e : i = t
      · rw [if_neg (by omega), if_pos e, if_pos (by omega), e]
      · rw [if_neg e]
        by_cases z : t + 1 ≤ i
        · rw [if_pos z, if_pos (by omega)]
        · rw [if_neg z, if_neg (by omega)]
theorem co_laughsAt {E : pDL} : ∀ (m t : Nat) (D : pD), t + m = 6 → ∃ D', Mo_comes_m_laughsAt_2 (nI 6) (nI t) D E = some (none, D', E) ∧ Ko [113] D D' ∧ (∀ i, 6 ≤ i → D' 113 0 i = D 113 0 i) ∧ ∀ i, i < 6 → D' 113 0 i = if t ≤ i then D 113 0 (6 + i) else D 113 0 i
  | 0, t, D, ht => by
    refine ⟨D, ?_, Ko.rf, fun i hi => rfl, fun i hi => by rw [if_neg (by omega)]⟩
    rw [e_Mo_comes_m_laughsAt_2, if_pos (nI_le (by omega) (by omega))]
  | m + 1, t, D, ht => by
    obtain ⟨D', a1, a2, a4, a3⟩ := co_laughsAt (E := E) m (t + 1) (dset D 113 0 t (D 113 0 (6 + t))) (by omega)
    refine ⟨D', ?_, (Ko.rf.set (by decide) _ _ _).tr a2, fun i hi => by rw [a4 i hi, dsA, if_neg (by omega)], fun i hi => ?_⟩
    · rw [e_Mo_comes_m_laughsAt_2, if_neg (nI_ge (by omega) (by omega)), nI_add', if_neg (iB (by omega) (by omega)), if_neg (iB (by omega) (by omega)), iC (by omega), iC (by omega), nI1]
      exact a1
    · rw [a3 i hi, dsA, dsA, if_neg (show ¬ 6 + i = t by omega)]
      by_cases e : i = t
      · rw [if_neg (by omega), if_pos e, if_pos (by omega), e]
      · rw [if_neg e]
        by_cases z : t + 1 ≤ i
        · rw [if_pos z, if_pos (by omega)]
        · rw [if_neg z, if_neg (by omega)]
theorem co_weight {E : pDL} : ∀ (m t : Nat) (D : pD), t + m = 24 → ∃ D', Mo_comes_m_weight_2 (nI 24) (nI t) D E = some (none, D', E) ∧ Ko [114] D D' ∧ (∀ i, 24 ≤ i → D' 114 0 i = D 114 0 i) ∧ ∀ i, i < 24 → D' 114 0 i = if t ≤ i then D 114 0 (24 + i) else D 114 0 i
  | 0, t, D, ht => by
    refine ⟨D, ?_, Ko.rf, fun i hi => rfl, fun i hi => by rw [if_neg (by omega)]⟩
    rw [e_Mo_comes_m_weight_2, if_pos (nI_le (by omega) (by omega))]
  | m + 1, t, D, ht => by
    obtain ⟨D', a1, a2, a4, a3⟩ := co_weight (E := E) m (t + 1) (dset D 114 0 t (D 114 0 (24 + t))) (by omega)
    refine ⟨D', ?_, (Ko.rf.set (by decide) _ _ _).tr a2, fun i hi => by rw [a4 i hi, dsA, if_neg (by omega)], fun i hi => ?_⟩
    · rw [e_Mo_comes_m_weight_2, if_neg (nI_ge (by omega) (by omega)), nI_add', if_neg (iB (by omega) (by omega)), if_neg (iB (by omega) (by omega)), iC (by omega), iC (by omega), nI1]
      exact a1
    · rw [a3 i hi, dsA, dsA, if_neg (show ¬ 24 + i = t by omega)]
      by_cases e : i = t
      · rw [if_neg (by omega), if_pos e, if_pos (by omega), e]
      · rw [if_neg e]
        by_cases z : t + 1 ≤ i
        · rw [if_pos z, if_pos (by omega)]
        · rw [if_neg z, if_neg (by omega)]
theorem mb_2 {E : pDL} : ∀ (m t : Nat) (D : pD), t + m = 5 → ∃ D', Mo_begin_2 (nI t) D E = Mo_begin_66 0 (dset (dset (dset (dset (dset D' 102 0 15 2) 102 0 16 1) 102 0 17 5) 102 0 18 1) 102 0 19 6) E ∧ Ko [102] D D' ∧ (∀ i, i < 10 → D' 102 0 i = D 102 0 i) ∧ ∀ i, i < 5 → D' 102 0 (10 + i) = if t ≤ i then 0 else D 102 0 (10 + i)
  | 0, t, D, ht => by
    refine ⟨D, ?_, Ko.rf, fun i hi => rfl, fun i hi => by rw [if_neg (by omega)]⟩
    rw [e_Mo_begin_2, if_pos (show (5 : Int32) ≤ nI t from nI_le (a := 5) (by omega) (by omega))]
  | m + 1, t, D, ht => by
    obtain ⟨D', a1, a2, a4, a3⟩ := mb_2 (E := E) m (t + 1) (dset D 102 0 (10 + t) 0) (by omega)
    refine ⟨D', ?_, (Ko.rf.set (by decide) _ _ _).tr a2, fun i hi => by rw [a4 i hi, dsA, if_neg (by omega)], fun i hi => ?_⟩
    · rw [e_Mo_begin_2, if_neg (show ¬ (5 : Int32) ≤ nI t from nI_ge (b := 5) (by omega) (by omega)), show (10 : Int32) + nI t = nI (10 + t) from nI_add' 10 t, if_neg (iB (by omega) (by omega)), iC (by omega), nI1]
      exact a1
    · rw [a3 i hi, dsA]
      by_cases e : i = t
      · rw [if_neg (by omega), if_pos (by omega), if_pos (by omega)]
      · rw [if_neg (show ¬ 10 + i = 10 + t by omega)]
        by_cases z : t + 1 ≤ i
        · rw [if_pos z, if_pos (by omega)]
        · rw [if_neg z, if_neg (by omega)]
theorem mb_66 {E : pDL} : ∀ (m t : Nat) (D : pD), t + m = 24 → ∃ D', Mo_begin_66 (nI t) D E = some (none, dset D' 100 0 26 0, E) ∧ Ko [114] D D' ∧ (∀ i, i < 24 → D' 114 0 i = D 114 0 i) ∧ ∀ i, i < 24 → D' 114 0 (24 + i) = if t ≤ i then 1 else D 114 0 (24 + i)
  | 0, t, D, ht => by
    refine ⟨D, ?_, Ko.rf, fun i hi => rfl, fun i hi => by rw [if_neg (by omega)]⟩
    rw [e_Mo_begin_66, if_pos (show (24 : Int32) ≤ nI t from nI_le (a := 24) (by omega) (by omega))]
  | m + 1, t, D, ht => by
    obtain ⟨D', a1, a2, a4, a3⟩ := mb_66 (E := E) m (t + 1) (dset D 114 0 (24 + t) 1) (by omega)
    refine ⟨D', ?_, (Ko.rf.set (by decide) _ _ _).tr a2, fun i hi => by rw [a4 i hi, dsA, if_neg (by omega)], fun i hi => ?_⟩
    · rw [e_Mo_begin_66, if_neg (show ¬ (24 : Int32) ≤ nI t from nI_ge (b := 24) (by omega) (by omega)), show (24 : Int32) + nI t = nI (24 + t) from nI_add' 24 t, if_neg (iB (by omega) (by omega)), iC (by omega), nI1]
      exact a1
    · rw [a3 i hi, dsA]
      by_cases e : i = t
      · rw [if_neg (by omega), if_pos (by omega), if_pos (by omega)]
      · rw [if_neg (show ¬ 24 + i = 24 + t by omega)]
        by_cases z : t + 1 ≤ i
        · rw [if_pos z, if_pos (by omega)]
        · rw [if_neg z, if_neg (by omega)]
theorem M_begin (D : pD) (E : pDL) : ∃ D', Mo_begin D E = some (none, D', E) ∧ Ko [100, 102, 114] D D' ∧ (∀ i, i ≠ 26 → D' 100 0 i = D 100 0 i) ∧ D' 100 0 26 = 0 ∧ (∀ i, i < 10 → D' 102 0 i = D 102 0 i) ∧ (∀ i, i < 5 → D' 102 0 (10 + i) = 0) ∧ (D' 102 0 15 = 2 ∧ D' 102 0 16 = 1 ∧ D' 102 0 17 = 5 ∧ D' 102 0 18 = 1 ∧ D' 102 0 19 = 6) ∧ (∀ i, i < 24 → D' 114 0 i = D 114 0 i) ∧ ∀ i, i < 24 → D' 114 0 (24 + i) = 1 := by
  obtain ⟨D1, a1, a2, a3, a4⟩ := mb_2 (E := E) 5 0 D rfl
  generalize hD2 : dset (dset (dset (dset (dset D1 102 0 15 2) 102 0 16 1) 102 0 17 5) 102 0 18 1) 102 0 19 6 = D2 at a1
  obtain ⟨D3, b1, b2, b3, b4⟩ := mb_66 (E := E) 24 0 D2 rfl
  have k2 : Ko [102] D1 D2 := by
    rw [← hD2]
    exact ((((Ko.rf.set (by decide) _ _ _).set (by decide) _ _ _).set (by decide) _ _ _).set (by decide) _ _ _).set (by decide) _ _ _
  refine ⟨dset D3 100 0 26 0, ?_, ?_, fun i hi => ?_, by rw [dsA, if_pos rfl], fun i hi => ?_, fun i hi => ?_, ?_, fun i hi => ?_, fun i hi => ?_⟩
  · rw [e_Mo_begin]
    exact a1.trans b1
  · exact (((a2.sub (by decide)).tr (k2.sub (by decide))).tr (b2.sub (by decide))).set (by decide) _ _ _
  · rw [dsA, if_neg hi, b2.c (by decide), k2.c (by decide), a2.c (by decide)]
  · rw [dsN (by decide), b2.c (by decide), ← hD2, ← a3 i hi]
    simp (disch := omega) only [dsA, sNe, if_false]
  · rw [dsN (by decide), b2.c (by decide), ← hD2]
    simp (disch := omega) only [dsA, sNe, if_false]
    rw [a4 i hi, if_pos (by omega)]
  · simp (disch := decide) only [dsN, b2.c]
    rw [← hD2]
    simp (disch := decide) only [dsA, sNe, if_false, if_true, and_self]
  · rw [dsN (by decide), b3 i hi, k2.c (by decide), a2.c (by decide)]
  · rw [dsN (by decide), b4 i hi, if_pos (by omega)]
theorem X_begin_ (D : pD) (E : pDL) : ∃ D', Re_begin D E = some (none, D', E) ∧ Ko [17, 19, 20, 21, 32, 35, 38] D D' ∧ (∀ i, i < 5 → D' 19 0 i = 0) ∧ (D' 20 0 0 = 2 ∧ D' 20 0 1 = 1 ∧ D' 20 0 2 = 5 ∧ D' 20 0 3 = 1 ∧ D' 20 0 4 = 6) ∧ (∀ i, i < 24 → D' 21 0 i = 1) ∧ (D' 32 0 2 = 0 ∧ D' 35 0 2 = 0 ∧ D' 38 0 2 = 0) ∧ (D' 17 0 4 = 0 ∧ D' 17 0 5 = -1 ∧ D' 17 0 6 = 1 ∧ D' 17 0 7 = D 1 0 1 ∧ D' 17 0 9 = 0 ∧ D' 17 0 13 = 0) := by
  obtain ⟨D1, a1, a2, a3⟩ := fi_counts (E := E) (v := 0) 5 0 D rfl
  generalize hD2 : dset (dset (dset (dset (dset D1 20 0 0 2) 20 0 1 1) 20 0 2 5) 20 0 3 1) 20 0 4 6 = D2
  obtain ⟨D3, b1, b2, b3⟩ := fi_weights (E := E) (v := 1) 24 0 D2 rfl
  have k2 : Ko [20] D1 D2 := by
    rw [← hD2]
    exact ((((Ko.rf.set (by decide) _ _ _).set (by decide) _ _ _).set (by decide) _ _ _).set (by decide) _ _ _).set (by decide) _ _ _
  have hc : Bk_clear_draft D E = some (none, D3, E) := by
    rw [e_Bk_clear_draft, e_Ja_fillI_draft_counts, show Ja_fillI_draft_counts_5 0 0 (nI 5) D E = _ from a1, B0s, hD2, e_Ja_fillI_draft_weights, show Ja_fillI_draft_weights_5 1 0 (nI 24) D2 E = _ from b1, B0s]
  have k3 : Ko [19, 20, 21] D D3 := ((a2.sub (by decide)).tr (k2.sub (by decide))).tr (b2.sub (by decide))
  refine ⟨_, by rw [e_Re_begin, hc, B0s], ?_, fun i hi => ?_, ?_, fun i hi => ?_, ?_, ?_⟩
  · exact (((((((((k3.sub (by decide)).set (by decide) _ _ _).set (by decide) _ _ _).set (by decide) _ _ _).set (by decide) _ _ _).set (by decide) _ _ _).set (by decide) _ _ _).set (by decide) _ _ _).set (by decide) _ _ _).set (by decide) _ _ _
  · simp (disch := decide) only [dsN]
    rw [b2.c (by decide), k2.c (by decide), a3 i hi, if_pos (by omega)]
  · simp (disch := decide) only [dsN, b2.c]
    rw [← hD2]
    simp (disch := decide) only [dsA, sNe, if_false, if_true, and_self]
  · simp (disch := decide) only [dsN]
    rw [b3 i hi, if_pos (by omega)]
  · simp (disch := decide) only [dsN, dsA, if_true, and_self]
  · simp (disch := decide) only [dsN, dsA, sNe, if_true, if_false, true_and, and_true]
    rw [k3.c (by decide)]
