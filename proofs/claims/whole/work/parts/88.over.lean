/-! THE TEXT: the reference settles, the class takes its draft over -/
theorem se_101 {E : pDL} : ∀ (m t : Nat) (D : pD), t + m = 24 → ∃ D', Mo_settle_101 (nI t) D E = Mo_settle_129 0 D' E ∧ Ko [115, 119] D D' ∧ ∀ i, i < 24 → D' 115 0 i = (if t ≤ i then -1 else D 115 0 i) ∧ D' 119 0 i = (if t ≤ i then 0 else D 119 0 i)
  | 0, t, D, ht => by
    refine ⟨D, ?_, Ko.rf, fun i hi => by rw [if_neg (by omega), if_neg (by omega)]; exact ⟨rfl, rfl⟩⟩
    rw [e_Mo_settle_101, if_pos (show (24 : Int32) ≤ nI t from nI_le (a := 24) (by omega) (by omega))]
  | m + 1, t, D, ht => by
    obtain ⟨D', a1, a2, a3⟩ := se_101 (E := E) m (t + 1) (dset (dset D 115 0 t (-1)) 119 0 t 0) (by omega)
    refine ⟨D', ?_, ((Ko.rf.set (by decide) _ _ _).set (by decide) _ _ _).tr a2, fun i hi => ?_⟩
    · rw [e_Mo_settle_101, if_neg (show ¬ (24 : Int32) ≤ nI t from nI_ge (b := 24) (by omega) (by omega)), if_neg (iB (by omega) (by omega)), if_neg (iB (by omega) (by omega)), iC (by omega), nI1]
      exact a1
    · rw [(a3 i hi).1, (a3 i hi).2, dsN (show (115 : Nat) ≠ 119 by decide), dsA, dsA, dsN (show (119 : Nat) ≠ 115 by decide)]
      by_cases e : i = t
      · rw [if_neg (by omega), if_pos e, if_pos (by omega), if_neg (by omega), if_pos e, if_pos (by omega)]
        exact ⟨rfl, rfl⟩
      · by_cases z : t + 1 ≤ i
        · rw [if_pos z, if_pos (by omega), if_pos z, if_pos (by omega)]
          exact ⟨rfl, rfl⟩
        · rw [if_neg z, if_neg e, if_neg (by omega), if_neg z, if_neg e, if_neg (by omega)]
          exact ⟨rfl, rfl⟩
theorem se_129 {E : pDL} : ∀ (m t : Nat) (D : pD), t + m = 4 → ∃ D', Mo_settle_129 (nI t) D E = Mo_settle_149 0 D' E ∧ Ko [125] D D' ∧ ∀ i, i < 4 → D' 125 0 i = (if t ≤ i then 0 else D 125 0 i)
  | 0, t, D, ht => by
    refine ⟨D, ?_, Ko.rf, fun i hi => by rw [if_neg (by omega)]⟩
    rw [e_Mo_settle_129, if_pos (show (4 : Int32) ≤ nI t from nI_le (a := 4) (by omega) (by omega))]
  | m + 1, t, D, ht => by
    obtain ⟨D', a1, a2, a3⟩ := se_129 (E := E) m (t + 1) (dset D 125 0 t 0) (by omega)
    refine ⟨D', ?_, (Ko.rf.set (by decide) _ _ _).tr a2, fun i hi => ?_⟩
    · rw [e_Mo_settle_129, if_neg (show ¬ (4 : Int32) ≤ nI t from nI_ge (b := 4) (by omega) (by omega)), if_neg (iB (by omega) (by omega)), iC (by omega), nI1]
      exact a1
    · rw [a3 i hi, dsA]
      by_cases e : i = t
      · rw [if_neg (by omega), if_pos e, if_pos (by omega)]
      · by_cases z : t + 1 ≤ i
        · rw [if_pos z, if_pos (by omega)]
        · rw [if_neg z, if_neg e, if_neg (by omega)]
theorem se_149 {E : pDL} : ∀ (m t : Nat) (D : pD), t + m = 1920 → ∃ D', Mo_settle_149 (nI t) D E = some (none, dset (dset (dset (dset D' 100 0 44 0) 100 0 48 0) 100 0 49 0) 100 0 50 0, E) ∧ Ko [131] D D' ∧ ∀ i, i < 1920 → D' 131 0 i = (if t ≤ i then 0 else D 131 0 i)
  | 0, t, D, ht => by
    refine ⟨D, ?_, Ko.rf, fun i hi => by rw [if_neg (by omega)]⟩
    rw [e_Mo_settle_149, if_pos (show (1920 : Int32) ≤ nI t from nI_le (a := 1920) (by omega) (by omega))]
  | m + 1, t, D, ht => by
    obtain ⟨D', a1, a2, a3⟩ := se_149 (E := E) m (t + 1) (dset D 131 0 t 0) (by omega)
    refine ⟨D', ?_, (Ko.rf.set (by decide) _ _ _).tr a2, fun i hi => ?_⟩
    · rw [e_Mo_settle_149, if_neg (show ¬ (1920 : Int32) ≤ nI t from nI_ge (b := 1920) (by omega) (by omega)), if_neg (iB (by omega) (by omega)), iC (by omega), nI1]
      exact a1
    · rw [a3 i hi, dsA]
      by_cases e : i = t
      · rw [if_neg (by omega), if_pos e, if_pos (by omega)]
      · by_cases z : t + 1 ≤ i
        · rw [if_pos z, if_pos (by omega)]
        · rw [if_neg z, if_neg e, if_neg (by omega)]
theorem M_settle (D : pD) (E : pDL) : ∃ D', Mo_settle D E = some (none, D', E) ∧ Ko [100, 102, 105, 106, 107, 108, 109, 110, 111, 112, 113, 114, 115, 119, 125, 131] D D' ∧ (∀ i, i ∉ [44, 48, 49, 50] → D' 100 0 i = D 100 0 i) ∧ (D' 100 0 44 = 0 ∧ D' 100 0 48 = 0 ∧ D' 100 0 49 = 0 ∧ D' 100 0 50 = 0) ∧ (∀ i, i < 24 → D' 115 0 i = -1 ∧ D' 119 0 i = 0) ∧ (∀ i, i < 4 → D' 125 0 i = 0) ∧ (∀ i, i < 1920 → D' 131 0 i = 0) ∧ (∀ i, i < 10 → D' 102 0 i = D 102 0 (10 + i)) ∧ (∀ i, i < 12 → D' 105 0 i = D 105 0 (12 + i)) ∧ (∀ i, i < 20 → D' 106 0 i = D 106 0 (20 + i)) ∧ (∀ i, i < 24 → D' 107 0 i = D 107 0 (24 + i)) ∧ (∀ i, i < 24 → D' 108 0 i = D 108 0 (24 + i)) ∧ (∀ i, i < 20 → D' 109 0 i = D 109 0 (20 + i)) ∧ (∀ i, i < 20 → D' 110 0 i = D 110 0 (20 + i)) ∧ (∀ i, i < 20 → D' 111 0 i = D 111 0 (20 + i)) ∧ (∀ i, i < 6 → D' 112 0 i = D 112 0 (6 + i)) ∧ (∀ i, i < 6 → D' 113 0 i = D 113 0 (6 + i)) ∧ (∀ i, i < 24 → D' 114 0 i = D 114 0 (24 + i)) := by
  obtain ⟨D1, u1, k1, -, c1⟩ := co_num (E := E) 10 0 D rfl
  obtain ⟨D2, u2, k2, -, c2⟩ := co_notionTraits (E := E) 12 0 D1 rfl
  obtain ⟨D3, u3, k3, -, c3⟩ := co_wordTraits (E := E) 20 0 D2 rfl
  obtain ⟨D4, u4, k4, -, c4⟩ := co_placeNotion (E := E) 24 0 D3 rfl
  obtain ⟨D5, u5, k5, -, c5⟩ := co_placeBears (E := E) 24 0 D4 rfl
  obtain ⟨D6, u6, k6, -, c6⟩ := co_tieOne (E := E) 20 0 D5 rfl
  obtain ⟨D7, u7, k7, -, c7⟩ := co_tieTwo (E := E) 20 0 D6 rfl
  obtain ⟨D8, u8, k8, -, c8⟩ := co_tieTraits (E := E) 20 0 D7 rfl
  obtain ⟨D9, u9, k9, -, c9⟩ := co_knows (E := E) 6 0 D8 rfl
  obtain ⟨D10, u10, k10, -, c10⟩ := co_laughsAt (E := E) 6 0 D9 rfl
  obtain ⟨D11, u11, k11, -, c11⟩ := co_weight (E := E) 24 0 D10 rfl
  obtain ⟨D12, u12, k12, c12⟩ := se_101 (E := E) 24 0 D11 rfl
  obtain ⟨D13, u13, k13, c13⟩ := se_129 (E := E) 4 0 D12 rfl
  obtain ⟨D14, u14, k14, c14⟩ := se_149 (E := E) 1920 0 D13 rfl
  refine ⟨dset (dset (dset (dset D14 100 0 44 0) 100 0 48 0) 100 0 49 0) 100 0 50 0, ?_, ?_, fun i hi => ?_, ?_, fun i hi => ?_, fun i hi => ?_, fun i hi => ?_, fun i hi => ?_, fun i hi => ?_, fun i hi => ?_, fun i hi => ?_, fun i hi => ?_, fun i hi => ?_, fun i hi => ?_, fun i hi => ?_, fun i hi => ?_, fun i hi => ?_, fun i hi => ?_⟩
  · rw [e_Mo_settle, e_Mo_comes_m_num, show Mo_comes_m_num_2 10 0 D E = _ from u1, B0s, e_Mo_comes_m_notionTraits, show Mo_comes_m_notionTraits_2 12 0 D1 E = _ from u2, B0s, e_Mo_comes_m_wordTraits, show Mo_comes_m_wordTraits_2 20 0 D2 E = _ from u3, B0s, e_Mo_comes_m_placeNotion, show Mo_comes_m_placeNotion_2 24 0 D3 E = _ from u4, B0s, e_Mo_comes_m_placeBears, show Mo_comes_m_placeBears_2 24 0 D4 E = _ from u5, B0s, e_Mo_comes_m_tieOne, show Mo_comes_m_tieOne_2 20 0 D5 E = _ from u6, B0s, e_Mo_comes_m_tieTwo, show Mo_comes_m_tieTwo_2 20 0 D6 E = _ from u7, B0s, e_Mo_comes_m_tieTraits, show Mo_comes_m_tieTraits_2 20 0 D7 E = _ from u8, B0s, e_Mo_comes_m_knows, show Mo_comes_m_knows_2 6 0 D8 E = _ from u9, B0s, e_Mo_comes_m_laughsAt, show Mo_comes_m_laughsAt_2 6 0 D9 E = _ from u10, B0s, e_Mo_comes_m_weight, show Mo_comes_m_weight_2 24 0 D10 E = _ from u11, B0s]
    exact u12.trans (u13.trans u14)
  · exact (((((((((((((((((k1.sub (by decide)).tr (k2.sub (by decide))).tr (k3.sub (by decide))).tr (k4.sub (by decide))).tr (k5.sub (by decide))).tr (k6.sub (by decide))).tr (k7.sub (by decide))).tr (k8.sub (by decide))).tr (k9.sub (by decide))).tr (k10.sub (by decide))).tr (k11.sub (by decide))).tr (k12.sub (by decide))).tr (k13.sub (by decide))).tr (k14.sub (by decide))).set (by decide) _ _ _).set (by decide) _ _ _).set (by decide) _ _ _).set (by decide) _ _ _
  · simp only [List.mem_cons, List.not_mem_nil, or_false, not_or] at hi
    rw [dsA, if_neg hi.2.2.2, dsA, if_neg hi.2.2.1, dsA, if_neg hi.2.1, dsA, if_neg hi.1, k14.c (by decide), k13.c (by decide), k12.c (by decide), k11.c (by decide), k10.c (by decide), k9.c (by decide), k8.c (by decide), k7.c (by decide), k6.c (by decide), k5.c (by decide), k4.c (by decide), k3.c (by decide), k2.c (by decide), k1.c (by decide)]
  · simp (disch := decide) only [dsA, sNe, if_true, if_false, and_self]
  · rw [dsN (by decide), dsN (by decide), dsN (by decide), dsN (by decide), dsN (by decide), dsN (by decide), dsN (by decide), dsN (by decide), k14.c (by decide), k14.c (by decide), k13.c (by decide), k13.c (by decide), (c12 i hi).1, (c12 i hi).2, if_pos (by omega), if_pos (by omega)]
    exact ⟨rfl, rfl⟩
  · rw [dsN (by decide), dsN (by decide), dsN (by decide), dsN (by decide), k14.c (by decide), c13 i hi, if_pos (by omega)]
  · rw [dsN (by decide), dsN (by decide), dsN (by decide), dsN (by decide), c14 i hi, if_pos (by omega)]
  · rw [dsN (by decide), dsN (by decide), dsN (by decide), dsN (by decide), k14.c (by decide), k13.c (by decide), k12.c (by decide), k11.c (by decide), k10.c (by decide), k9.c (by decide), k8.c (by decide), k7.c (by decide), k6.c (by decide), k5.c (by decide), k4.c (by decide), k3.c (by decide), k2.c (by decide), c1 i hi, if_pos (by omega)]
  · rw [dsN (by decide), dsN (by decide), dsN (by decide), dsN (by decide), k14.c (by decide), k13.c (by decide), k12.c (by decide), k11.c (by decide), k10.c (by decide), k9.c (by decide), k8.c (by decide), k7.c (by decide), k6.c (by decide), k5.c (by decide), k4.c (by decide), k3.c (by decide), c2 i hi, if_pos (by omega), k1.c (by decide)]
  · rw [dsN (by decide), dsN (by decide), dsN (by decide), dsN (by decide), k14.c (by decide), k13.c (by decide), k12.c (by decide), k11.c (by decide), k10.c (by decide), k9.c (by decide), k8.c (by decide), k7.c (by decide), k6.c (by decide), k5.c (by decide), k4.c (by decide), c3 i hi, if_pos (by omega), k2.c (by decide), k1.c (by decide)]
  · rw [dsN (by decide), dsN (by decide), dsN (by decide), dsN (by decide), k14.c (by decide), k13.c (by decide), k12.c (by decide), k11.c (by decide), k10.c (by decide), k9.c (by decide), k8.c (by decide), k7.c (by decide), k6.c (by decide), k5.c (by decide), c4 i hi, if_pos (by omega), k3.c (by decide), k2.c (by decide), k1.c (by decide)]
  · rw [dsN (by decide), dsN (by decide), dsN (by decide), dsN (by decide), k14.c (by decide), k13.c (by decide), k12.c (by decide), k11.c (by decide), k10.c (by decide), k9.c (by decide), k8.c (by decide), k7.c (by decide), k6.c (by decide), c5 i hi, if_pos (by omega), k4.c (by decide), k3.c (by decide), k2.c (by decide), k1.c (by decide)]
  · rw [dsN (by decide), dsN (by decide), dsN (by decide), dsN (by decide), k14.c (by decide), k13.c (by decide), k12.c (by decide), k11.c (by decide), k10.c (by decide), k9.c (by decide), k8.c (by decide), k7.c (by decide), c6 i hi, if_pos (by omega), k5.c (by decide), k4.c (by decide), k3.c (by decide), k2.c (by decide), k1.c (by decide)]
  · rw [dsN (by decide), dsN (by decide), dsN (by decide), dsN (by decide), k14.c (by decide), k13.c (by decide), k12.c (by decide), k11.c (by decide), k10.c (by decide), k9.c (by decide), k8.c (by decide), c7 i hi, if_pos (by omega), k6.c (by decide), k5.c (by decide), k4.c (by decide), k3.c (by decide), k2.c (by decide), k1.c (by decide)]
  · rw [dsN (by decide), dsN (by decide), dsN (by decide), dsN (by decide), k14.c (by decide), k13.c (by decide), k12.c (by decide), k11.c (by decide), k10.c (by decide), k9.c (by decide), c8 i hi, if_pos (by omega), k7.c (by decide), k6.c (by decide), k5.c (by decide), k4.c (by decide), k3.c (by decide), k2.c (by decide), k1.c (by decide)]
  · rw [dsN (by decide), dsN (by decide), dsN (by decide), dsN (by decide), k14.c (by decide), k13.c (by decide), k12.c (by decide), k11.c (by decide), k10.c (by decide), c9 i hi, if_pos (by omega), k8.c (by decide), k7.c (by decide), k6.c (by decide), k5.c (by decide), k4.c (by decide), k3.c (by decide), k2.c (by decide), k1.c (by decide)]
  · rw [dsN (by decide), dsN (by decide), dsN (by decide), dsN (by decide), k14.c (by decide), k13.c (by decide), k12.c (by decide), k11.c (by decide), c10 i hi, if_pos (by omega), k9.c (by decide), k8.c (by decide), k7.c (by decide), k6.c (by decide), k5.c (by decide), k4.c (by decide), k3.c (by decide), k2.c (by decide), k1.c (by decide)]
  · rw [dsN (by decide), dsN (by decide), dsN (by decide), dsN (by decide), k14.c (by decide), k13.c (by decide), k12.c (by decide), c11 i hi, if_pos (by omega), k10.c (by decide), k9.c (by decide), k8.c (by decide), k7.c (by decide), k6.c (by decide), k5.c (by decide), k4.c (by decide), k3.c (by decide), k2.c (by decide), k1.c (by decide)]
theorem X_copyFrom (D : pD) (E : pDL) (h0 : ∀ g, g < 4 → D 7 0 (64 * g) = 0) : ∃ D', Bk_copyFrom_draft D E = some (none, D', E) ∧ Ko [4, 5, 6, 7, 8, 9, 10, 11, 12, 13, 14, 15, 16] D D' ∧ GS D' ∧ (∀ i, i < 5 → D' 4 0 i = D 19 0 i) ∧ (∀ i, i < 5 → D' 5 0 i = D 20 0 i) ∧ (∀ i, i < 24 → D' 6 0 i = D 21 0 i) ∧ (∀ i, i < 12 → D' 8 0 i = D 23 0 i) ∧ (∀ i, i < 20 → D' 9 0 i = D 24 0 i) ∧ (∀ i, i < 24 → D' 10 0 i = D 25 0 i) ∧ (∀ i, i < 24 → D' 11 0 i = D 26 0 i) ∧ (∀ i, i < 20 → D' 12 0 i = D 27 0 i) ∧ (∀ i, i < 20 → D' 13 0 i = D 28 0 i) ∧ (∀ i, i < 20 → D' 14 0 i = D 29 0 i) ∧ (∀ i, i < 6 → D' 15 0 i = D 30 0 i) ∧ (∀ i, i < 6 → D' 16 0 i = D 31 0 i) := by
  generalize hG : dcpy (dcpy (dcpy D 19 0 4 0 5) 20 0 5 0 5) 21 0 6 0 24 = G
  obtain ⟨G', g1, g2, g3⟩ := Bk_sumGroups_spec G E (fun g hg => by
    rw [← hG]
    simp (disch := decide) only [dcN]
    exact h0 g hg)
  have kG : Ko [7] G G' := g1.ko
  refine ⟨dcpy (dcpy (dcpy (dcpy (dcpy (dcpy (dcpy (dcpy (dcpy G' 23 0 8 0 12) 24 0 9 0 20) 25 0 10 0 24) 26 0 11 0 24) 27 0 12 0 20) 28 0 13 0 20) 29 0 14 0 20) 30 0 15 0 6) 31 0 16 0 6, ?_, ?_, ?_, fun i hi => ?_, fun i hi => ?_, fun i hi => ?_, fun i hi => ?_, fun i hi => ?_, fun i hi => ?_, fun i hi => ?_, fun i hi => ?_, fun i hi => ?_, fun i hi => ?_, fun i hi => ?_, fun i hi => ?_⟩
  · rw [e_Bk_copyFrom_draft, if_neg (by decide), if_neg (by decide)]
    rw [show (0 : Int32).toNatClampNeg = 0 from rfl, show (nI 5).toNatClampNeg = 5 from rfl, hG, g3, B0s]
  · refine Ko.cpy (Ko.cpy (Ko.cpy (Ko.cpy (Ko.cpy (Ko.cpy (Ko.cpy (Ko.cpy (Ko.cpy (Ko.tr ?_ (kG.sub (by decide))) (by decide) _ _ _ _) (by decide) _ _ _ _) (by decide) _ _ _ _) (by decide) _ _ _ _) (by decide) _ _ _ _) (by decide) _ _ _ _) (by decide) _ _ _ _) (by decide) _ _ _ _) (by decide) _ _ _ _
    rw [← hG]
    exact Ko.cpy (Ko.cpy (Ko.cpy Ko.rf (by decide) _ _ _ _) (by decide) _ _ _ _) (by decide) _ _ _ _
  · unfold GS
    simp (disch := decide) only [dcN]
    exact g2
  · simp (disch := decide) only [dcN]
    rw [kG.c (by decide), ← hG]
    simp (disch := decide) only [dcN, dcE]
    rw [cpy_n hi]
  · simp (disch := decide) only [dcN]
    rw [kG.c (by decide), ← hG]
    simp (disch := decide) only [dcN, dcE]
    rw [cpy_n hi]
  · simp (disch := decide) only [dcN]
    rw [kG.c (by decide), ← hG]
    simp (disch := decide) only [dcN, dcE]
    rw [cpy_n hi]
  · simp (disch := decide) only [dcN, dcE]
    rw [cpy_n hi, kG.c (by decide), ← hG]
    simp (disch := decide) only [dcN]
  · simp (disch := decide) only [dcN, dcE]
    rw [cpy_n hi, kG.c (by decide), ← hG]
    simp (disch := decide) only [dcN]
  · simp (disch := decide) only [dcN, dcE]
    rw [cpy_n hi, kG.c (by decide), ← hG]
    simp (disch := decide) only [dcN]
  · simp (disch := decide) only [dcN, dcE]
    rw [cpy_n hi, kG.c (by decide), ← hG]
    simp (disch := decide) only [dcN]
  · simp (disch := decide) only [dcN, dcE]
    rw [cpy_n hi, kG.c (by decide), ← hG]
    simp (disch := decide) only [dcN]
  · simp (disch := decide) only [dcN, dcE]
    rw [cpy_n hi, kG.c (by decide), ← hG]
    simp (disch := decide) only [dcN]
  · simp (disch := decide) only [dcN, dcE]
    rw [cpy_n hi, kG.c (by decide), ← hG]
    simp (disch := decide) only [dcN]
  · simp (disch := decide) only [dcN, dcE]
    rw [cpy_n hi, kG.c (by decide), ← hG]
    simp (disch := decide) only [dcN]
  · simp (disch := decide) only [dcN, dcE]
    rw [cpy_n hi, kG.c (by decide), ← hG]
    simp (disch := decide) only [dcN]
theorem xb_50 {E : pDL} {j : Int32} : ∀ (m t : Nat) (D : pD), t + m = 4 → ∃ D', Hb_book_50 j (nI t) D E = (pB0 (Fo_clear D' E) fun D1 E1 => pB0 (Ye_clear D1 E1) fun D2 E2 => pB0 (La_clear D2 E2) fun D3 E3 => some (some (.inl j), D3, E3)) ∧ Ko [49] D D' ∧ ∀ i, i < 4 → D' 49 0 i = (if t ≤ i then 0 else D 49 0 i)
  | 0, t, D, ht => by
    refine ⟨D, ?_, Ko.rf, fun i hi => by rw [if_neg (by omega)]⟩
    rw [e_Hb_book_50, if_pos (show (4 : Int32) ≤ nI t from nI_le (a := 4) (by omega) (by omega))]
  | m + 1, t, D, ht => by
    obtain ⟨D', a1, a2, a3⟩ := xb_50 (E := E) (j := j) m (t + 1) (dset D 49 0 t 0) (by omega)
    refine ⟨D', ?_, (Ko.rf.set (by decide) _ _ _).tr a2, fun i hi => ?_⟩
    · rw [e_Hb_book_50, if_neg (show ¬ (4 : Int32) ≤ nI t from nI_ge (b := 4) (by omega) (by omega)), if_neg (iB (by omega) (by omega)), iC (by omega), nI1]
      exact a1
    · rw [a3 i hi, dsA]
      by_cases e : i = t
      · rw [if_neg (by omega), if_pos e, if_pos (by omega)]
      · by_cases z : t + 1 ≤ i
        · rw [if_pos z, if_pos (by omega)]
        · rw [if_neg z, if_neg e, if_neg (by omega)]
theorem X_clears (j : Int32) (D : pD) (E : pDL) : ∃ D', (pB0 (Rn_clear D E) fun D3 E3 => Hb_book_50 j 0 D3 E3) = some (some (.inl j), D', E) ∧ Ko [43, 44, 45, 46, 47, 49, 58, 59, 65] D D' ∧ (∀ i, i < 24 → D' 43 0 i = -1 ∧ D' 44 0 i = -1 ∧ D' 45 0 i = -1 ∧ D' 46 0 i = -1 ∧ D' 47 0 i = 0) ∧ (∀ i, i < 4 → D' 49 0 i = 0) ∧ (∀ i, i < 1920 → D' 58 0 i = 0) ∧ D' 59 0 6 = 0 ∧ D' 65 0 12 = 0 ∧ D' 65 0 13 = 0 ∧ D' 65 0 11 = 0 := by
  obtain ⟨D1, u1, k1, c1⟩ := fi_kinds (E := E) (v := -1) 24 0 D rfl
  obtain ⟨D2, u2, k2, c2⟩ := fi_firsts (E := E) (v := -1) 24 0 D1 rfl
  obtain ⟨D3, u3, k3, c3⟩ := fi_seconds (E := E) (v := -1) 24 0 D2 rfl
  obtain ⟨D4, u4, k4, c4⟩ := fi_thirds (E := E) (v := -1) 24 0 D3 rfl
  obtain ⟨D5, u5, k5, c5⟩ := fi_notes (E := E) (v := 0) 24 0 D4 rfl
  obtain ⟨D6, u6, k6, c6⟩ := xb_50 (E := E) (j := j) 4 0 D5 rfl
  obtain ⟨D7, u7, k7, c7⟩ := fi_given (E := E) (v := 0) 1920 0 D6 rfl
  refine ⟨dset (dset (dset (dset D7 59 0 6 0) 65 0 12 0) 65 0 13 0) 65 0 11 0, ?_, ?_, fun i hi => ?_, fun i hi => ?_, fun i hi => ?_, ?_, ?_, ?_, ?_⟩
  · rw [e_Rn_clear, e_Ja_fillI_now_kinds, show Ja_fillI_now_kinds_5 (-1) 0 (nI 24) D E = _ from u1, B0s, e_Ja_fillI_now_firsts, show Ja_fillI_now_firsts_5 (-1) 0 (nI 24) D1 E = _ from u2, B0s, e_Ja_fillI_now_seconds, show Ja_fillI_now_seconds_5 (-1) 0 (nI 24) D2 E = _ from u3, B0s, e_Ja_fillI_now_thirds, show Ja_fillI_now_thirds_5 (-1) 0 (nI 24) D3 E = _ from u4, B0s, e_Ja_fillI_now_notes, show Ja_fillI_now_notes_5 0 0 (nI 24) D4 E = _ from u5, B0s, B0s, show Hb_book_50 j 0 D5 E = _ from u6, e_Fo_clear, e_Ja_fillB_four_given, show Ja_fillB_four_given_5 0 0 (nI 1920) D6 E = _ from u7, B0s, B0s, e_Ye_clear, B0s, e_La_clear, B0s]
  · exact (((((((((((k1.sub (by decide)).tr (k2.sub (by decide))).tr (k3.sub (by decide))).tr (k4.sub (by decide))).tr (k5.sub (by decide))).tr (k6.sub (by decide))).tr (k7.sub (by decide))).set (by decide) _ _ _).set (by decide) _ _ _).set (by decide) _ _ _).set (by decide) _ _ _)
  · simp (disch := decide) only [dsN, k7.c, k6.c]
    refine ⟨?_, ?_, ?_, ?_, ?_⟩
    · rw [k5.c (by decide), k4.c (by decide), k3.c (by decide), k2.c (by decide), c1 i hi, if_pos (by omega)]
    · rw [k5.c (by decide), k4.c (by decide), k3.c (by decide), c2 i hi, if_pos (by omega)]
    · rw [k5.c (by decide), k4.c (by decide), c3 i hi, if_pos (by omega)]
    · rw [k5.c (by decide), c4 i hi, if_pos (by omega)]
    · rw [c5 i hi, if_pos (by omega)]
  · rw [dsN (by decide), dsN (by decide), dsN (by decide), dsN (by decide), k7.c (by decide), c6 i hi, if_pos (by omega)]
  · rw [dsN (by decide), dsN (by decide), dsN (by decide), dsN (by decide), c7 i hi, if_pos (by omega)]
    decide
  · simp (disch := decide) only [dsN, dsA, if_true]
  · simp (disch := decide) only [dsN, dsA, sNe, if_true, if_false]
  · simp (disch := decide) only [dsN, dsA, sNe, if_true, if_false]
  · simp (disch := decide) only [dsN, dsA, sNe, if_true, if_false]
