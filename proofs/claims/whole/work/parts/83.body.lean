/-! THE TEXT: the bodies of the clauses -/
section BODY
variable {T : Nat → Int32} {n : Nat} {E : pDL} {D0 : pD}
theorem nI_add' (a b : Nat) : (nI a : Int32) + nI b = nI (a + b) := nI_add a b
theorem nI1 (a : Nat) : (nI a : Int32) + 1 = nI (a + 1) := nI_add a 1
theorem B_notion {DX DM : pD} {EM : pDL} {q c0 c1 c2 c3 c4 : Nat} (hn : n ≤ 1200) (h8 : ∀ i, i < n → (T i).toInt8.toInt32 = T i) (h : Rd T n D0 DX DM EM c0 c1 c2 c3 c4 c0 c1 c4) (h9 : DX 17 0 9 = nI q) (hq : q ≤ n) (h6 : DM 100 0 6 = nI q) (hc : c0 < 12) : OutB T n D0 E q (Re_readTraits_nn_draft_notionTraits 0 DX E) (Mo_readClause_16 0 DM EM) := by
  have hM : DM 102 0 (10 + 0) = nI c0 := by
    obtain ⟨b0, b1, b2, b3, b4⟩ := h.2.2.1.1.2.2
    exact b0
  have hM' : DM 102 0 10 = nI c0 := hM
  rcases both_nn (E := E) hn h8 h.1 h9 hq h.2.1 h6 hc hM h.2.2.2.1 with ⟨s, e, DX1, DM1, EM1, l1, l2, l3, x1, kx, xb, x9, x13, m1, km, m100, mE, nr, ⟨s2, e2, d2, t2, lx2⟩⟩ | ⟨f, s, DX1, DM1, EM1, x1, x2, m1, km, m100, m8, m9⟩
  · have R1 := h.nn hc kx xb x13 km m100 mE nr
    have hle := t2.le
    rcases both_set (E := E) hn h8 R1.1 x9 R1.2.1 t2 lx2 with ⟨v, DX2, DM2, EM2, x2, x3, x4, -, -, m2, m3, m4, lx3⟩ | ⟨f, DX2, DM2, x2, x3, -, m2, m3⟩
    · left
      have R2 := R1.g x3 m3 (by decide) (by decide)
      have y0 : DX2 19 0 0 = nI c0 := by
        obtain ⟨b0, b1, b2, b3, b4⟩ := R2.2.2.1.1.2.1
        exact b0
      have y1 : DM2 102 0 10 = nI c0 := by
        obtain ⟨b0, b1, b2, b3, b4⟩ := R2.2.2.1.1.2.2
        exact b0
      refine ⟨dset (dset DX2 23 0 c0 v) 19 0 0 (nI (c0 + 1)), dset (dset DM2 105 0 (12 + c0) v) 102 0 10 (nI (c0 + 1)), EM2, e2, c0 + 1, c1, c2, c3, c4, ?_, ?_, ⟨R2.upd ((Ko.rf.set (by decide) _ _ _).set (by decide) _ _ _) ((Ko.rf.set (by decide) _ _ _).set (by decide) _ _ _) (R2.2.2.1.notion hc v) ((R2.2.2.2.2.2.2.2.set _ (by decide) (Nat.le_add_right _ _)).set _ (by decide) (by decide)), ?_, by omega, ?_⟩, by omega⟩
      · rw [e_Re_readTraits_nn_draft_notionTraits, x1, B1s, if_neg (by decide), x2, B1s, if_neg (by decide), if_neg (by decide), show (0 : Int32).toNatClampNeg = 0 from rfl, y0, if_neg (iB (by omega) (by omega)), if_neg (by decide), if_neg (by decide), iC (by omega), x4, nI1]
      · rw [e_Mo_readClause_16, if_pos (by decide), m1, B1s, if_neg (by decide), m2, B1s, if_neg (by decide), hM', show (12 : Int32) = nI 12 from rfl, nI_add', if_neg (iB (by omega) (by omega)), iC (by omega), m4, y1, nI1]
      · simp (disch := decide) only [dsN]
        exact x3.2.1
      · exact (lx3.fr (Ko.rf.set (ks := [102, 105]) (by decide) _ _ _) (by decide)).fr (Ko.rf.set (ks := [102, 105]) (by decide) _ _ _) (by decide)
    · right
      refine ⟨DX2, DM2, EM1, ?_, ?_, Fl.of R1.2.2.2.2.2.2.1 R1.2.2.2.2.2.2.2 x3 m3⟩
      · rw [e_Re_readTraits_nn_draft_notionTraits, x1, B1s, if_neg (by decide), x2, B1s, if_pos rfl]
      · rw [e_Mo_readClause_16, if_pos (by decide), m1, B1s, if_neg (by decide), m2, B1s, if_pos rfl]
  · right
    refine ⟨DX1, DM1, EM1, ?_, ?_, Fl.name h.2.2.2.2.2.2.1 h.2.2.2.2.2.2.2 x2 km m100 m8 m9⟩
    · rw [e_Re_readTraits_nn_draft_notionTraits, x1, B1s, if_pos rfl]
    · rw [e_Mo_readClause_16, if_pos (by decide), m1, B1s, if_pos rfl]
theorem B_word {DX DM : pD} {EM : pDL} {q c0 c1 c2 c3 c4 : Nat} (hn : n ≤ 1200) (h8 : ∀ i, i < n → (T i).toInt8.toInt32 = T i) (h : Rd T n D0 DX DM EM c0 c1 c2 c3 c4 c0 c1 c4) (h9 : DX 17 0 9 = nI q) (hq : q ≤ n) (h6 : DM 100 0 6 = nI q) (hc : c1 < 20) : OutB T n D0 E q (Re_readTraits_nw_draft_wordTraits 1 DX E) (Mo_readClause_16 1 DM EM) := by
  have hM : DM 102 0 (10 + 1) = nI c1 := by
    obtain ⟨b0, b1, b2, b3, b4⟩ := h.2.2.1.1.2.2
    exact b1
  have hM' : DM 102 0 11 = nI c1 := hM
  rcases both_nw (E := E) hn h8 h.1 h9 hq h.2.1 h6 hc hM h.2.2.2.2.1 with ⟨s, e, DX1, DM1, EM1, l1, l2, l3, x1, kx, xb, x9, x13, m1, km, m100, mE, nr, ⟨s2, e2, d2, t2, lx2⟩⟩ | ⟨f, s, DX1, DM1, EM1, x1, x2, m1, km, m100, m8, m9⟩
  · have R1 := h.nw hc kx xb x13 km m100 mE nr
    have hle := t2.le
    rcases both_set (E := E) hn h8 R1.1 x9 R1.2.1 t2 lx2 with ⟨v, DX2, DM2, EM2, x2, x3, x4, -, -, m2, m3, m4, lx3⟩ | ⟨f, DX2, DM2, x2, x3, -, m2, m3⟩
    · left
      have R2 := R1.g x3 m3 (by decide) (by decide)
      have y0 : DX2 19 0 1 = nI c1 := by
        obtain ⟨b0, b1, b2, b3, b4⟩ := R2.2.2.1.1.2.1
        exact b1
      have y1 : DM2 102 0 11 = nI c1 := by
        obtain ⟨b0, b1, b2, b3, b4⟩ := R2.2.2.1.1.2.2
        exact b1
      refine ⟨dset (dset DX2 24 0 c1 v) 19 0 1 (nI (c1 + 1)), dset (dset DM2 106 0 (20 + c1) v) 102 0 11 (nI (c1 + 1)), EM2, e2, c0, c1 + 1, c2, c3, c4, ?_, ?_, ⟨R2.upd ((Ko.rf.set (by decide) _ _ _).set (by decide) _ _ _) ((Ko.rf.set (by decide) _ _ _).set (by decide) _ _ _) (R2.2.2.1.word hc v) ((R2.2.2.2.2.2.2.2.set _ (by decide) (Nat.le_add_right _ _)).set _ (by decide) (by decide)), ?_, by omega, ?_⟩, by omega⟩
      · rw [e_Re_readTraits_nw_draft_wordTraits, x1, B1s, if_neg (by decide), x2, B1s, if_neg (by decide), if_neg (by decide), show (1 : Int32).toNatClampNeg = 1 from rfl, y0, if_neg (iB (by omega) (by omega)), if_neg (by decide), if_neg (by decide), iC (by omega), x4, nI1]
      · rw [e_Mo_readClause_16, if_neg (by decide), if_pos (by decide), m1, B1s, if_neg (by decide), m2, B1s, if_neg (by decide), hM', show (20 : Int32) = nI 20 from rfl, nI_add', if_neg (iB (by omega) (by omega)), iC (by omega), m4, y1, nI1]
      · simp (disch := decide) only [dsN]
        exact x3.2.1
      · exact (lx3.fr (Ko.rf.set (ks := [102, 106]) (by decide) _ _ _) (by decide)).fr (Ko.rf.set (ks := [102, 106]) (by decide) _ _ _) (by decide)
    · right
      refine ⟨DX2, DM2, EM1, ?_, ?_, Fl.of R1.2.2.2.2.2.2.1 R1.2.2.2.2.2.2.2 x3 m3⟩
      · rw [e_Re_readTraits_nw_draft_wordTraits, x1, B1s, if_neg (by decide), x2, B1s, if_pos rfl]
      · rw [e_Mo_readClause_16, if_neg (by decide), if_pos (by decide), m1, B1s, if_neg (by decide), m2, B1s, if_pos rfl]
  · right
    refine ⟨DX1, DM1, EM1, ?_, ?_, Fl.name h.2.2.2.2.2.2.1 h.2.2.2.2.2.2.2 x2 km m100 m8 m9⟩
    · rw [e_Re_readTraits_nw_draft_wordTraits, x1, B1s, if_pos rfl]
    · rw [e_Mo_readClause_16, if_neg (by decide), if_pos (by decide), m1, B1s, if_pos rfl]
end BODY
