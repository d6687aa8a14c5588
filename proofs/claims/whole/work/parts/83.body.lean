/-! THE TEXT: the bodies of the clauses -/
section BODY
variable {T : Nat → Int32} {n : Nat} {E : pDL} {D0 : pD}
theorem nI_add' (a b : Nat) : (nI a : Int32) + nI b = nI (a + b) := nI_add a b
theorem iB' {k N : Nat} (h : k < N) (hN : N < 2147483648) : ¬ (nI k < 0 ∨ N ≤ k) := fun z => iB h hN (by rw [iC (by omega)]; exact z)
theorem nI1 (a : Nat) : (nI a : Int32) + 1 = nI (a + 1) := nI_add a 1
theorem B_notion {DX DM : pD} {EM : pDL} {q c0 c1 c2 c3 c4 : Nat} (hn : n ≤ 1200) (h8 : ∀ i, i < n → (T i).toInt8.toInt32 = T i) (h : Rd T n D0 DX DM EM c0 c1 c2 c3 c4 c0 c1 c4) (h9 : DX 17 0 9 = nI q) (hq : q ≤ n) (h6 : DM 100 0 6 = nI q) (hc : c0 < 12) : OutB T n D0 E q (Re_readTraits_nn_draft_notionTraits 0 DX E) (Mo_readClause_16 0 DM EM) := by
  have hM : DM 102 0 (10 + 0) = nI c0 := by
    obtain ⟨b0, b1, b2, b3, b4⟩ := h.2.2.1.1.2.2
    exact b0
  have hM' : DM 102 0 10 = nI c0 := hM
  rcases both_nn (E := E) hn h8 h.1 h9 hq h.2.1 h6 hc hM h.2.2.2.1 with ⟨s, e, DX1, DM1, EM1, l1, l2, l3, x1, kx, xb, x9, x13, m1, km, m100, mE, nr, ⟨s2, e2, d2, t2, lx2⟩⟩ | ⟨f, s, DX1, DM1, EM1, x1, x2, m1, km, m100, m8, m9⟩
  · have R1 := h.nn hc kx xb x13 km m100 mE nr
    have hle := t2.le
    rcases both_set (E := E) hn h8 R1.1 x9 R1.2.1 t2 lx2 with ⟨v, DX2, DM2, EM2, x2, x3, x4, -, -, m2, m3, m4, lx3⟩ | ⟨f, DX2, DM2, x2, x3, -, m2, m3⟩
    · left
      have R2 := R1.g x3 m3 (by decide) (by decide)
      have y0 : DX2 19 0 0 = nI c0 := by
        obtain ⟨b0, b1, b2, b3, b4⟩ := R2.2.2.1.1.2.1
        exact b0
      have y1 : DM2 102 0 10 = nI c0 := by
        obtain ⟨b0, b1, b2, b3, b4⟩ := R2.2.2.1.1.2.2
        exact b0
      refine ⟨dset (dset DX2 23 0 c0 v) 19 0 0 (nI (c0 + 1)), dset (dset DM2 105 0 (12 + c0) v) 102 0 10 (nI (c0 + 1)), EM2, e2, c0 + 1, c1, c2, c3, c4, ?_, ?_, ⟨R2.upd ((Ko.rf.set (by decide) _ _ _).set (by decide) _ _ _) ((Ko.rf.set (by decide) _ _ _).set (by decide) _ _ _) (R2.2.2.1.notion hc v) ((R2.2.2.2.2.2.2.2.set _ (by decide) (Nat.le_add_right _ _)).set _ (by decide) (by decide)), ?_, by omega, ?_⟩, by omega⟩
      · rw [e_Re_readTraits_nn_draft_notionTraits, x1, B1s, if_neg (by decide), x2, B1s, if_neg (by decide), if_neg (by decide), show (0 : Int32).toNatClampNeg = 0 from rfl, y0, if_neg (iB (by omega) (by omega)), if_neg (by decide), if_neg (by decide), iC (by omega), x4.1, nI1]
      · rw [e_Mo_readClause_16, if_pos (by decide), m1, B1s, if_neg (by decide), m2, B1s, if_neg (by decide), hM', show (12 : Int32) = nI 12 from rfl, nI_add', if_neg (iB (by omega) (by omega)), iC (by omega), m4, y1, nI1]
      · simp (disch := decide) only [dsN]
        exact x3.2.1
      · exact (lx3.fr (Ko.rf.set (ks := [102, 105]) (by decide) _ _ _) (by decide)).fr (Ko.rf.set (ks := [102, 105]) (by decide) _ _ _) (by decide)
    · right
      refine ⟨DX2, DM2, EM1, ?_, ?_, Fl.of R1.2.2.2.2.2.2.1 R1.2.2.2.2.2.2.2 x3 m3⟩
      · rw [e_Re_readTraits_nn_draft_notionTraits, x1, B1s, if_neg (by decide), x2, B1s, if_pos rfl]
      · rw [e_Mo_readClause_16, if_pos (by decide), m1, B1s, if_neg (by decide), m2, B1s, if_pos rfl]
  · right
    refine ⟨DX1, DM1, EM1, ?_, ?_, Fl.name h.2.2.2.2.2.2.1 h.2.2.2.2.2.2.2 x2 km m100 m8 m9⟩
    · rw [e_Re_readTraits_nn_draft_notionTraits, x1, B1s, if_pos rfl]
    · rw [e_Mo_readClause_16, if_pos (by decide), m1, B1s, if_pos rfl]
theorem B_word {DX DM : pD} {EM : pDL} {q c0 c1 c2 c3 c4 : Nat} (hn : n ≤ 1200) (h8 : ∀ i, i < n → (T i).toInt8.toInt32 = T i) (h : Rd T n D0 DX DM EM c0 c1 c2 c3 c4 c0 c1 c4) (h9 : DX 17 0 9 = nI q) (hq : q ≤ n) (h6 : DM 100 0 6 = nI q) (hc : c1 < 20) : OutB T n D0 E q (Re_readTraits_nw_draft_wordTraits 1 DX E) (Mo_readClause_16 1 DM EM) := by
  have hM : DM 102 0 (10 + 1) = nI c1 := by
    obtain ⟨b0, b1, b2, b3, b4⟩ := h.2.2.1.1.2.2
    exact b1
  have hM' : DM 102 0 11 = nI c1 := hM
  rcases both_nw (E := E) hn h8 h.1 h9 hq h.2.1 h6 hc hM h.2.2.2.2.1 with ⟨s, e, DX1, DM1, EM1, l1, l2, l3, x1, kx, xb, x9, x13, m1, km, m100, mE, nr, ⟨s2, e2, d2, t2, lx2⟩⟩ | ⟨f, s, DX1, DM1, EM1, x1, x2, m1, km, m100, m8, m9⟩
  · have R1 := h.nw hc kx xb x13 km m100 mE nr
    have hle := t2.le
    rcases both_set (E := E) hn h8 R1.1 x9 R1.2.1 t2 lx2 with ⟨v, DX2, DM2, EM2, x2, x3, x4, -, -, m2, m3, m4, lx3⟩ | ⟨f, DX2, DM2, x2, x3, -, m2, m3⟩
    · left
      have R2 := R1.g x3 m3 (by decide) (by decide)
      have y0 : DX2 19 0 1 = nI c1 := by
        obtain ⟨b0, b1, b2, b3, b4⟩ := R2.2.2.1.1.2.1
        exact b1
      have y1 : DM2 102 0 11 = nI c1 := by
        obtain ⟨b0, b1, b2, b3, b4⟩ := R2.2.2.1.1.2.2
        exact b1
      refine ⟨dset (dset DX2 24 0 c1 v) 19 0 1 (nI (c1 + 1)), dset (dset DM2 106 0 (20 + c1) v) 102 0 11 (nI (c1 + 1)), EM2, e2, c0, c1 + 1, c2, c3, c4, ?_, ?_, ⟨R2.upd ((Ko.rf.set (by decide) _ _ _).set (by decide) _ _ _) ((Ko.rf.set (by decide) _ _ _).set (by decide) _ _ _) (R2.2.2.1.word hc v) ((R2.2.2.2.2.2.2.2.set _ (by decide) (Nat.le_add_right _ _)).set _ (by decide) (by decide)), ?_, by omega, ?_⟩, by omega⟩
      · rw [e_Re_readTraits_nw_draft_wordTraits, x1, B1s, if_neg (by decide), x2, B1s, if_neg (by decide), if_neg (by decide), show (1 : Int32).toNatClampNeg = 1 from rfl, y0, if_neg (iB (by omega) (by omega)), if_neg (by decide), if_neg (by decide), iC (by omega), x4.1, nI1]
      · rw [e_Mo_readClause_16, if_neg (by decide), if_pos (by decide), m1, B1s, if_neg (by decide), m2, B1s, if_neg (by decide), hM', show (20 : Int32) = nI 20 from rfl, nI_add', if_neg (iB (by omega) (by omega)), iC (by omega), m4, y1, nI1]
      · simp (disch := decide) only [dsN]
        exact x3.2.1
      · exact (lx3.fr (Ko.rf.set (ks := [102, 106]) (by decide) _ _ _) (by decide)).fr (Ko.rf.set (ks := [102, 106]) (by decide) _ _ _) (by decide)
    · right
      refine ⟨DX2, DM2, EM1, ?_, ?_, Fl.of R1.2.2.2.2.2.2.1 R1.2.2.2.2.2.2.2 x3 m3⟩
      · rw [e_Re_readTraits_nw_draft_wordTraits, x1, B1s, if_neg (by decide), x2, B1s, if_pos rfl]
      · rw [e_Mo_readClause_16, if_neg (by decide), if_pos (by decide), m1, B1s, if_neg (by decide), m2, B1s, if_pos rfl]
  · right
    refine ⟨DX1, DM1, EM1, ?_, ?_, Fl.name h.2.2.2.2.2.2.1 h.2.2.2.2.2.2.2 x2 km m100 m8 m9⟩
    · rw [e_Re_readTraits_nw_draft_wordTraits, x1, B1s, if_pos rfl]
    · rw [e_Mo_readClause_16, if_neg (by decide), if_pos (by decide), m1, B1s, if_pos rfl]
theorem PR0.j112 {DX DM : pD} {c0 c1 c2 c3 c4 i : Nat} (h : PR0 DX DM c0 c1 c2 c3 c4) (hi : 6 + c4 ≤ i) (v : Int32) : PR0 DX (dset DM 112 0 i v) c0 c1 c2 c3 c4 := by
  obtain ⟨hCn, hSt, hWt, h0, h1, h25, h2, h3, h4, hTd⟩ := h
  refine ⟨?_, ?_, ?_, ?_, ?_, h25, ?_, ?_, ?_, ?_⟩
  · simp (disch := decide) only [pCn, dsN]
    exact hCn
  · simp (disch := decide) only [pSt_, dsN]
    exact hSt
  · simp (disch := decide) only [pWt, dsN]
    exact hWt
  · simp (disch := decide) only [pR0, dsN]
    exact h0
  · simp (disch := decide) only [pR1', dsN]
    exact h1
  · simp (disch := decide) only [pR2, dsN]
    exact h2
  · simp (disch := decide) only [pR3, dsN]
    exact h3
  · intro t ht
    simp (disch := first | decide | omega) only [dsN, dsA, sNe, if_false]
    exact h4 t ht
  · simp (disch := decide) only [pTd, dsN]
    exact hTd
theorem PR0.j109 {DX DM : pD} {c0 c1 c2 c3 c4 i : Nat} (h : PR0 DX DM c0 c1 c2 c3 c4) (hi : 20 + c3 ≤ i) (v : Int32) : PR0 DX (dset DM 109 0 i v) c0 c1 c2 c3 c4 := by
  obtain ⟨hCn, hSt, hWt, h0, h1, h25, h2, h3, h4, hTd⟩ := h
  refine ⟨?_, ?_, ?_, ?_, ?_, h25, ?_, ?_, ?_, ?_⟩
  · simp (disch := decide) only [pCn, dsN]
    exact hCn
  · simp (disch := decide) only [pSt_, dsN]
    exact hSt
  · simp (disch := decide) only [pWt, dsN]
    exact hWt
  · simp (disch := decide) only [pR0, dsN]
    exact h0
  · simp (disch := decide) only [pR1', dsN]
    exact h1
  · simp (disch := decide) only [pR2, dsN]
    exact h2
  · intro t ht
    simp (disch := first | decide | omega) only [dsN, dsA, sNe, if_false]
    exact h3 t ht
  · simp (disch := decide) only [pR4, dsN]
    exact h4
  · simp (disch := decide) only [pTd, dsN]
    exact hTd
theorem PR0.j110 {DX DM : pD} {c0 c1 c2 c3 c4 i : Nat} (h : PR0 DX DM c0 c1 c2 c3 c4) (hi : 20 + c3 ≤ i) (v : Int32) : PR0 DX (dset DM 110 0 i v) c0 c1 c2 c3 c4 := by
  obtain ⟨hCn, hSt, hWt, h0, h1, h25, h2, h3, h4, hTd⟩ := h
  refine ⟨?_, ?_, ?_, ?_, ?_, h25, ?_, ?_, ?_, ?_⟩
  · simp (disch := decide) only [pCn, dsN]
    exact hCn
  · simp (disch := decide) only [pSt_, dsN]
    exact hSt
  · simp (disch := decide) only [pWt, dsN]
    exact hWt
  · simp (disch := decide) only [pR0, dsN]
    exact h0
  · simp (disch := decide) only [pR1', dsN]
    exact h1
  · simp (disch := decide) only [pR2, dsN]
    exact h2
  · intro t ht
    simp (disch := first | decide | omega) only [dsN, dsA, sNe, if_false]
    exact h3 t ht
  · simp (disch := decide) only [pR4, dsN]
    exact h4
  · simp (disch := decide) only [pTd, dsN]
    exact hTd
theorem xG.rf {D : pD} {e : Nat} (h : D 17 0 9 = nI e) : xG D D e [] := ⟨Ko.rf, h, fun _ _ _ => rfl⟩
theorem mG.rf {D : pD} {E : pDL} : mG D D E E [] := ⟨Ko.rf, fun _ _ _ => rfl, fun _ _ => rfl⟩
theorem B_hearer {DX DM : pD} {EM : pDL} {q c0 c1 c2 c3 c4 : Nat} (hn : n ≤ 1200) (h8 : ∀ i, i < n → (T i).toInt8.toInt32 = T i) (h : Rd T n D0 DX DM EM c0 c1 c2 c3 c4 c0 c1 c4) (h9 : DX 17 0 9 = nI q) (hq : q ≤ n) (h6 : DM 100 0 6 = nI q) (hc : c4 < 6) : OutB T n D0 E q (Re_readHearer DX E) (Mo_readHearer DM EM) := by
  have hM : DM 102 0 (10 + 4) = nI c4 := by
    obtain ⟨b0, b1, b2, b3, b4⟩ := h.2.2.1.1.2.2
    exact b4
  have hM' : DM 102 0 14 = nI c4 := hM
  have e6 : (6 : Int32) + nI c4 = nI (6 + c4) := nI_add' 6 c4
  rcases both_nh (E := E) hn h8 h.1 h9 hq h.2.1 h6 hc hM h.2.2.2.2.2.1 with ⟨s, e, DX1, DM1, EM1, l1, l2, l3, x1, kx, xb, x9, x13, m1, km, m100, mE, nr, ⟨s2, e2, d2, t2, lx2⟩⟩ | ⟨f, s, DX1, DM1, EM1, x1, x2, m1, km, m100, m8, m9⟩
  · have R1 := h.nh hc kx xb x13 km m100 mE nr
    have hle := t2.le
    rcases both_set (E := E) hn h8 R1.1 x9 R1.2.1 t2 lx2 with ⟨v, DX2, DM2, EM2, x2, x3, x4, -, -, m2, m3, m4, lx3⟩ | ⟨f, DX2, DM2, x2, x3, -, m2, m3⟩
    · have R2 := R1.g x3 m3 (by decide) (by decide)
      have R3 := R2.upd Ko.rf (Ko.rf.set (k := 112) (by decide) 0 (6 + c4) v) (R2.2.2.1.j112 (Nat.le_refl _) v) (R2.2.2.2.2.2.2.2.set v (by decide) (Nat.le_add_right _ _))
      obtain ⟨s3, e3, d3, t3, lx4⟩ := lx3.fr (Ko.rf.set (ks := [112]) (k := 112) (by decide) 0 (6 + c4) v) (by decide)
      have hle3 := t3.le
      rcases both_set (E := E) hn h8 R3.1 x3.2.1 R3.2.1 t3 lx4 with ⟨w, DX3, DM3, EM3, x5, x6, x7, -, -, m5, m6, m7, lx5⟩ | ⟨f, DX3, DM3, x5, x6, -, m5, m6⟩
      · left
        have R4 := R3.g x6 m6 (by decide) (by decide)
        have y0 : DX3 19 0 4 = nI c4 := by
          obtain ⟨b0, b1, b2, b3, b4⟩ := R4.2.2.1.1.2.1
          exact b4
        have y1 : DM3 102 0 14 = nI c4 := by
          obtain ⟨b0, b1, b2, b3, b4⟩ := R4.2.2.1.1.2.2
          exact b4
        have y2 : dset DM3 112 0 (6 + c4) v = DM3 := by
          have : DM3 112 0 (6 + c4) = v := by rw [m6.1.c (by decide), dsA, if_pos rfl]
          rw [← this]
          exact dset_same _ _ _ _
        have pr := R4.2.2.1.hearer hc v w
        rw [y2] at pr
        refine ⟨dset (dset (dset DX3 30 0 c4 v) 31 0 c4 w) 19 0 4 (nI (c4 + 1)), dset (dset DM3 113 0 (6 + c4) w) 102 0 14 (nI (c4 + 1)), EM3, e3, c0, c1, c2, c3, c4 + 1, ?_, ?_, ⟨R4.upd (((Ko.rf.set (by decide) _ _ _).set (by decide) _ _ _).set (by decide) _ _ _) ((Ko.rf.set (by decide) _ _ _).set (by decide) _ _ _) pr ((R4.2.2.2.2.2.2.2.set _ (by decide) (Nat.le_add_right _ _)).set _ (by decide) (by decide)), ?_, by omega, ?_⟩, by omega⟩
        · rw [e_Re_readHearer, x1, B1s, if_neg (by decide), x2, B1s, if_neg (by decide), x5, B1s, if_neg (by decide), y0, if_neg (iB (by omega) (by omega)), if_neg (iB (by omega) (by omega)), iC (by omega), x4.1, x7.1, nI1]
        · rw [e_Mo_readHearer, m1, B1s, if_neg (by decide), m2, B1s, if_neg (by decide), hM', e6, if_neg (iB (by omega) (by omega)), iC (by omega), m4, m5, B1s, if_neg (by decide), if_neg (iB' (by omega) (by omega)), m7, y1, nI1]
        · simp (disch := decide) only [dsN]
          exact x6.2.1
        · exact (lx5.fr (Ko.rf.set (ks := [102, 113]) (by decide) _ _ _) (by decide)).fr (Ko.rf.set (ks := [102, 113]) (by decide) _ _ _) (by decide)
      · right
        refine ⟨DX3, DM3, EM2, ?_, ?_, Fl.of R3.2.2.2.2.2.2.1 R3.2.2.2.2.2.2.2 x6 m6⟩
        · rw [e_Re_readHearer, x1, B1s, if_neg (by decide), x2, B1s, if_neg (by decide), x5, B1s, if_pos rfl]
        · rw [e_Mo_readHearer, m1, B1s, if_neg (by decide), m2, B1s, if_neg (by decide), hM', e6, if_neg (iB (by omega) (by omega)), iC (by omega), m4, m5, B1s, if_pos rfl]
    · right
      refine ⟨DX2, DM2, EM1, ?_, ?_, Fl.of R1.2.2.2.2.2.2.1 R1.2.2.2.2.2.2.2 x3 m3⟩
      · rw [e_Re_readHearer, x1, B1s, if_neg (by decide), x2, B1s, if_pos rfl]
      · rw [e_Mo_readHearer, m1, B1s, if_neg (by decide), m2, B1s, if_pos rfl]
  · right
    refine ⟨DX1, DM1, EM1, ?_, ?_, Fl.name h.2.2.2.2.2.2.1 h.2.2.2.2.2.2.2 x2 km m100 m8 m9⟩
    · rw [e_Re_readHearer, x1, B1s, if_pos rfl]
    · rw [e_Mo_readHearer, m1, B1s, if_pos rfl]
theorem B_tie {DX DM : pD} {EM : pDL} {q c0 c1 c2 c3 c4 : Nat} (hn : n ≤ 1200) (h8 : ∀ i, i < n → (T i).toInt8.toInt32 = T i) (h : Rd T n D0 DX DM EM c0 c1 c2 c3 c4 c0 c1 c4) (h9 : DX 17 0 9 = nI q) (hq : q ≤ n) (h6 : DM 100 0 6 = nI q) (hc : c3 < 20) : OutB T n D0 E q (Re_readTie DX E) (Mo_readTie DM EM) := by
  have hM' : DM 102 0 13 = nI c3 := by
    obtain ⟨b0, b1, b2, b3, b4⟩ := h.2.2.1.1.2.2
    exact b3
  obtain ⟨n0, n1, n2, n3, n4⟩ := h.2.2.1.1.1
  have hX2 : DX 19 0 2 = nI c2 := by
    obtain ⟨b0, b1, b2, b3, b4⟩ := h.2.2.1.1.2.1
    exact b2
  have e20 : (20 : Int32) + nI c3 = nI (20 + c3) := nI_add' 20 c3
  have hfull : ¬ nI c3 = (20 : Int32) := fun z => by have := (iE (b := 20) (by omega) (by omega)).mp z; omega
  obtain ⟨DM1, EM1, m1, m2, ⟨s, e, c, t1, lx1⟩⟩ := M_next (E := EM) hn h8 h.2.1 h6 hq
  have R1 := h.g (xG.rf h9) m2 (by decide) (by decide)
  have hM2 : DM1 102 0 12 = nI c2 := by
    obtain ⟨b0, b1, b2, b3, b4⟩ := R1.2.2.1.1.2.2
    exact b2
  have hle := t1.le
  rcases both_num (E := E) (lo := 0) (H := c2) hn h8 R1.1 h9 R1.2.1 t1 lx1 (by omega) (by omega) with ⟨a, DX2, DM2, EM2, -, -, ha, -, -, x1, x2, x3, m3, m4, m5, lx2⟩ | ⟨f, DX2, DM2, -, x1, x2, m3, m4⟩
  · have R2 := R1.g x2 m4 (by decide) (by decide)
    have hX2' : DX 19 0 2 = nI c2 := hX2
    have R3 := R2.upd Ko.rf (Ko.rf.set (k := 109) (by decide) 0 (20 + c3) (nI a)) (R2.2.2.1.j109 (Nat.le_refl _) (nI a)) (R2.2.2.2.2.2.2.2.set (nI a) (by decide) (Nat.le_add_right _ _))
    have lx2' := lx2.fr (Ko.rf.set (ks := [109]) (k := 109) (by decide) 0 (20 + c3) (nI a)) (by decide)
    obtain ⟨s2, e2, d2, t2, lx3⟩ := lx2'
    have hle2 := t2.le
    have l3 : DM2 100 0 3 = nI d2 := by
      have := lx3.2.2.1
      rw [dsN (by decide)] at this
      exact this
    have l6 : dset DM2 109 0 (20 + c3) (nI a) 100 0 6 = nI e2 := lx3.2.1
    rcases both_num (E := E) (lo := 0) (H := c2) hn h8 R3.1 x2.2.1 R3.2.1 t2 lx3 (by omega) (by omega) with ⟨b, DX3, DM3, EM3, b1000, -, hb, hd, hb7, x5, x6, x7, m6, m7, m8, lx4⟩ | ⟨f, DX3, DM3, hf, x5, x6, m6, m7⟩
    · have in1 : Mo_in (dset DM2 109 0 (20 + c3) (nI a) 100 0 7) 0 (nI c2 - 1) (dset DM2 109 0 (20 + c3) (nI a)) EM2 = some (some (.inl 1), dset DM2 109 0 (20 + c3) (nI a), EM2) := by
        rw [hb7]
        exact M_in_ok (lo := 0) (by omega) (by omega) (by omega) hb _ _
      have hb7' : DM2 100 0 7 = nI b := by
        rw [dsN (by decide)] at hb7
        exact hb7
      have y109 : dset DM2 109 0 (20 + c3) (nI a) 109 0 (20 + c3) = nI a := by rw [dsA, if_pos rfl]
      have pre : Mo_readTie DM EM = if nI b = nI a then (pB1 (Mo_fails 3 (dset DM2 109 0 (20 + c3) (nI a)) EM2) fun y6 D6 E6 => (if y6 &&& 1 = y6 then some (some (.inl y6), D6, E6) else none)) else (pB0 (Mo_scan (dset (dset DM2 109 0 (20 + c3) (nI a)) 110 0 (20 + c3) (nI b)) EM2) fun D7 E7 => (pB1 (Mo_readSet D7 E7) fun y8 D8 E8 => (if y8 = 0 then (some (some (.inl (0 : Int32)), D8, E8)) else (some (some (.inl (1 : Int32)), dset (dset D8 111 0 (20 + c3) (D8 100 0 12)) 102 0 13 ((D8 102 0 13) + 1), E8))))) := by
        rw [e_Mo_readTie, hM', if_neg hfull, m1, B0s, hM2, show Mo_readNumber 0 (nI c2 - 1) DM1 EM1 = _ from m3, B1s, if_neg (by decide), e20, if_neg (iB (by omega) (by omega)), iC (by omega), m5, l3, hd, if_pos (by decide), show DM2 100 0 7 = dset DM2 109 0 (20 + c3) (nI a) 100 0 7 from by rw [dsN (by decide)], in1, B1s, if_neg (by decide), if_neg (iB' (by omega) (by omega)), hb7, y109]
        simp only [if_neg (iB' (k := 20 + c3) (N := 40) (by omega) (by omega))]
      by_cases hab : b = a
      · right
        obtain ⟨DX4, g1, g2⟩ := X_ref (E := E) (D := DX3) 3 x7.2
        obtain ⟨DM4, g3, g4⟩ := M_fail (E := EM2) (D := dset DM2 109 0 (20 + c3) (nI a)) 3 lx3.1
        have R3' := R3.g x6 mG.rf (by decide) (by decide)
        refine ⟨DX4, DM4, EM2, ?_, ?_, Fl.of R3'.2.2.2.2.2.2.1 R3'.2.2.2.2.2.2.2 g2 g4⟩
        · rw [e_Re_readTie, hX2, show Re_readNumber 0 (nI c2 - 1) DX E = _ from x1, B1s, if_neg (by decide), show Re_readNumber 0 (nI c2 - 1) DX2 E = _ from x5, B1s, if_neg (by decide), x7.1, x3.1, if_pos (by rw [hab]), show Re_refuse 3 _ E = _ from g1, B1s, if_pos and_00]
        · rw [pre, if_pos (by rw [hab]), show Mo_fails 3 _ EM2 = _ from g3, B1s, if_pos and_00]
      · have hne : ¬ nI b = nI a := fun z => hab ((iE (by omega) (by omega)).mp z)
        have R4 := R3.upd Ko.rf (Ko.rf.set (k := 110) (by decide) 0 (20 + c3) (nI b)) (R3.2.2.1.j110 (Nat.le_refl _) (nI b)) (R3.2.2.2.2.2.2.2.set (nI b) (by decide) (Nat.le_add_right _ _))
        obtain ⟨DM5, EM5, m9, m10, ⟨s3, e3, d3, t3, lx5⟩⟩ := M_next (D := dset (dset DM2 109 0 (20 + c3) (nI a)) 110 0 (20 + c3) (nI b)) (E := EM2) (q := e2) hn h8 R4.2.1 (by rw [dsN (by decide)]; exact l6) (by omega)
        have R5 := R4.g x6 m10 (by decide) (by decide)
        have hle3 := t3.le
        rcases both_set (E := E) hn h8 R5.1 x6.2.1 R5.2.1 t3 lx5 with ⟨v, DX6, DM6, EM6, x8, x9, x10, -, -, m11, m12, m13, lx6⟩ | ⟨f, DX6, DM6, x8, x9, -, m11, m12⟩
        · left
          have R6 := R5.g x9 m12 (by decide) (by decide)
          have y0 : DX6 19 0 3 = nI c3 := by
            obtain ⟨b0, b1, b2, b3, b4⟩ := R6.2.2.1.1.2.1
            exact b3
          have y1 : DM6 102 0 13 = nI c3 := by
            obtain ⟨b0, b1, b2, b3, b4⟩ := R6.2.2.1.1.2.2
            exact b3
          have z1 : DM6 109 0 (20 + c3) = nI a := by rw [m12.1.c (by decide), m10.1.c (by decide), dsN (by decide), dsA, if_pos rfl]
          have z2 : DM6 110 0 (20 + c3) = nI b := by rw [m12.1.c (by decide), m10.1.c (by decide), dsA, if_pos rfl]
          have y2 : dset (dset DM6 109 0 (20 + c3) (nI a)) 110 0 (20 + c3) (nI b) = DM6 := by
            have w1 : dset DM6 109 0 (20 + c3) (nI a) = DM6 := by
              rw [← z1]
              exact dset_same _ _ _ _
            rw [w1, ← z2]
            exact dset_same _ _ _ _
          have pr := R6.2.2.1.tie hc ha hb (fun z => hab z.symm) v
          rw [y2] at pr
          refine ⟨dset (dset (dset (dset DX6 27 0 c3 (nI a)) 28 0 c3 (nI b)) 29 0 c3 v) 19 0 3 (nI (c3 + 1)), dset (dset DM6 111 0 (20 + c3) v) 102 0 13 (nI (c3 + 1)), EM6, e3, c0, c1, c2, c3 + 1, c4, ?_, ?_, ⟨R6.upd ((((Ko.rf.set (by decide) _ _ _).set (by decide) _ _ _).set (by decide) _ _ _).set (by decide) _ _ _) ((Ko.rf.set (by decide) _ _ _).set (by decide) _ _ _) pr ((R6.2.2.2.2.2.2.2.set _ (by decide) (Nat.le_add_right _ _)).set _ (by decide) (by decide)), ?_, by omega, ?_⟩, by omega⟩
          · rw [e_Re_readTie, hX2, show Re_readNumber 0 (nI c2 - 1) DX E = _ from x1, B1s, if_neg (by decide), show Re_readNumber 0 (nI c2 - 1) DX2 E = _ from x5, B1s, if_neg (by decide), x7.1, x3.1, if_neg hne, x8, B1s, if_neg (by decide), y0, if_neg (iB (by omega) (by omega)), if_neg (iB (by omega) (by omega)), if_neg (iB (by omega) (by omega)), iC (by omega), x10.1, nI1]
          · rw [pre, if_neg hne, m9, B0s, m11, B1s, if_neg (by decide), m13, y1, nI1]
          · simp (disch := decide) only [dsN]
            exact x9.2.1
          · exact (lx6.fr (Ko.rf.set (ks := [102, 111]) (by decide) _ _ _) (by decide)).fr (Ko.rf.set (ks := [102, 111]) (by decide) _ _ _) (by decide)
        · right
          refine ⟨DX6, DM6, EM5, ?_, ?_, Fl.of R5.2.2.2.2.2.2.1 R5.2.2.2.2.2.2.2 x9 m12⟩
          · rw [e_Re_readTie, hX2, show Re_readNumber 0 (nI c2 - 1) DX E = _ from x1, B1s, if_neg (by decide), show Re_readNumber 0 (nI c2 - 1) DX2 E = _ from x5, B1s, if_neg (by decide), x7.1, x3.1, if_neg hne, x8, B1s, if_pos rfl]
          · rw [pre, if_neg hne, m9, B0s, m11, B1s, if_pos rfl]
    · right
      have xx : Re_readTie DX E = some (some (.inl 0), DX3, E) := by
        rw [e_Re_readTie, hX2, show Re_readNumber 0 (nI c2 - 1) DX E = _ from x1, B1s, if_neg (by decide), show Re_readNumber 0 (nI c2 - 1) DX2 E = _ from x5, B1s, if_pos rfl]
      rcases hf with ⟨rfl, hd⟩ | ⟨rfl, hd, w, hw, hw7, hr⟩
      · obtain ⟨DM4, g3, g4⟩ := M_fail (E := EM2) (D := dset DM2 109 0 (20 + c3) (nI a)) 1 lx3.1
        refine ⟨DX3, DM4, EM2, xx, ?_, Fl.of R3.2.2.2.2.2.2.1 R3.2.2.2.2.2.2.2 x6 g4⟩
        rw [e_Mo_readTie, hM', if_neg hfull, m1, B0s, hM2, show Mo_readNumber 0 (nI c2 - 1) DM1 EM1 = _ from m3, B1s, if_neg (by decide), e20, if_neg (iB (by omega) (by omega)), iC (by omega), m5, l3, if_neg (show ¬ nI d2 = (2 : Int32) from fun z => hd ((iE (b := 2) (by omega) (by omega)).mp z)), show Mo_fails 1 _ EM2 = _ from g3, B1s, if_pos and_00]
      · obtain ⟨DM4, g3, g4⟩ := M_fail (E := EM2) (D := dset DM2 109 0 (20 + c3) (nI a)) 2 lx3.1
        have hw7' : DM2 100 0 7 = nI w := by
          rw [dsN (by decide)] at hw7
          exact hw7
        refine ⟨DX3, DM4, EM2, xx, ?_, Fl.of R3.2.2.2.2.2.2.1 R3.2.2.2.2.2.2.2 x6 g4⟩
        rw [e_Mo_readTie, hM', if_neg hfull, m1, B0s, hM2, show Mo_readNumber 0 (nI c2 - 1) DM1 EM1 = _ from m3, B1s, if_neg (by decide), e20, if_neg (iB (by omega) (by omega)), iC (by omega), m5, l3, if_pos (by rw [hd]; rfl), hw7', show Mo_in (nI w) 0 (nI c2 - 1) _ EM2 = _ from M_in_bad (lo := 0) (by omega) (by omega) (by omega) hr _ _, B1s, if_pos rfl, show Mo_fails 2 _ EM2 = _ from g3, B1s, if_pos and_00]
  · right
    refine ⟨DX2, DM2, EM1, ?_, ?_, Fl.of R1.2.2.2.2.2.2.1 R1.2.2.2.2.2.2.2 x2 m4⟩
    · rw [e_Re_readTie, hX2, show Re_readNumber 0 (nI c2 - 1) DX E = _ from x1, B1s, if_pos rfl]
    · rw [e_Mo_readTie, hM', if_neg hfull, m1, B0s, hM2, show Mo_readNumber 0 (nI c2 - 1) DM1 EM1 = _ from m3, B1s, if_pos rfl]
end BODY
