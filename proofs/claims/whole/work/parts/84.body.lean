/-! THE TEXT: place, settings, weight -/
section BODY2
variable {T : Nat → Int32} {n : Nat} {E : pDL} {D0 : pD}
theorem B_place {DX DM : pD} {EM : pDL} {q c0 c1 c2 c3 c4 : Nat} (hn : n ≤ 1200) (h8 : ∀ i, i < n → (T i).toInt8.toInt32 = T i) (h : Rd T n D0 DX DM EM c0 c1 c2 c3 c4 c0 c1 c4) (h9 : DX 17 0 9 = nI q) (hq : q ≤ n) (h6 : DM 100 0 6 = nI q) (hc : c2 < 24) : OutB T n D0 E q (Re_readPlace DX E) (Mo_readPlace DM EM) := by
  have hM' : DM 102 0 12 = nI c2 := by
    obtain ⟨b0, b1, b2, b3, b4⟩ := h.2.2.1.1.2.2
    exact b2
  obtain ⟨n0, n1, n2, n3, n4⟩ := h.2.2.1.1.1
  have e24 : (24 : Int32) + nI c2 = nI (24 + c2) := nI_add' 24 c2
  have hfull : ¬ nI c2 = (24 : Int32) := fun z => by have := (iE (b := 24) (by omega) (by omega)).mp z; omega
  obtain ⟨s, e, c, ht⟩ := tok_ex T hq
  have hle := ht.le
  obtain ⟨D1, a1, a2, a3, a4⟩ := X_adv' (E := E) hn h.1 h9 ht
  obtain ⟨M1, E1, b1, b2, b3⟩ := M_scan' (E := EM) hn h8 h.2.1 h6 ht
  have R1 := h.g a2 b2 (by decide) (by decide)
  obtain ⟨l1, l2, l3, l4, l5⟩ := id b3
  by_cases hc1 : c = 1
  · obtain ⟨hw, hse⟩ := ht.wd hc1
    obtain ⟨k1, k2, k3⟩ := l4 hc1
    have h97 : D1 17 0 10 = 97 := by rw [a4]; exact (ch97 hle.2.2.2).mpr hc1
    have hs1 : M1 100 0 3 = 1 := by rw [l3, hc1]; rfl
    have hM0 : M1 102 0 10 = nI c0 := by
      obtain ⟨b0, b1, b2, b3, b4⟩ := R1.2.2.1.1.2.2
      exact b0
    obtain ⟨nm1, nm2⟩ := M_named (DM := M1) R1.2.2.2.1 hn (by omega) hw k2 k3
    rcases X_find_nn (E := E) hn R1.1.1 R1.2.2.2.1 (by omega) hle.2.1 hle.2.2.1 with ⟨i, f1, f2, f3, f4⟩ | ⟨f1, f2⟩
    · obtain ⟨M2, E2, g1, g2, ⟨s2, e2, d2, t2, lx2⟩⟩ := M_next (D := M1) (E := E1) hn h8 R1.2.1 l2 hle.2.2.1
      have R2 := R1.g (xG.rf a2.2.1) g2 (by decide) (by decide)
      have hle2 := t2.le
      have e12 : (12 : Int32) + nI i = nI (12 + i) := nI_add' 12 i
      have prX : Re_readPlace DX E = pB1 (Re_readSet D1 E) fun y4 D4 E4 => (if y4 = 0 then some (some (.inl (0 : Int32)), D4, E4) else (if ((D4 17 0 11) &&& ((D4 23 0 i) ^^^ -1)) = 0 then (if (D4 19 0 2) < 0 ∨ 24 ≤ (D4 19 0 2).toNatClampNeg then none else (if (D4 19 0 2) < 0 ∨ 24 ≤ (D4 19 0 2).toNatClampNeg then none else (some (some (.inl (1 : Int32)), (dset (dset (dset D4 25 0 (D4 19 0 2).toNatClampNeg (nI i)) 26 0 (D4 19 0 2).toNatClampNeg (D4 17 0 11)) 19 0 2 ((D4 19 0 2) + 1)), E4)))) else (pB1 (Re_refuse 6 D4 E4) fun y5 D5 E5 => (if y5 &&& 1 = y5 then some (some (.inl y5), D5, E5) else none)))) := by
        rw [e_Re_readPlace, a1, B0s, if_pos h97, if_pos R1.1.2.1, a3, a2.2.1, f4, B1s, if_neg (iM (by omega))]
        simp only [if_neg (iB' (k := i) (N := 12) (by omega) (by omega)), iC (show i < 2147483648 by omega)]
      have prM : Mo_readPlace DM EM = pB1 (Mo_setHere M2 E2) fun y6 D6 E6 => (if 0 ≤ y6 then (if (y6 &&& ((D6 105 0 (12 + i)) ^^^ -1)) = 0 then (pB0 (Mo_scan (dset (dset (dset D6 107 0 (24 + c2) (nI i)) 108 0 (24 + c2) y6) 102 0 12 ((D6 102 0 12) + 1)) E6) fun D7 E7 => (some (some (.inl (1 : Int32)), D7, E7))) else (pB1 (Mo_fails 6 D6 E6) fun y8 D8 E8 => (if y8 &&& 1 = y8 then some (some (.inl y8), D8, E8) else none))) else some (some (.inl (0 : Int32)), D6, E6)) := by
        rw [e_Mo_readPlace, hM', if_neg hfull, b1, B0s, if_pos hs1, hM0, show Mo_named 0 (nI c0) M1 E1 = _ from nm1 i f1 f2 f3, B1s, if_neg (iM (by omega)), g1, B0s]
        simp only [e12, e24, if_neg (iB' (k := 12 + i) (N := 24) (by omega) (by omega)), if_neg (iB' (k := 24 + c2) (N := 48) (by omega) (by omega)), iC (show 12 + i < 2147483648 by omega), iC (show 24 + c2 < 2147483648 by omega)]
      rcases both_set (E := E) hn h8 R2.1 a2.2.1 R2.2.1 t2 lx2 with ⟨v, DX3, DM3, EM3, x2, x3, x4, m1, m2, -, -, -, -⟩ | ⟨f, DX3, DM3, x2, x3, m1, -, m3⟩
      · have R3 := R2.g x3 mG.rf (by decide) (by decide)
        have same : M2 105 0 (12 + i) = DX3 23 0 i := R3.2.2.1.2.2.2.1 i f1
        have y0 : DX3 19 0 2 = nI c2 := by
          obtain ⟨b0, b1, b2, b3, b4⟩ := R3.2.2.1.1.2.1
          exact b2
        have y1 : M2 102 0 12 = nI c2 := by
          obtain ⟨b0, b1, b2, b3, b4⟩ := R3.2.2.1.1.2.2
          exact b2
        by_cases hsub : (v &&& ((DX3 23 0 i) ^^^ -1)) = 0
        · left
          have R4 := R3.upd (((Ko.rf.set (k := 25) (by decide) 0 c2 (nI i)).set (k := 26) (by decide) 0 c2 v).set (k := 19) (by decide) 0 2 (nI (c2 + 1))) (((Ko.rf.set (k := 107) (by decide) 0 (24 + c2) (nI i)).set (k := 108) (by decide) 0 (24 + c2) v).set (k := 102) (by decide) 0 12 (nI (c2 + 1))) (R3.2.2.1.place hc f1 v) (((R3.2.2.2.2.2.2.2.set _ (by decide) (Nat.le_add_right _ _)).set _ (by decide) (Nat.le_add_right _ _)).set _ (by decide) (by decide))
          have q9 : dset (dset (dset DX3 25 0 c2 (nI i)) 26 0 c2 v) 19 0 2 (nI (c2 + 1)) 17 0 9 = nI e2 := by
            simp (disch := decide) only [dsN]
            exact x3.2.1
          obtain ⟨M5, E5, g3, g4, g5⟩ := M_next (D := dset (dset (dset M2 107 0 (24 + c2) (nI i)) 108 0 (24 + c2) v) 102 0 12 (nI (c2 + 1))) (E := E2) (q := e2) hn h8 R4.2.1 (by simp (disch := decide) only [dsN]; exact lx2.2.1) (by omega)
          refine ⟨_, M5, E5, e2, c0, c1, c2 + 1, c3, c4, ?_, ?_, ⟨R4.g (xG.rf q9) g4 (by decide) (by decide), q9, by omega, g5⟩, by omega⟩
          · rw [prX, x2, B1s, if_neg (by decide), x4.1, if_pos hsub, y0, if_neg (iB (by omega) (by omega)), if_neg (iB (by omega) (by omega)), iC (by omega), nI1]
          · rw [prM, m1, B1s, if_pos (by rw [iNL]; exact m2), same, if_pos hsub, y1, nI1, g3, B0s]
        · right
          obtain ⟨DX4, g1', g2'⟩ := X_ref (E := E) (D := DX3) 6 x4.2
          obtain ⟨DM4, g3, g4⟩ := M_fail (E := E2) (D := M2) 6 lx2.1
          refine ⟨DX4, DM4, E2, ?_, ?_, Fl.of R3.2.2.2.2.2.2.1 R3.2.2.2.2.2.2.2 g2' g4⟩
          · rw [prX, x2, B1s, if_neg (by decide), x4.1, if_neg hsub, show Re_refuse 6 _ E = _ from g1', B1s, if_pos and_00]
          · rw [prM, m1, B1s, if_pos (by rw [iNL]; exact m2), same, if_neg hsub, show Mo_fails 6 _ E2 = _ from g3, B1s, if_pos and_00]
      · right
        refine ⟨DX3, DM3, E2, ?_, ?_, Fl.of R2.2.2.2.2.2.2.1 R2.2.2.2.2.2.2.2 x3 m3⟩
        · rw [prX, x2, B1s, if_pos rfl]
        · rw [prM, m1, B1s, if_neg (by decide)]
    · right
      obtain ⟨D2, g1, g2⟩ := X_ref (E := E) (D := D1) 5 a3
      obtain ⟨M2, g3, g4⟩ := M_fail (E := E1) (D := M1) 5 l1
      refine ⟨D2, M2, E1, ?_, ?_, Fl.of R1.2.2.2.2.2.2.1 R1.2.2.2.2.2.2.2 g2 g4⟩
      · rw [e_Re_readPlace, a1, B0s, if_pos h97, if_pos R1.1.2.1, a3, a2.2.1, f2, B1s, if_pos rfl, show Re_refuse 5 _ E = _ from g1, B1s, if_pos and_00]
      · rw [e_Mo_readPlace, hM', if_neg hfull, b1, B0s, if_pos hs1, hM0, show Mo_named 0 (nI c0) M1 E1 = _ from nm2 f1, B1s, if_pos rfl, show Mo_fails 5 _ E1 = _ from g3, B1s, if_pos and_00]
  · right
    have h97 : ¬ D1 17 0 10 = 97 := by rw [a4]; exact fun z => hc1 ((ch97 hle.2.2.2).mp z)
    have hs1 : ¬ M1 100 0 3 = 1 := by rw [l3]; exact fun z => hc1 ((iE (b := 1) (by omega) (by omega)).mp z)
    obtain ⟨D2, g1, g2⟩ := X_ref (E := E) (D := D1) 1 a3
    obtain ⟨M2, g3, g4⟩ := M_fail (E := E1) (D := M1) 1 l1
    refine ⟨D2, M2, E1, ?_, ?_, Fl.of R1.2.2.2.2.2.2.1 R1.2.2.2.2.2.2.2 g2 g4⟩
    · rw [e_Re_readPlace, a1, B0s, if_neg h97, show Re_refuse 1 _ E = _ from g1, B1s, if_pos and_00]
    · rw [e_Mo_readPlace, hM', if_neg hfull, b1, B0s, if_neg hs1, show Mo_fails 1 _ E1 = _ from g3, B1s, if_pos and_00]
/-- the settings -/
def loS (k : Nat) : Nat := if k = 0 then 1 else 0
def hiS (k : Nat) : Nat := if k = 2 ∨ k = 4 then 100 else 10
theorem lt5 {k : Nat} (h : k < 5) : k = 0 ∨ k = 1 ∨ k = 2 ∨ k = 3 ∨ k = 4 := by omega
theorem X_setg {k : Nat} (hk : k < 5) (D : pD) : Re_readSetting (nI (5 + k)) D E = Re_readSetting_42 (nI (5 + k)) (nI (hiS k) - 1) (nI (loS k)) (dset D 17 0 13 ((D 17 0 13) ||| ((1 : Int32) <<< (nI (5 + k) &&& 31)))) E := by
  rcases lt5 hk with rfl | rfl | rfl | rfl | rfl
  · rw [e_Re_readSetting, if_pos (by decide), if_neg (by decide), if_neg (by decide)]
    rfl
  · rw [e_Re_readSetting, if_neg (by decide), if_neg (by decide), if_neg (by decide)]
    rfl
  · rw [e_Re_readSetting, if_neg (by decide), if_pos (by decide)]
    rfl
  · rw [e_Re_readSetting, if_neg (by decide), if_neg (by decide), if_neg (by decide)]
    rfl
  · rw [e_Re_readSetting, if_neg (by decide), if_neg (by decide), if_pos (by decide)]
    rfl
theorem M_setg {k : Nat} (hk : k < 5) (D2 : pD) (E2 : pDL) : (if ((5 : Int32) + nI (6 + k)) - 6 = 5 then Mo_readTold_52 (((5 : Int32) + nI (6 + k)) - 6) 1 D2 E2 else Mo_readTold_52 (((5 : Int32) + nI (6 + k)) - 6) 0 D2 E2) = pB1 (Mo_readNumber (nI (loS k)) (nI (hiS k) - 1) D2 E2) fun y1 D1 E1 => (if y1 = 0 then some (some (.inl (0 : Int32)), D1, E1) else some (some (.inl (1 : Int32)), dset D1 102 0 (15 + k) (D1 100 0 12), E1)) := by
  rcases lt5 hk with rfl | rfl | rfl | rfl | rfl
  · rw [if_pos (by decide), e_Mo_readTold_52, if_neg (by decide), if_neg (by decide)]
    rfl
  · rw [if_neg (by decide), e_Mo_readTold_52, if_neg (by decide), if_neg (by decide)]
    rfl
  · rw [if_neg (by decide), e_Mo_readTold_52, if_pos (by decide), e_Mo_readTold_64]
    rfl
  · rw [if_neg (by decide), e_Mo_readTold_52, if_neg (by decide), if_neg (by decide)]
    rfl
  · rw [if_neg (by decide), e_Mo_readTold_52, if_neg (by decide), if_pos (by decide), e_Mo_readTold_64]
    rfl
theorem Rd.told {DX DM : pD} {EM : pDL} {c0 c1 c2 c3 c4 b0 b1 b4 k : Nat} (h : Rd T n D0 DX DM EM c0 c1 c2 c3 c4 b0 b1 b4) (hk : k < 5) : Rd T n D0 (dset DX 17 0 13 ((DX 17 0 13) ||| ((1 : Int32) <<< (nI (5 + k) &&& 31)))) (dset DM 100 0 26 ((DM 100 0 26) ||| ((1 : Int32) <<< (nI (6 + k) &&& 31)))) EM c0 c1 c2 c3 c4 b0 b1 b4 := by
  obtain ⟨g1, g2, g3, g4, g5, g6, g7, g8⟩ := h
  obtain ⟨hCn, hSt, hWt, h0, h1, h25, h2, h3, h4, hTd⟩ := g3
  refine ⟨⟨by rw [dsN (by decide)]; exact g1.1, by rw [dsA, if_neg (by decide)]; exact g1.2.1, by rw [dsA, if_neg (by decide)]; exact g1.2.2⟩, ⟨by rw [dsA, if_neg (by decide)]; exact g2.1, fun i hi => by rw [dsN (by decide)]; exact g2.2 i hi⟩, ⟨?_, ?_, ?_, ?_, ?_, ?_, ?_, ?_, ?_, ?_⟩, ?_, ?_, ?_, ?_, ?_⟩
  · simp (disch := decide) only [pCn, dsN]
    exact hCn
  · simp (disch := decide) only [pSt_, dsN]
    exact hSt
  · simp (disch := decide) only [pWt, dsN]
    exact hWt
  · simp (disch := decide) only [pR0, dsN]
    exact h0
  · simp (disch := decide) only [pR1', dsN]
    exact h1
  · simp (disch := decide) only [p25, dsN]
    exact h25
  · simp (disch := decide) only [pR2, dsN]
    exact h2
  · simp (disch := decide) only [pR3, dsN]
    exact h3
  · simp (disch := decide) only [pR4, dsN]
    exact h4
  · refine ⟨fun j hj => ?_, by rw [dsA, if_neg (by decide), dsA, if_neg (by decide)]; exact hTd.2.1, by rw [dsA, if_neg (by decide), dsA, if_neg (by decide)]; exact hTd.2.2⟩
    rw [dsA, if_pos rfl, dsA, if_pos rfl, b_or, b_or, b_one (by omega) (by omega), b_one (by omega) (by omega), hTd.1 j hj]
    congr 1
    exact decide_eq_decide.mpr (by omega)
  · exact g4.fr (dsN (by decide)) (dsN (by decide)) (dsN (by decide)) fun _ _ => ⟨rfl, rfl⟩
  · exact g5.fr (dsN (by decide)) (dsN (by decide)) (dsN (by decide)) fun _ _ => ⟨rfl, rfl⟩
  · exact g6.fr (dsN (by decide)) (dsN (by decide)) (dsN (by decide)) fun _ _ => ⟨rfl, rfl⟩
  · exact g7.tr (Ko.rf.set (ks := [17]) (k := 17) (by decide) _ _ _) (by decide)
  · exact g8.g (Ko.rf.set (k := 100) (by decide) _ _ _) fun i hi => by rw [dsA, if_neg (by revert hi; simp; omega)]
theorem e5_ : ∀ k, k < 5 → nI (5 + k) - 5 = nI k := by decide
theorem B_setting {DX DM : pD} {EM : pDL} {q c0 c1 c2 c3 c4 k : Nat} (hn : n ≤ 1200) (h8 : ∀ i, i < n → (T i).toInt8.toInt32 = T i) (h : Rd T n D0 DX DM EM c0 c1 c2 c3 c4 c0 c1 c4) (h9 : DX 17 0 9 = nI q) (hq : q ≤ n) (h6 : DM 100 0 6 = nI q) (hk : k < 5) (hb : bt (DX 17 0 13) (5 + k) = false) : OutB T n D0 E q (Re_readSetting (nI (5 + k)) DX E) (Mo_readTold (nI (6 + k)) DM EM) := by
  have hb' : bt (DM 100 0 26) (6 + k) = false := by
    obtain ⟨hCn, hSt, hWt, h0, h1, h25, h2, h3, h4, hTd⟩ := h.2.2.1
    rw [← hTd.1 k hk]
    exact hb
  have R0 := h.told hk
  have hlo : loS k < 2147483648 := by unfold loS; split <;> omega
  have hhi : hiS k ≤ 100 := by unfold hiS; split <;> omega
  obtain ⟨DM1, EM1, m1, m2, ⟨s, e, c, t1, lx1⟩⟩ := M_next (D := dset DM 100 0 26 ((DM 100 0 26) ||| ((1 : Int32) <<< (nI (6 + k) &&& 31)))) (E := EM) hn h8 R0.2.1 (by rw [dsA, if_neg (by decide)]; exact h6) hq
  have x9 : dset DX 17 0 13 ((DX 17 0 13) ||| ((1 : Int32) <<< (nI (5 + k) &&& 31))) 17 0 9 = nI q := by rw [dsA, if_neg (by decide)]; exact h9
  have R1 := R0.g (xG.rf x9) m2 (by decide) (by decide)
  have hle := t1.le
  have e5 : nI (5 + k) - 5 = nI k := e5_ k hk
  have prM : Mo_readTold (nI (6 + k)) DM EM = pB1 (Mo_readNumber (nI (loS k)) (nI (hiS k) - 1) DM1 EM1) fun y1 D1 E1 => (if y1 = 0 then some (some (.inl (0 : Int32)), D1, E1) else some (some (.inl (1 : Int32)), dset D1 102 0 (15 + k) (D1 100 0 12), E1)) := by
    rw [e_Mo_readTold, if_neg (by rw [bit1 (by omega), hb']; decide), m1, B0s, M_setg hk]
  rcases both_num (E := E) (lo := loS k) (H := hiS k) hn h8 R1.1 x9 R1.2.1 t1 lx1 (by omega) (by omega) with ⟨v, DX2, DM2, EM2, -, -, hv, -, -, x1, x2, x3, m3, m4, m5, lx2⟩ | ⟨f, DX2, DM2, -, x1, x2, m3, m4⟩
  · left
    have R2 := R1.g x2 m4 (by decide) (by decide)
    refine ⟨dset DX2 20 0 k (nI v), dset DM2 102 0 (15 + k) (nI v), EM2, e, c0, c1, c2, c3, c4, ?_, ?_, ⟨R2.upd (Ko.rf.set (by decide) _ _ _) (Ko.rf.set (by decide) _ _ _) (R2.2.2.1.setting hk (by omega)) (R2.2.2.2.2.2.2.2.set _ (by decide) (by simp [loM]; omega)), ?_, by omega, ?_⟩, by omega⟩
    · rw [X_setg hk, e_Re_readSetting_42, x1, B1s, if_neg (by decide), e5, if_neg (iB (by omega) (by omega)), iC (by omega), x3.1]
    · rw [prM, m3, B1s, if_neg (by decide), m5]
    · rw [dsN (by decide)]
      exact x2.2.1
    · exact lx2.fr (Ko.rf.set (ks := [102]) (k := 102) (by decide) _ _ _) (by decide)
  · right
    refine ⟨DX2, DM2, EM1, ?_, ?_, Fl.of R1.2.2.2.2.2.2.1 R1.2.2.2.2.2.2.2 x2 m4⟩
    · rw [X_setg hk, e_Re_readSetting_42, x1, B1s, if_pos rfl]
    · rw [prM, m3, B1s, if_pos rfl]
/-- the weights -/
theorem X_weigh {v w : Int32} : ∀ (m t : Nat) (D : pD), t + m = 24 → ∃ D', Bk_weigh_draft_2 v w (nI t) D E = some (none, D', E) ∧ Ko [21] D D' ∧ (∀ i, i < 24 → D' 21 0 i = if t ≤ i ∧ bt v i = true then w else D 21 0 i)
  | 0, t, D, ht => by
    refine ⟨D, ?_, Ko.rf, fun i hi => by rw [if_neg (by omega)]⟩
    rw [e_Bk_weigh_draft_2, if_pos (show (24 : Int32) ≤ nI t from nI_le (a := 24) (by omega) (by omega))]
  | m + 1, t, D, ht => by
    rw [e_Bk_weigh_draft_2, if_neg (show ¬ (24 : Int32) ≤ nI t from nI_ge (b := 24) (by omega) (by omega))]
    by_cases hb : bt v t = true
    · rw [if_neg (by rw [bit0 (by omega), hb]; decide), if_neg (iB (by omega) (by omega)), iC (by omega), nI1]
      obtain ⟨D', a1, a2, a3⟩ := X_weigh m (t + 1) (dset D 21 0 t w) (by omega)
      refine ⟨D', a1, (Ko.rf.set (by decide) _ _ _).tr a2, fun i hi => ?_⟩
      rw [a3 i hi, dsA]
      by_cases e : i = t
      · rw [if_neg (by omega), if_pos e, if_pos ⟨by omega, by rw [e]; exact hb⟩]
      · rw [if_neg e]
        by_cases z : t + 1 ≤ i ∧ bt v i = true
        · rw [if_pos z, if_pos ⟨by omega, z.2⟩]
        · rw [if_neg z, if_neg (fun y => z ⟨by omega, y.2⟩)]
    · rw [if_pos (by rw [bit0 (by omega)]; simpa using hb), nI1]
      obtain ⟨D', a1, a2, a3⟩ := X_weigh m (t + 1) D (by omega)
      refine ⟨D', a1, a2, fun i hi => ?_⟩
      rw [a3 i hi]
      by_cases z : t + 1 ≤ i ∧ bt v i = true
      · rw [if_pos z, if_pos ⟨by omega, z.2⟩]
      · rw [if_neg z, if_neg (fun y => z ⟨by
          have : i ≠ t := fun q => hb (by rw [← q]; exact y.2)
          omega, y.2⟩)]
theorem M_weigh {v w : Int32} {E : pDL} : ∀ (m t : Nat) (D : pD), t + m = 24 → D 100 0 12 = w → ∃ D', Mo_readWeight_32 v (nI t) D E = some (some (.inl 1), D', E) ∧ Ko [114] D D' ∧ (∀ i, i < 24 → D' 114 0 i = D 114 0 i) ∧ (∀ i, i < 24 → D' 114 0 (24 + i) = if t ≤ i ∧ bt v i = true then w else D 114 0 (24 + i))
  | 0, t, D, ht, hw => by
    refine ⟨D, ?_, Ko.rf, fun i hi => rfl, fun i hi => by rw [if_neg (by omega)]⟩
    rw [e_Mo_readWeight_32, if_pos (show (24 : Int32) ≤ nI t from nI_le (a := 24) (by omega) (by omega))]
  | m + 1, t, D, ht, hw => by
    rw [e_Mo_readWeight_32, if_neg (show ¬ (24 : Int32) ≤ nI t from nI_ge (b := 24) (by omega) (by omega))]
    by_cases hb : bt v t = true
    · rw [if_pos (by rw [bit1 (by omega)]; exact hb), show (24 : Int32) + nI t = nI (24 + t) from nI_add' 24 t, if_neg (iB (by omega) (by omega)), iC (by omega), nI1, hw]
      obtain ⟨D', a1, a2, a4, a3⟩ := M_weigh (w := w) m (t + 1) (dset D 114 0 (24 + t) w) (by omega) (by rw [dsN (by decide)]; exact hw)
      refine ⟨D', a1, (Ko.rf.set (by decide) _ _ _).tr a2, fun i hi => by rw [a4 i hi, dsA, if_neg (by omega)], fun i hi => ?_⟩
      rw [a3 i hi, dsA]
      by_cases e : i = t
      · rw [if_neg (by omega), if_pos (by omega), if_pos ⟨by omega, by rw [e]; exact hb⟩]
      · rw [if_neg (show ¬ 24 + i = 24 + t by omega)]
        by_cases z : t + 1 ≤ i ∧ bt v i = true
        · rw [if_pos z, if_pos ⟨by omega, z.2⟩]
        · rw [if_neg z, if_neg (fun y => z ⟨by omega, y.2⟩)]
    · rw [if_neg (by rw [bit1 (by omega)]; exact hb), nI1]
      obtain ⟨D', a1, a2, a4, a3⟩ := M_weigh m (t + 1) D (by omega) hw
      refine ⟨D', a1, a2, a4, fun i hi => ?_⟩
      rw [a3 i hi]
      by_cases z : t + 1 ≤ i ∧ bt v i = true
      · rw [if_pos z, if_pos ⟨by omega, z.2⟩]
      · rw [if_neg z, if_neg (fun y => z ⟨by
          have : i ≠ t := fun q => hb (by rw [← q]; exact y.2)
          omega, y.2⟩)]
theorem B_weight {DX DM : pD} {EM : pDL} {q c0 c1 c2 c3 c4 : Nat} (hn : n ≤ 1200) (h8 : ∀ i, i < n → (T i).toInt8.toInt32 = T i) (h : Rd T n D0 DX DM EM c0 c1 c2 c3 c4 c0 c1 c4) (h9 : DX 17 0 9 = nI q) (hq : q ≤ n) (h6 : DM 100 0 6 = nI q) : OutB T n D0 E q (Re_readWeight DX E) (Mo_readWeight DM EM) := by
  obtain ⟨DM1, EM1, m1, m2, ⟨s, e, c, t1, lx1⟩⟩ := M_next (E := EM) hn h8 h.2.1 h6 hq
  have R1 := h.g (xG.rf h9) m2 (by decide) (by decide)
  have hle := t1.le
  rcases both_set (E := E) hn h8 R1.1 h9 R1.2.1 t1 lx1 with ⟨v, DX2, DM2, EM2, x2, x3, x4, -, -, m3, m4, m5, ⟨s2, e2, d2, t2, lx2⟩⟩ | ⟨f, DX2, DM2, x2, x3, -, m3, m4⟩
  · have R2 := R1.g x3 m4 (by decide) (by decide)
    have hle2 := t2.le
    rcases both_num (E := E) (lo := 0) (H := 10) hn h8 R2.1 x3.2.1 R2.2.1 t2 lx2 (by omega) (by omega) with ⟨w, DX3, DM3, EM3, -, -, hw, -, -, x5, x6, x7, m6, m7, m8, lx3⟩ | ⟨f, DX3, DM3, -, x5, x6, m6, m7⟩
    · left
      have R3 := R2.g x6 m7 (by decide) (by decide)
      have vX : DX3 17 0 11 = v := by rw [x6.2.2 11 (by decide) (by decide), x4.1]
      obtain ⟨DX4, y1, y2, y3⟩ := X_weigh (E := E) (v := v) (w := nI w) 24 0 DX3 rfl
      obtain ⟨DM4, z1, z2, z4, z3⟩ := M_weigh (E := EM3) (v := v) (w := nI w) 24 0 DM3 rfl m8
      have pw : pWt DX4 DM4 := by
        intro t ht
        rw [y3 t ht, z3 t ht]
        by_cases hb : 0 ≤ t ∧ bt v t = true
        · rw [if_pos hb, if_pos hb]
          exact ⟨w, by omega, rfl, rfl⟩
        · rw [if_neg hb, if_neg hb]
          exact R3.2.2.1.2.2.1 t ht
      refine ⟨DX4, DM4, EM3, e2, c0, c1, c2, c3, c4, ?_, ?_, ⟨R3.upd (y2.sub (by decide)) (z2.sub (by decide)) (R3.2.2.1.weights y2 z2 pw) ⟨R3.2.2.2.2.2.2.2.1.tr (z2.sub (by decide)), fun k hk i hi => ?_, fun i hi => by rw [z2.c (by decide)]; exact R3.2.2.2.2.2.2.2.2.2.1 i hi, by rw [z2.c (by decide)]; exact R3.2.2.2.2.2.2.2.2.2.2⟩, ?_, by omega, lx3.fr z2 (by decide)⟩, by omega⟩
      · rw [e_Re_readWeight, x2, B1s, if_neg (by decide), show Re_readNumber 0 9 DX2 E = _ from x5, B1s, if_neg (by decide), vX, x7.1, e_Bk_weigh_draft, show Bk_weigh_draft_2 v (nI w) 0 DX3 E = _ from y1, B0s]
      · rw [e_Mo_readWeight, m1, B0s, m3, B1s, if_neg (by decide), show Mo_readNumber 0 9 DM2 EM2 = _ from m6, B1s, if_neg (by decide), m5]
        exact z1
      · by_cases e : k = 114
        · subst e
          rw [z4 i hi]
          exact R3.2.2.2.2.2.2.2.2.1 114 hk i hi
        · rw [z2.c (by simpa using e)]
          exact R3.2.2.2.2.2.2.2.2.1 k hk i hi
      · rw [y2.c (by decide)]
        exact x6.2.1
    · right
      refine ⟨DX3, DM3, EM2, ?_, ?_, Fl.of R2.2.2.2.2.2.2.1 R2.2.2.2.2.2.2.2 x6 m7⟩
      · rw [e_Re_readWeight, x2, B1s, if_neg (by decide), show Re_readNumber 0 9 DX2 E = _ from x5, B1s, if_pos rfl]
      · rw [e_Mo_readWeight, m1, B0s, m3, B1s, if_neg (by decide), show Mo_readNumber 0 9 DM2 EM2 = _ from m6, B1s, if_pos rfl]
  · right
    refine ⟨DX2, DM2, EM1, ?_, ?_, Fl.of R1.2.2.2.2.2.2.1 R1.2.2.2.2.2.2.2 x3 m4⟩
    · rw [e_Re_readWeight, x2, B1s, if_pos rfl]
    · rw [e_Mo_readWeight, m1, B0s, m3, B1s, if_pos rfl]
end BODY2
