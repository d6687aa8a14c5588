/-! THE TEXT: a clause, and the loop over them -/
section CLAUSE
variable {T : Nat → Int32} {n : Nat} {E : pDL} {D0 : pD}
theorem OutB.wx {q : Nat} {BX BM : Option pRes} (h : OutB T n D0 E q BX BM) : OutB T n D0 E q (pB1 BX fun y D E => if y &&& 1 = y then some (some (.inl y), D, E) else none) BM := by
  rcases h with ⟨DX', DM', EM', q', c0, c1, c2, c3, c4, rfl, rfl, h1, h2⟩ | ⟨DX', DM', EM', rfl, rfl, h1⟩
  · exact Or.inl ⟨DX', DM', EM', q', c0, c1, c2, c3, c4, rfl, rfl, h1, h2⟩
  · exact Or.inr ⟨DX', DM', EM', rfl, rfl, h1⟩
theorem OutB.wm {q : Nat} {BX BM : Option pRes} (h : OutB T n D0 E q BX BM) : OutB T n D0 E q BX (pB1 BM fun y D E => if y &&& 1 = y then some (some (.inl y), D, E) else none) := by
  rcases h with ⟨DX', DM', EM', q', c0, c1, c2, c3, c4, rfl, rfl, h1, h2⟩ | ⟨DX', DM', EM', rfl, rfl, h1⟩
  · exact Or.inl ⟨DX', DM', EM', q', c0, c1, c2, c3, c4, rfl, rfl, h1, h2⟩
  · exact Or.inr ⟨DX', DM', EM', rfl, rfl, h1⟩
theorem m1_in (D : pD) (E : pDL) : Mo_in (-1) 6 10 D E = some (some (.inl 0), D, E) := by rw [e_Mo_in, if_pos (by decide)]
theorem s6_ : ∀ k, k < 5 → ¬ (nI (6 + k)).toInt = 0 ∧ ¬ (nI (6 + k)).toInt = 1 ∧ ¬ (nI (6 + k)).toInt = 2 ∧ ¬ (nI (6 + k)).toInt = 3 ∧ ¬ (nI (6 + k)).toInt = 4 ∧ ¬ (nI (6 + k)).toInt = 5 := by decide
theorem s5_ : ∀ k, k < 5 → ¬ nI (5 + k) = -1 ∧ ¬ nI (5 + k) < 5 ∧ ¬ (9 : Int32) < nI (5 + k) ∧ (4 : Int32) < nI (5 + k) := by decide
/-- X's clause, up to its semicolon -/
noncomputable def xCl (K : pD → pDL → Option pRes) (D1 : pD) (E1 : pDL) : Option pRes := pB1 (Re_keyword D1 E1) fun y2 D2 E2 => pB1 (Re_mayBegin y2 D2 E2) fun y3 D3 E3 => if y3 = 0 then some (some (.inl (-1)), D3, E3) else pB1 (Re_readBody y2 D3 E3) fun y4 D4 E4 => if y4 = 0 then some (some (.inl (-1)), D4, E4) else K D4 E4
def OutC (T : Nat → Int32) (n : Nat) (D0 : pD) (E : pDL) (q : Nat) (K : pD → pDL → Option pRes) (BX BM : Option pRes) : Prop := (∃ DX' DM' EM' q' c0 c1 c2 c3 c4, BX = K DX' E ∧ BM = some (some (.inl 1), DM', EM') ∧ Sd T n D0 DX' DM' EM' q' c0 c1 c2 c3 c4 ∧ q ≤ q') ∨ ∃ DX' DM' EM', BX = some (some (.inl (-1)), DX', E) ∧ BM = some (some (.inl 0), DM', EM') ∧ Fl D0 DX' DM'
theorem OutC.body {q : Nat} {K : pD → pDL → Option pRes} {D1 : pD} {y : Int32} {BM : Option pRes} (hk : Re_keyword D1 E = some (some (.inl y), D1, E)) (hm : Re_mayBegin y D1 E = some (some (.inl 1), D1, E)) (h : OutB T n D0 E q (Re_readBody y D1 E) BM) : OutC T n D0 E q K (xCl K D1 E) BM := by
  have e0 : xCl K D1 E = pB1 (Re_readBody y D1 E) fun y4 D4 E4 => if y4 = 0 then some (some (.inl (-1)), D4, E4) else K D4 E4 := by
    unfold xCl
    rw [hk, B1s, hm, B1s, if_neg (by decide)]
  rcases h with ⟨DX', DM', EM', q', c0, c1, c2, c3, c4, e1, e2, h1, h2⟩ | ⟨DX', DM', EM', e1, e2, h1⟩
  · exact Or.inl ⟨DX', DM', EM', q', c0, c1, c2, c3, c4, by rw [e0, e1, B1s, if_neg (by decide)], e2, h1, h2⟩
  · exact Or.inr ⟨DX', DM', EM', by rw [e0, e1, B1s, if_pos rfl], e2, h1⟩
theorem OutC.bad {q f s : Nat} {K : pD → pDL → Option pRes} {D1 D2 DM DM2 : pD} {EM : pDL} {y : Int32} {BM : Option pRes} (hx : FX D0 D1) (hM : FM D0 DM) (hk : Re_keyword D1 E = some (some (.inl y), D1, E)) (hm : Re_mayBegin y D1 E = some (some (.inl 0), D2, E)) (hf : xF D1 D2 f s) (hb : BM = some (some (.inl 0), DM2, EM)) (hg : mF DM DM2 f s) : OutC T n D0 E q K (xCl K D1 E) BM := by
  right
  refine ⟨D2, DM2, EM, ?_, hb, Fl.of hx hM hf hg⟩
  unfold xCl
  rw [hk, B1s, hm, B1s, if_pos rfl]
theorem clause {D1 DM : pD} {EM : pDL} {q s e c c0 c1 c2 c3 c4 : Nat} (K : pD → pDL → Option pRes) (hn : n ≤ 1200) (h8 : ∀ i, i < n → (T i).toInt8.toInt32 = T i) (R : Rd T n D0 D1 DM EM c0 c1 c2 c3 c4 c0 c1 c4) (ht : Tok T n q s e c) (hlx : lxM DM EM T s e c) (a8 : D1 17 0 8 = nI s) (a9 : D1 17 0 9 = nI e) (a10 : D1 17 0 10 = chT c) : OutC T n D0 E e K (xCl K D1 E) (Mo_readClause DM EM) := by
  have hle := ht.le
  obtain ⟨l1, l2, l3, l4, l5⟩ := id hlx
  obtain ⟨⟨n0, n1, n2, n3, n4⟩, ⟨x0, x1, x2, x3, x4⟩, ⟨m0, m1, m2, m3, m4⟩⟩ := R.2.2.1.1
  have RX := R.2.2.2.2.2.2.1
  have RM := R.2.2.2.2.2.2.2
  obtain ⟨y, z, hy, hz, hr⟩ : ∃ y z : Int32, Re_keyword D1 E = some (some (.inl y), D1, E) ∧ Mo_readClause DM EM = Mo_readClause_16 z DM EM ∧ ((y = -1 ∧ z = -1) ∨ (∃ k : Nat, k < 5 ∧ y = nI k ∧ z = nI k) ∨ (y = 10 ∧ z = 5) ∨ ∃ k : Nat, k < 5 ∧ y = nI (5 + k) ∧ z = nI (6 + k)) := by
    by_cases hc1 : c = 1
    · have h97 : D1 17 0 10 = 97 := by rw [a10]; exact (ch97 hle.2.2.2).mpr hc1
      refine ⟨kX T s e, kM T s e, X_key ⟨R.1.1, R.1.2.1, a8, a9⟩ hle.2.1 (by omega) h97, ?_, key_rel T s e⟩
      rw [e_Mo_readClause, l3, hc1, if_pos (by decide), (l4 hc1).1]
    · have h97 : ¬ D1 17 0 10 = 97 := by rw [a10]; exact fun z => hc1 ((ch97 hle.2.2.2).mp z)
      refine ⟨-1, -1, ?_, ?_, Or.inl ⟨rfl, rfl⟩⟩
      · rw [e_Re_keyword, if_neg h97]
      · rw [e_Mo_readClause, l3, if_neg (show ¬ nI c = (1 : Int32) from fun z => hc1 ((iE (b := 1) (by omega) (by omega)).mp z))]
  rw [hz]
  rcases hr with ⟨rfl, rfl⟩ | ⟨k, hk, rfl, rfl⟩ | ⟨rfl, rfl⟩ | ⟨k, hk, rfl, rfl⟩
  · obtain ⟨D2, g1, g2⟩ := X_ref (E := E) (D := D1) 1 a8
    obtain ⟨M2, g3, g4⟩ := M_fail (E := EM) (D := DM) 1 l1
    refine OutC.bad (EM := EM) RX RM hy ?_ g2 ?_ g4
    · rw [e_Re_mayBegin, if_pos rfl, show Re_refuse 1 _ E = _ from g1, B1s, if_pos and_00]
    · rw [e_Mo_readClause_16, if_neg (by decide), if_neg (by decide), if_neg (by decide), if_neg (by decide), if_neg (by decide), if_neg (by decide), m1_in, B1s, if_pos rfl, show Mo_fails 1 _ EM = _ from g3, B1s, if_pos and_00]
  · rcases lt5 hk with rfl | rfl | rfl | rfl | rfl
    · by_cases hc : c0 = 12
      · obtain ⟨D2, g1, g2⟩ := X_ref (E := E) (D := D1) 4 a8
        obtain ⟨M2, g3, g4⟩ := M_fail (E := EM) (D := DM) 4 l1
        refine OutC.bad (EM := EM) RX RM hy ?_ g2 ?_ g4
        · rw [e_Re_mayBegin, if_neg (by decide), if_pos (by decide), e_Re_mayBegin_39, if_neg (by decide), if_neg (by decide), e_Bk_roomFor, if_pos (by decide), B1s, show (nI 0).toNatClampNeg = 0 from rfl, x0, hc, if_neg (by decide), show Re_refuse 4 _ E = _ from g1, B1s, if_pos rfl]
        · rw [e_Mo_readClause_16, if_pos (by decide), e_Mo_readName, show (10 : Int32) + 0 = nI 10 from rfl, if_neg (iB (by omega) (by omega)), iC (by omega), m0, hc, if_pos (by decide), show Mo_fails 4 _ EM = _ from g3, B1s, if_pos and_00, B1s, if_pos rfl]
      · refine OutC.body hy ?_ ?_
        · rw [e_Re_mayBegin, if_neg (by decide), if_pos (by decide), e_Re_mayBegin_39, if_neg (by decide), if_neg (by decide), e_Bk_roomFor, if_pos (by decide), B1s, show (nI 0).toNatClampNeg = 0 from rfl, x0, if_pos (show nI c0 < (12 : Int32) from nI_lt (b := 12) (by omega) (by omega))]
        · rw [e_Re_readBody, if_pos (by decide)]
          exact (B_notion hn h8 R a9 (by omega) l2 (by omega)).wx
    · by_cases hc : c1 = 20
      · obtain ⟨D2, g1, g2⟩ := X_ref (E := E) (D := D1) 4 a8
        obtain ⟨M2, g3, g4⟩ := M_fail (E := EM) (D := DM) 4 l1
        refine OutC.bad (EM := EM) RX RM hy ?_ g2 ?_ g4
        · rw [e_Re_mayBegin, if_neg (by decide), if_pos (by decide), e_Re_mayBegin_39, if_neg (by decide), if_neg (by decide), e_Bk_roomFor, if_neg (by decide), if_pos (by decide), B1s, show (nI 1).toNatClampNeg = 1 from rfl, x1, hc, if_neg (by decide), show Re_refuse 4 _ E = _ from g1, B1s, if_pos rfl]
        · rw [e_Mo_readClause_16, if_neg (by decide), if_pos (by decide), e_Mo_readName, show (10 : Int32) + 1 = nI 11 from rfl, if_neg (iB (by omega) (by omega)), iC (by omega), m1, hc, if_pos (by decide), show Mo_fails 4 _ EM = _ from g3, B1s, if_pos and_00, B1s, if_pos rfl]
      · refine OutC.body hy ?_ ?_
        · rw [e_Re_mayBegin, if_neg (by decide), if_pos (by decide), e_Re_mayBegin_39, if_neg (by decide), if_neg (by decide), e_Bk_roomFor, if_neg (by decide), if_pos (by decide), B1s, show (nI 1).toNatClampNeg = 1 from rfl, x1, if_pos (show nI c1 < (20 : Int32) from nI_lt (b := 20) (by omega) (by omega))]
        · rw [e_Re_readBody, if_neg (by decide), if_pos (by decide)]
          exact (B_word hn h8 R a9 (by omega) l2 (by omega)).wx
    · by_cases hc : c2 = 24
      · obtain ⟨D2, g1, g2⟩ := X_ref (E := E) (D := D1) 4 a8
        obtain ⟨M2, g3, g4⟩ := M_fail (E := EM) (D := DM) 4 l1
        refine OutC.bad (EM := EM) RX RM hy ?_ g2 ?_ g4
        · rw [e_Re_mayBegin, if_neg (by decide), if_pos (by decide), e_Re_mayBegin_39, if_neg (by decide), if_neg (by decide), e_Bk_roomFor, if_neg (by decide), if_neg (by decide), if_pos (by decide), B1s, show (nI 2).toNatClampNeg = 2 from rfl, x2, hc, if_neg (by decide), show Re_refuse 4 _ E = _ from g1, B1s, if_pos rfl]
        · rw [e_Mo_readClause_16, if_neg (by decide), if_neg (by decide), if_pos (by decide), e_Mo_readPlace, m2, hc, if_pos (by decide), show Mo_fails 4 _ EM = _ from g3, B1s, if_pos and_00, B1s, if_pos and_00]
      · refine OutC.body hy ?_ ?_
        · rw [e_Re_mayBegin, if_neg (by decide), if_pos (by decide), e_Re_mayBegin_39, if_neg (by decide), if_neg (by decide), e_Bk_roomFor, if_neg (by decide), if_neg (by decide), if_pos (by decide), B1s, show (nI 2).toNatClampNeg = 2 from rfl, x2, if_pos (show nI c2 < (24 : Int32) from nI_lt (b := 24) (by omega) (by omega))]
        · rw [e_Re_readBody, if_neg (by decide), if_neg (by decide), if_pos (by decide), e_Mo_readClause_16, if_neg (by decide), if_neg (by decide), if_pos (by decide)]
          exact (B_place hn h8 R a9 (by omega) l2 (by omega)).wx.wm
    · by_cases hc : c3 = 20
      · obtain ⟨D2, g1, g2⟩ := X_ref (E := E) (D := D1) 4 a8
        obtain ⟨M2, g3, g4⟩ := M_fail (E := EM) (D := DM) 4 l1
        refine OutC.bad (EM := EM) RX RM hy ?_ g2 ?_ g4
        · rw [e_Re_mayBegin, if_neg (by decide), if_pos (by decide), e_Re_mayBegin_39, if_neg (by decide), if_neg (by decide), e_Bk_roomFor, if_neg (by decide), if_neg (by decide), if_neg (by decide), if_pos (by decide), B1s, show (nI 3).toNatClampNeg = 3 from rfl, x3, hc, if_neg (by decide), show Re_refuse 4 _ E = _ from g1, B1s, if_pos rfl]
        · rw [e_Mo_readClause_16, if_neg (by decide), if_neg (by decide), if_neg (by decide), if_pos (by decide), e_Mo_readTie, m3, hc, if_pos (by decide), show Mo_fails 4 _ EM = _ from g3, B1s, if_pos and_00, B1s, if_pos and_00]
      · refine OutC.body hy ?_ ?_
        · rw [e_Re_mayBegin, if_neg (by decide), if_pos (by decide), e_Re_mayBegin_39, if_neg (by decide), if_neg (by decide), e_Bk_roomFor, if_neg (by decide), if_neg (by decide), if_neg (by decide), if_pos (by decide), B1s, show (nI 3).toNatClampNeg = 3 from rfl, x3, if_pos (show nI c3 < (20 : Int32) from nI_lt (b := 20) (by omega) (by omega))]
        · rw [e_Re_readBody, if_neg (by decide), if_neg (by decide), if_neg (by decide), if_pos (by decide), e_Mo_readClause_16, if_neg (by decide), if_neg (by decide), if_neg (by decide), if_pos (by decide)]
          exact (B_tie hn h8 R a9 (by omega) l2 (by omega)).wx.wm
    · by_cases hc : c4 = 6
      · obtain ⟨D2, g1, g2⟩ := X_ref (E := E) (D := D1) 4 a8
        obtain ⟨M2, g3, g4⟩ := M_fail (E := EM) (D := DM) 4 l1
        refine OutC.bad (EM := EM) RX RM hy ?_ g2 ?_ g4
        · rw [e_Re_mayBegin, if_neg (by decide), if_pos (by decide), e_Re_mayBegin_39, if_neg (by decide), if_neg (by decide), e_Bk_roomFor, if_neg (by decide), if_neg (by decide), if_neg (by decide), if_neg (by decide), if_pos (by decide), B1s, show (nI 4).toNatClampNeg = 4 from rfl, x4, hc, if_neg (by decide), show Re_refuse 4 _ E = _ from g1, B1s, if_pos rfl]
        · rw [e_Mo_readClause_16, if_neg (by decide), if_neg (by decide), if_neg (by decide), if_neg (by decide), if_pos (by decide), e_Mo_readHearer, e_Mo_readName, show (10 : Int32) + 4 = nI 14 from rfl, if_neg (iB (by omega) (by omega)), iC (by omega), m4, hc, if_pos (by decide), show Mo_fails 4 _ EM = _ from g3, B1s, if_pos and_00, B1s, if_pos rfl, B1s, if_pos and_00]
      · refine OutC.body hy ?_ ?_
        · rw [e_Re_mayBegin, if_neg (by decide), if_pos (by decide), e_Re_mayBegin_39, if_neg (by decide), if_neg (by decide), e_Bk_roomFor, if_neg (by decide), if_neg (by decide), if_neg (by decide), if_neg (by decide), if_pos (by decide), B1s, show (nI 4).toNatClampNeg = 4 from rfl, x4, if_pos (show nI c4 < (6 : Int32) from nI_lt (b := 6) (by omega) (by omega))]
        · rw [e_Re_readBody, if_neg (by decide), if_neg (by decide), if_neg (by decide), if_neg (by decide), if_pos (by decide), e_Mo_readClause_16, if_neg (by decide), if_neg (by decide), if_neg (by decide), if_neg (by decide), if_pos (by decide)]
          exact (B_hearer hn h8 R a9 (by omega) l2 (by omega)).wx.wm
  · refine OutC.body hy ?_ ?_
    · rw [e_Re_mayBegin, if_neg (by decide), if_neg (by decide), if_pos (by decide), e_Re_mayBegin_39, if_pos (by decide)]
    · rw [e_Re_readBody, if_neg (by decide), if_neg (by decide), if_neg (by decide), if_neg (by decide), if_neg (by decide), if_neg (by decide), if_neg (by decide), if_neg (by decide), if_neg (by decide), if_neg (by decide), if_pos (by decide), e_Mo_readClause_16, if_neg (by decide), if_neg (by decide), if_neg (by decide), if_neg (by decide), if_neg (by decide), if_pos (by decide)]
      exact (B_weight hn h8 R a9 (by omega) l2).wx.wm
  · have hTd := R.2.2.1.2.2.2.2.2.2.2.2.2.1 k hk
    have mI : Mo_in (nI (6 + k)) 6 10 DM EM = some (some (.inl 1), DM, EM) := M_in_ok (lo := 6) (H := 11) (v := 6 + k) (by omega) (by omega) (by omega) (by omega) DM EM
    have mR : Mo_readClause_16 (nI (6 + k)) DM EM = pB1 (Mo_readTold (nI (6 + k)) DM EM) fun y D E => if y &&& 1 = y then some (some (.inl y), D, E) else none := by
      rw [e_Mo_readClause_16]
      obtain ⟨i0, i1, i2, i3, i4, i5⟩ := s6_ k hk
      rw [if_neg i0, if_neg i1, if_neg i2, if_neg i3, if_neg i4, if_neg i5, mI, B1s, if_neg (by decide)]
    obtain ⟨j0, j1, j2, j3⟩ := s5_ k hk
    by_cases hb : bt (D1 17 0 13) (5 + k) = true
    · obtain ⟨D2, g1, g2⟩ := X_ref (E := E) (D := D1) 3 a8
      obtain ⟨M2, g3, g4⟩ := M_fail (E := EM) (D := DM) 3 l1
      refine OutC.bad (EM := EM) RX RM hy ?_ g2 ?_ g4
      · rw [e_Re_mayBegin, if_neg j0, if_neg j1, if_neg j2, if_neg (by rw [bit0 (by omega), hb]; decide), show Re_refuse 3 _ E = _ from g1, B1s, if_pos and_00]
      · rw [mR, e_Mo_readTold, if_pos (by rw [bit1 (by omega), ← hTd]; exact hb), show Mo_fails 3 _ EM = _ from g3, B1s, if_pos and_00, B1s, if_pos and_00]
    · have hb' : bt (D1 17 0 13) (5 + k) = false := by simpa using hb
      refine OutC.body hy ?_ ?_
      · rw [e_Re_mayBegin, if_neg j0, if_neg j1, if_neg j2, if_pos (by rw [bit0 (by omega)]; exact hb'), e_Re_mayBegin_39, if_pos j3]
      · rw [mR]
        have := (B_setting (E := E) hn h8 R a9 (by omega) l2 hk hb').wx.wm
        have hx : Re_readBody (nI (5 + k)) D1 E = pB1 (Re_readSetting (nI (5 + k)) D1 E) fun y D E => if y &&& 1 = y then some (some (.inl y), D, E) else none := by
          rcases lt5 hk with rfl | rfl | rfl | rfl | rfl
          · rw [e_Re_readBody, if_neg (by decide), if_neg (by decide), if_neg (by decide), if_neg (by decide), if_neg (by decide), if_pos (by decide)]
          · rw [e_Re_readBody, if_neg (by decide), if_neg (by decide), if_neg (by decide), if_neg (by decide), if_neg (by decide), if_neg (by decide), if_pos (by decide)]
          · rw [e_Re_readBody, if_neg (by decide), if_neg (by decide), if_neg (by decide), if_neg (by decide), if_neg (by decide), if_neg (by decide), if_neg (by decide), if_pos (by decide)]
          · rw [e_Re_readBody, if_neg (by decide), if_neg (by decide), if_neg (by decide), if_neg (by decide), if_neg (by decide), if_neg (by decide), if_neg (by decide), if_neg (by decide), if_pos (by decide)]
          · rw [e_Re_readBody, if_neg (by decide), if_neg (by decide), if_neg (by decide), if_neg (by decide), if_neg (by decide), if_neg (by decide), if_neg (by decide), if_neg (by decide), if_neg (by decide), if_pos (by decide)]
        rw [hx]
        exact this
end CLAUSE
