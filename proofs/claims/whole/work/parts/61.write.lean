/-! CALLS THAT WRITE: moves, heard, right, feed -/
theorem hiz {x : Int32} : x &&& (-16777216) = 0 ↔ ∃ m : Nat, m < 16777216 ∧ x = nI m := by
  obtain ⟨n, hn, rfl, -⟩ := of_nI x
  have e1 : (-16777216 : Int32) = nI 4278190080 := by decide
  have e2 : n &&& 4278190080 = 16777216 * (n / 16777216) := by
    have h1 : n = 2 ^ 24 * (n / 16777216) + n % 16777216 := by omega
    have h2 : 4278190080 = 2 ^ 24 * 255 + 0 := by omega
    have h3 : (n / 16777216) &&& 255 = n / 16777216 := by
      rw [Nat.and_two_pow_sub_one_eq_mod (n / 16777216) 8]
      omega
    have h4 := land_sp 24 (n % 16777216) 0 (n / 16777216) 255 (by omega) (by omega)
    rw [← h1, ← h2, h3, Nat.and_zero] at h4
    rw [h4]
    omega
  rw [e1, andN hn (by omega), e2]
  constructor
  · intro h
    have := congrArg (fun x : Int32 => x.toBitVec.toNat) h
    rw [pk_tn (by omega)] at this
    have z : (0 : Int32).toBitVec.toNat = 0 := by decide
    rw [z] at this
    exact ⟨n, by omega, rfl⟩
  · intro ⟨m, hm, e⟩
    have := congrArg (fun x : Int32 => x.toBitVec.toNat) e
    rw [pk_tn hn, pk_tn (by omega)] at this
    rw [show 16777216 * (n / 16777216) = 0 by omega]
    rfl
/-- the latest year of a word -/
def lat (D : pD) (x : Int32) : Nat → Int32
  | 0 => 0
  | n + 1 => if D 60 0 n = x then D 61 0 n else lat D x n
theorem X_lat {cM : Nat} (hM : cM ≤ 40) (x : Int32) (D : pD) (E : pDL) (h : D 59 0 6 = nI cM) : Ye_latestOf x D E = some (some (.inl (lat D x cM)), D, E) := by
  rw [e_Ye_latestOf]
  refine (z0 (fun k => Ye_latestOf_4 x (lat D x k) (nI k) D E) cM (fun k hk => ?_)).trans ?_
  · show Ye_latestOf_4 _ _ _ _ _ = Ye_latestOf_4 _ _ _ _ _
    rw [e_Ye_latestOf_4, h, lat]
    by_cases c : D 60 0 k = x
    · simp (disch := omega) only [sC, sN, sN0, sLL, sTT, sEE, sM1, sF, sGt, sLe, sLt, sNe, or_false, or_true, false_or, true_or, or_self, if_true, if_false, not_true_eq_false, not_false_eq_true, B1s, B0s, B2s, c, ca1]
    · simp (disch := omega) only [sC, sN, sN0, sLL, sTT, sEE, sM1, sF, sGt, sLe, sLt, sNe, or_false, or_true, false_or, true_or, or_self, if_true, if_false, not_true_eq_false, not_false_eq_true, B1s, B0s, B2s, c, ca1]
  · show Ye_latestOf_4 _ _ _ _ _ = _
    rw [e_Ye_latestOf_4, h, if_pos (nI_le (Nat.le_refl _) (by omega))]
theorem lat_src (D : pD) (x : Int32) : ∀ n, lat D x n = 0 ∨ ∃ j, j < n ∧ D 60 0 j = x ∧ lat D x n = D 61 0 j
  | 0 => Or.inl rfl
  | n + 1 => by
    rw [lat]
    by_cases c : D 60 0 n = x
    · rw [if_pos c]
      exact Or.inr ⟨n, by omega, c, rfl⟩
    · rw [if_neg c]
      rcases lat_src D x n with h | ⟨j, hj, e1, e2⟩
      · exact Or.inl h
      · exact Or.inr ⟨j, by omega, e1, e2⟩
theorem lat_max {D : pD} {x : Int32} {cM : Nat} (hs : ∀ i j, i < j → j < cM → D 60 0 i = D 60 0 j → D 61 0 i ≤ D 61 0 j) : ∀ n, n ≤ cM → ∀ i, i < n → D 60 0 i = x → D 61 0 i ≤ lat D x n
  | 0, _, i, hi, _ => absurd hi (by omega)
  | n + 1, hn, i, hi, e => by
    rw [lat]
    by_cases c : D 60 0 n = x
    · rw [if_pos c]
      by_cases q : i = n
      · rw [q]
        exact Int32.le_refl _
      · exact hs i n (by omega) (by omega) (e.trans c.symm)
    · rw [if_neg c]
      have : i ≠ n := fun q => c (q ▸ e)
      exact lat_max hs n (by omega) i (by omega) e
theorem M_mv_no {cM : Nat} (hM : cM ≤ 40) {x y z : Int32} {D : pD} {E : pDL} (h : D 100 0 44 = nI cM) {j : Nat} (hj : j < cM) (e1 : D 132 0 j = x) (e2 : ¬ D 133 0 j ≤ y) : ∀ (n k : Nat), k + n = j → Mo_moves_36 x y z (nI k) D E = some (some (.inl (-2)), D, E)
  | 0, k, hk => by
    obtain rfl : k = j := by omega
    rw [e_Mo_moves_36, h]
    simp (disch := omega) only [sC, sN, sN0, sLL, sTT, sEE, sM1, sF, sGt, sLe, sLt, sNe, or_false, or_true, false_or, true_or, or_self, if_true, if_false, not_true_eq_false, not_false_eq_true, B1s, B0s, B2s, e1, e2]
  | n + 1, k, hk => by
    have ih := M_mv_no hM (z := z) (E := E) h hj e1 e2 n (k + 1) (by omega)
    rw [e_Mo_moves_36, h]
    by_cases c1 : D 132 0 k = x
    · by_cases c2 : D 133 0 k ≤ y
      · simp (disch := omega) only [sC, sN, sN0, sLL, sTT, sEE, sM1, sF, sGt, sLe, sLt, sNe, or_false, or_true, false_or, true_or, or_self, if_true, if_false, not_true_eq_false, not_false_eq_true, B1s, B0s, B2s, c1, c2, ca1, ih]
      · simp (disch := omega) only [sC, sN, sN0, sLL, sTT, sEE, sM1, sF, sGt, sLe, sLt, sNe, or_false, or_true, false_or, true_or, or_self, if_true, if_false, not_true_eq_false, not_false_eq_true, B1s, B0s, B2s, c1, c2]
    · simp (disch := omega) only [sC, sN, sN0, sLL, sTT, sEE, sM1, sF, sGt, sLe, sLt, sNe, or_false, or_true, false_or, true_or, or_self, if_true, if_false, not_true_eq_false, not_false_eq_true, B1s, B0s, B2s, c1, ca1, ih]
theorem M_mv_yes {cM : Nat} (hM : cM ≤ 40) {x y z : Int32} {D : pD} {E : pDL} (h : D 100 0 44 = nI cM) (ha : ∀ j, j < cM → D 132 0 j = x → D 133 0 j ≤ y) : Mo_moves_36 x y z 0 D E = Mo_moves_36 x y z (nI cM) D E := by
  refine z0 (fun k => Mo_moves_36 x y z (nI k) D E) cM (fun k hk => ?_)
  show Mo_moves_36 _ _ _ _ _ _ = Mo_moves_36 _ _ _ _ _ _
  rw [e_Mo_moves_36, h]
  by_cases c1 : D 132 0 k = x
  · simp (disch := omega) only [sC, sN, sN0, sLL, sTT, sEE, sM1, sF, sGt, sLe, sLt, sNe, or_false, or_true, false_or, true_or, or_self, if_true, if_false, not_true_eq_false, not_false_eq_true, B1s, B0s, B2s, c1, ha k hk c1, ca1]
  · simp (disch := omega) only [sC, sN, sN0, sLL, sTT, sEE, sM1, sF, sGt, sLe, sLt, sNe, or_false, or_true, false_or, true_or, or_self, if_true, if_false, not_true_eq_false, not_false_eq_true, B1s, B0s, B2s, c1, ca1]
/-- moves -/
theorem L_moves (x y z : Int32) (D : pD) (E : pDL) (h : Inv D) : Same D E (Hb_moves x y z) (Mo_moves x y z) := by
  have hh := h
  obtain ⟨cN, cW, cP, cT, cH, hT, hF, hB, hN, hK, hG, hY, hL⟩ := h
  obtain ⟨⟨⟨n1, n2, n3, n4, n5⟩, ⟨a1, a2, a3, a4, a5⟩, ⟨b1, b2, b3, b4, b5⟩⟩, hS, hW, hGS, r1, r2, r3, r4, r5, r6⟩ := id hB
  obtain ⟨cM, m0, m1, m2, m3, m4⟩ := id hY
  rcases ixc x (n := cW) (by omega) with hx | ⟨w, hw, rfl⟩
  · exact Same.ro (v := -2) hh (by rw [e_Hb_moves, has1_n D E a2 hx, B1s, if_pos rfl]) (by rw [e_Mo_moves, is1_n D E b2 (by omega) hx, B1s, if_pos rfl])
  · have xl := X_lat m0 (nI w) D E m1
    have l0 : ¬ lat D (nI w) cM < 0 := by
      rcases lat_src D (nI w) cM with e | ⟨j, hj, -, e⟩
      · rw [e]
        decide
      · rw [e]
        exact fun q => (m3 j hj).2.2.2.2 (Or.inl q)
    rcases ixc y (n := 2001) (by omega) with hy | ⟨m, hm, rfl⟩
    · refine Same.ro (v := -2) hh ?_ (by rw [e_Mo_moves, is1_y D E b2 (by omega) hw, B1s, if_neg (by decide), (year_out D E hy).2, B1s, if_pos rfl])
      rw [e_Hb_moves, has1_y D E a2 hw (by omega), B1s, if_neg (by decide), xl, B1s]
      by_cases c : y < lat D (nI w) cM
      · rw [if_pos c]
      · rw [if_neg c]
        have h0 : ¬ y < 0 := fun q => by
          rw [← Int32.not_le, Classical.not_not] at c
          rw [Int32.lt_iff_toInt_lt] at q l0
          rw [Int32.le_iff_toInt_le] at c
          omega
        rw [if_pos (show (2000 : Int32) < y from lt_of (hy.resolve_left h0) (m := 2000) (by omega) (by omega))]
    · have yi := (year_in D E hm).2
      rcases ixc z (n := 16777216) (by omega) with hz | ⟨s, hs, rfl⟩
      · refine Same.ro (v := -2) hh ?_ (by rw [e_Mo_moves, is1_y D E b2 (by omega) hw, B1s, if_neg (by decide), yi, B1s, if_neg (by decide), in_out D E 16777216 (by decide) (by omega) hz, B1s, if_pos rfl])
        have hne : ¬ z &&& (-16777216) = 0 := fun q => by
          obtain ⟨s, hs, e⟩ := hiz.mp q
          exact out_ne hz (by omega) hs e
        rw [e_Hb_moves, has1_y D E a2 hw (by omega), B1s, if_neg (by decide), xl, B1s, if_neg (nnl 2000 (k := m) (by omega) (by omega)), if_neg hne]
        split <;> rfl
      · have zi := in_in D E (m := 16777215) 16777216 (by decide) (by omega) hs
        have z0' : nI s &&& (-16777216) = 0 := hiz.mpr ⟨s, hs, rfl⟩
        by_cases c : nI m < lat D (nI w) cM
        · refine Same.ro (v := -2) hh (by rw [e_Hb_moves, has1_y D E a2 hw (by omega), B1s, if_neg (by decide), xl, B1s, if_pos c]) ?_
          rw [e_Mo_moves, is1_y D E b2 (by omega) hw, B1s, if_neg (by decide), yi, B1s, if_neg (by decide), zi, B1s, if_neg (by decide)]
          rcases lat_src D (nI w) cM with e | ⟨j, hj, e1, e2⟩
          · rw [e] at c
            exact absurd c (iN (by omega))
          · exact M_mv_no m0 m2 hj ((m3 j hj).1.trans e1) (by rw [(m3 j hj).2.1, ← e2, iNL]; exact fun q => q c) j 0 (by omega)
        · have hall : ∀ j, j < cM → D 60 0 j = nI w → D 61 0 j ≤ nI m := fun j hj e => by
            have h1 := lat_max m4 cM (Nat.le_refl _) j hj e
            rw [← Int32.not_le, Classical.not_not] at c
            exact Int32.le_trans h1 c
          have hallM : ∀ j, j < cM → D 132 0 j = nI w → D 133 0 j ≤ nI m := fun j hj e => by
            rw [(m3 j hj).2.1]
            exact hall j hj ((m3 j hj).1.symm.trans e)
          by_cases hf : cM = 40
          · refine Same.ro (v := -3) hh ?_ ?_
            · rw [e_Hb_moves, has1_y D E a2 hw (by omega), B1s, if_neg (by decide), xl, B1s, if_neg c, if_neg (nnl 2000 (k := m) (by omega) (by omega)), if_pos z0', e_Ye_isFull, m1, hf, if_neg (by decide), B1s, if_neg (by decide)]
            · rw [e_Mo_moves, is1_y D E b2 (by omega) hw, B1s, if_neg (by decide), yi, B1s, if_neg (by decide), zi, B1s, if_neg (by decide), M_mv_yes m0 m2 hallM, e_Mo_moves_36, m2, if_pos (nI_le (Nat.le_refl _) (by omega)), hf, if_pos (show nI 40 = (40 : Int32) from rfl)]
          · have hlt : cM < 40 := by omega
            refine Bo.of (v := nI (cM + 1)) (D1 := dset (dset (dset (dset D 60 0 cM (nI w)) 61 0 cM (nI m)) 62 0 cM (nI s)) 59 0 6 (nI (cM + 1))) (E1 := E) (D2 := dset (dset (dset (dset D 132 0 cM (nI w)) 133 0 cM (nI m)) 134 0 cM (nI s)) 100 0 44 (nI (cM + 1))) (E2 := E) ⟨_, _, _, _, by repeat first | exact okL_nil | refine okL_n ?_ | refine okL_i ?_ | refine okL_r (by decide) ?_, fun _ _ => rfl⟩ ⟨_, _, _, _, by repeat first | exact okL_nil | refine okL_n ?_ | refine okL_i ?_ | refine okL_r (by decide) ?_, fun _ _ => rfl⟩ ?_ ?_ ?_
            · rw [e_Hb_moves, has1_y D E a2 hw (by omega), B1s, if_neg (by decide), xl, B1s, if_neg c, if_neg (nnl 2000 (k := m) (by omega) (by omega)), if_pos z0', e_Ye_isFull]
              simp (disch := omega) only [sC, sN, sN0, sLL, sTT, sEE, sM1, sF, sGt, sLe, sLt, sNe, or_false, or_true, false_or, true_or, or_self, if_true, if_false, not_true_eq_false, not_false_eq_true, B1s, B0s, B2s, m1, cl40, cn40, ct40, cu40, ce40, cf40, e_Ye_append, ca1]
            · rw [e_Mo_moves, is1_y D E b2 (by omega) hw, B1s, if_neg (by decide), yi, B1s, if_neg (by decide), zi, B1s, if_neg (by decide), M_mv_yes m0 m2 hallM, e_Mo_moves_36]
              simp (disch := omega) only [sC, sN, sN0, sLL, sTT, sEE, sM1, sF, sGt, sLe, sLt, sNe, or_false, or_true, false_or, true_or, or_self, if_true, if_false, not_true_eq_false, not_false_eq_true, B1s, B0s, B2s, m2, cl40, cn40, ct40, cu40, ce40, cf40, ca1]
            · rw [cmb_sm (by decide), cmb_sm (by decide), cmb_sm (by decide), cmb_sm (by decide), cmb_sx (by decide), cmb_sx (by decide), cmb_sx (by decide), cmb_sx (by decide), cmb_self]
              generalize hD' : dset (dset (dset (dset (dset (dset (dset (dset D 60 0 cM (nI w)) 61 0 cM (nI m)) 62 0 cM (nI s)) 59 0 6 (nI (cM + 1))) 132 0 cM (nI w)) 133 0 cM (nI m)) 134 0 cM (nI s)) 100 0 44 (nI (cM + 1)) = D'
              have k1 : Ko [60, 61, 62, 59, 132, 133, 134, 100] D D' := by
                rw [← hD']
                exact (((((((Ko.rf.set (by decide) _ _ _).set (by decide) _ _ _).set (by decide) _ _ _).set (by decide) _ _ _).set (by decide) _ _ _).set (by decide) _ _ _).set (by decide) _ _ _).set (by decide) _ _ _
              have c100 : ∀ i, i ≠ 44 → D' 100 0 i = D 100 0 i := fun i hi => by
                rw [← hD', dsA, if_neg hi]
                simp (disch := decide) only [dsN]
              have f60 : ∀ i, D' 60 0 i = if i = cM then nI w else D 60 0 i := fun i => by rw [← hD']; simp (disch := decide) only [dsN, dsA]
              have f61 : ∀ i, D' 61 0 i = if i = cM then nI m else D 61 0 i := fun i => by rw [← hD']; simp (disch := decide) only [dsN, dsA]
              have f62 : ∀ i, D' 62 0 i = if i = cM then nI s else D 62 0 i := fun i => by rw [← hD']; simp (disch := decide) only [dsN, dsA]
              have f132 : ∀ i, D' 132 0 i = if i = cM then nI w else D 132 0 i := fun i => by rw [← hD']; simp (disch := decide) only [dsN, dsA]
              have f133 : ∀ i, D' 133 0 i = if i = cM then nI m else D 133 0 i := fun i => by rw [← hD']; simp (disch := decide) only [dsN, dsA]
              have f134 : ∀ i, D' 134 0 i = if i = cM then nI s else D 134 0 i := fun i => by rw [← hD']; simp (disch := decide) only [dsN, dsA]
              have f59 : D' 59 0 6 = nI (cM + 1) := by rw [← hD']; simp (disch := decide) only [dsN, dsA, if_true]
              have f44 : D' 100 0 44 = nI (cM + 1) := by rw [← hD']; simp (disch := decide) only [dsA, if_true]
              refine ⟨cN, cW, cP, cT, cH, hT.fr (k1.at (by decide)) (k1.c (by decide) _) (c100 _ (by decide)), hF.fr (k1.c (by decide) _) (k1.c (by decide) _) (c100 _ (by decide)) (c100 _ (by decide)), hB.ko k1 (by decide), hN.ko k1 (by decide), hK.ko k1 (by decide), hG.ko k1 (by decide), ⟨cM + 1, by omega, f59, f44, fun i hi => ?_, fun i j hij hj e => ?_⟩, hL.fr (k1.at (by decide)) (k1.c (by decide) _) (k1.c (by decide) _) (k1.c (by decide) _) (c100 _ (by decide)) (c100 _ (by decide)) (c100 _ (by decide))⟩
              · rw [f60, f61, f62, f132, f133, f134]
                by_cases q : i = cM
                · rw [if_pos q, if_pos q, if_pos q, if_pos q, if_pos q, if_pos q]
                  exact ⟨rfl, rfl, rfl, w_in hw (by omega), w_in hm (by omega)⟩
                · rw [if_neg q, if_neg q, if_neg q, if_neg q, if_neg q, if_neg q]
                  exact m3 i (by omega)
              · rw [f60, f60, if_neg (by omega)] at e
                rw [f61, f61, if_neg (by omega)]
                by_cases q : j = cM
                · rw [if_pos q] at e ⊢
                  exact hall i (by omega) e
                · rw [if_neg q] at e ⊢
                  exact m4 i j hij (by omega) e
