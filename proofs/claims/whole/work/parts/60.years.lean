/-! YEARS: moves, lostIn, turned, until -/
/-- a word's traits in a year, behind n moves, as the class has them -/
def xv (D : pD) (y : Int32) (w : Nat) : Nat → Int32
  | 0 => D 9 0 w
  | n + 1 => if ¬ y < D 61 0 n ∧ D 60 0 n = nI w then D 62 0 n else xv D y w n
theorem xv_ko {ks : List Nat} {D D' : pD} (hk : Ko ks D D') (hs : ∀ k ∈ [9, 60, 61, 62], k ∉ ks) (y : Int32) (w : Nat) : ∀ n, xv D' y w n = xv D y w n
  | 0 => hk.c (hs 9 (by decide)) w
  | n + 1 => by rw [xv, xv, xv_ko hk hs y w n, hk.c (hs 60 (by decide)), hk.c (hs 61 (by decide)), hk.c (hs 62 (by decide))]
theorem X_words_loop {cW cM : Nat} (hW : cW ≤ 20) (hM : cM ≤ 40) (y : Int32) (D : pD) (E : pDL) (h6 : D 59 0 6 = nI cM) (hv : ∀ i, i < cM → vp_in (D 60 0 i) cW) : ∀ (n k : Nat) (D1 : pD), k + n = cM → Ko [63] D D1 → (∀ w, w < 20 → D1 63 0 w = xv D y w k) → ∃ D2, Ye_wordsIn_20 y (nI k) D1 E = some (some (.inr (.inr (63, 0))), D2, E) ∧ Ko [63] D D2 ∧ ∀ w, w < 20 → D2 63 0 w = xv D y w cM
  | 0, k, D1, h, h1, h2 => by
    obtain rfl : k = cM := by omega
    exact ⟨D1, by rw [e_Ye_wordsIn_20, h1.c (by decide), h6, if_pos (nI_le (Nat.le_refl _) (by omega))], h1, h2⟩
  | n + 1, k, D1, h, h1, h2 => by
    obtain ⟨j, hj, ej⟩ := vp_in_of (hv k (by omega)) (by omega)
    by_cases c : y < D 61 0 k
    · obtain ⟨D2, e, r⟩ := X_words_loop hW hM y D E h6 hv n (k + 1) D1 (by omega) h1 (fun w hw => by rw [h2 w hw, xv, if_neg (fun z => z.1 c)])
      refine ⟨D2, ?_, r⟩
      rw [e_Ye_wordsIn_20, h1.c (k := 59) (by decide), h6]
      simp (disch := omega) only [sC, sN, sN0, sLL, sTT, sEE, sM1, sF, sGt, sLe, sLt, sNe, or_false, or_true, false_or, true_or, or_self, if_true, if_false, not_true_eq_false, not_false_eq_true, B1s, B0s, B2s, h1.c (k := 61) (by decide), c, ca1, e]
    · obtain ⟨D2, e, r⟩ := X_words_loop hW hM y D E h6 hv n (k + 1) (dset D1 63 0 j (D 62 0 k)) (by omega) (h1.set (by decide) _ _ _) (fun w hw => by
        rw [dsA, xv, ej]
        by_cases q : w = j
        · rw [if_pos q, if_pos ⟨c, by rw [q]⟩]
        · rw [if_neg q, if_neg (fun z => q ((iE (by omega) (by omega)).mp z.2).symm), h2 w hw])
      refine ⟨D2, ?_, r⟩
      rw [e_Ye_wordsIn_20, h1.c (k := 59) (by decide), h6]
      simp (disch := omega) only [sC, sN, sN0, sLL, sTT, sEE, sM1, sF, sGt, sLe, sLt, sNe, or_false, or_true, false_or, true_or, or_self, if_true, if_false, not_true_eq_false, not_false_eq_true, B1s, B0s, B2s, h1.c (k := 61) (by decide), h1.c (k := 60) (by decide), h1.c (k := 62) (by decide), ej, c, ca1, e]
theorem cpy_20 {f g : Nat → Int32} {p : Nat} (h : p < 20) : va_cpy f g 0 0 20 p = f p := by
  unfold va_cpy
  rw [if_pos (by omega), show 0 + (p - 0) = p by omega]
theorem X_words {cW cM : Nat} (hW : cW ≤ 20) (hM : cM ≤ 40) (y : Int32) (D : pD) (E : pDL) (h6 : D 59 0 6 = nI cM) (hv : ∀ i, i < cM → vp_in (D 60 0 i) cW) : ∃ D2, Ye_wordsIn y D E = some (some (.inr (.inr (63, 0))), D2, E) ∧ Ko [63] D D2 ∧ ∀ w, w < 20 → D2 63 0 w = xv D y w cM := by
  rw [e_Ye_wordsIn]
  exact X_words_loop hW hM y D E h6 hv cM 0 _ (by omega) (Ko.rf.cpy (by decide) _ _ _ _) (fun w hw => by rw [dcE, cpy_20 hw]; rfl)
/-- LOST at a place in a year -/
def LY (D : pD) (cM : Nat) (y : Int32) (p : Nat) : Int32 := lA (D 5 0 0) (D 5 0 1) (D 5 0 3) (D 5 0 2) (D 6 0) (D 11 0 p) (D 8 0 (pN D p)) (D 47 0 p) (tA (fun w => xv D y w cM) (D 44 0 p) (D 45 0 p) (D 46 0 p)) (D 43 0 p) (D 45 0 p) (D 46 0 p)
theorem tO_cong {f g : Nat → Int32} (h : ∀ w, w < 20 → f w = g w) (x : Int32) : tO f x = tO g x := by
  unfold tO
  rcases ixc x (n := 20) (by omega) with hx | ⟨j, hj, rfl⟩
  · rw [if_pos hx, if_pos hx]
  · rw [if_neg (by simp (disch := omega) only [sN, sLL, false_or]; omega), if_neg (by simp (disch := omega) only [sN, sLL, false_or]; omega), iC (by omega)]
    exact h j hj
theorem tA_cong {f g : Nat → Int32} (h : ∀ w, w < 20 → f w = g w) (a b c : Int32) : tA f a b c = tA g a b c := by
  unfold tA
  rw [tO_cong h, tO_cong h, tO_cong h]
theorem LY_ko {ks : List Nat} {D D' : pD} (hk : Ko ks D D') (hs : ∀ k ∈ [5, 6, 8, 9, 10, 11, 43, 44, 45, 46, 47, 60, 61, 62], k ∉ ks) (cM : Nat) (y : Int32) (p : Nat) : LY D' cM y p = LY D cM y p := by
  have e := hk.at hs
  unfold LY pN
  rw [e 5 (by decide), e 6 (by decide), e 8 (by decide), e 10 (by decide), e 11 (by decide), e 43 (by decide), e 44 (by decide), e 45 (by decide), e 46 (by decide), e 47 (by decide)]
  rw [show (fun w => xv D' y w cM) = (fun w => xv D y w cM) from funext fun w => xv_ko hk (fun k q => hs k (by revert q; revert k; decide)) y w cM]
theorem X_LY {D D2 : pD} {cM : Nat} {y : Int32} {ks : List Nat} (hk : Ko ks D D2) (hs : ∀ k ∈ [5, 6, 8, 9, 10, 11, 43, 44, 45, 46, 47, 60, 61, 62], k ∉ ks) (h : ∀ w, w < 20 → D2 63 0 w = xv D y w cM) (p : Nat) : Rn_lostAt_years_words_v D2 p = LY D cM y p := by
  have e := hk.at hs
  unfold Rn_lostAt_years_words_v LY pN
  rw [e 5 (by decide), e 6 (by decide), e 8 (by decide), e 10 (by decide), e 11 (by decide), e 43 (by decide), e 44 (by decide), e 45 (by decide), e 46 (by decide), e 47 (by decide), tA_cong h]
theorem mv_xv {cW cM : Nat} {D : pD} (hm : ∀ i, i < cM → D 132 0 i = D 60 0 i ∧ D 133 0 i = D 61 0 i ∧ D 134 0 i = D 62 0 i ∧ vp_in (D 60 0 i) cW ∧ vp_in (D 61 0 i) 2001) {y : Int32} (hy : ¬ y < 0) (w : Nat) (h9 : D 106 0 w = D 9 0 w) : ∀ n, n ≤ cM → mv (D 132 0) (D 133 0) (D 134 0) y (nI w) (D 106 0 w) n = xv D y w n
  | 0, _ => by rw [mv, xv, h9]
  | n + 1, hn => by
    obtain ⟨e1, e2, e3, -⟩ := hm n (by omega)
    rw [mv, xv, mv_xv hm hy w h9 n (by omega), e1, e2, e3]
    by_cases c : ¬ y < D 61 0 n ∧ D 60 0 n = nI w
    · rw [if_pos c, if_pos ⟨hy, c.2, c.1⟩]
    · rw [if_neg c, if_neg (fun z => c ⟨z.2.2, z.2.1⟩)]
theorem M_LY {cN cW cP cT cH cM : Nat} {D : pD} (h : iBook cN cW cP cT cH D) (hN : iNow cW cP D) (hm : ∀ i, i < cM → D 132 0 i = D 60 0 i ∧ D 133 0 i = D 61 0 i ∧ D 134 0 i = D 62 0 i ∧ vp_in (D 60 0 i) cW ∧ vp_in (D 61 0 i) 2001) {y : Int32} (hy : ¬ y < 0) {p : Nat} (hp : p < cP) : lMv D cM y p = LY D cM y p := by
  have n2 := h.1.1.2.1
  refine ren_lost h hN (wt := fun w => xv D y w cM) (fun x hx => ?_) hp
  obtain ⟨j, hj, rfl⟩ := vp_in_of hx (by omega)
  unfold mT
  rw [iC (by omega)]
  exact mv_xv hm hy j (h.2.2.2.2.2.1 j hj) cM (Nat.le_refl _)
theorem cmb_ko {ks : List Nat} {D D' : pD} (h : Ko ks D D') (hs : ∀ k ∈ ks, k < 100) : cmb D' D = D' := by
  funext k
  by_cases c : k < 100
  · rw [cmb_x c]
  · rw [cmb_m c, h k (fun z => c (hs k z))]
theorem year_in (D : pD) (E : pDL) {m : Nat} (h : m < 2001) : Hb_isYear (nI m) D E = some (some (.inl 1), D, E) ∧ Mo_in (nI m) 0 2000 D E = some (some (.inl 1), D, E) :=
  ⟨by rw [e_Hb_isYear, if_neg (iN (by omega)), if_neg (nnl 2000 (by omega) (by omega))], in_in D E 2001 (by decide) (by omega) h⟩
theorem year_out (D : pD) (E : pDL) {x : Int32} (h : x < 0 ∨ nI 2001 ≤ x) : Hb_isYear x D E = some (some (.inl 0), D, E) ∧ Mo_in x 0 2000 D E = some (some (.inl 0), D, E) := by
  refine ⟨?_, in_out D E 2001 (by decide) (by omega) h⟩
  rw [e_Hb_isYear]
  by_cases h0 : x < 0
  · rw [if_pos h0]
  · rw [if_neg h0, if_pos (show (2000 : Int32) < x from lt_of (h.resolve_left h0) (m := 2000) (by omega) (by omega))]
/-- lostIn -/
theorem L_lostIn (x : Int32) (D : pD) (E : pDL) (h : Inv D) : Same D E (Hb_lostIn x) (Mo_lostIn x) := by
  have hh := h
  obtain ⟨cN, cW, cP, cT, cH, hT, hF, hB, hN, hK, hG, hY, hL⟩ := h
  obtain ⟨⟨⟨n1, n2, n3, n4, n5⟩, ⟨a1, a2, a3, a4, a5⟩, ⟨b1, b2, b3, b4, b5⟩⟩, hS, hW, hGS, r1, r2, r3, r4, r5, r6⟩ := id hB
  obtain ⟨cM, m0, m1, m2, m3, m4⟩ := id hY
  rcases ixc x (n := 2001) (by omega) with hx | ⟨m, hm, rfl⟩
  · exact Same.ro (v := -2) hh (by rw [e_Hb_lostIn, (year_out D E hx).1, B1s, if_pos rfl]) (by rw [e_Mo_lostIn, (year_out D E hx).2, B1s, if_pos rfl])
  · obtain ⟨D2, e1, k2, w2⟩ := X_words n2 m0 (nI m) D E m1 (fun i hi => (m3 i hi).2.2.2.1)
    have hB' := hB.ko k2 (by decide)
    refine Bo.of (v := iS (LY D cM (nI m)) cP) (D1 := D2) (E1 := E) (D2 := D) (E2 := E) ⟨_, _, _, _, by repeat first | exact okL_nil | refine okL_n ?_ | refine okL_i ?_ | refine okL_r (by decide) ?_, fun _ _ => rfl⟩ ⟨_, _, _, _, by repeat first | exact okL_nil | refine okL_n ?_ | refine okL_i ?_ | refine okL_r (by decide) ?_, fun _ _ => rfl⟩ ?_ ?_ ?_
    · rw [e_Hb_lostIn, (year_in D E hm).1, B1s, if_neg (by decide), e1, B2s, Rn_lostOfAll_years_words_spec n3 D2 E hB'.bk hB'.1.2.1.2.2.1, B1s, iS_cong (fun p _ => X_LY k2 (by decide) w2 p)]
    · rw [e_Mo_lostIn, (year_in D E hm).2, B1s, if_neg (by decide), Mo_lostAll_spec (nI m) D E (hN.mo hB m0 m2), B1s, iS_cong (fun p hp => M_LY hB hN m3 (iN (by omega)) hp)]
    · rw [cmb_ko k2 (by decide)]
      exact hh.ko k2 (by decide) (fun i _ => k2.c (by decide) i)
/-- turned -/
theorem X_turn_loop {cN cW cP cT cH cM : Nat} {D : pD} {E : pDL} (hB : iBook cN cW cP cT cH D) (m0 : cM ≤ 40) (m1 : D 59 0 6 = nI cM) (m3 : ∀ i, i < cM → vp_in (D 60 0 i) cW) (x y : Int32) : ∀ (n k : Nat) (D1 : pD), k + n = cP → Ko [63, 64] D D1 → (∀ w, w < 20 → D1 63 0 w = xv D y w cM) → (∀ p, p < k → D1 64 0 p = LY D cM y p) → ∃ D2, Ye_turns_years_words_11 x (nI k) D1 E = Ye_turns_years_words_58 0 0 D2 E ∧ Ko [63, 64] D D2 ∧ (∀ w, w < 20 → D2 63 0 w = xv D x w cM) ∧ ∀ p, p < cP → D2 64 0 p = LY D cM y p
  | 0, k, D1, h, k1, w1, f1 => by
    obtain rfl : k = cP := by omega
    have n2 := hB.1.1.2.1
    have n3 := hB.1.1.2.2.1
    obtain ⟨D2, e1, k2, w2⟩ := X_words n2 m0 x D1 E (by rw [k1.c (by decide), m1]) (fun i hi => by rw [k1.c (by decide)]; exact m3 i hi)
    refine ⟨D2, ?_, k1.tr (k2.sub (by decide)), fun w hw => ?_, fun p hp => ?_⟩
    · rw [e_Ye_turns_years_words_11, k1.c (by decide), hB.1.2.1.2.2.1, if_pos (nI_le (Nat.le_refl _) (by omega)), e1, B2s]
    · rw [w2 w hw, xv_ko k1 (by decide)]
    · rw [k2.c (by decide), f1 p hp]
  | n + 1, k, D1, h, k1, w1, f1 => by
    have n3 := hB.1.1.2.2.1
    have hk24 : k < 24 := by omega
    have hB' := hB.ko k1 (by decide)
    obtain ⟨D2, e2, r⟩ := X_turn_loop hB m0 m1 m3 x y n (k + 1) (dset D1 64 0 k (LY D cM y k)) (by omega) (k1.set (by decide) _ _ _) (fun w hw => by rw [dsN (by decide), w1 w hw]) (fun p hp => by
      rw [dsA]
      by_cases q : p = k
      · rw [if_pos q, q]
      · rw [if_neg q, f1 p (by omega)])
    refine ⟨D2, ?_, r⟩
    have la : Rn_lostAt_years_words (nI k) D1 E = some (some (.inl (LY D cM y k)), D1, E) := by
      rw [← X_LY k1 (by decide) w1 k]
      exact Rn_lostAt_years_words_spec hk24 D1 E hB'.bk
    rw [e_Ye_turns_years_words_11, hB'.1.2.1.2.2.1]
    simp (disch := omega) only [sC, sN, sN0, sLL, sTT, sEE, sM1, sF, sGt, sLe, sLt, sNe, or_false, or_true, false_or, true_or, or_self, if_true, if_false, not_true_eq_false, not_false_eq_true, B1s, B0s, B2s, la, ca1]
    exact e2
theorem L_turned (x : Int32) (D : pD) (E : pDL) (h : Inv D) : Same D E (Hb_turned x) (Mo_turned x) := by
  have hh := h
  obtain ⟨cN, cW, cP, cT, cH, hT, hF, hB, hN, hK, hG, hY, hL⟩ := h
  obtain ⟨⟨⟨n1, n2, n3, n4, n5⟩, ⟨a1, a2, a3, a4, a5⟩, ⟨b1, b2, b3, b4, b5⟩⟩, hS, hW, hGS, r1, r2, r3, r4, r5, r6⟩ := id hB
  obtain ⟨cM, m0, m1, m2, m3, m4⟩ := id hY
  rcases ixc x (n := 2001) (by omega) with hx | ⟨m, hm, rfl⟩
  · exact Same.ro (v := -2) hh (by rw [e_Hb_turned, (year_out D E hx).1, B1s, if_pos rfl]) (by rw [e_Mo_turned, (year_out D E hx).2, B1s, if_pos rfl])
  · by_cases hz : m = 0
    · subst hz
      refine Same.ro (v := 0) hh ?_ ?_
      · rw [e_Hb_turned, (year_in D E hm).1, B1s, if_neg (by decide), if_pos (show nI 0 = (0 : Int32) from rfl)]
      · rw [e_Mo_turned, (year_in D E hm).2, B1s, if_neg (by decide), e_Mo_turned_18]
        split
        · rfl
        · rw [if_pos (by decide)]
    · have hm1 : nI m - 1 = nI (m - 1) := cs1 (by omega)
      obtain ⟨D1, e1, k1, w1⟩ := X_words n2 m0 (nI (m - 1)) D E m1 (fun i hi => (m3 i hi).2.2.2.1)
      obtain ⟨D2, e2, k2, w2, f2⟩ := X_turn_loop (E := E) hB m0 m1 (fun i hi => (m3 i hi).2.2.2.1) (nI m) (nI (m - 1)) cP 0 D1 (by omega) (k1.sub (by decide)) w1 (fun p hp => absurd hp (by omega))
      have hB' := hB.ko k2 (by decide)
      refine Bo.of (v := iS (fun p => if LY D cM (nI m) p = LY D cM (nI (m - 1)) p then 0 else 1) cP) (D1 := D2) (E1 := E) (D2 := D) (E2 := E) ⟨_, _, _, _, by repeat first | exact okL_nil | refine okL_n ?_ | refine okL_i ?_ | refine okL_r (by decide) ?_, fun _ _ => rfl⟩ ⟨_, _, _, _, by repeat first | exact okL_nil | refine okL_n ?_ | refine okL_i ?_ | refine okL_r (by decide) ?_, fun _ _ => rfl⟩ ?_ ?_ ?_
      · rw [e_Hb_turned, (year_in D E hm).1, B1s, if_neg (by decide), if_neg (show ¬ nI m = (0 : Int32) from fun z => hz ((iE (b := 0) (by omega) (by omega)).mp z)), e_Ye_turns, hm1, e1, B2s, show Ye_turns_years_words_11 (nI m) 0 D1 E = _ from e2]
        have key : Ye_turns_years_words_58 0 0 D2 E = some (some (.inl (iS (fun p => if LY D cM (nI m) p = LY D cM (nI (m - 1)) p then 0 else 1) cP)), D2, E) := by
          refine (z0 (fun k => Ye_turns_years_words_58 (iS (fun p => if LY D cM (nI m) p = LY D cM (nI (m - 1)) p then 0 else 1) k) (nI k) D2 E) cP (fun k hk => ?_)).trans ?_
          · show Ye_turns_years_words_58 _ _ _ _ = Ye_turns_years_words_58 _ _ _ _
            have la : Rn_lostAt_years_words (nI k) D2 E = some (some (.inl (LY D cM (nI m) k)), D2, E) := by
              rw [← X_LY k2 (by decide) w2 k]
              exact Rn_lostAt_years_words_spec (by omega) D2 E hB'.bk
            rw [e_Ye_turns_years_words_58, hB'.1.2.1.2.2.1, iS]
            simp (disch := omega) only [sC, sN, sN0, sLL, sTT, sEE, sM1, sF, sGt, sLe, sLt, sNe, or_false, or_true, false_or, true_or, or_self, if_true, if_false, not_true_eq_false, not_false_eq_true, B1s, B0s, B2s, la, f2 k hk, ca1]
            by_cases c : LY D cM (nI m) k = LY D cM (nI (m - 1)) k
            · rw [if_pos c, if_pos c]
            · rw [if_neg c, if_neg c]
          · show Ye_turns_years_words_58 _ _ _ _ = _
            rw [e_Ye_turns_years_words_58, hB'.1.2.1.2.2.1, if_pos (nI_le (Nat.le_refl _) (by omega))]
        rw [key, B1s]
      · rw [e_Mo_turned, (year_in D E hm).2, B1s, if_neg (by decide)]
        have hpos : ¬ nI m ≤ 0 := nI_ge (a := 0) (by omega) (by omega)
        refine (z0 (fun k => Mo_turned_18 (nI m) (iS (fun p => if LY D cM (nI m) p = LY D cM (nI (m - 1)) p then 0 else 1) k) (nI k) D E) cP (fun k hk => ?_)).trans ?_
        · show Mo_turned_18 _ _ _ _ _ = Mo_turned_18 _ _ _ _ _
          have hmo := hN.mo hB m0 m2
          have la : ∀ q, q < 2001 → Mo_lostAt (nI k) (nI q) D E = some (some (.inl (LY D cM (nI q) k)), D, E) := by
            intro q hq
            rw [Mo_lostAt_spec m0 (by omega) (nI q) D E m2 (hmo.2.2.2.2.1 k (by omega)) (hmo.2.2.2.2.2 k hk), M_LY hB hN m3 (iN (by omega)) hk]
          rw [e_Mo_turned_18, b3, iS]
          simp (disch := omega) only [sC, sN, sN0, sLL, sTT, sEE, sM1, sF, sGt, sLe, sLt, sNe, or_false, or_true, false_or, true_or, or_self, if_true, if_false, not_true_eq_false, not_false_eq_true, B1s, B0s, B2s, hpos, hm1, la, ca1]
          by_cases c : LY D cM (nI m) k = LY D cM (nI (m - 1)) k
          · rw [if_pos c, if_pos c]
          · rw [if_neg c, if_neg c]
        · show Mo_turned_18 _ _ _ _ _ = _
          rw [e_Mo_turned_18, b3, if_pos (nI_le (Nat.le_refl _) (by omega))]
      · rw [cmb_ko k2 (by decide)]
        exact hh.ko k2 (by decide) (fun i _ => k2.c (by decide) i)
/-- until -/
theorem L_until (x : Int32) (D : pD) (E : pDL) (h : Inv D) : Same D E (Hb_until x) (Mo_until x) := by
  have hh := h
  obtain ⟨cN, cW, cP, cT, cH, hT, hF, hB, hN, hK, hG, hY, hL⟩ := h
  obtain ⟨⟨⟨n1, n2, n3, n4, n5⟩, ⟨a1, a2, a3, a4, a5⟩, ⟨b1, b2, b3, b4, b5⟩⟩, hS, hW, hGS, r1, r2, r3, r4, r5, r6⟩ := id hB
  obtain ⟨cM, m0, m1, m2, m3, m4⟩ := id hY
  by_cases hx : 0 ≤ x
  · have wy : ∀ (y : Int32) (D1 : pD), Ko [63] D D1 → ∃ D2, Ye_wordsIn y D1 E = some (some (.inr (.inr (63, 0))), D2, E) ∧ Ko [63] D D2 ∧ Rn_lostOfAll_years_words D2 E = some (some (.inl (iS (LY D cM y) cP)), D2, E) := by
      intro y D1 k1
      obtain ⟨D2, e1, k2, w2⟩ := X_words n2 m0 y D1 E (by rw [k1.c (by decide), m1]) (fun i hi => by rw [k1.c (by decide)]; exact (m3 i hi).2.2.2.1)
      have k3 := k1.tr k2
      have hB' := hB.ko k3 (by decide)
      refine ⟨D2, e1, k3, ?_⟩
      rw [Rn_lostOfAll_years_words_spec n3 D2 E hB'.bk hB'.1.2.1.2.2.1, iS_cong (fun p _ => X_LY k3 (by decide) (fun w hw => by rw [w2 w hw, xv_ko k1 (by decide)]) p)]
    have my : ∀ q : Nat, q < 2001 → Mo_lostAll (nI q) D E = some (some (.inl (iS (LY D cM (nI q)) cP)), D, E) := by
      intro q hq
      rw [Mo_lostAll_spec (nI q) D E (hN.mo hB m0 m2), iS_cong (fun p hp => M_LY hB hN m3 (iN (by omega)) hp)]
    have loop : ∀ (n k : Nat) (f : Int32) (D1 : pD), k + n = cM → Ko [63] D D1 → ∃ v D2, Ye_firstAbove_20 x f (nI k) D1 E = some (some (.inl v), D2, E) ∧ Mo_until_22 x f (nI k) D E = some (some (.inl v), D, E) ∧ Ko [63] D D2 := by
      intro n
      induction n with
      | zero =>
        intro k f D1 hk k1
        obtain rfl : k = cM := by omega
        exact ⟨f, D1, by rw [e_Ye_firstAbove_20, k1.c (by decide), m1, if_pos (nI_le (Nat.le_refl _) (by omega))], by rw [e_Mo_until_22, m2, if_pos (nI_le (Nat.le_refl _) (by omega))], k1⟩
      | succ n ih =>
        intro k f D1 hk k1
        obtain ⟨q1, q2, q3, q4, q5⟩ := m3 k (by omega)
        obtain ⟨yr, hyr, ey⟩ := vp_in_of q5 (by omega)
        obtain ⟨D2, e1, k2, e2⟩ := wy (nI yr) D1 k1
        have m45 : Mo_until_45 x f (nI k) D E = if iS (LY D cM (nI yr)) cP ≤ x then Mo_until_22 x f (nI (k + 1)) D E else Mo_until_22 x (nI yr) (nI (k + 1)) D E := by
          rw [e_Mo_until_45]
          simp (disch := omega) only [sC, sN, sN0, sLL, sTT, sEE, sM1, sF, sGt, sLe, sLt, sNe, or_false, or_true, false_or, true_or, or_self, if_true, if_false, not_true_eq_false, not_false_eq_true, B1s, B0s, B2s, q2, ey, my yr hyr, ca1]
        by_cases c0 : f = -1
        · by_cases c1 : iS (LY D cM (nI yr)) cP ≤ x
          · obtain ⟨v, D3, e3, e4, k3⟩ := ih (k + 1) f D2 (by omega) k2
            refine ⟨v, D3, ?_, ?_, k3⟩
            · rw [e_Ye_firstAbove_20, k1.c (k := 59) (by decide), m1]
              simp (disch := omega) only [sC, sN, sN0, sLL, sTT, sEE, sM1, sF, sGt, sLe, sLt, sNe, or_false, or_true, false_or, true_or, or_self, if_true, if_false, not_true_eq_false, not_false_eq_true, B1s, B0s, B2s, k1.c (k := 61) (by decide), ey, c0, e1, e2, c1, ca1]
              rw [c0] at e3
              exact e3
            · rw [e_Mo_until_22, m2, if_neg (nI_ge (by omega) (by omega)), if_pos c0, m45, if_pos c1]
              exact e4
          · obtain ⟨v, D3, e3, e4, k3⟩ := ih (k + 1) (nI yr) D2 (by omega) k2
            refine ⟨v, D3, ?_, ?_, k3⟩
            · rw [e_Ye_firstAbove_20, k1.c (k := 59) (by decide), m1]
              simp (disch := omega) only [sC, sN, sN0, sLL, sTT, sEE, sM1, sF, sGt, sLe, sLt, sNe, or_false, or_true, false_or, true_or, or_self, if_true, if_false, not_true_eq_false, not_false_eq_true, B1s, B0s, B2s, k1.c (k := 61) (by decide), ey, c0, e1, e2, c1, ca1]
              exact e3
            · rw [e_Mo_until_22, m2, if_neg (nI_ge (by omega) (by omega)), if_pos c0, m45, if_neg c1]
              exact e4
        · by_cases c2 : f ≤ nI yr
          · obtain ⟨v, D3, e3, e4, k3⟩ := ih (k + 1) f D1 (by omega) k1
            refine ⟨v, D3, ?_, ?_, k3⟩
            · rw [e_Ye_firstAbove_20, k1.c (k := 59) (by decide), m1]
              simp (disch := omega) only [sC, sN, sN0, sLL, sTT, sEE, sM1, sF, sGt, sLe, sLt, sNe, or_false, or_true, false_or, true_or, or_self, if_true, if_false, not_true_eq_false, not_false_eq_true, B1s, B0s, B2s, k1.c (k := 61) (by decide), ey, c0, c2, ca1]
              exact e3
            · rw [e_Mo_until_22, m2]
              simp (disch := omega) only [sC, sN, sN0, sLL, sTT, sEE, sM1, sF, sGt, sLe, sLt, sNe, or_false, or_true, false_or, true_or, or_self, if_true, if_false, not_true_eq_false, not_false_eq_true, B1s, B0s, B2s, q2, ey, c0, c2, ca1]
              exact e4
          · by_cases c1 : iS (LY D cM (nI yr)) cP ≤ x
            · obtain ⟨v, D3, e3, e4, k3⟩ := ih (k + 1) f D2 (by omega) k2
              refine ⟨v, D3, ?_, ?_, k3⟩
              · rw [e_Ye_firstAbove_20, k1.c (k := 59) (by decide), m1]
                simp (disch := omega) only [sC, sN, sN0, sLL, sTT, sEE, sM1, sF, sGt, sLe, sLt, sNe, or_false, or_true, false_or, true_or, or_self, if_true, if_false, not_true_eq_false, not_false_eq_true, B1s, B0s, B2s, k1.c (k := 61) (by decide), ey, c0, c2, e1, e2, c1, ca1]
                exact e3
              · rw [e_Mo_until_22, m2]
                simp (disch := omega) only [sC, sN, sN0, sLL, sTT, sEE, sM1, sF, sGt, sLe, sLt, sNe, or_false, or_true, false_or, true_or, or_self, if_true, if_false, not_true_eq_false, not_false_eq_true, B1s, B0s, B2s, q2, ey, c0, c2]
                rw [m45, if_pos c1]
                exact e4
            · obtain ⟨v, D3, e3, e4, k3⟩ := ih (k + 1) (nI yr) D2 (by omega) k2
              refine ⟨v, D3, ?_, ?_, k3⟩
              · rw [e_Ye_firstAbove_20, k1.c (k := 59) (by decide), m1]
                simp (disch := omega) only [sC, sN, sN0, sLL, sTT, sEE, sM1, sF, sGt, sLe, sLt, sNe, or_false, or_true, false_or, true_or, or_self, if_true, if_false, not_true_eq_false, not_false_eq_true, B1s, B0s, B2s, k1.c (k := 61) (by decide), ey, c0, c2, e1, e2, c1, ca1]
                exact e3
              · rw [e_Mo_until_22, m2]
                simp (disch := omega) only [sC, sN, sN0, sLL, sTT, sEE, sM1, sF, sGt, sLe, sLt, sNe, or_false, or_true, false_or, true_or, or_self, if_true, if_false, not_true_eq_false, not_false_eq_true, B1s, B0s, B2s, q2, ey, c0, c2]
                rw [m45, if_neg c1]
                exact e4
    obtain ⟨D1, e1, k1, e2⟩ := wy 0 D Ko.rf
    have e3 : Mo_lostAll 0 D E = some (some (.inl (iS (LY D cM 0) cP)), D, E) := my 0 (by omega)
    by_cases c : iS (LY D cM 0) cP ≤ x
    · obtain ⟨v, D2, f1, f2, k2⟩ := loop cM 0 (-1) D1 (by omega) k1
      refine Bo.of (v := v) (D1 := D2) (E1 := E) (D2 := D) (E2 := E) ⟨_, _, _, _, by repeat first | exact okL_nil | refine okL_n ?_ | refine okL_i ?_ | refine okL_r (by decide) ?_, fun _ _ => rfl⟩ ⟨_, _, _, _, by repeat first | exact okL_nil | refine okL_n ?_ | refine okL_i ?_ | refine okL_r (by decide) ?_, fun _ _ => rfl⟩ ?_ ?_ ?_
      · rw [e_Hb_until, if_pos hx, e_Ye_firstAbove, e1, B2s, e2, B1s, if_pos c, show Ye_firstAbove_20 x (-1) 0 D1 E = _ from f1, B1s]
      · rw [e_Mo_until, if_pos hx, e3, B1s, if_pos c]
        exact f2
      · rw [cmb_ko k2 (by decide)]
        exact hh.ko k2 (by decide) (fun i _ => k2.c (by decide) i)
    · refine Bo.of (v := 0) (D1 := D1) (E1 := E) (D2 := D) (E2 := E) ⟨_, _, _, _, by repeat first | exact okL_nil | refine okL_n ?_ | refine okL_i ?_ | refine okL_r (by decide) ?_, fun _ _ => rfl⟩ ⟨_, _, _, _, by repeat first | exact okL_nil | refine okL_n ?_ | refine okL_i ?_ | refine okL_r (by decide) ?_, fun _ _ => rfl⟩ ?_ ?_ ?_
      · rw [e_Hb_until, if_pos hx, e_Ye_firstAbove, e1, B2s, e2, B1s, if_neg c, B1s]
      · rw [e_Mo_until, if_pos hx, e3, B1s, if_neg c]
      · rw [cmb_ko k1 (by decide)]
        exact hh.ko k1 (by decide) (fun i _ => k1.c (by decide) i)
  · exact Same.ro (v := -2) hh (by rw [e_Hb_until, if_neg hx]) (by rw [e_Mo_until, if_neg hx])
