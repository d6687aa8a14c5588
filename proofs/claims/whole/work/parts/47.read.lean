/-! WHAT THE RELATION GIVES, AND CALLS THAT ONLY READ -/
theorem iBook.bk {cN cW cP cT cH : Nat} {D : pD} (h : iBook cN cW cP cT cH D) : BkOk D := ⟨h.2.2.2.1, h.2.2.2.2.2.2.1, cP, h.1.1.2.2.1, h.1.2.1.2.2.1⟩
theorem iNow.mo {cN cW cP cT cH : Nat} {D : pD} (hN : iNow cW cP D) (h : iBook cN cW cP cT cH D) {cM : Nat} (h1 : cM ≤ 40) (h2 : D 100 0 44 = nI cM) : MOk D cM cP :=
  ⟨h1, h2, h.1.1.2.2.1, h.1.2.2.2.2.1, fun p hp => (hN p hp).1.vc h.1.1.2.1, fun p hp => by
    rw [(h.2.2.2.2.2.2.2.1 p hp).1]
    exact h.2.2.2.2.2.2.1 p (by have := h.1.1.2.2.1; omega)⟩
theorem mv_neg (mw my mt : Nat → Int32) (w i : Int32) : ∀ n, mv mw my mt (-1) w i n = i
  | 0 => rfl
  | n + 1 => by rw [mv, if_neg (fun q => q.1 (by decide)), mv_neg]
theorem mT_neg (D : pD) (cM : Nat) (w : Int32) : mT D cM (-1) w = D 106 0 w.toNatClampNeg := mv_neg _ _ _ _ _ _
theorem iBook.tw {cN cW cP cT cH : Nat} {D : pD} (h : iBook cN cW cP cT cH D) (cM : Nat) : ∀ x, vp_in x cW → mT D cM (-1) x = D 9 0 x.toNatClampNeg := by
  intro x hx
  obtain ⟨j, hj, rfl⟩ := vp_in_of hx (by have := h.1.1.2.1; omega)
  rw [mT_neg, iC (by have := h.1.1.2.1; omega)]
  exact h.2.2.2.2.2.1 j hj
theorem ren_had {cW cP : Nat} {k a b c n k' a' b' c' n' : Nat → Int32} (hn : cW ≤ 20) (hR : iRen cW cP k a b c n k' a' b' c' n') {tw : Int32 → Int32} {wt : Nat → Int32} (ht : ∀ x, vp_in x cW → tw x = wt x.toNatClampNeg) {p : Nat} (hp : p < 24) : hM tw (k' p) (a' p) (b' p) (c' p) = tA wt (a p) (b p) (c p) := by
  rw [(hR p hp).1.eqH tw]
  exact hM_tA hn (hR p hp).1.1 ht
theorem ren_lost {cN cW cP cT cH : Nat} {D : pD} (h : iBook cN cW cP cT cH D) {k a b c n k' a' b' c' n' : Nat → Int32} (hR : iRen cW cP k a b c n k' a' b' c' n') {tw : Int32 → Int32} {wt : Nat → Int32} (ht : ∀ x, vp_in x cW → tw x = wt x.toNatClampNeg) {p : Nat} (hp : p < cP) :
    lM (D 102 0 5) (D 102 0 6) (D 102 0 8) (D 102 0 7) (D 114 0) (D 108 0 p) (D 105 0 (mN D p)) (n' p) (hM tw (k' p) (a' p) (b' p) (c' p)) (k' p) (c' p) = lA (D 5 0 0) (D 5 0 1) (D 5 0 3) (D 5 0 2) (D 6 0) (D 11 0 p) (D 8 0 (pN D p)) (n p) (tA wt (a p) (b p) (c p)) (k p) (b p) (c p) := by
  obtain ⟨⟨⟨n1, n2, n3, n4, n5⟩, -, -⟩, hS, hW, hGS, r1, r2, r3, r4, r5, r6⟩ := h
  have hp24 : p < 24 := by omega
  rw [ren_had n2 hR ht hp24, (hR p hp24).1.eqL, (hR p hp24).2.1]
  obtain ⟨s0, -, e0, f0⟩ := hS 0 (by omega)
  obtain ⟨s1, -, e1, f1⟩ := hS 1 (by omega)
  obtain ⟨s2, -, e2, f2⟩ := hS 2 (by omega)
  obtain ⟨s3, -, e3, f3⟩ := hS 3 (by omega)
  have q : D 105 0 (mN D p) = D 8 0 (pN D p) := by
    unfold mN pN
    rw [(r4 p hp).1]
    obtain ⟨j, hj, e⟩ := vp_in_of (r4 p hp).2.1 (by omega)
    rw [e, iC (by omega)]
    exact r1 j hj
  rw [q, (r4 p hp).2.2, f0.trans e0.symm, f1.trans e1.symm, f2.trans e2.symm, f3.trans e3.symm]
  exact lA_cong (fun t ht => by
    obtain ⟨w, -, e4, f4⟩ := hW t ht
    rw [e4, f4])
theorem now_had {cN cW cP cT cH : Nat} {D : pD} (h : iBook cN cW cP cT cH D) (hN : iNow cW cP D) (cM : Nat) {p : Nat} (hp : p < 24) : hMv D cM (-1) p = tA (D 9 0) (D 44 0 p) (D 45 0 p) (D 46 0 p) := ren_had h.1.1.2.1 hN (h.tw cM) hp
theorem now_lost {cN cW cP cT cH : Nat} {D : pD} (h : iBook cN cW cP cT cH D) (hN : iNow cW cP D) (cM : Nat) {p : Nat} (hp : p < cP) : lMv D cM (-1) p = Rn_lostAt_held_wordTraits_v D p := ren_lost h hN (h.tw cM) hp
theorem now_kd {cW cP : Nat} {D : pD} (hN : iNow cW cP D) {p : Nat} (hp : p < 24) : D 115 0 p = D 43 0 p := (hN p hp).1.2.1
/-- lost -/
theorem X_lost {cN cW cP cT cH : Nat} {D : pD} {E : pDL} (h : iBook cN cW cP cT cH D) : Rn_lostOfAll_held_wordTraits D E = some (some (.inl (iS (Rn_lostAt_held_wordTraits_v D) cP)), D, E) := Rn_lostOfAll_held_wordTraits_spec h.1.1.2.2.1 D E h.bk h.1.2.1.2.2.1
theorem M_lost {cN cW cP cT cH : Nat} {D : pD} {E : pDL} (h : iBook cN cW cP cT cH D) (hN : iNow cW cP D) (hY : iYears cW D) : Mo_lostAll (-1) D E = some (some (.inl (iS (Rn_lostAt_held_wordTraits_v D) cP)), D, E) := by
  obtain ⟨cM, h1, -, h2, -⟩ := hY
  rw [Mo_lostAll_spec (-1) D E (hN.mo h h1 h2), iS_cong (fun p hp => now_lost h hN cM hp)]
theorem L_lost (D : pD) (E : pDL) (h : Inv D) : Same D E Hb_lost Mo_lost := by
  have hh := h
  obtain ⟨cN, cW, cP, cT, cH, hT, hF, hB, hN, hK, hG, hY, hL⟩ := h
  obtain ⟨⟨⟨n1, n2, n3, n4, n5⟩, ⟨a1, a2, a3, a4, a5⟩, ⟨b1, b2, b3, b4, b5⟩⟩, hS, hW, hGS, r1, r2, r3, r4, r5, r6⟩ := id hB
  exact Same.ro hh (by rw [e_Hb_lost, X_lost hB, B1s]) (by rw [e_Mo_lost, M_lost hB hN hY, B1s])
/-- told -/
theorem told_out {x : Int32} (D : pD) (E : pDL) (h : x < 0 ∨ nI 44 ≤ x) : Hb_told x D E = some (some (.inl (-1)), D, E) ∧ Mo_told x D E = some (some (.inl (-1)), D, E) := by
  rcases h with h | h
  · have h5 : x < 5 := by rw [Int32.lt_iff_toInt_lt] at h ⊢; have : (0 : Int32).toInt = 0 := rfl; have : (5 : Int32).toInt = 5 := rfl; omega
    have h20 : x < 20 := by rw [Int32.lt_iff_toInt_lt] at h ⊢; have : (0 : Int32).toInt = 0 := rfl; have : (20 : Int32).toInt = 20 := rfl; omega
    constructor
    · rw [e_Hb_told, e_Hb_told_42]
      simp only [h, h5, h20, if_true]
    · rw [e_Mo_told, e_Mo_in, if_pos h, B1s, if_pos rfl, e_Mo_in, if_pos h20, B1s, if_pos rfl]
  · obtain ⟨j, hj, rfl⟩ := nI_of (x := x) (by intro q; have := Int32.lt_of_le_of_lt h q; revert this; decide)
    rw [iL (by omega) hj] at h
    constructor
    · rw [e_Hb_told, e_Hb_told_42]
      simp (disch := omega) only [sC, sN, sN0, sLL, sTT, sEE, sM1, sF, sGt, sLe, sLt, sNe, or_false, or_true, false_or, true_or, or_self, if_true, if_false, not_true_eq_false, not_false_eq_true, B1s, B0s, B2s, cl4, cn4, ct4, cu4, ce4, cf4, cl5, cn5, ct5, cu5, ce5, cf5, cl9, cn9, ct9, cu9, ce9, cf9, cl20, cn20, ct20, cu20, ce20, cf20, cl43, cn43, ct43, cu43, ce43, cf43, cl44, cn44, ct44, cu44, ce44, cf44]
    · rw [e_Mo_told, e_Mo_in]
      simp (disch := omega) only [sC, sN, sN0, sLL, sTT, sEE, sM1, sF, sGt, sLe, sLt, sNe, or_false, or_true, false_or, true_or, or_self, if_true, if_false, not_true_eq_false, not_false_eq_true, B1s, B0s, B2s, cl4, cn4, ct4, cu4, ce4, cf4, cl5, cn5, ct5, cu5, ce5, cf5, cl9, cn9, ct9, cu9, ce9, cf9, cl20, cn20, ct20, cu20, ce20, cf20, cl43, cn43, ct43, cu43, ce43, cf43, cl44, cn44, ct44, cu44, ce44, cf44]
      rw [e_Mo_in]
      simp (disch := omega) only [sC, sN, sN0, sLL, sTT, sEE, sM1, sF, sGt, sLe, sLt, sNe, or_false, or_true, false_or, true_or, or_self, if_true, if_false, not_true_eq_false, not_false_eq_true, B1s, B0s, B2s, cl4, cn4, ct4, cu4, ce4, cf4, cl5, cn5, ct5, cu5, ce5, cf5, cl9, cn9, ct9, cu9, ce9, cf9, cl20, cn20, ct20, cu20, ce20, cf20, cl43, cn43, ct43, cu43, ce43, cf43, cl44, cn44, ct44, cu44, ce44, cf44]
theorem L_told (x : Int32) (D : pD) (E : pDL) (h : Inv D) : Same D E (Hb_told x) (Mo_told x) := by
  have hh := h
  obtain ⟨cN, cW, cP, cT, cH, hT, hF, hB, hN, hK, hG, hY, hL⟩ := h
  obtain ⟨⟨⟨n1, n2, n3, n4, n5⟩, ⟨a1, a2, a3, a4, a5⟩, ⟨b1, b2, b3, b4, b5⟩⟩, hS, hW, hGS, r1, r2, r3, r4, r5, r6⟩ := id hB
  rcases ixc x (n := 44) (by omega) with hx | ⟨j, hj, rfl⟩
  · exact Same.ro hh (told_out D E hx).1 (told_out D E hx).2
  · by_cases h4 : j < 5
    · have e : D 102 0 j = D 4 0 j := by
        have : j = 0 ∨ j = 1 ∨ j = 2 ∨ j = 3 ∨ j = 4 := by omega
        rcases this with rfl | rfl | rfl | rfl | rfl
        · rw [a1, b1]
        · rw [a2, b2]
        · rw [a3, b3]
        · rw [a4, b4]
        · rw [a5, b5]
      refine Same.ro (v := D 4 0 j) hh ?_ ?_
      · rw [e_Hb_told]
        simp (disch := omega) only [sC, sN, sN0, sLL, sTT, sEE, sM1, sF, sGt, sLe, sLt, sNe, or_false, or_true, false_or, true_or, or_self, if_true, if_false, not_true_eq_false, not_false_eq_true, B1s, B0s, B2s, cl4, cn4, ct4, cu4, ce4, cf4, cl5, cn5, ct5, cu5, ce5, cf5, cl9, cn9, ct9, cu9, ce9, cf9, cl20, cn20, ct20, cu20, ce20, cf20, cl43, cn43, ct43, cu43, ce43, cf43, cl44, cn44, ct44, cu44, ce44, cf44]
      · rw [e_Mo_told, e_Mo_in]
        simp (disch := omega) only [sC, sN, sN0, sLL, sTT, sEE, sM1, sF, sGt, sLe, sLt, sNe, or_false, or_true, false_or, true_or, or_self, if_true, if_false, not_true_eq_false, not_false_eq_true, B1s, B0s, B2s, cl4, cn4, ct4, cu4, ce4, cf4, cl5, cn5, ct5, cu5, ce5, cf5, cl9, cn9, ct9, cu9, ce9, cf9, cl20, cn20, ct20, cu20, ce20, cf20, cl43, cn43, ct43, cu43, ce43, cf43, cl44, cn44, ct44, cu44, ce44, cf44, h10, e]
    · by_cases h9 : j < 10
      · obtain ⟨s, -, e1, e2⟩ := hS (j - 5) (by omega)
        rw [show 5 + (j - 5) = j by omega] at e2
        refine Same.ro (v := nI s) hh ?_ ?_
        · rw [e_Hb_told]
          simp (disch := omega) only [sC, sN, sN0, sLL, sTT, sEE, sM1, sF, sGt, sLe, sLt, sNe, or_false, or_true, false_or, true_or, or_self, if_true, if_false, not_true_eq_false, not_false_eq_true, B1s, B0s, B2s, cl4, cn4, ct4, cu4, ce4, cf4, cl5, cn5, ct5, cu5, ce5, cf5, cl9, cn9, ct9, cu9, ce9, cf9, cl20, cn20, ct20, cu20, ce20, cf20, cl43, cn43, ct43, cu43, ce43, cf43, cl44, cn44, ct44, cu44, ce44, cf44, cs5, ca5, cb5, cs20, ca20, cb20, e1]
        · rw [e_Mo_told, e_Mo_in]
          simp (disch := omega) only [sC, sN, sN0, sLL, sTT, sEE, sM1, sF, sGt, sLe, sLt, sNe, or_false, or_true, false_or, true_or, or_self, if_true, if_false, not_true_eq_false, not_false_eq_true, B1s, B0s, B2s, cl4, cn4, ct4, cu4, ce4, cf4, cl5, cn5, ct5, cu5, ce5, cf5, cl9, cn9, ct9, cu9, ce9, cf9, cl20, cn20, ct20, cu20, ce20, cf20, cl43, cn43, ct43, cu43, ce43, cf43, cl44, cn44, ct44, cu44, ce44, cf44, h10, e2]
      · by_cases h20 : j < 20
        · refine Same.ro (v := -1) hh ?_ ?_
          · rw [e_Hb_told, e_Hb_told_42]
            simp (disch := omega) only [sC, sN, sN0, sLL, sTT, sEE, sM1, sF, sGt, sLe, sLt, sNe, or_false, or_true, false_or, true_or, or_self, if_true, if_false, not_true_eq_false, not_false_eq_true, B1s, B0s, B2s, cl4, cn4, ct4, cu4, ce4, cf4, cl5, cn5, ct5, cu5, ce5, cf5, cl9, cn9, ct9, cu9, ce9, cf9, cl20, cn20, ct20, cu20, ce20, cf20, cl43, cn43, ct43, cu43, ce43, cf43, cl44, cn44, ct44, cu44, ce44, cf44]
          · rw [e_Mo_told, e_Mo_in]
            simp (disch := omega) only [sC, sN, sN0, sLL, sTT, sEE, sM1, sF, sGt, sLe, sLt, sNe, or_false, or_true, false_or, true_or, or_self, if_true, if_false, not_true_eq_false, not_false_eq_true, B1s, B0s, B2s, cl4, cn4, ct4, cu4, ce4, cf4, cl5, cn5, ct5, cu5, ce5, cf5, cl9, cn9, ct9, cu9, ce9, cf9, cl20, cn20, ct20, cu20, ce20, cf20, cl43, cn43, ct43, cu43, ce43, cf43, cl44, cn44, ct44, cu44, ce44, cf44]
            rw [e_Mo_in]
            simp (disch := omega) only [sC, sN, sN0, sLL, sTT, sEE, sM1, sF, sGt, sLe, sLt, sNe, or_false, or_true, false_or, true_or, or_self, if_true, if_false, not_true_eq_false, not_false_eq_true, B1s, B0s, B2s, cl4, cn4, ct4, cu4, ce4, cf4, cl5, cn5, ct5, cu5, ce5, cf5, cl9, cn9, ct9, cu9, ce9, cf9, cl20, cn20, ct20, cu20, ce20, cf20, cl43, cn43, ct43, cu43, ce43, cf43, cl44, cn44, ct44, cu44, ce44, cf44]
        · obtain ⟨w, -, e1, e2⟩ := hW (j - 20) (by omega)
          refine Same.ro (v := nI w) hh ?_ ?_
          · rw [e_Hb_told, e_Hb_told_42]
            simp (disch := omega) only [sC, sN, sN0, sLL, sTT, sEE, sM1, sF, sGt, sLe, sLt, sNe, or_false, or_true, false_or, true_or, or_self, if_true, if_false, not_true_eq_false, not_false_eq_true, B1s, B0s, B2s, cl4, cn4, ct4, cu4, ce4, cf4, cl5, cn5, ct5, cu5, ce5, cf5, cl9, cn9, ct9, cu9, ce9, cf9, cl20, cn20, ct20, cu20, ce20, cf20, cl43, cn43, ct43, cu43, ce43, cf43, cl44, cn44, ct44, cu44, ce44, cf44, cs5, ca5, cb5, cs20, ca20, cb20, e1]
          · rw [e_Mo_told, e_Mo_in]
            simp (disch := omega) only [sC, sN, sN0, sLL, sTT, sEE, sM1, sF, sGt, sLe, sLt, sNe, or_false, or_true, false_or, true_or, or_self, if_true, if_false, not_true_eq_false, not_false_eq_true, B1s, B0s, B2s, cl4, cn4, ct4, cu4, ce4, cf4, cl5, cn5, ct5, cu5, ce5, cf5, cl9, cn9, ct9, cu9, ce9, cf9, cl20, cn20, ct20, cu20, ce20, cf20, cl43, cn43, ct43, cu43, ce43, cf43, cl44, cn44, ct44, cu44, ce44, cf44]
            rw [e_Mo_in]
            simp (disch := omega) only [sC, sN, sN0, sLL, sTT, sEE, sM1, sF, sGt, sLe, sLt, sNe, or_false, or_true, false_or, true_or, or_self, if_true, if_false, not_true_eq_false, not_false_eq_true, B1s, B0s, B2s, cl4, cn4, ct4, cu4, ce4, cf4, cl5, cn5, ct5, cu5, ce5, cf5, cl9, cn9, ct9, cu9, ce9, cf9, cl20, cn20, ct20, cu20, ce20, cf20, cl43, cn43, ct43, cu43, ce43, cf43, cl44, cn44, ct44, cu44, ce44, cf44, cs5, ca5, cb5, cs20, ca20, cb20, h10, e2]
/-- different numerals -/
theorem sd {a b : Int32} (h : a ≠ b) : (a = b) = False := eq_false h
/-- traits -/
theorem traits_out {x y : Int32} (D : pD) (E : pDL) (h : x < 0 ∨ nI 6 ≤ x) : Hb_traits x y D E = some (some (.inl (-2)), D, E) ∧ Mo_traits x y D E = some (some (.inl (-2)), D, E) := by
  have e : ∀ j : Nat, j < 6 → ¬ x = nI j := by
    rintro j hj rfl
    rcases h with h | h
    · exact iN (by omega) h
    · exact nI_ge hj (by omega) h
  have e0 : ¬ x = 0 := e 0 (by omega)
  have e1 : ¬ x = 1 := e 1 (by omega)
  have e2 : ¬ x = 2 := e 2 (by omega)
  have e3 : ¬ x = 3 := e 3 (by omega)
  have e4 : ¬ x = 4 := e 4 (by omega)
  have e5 : ¬ x = 5 := e 5 (by omega)
  constructor
  · rw [e_Hb_traits]
    simp only [sI0, sI1, sI2, sI3, sI4, sI5, e0, e1, e2, e3, e4, e5, if_false]
  · rw [e_Mo_traits]
    simp only [sI0, sI1, sI2, sI3, sI4, sI5, e0, e1, e2, e3, e4, e5, if_false]
theorem L_traits0 (y : Int32) (D : pD) (E : pDL) (h : Inv D) : Same D E (Hb_traits 0 y) (Mo_traits 0 y) := by
  have hh := h
  obtain ⟨cN, cW, cP, cT, cH, hT, hF, hB, hN, hK, hG, hY, hL⟩ := h
  obtain ⟨⟨⟨n1, n2, n3, n4, n5⟩, ⟨a1, a2, a3, a4, a5⟩, ⟨b1, b2, b3, b4, b5⟩⟩, hS, hW, hGS, r1, r2, r3, r4, r5, r6⟩ := id hB
  rcases ixc y (n := cN) (by omega) with hx | ⟨i, hi, rfl⟩
  · refine Same.ro (v := -2) hh ?_ ?_
    · rw [e_Hb_traits]
      simp (disch := decide) only [sI0, sI1, sI2, sI3, sI4, sI5, sd, has0_n D E a1 hx, B1s, if_true, if_false]
    · rw [e_Mo_traits]
      simp (disch := decide) only [sI0, sI1, sI2, sI3, sI4, sI5, sd, is0_n D E b1 (by omega) hx, B1s, if_true, if_false]
  · refine Same.ro (v := D 8 0 i) hh ?_ ?_
    · rw [e_Hb_traits]
      simp (disch := decide) only [sI0, sI1, sI2, sI3, sI4, sI5, sd, if_true, if_false]
      simp (disch := omega) only [sC, sN, sN0, sLL, sTT, sEE, sM1, sF, sGt, sLe, sLt, sNe, or_false, or_true, false_or, true_or, or_self, if_true, if_false, not_true_eq_false, not_false_eq_true, B1s, B0s, B2s, h10, has0_y D E a1 hi (by omega)]
    · rw [e_Mo_traits]
      simp (disch := decide) only [sI0, sI1, sI2, sI3, sI4, sI5, sd, if_true, if_false]
      simp (disch := omega) only [sC, sN, sN0, sLL, sTT, sEE, sM1, sF, sGt, sLe, sLt, sNe, or_false, or_true, false_or, true_or, or_self, if_true, if_false, not_true_eq_false, not_false_eq_true, B1s, B0s, B2s, h10, is0_y D E b1 (by omega) hi, r1 i hi]
theorem L_traits1 (y : Int32) (D : pD) (E : pDL) (h : Inv D) : Same D E (Hb_traits 1 y) (Mo_traits 1 y) := by
  have hh := h
  obtain ⟨cN, cW, cP, cT, cH, hT, hF, hB, hN, hK, hG, hY, hL⟩ := h
  obtain ⟨⟨⟨n1, n2, n3, n4, n5⟩, ⟨a1, a2, a3, a4, a5⟩, ⟨b1, b2, b3, b4, b5⟩⟩, hS, hW, hGS, r1, r2, r3, r4, r5, r6⟩ := id hB
  rcases ixc y (n := cW) (by omega) with hx | ⟨i, hi, rfl⟩
  · refine Same.ro (v := -2) hh ?_ ?_
    · rw [e_Hb_traits]
      simp (disch := decide) only [sI0, sI1, sI2, sI3, sI4, sI5, sd, has1_n D E a2 hx, B1s, if_true, if_false]
    · rw [e_Mo_traits]
      simp (disch := decide) only [sI0, sI1, sI2, sI3, sI4, sI5, sd, is1_n D E b2 (by omega) hx, B1s, if_true, if_false]
  · refine Same.ro (v := D 9 0 i) hh ?_ ?_
    · rw [e_Hb_traits]
      simp (disch := decide) only [sI0, sI1, sI2, sI3, sI4, sI5, sd, if_true, if_false]
      simp (disch := omega) only [sC, sN, sN0, sLL, sTT, sEE, sM1, sF, sGt, sLe, sLt, sNe, or_false, or_true, false_or, true_or, or_self, if_true, if_false, not_true_eq_false, not_false_eq_true, B1s, B0s, B2s, h10, has1_y D E a2 hi (by omega)]
    · rw [e_Mo_traits]
      simp (disch := decide) only [sI0, sI1, sI2, sI3, sI4, sI5, sd, if_true, if_false]
      simp (disch := omega) only [sC, sN, sN0, sLL, sTT, sEE, sM1, sF, sGt, sLe, sLt, sNe, or_false, or_true, false_or, true_or, or_self, if_true, if_false, not_true_eq_false, not_false_eq_true, B1s, B0s, B2s, h10, is1_y D E b2 (by omega) hi, r2 i hi]
theorem L_traits2 (y : Int32) (D : pD) (E : pDL) (h : Inv D) : Same D E (Hb_traits 2 y) (Mo_traits 2 y) := by
  have hh := h
  obtain ⟨cN, cW, cP, cT, cH, hT, hF, hB, hN, hK, hG, hY, hL⟩ := h
  obtain ⟨⟨⟨n1, n2, n3, n4, n5⟩, ⟨a1, a2, a3, a4, a5⟩, ⟨b1, b2, b3, b4, b5⟩⟩, hS, hW, hGS, r1, r2, r3, r4, r5, r6⟩ := id hB
  rcases ixc y (n := cP) (by omega) with hx | ⟨i, hi, rfl⟩
  · refine Same.ro (v := -2) hh ?_ ?_
    · rw [e_Hb_traits]
      simp (disch := decide) only [sI0, sI1, sI2, sI3, sI4, sI5, sd, has2_n D E a3 hx, B1s, if_true, if_false]
    · rw [e_Mo_traits]
      simp (disch := decide) only [sI0, sI1, sI2, sI3, sI4, sI5, sd, is2_n D E b3 (by omega) hx, B1s, if_true, if_false]
  · refine Same.ro (v := D 11 0 i) hh ?_ ?_
    · rw [e_Hb_traits]
      simp (disch := decide) only [sI0, sI1, sI2, sI3, sI4, sI5, sd, if_true, if_false]
      simp (disch := omega) only [sC, sN, sN0, sLL, sTT, sEE, sM1, sF, sGt, sLe, sLt, sNe, or_false, or_true, false_or, true_or, or_self, if_true, if_false, not_true_eq_false, not_false_eq_true, B1s, B0s, B2s, h10, has2_y D E a3 hi (by omega)]
    · rw [e_Mo_traits]
      simp (disch := decide) only [sI0, sI1, sI2, sI3, sI4, sI5, sd, if_true, if_false]
      simp (disch := omega) only [sC, sN, sN0, sLL, sTT, sEE, sM1, sF, sGt, sLe, sLt, sNe, or_false, or_true, false_or, true_or, or_self, if_true, if_false, not_true_eq_false, not_false_eq_true, B1s, B0s, B2s, h10, is2_y D E b3 (by omega) hi, (r4 i hi).2.2]
theorem L_traits3 (y : Int32) (D : pD) (E : pDL) (h : Inv D) : Same D E (Hb_traits 3 y) (Mo_traits 3 y) := by
  have hh := h
  obtain ⟨cN, cW, cP, cT, cH, hT, hF, hB, hN, hK, hG, hY, hL⟩ := h
  obtain ⟨⟨⟨n1, n2, n3, n4, n5⟩, ⟨a1, a2, a3, a4, a5⟩, ⟨b1, b2, b3, b4, b5⟩⟩, hS, hW, hGS, r1, r2, r3, r4, r5, r6⟩ := id hB
  rcases ixc y (n := cT) (by omega) with hx | ⟨i, hi, rfl⟩
  · refine Same.ro (v := -2) hh ?_ ?_
    · rw [e_Hb_traits]
      simp (disch := decide) only [sI0, sI1, sI2, sI3, sI4, sI5, sd, has3_n D E a4 hx, B1s, if_true, if_false]
    · rw [e_Mo_traits]
      simp (disch := decide) only [sI0, sI1, sI2, sI3, sI4, sI5, sd, is3_n D E b4 (by omega) hx, B1s, if_true, if_false]
  · refine Same.ro (v := D 14 0 i) hh ?_ ?_
    · rw [e_Hb_traits]
      simp (disch := decide) only [sI0, sI1, sI2, sI3, sI4, sI5, sd, if_true, if_false]
      simp (disch := omega) only [sC, sN, sN0, sLL, sTT, sEE, sM1, sF, sGt, sLe, sLt, sNe, or_false, or_true, false_or, true_or, or_self, if_true, if_false, not_true_eq_false, not_false_eq_true, B1s, B0s, B2s, h10, has3_y D E a4 hi (by omega)]
    · rw [e_Mo_traits]
      simp (disch := decide) only [sI0, sI1, sI2, sI3, sI4, sI5, sd, if_true, if_false]
      simp (disch := omega) only [sC, sN, sN0, sLL, sTT, sEE, sM1, sF, sGt, sLe, sLt, sNe, or_false, or_true, false_or, true_or, or_self, if_true, if_false, not_true_eq_false, not_false_eq_true, B1s, B0s, B2s, h10, is3_y D E b4 (by omega) hi, (r5 i hi).2.2.1]
theorem L_traits4 (y : Int32) (D : pD) (E : pDL) (h : Inv D) : Same D E (Hb_traits 4 y) (Mo_traits 4 y) := by
  have hh := h
  obtain ⟨cN, cW, cP, cT, cH, hT, hF, hB, hN, hK, hG, hY, hL⟩ := h
  obtain ⟨⟨⟨n1, n2, n3, n4, n5⟩, ⟨a1, a2, a3, a4, a5⟩, ⟨b1, b2, b3, b4, b5⟩⟩, hS, hW, hGS, r1, r2, r3, r4, r5, r6⟩ := id hB
  rcases ixc y (n := cH) (by omega) with hx | ⟨i, hi, rfl⟩
  · refine Same.ro (v := -2) hh ?_ ?_
    · rw [e_Hb_traits]
      simp (disch := decide) only [sI0, sI1, sI2, sI3, sI4, sI5, sd, has4_n D E a5 hx, B1s, if_true, if_false]
    · rw [e_Mo_traits]
      simp (disch := decide) only [sI0, sI1, sI2, sI3, sI4, sI5, sd, is4_n D E b5 (by omega) hx, B1s, if_true, if_false]
  · refine Same.ro (v := D 15 0 i) hh ?_ ?_
    · rw [e_Hb_traits]
      simp (disch := decide) only [sI0, sI1, sI2, sI3, sI4, sI5, sd, if_true, if_false]
      simp (disch := omega) only [sC, sN, sN0, sLL, sTT, sEE, sM1, sF, sGt, sLe, sLt, sNe, or_false, or_true, false_or, true_or, or_self, if_true, if_false, not_true_eq_false, not_false_eq_true, B1s, B0s, B2s, h10, has4_y D E a5 hi (by omega)]
    · rw [e_Mo_traits]
      simp (disch := decide) only [sI0, sI1, sI2, sI3, sI4, sI5, sd, if_true, if_false]
      simp (disch := omega) only [sC, sN, sN0, sLL, sTT, sEE, sM1, sF, sGt, sLe, sLt, sNe, or_false, or_true, false_or, true_or, or_self, if_true, if_false, not_true_eq_false, not_false_eq_true, B1s, B0s, B2s, h10, is4_y D E b5 (by omega) hi, (r6 i hi).1]
theorem L_traits5 (y : Int32) (D : pD) (E : pDL) (h : Inv D) : Same D E (Hb_traits 5 y) (Mo_traits 5 y) := by
  have hh := h
  obtain ⟨cN, cW, cP, cT, cH, hT, hF, hB, hN, hK, hG, hY, hL⟩ := h
  obtain ⟨⟨⟨n1, n2, n3, n4, n5⟩, ⟨a1, a2, a3, a4, a5⟩, ⟨b1, b2, b3, b4, b5⟩⟩, hS, hW, hGS, r1, r2, r3, r4, r5, r6⟩ := id hB
  rcases ixc y (n := cH) (by omega) with hx | ⟨i, hi, rfl⟩
  · refine Same.ro (v := -2) hh ?_ ?_
    · rw [e_Hb_traits]
      simp (disch := decide) only [sI0, sI1, sI2, sI3, sI4, sI5, sd, has4_n D E a5 hx, B1s, if_true, if_false]
    · rw [e_Mo_traits]
      simp (disch := decide) only [sI0, sI1, sI2, sI3, sI4, sI5, sd, is4_n D E b5 (by omega) hx, B1s, if_true, if_false]
  · refine Same.ro (v := D 16 0 i) hh ?_ ?_
    · rw [e_Hb_traits]
      simp (disch := decide) only [sI0, sI1, sI2, sI3, sI4, sI5, sd, if_true, if_false]
      simp (disch := omega) only [sC, sN, sN0, sLL, sTT, sEE, sM1, sF, sGt, sLe, sLt, sNe, or_false, or_true, false_or, true_or, or_self, if_true, if_false, not_true_eq_false, not_false_eq_true, B1s, B0s, B2s, h10, has4_y D E a5 hi (by omega)]
    · rw [e_Mo_traits]
      simp (disch := decide) only [sI0, sI1, sI2, sI3, sI4, sI5, sd, if_true, if_false]
      simp (disch := omega) only [sC, sN, sN0, sLL, sTT, sEE, sM1, sF, sGt, sLe, sLt, sNe, or_false, or_true, false_or, true_or, or_self, if_true, if_false, not_true_eq_false, not_false_eq_true, B1s, B0s, B2s, h10, is4_y D E b5 (by omega) hi, (r6 i hi).2]
theorem L_traits (x y : Int32) (D : pD) (E : pDL) (h : Inv D) : Same D E (Hb_traits x y) (Mo_traits x y) := by
  rcases ixc x (n := 6) (by omega) with hx | ⟨i, hi, rfl⟩
  · exact Same.ro h (traits_out D E hx).1 (traits_out D E hx).2
  · have : i = 0 ∨ i = 1 ∨ i = 2 ∨ i = 3 ∨ i = 4 ∨ i = 5 := by omega
    rcases this with rfl | rfl | rfl | rfl | rfl | rfl
    · exact L_traits0 y D E h
    · exact L_traits1 y D E h
    · exact L_traits2 y D E h
    · exact L_traits3 y D E h
    · exact L_traits4 y D E h
    · exact L_traits5 y D E h
