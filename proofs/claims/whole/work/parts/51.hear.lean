/-! NOTES, COUNTS, HEARERS -/
theorem bc_0 : bc 0 = 0 := pc_0 32
/-- how many traits all notes tell -/
def nT (D : pD) : Nat := nS (fun p => bc (D 47 0 p)) 24
theorem nT_le (D : pD) : nT D ≤ 768 := nS_le (b := 32) (n := 24) (fun k _ => bc_le _)
theorem X_noted (D : pD) (E : pDL) : Rn_noted D E = some (some (.inl (nI (nT D))), D, E) := by
  rw [e_Rn_noted]
  refine (z0 (fun k => Rn_noted_4 (nI (nS (fun p => bc (D 47 0 p)) k)) (nI k) D E) 24 (fun k hk => ?_)).trans ?_
  · show Rn_noted_4 _ _ _ _ = Rn_noted_4 _ _ _ _
    rw [e_Rn_noted_4]
    simp (disch := omega) only [sC, sN, sN0, sLL, sTT, sEE, sM1, sF, sGt, sLe, sLt, sNe, or_false, or_true, false_or, true_or, or_self, if_true, if_false, not_true_eq_false, not_false_eq_true, B1s, B0s, B2s, cl24, cn24, ct24, cu24, ce24, cf24, Ji_bitCount_spec, ca1, nI_add, nS]
  · show Rn_noted_4 _ _ _ _ = _
    rw [e_Rn_noted_4, if_pos (by decide)]
    rfl
theorem M_noted {cN cW cP cT cH : Nat} {D : pD} {E : pDL} (h : iBook cN cW cP cT cH D) (hN : iNow cW cP D) : Mo_notedAll D E = some (some (.inl (nI (nT D))), D, E) := by
  have n3 := h.1.1.2.2.1
  have b3 := h.1.2.2.2.2.1
  rw [e_Mo_notedAll]
  refine (z0 (fun k => Mo_notedAll_4 (nI (nS (fun p => bc (D 47 0 p)) k)) (nI k) D E) cP (fun k hk => ?_)).trans ?_
  · show Mo_notedAll_4 _ _ _ _ = Mo_notedAll_4 _ _ _ _
    rw [e_Mo_notedAll_4]
    simp (disch := omega) only [sC, sN, sN0, sLL, sTT, sEE, sM1, sF, sGt, sLe, sLt, sNe, or_false, or_true, false_or, true_or, or_self, if_true, if_false, not_true_eq_false, not_false_eq_true, B1s, B0s, B2s, b3, Mo_bits_spec, ca1, nI_add, nS, (hN k (by omega)).2.1]
  · show Mo_notedAll_4 _ _ _ _ = _
    rw [e_Mo_notedAll_4, b3, if_pos (nI_le (Nat.le_refl _) (by omega))]
    unfold nT
    rw [nS_tail (a := cP) (n := 24) n3 (fun k h1 h2 => by rw [((hN k h2).2.2 h1).2, bc_0])]
/-- a note is put in both -/
theorem note_now {cW cP : Nat} {D : pD} (hN : iNow cW cP D) {p : Nat} (hp : p < cP) (x : Int32) : iNow cW cP (dset (dset D 47 0 p x) 119 0 p x) := by
  intro q hq
  have e : ∀ k, k ≠ 47 → k ≠ 119 → dset (dset D 47 0 p x) 119 0 p x k 0 q = D k 0 q := fun k h1 h2 => by rw [dsN h2, dsN h1]
  rw [e 43 (by decide) (by decide), e 44 (by decide) (by decide), e 45 (by decide) (by decide), e 46 (by decide) (by decide), e 115 (by decide) (by decide), e 116 (by decide) (by decide), e 117 (by decide) (by decide), e 118 (by decide) (by decide), dsA, dsN (by decide), dsN (by decide), dsA]
  refine ⟨(hN q hq).1, ?_, fun z => ⟨((hN q hq).2.2 z).1, ?_⟩⟩
  · split
    · rfl
    · exact (hN q hq).2.1
  · rw [if_neg (by omega)]
    exact ((hN q hq).2.2 z).2
theorem note_rest {cN cW cP cT cH : Nat} {D : pD} (h : Rest cN cW cP cT cH D) (p : Nat) (x : Int32) : Rest cN cW cP cT cH (dset (dset D 47 0 p x) 119 0 p x) :=
  h.ko (ks := [47, 119]) ((Ko.rf.set (by decide) _ _ _).set (by decide) _ _ _) (by decide)
/-- note -/
theorem L_note (x y : Int32) (D : pD) (E : pDL) (h : Inv D) : Same D E (Hb_note x y) (Mo_note x y) := by
  have hh := h
  obtain ⟨cN, cW, cP, cT, cH, hT, hF, hB, hN, hK, hG, hY, hL⟩ := h
  obtain ⟨⟨⟨n1, n2, n3, n4, n5⟩, ⟨a1, a2, a3, a4, a5⟩, ⟨b1, b2, b3, b4, b5⟩⟩, hS, hW, hGS, r1, r2, r3, r4, r5, r6⟩ := id hB
  have hR : Rest cN cW cP cT cH D := ⟨hT, hF, hB, hK, hG, hY, hL⟩
  rcases ixc x (n := cP) (by omega) with hx | ⟨p, hp, rfl⟩
  · exact Same.ro (v := -2) hh (by rw [e_Hb_note, has2_n D E a3 hx, B1s, if_pos rfl]) (by rw [e_Mo_note, is2_n D E b3 (by omega) hx, B1s, if_pos rfl])
  · have hp24 : p < 24 := by omega
    have q1 := (r4 p hp).1
    have q2 := M_notion hB hp
    unfold mN at q2
    rw [q1] at q2
    have q3 : ¬ (D 10 0 p < 0 ∨ 24 ≤ (D 10 0 p).toNatClampNeg) := fun q => r3 p hp24 (q.imp id (fun z => by omega))
    have q3a : ¬ D 10 0 p < 0 := fun z => q3 (Or.inl z)
    have q4 := (hN p hp24).2.1
    obtain ⟨s, hs, s1, s2⟩ := hS 4 (by omega)
    have s1' : Bk_setting 9 D E = some (some (.inl (nI s)), D, E) := by rw [← s1]; exact Bk_setting_spec (k := 4) (by omega) D E
    by_cases h0 : y &&& (D 8 0 (pN D p) ^^^ (-1)) = 0
    · by_cases h1 : (nI (nT D) - nI (bc (D 47 0 p))) + nI (bc y) ≤ nI s
      · refine ⟨(nI (nT D) - nI (bc (D 47 0 p))) + nI (bc y), dset D 47 0 p y, E, dset (dset D 47 0 p y) 119 0 p y, E, ?_, ?_, (note_rest hR p y).inv (note_now hN hp y)⟩
        · rw [e_Hb_note, has2_y D E a3 hp (by omega)]
          simp (disch := omega) only [sC, sN, sN0, sLL, sTT, sEE, sM1, sF, sGt, sLe, sLt, sNe, or_false, or_true, false_or, true_or, or_self, if_true, if_false, not_true_eq_false, not_false_eq_true, B1s, B0s, B2s, h10, Bk_traitsOfNotionAt_spec hp24 D E (r3 p hp24), h0, X_noted, Ji_bitCount_spec, s1', h1]
        · have hB' : iBook cN cW cP cT cH (dset D 47 0 p y) := hB.fr (fun k hk => by rw [dsN (by rintro rfl; revert hk; decide)])
          have e119 : dset D 47 0 p y 119 0 p = D 47 0 p := by rw [dsN (by decide), q4]
          have hna : Mo_notedAll (dset D 47 0 p y) E = some (some (.inl (nI (nT D))), dset D 47 0 p y, E) := by
            rw [e_Mo_notedAll]
            refine (z0 (fun k => Mo_notedAll_4 (nI (nS (fun p => bc (D 47 0 p)) k)) (nI k) (dset D 47 0 p y) E) cP (fun k hk => ?_)).trans ?_
            · show Mo_notedAll_4 _ _ _ _ = Mo_notedAll_4 _ _ _ _
              rw [e_Mo_notedAll_4, dsN (by decide), dsN (by decide)]
              simp (disch := omega) only [sC, sN, sN0, sLL, sTT, sEE, sM1, sF, sGt, sLe, sLt, sNe, or_false, or_true, false_or, true_or, or_self, if_true, if_false, not_true_eq_false, not_false_eq_true, B1s, B0s, B2s, b3, Mo_bits_spec, ca1, nI_add, nS, (hN k (by omega)).2.1]
            · show Mo_notedAll_4 _ _ _ _ = _
              rw [e_Mo_notedAll_4, dsN (by decide), b3, if_pos (nI_le (Nat.le_refl _) (by omega))]
              unfold nT
              rw [nS_tail (a := cP) (n := 24) n3 (fun k h1 h2 => by rw [((hN k h2).2.2 h1).2, bc_0])]
          rw [e_Mo_note, is2_y _ E (by rw [dsN (by decide)]; exact b3) (by omega) hp]
          have d1 : dset D 47 0 p y 107 0 = D 107 0 := dsN (by decide)
          have d2 : dset D 47 0 p y 105 0 = D 105 0 := dsN (by decide)
          have d3 : dset D 47 0 p y 102 0 = D 102 0 := dsN (by decide)
          simp (disch := omega) only [sC, sN, sN0, sLL, sTT, sEE, sM1, sF, sGt, sLe, sLt, sNe, or_false, or_true, false_or, true_or, or_self, if_true, if_false, not_true_eq_false, not_false_eq_true, B1s, B0s, B2s, h10, d1, d2, d3, q1, q3a, q2, h0, hna, Mo_bits_spec, e119, s2, h1]
      · refine Same.ro (v := -3) hh ?_ ?_
        · rw [e_Hb_note, has2_y D E a3 hp (by omega)]
          simp (disch := omega) only [sC, sN, sN0, sLL, sTT, sEE, sM1, sF, sGt, sLe, sLt, sNe, or_false, or_true, false_or, true_or, or_self, if_true, if_false, not_true_eq_false, not_false_eq_true, B1s, B0s, B2s, h10, Bk_traitsOfNotionAt_spec hp24 D E (r3 p hp24), h0, X_noted, Ji_bitCount_spec, s1', h1]
        · rw [e_Mo_note, is2_y _ E b3 (by omega) hp]
          simp (disch := omega) only [sC, sN, sN0, sLL, sTT, sEE, sM1, sF, sGt, sLe, sLt, sNe, or_false, or_true, false_or, true_or, or_self, if_true, if_false, not_true_eq_false, not_false_eq_true, B1s, B0s, B2s, h10, q1, q3a, q2, h0, M_noted hB hN, Mo_bits_spec, q4, s2, h1]
    · refine Same.ro (v := -2) hh ?_ ?_
      · rw [e_Hb_note, has2_y D E a3 hp (by omega)]
        simp (disch := omega) only [sC, sN, sN0, sLL, sTT, sEE, sM1, sF, sGt, sLe, sLt, sNe, or_false, or_true, false_or, true_or, or_self, if_true, if_false, not_true_eq_false, not_false_eq_true, B1s, B0s, B2s, h10, Bk_traitsOfNotionAt_spec hp24 D E (r3 p hp24), h0]
      · rw [e_Mo_note, is2_y _ E b3 (by omega) hp]
        simp (disch := omega) only [sC, sN, sN0, sLL, sTT, sEE, sM1, sF, sGt, sLe, sLt, sNe, or_false, or_true, false_or, true_or, or_self, if_true, if_false, not_true_eq_false, not_false_eq_true, B1s, B0s, B2s, h10, q1, q3a, q2, h0]
/-- how many places have a choice -/
theorem X_chosen (D : pD) (E : pDL) : Rn_chosen D E = some (some (.inl (iS (fun p => if D 43 0 p = -1 then 0 else 1) 24)), D, E) := by
  rw [e_Rn_chosen]
  refine (z0 (fun k => Rn_chosen_4 (iS (fun p => if D 43 0 p = -1 then 0 else 1) k) (nI k) D E) 24 (fun k hk => ?_)).trans ?_
  · show Rn_chosen_4 _ _ _ _ = Rn_chosen_4 _ _ _ _
    rw [e_Rn_chosen_4, Rn_isChosen_spec hk, B1s]
    by_cases h0 : D 43 0 k = -1
    · simp (disch := omega) only [sC, sN, sN0, sLL, sTT, sEE, sM1, sF, sGt, sLe, sLt, sNe, or_false, or_true, false_or, true_or, or_self, if_true, if_false, not_true_eq_false, not_false_eq_true, B1s, B0s, B2s, cl24, cn24, ct24, cu24, ce24, cf24, ca1, iS, h0]
    · simp (disch := omega) only [sC, sN, sN0, sLL, sTT, sEE, sM1, sF, sGt, sLe, sLt, sNe, or_false, or_true, false_or, true_or, or_self, if_true, if_false, not_true_eq_false, not_false_eq_true, B1s, B0s, B2s, cl24, cn24, ct24, cu24, ce24, cf24, ca1, iS, h0, h10]
  · show Rn_chosen_4 _ _ _ _ = _
    rw [e_Rn_chosen_4, if_pos (by decide)]
theorem M_chosen {cN cW cP cT cH : Nat} {D : pD} {E : pDL} (h : iBook cN cW cP cT cH D) (hN : iNow cW cP D) : Mo_count_42 0 0 D E = some (some (.inl (iS (fun p => if D 43 0 p = -1 then 0 else 1) 24)), D, E) := by
  have n3 := h.1.1.2.2.1
  have b3 := h.1.2.2.2.2.1
  refine (z0 (fun k => Mo_count_42 (iS (fun p => if D 43 0 p = -1 then 0 else 1) k) (nI k) D E) cP (fun k hk => ?_)).trans ?_
  · show Mo_count_42 _ _ _ _ = Mo_count_42 _ _ _ _
    have kd := now_kd hN (p := k) (by omega)
    rw [e_Mo_count_42]
    by_cases h0 : D 43 0 k = -1
    · simp (disch := omega) only [sC, sN, sN0, sLL, sTT, sEE, sM1, sF, sGt, sLe, sLt, sNe, or_false, or_true, false_or, true_or, or_self, if_true, if_false, not_true_eq_false, not_false_eq_true, B1s, B0s, B2s, b3, ca1, iS, kd, h0]
    · simp (disch := omega) only [sC, sN, sN0, sLL, sTT, sEE, sM1, sF, sGt, sLe, sLt, sNe, or_false, or_true, false_or, true_or, or_self, if_true, if_false, not_true_eq_false, not_false_eq_true, B1s, B0s, B2s, b3, ca1, iS, kd, h0]
  · show Mo_count_42 _ _ _ _ = _
    rw [e_Mo_count_42, b3, if_pos (nI_le (Nat.le_refl _) (by omega)), iS_tail (a := cP) (n := 24) n3 (fun k h1 h2 => by rw [if_pos ((hN k h2).2.2 h1).1])]
/-- count -/
theorem L_count (x : Int32) (D : pD) (E : pDL) (h : Inv D) : Same D E (Hb_count x) (Mo_count x) := by
  have hh := h
  obtain ⟨cN, cW, cP, cT, cH, hT, hF, hB, hN, hK, hG, hY, hL⟩ := h
  obtain ⟨⟨⟨n1, n2, n3, n4, n5⟩, ⟨a1, a2, a3, a4, a5⟩, ⟨b1, b2, b3, b4, b5⟩⟩, hS, hW, hGS, r1, r2, r3, r4, r5, r6⟩ := id hB
  obtain ⟨n, -, t1, t2, -⟩ := id hT
  obtain ⟨cM, -, m1, m2, -⟩ := id hY
  obtain ⟨cL, cR, -, -, l1, l2, l3, l4, -⟩ := id hL
  by_cases e0 : x = 0
  · subst e0
    exact Same.ro (v := iS (fun p => if D 43 0 p = -1 then 0 else 1) 24) hh (by rw [e_Hb_count]; simp only [sI0, if_true, X_chosen, B1s]) (by rw [e_Mo_count]; simp only [sI0, if_true, M_chosen hB hN])
  · by_cases e1 : x = 1
    · subst e1
      exact Same.ro (v := nI (nT D)) hh (by rw [e_Hb_count]; simp only [sI0, sI1, if_true, if_false, h10, X_noted, B1s]) (by rw [e_Mo_count]; simp only [sI0, sI1, if_true, if_false, h10, M_noted hB hN, B1s])
    · by_cases e2 : x = 2
      · exact Same.ro (v := nI cM) hh (by rw [e_Hb_count]; simp only [sI0, sI1, sI2, e0, e1, if_false, m1]; rw [if_pos e2]) (by rw [e_Mo_count]; simp only [sI0, sI1, sI2, e0, e1, if_false, m2]; rw [if_pos e2])
      · by_cases e3 : x = 3
        · exact Same.ro (v := nI cL) hh (by rw [e_Hb_count]; simp only [sI0, sI1, sI2, sI3, e0, e1, e2, if_false, l1]; rw [if_pos e3]) (by rw [e_Mo_count]; simp only [sI0, sI1, sI2, sI3, e0, e1, e2, if_false, l2]; rw [if_pos e3])
        · by_cases e4 : x = 4
          · exact Same.ro (v := nI cR) hh (by rw [e_Hb_count]; simp only [sI0, sI1, sI2, sI3, sI4, e0, e1, e2, e3, if_false, l3]; rw [if_pos e4]) (by rw [e_Mo_count]; simp only [sI0, sI1, sI2, sI3, sI4, e0, e1, e2, e3, if_false, l4]; rw [if_pos e4])
          · by_cases e5 : x = 5
            · exact Same.ro (v := nI n) hh (by rw [e_Hb_count]; simp only [sI0, sI1, sI2, sI3, sI4, sI5, e0, e1, e2, e3, e4, if_false, t1]; rw [if_pos e5]) (by rw [e_Mo_count]; simp only [sI0, sI1, sI2, sI3, sI4, sI5, e0, e1, e2, e3, e4, if_false, t2]; rw [if_pos e5])
            · exact Same.ro (v := -1) hh (by rw [e_Hb_count]; simp only [sI0, sI1, sI2, sI3, sI4, sI5, e0, e1, e2, e3, e4, e5, if_false]) (by rw [e_Mo_count]; simp only [sI0, sI1, sI2, sI3, sI4, sI5, e0, e1, e2, e3, e4, e5, if_false])
/-- may it be heard -/
theorem why_cases {cN cW cP cT cH : Nat} {D : pD} {E : pDL} (hB : iBook cN cW cP cT cH D) (hN : iNow cW cP D) (x y : Int32) :
    (Hb_whyNotHeard x y D E = some (some (.inl (-2)), D, E) ∧ Mo_isAsked x y D E = some (some (.inl 0), D, E)) ∨ ∃ i p : Nat, i < cH ∧ p < cP ∧ x = nI i ∧ y = nI p ∧ Mo_isAsked x y D E = some (some (.inl 1), D, E) ∧
      ((D 43 0 p = -1 ∧ D 115 0 p = -1 ∧ Hb_whyNotHeard x y D E = some (some (.inl (-1)), D, E)) ∨ (¬ D 43 0 p = -1 ∧ ¬ D 115 0 p = -1 ∧ Hb_whyNotHeard x y D E = some (some (.inl 0), D, E))) := by
  obtain ⟨⟨⟨n1, n2, n3, n4, n5⟩, ⟨a1, a2, a3, a4, a5⟩, ⟨b1, b2, b3, b4, b5⟩⟩, -⟩ := id hB
  rcases ixc x (n := cH) (by omega) with hx | ⟨i, hi, rfl⟩
  · left
    constructor
    · rw [e_Hb_whyNotHeard, has4_n D E a5 hx, B1s, if_pos rfl]
    · rw [e_Mo_isAsked, is4_n D E b5 (by omega) hx, B1s, if_pos rfl]
  · rcases ixc y (n := cP) (by omega) with hy | ⟨p, hp, rfl⟩
    · left
      constructor
      · rw [e_Hb_whyNotHeard, has4_y D E a5 hi (by omega), B1s, if_neg (by decide), has2_n D E a3 hy, B1s, if_pos rfl]
      · rw [e_Mo_isAsked, is4_y D E b5 (by omega) hi, B1s, if_neg (by decide), is2_n D E b3 (by omega) hy, B1s, if_pos rfl]
    · right
      have kd := now_kd hN (p := p) (by omega)
      refine ⟨i, p, hi, hp, rfl, rfl, ?_, ?_⟩
      · rw [e_Mo_isAsked, is4_y D E b5 (by omega) hi, B1s, if_neg (by decide), is2_y D E b3 (by omega) hp, B1s, if_neg (by decide)]
      · by_cases h0 : D 43 0 p = -1
        · left
          refine ⟨h0, kd.trans h0, ?_⟩
          rw [e_Hb_whyNotHeard, has4_y D E a5 hi (by omega), B1s, if_neg (by decide), has2_y D E a3 hp (by omega), B1s, if_neg (by decide), Rn_isChosen_spec (by omega), B1s, if_pos h0, if_pos rfl]
        · right
          refine ⟨h0, fun q => h0 (kd.symm.trans q), ?_⟩
          rw [e_Hb_whyNotHeard, has4_y D E a5 hi (by omega), B1s, if_neg (by decide), has2_y D E a3 hp (by omega), B1s, if_neg (by decide), Rn_isChosen_spec (by omega), B1s, if_neg h0, if_neg (by decide)]
/-- what is heard -/
def hrd (D : pD) (i p : Nat) : Int32 := (tA (D 9 0) (D 44 0 p) (D 45 0 p) (D 46 0 p) ||| D 47 0 p) &&& D 15 0 i
theorem X_hrd {i p : Nat} (hi : i < 6) (hp : p < 24) (D : pD) (E : pDL) : Rn_heardAt (nI i) (nI p) D E = some (some (.inl (hrd D i p)), D, E) := by
  rw [e_Rn_heardAt, Rn_traitsAt_held_wordTraits_spec hp]
  simp (disch := omega) only [sC, sN, sN0, sLL, sTT, sEE, sM1, sF, sGt, sLe, sLt, sNe, or_false, or_true, false_or, true_or, or_self, if_true, if_false, not_true_eq_false, not_false_eq_true, B1s, B0s, B2s]
  rfl
theorem M_hrd {cN cW cP cT cH : Nat} {D : pD} {E : pDL} (h : iBook cN cW cP cT cH D) (hN : iNow cW cP D) (hY : iYears cW D) {i p : Nat} (hi : i < cH) (hp : p < cP) : Mo_heardBy (nI i) (nI p) D E = some (some (.inl (hrd D i p)), D, E) := by
  obtain ⟨⟨⟨n1, n2, n3, n4, n5⟩, -, -⟩, hS, hW, hGS, r1, r2, r3, r4, r5, r6⟩ := id h
  have hp24 : p < 24 := by omega
  rw [e_Mo_heardBy, M_had h hN hY hp24]
  simp (disch := omega) only [sC, sN, sN0, sLL, sTT, sEE, sM1, sF, sGt, sLe, sLt, sNe, or_false, or_true, false_or, true_or, or_self, if_true, if_false, not_true_eq_false, not_false_eq_true, B1s, B0s, B2s, (hN p hp24).2.1, (r6 i hi).1]
  rfl
/-- hears -/
theorem L_hears (x y : Int32) (D : pD) (E : pDL) (h : Inv D) : Same D E (Hb_hears x y) (Mo_hears x y) := by
  have hh := h
  obtain ⟨cN, cW, cP, cT, cH, hT, hF, hB, hN, hK, hG, hY, hL⟩ := h
  obtain ⟨⟨⟨n1, n2, n3, n4, n5⟩, ⟨a1, a2, a3, a4, a5⟩, ⟨b1, b2, b3, b4, b5⟩⟩, hS, hW, hGS, r1, r2, r3, r4, r5, r6⟩ := id hB
  rcases why_cases (E := E) hB hN x y with ⟨w1, w2⟩ | ⟨i, p, hi, hp, rfl, rfl, w2, ⟨k1, k2, w1⟩ | ⟨k1, k2, w1⟩⟩
  · exact Same.ro (v := -2) hh (by rw [e_Hb_hears, w1, B1s, if_neg (by decide)]) (by rw [e_Mo_hears, w2, B1s, if_pos rfl])
  · exact Same.ro (v := -1) hh (by rw [e_Hb_hears, w1, B1s, if_neg (by decide)]) (by rw [e_Mo_hears, w2]; simp (disch := omega) only [sC, sN, sN0, sLL, sTT, sEE, sM1, sF, sGt, sLe, sLt, sNe, or_false, or_true, false_or, true_or, or_self, if_true, if_false, not_true_eq_false, not_false_eq_true, B1s, B0s, B2s, h10, k2])
  · exact Same.ro (v := hrd D i p) hh (by rw [e_Hb_hears, w1, B1s, if_pos rfl, X_hrd (by omega) (by omega), B1s]) (by rw [e_Mo_hears, w2]; simp (disch := omega) only [sC, sN, sN0, sLL, sTT, sEE, sM1, sF, sGt, sLe, sLt, sNe, or_false, or_true, false_or, true_or, or_self, if_true, if_false, not_true_eq_false, not_false_eq_true, B1s, B0s, B2s, h10, k2, M_hrd hB hN hY hi hp])
/-- laughs -/
theorem L_laughs (x y : Int32) (D : pD) (E : pDL) (h : Inv D) : Same D E (Hb_laughs x y) (Mo_laughs x y) := by
  have hh := h
  obtain ⟨cN, cW, cP, cT, cH, hT, hF, hB, hN, hK, hG, hY, hL⟩ := h
  obtain ⟨⟨⟨n1, n2, n3, n4, n5⟩, ⟨a1, a2, a3, a4, a5⟩, ⟨b1, b2, b3, b4, b5⟩⟩, hS, hW, hGS, r1, r2, r3, r4, r5, r6⟩ := id hB
  rcases why_cases (E := E) hB hN x y with ⟨w1, w2⟩ | ⟨i, p, hi, hp, rfl, rfl, w2, ⟨k1, k2, w1⟩ | ⟨k1, k2, w1⟩⟩
  · exact Same.ro (v := -2) hh (by rw [e_Hb_laughs, w1, B1s, if_neg (by decide)]) (by rw [e_Mo_laughs, w2, B1s, if_pos rfl])
  · exact Same.ro (v := -1) hh (by rw [e_Hb_laughs, w1, B1s, if_neg (by decide)]) (by rw [e_Mo_laughs, w2]; simp (disch := omega) only [sC, sN, sN0, sLL, sTT, sEE, sM1, sF, sGt, sLe, sLt, sNe, or_false, or_true, false_or, true_or, or_self, if_true, if_false, not_true_eq_false, not_false_eq_true, B1s, B0s, B2s, h10, k2])
  · have hp24 : p < 24 := by omega
    have e16 := (r6 i hi).2
    by_cases h0 : D 16 0 i = 0
    · refine Same.ro (v := 0) hh ?_ ?_
      · rw [e_Hb_laughs, w1]
        simp (disch := omega) only [sC, sN, sN0, sLL, sTT, sEE, sM1, sF, sGt, sLe, sLt, sNe, or_false, or_true, false_or, true_or, or_self, if_true, if_false, not_true_eq_false, not_false_eq_true, B1s, B0s, B2s, h0]
      · rw [e_Mo_laughs, w2]
        simp (disch := omega) only [sC, sN, sN0, sLL, sTT, sEE, sM1, sF, sGt, sLe, sLt, sNe, or_false, or_true, false_or, true_or, or_self, if_true, if_false, not_true_eq_false, not_false_eq_true, B1s, B0s, B2s, h10, k2, M_had hB hN hY hp24, e_Mo_isLaugh, e16, h0]
    · by_cases h1 : D 16 0 i &&& (tA (D 9 0) (D 44 0 p) (D 45 0 p) (D 46 0 p) ^^^ (-1)) = 0
      · refine Same.ro (v := 1) hh ?_ ?_
        · rw [e_Hb_laughs, w1]
          simp (disch := omega) only [sC, sN, sN0, sLL, sTT, sEE, sM1, sF, sGt, sLe, sLt, sNe, or_false, or_true, false_or, true_or, or_self, if_true, if_false, not_true_eq_false, not_false_eq_true, B1s, B0s, B2s, h0, Rn_traitsAt_held_wordTraits_spec hp24, h1]
        · rw [e_Mo_laughs, w2]
          simp (disch := omega) only [sC, sN, sN0, sLL, sTT, sEE, sM1, sF, sGt, sLe, sLt, sNe, or_false, or_true, false_or, true_or, or_self, if_true, if_false, not_true_eq_false, not_false_eq_true, B1s, B0s, B2s, h10, k2, M_had hB hN hY hp24, e_Mo_isLaugh, e16, h0, h1]
      · refine Same.ro (v := 0) hh ?_ ?_
        · rw [e_Hb_laughs, w1]
          simp (disch := omega) only [sC, sN, sN0, sLL, sTT, sEE, sM1, sF, sGt, sLe, sLt, sNe, or_false, or_true, false_or, true_or, or_self, if_true, if_false, not_true_eq_false, not_false_eq_true, B1s, B0s, B2s, h0, Rn_traitsAt_held_wordTraits_spec hp24, h1]
        · rw [e_Mo_laughs, w2]
          simp (disch := omega) only [sC, sN, sN0, sLL, sTT, sEE, sM1, sF, sGt, sLe, sLt, sNe, or_false, or_true, false_or, true_or, or_self, if_true, if_false, not_true_eq_false, not_false_eq_true, B1s, B0s, B2s, h10, k2, M_had hB hN hY hp24, e_Mo_isLaugh, e16, h0, h1]
