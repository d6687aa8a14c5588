/-! exchange: both, step by step -/
theorem ex_opts {cN cW cP cT cH : Nat} {D : pD} {E : pDL} (hR : Rest cN cW cP cT cH D) (hN : iNow cW cP D) {p : Nat} (hp : p < cP) (ch r : Int32) : ∀ (n w l : Nat) (fo : Int32) (Dm : pD), w + n = cW + 1 → l ≤ 100000 → (Dm = D ∨ ∃ k a b c, Dm = putM D p k a b c) → (fo = -1 ∨ ∃ o, o ≤ cW ∧ fo = nI o) →
    (Rn_exchangeAt_44 (nI p) (nI l) fo (nI w) D E = some (some (.inl 0), D, E) ∧ Mo_exchange_85 ch r (nI p) (nI (rC D p cP cT + l)) (D 115 0 p) (D 116 0 p) (D 117 0 p) (D 118 0 p) fo (nI w) Dm E = Mo_exchange_18 ch r (nI (p + 1)) D E) ∨ ∃ o, o ≤ cW ∧ Rn_exchangeAt_44 (nI p) (nI l) fo (nI w) D E = some (some (.inl 1), opX D cW p o, E) ∧ Mo_exchange_85 ch r (nI p) (nI (rC D p cP cT + l)) (D 115 0 p) (D 116 0 p) (D 117 0 p) (D 118 0 p) fo (nI w) Dm E = Mo_exchange_18 1 r (nI (p + 1)) (opM D cW p o) E := by
  obtain ⟨hT, hF, hB, hK, hG, hY, hL⟩ := id hR
  obtain ⟨⟨⟨n1, n2, n3, n4, n5⟩, ⟨a1, a2, a3, a4, a5⟩, ⟨b1, b2, b3, b4, b5⟩⟩, hS, hW, -⟩ := id hB
  have hp24 : p < 24 := by omega
  have rb : rC D p cP cT ≤ 24 * 43065 + 2000 := by
    unfold rC
    have h1 := nS_le (f := fun q => if q = p then 0 else vN D q) (b := 43065) (n := cP) (fun q _ => by
      show (if _ then 0 else vN D q) ≤ _
      have := (vN_x hS hW q).2
      split <;> omega)
    have h2 := nO_le D p cT
    have h3 : cP * 43065 ≤ 24 * 43065 := Nat.mul_le_mul_right _ n3
    omega
  have m2 : ∀ Dm : pD, (Dm = D ∨ ∃ k a b c, Dm = putM D p k a b c) → Dm 102 0 1 = nI cW := by
    rintro Dm (rfl | ⟨k, a, b, c, rfl⟩)
    · exact b2
    · rw [putM_n (by decide)]
      exact b2
  have over : ∀ (Dm : pD) (k a b c : Int32), (Dm = D ∨ ∃ k a b c, Dm = putM D p k a b c) → putM Dm p k a b c = putM D p k a b c := by
    rintro Dm k a b c (rfl | ⟨k', a', b', c', rfl⟩)
    · rfl
    · exact putM_putM _ _ _ _ _ _ _ _ _ _
  intro n
  induction n with
  | zero =>
    intro w l fo Dm hw hl hm hf
    have hx : ¬ nI w ≤ nI cW := nI_ge (by omega) (by omega)
    have hlt : nI cW < nI w := nI_lt (by omega) (by omega)
    rcases hf with rfl | ⟨o, ho, rfl⟩
    · left
      refine ⟨by rw [e_Rn_exchangeAt_44, a2, if_pos hlt, if_pos rfl], ?_⟩
      rw [e_Mo_exchange_85, m2 Dm hm, if_pos hlt, if_pos rfl]
      simp (disch := omega) only [sC, sN, sN0, sLL, sTT, sEE, sM1, sF, sGt, sLe, sLt, sNe, or_false, or_true, false_or, true_or, or_self, if_true, if_false, not_true_eq_false, not_false_eq_true, B1s, B0s, B2s, ca1]
      have e : dset (dset (dset (dset Dm 115 0 p (D 115 0 p)) 116 0 p (D 116 0 p)) 117 0 p (D 117 0 p)) 118 0 p (D 118 0 p) = D := (over Dm _ _ _ _ hm).trans (putM_id D p)
      rw [e]
    · right
      refine ⟨o, ho, ?_, ?_⟩
      · rw [e_Rn_exchangeAt_44, a2, if_pos hlt, if_neg (iM (by omega)), X_putOption n2 a2 hp24 ho, B0s]
      · rw [e_Mo_exchange_85, m2 Dm hm, if_pos hlt, if_neg (iM (by omega)), M_putBy n2 (m2 Dm hm) hp24 ho, B0s, ca1]
        have e : opM Dm cW p o = opM D cW p o := over Dm _ _ _ _ hm
        rw [e]
  | succ n ih =>
    intro w l fo Dm hw hl hm hf
    have hwc : w ≤ cW := by omega
    have hlt : ¬ nI cW < nI w := nI_nlt (by omega) (by omega)
    obtain ⟨lx, lb⟩ := lO_x hS hW cW p w
    have kb := kN_le D p (oT D cW w) (oB cW w) cT
    have t1 : Rn_traitsOfOption (nI w) D E = some (some (.inl (oT D cW w)), D, E) := X_optT n2 a2 hwc
    have t2 : Rn_isBorrowedOption (nI w) D E = some (some (.inl (oB cW w)), D, E) := X_optB n2 a2 hwc
    have hX : Rn_exchangeAt_44 (nI p) (nI l) fo (nI w) D E = if l ≤ lOC D cW p w cT then Rn_exchangeAt_44 (nI p) (nI l) fo (nI (w + 1)) D E else Rn_exchangeAt_44 (nI p) (nI (lOC D cW p w cT)) (nI w) (nI (w + 1)) D E := by
      rw [e_Rn_exchangeAt_44, a2, if_neg hlt, X_opt hB hp24 hwc, B1s, t1, B1s, t2, B1s, X_kN hB hp24, B1s, lx, cw100, nI_add, ca1]
      unfold lOC
      by_cases c : l ≤ (lO D cW p w).toNatClampNeg + 100 * kN D p (oT D cW w) (oB cW w) cT
      · rw [if_pos c, if_pos (nI_le c (by omega))]
      · rw [if_neg c, if_neg (nI_ge (by omega) (by omega))]
    have e : opM Dm cW p w = opM D cW p w := over Dm _ _ _ _ hm
    have hIr := put_rest hR p (okd cW w) (oa cW w) (-1) (-1) (okd cW w) (oa cW w) (-1) (-1)
    have hIn := put_now hN hp (SC.rf (op_xc n2 hwc))
    have cst0 : Mo_costs (op2 D cW p w) E = some (some (.inl (nI (gC (op2 D cW p w) cP cT))), op2 D cW p w, E) := M_costs hIr.2.2.1 hIn hIr.2.2.2.2.2.1
    have cst1 : Mo_costs (opM D cW p w) E = some (some (.inl (nI (rC D p cP cT + lOC D cW p w cT))), opM D cW p w, E) := by
      rw [← gC_op hB hp hwc]
      exact M_ro (f := Mo_costs) ⟨_, _, _, _, by repeat first | exact okL_nil | refine okL_n ?_ | refine okL_i ?_ | refine okL_r (by decide) ?_, fun _ _ => rfl⟩ cst0 (fun k h1 _ => by
        unfold op2 opM
        have hk : k ∉ [43, 44, 45, 46] := by simp; omega
        by_cases hk2 : k ∈ [115, 116, 117, 118]
        · funext j
          by_cases hj : j = 0
          · subst hj
            funext i
            have hq' : k = 115 ∨ k = 116 ∨ k = 117 ∨ k = 118 := by simpa using hk2
            rcases hq' with rfl | rfl | rfl | rfl
            · rw [putM_k, putM_k, putX_n (by decide)]
            · rw [putM_a, putM_a, putX_n (by decide)]
            · rw [putM_b, putM_b, putX_n (by decide)]
            · rw [putM_c, putM_c, putX_n (by decide)]
          · unfold putM
            simp only [dset_ne (fun e : _ ∧ j = 0 => hj e.2)]
            rw [putX_n hk]
        · funext j
          rw [putM_n hk2, putM_n hk2, putX_n hk])
    have lob : lOC D cW p w cT ≤ 42867 + 2000 := by
      unfold lOC
      omega
    have hM : Mo_exchange_85 ch r (nI p) (nI (rC D p cP cT + l)) (D 115 0 p) (D 116 0 p) (D 117 0 p) (D 118 0 p) fo (nI w) Dm E = if l ≤ lOC D cW p w cT then Mo_exchange_85 ch r (nI p) (nI (rC D p cP cT + l)) (D 115 0 p) (D 116 0 p) (D 117 0 p) (D 118 0 p) fo (nI (w + 1)) (opM D cW p w) E else Mo_exchange_85 ch r (nI p) (nI (rC D p cP cT + lOC D cW p w cT)) (D 115 0 p) (D 116 0 p) (D 117 0 p) (D 118 0 p) (nI w) (nI (w + 1)) (opM D cW p w) E := by
      rw [e_Mo_exchange_85, m2 Dm hm, if_neg hlt, M_putBy n2 (m2 Dm hm) hp24 hwc, B0s, e, cst1, B1s, ca1]
      by_cases c : l ≤ lOC D cW p w cT
      · rw [if_pos c, if_neg (nI_nlt (by omega) (by omega))]
      · rw [if_neg c, if_pos (nI_lt (by omega) (by omega))]
    rw [hX, hM]
    by_cases c : l ≤ lOC D cW p w cT
    · rw [if_pos c, if_pos c]
      exact ih (w + 1) l fo _ (by omega) hl (Or.inr ⟨_, _, _, _, rfl⟩) hf
    · rw [if_neg c, if_neg c]
      exact ih (w + 1) _ (nI w) _ (by omega) (by omega) (Or.inr ⟨_, _, _, _, rfl⟩) (Or.inr ⟨w, hwc, rfl⟩)
theorem ex_at {cN cW cP cT cH : Nat} {D : pD} {E : pDL} (hR : Rest cN cW cP cT cH D) (hN : iNow cW cP D) {p : Nat} (hp : p < cP) (hk : ¬ D 43 0 p = -1) (ch r : Int32) :
    (Rn_exchangeAt (nI p) D E = some (some (.inl 0), D, E) ∧ Mo_exchange_18 ch r (nI p) D E = Mo_exchange_18 ch r (nI (p + 1)) D E) ∨ ∃ o, o ≤ cW ∧ Rn_exchangeAt (nI p) D E = some (some (.inl 1), opX D cW p o, E) ∧ Mo_exchange_18 ch r (nI p) D E = Mo_exchange_18 1 r (nI (p + 1)) (opM D cW p o) E := by
  obtain ⟨hT, hF, hB, hK, hG, hY, hL⟩ := id hR
  obtain ⟨⟨⟨n1, n2, n3, n4, n5⟩, ⟨a1, a2, a3, a4, a5⟩, ⟨b1, b2, b3, b4, b5⟩⟩, hS, hW, -⟩ := id hB
  have hp24 : p < 24 := by omega
  have kd := now_kd hN hp24
  obtain ⟨vx, vb⟩ := vN_x hS hW p
  have kb := kN_le D p (tAt D p) (bo D p) cT
  have tq : Rn_traitsAt_held_wordTraits (nI p) D E = some (some (.inl (tAt D p)), D, E) := Rn_traitsAt_held_wordTraits_spec hp24 D E
  have bq : Rn_isBorrowed (nI p) D E = some (some (.inl (bo D p)), D, E) := Rn_isBorrowed_spec hp24 D E
  have hX : Rn_exchangeAt (nI p) D E = Rn_exchangeAt_44 (nI p) (nI (lC D p cT)) (-1) (nI 0) D E := by
    rw [e_Rn_exchangeAt, X_lostAt hB hp24, B1s, tq, B1s, bq, B1s, X_kN hB hp24, B1s, vx, cw100, nI_add]
    rfl
  have hM : Mo_exchange_18 ch r (nI p) D E = Mo_exchange_85 ch r (nI p) (nI (rC D p cP cT + lC D p cT)) (D 115 0 p) (D 116 0 p) (D 117 0 p) (D 118 0 p) (-1) (nI 0) D E := by
    rw [e_Mo_exchange_18, b3]
    simp (disch := omega) only [sC, sN, sN0, sLL, sTT, sEE, sM1, sF, sGt, sLe, sLt, sNe, or_false, or_true, false_or, true_or, or_self, if_true, if_false, not_true_eq_false, not_false_eq_true, B1s, B0s, B2s, kd, hk, M_costs hB hN hY, gC_split hp hk]
    rfl
  rw [hX, hM]
  exact ex_opts hR hN hp ch r (cW + 1) 0 (lC D p cT) (-1) D (by omega) (by unfold lC; omega) (Or.inl rfl) (Or.inl rfl)
/-- the rest of a round, and the rounds behind it -/
noncomputable def EX (ch : Int32) (r p : Nat) : pD → pDL → Option pRes := fun D E => pB1 (Rn_exchangeRound_4 ch (nI p) D E) fun y D1 E1 => Hb_exchange_4 y (nI (r + 1)) D1 E1
theorem EX_m (ch : Int32) (r p : Nat) : mX (EX ch r p) := mX.bind (f := Rn_exchangeRound_4 ch (nI p)) (isX.m ⟨_, _, _, _, by repeat first | exact okL_nil | refine okL_n ?_ | refine okL_i ?_ | refine okL_r (by decide) ?_, fun _ _ => rfl⟩) (fun y => isX.m ⟨_, _, _, _, by repeat first | exact okL_nil | refine okL_n ?_ | refine okL_i ?_ | refine okL_r (by decide) ?_, fun _ _ => rfl⟩)
theorem ex_both {cN cW cP cT cH : Nat} : ∀ (m r : Nat) (ch : Int32) (D : pD) (E : pDL), r + m = 10 → (ch = 0 ∨ ch = 1) → Rest cN cW cP cT cH D → iNow cW cP D → Bo (fun v D' _ => (∃ x, v = some (.inl x)) ∧ Inv D') D E (Hb_exchange_4 ch (nI r)) (Mo_exchange_4 ch (nI r)) := by
  have stop : ∀ (r : Nat) (ch : Int32) (D : pD) (E : pDL), (10 ≤ r ∧ r ≤ 10 ∨ r < 10 ∧ ch = 0) → Rest cN cW cP cT cH D → iNow cW cP D → Bo (fun v D' _ => (∃ x, v = some (.inl x)) ∧ Inv D') D E (Hb_exchange_4 ch (nI r)) (Mo_exchange_4 ch (nI r)) := by
    intro r ch D E hc hR hN
    refine ⟨_, D, E, D, E, ?_, ?_, ⟨iS (Rn_lostAt_held_wordTraits_v D) cP, rfl⟩, ?_⟩
    · rcases hc with c | c
      · rw [e_Hb_exchange_4, if_pos (nlE 10 (k := r) (by omega) (by omega)), X_lost hR.2.2.1, B1s]
      · rw [e_Hb_exchange_4, if_neg (nle 10 (k := r) (by omega) (by omega)), if_pos c.2, X_lost hR.2.2.1, B1s]
    · rcases hc with c | c
      · rw [e_Mo_exchange_4, if_pos (nlE 10 (k := r) (by omega) (by omega)), M_lost hR.2.2.1 hN hR.2.2.2.2.2.1, B1s]
      · rw [e_Mo_exchange_4, if_neg (nle 10 (k := r) (by omega) (by omega)), if_pos c.2, M_lost hR.2.2.1 hN hR.2.2.2.2.2.1, B1s]
    · rw [cmb_self]
      exact hR.inv hN
  intro m
  induction m with
  | zero =>
    intro r ch D E hr hch hR hN
    exact stop r ch D E (Or.inl (by omega)) hR hN
  | succ m ih =>
    intro r ch D E hr hch hR hN
    by_cases hz : ch = 0
    · exact stop r ch D E (Or.inr ⟨by omega, hz⟩) hR hN
    · have inner : ∀ (n p : Nat) (c : Int32) (D : pD) (E : pDL), p + n = cP → (c = 0 ∨ c = 1) → Rest cN cW cP cT cH D → iNow cW cP D → Bo (fun v D' _ => (∃ x, v = some (.inl x)) ∧ Inv D') D E (EX c r p) (Mo_exchange_18 c (nI r) (nI p)) := by
        intro n
        induction n with
        | zero =>
          intro p c D E hp hc hR hN
          obtain rfl : p = cP := by omega
          obtain ⟨⟨⟨n1, n2, n3, n4, n5⟩, ⟨a1, a2, a3, a4, a5⟩, ⟨b1, b2, b3, b4, b5⟩⟩, -⟩ := id hR.2.2.1
          have hc1 : c &&& 1 = c := by rcases hc with rfl | rfl <;> decide
          refine Bo.stepX (f' := Hb_exchange_4 c (nI (r + 1))) (g' := Mo_exchange_4 c (nI (r + 1))) (D1 := D) (E1 := E) (D2 := D) (E2 := E) (isX.m ⟨_, _, _, _, by repeat first | exact okL_nil | refine okL_n ?_ | refine okL_i ?_ | refine okL_r (by decide) ?_, fun _ _ => rfl⟩) ⟨_, _, _, _, by repeat first | exact okL_nil | refine okL_n ?_ | refine okL_i ?_ | refine okL_r (by decide) ?_, fun _ _ => rfl⟩ ?_ ?_ ?_
          · show pB1 (Rn_exchangeRound_4 c (nI p) D E) _ = _
            rw [e_Rn_exchangeRound_4, a3, if_pos (nI_le (Nat.le_refl _) (by omega)), if_pos hc1, B1s]
          · rw [e_Mo_exchange_18, b3, if_pos (nI_le (Nat.le_refl _) (by omega)), ca1]
          · rw [cmb_self, cmbE_self]
            exact ih (r + 1) c D E (by omega) hc hR hN
        | succ n ihn =>
          intro p c D E hp hc hR hN
          obtain ⟨⟨⟨n1, n2, n3, n4, n5⟩, ⟨a1, a2, a3, a4, a5⟩, ⟨b1, b2, b3, b4, b5⟩⟩, -⟩ := id hR.2.2.1
          have hpc : p < cP := by omega
          have hp24 : p < 24 := by omega
          have kd := now_kd hN hp24
          by_cases hk : D 43 0 p = -1
          · refine Bo.stepX (f' := EX c r (p + 1)) (g' := Mo_exchange_18 c (nI r) (nI (p + 1))) (D1 := D) (E1 := E) (D2 := D) (E2 := E) (EX_m _ _ _) ⟨_, _, _, _, by repeat first | exact okL_nil | refine okL_n ?_ | refine okL_i ?_ | refine okL_r (by decide) ?_, fun _ _ => rfl⟩ ?_ ?_ ?_
            · show pB1 (Rn_exchangeRound_4 c (nI p) D E) _ = pB1 (Rn_exchangeRound_4 c (nI (p + 1)) D E) _
              rw [e_Rn_exchangeRound_4, a3, if_neg (nI_ge hpc (by omega)), Rn_isChosen_spec hp24, B1s, if_pos hk, if_pos rfl, ca1]
            · rw [e_Mo_exchange_18, b3]
              simp (disch := omega) only [sC, sN, sN0, sLL, sTT, sEE, sM1, sF, sGt, sLe, sLt, sNe, or_false, or_true, false_or, true_or, or_self, if_true, if_false, not_true_eq_false, not_false_eq_true, B1s, B0s, B2s, kd, hk, ca1]
            · rw [cmb_self, cmbE_self]
              exact ihn (p + 1) c D E (by omega) hc hR hN
          · rcases ex_at (E := E) hR hN hpc hk c (nI r) with ⟨x1, m1⟩ | ⟨o, ho, x1, m1⟩
            · refine Bo.stepX (f' := EX c r (p + 1)) (g' := Mo_exchange_18 c (nI r) (nI (p + 1))) (D1 := D) (E1 := E) (D2 := D) (E2 := E) (EX_m _ _ _) ⟨_, _, _, _, by repeat first | exact okL_nil | refine okL_n ?_ | refine okL_i ?_ | refine okL_r (by decide) ?_, fun _ _ => rfl⟩ ?_ m1 ?_
              · show pB1 (Rn_exchangeRound_4 c (nI p) D E) _ = pB1 (Rn_exchangeRound_4 c (nI (p + 1)) D E) _
                rw [e_Rn_exchangeRound_4, a3, if_neg (nI_ge hpc (by omega)), Rn_isChosen_spec hp24, B1s, if_neg hk, if_neg (by decide), x1, B1s, if_pos rfl, ca1]
              · rw [cmb_self, cmbE_self]
                exact ihn (p + 1) c D E (by omega) hc hR hN
            · refine Bo.stepX (f' := EX 1 r (p + 1)) (g' := Mo_exchange_18 1 (nI r) (nI (p + 1))) (D1 := opX D cW p o) (E1 := E) (D2 := opM D cW p o) (E2 := E) (EX_m _ _ _) ⟨_, _, _, _, by repeat first | exact okL_nil | refine okL_n ?_ | refine okL_i ?_ | refine okL_r (by decide) ?_, fun _ _ => rfl⟩ ?_ m1 ?_
              · show pB1 (Rn_exchangeRound_4 c (nI p) D E) _ = pB1 (Rn_exchangeRound_4 1 (nI (p + 1)) (opX D cW p o) E) _
                rw [e_Rn_exchangeRound_4, a3, if_neg (nI_ge hpc (by omega)), Rn_isChosen_spec hp24, B1s, if_neg hk, if_neg (by decide), x1, B1s, if_neg (by decide), ca1]
              · unfold opX opM
                rw [cmb_put, cmb_self, cmbE_self]
                exact ihn (p + 1) 1 _ E (by omega) (Or.inr rfl) (put_rest hR _ _ _ _ _ _ _ _ _) (put_now hN hpc (SC.rf (op_xc n2 ho)))
      refine Bo.stepX (f' := EX 0 r 0) (g' := Mo_exchange_18 0 (nI r) (nI 0)) (D1 := D) (E1 := E) (D2 := D) (E2 := E) (EX_m _ _ _) ⟨_, _, _, _, by repeat first | exact okL_nil | refine okL_n ?_ | refine okL_i ?_ | refine okL_r (by decide) ?_, fun _ _ => rfl⟩ ?_ ?_ ?_
      · show Hb_exchange_4 ch (nI r) D E = pB1 (Rn_exchangeRound_4 0 (nI 0) D E) fun y D1 E1 => Hb_exchange_4 y (nI (r + 1)) D1 E1
        rw [e_Hb_exchange_4, if_neg (nle 10 (k := r) (by omega) (by omega)), if_neg hz, e_Rn_exchangeRound, ca1]
        rfl
      · rw [e_Mo_exchange_4, if_neg (nle 10 (k := r) (by omega) (by omega)), if_neg hz]
        rfl
      · rw [cmb_self, cmbE_self]
        exact inner cP 0 0 D E (by omega) (Or.inl rfl) hR hN
/-- exchange -/
theorem L_exchange (D : pD) (E : pDL) (h : Inv D) : Same D E Hb_exchange Mo_exchange := by
  have hh := h
  obtain ⟨cN, cW, cP, cT, cH, hT, hF, hB, hN, hK, hG, hY, hL⟩ := h
  obtain ⟨⟨⟨n1, n2, n3, n4, n5⟩, ⟨a1, a2, a3, a4, a5⟩, ⟨b1, b2, b3, b4, b5⟩⟩, hS, hW, hGS, r1, r2, r3, r4, r5, r6⟩ := id hB
  have hb := ex_both 10 0 1 D E (by omega) (Or.inr rfl) ⟨hT, hF, hB, hK, hG, hY, hL⟩ hN
  refine Bo.same ⟨_, _, _, _, by repeat first | exact okL_nil | refine okL_n ?_ | refine okL_i ?_ | refine okL_r (by decide) ?_, fun _ _ => rfl⟩ ⟨_, _, _, _, by repeat first | exact okL_nil | refine okL_n ?_ | refine okL_i ?_ | refine okL_r (by decide) ?_, fun _ _ => rfl⟩ ?_
  obtain ⟨v, D1, E1, D2, E2, e1, e2, e3⟩ := hb
  refine ⟨v, D1, E1, D2, E2, ?_, ?_, e3⟩
  · rw [e_Hb_exchange]
    exact e1
  · rw [e_Mo_exchange]
    exact e2
