/-! mend -/
theorem pc_or1 : ∀ (k m t : Nat), t < k → m.testBit t = false → pc k (m ||| 2 ^ t) = pc k m + 1
  | 0, _, t, h, _ => absurd h (by omega)
  | k + 1, m, 0, _, h => by
    rw [Nat.testBit_zero] at h
    have h0 : m % 2 = 0 := by
      have : ¬ m % 2 = 1 := by simpa using h
      omega
    have e1 : (m ||| 2 ^ 0) / 2 = m / 2 := by
      rw [Nat.or_div_two, show 2 ^ 0 / 2 = 0 by decide, Nat.or_zero]
    have e2 : (m ||| 2 ^ 0) % 2 = 1 := by
      have : (m ||| 2 ^ 0).testBit 0 = true := by rw [Nat.testBit_or]; simp
      rw [Nat.testBit_zero] at this
      simpa using this
    rw [pc, pc, e1, e2, h0]
    omega
  | k + 1, m, t + 1, h1, h => by
    have e1 : (m ||| 2 ^ (t + 1)) / 2 = m / 2 ||| 2 ^ t := by
      rw [Nat.or_div_two, show 2 ^ (t + 1) / 2 = 2 ^ t by rw [Nat.pow_succ]; omega]
    have e2 : (m ||| 2 ^ (t + 1)) % 2 = m % 2 := by
      have : (m ||| 2 ^ (t + 1)).testBit 0 = m.testBit 0 := by
        have z : (2 ^ (t + 1)).testBit 0 = false := by
          rw [Nat.testBit_two_pow]
          exact decide_eq_false (by omega)
        rw [Nat.testBit_or, z, Bool.or_false]
      rw [Nat.testBit_zero, Nat.testBit_zero] at this
      have e3 : ((m ||| 2 ^ (t + 1)) % 2 = 1) = (m % 2 = 1) := by simpa using this
      have : (m ||| 2 ^ (t + 1)) % 2 = 1 ↔ m % 2 = 1 := by rw [e3]
      omega
    have ih := pc_or1 k (m / 2) t (by omega) (by rw [← Nat.testBit_succ]; exact h)
    rw [pc, pc, e1, e2, ih]
    omega
theorem bc_or {x : Int32} {t : Nat} (ht : t < 32) (h : bt x t = false) : bc (x ||| ((1 : Int32) <<< (nI t &&& 31))) = bc x + 1 := by
  have e : (x ||| ((1 : Int32) <<< (nI t &&& 31))).toBitVec.toNat = x.toBitVec.toNat ||| 2 ^ t := by
    apply Nat.eq_of_testBit_eq
    intro i
    rw [Nat.testBit_or, ← bt_tb, ← bt_tb, b_or]
    congr 1
    by_cases hi : i < 32
    · rw [b_one ht hi, Nat.testBit_two_pow]
      by_cases e : i = t
      · rw [decide_eq_true e, decide_eq_true e.symm]
      · rw [decide_eq_false e, decide_eq_false (fun z => e z.symm)]
    · rw [b_big (by omega), Nat.testBit_two_pow, decide_eq_false (by omega)]
  unfold bc
  rw [e]
  exact pc_or1 32 _ t ht h
theorem nS_inc {f f' : Nat → Nat} {p : Nat} : ∀ {n : Nat}, p < n → (∀ k, k ≠ p → f' k = f k) → f' p = f p + 1 → nS f' n = nS f n + 1
  | 0, h, _, _ => absurd h (by omega)
  | n + 1, h, h1, h2 => by
    rw [nS, nS]
    by_cases e : p = n
    · subst e
      rw [nS_cong (f := f') (g := f) (fun k hk => h1 k (by omega)), h2]
      omega
    · rw [nS_inc (n := n) (by omega) h1 h2, h1 n (fun z => e z.symm)]
      omega
/-- lacks that no note tells -/
def un (D : pD) (p : Nat) : Int32 := if D 43 0 p = -1 then 0 else (D 11 0 p &&& (tAt D p ^^^ (-1))) &&& (D 47 0 p ^^^ (-1))
theorem X_un {p : Nat} (hp : p < 24) (D : pD) (E : pDL) : Rn_untoldLacks (nI p) D E = some (some (.inl (un D p)), D, E) := by
  have tq : Rn_traitsAt_held_wordTraits (nI p) D E = some (some (.inl (tAt D p)), D, E) := Rn_traitsAt_held_wordTraits_spec hp D E
  rw [e_Rn_untoldLacks, Rn_isChosen_spec hp, B1s]
  unfold un
  by_cases c : D 43 0 p = -1
  · rw [if_pos c, if_pos rfl, if_pos c]
  · rw [if_neg c, if_neg (by decide), if_neg c, tq, B1s, Bk_lacksOf_spec hp, B1s, if_neg (iB hp (by omega)), iC (by omega)]
/-- the search, by one number for place and trait -/
def sc (D : pD) : Nat → Int32 × Nat
  | 0 => (0, 0)
  | j + 1 => if bt (un D (j / 24)) (j % 24) = true ∧ (sc D j).1 < D 6 0 (j % 24) then (D 6 0 (j % 24), j) else sc D j
theorem sc_const {D : pD} {p : Nat} (h : un D p = 0) : ∀ n t, t + n = 24 → sc D (24 * p + t) = sc D (24 * p + 24)
  | 0, t, ht => by rw [show t = 24 by omega]
  | n + 1, t, ht => by
    rw [← sc_const h n (t + 1) (by omega), show 24 * p + (t + 1) = (24 * p + t) + 1 by omega, sc, show (24 * p + t) / 24 = p by omega, h, b_0, if_neg (fun z => by cases z.1)]
theorem sc_best {D : pD} (hW : iWts D) : ∀ j, ¬ (sc D j).1 < 0 ∧ ((sc D j).1 ≠ 0 → (sc D j).2 < j ∧ bt (un D ((sc D j).2 / 24)) ((sc D j).2 % 24) = true)
  | 0 => ⟨fun z => absurd z (show ¬ (0 : Int32) < 0 by decide), fun z => absurd rfl z⟩
  | j + 1 => by
    obtain ⟨h1, h2⟩ := sc_best hW j
    obtain ⟨w, hw, e, -⟩ := hW (j % 24) (by omega)
    rw [sc]
    by_cases c : bt (un D (j / 24)) (j % 24) = true ∧ (sc D j).1 < D 6 0 (j % 24)
    · rw [if_pos c]
      exact ⟨by rw [e]; exact iN (by omega), fun _ => ⟨by show j < j + 1; omega, c.1⟩⟩
    · rw [if_neg c]
      exact ⟨h1, fun z => ⟨by have := (h2 z).1; omega, (h2 z).2⟩⟩
theorem X_m34 {D : pD} {E : pDL} {p : Nat} : ∀ n t, t + n = 24 → Rn_mendOnce_34 (sc D (24 * p + t)).1 (nI ((sc D (24 * p + t)).2 / 24)) (nI ((sc D (24 * p + t)).2 % 24)) (nI p) (un D p) (nI t) D E = Rn_mendOnce_9 (sc D (24 * p + 24)).1 (nI ((sc D (24 * p + 24)).2 / 24)) (nI ((sc D (24 * p + 24)).2 % 24)) (nI (p + 1)) D E
  | 0, t, ht => by
    obtain rfl : t = 24 := by omega
    rw [e_Rn_mendOnce_34, if_pos (by decide), ca1]
  | n + 1, t, ht => by
    have ht24 : t < 24 := by omega
    have ih := X_m34 (D := D) (E := E) (p := p) n (t + 1) (by omega)
    rw [e_Rn_mendOnce_34, if_neg (nle 24 ht24 (by omega))]
    by_cases c0 : un D p = 0
    · rw [if_pos c0, sc_const c0 (n + 1) t ht, ca1]
    · rw [if_neg c0]
      have es : sc D (24 * p + (t + 1)) = if bt (un D p) t = true ∧ (sc D (24 * p + t)).1 < D 6 0 t then (D 6 0 t, 24 * p + t) else sc D (24 * p + t) := by
        rw [show 24 * p + (t + 1) = (24 * p + t) + 1 by omega, sc, show (24 * p + t) / 24 = p by omega, show (24 * p + t) % 24 = t by omega]
      rw [es] at ih
      by_cases c1 : bt (un D p) t = true
      · by_cases c2 : (sc D (24 * p + t)).1 < D 6 0 t
        · rw [if_pos ⟨c1, c2⟩] at ih
          dsimp only at ih
          rw [show (24 * p + t) / 24 = p by omega, show (24 * p + t) % 24 = t by omega] at ih
          have c2' : ¬ D 6 0 t ≤ (sc D (24 * p + t)).1 := by rw [iNL]; exact fun z => z c2
          rw [if_neg (fun z => by rw [bit0 (by omega), c1] at z; cases z), if_neg (iB (by omega) (by omega)), if_neg (by rw [iC (by omega)]; exact c2'), if_neg (iB (by omega) (by omega)), iC (by omega), ca1]
          exact ih
        · rw [if_neg (fun z => c2 z.2)] at ih
          have c2' : D 6 0 t ≤ (sc D (24 * p + t)).1 := by rw [iNL]; exact c2
          rw [if_neg (fun z => by rw [bit0 (by omega), c1] at z; cases z), if_neg (iB (by omega) (by omega)), if_pos (by rw [iC (by omega)]; exact c2'), ca1]
          exact ih
      · rw [if_neg (fun z => c1 z.1)] at ih
        rw [if_pos ((bit0 (by omega)).mpr (by simpa using c1)), ca1]
        exact ih
theorem X_m9 {cN cW cP cT cH : Nat} {D : pD} {E : pDL} (h : iBook cN cW cP cT cH D) : Rn_mendOnce D E = Rn_mendOnce_9 (sc D (24 * cP)).1 (nI ((sc D (24 * cP)).2 / 24)) (nI ((sc D (24 * cP)).2 % 24)) (nI cP) D E := by
  have n3 := h.1.1.2.2.1
  have a3 := h.1.2.1.2.2.1
  have s0 : Rn_mendOnce_9 0 0 0 0 D E = Rn_mendOnce_9 (sc D (24 * 0)).1 (nI ((sc D (24 * 0)).2 / 24)) (nI ((sc D (24 * 0)).2 % 24)) (nI 0) D E := by
    rw [Nat.mul_zero, sc]
    rfl
  rw [e_Rn_mendOnce, s0]
  refine z0 (fun p => Rn_mendOnce_9 (sc D (24 * p)).1 (nI ((sc D (24 * p)).2 / 24)) (nI ((sc D (24 * p)).2 % 24)) (nI p) D E) cP (fun p hp => ?_)
  show Rn_mendOnce_9 _ _ _ _ _ _ = Rn_mendOnce_9 _ _ _ _ _ _
  rw [e_Rn_mendOnce_9, a3, if_neg (nI_ge hp (by omega)), X_un (by omega), B1s, show 24 * (p + 1) = 24 * p + 24 by omega]
  exact X_m34 24 0 rfl
def bI (D : pD) (j : Nat) : Int32 := if (sc D j).1 = 0 then -1 else nI (sc D j).2
theorem M_m42 {cN cW cP cT cH : Nat} {D : pD} {E : pDL} (h : iBook cN cW cP cT cH D) (hN : iNow cW cP D) (hY : iYears cW D) (x k : Int32) : Mo_mend_42 x k (-1) 0 0 D E = Mo_mend_42 x k (bI D (24 * cP)) (sc D (24 * cP)).1 (nI (24 * cP)) D E := by
  obtain ⟨⟨⟨n1, n2, n3, n4, n5⟩, ⟨a1, a2, a3, a4, a5⟩, ⟨b1, b2, b3, b4, b5⟩⟩, hS, hW, hGS, r1, r2, r3, r4, r5, r6⟩ := id h
  refine z0 (fun j => Mo_mend_42 x k (bI D j) (sc D j).1 (nI j) D E) (24 * cP) (fun j hj => ?_)
  show Mo_mend_42 _ _ _ _ _ _ _ = Mo_mend_42 _ _ _ _ _ _ _
  have hp : j / 24 < cP := by omega
  have ht : j % 24 < 24 := by omega
  have ed : nI j / 24 = nI (j / 24) := pk_div (d := 24) (by omega) (by decide) (by decide)
  have er : nI j - nI (j / 24) * 24 = nI (j % 24) := by
    rw [← ed]
    exact pk_rem (d := 24) (by omega) (by decide) (by decide)
  have kd := now_kd hN (p := j / 24) (by omega)
  have nt := (hN (j / 24) (by omega)).2.1
  obtain ⟨w, hw, e6, e114⟩ := hW (j % 24) ht
  have lk := M_lackAt (E := E) h hN hY hp
  have h240 : ((24 : Int32) = 0) = False := eq_false (by decide)
  rw [e_Mo_mend_42, b3, cm24, ed, er]
  have hne : ¬ nI (cP * 24) ≤ nI j := nI_ge (by omega) (by omega)
  unfold bI
  rw [sc]
  by_cases c0 : D 43 0 (j / 24) = -1
  · have e0 : un D (j / 24) = 0 := if_pos c0
    rw [e0, b_0]
    simp (disch := omega) only [sC, sN, sN0, sLL, sTT, sEE, sM1, sF, sGt, sLe, sLt, sNe, or_false, or_true, false_or, true_or, or_self, if_true, if_false, not_true_eq_false, not_false_eq_true, B1s, B0s, B2s, hne, h240, kd, c0, ca1, Bool.false_eq_true, false_and]
  · have e0 : un D (j / 24) = (D 11 0 (j / 24) &&& (tAt D (j / 24) ^^^ (-1))) &&& (D 47 0 (j / 24) ^^^ (-1)) := if_neg c0
    have lk' : Mo_lackAt (nI (j / 24)) (-1) D E = some (some (.inl (D 11 0 (j / 24) &&& (tAt D (j / 24) ^^^ (-1)))), D, E) := lk
    rw [e0]
    by_cases c1 : bt ((D 11 0 (j / 24) &&& (tAt D (j / 24) ^^^ (-1))) &&& (D 47 0 (j / 24) ^^^ (-1))) (j % 24) = true
    · have c1' : ¬ ((D 11 0 (j / 24) &&& (tAt D (j / 24) ^^^ (-1))) &&& (D 47 0 (j / 24) ^^^ (-1))) &&& ((1 : Int32) <<< (nI (j % 24) &&& 31)) = 0 := fun z => by rw [one_x (by omega), c1] at z; cases z
      by_cases c2 : (sc D j).1 < D 6 0 (j % 24)
      · have c3 : ¬ D 6 0 (j % 24) = 0 := fun z => by
          rw [z] at c2
          exact (sc_best hW j).1 c2
        have c2' : (sc D j).1 < D 114 0 (j % 24) := by rw [e114, ← e6]; exact c2
        have e6' : D 114 0 (j % 24) = D 6 0 (j % 24) := by rw [e114, e6]
        simp (disch := omega) only [sC, sN, sN0, sLL, sTT, sEE, sM1, sF, sGt, sLe, sLt, sNe, or_false, or_true, false_or, true_or, or_self, if_true, if_false, not_true_eq_false, not_false_eq_true, B1s, B0s, B2s, hne, h240, kd, c0, lk', nt, c1', c1, c2, e6', ca1, and_self, c3]
      · have c2' : ¬ (sc D j).1 < D 114 0 (j % 24) := by rw [e114, ← e6]; exact c2
        simp (disch := omega) only [sC, sN, sN0, sLL, sTT, sEE, sM1, sF, sGt, sLe, sLt, sNe, or_false, or_true, false_or, true_or, or_self, if_true, if_false, not_true_eq_false, not_false_eq_true, B1s, B0s, B2s, hne, h240, kd, c0, lk', nt, c1', c1, c2, c2', ca1, and_false]
    · have c1' : ((D 11 0 (j / 24) &&& (tAt D (j / 24) ^^^ (-1))) &&& (D 47 0 (j / 24) ^^^ (-1))) &&& ((1 : Int32) <<< (nI (j % 24) &&& 31)) = 0 := (one_x (by omega)).mpr (by simpa using c1)
      simp (disch := omega) only [sC, sN, sN0, sLL, sTT, sEE, sM1, sF, sGt, sLe, sLt, sNe, or_false, or_true, false_or, true_or, or_self, if_true, if_false, not_true_eq_false, not_false_eq_true, B1s, B0s, B2s, hne, h240, kd, c0, lk', nt, c1', c1, ca1, false_and, Bool.false_eq_true]
/-- both mend -/
theorem mend_both {cN cW cP cT cH n s T0 : Nat} (hn : n ≤ 99) (hs : s ≤ 99) {a : Int32} (ha : ∀ k : Nat, k ≤ 99 → (a ≤ nI k ↔ n ≤ k ∨ s ≤ T0 + k)) (hT0 : T0 ≤ 768) : ∀ (f k : Nat) (D : pD) (E : pDL), k + f = n → Rest cN cW cP cT cH D → iNow cW cP D → D 102 0 9 = nI s → nT D = T0 + k → Bo (fun v D' _ => (∃ x, v = some (.inl x)) ∧ Inv D') D E (Hb_mend_37 a (nI k)) (Mo_mend_15 (nI n) (nI k)) := by
  intro f
  induction f with
  | zero =>
    intro k D E hk hR hN e9 hT
    have c : a ≤ nI k := (ha k (by omega)).mpr (Or.inl (by omega))
    refine ⟨some (.inl (nI k)), D, E, D, E, by rw [e_Hb_mend_37, if_pos c], by rw [e_Mo_mend_15, if_pos (nI_le (by omega) (by omega))], ⟨_, rfl⟩, ?_⟩
    rw [cmb_self]
    exact hR.inv hN
  | succ f ih =>
    intro k D E hk hR hN e9 hT
    obtain ⟨hT', hF, hB, hK, hG, hY, hL⟩ := id hR
    obtain ⟨⟨⟨n1, n2, n3, n4, n5⟩, ⟨a1, a2, a3, a4, a5⟩, ⟨b1, b2, b3, b4, b5⟩⟩, hS, hW, hGS, r1, r2, r3, r4, r5, r6⟩ := id hB
    have mn : Mo_mend_15 (nI n) (nI k) D E = if s ≤ T0 + k then some (some (.inl (nI k)), D, E) else Mo_mend_42 (nI n) (nI k) (-1) 0 0 D E := by
      rw [e_Mo_mend_15, if_neg (nI_ge (by omega) (by omega)), M_noted hB hN, B1s, e9, hT]
      by_cases c : s ≤ T0 + k
      · rw [if_pos c, if_pos (nI_le c (by omega))]
      · rw [if_neg c, if_neg (nI_ge (by omega) (by omega))]
    by_cases c0 : s ≤ T0 + k
    · have c : a ≤ nI k := (ha k (by omega)).mpr (Or.inr c0)
      refine ⟨some (.inl (nI k)), D, E, D, E, by rw [e_Hb_mend_37, if_pos c], by rw [mn, if_pos c0], ⟨_, rfl⟩, ?_⟩
      rw [cmb_self]
      exact hR.inv hN
    · have c : ¬ a ≤ nI k := fun z => by
        rcases (ha k (by omega)).mp z with q | q
        · omega
        · exact c0 q
      have xm := X_m9 (E := E) hB
      have mm := M_m42 (E := E) hB hN hY (nI n) (nI k)
      obtain ⟨s1, s2⟩ := sc_best hW (24 * cP)
      by_cases c1 : (sc D (24 * cP)).1 = 0
      · have eb : bI D (24 * cP) = -1 := if_pos c1
        refine ⟨some (.inl (nI k)), D, E, D, E, ?_, ?_, ⟨_, rfl⟩, ?_⟩
        · rw [e_Hb_mend_37, if_neg c, xm, e_Rn_mendOnce_9, a3, if_pos (nI_le (Nat.le_refl _) (by omega)), if_pos c1, B1s, if_pos rfl]
        · rw [mn, if_neg c0, mm, eb, e_Mo_mend_42, b3, cm24, if_pos (nI_le (by omega) (by omega)), if_pos rfl]
        · rw [cmb_self]
          exact hR.inv hN
      · obtain ⟨s3, s4⟩ := s2 c1
        have eb : bI D (24 * cP) = nI (sc D (24 * cP)).2 := if_neg c1
        generalize hj : (sc D (24 * cP)).2 = j at *
        have hp : j / 24 < cP := by omega
        have hp24 : j / 24 < 24 := by omega
        have ed : nI j / 24 = nI (j / 24) := pk_div (d := 24) (by omega) (by decide) (by decide)
        have er : nI j - nI (j / 24) * 24 = nI (j % 24) := by
          rw [← ed]
          exact pk_rem (d := 24) (by omega) (by decide) (by decide)
        have nt := (hN (j / 24) hp24).2.1
        have h240 : ((24 : Int32) = 0) = False := eq_false (by decide)
        have hbit : bt (D 47 0 (j / 24)) (j % 24) = false := by
          unfold un at s4
          by_cases q : D 43 0 (j / 24) = -1
          · rw [if_pos q, b_0] at s4
            cases s4
          · rw [if_neg q, b_and, b_not _ (by omega)] at s4
            cases hb : bt (D 47 0 (j / 24)) (j % 24) with
            | false => rfl
            | true =>
              rw [hb] at s4
              simp at s4
        have fx : Hb_mend_37 a (nI k) D E = Hb_mend_37 a (nI (k + 1)) (dset D 47 0 (j / 24) (D 47 0 (j / 24) ||| ((1 : Int32) <<< (nI (j % 24) &&& 31)))) E := by
          rw [e_Hb_mend_37, if_neg c, xm, e_Rn_mendOnce_9, a3, if_pos (nI_le (Nat.le_refl _) (by omega)), if_neg c1, if_neg (iB hp24 (by omega)), if_neg (iB hp24 (by omega)), B1s, if_neg (by decide), iC (by omega), ca1]
        have gm' : Mo_mend_15 (nI n) (nI k) D E = Mo_mend_15 (nI n) (nI (k + 1)) (dset D 119 0 (j / 24) (D 47 0 (j / 24) ||| ((1 : Int32) <<< (nI (j % 24) &&& 31)))) E := by
          rw [mn, if_neg c0, mm, eb, e_Mo_mend_42, b3, cm24, if_pos (nI_le (by omega) (by omega)), if_neg (iM (by omega)), ed, er]
          simp (disch := omega) only [sC, sN, sN0, sLL, sTT, sEE, sM1, sF, sGt, sLe, sLt, sNe, or_false, or_true, false_or, true_or, or_self, if_true, if_false, not_true_eq_false, not_false_eq_true, B1s, B0s, B2s, h240, nt, ca1]
        refine Bo.step (f' := Hb_mend_37 a (nI (k + 1))) (g' := Mo_mend_15 (nI n) (nI (k + 1))) ⟨_, _, _, _, by repeat first | exact okL_nil | refine okL_n ?_ | refine okL_i ?_ | refine okL_r (by decide) ?_, fun _ _ => rfl⟩ ⟨_, _, _, _, by repeat first | exact okL_nil | refine okL_n ?_ | refine okL_i ?_ | refine okL_r (by decide) ?_, fun _ _ => rfl⟩ fx gm' ?_
        rw [cmb_sm (by decide), cmb_sx (by decide), cmb_self]
        have eE : cmbE E E = E := funext fun q => by unfold cmbE; split <;> rfl
        rw [eE]
        refine ih (k + 1) _ E (by omega) (note_rest hR _ _) (note_now hN hp _) (by rw [dsN (by decide), dsN (by decide)]; exact e9) ?_
        rw [← Nat.add_assoc, ← hT]
        unfold nT
        refine nS_inc (p := j / 24) hp24 (fun q hq => ?_) ?_
        · rw [dsN (by decide), dsA, if_neg hq]
        · rw [dsN (by decide), dsA, if_pos rfl, bc_or (by omega) hbit]
/-- mend -/
theorem L_mend (x : Int32) (D : pD) (E : pDL) (h : Inv D) : Same D E (Hb_mend x) (Mo_mend x) := by
  have hh := h
  obtain ⟨cN, cW, cP, cT, cH, hT, hF, hB, hN, hK, hG, hY, hL⟩ := h
  obtain ⟨⟨⟨n1, n2, n3, n4, n5⟩, ⟨a1, a2, a3, a4, a5⟩, ⟨b1, b2, b3, b4, b5⟩⟩, hS, hW, hGS, r1, r2, r3, r4, r5, r6⟩ := id hB
  have hR : Rest cN cW cP cT cH D := ⟨hT, hF, hB, hK, hG, hY, hL⟩
  rcases ixc x (n := 100) (by omega) with hx | ⟨n, hn, rfl⟩
  · refine Same.ro (v := -2) hh ?_ (by rw [e_Mo_mend, in_out D E 100 (by decide) (by omega) hx, B1s, if_pos rfl])
    rw [e_Hb_mend]
    by_cases h0 : x < 0
    · rw [if_pos h0]
    · rw [if_neg h0, if_neg (show ¬ x ≤ (99 : Int32) from nle_of (hx.resolve_left h0) (m := 99) (by omega) (by omega))]
  · obtain ⟨s, hs, s1, s2⟩ := hS 4 (by omega)
    have s1' : Bk_setting 9 D E = some (some (.inl (nI s)), D, E) := by rw [← s1]; exact Bk_setting_spec (k := 4) (by omega) D E
    have hT0 := nT_le D
    have hti : ∀ m : Nat, m < 2147483648 → (nI m).toInt = m := fun m hm => nI_toInt hm
    have hsub : (nI s - nI (nT D)).toInt = (s : Int) - nT D := by
      rw [Int32.toInt_sub, nI_toInt (by omega), nI_toInt (by omega), Int.bmod_eq_of_le (by omega) (by omega)]
    have hb := mend_both (n := n) (s := s) (T0 := nT D) (a := if nI s - nI (nT D) < nI n then nI s - nI (nT D) else nI n) (by omega) hs (fun k hk => by
      split
      · next q =>
        rw [Int32.lt_iff_toInt_lt, hsub, hti n (by omega)] at q
        rw [Int32.le_iff_toInt_le, hsub, hti k (by omega)]
        omega
      · next q =>
        rw [Int32.lt_iff_toInt_lt, hsub, hti n (by omega)] at q
        rw [Int32.le_iff_toInt_le, hti k (by omega), hti n (by omega)]
        omega) hT0 n 0 D E (by omega) hR hN s2 (Nat.add_zero _).symm
    refine Bo.same ⟨_, _, _, _, by repeat first | exact okL_nil | refine okL_n ?_ | refine okL_i ?_ | refine okL_r (by decide) ?_, fun _ _ => rfl⟩ ⟨_, _, _, _, by repeat first | exact okL_nil | refine okL_n ?_ | refine okL_i ?_ | refine okL_r (by decide) ?_, fun _ _ => rfl⟩ ?_
    obtain ⟨v, D1, E1, D2, E2, e1, e2, e3⟩ := hb
    refine ⟨v, D1, E1, D2, E2, ?_, ?_, e3⟩
    · rw [e_Hb_mend, if_neg (iN (by omega)), if_pos (nnl' 99 (by omega) (by omega)), s1', B1s, X_noted, B1s]
      exact e1
    · rw [e_Mo_mend, in_in D E 100 (by decide) (by omega) hn, B1s, if_neg (by decide)]
      exact e2
