/-! TIES: clashes, bound -/
theorem q3m : ((3 : Int32) = -1) = False := eq_false (by decide)
theorem q0m : ((0 : Int32) = -1) = False := eq_false (by decide)
def tF (D : pD) (t : Nat) : Nat := (D 12 0 t).toNatClampNeg
def tS (D : pD) (t : Nat) : Nat := (D 13 0 t).toNatClampNeg
theorem tie_x {cN cW cP cT cH : Nat} {D : pD} (h : iBook cN cW cP cT cH D) {t : Nat} (ht : t < cT) : D 12 0 t = nI (tF D t) ∧ D 13 0 t = nI (tS D t) ∧ tF D t < cP ∧ tS D t < cP ∧ tF D t ≠ tS D t := by
  have n3 := h.1.1.2.2.1
  obtain ⟨-, -, -, q1, q2, q3⟩ := h.2.2.2.2.2.2.2.2.1 t ht
  obtain ⟨a, ha, e1⟩ := vp_in_of q1 (by omega)
  obtain ⟨b, hb, e2⟩ := vp_in_of q2 (by omega)
  unfold tF tS
  rw [e1, e2, iC (by omega), iC (by omega)]
  refine ⟨rfl, rfl, ha, hb, fun z => q3 ?_⟩
  rw [e1, e2, z]
/-- the traits at a place -/
def tAt (D : pD) (q : Nat) : Int32 := tA (D 9 0) (D 44 0 q) (D 45 0 q) (D 46 0 q)
/-- would it clash -/
def wc (D : pD) (t : Nat) (a b f : Int32) : Int32 := if (a &&& b) &&& D 14 0 t = 0 then (if f = 0 then 1 else if D 10 0 (tF D t) = D 10 0 (tS D t) then 0 else 1) else 0
theorem X_would {cN cW cP cT cH : Nat} {D : pD} {E : pDL} (h : iBook cN cW cP cT cH D) {t : Nat} (ht : t < cT) (a b f : Int32) : Bk_wouldClash (nI t) a b f D E = some (some (.inl (wc D t a b f)), D, E) := by
  have n3 := h.1.1.2.2.1
  have n4 := h.1.1.2.2.2.1
  obtain ⟨e1, e2, h1, h2, -⟩ := tie_x h ht
  unfold wc
  rw [e_Bk_wouldClash]
  by_cases c1 : (a &&& b) &&& D 14 0 t = 0
  · by_cases c2 : f = 0
    · simp (disch := omega) only [sC, sN, sN0, sLL, sTT, sEE, sM1, sF, sGt, sLe, sLt, sNe, or_false, or_true, false_or, true_or, or_self, if_true, if_false, not_true_eq_false, not_false_eq_true, B1s, B0s, B2s, e1, e2, c1, c2]
    · by_cases c3 : D 10 0 (tF D t) = D 10 0 (tS D t)
      · simp (disch := omega) only [sC, sN, sN0, sLL, sTT, sEE, sM1, sF, sGt, sLe, sLt, sNe, or_false, or_true, false_or, true_or, or_self, if_true, if_false, not_true_eq_false, not_false_eq_true, B1s, B0s, B2s, e1, e2, c1, c2, c3]
      · simp (disch := omega) only [sC, sN, sN0, sLL, sTT, sEE, sM1, sF, sGt, sLe, sLt, sNe, or_false, or_true, false_or, true_or, or_self, if_true, if_false, not_true_eq_false, not_false_eq_true, B1s, B0s, B2s, e1, e2, c1, c2, c3]
  · simp (disch := omega) only [sC, sN, sN0, sLL, sTT, sEE, sM1, sF, sGt, sLe, sLt, sNe, or_false, or_true, false_or, true_or, or_self, if_true, if_false, not_true_eq_false, not_false_eq_true, B1s, B0s, B2s, c1]
/-- the other place stays -/
def icq (D : pD) (t q : Nat) (has bo : Int32) : Int32 := if D 43 0 q = -1 then 0 else wc D t has (tAt D q) (if bo = 0 then 0 else if D 43 0 q = 3 then 1 else 0)
def icl (D : pD) (t p : Nat) (has bo : Int32) : Int32 := if tF D t = p then icq D t (tS D t) has bo else if tS D t = p then icq D t (tF D t) has bo else 0
theorem wc_01 (D : pD) (t : Nat) (a b f : Int32) : wc D t a b f = 0 ∨ wc D t a b f = 1 := by
  unfold wc
  split
  · split
    · exact Or.inr rfl
    · split
      · exact Or.inl rfl
      · exact Or.inr rfl
  · exact Or.inl rfl
theorem icq_01 (D : pD) (t q : Nat) (a f : Int32) : icq D t q a f = 0 ∨ icq D t q a f = 1 := by
  unfold icq
  split
  · exact Or.inl rfl
  · exact wc_01 _ _ _ _ _
theorem icl_01 (D : pD) (t q : Nat) (a f : Int32) : icl D t q a f = 0 ∨ icl D t q a f = 1 := by
  unfold icl
  split
  · exact icq_01 _ _ _ _ _
  · split
    · exact icq_01 _ _ _ _ _
    · exact Or.inl rfl
theorem X_icl {cN cW cP cT cH : Nat} {D : pD} {E : pDL} (h : iBook cN cW cP cT cH D) {t p : Nat} (ht : t < cT) (hp : p < 24) (has bo : Int32) : Rn_isClashing (nI t) (nI p) has bo D E = some (some (.inl (icl D t p has bo)), D, E) := by
  have n3 := h.1.1.2.2.1
  have n4 := h.1.1.2.2.2.1
  obtain ⟨e1, e2, h1, h2, h3⟩ := tie_x h ht
  have w01 : ∀ b f, (if wc D t has b f = 0 then (some (some (.inl (0 : Int32)), D, E) : Option pRes) else some (some (.inl (1 : Int32)), D, E)) = some (some (.inl (wc D t has b f)), D, E) := by
    intro b f
    rcases wc_01 D t has b f with z | z
    · rw [z, if_pos rfl]
    · rw [z, if_neg (by decide)]
  rw [e_Rn_isClashing, e_Bk_otherPlace]
  unfold icl
  by_cases c1 : tF D t = p
  · subst c1
    rw [if_pos rfl]
    simp (disch := omega) only [sC, sN, sN0, sLL, sTT, sEE, sM1, sF, sGt, sLe, sLt, sNe, or_false, or_true, false_or, true_or, or_self, if_true, if_false, not_true_eq_false, not_false_eq_true, B1s, B0s, B2s, e1, e2]
    have hq : tS D t < 24 := by omega
    unfold icq
    rw [Rn_isChosen_spec hq, B1s]
    by_cases k0 : D 43 0 (tS D t) = -1
    · simp only [k0, if_true]
    · simp only [k0, if_false, h10, Rn_traitsAt_held_wordTraits_spec hq, B1s]
      by_cases b0 : bo = 0
      · simp only [b0, if_true, X_would h ht, B1s, w01]
        rfl
      · simp only [b0, if_false, Rn_isBorrowed_spec hq, B1s]
        by_cases k3 : D 43 0 (tS D t) = 3
        · simp only [k3, if_true, h10, if_false, X_would h ht, B1s, w01]
          rfl
        · simp only [k3, if_true, if_false, X_would h ht, B1s, w01]
          rfl
  · by_cases c2 : tS D t = p
    · subst c2
      rw [if_neg c1, if_pos rfl]
      simp (disch := omega) only [sC, sN, sN0, sLL, sTT, sEE, sM1, sF, sGt, sLe, sLt, sNe, or_false, or_true, false_or, true_or, or_self, if_true, if_false, not_true_eq_false, not_false_eq_true, B1s, B0s, B2s, e1, e2]
      have hq : tF D t < 24 := by omega
      unfold icq
      rw [Rn_isChosen_spec hq, B1s]
      by_cases k0 : D 43 0 (tF D t) = -1
      · simp only [k0, if_true]
      · simp only [k0, if_false, h10, Rn_traitsAt_held_wordTraits_spec hq, B1s]
        by_cases b0 : bo = 0
        · simp only [b0, if_true, X_would h ht, B1s, w01]
          rfl
        · simp only [b0, if_false, Rn_isBorrowed_spec hq, B1s]
          by_cases k3 : D 43 0 (tF D t) = 3
          · simp only [k3, if_true, h10, if_false, X_would h ht, B1s, w01]
            rfl
          · simp only [k3, if_true, if_false, X_would h ht, B1s, w01]
            rfl
    · rw [if_neg c1, if_neg c2]
      simp (disch := omega) only [sC, sN, sN0, sLL, sTT, sEE, sM1, sF, sGt, sLe, sLt, sNe, or_false, or_true, false_or, true_or, or_self, if_true, if_false, not_true_eq_false, not_false_eq_true, B1s, B0s, B2s, e1, e2]
/-- does a tie clash -/
def cl (D : pD) (t : Nat) : Int32 := if D 43 0 (tF D t) = -1 then 0 else icq D t (tS D t) (tAt D (tF D t)) (if D 43 0 (tF D t) = 3 then 1 else 0)
theorem M_clash {cN cW cP cT cH : Nat} {D : pD} {E : pDL} (h : iBook cN cW cP cT cH D) (hN : iNow cW cP D) (hY : iYears cW D) {t : Nat} (ht : t < cT) : Mo_isClash (nI t) D E = some (some (.inl (cl D t)), D, E) := by
  obtain ⟨⟨⟨n1, n2, n3, n4, n5⟩, -, -⟩, hS, hW, hGS, r1, r2, r3, r4, r5, r6⟩ := id h
  obtain ⟨e1, e2, h1, h2, h3⟩ := tie_x h ht
  obtain ⟨m1, m2, m3, -⟩ := r5 t ht
  have k1 := now_kd hN (p := tF D t) (by omega)
  have k2 := now_kd hN (p := tS D t) (by omega)
  have d1 : Mo_had (nI (tF D t)) (-1) D E = some (some (.inl (tAt D (tF D t))), D, E) := M_had h hN hY (by omega)
  have d2 : Mo_had (nI (tS D t)) (-1) D E = some (some (.inl (tAt D (tS D t))), D, E) := M_had h hN hY (by omega)
  have p1 := (r4 _ h1).1
  have p2 := (r4 _ h2).1
  rw [e_Mo_isClash, iC (show t < 2147483648 by omega), m1, m2, e1, e2]
  unfold cl icq wc
  by_cases c1 : D 43 0 (tF D t) = -1
  · simp (disch := omega) only [sC, sN, sN0, sLL, sTT, sEE, sM1, sF, sGt, sLe, sLt, sNe, or_false, or_true, false_or, true_or, or_self, if_true, if_false, not_true_eq_false, not_false_eq_true, B1s, B0s, B2s, k1, c1]
  · by_cases c2 : D 43 0 (tS D t) = -1
    · simp (disch := omega) only [sC, sN, sN0, sLL, sTT, sEE, sM1, sF, sGt, sLe, sLt, sNe, or_false, or_true, false_or, true_or, or_self, if_true, if_false, not_true_eq_false, not_false_eq_true, B1s, B0s, B2s, k1, k2, c1, c2]
    · by_cases c3 : (tAt D (tF D t) &&& tAt D (tS D t)) &&& D 14 0 t = 0
      · by_cases c4 : D 43 0 (tF D t) = 3
        · by_cases c5 : D 43 0 (tS D t) = 3
          · by_cases c6 : D 10 0 (tF D t) = D 10 0 (tS D t)
            · simp (disch := omega) only [sC, sN, sN0, sLL, sTT, sEE, sM1, sF, sGt, sLe, sLt, sNe, or_false, or_true, false_or, true_or, or_self, if_true, if_false, not_true_eq_false, not_false_eq_true, B1s, B0s, B2s, k1, k2, d1, d2, m3, p1, p2, c1, c2, c3, c4, c5, c6, h10, q3m]
            · simp (disch := omega) only [sC, sN, sN0, sLL, sTT, sEE, sM1, sF, sGt, sLe, sLt, sNe, or_false, or_true, false_or, true_or, or_self, if_true, if_false, not_true_eq_false, not_false_eq_true, B1s, B0s, B2s, k1, k2, d1, d2, m3, p1, p2, c1, c2, c3, c4, c5, c6, h10, q3m]
          · simp (disch := omega) only [sC, sN, sN0, sLL, sTT, sEE, sM1, sF, sGt, sLe, sLt, sNe, or_false, or_true, false_or, true_or, or_self, if_true, if_false, not_true_eq_false, not_false_eq_true, B1s, B0s, B2s, k1, k2, d1, d2, m3, c1, c2, c3, c4, c5, h10, q3m]
        · simp (disch := omega) only [sC, sN, sN0, sLL, sTT, sEE, sM1, sF, sGt, sLe, sLt, sNe, or_false, or_true, false_or, true_or, or_self, if_true, if_false, not_true_eq_false, not_false_eq_true, B1s, B0s, B2s, k1, k2, d1, d2, m3, c1, c2, c3, c4]
      · simp (disch := omega) only [sC, sN, sN0, sLL, sTT, sEE, sM1, sF, sGt, sLe, sLt, sNe, or_false, or_true, false_or, true_or, or_self, if_true, if_false, not_true_eq_false, not_false_eq_true, B1s, B0s, B2s, k1, k2, d1, d2, m3, c1, c2, c3]
/-- the bits of what isn't 0 -/
def cbS (f : Nat → Int32) : Nat → Int32
  | 0 => 0
  | n + 1 => if f n = 0 then cbS f n else cbS f n ||| ((1 : Int32) <<< (nI n &&& 31))
theorem X_clashes {cN cW cP cT cH : Nat} {D : pD} {E : pDL} (h : iBook cN cW cP cT cH D) : Rn_clashBits D E = some (some (.inl (cbS (cl D) cT)), D, E) := by
  obtain ⟨⟨⟨n1, n2, n3, n4, n5⟩, ⟨a1, a2, a3, a4, a5⟩, ⟨b1, b2, b3, b4, b5⟩⟩, -⟩ := id h
  rw [e_Rn_clashBits]
  refine (z0 (fun k => Rn_clashBits_4 (cbS (cl D) k) (nI k) D E) cT (fun k hk => ?_)).trans ?_
  · show Rn_clashBits_4 _ _ _ _ = Rn_clashBits_4 _ _ _ _
    obtain ⟨e1, e2, h1, h2, h3⟩ := tie_x h hk
    have hf : tF D k < 24 := by omega
    rw [e_Rn_clashBits_4, cbS]
    by_cases c1 : D 43 0 (tF D k) = -1
    · have e : cl D k = 0 := if_pos c1
      simp (disch := omega) only [sC, sN, sN0, sLL, sTT, sEE, sM1, sF, sGt, sLe, sLt, sNe, or_false, or_true, false_or, true_or, or_self, if_true, if_false, not_true_eq_false, not_false_eq_true, B1s, B0s, B2s, a4, e1, Rn_isChosen_spec hf, c1, e, ca1]
    · have e : icl D k (tF D k) (tAt D (tF D k)) (if D 43 0 (tF D k) = 3 then 1 else 0) = cl D k := by
        unfold icl cl
        rw [if_pos rfl, if_neg c1]
      have tq : Rn_traitsAt_held_wordTraits (nI (tF D k)) D E = some (some (.inl (tAt D (tF D k))), D, E) := Rn_traitsAt_held_wordTraits_spec hf D E
      simp (disch := omega) only [sC, sN, sN0, sLL, sTT, sEE, sM1, sF, sGt, sLe, sLt, sNe, or_false, or_true, false_or, true_or, or_self, if_true, if_false, not_true_eq_false, not_false_eq_true, B1s, B0s, B2s, a4, e1, Rn_isChosen_spec hf, c1, h10, tq, Rn_isBorrowed_spec hf, X_icl h hk hf, e, ca1]
      split <;> rfl
  · show Rn_clashBits_4 _ _ _ _ = _
    rw [e_Rn_clashBits_4, a4, if_pos (nI_le (Nat.le_refl _) (by omega))]
theorem M_clashes {cN cW cP cT cH : Nat} {D : pD} {E : pDL} (h : iBook cN cW cP cT cH D) (hN : iNow cW cP D) (hY : iYears cW D) : Mo_clashes D E = some (some (.inl (cbS (cl D) cT)), D, E) := by
  obtain ⟨⟨⟨n1, n2, n3, n4, n5⟩, ⟨a1, a2, a3, a4, a5⟩, ⟨b1, b2, b3, b4, b5⟩⟩, -⟩ := id h
  rw [e_Mo_clashes]
  refine (z0 (fun k => Mo_clashes_4 (cbS (cl D) k) (nI k) D E) cT (fun k hk => ?_)).trans ?_
  · show Mo_clashes_4 _ _ _ _ = Mo_clashes_4 _ _ _ _
    rw [e_Mo_clashes_4, cbS]
    simp (disch := omega) only [sC, sN, sN0, sLL, sTT, sEE, sM1, sF, sGt, sLe, sLt, sNe, or_false, or_true, false_or, true_or, or_self, if_true, if_false, not_true_eq_false, not_false_eq_true, B1s, B0s, B2s, b4, M_clash h hN hY hk, or_0, ca1]
    split <;> rfl
  · show Mo_clashes_4 _ _ _ _ = _
    rw [e_Mo_clashes_4, b4, if_pos (nI_le (Nat.le_refl _) (by omega))]
/-- clashes -/
theorem L_clashes (D : pD) (E : pDL) (h : Inv D) : Same D E Hb_clashes Mo_clashes := by
  have hh := h
  obtain ⟨cN, cW, cP, cT, cH, hT, hF, hB, hN, hK, hG, hY, hL⟩ := h
  obtain ⟨⟨⟨n1, n2, n3, n4, n5⟩, ⟨a1, a2, a3, a4, a5⟩, ⟨b1, b2, b3, b4, b5⟩⟩, hS, hW, hGS, r1, r2, r3, r4, r5, r6⟩ := id hB
  exact Same.ro hh (by rw [e_Hb_clashes, X_clashes hB, B1s]) (M_clashes hB hN hY)
/-! bound -/
theorem b_one {a i : Nat} (ha : a < 32) (hi : i < 32) : bt ((1 : Int32) <<< (nI a &&& 31)) i = decide (i = a) := by
  rw [b_shl a ha 1 hi]
  by_cases h : a ≤ i
  · rw [bt_1 _ (by omega)]
    by_cases e : i = a
    · subst e
      simp
    · rw [decide_eq_true h, decide_eq_false (show ¬ i - a = 0 by omega), decide_eq_false e]
      rfl
  · rw [decide_eq_false h, decide_eq_false (show ¬ i = a by omega)]
    rfl
theorem and0_iff (x y : Int32) : x &&& y = 0 ↔ ∀ i, i < 32 → (bt x i && bt y i) = false := by
  constructor
  · intro h i hi
    have : bt (x &&& y) i = bt 0 i := by rw [h]
    rw [b_and, b_0] at this
    exact this
  · intro h
    apply b_ext
    intro i hi
    rw [b_and, b_0]
    exact h i hi
theorem pair_x {s : Int32} {a b : Nat} (ha : a < 32) (hb : b < 32) : s &&& (((1 : Int32) <<< (nI a &&& 31)) ||| ((1 : Int32) <<< (nI b &&& 31))) = 0 ↔ bt s a = false ∧ bt s b = false := by
  rw [and0_iff]
  constructor
  · intro h
    have h1 := h a ha
    have h2 := h b hb
    rw [b_or, b_one ha ha, b_one hb ha] at h1
    rw [b_or, b_one ha hb, b_one hb hb] at h2
    simp at h1 h2
    exact ⟨h1, h2⟩
  · intro ⟨h1, h2⟩ i hi
    rw [b_or, b_one ha hi, b_one hb hi]
    by_cases e : i = a
    · subst e
      rw [h1]
      rfl
    · by_cases e2 : i = b
      · subst e2
        rw [h2]
        rfl
      · rw [decide_eq_false e, decide_eq_false e2, Bool.or_false, Bool.and_false]
theorem pair_m {s : Int32} {a b : Nat} (ha : a < 32) (hb : b < 32) : ((s >>> (nI a &&& 31)) ||| (s >>> (nI b &&& 31))) &&& 1 = 1 ↔ ¬ (bt s a = false ∧ bt s b = false) := by
  have e : ((s >>> (nI a &&& 31)) ||| (s >>> (nI b &&& 31))) &&& 1 = ((s >>> (nI a &&& 31)) &&& 1) ||| ((s >>> (nI b &&& 31)) &&& 1) := by
    apply b_ext
    intro i hi
    rw [b_and, b_or, b_or, b_and, b_and, Bool.and_or_distrib_right]
  rw [e, bitv ha, bitv hb]
  cases bt s a <;> cases bt s b <;> decide
def bP (D : pD) (t : Nat) : Int32 := ((1 : Int32) <<< (nI (tF D t) &&& 31)) ||| ((1 : Int32) <<< (nI (tS D t) &&& 31))
def bG (D : pD) (s : Int32) : Nat → Int32
  | 0 => s
  | t + 1 => if bG D s t &&& bP D t = 0 then bG D s t else bG D s t ||| bP D t
theorem X_bnd {cN cW cP cT cH : Nat} {D : pD} {E : pDL} (h : iBook cN cW cP cT cH D) (s b r : Int32) : Bk_boundBy_26 s b r 0 D E = Bk_boundBy_9 (bG D s cT) b (r + 1) D E := by
  obtain ⟨⟨⟨n1, n2, n3, n4, n5⟩, ⟨a1, a2, a3, a4, a5⟩, ⟨b1, b2, b3, b4, b5⟩⟩, -⟩ := id h
  refine (z0 (fun k => Bk_boundBy_26 (bG D s k) b r (nI k) D E) cT (fun k hk => ?_)).trans ?_
  · show Bk_boundBy_26 _ _ _ _ _ _ = Bk_boundBy_26 _ _ _ _ _ _
    obtain ⟨e1, e2, h1, h2, h3⟩ := tie_x h hk
    rw [e_Bk_boundBy_26, bG]
    unfold bP
    simp (disch := omega) only [sC, sN, sN0, sLL, sTT, sEE, sM1, sF, sGt, sLe, sLt, sNe, or_false, or_true, false_or, true_or, or_self, if_true, if_false, not_true_eq_false, not_false_eq_true, B1s, B0s, B2s, a4, e1, e2, ca1]
    split <;> rfl
  · show Bk_boundBy_26 _ _ _ _ _ _ = _
    rw [e_Bk_boundBy_26, a4, if_pos (nI_le (Nat.le_refl _) (by omega))]
theorem M_bnd {cN cW cP cT cH : Nat} {D : pD} {E : pDL} (h : iBook cN cW cP cT cH D) (s b : Int32) : Mo_bound_27 s b 0 D E = Mo_bound_17 (bG D s cT) b D E := by
  obtain ⟨⟨⟨n1, n2, n3, n4, n5⟩, ⟨a1, a2, a3, a4, a5⟩, ⟨b1, b2, b3, b4, b5⟩⟩, hS, hW, hGS, r1, r2, r3, r4, r5, r6⟩ := id h
  refine (z0 (fun k => Mo_bound_27 (bG D s k) b (nI k) D E) cT (fun k hk => ?_)).trans ?_
  · show Mo_bound_27 _ _ _ _ _ = Mo_bound_27 _ _ _ _ _
    obtain ⟨e1, e2, h1, h2, h3⟩ := tie_x h hk
    obtain ⟨m1, m2, -⟩ := r5 k hk
    rw [e_Mo_bound_27, bG]
    unfold bP
    simp (disch := omega) only [sC, sN, sN0, sLL, sTT, sEE, sM1, sF, sGt, sLe, sLt, sNe, or_false, or_true, false_or, true_or, or_self, if_true, if_false, not_true_eq_false, not_false_eq_true, B1s, B0s, B2s, b4, m1, m2, e1, e2, ca1, pair_x, pair_m]
    by_cases c : bt (bG D s k) (tF D k) = false ∧ bt (bG D s k) (tS D k) = false
    · rw [if_pos c, if_neg (fun z => z c)]
    · rw [if_neg c, if_pos c]
  · show Mo_bound_27 _ _ _ _ _ = _
    rw [e_Mo_bound_27, b4, if_pos (nI_le (Nat.le_refl _) (by omega))]
/-- within the first 24 bits -/
def w24 (s : Int32) : Prop := ∀ i, 24 ≤ i → bt s i = false
theorem w24_or {x y : Int32} (hx : w24 x) (hy : w24 y) : w24 (x ||| y) := fun i hi => by rw [b_or, hx i hi, hy i hi]; rfl
theorem w24_one {a : Nat} (ha : a < 24) : w24 ((1 : Int32) <<< (nI a &&& 31)) := fun i hi => by
  by_cases h : i < 32
  · rw [b_one (by omega) h, decide_eq_false (by omega)]
  · exact b_big (by omega)
theorem bG_w {cN cW cP cT cH : Nat} {D : pD} (h : iBook cN cW cP cT cH D) {s : Int32} (hs : w24 s) : ∀ k, k ≤ cT → w24 (bG D s k)
  | 0, _ => hs
  | k + 1, hk => by
    have n3 := h.1.1.2.2.1
    obtain ⟨e1, e2, h1, h2, h3⟩ := tie_x h (show k < cT by omega)
    have ih := bG_w h hs k (by omega)
    rw [bG]
    split
    · exact ih
    · exact w24_or ih (w24_or (w24_one (by omega)) (w24_one (by omega)))
theorem bG_sub (D : pD) (s : Int32) : ∀ k i, bt s i = true → bt (bG D s k) i = true
  | 0, _, h => h
  | k + 1, i, h => by
    have ih := bG_sub D s k i h
    rw [bG]
    split
    · exact ih
    · rw [b_or, ih]
      rfl
theorem pc_mono : ∀ (k m n : Nat), (∀ i, m.testBit i = true → n.testBit i = true) → pc k m ≤ pc k n
  | 0, _, _, _ => Nat.le_refl _
  | k + 1, m, n, h => by
    have h0 := h 0
    rw [Nat.testBit_zero, Nat.testBit_zero] at h0
    have ih := pc_mono k (m / 2) (n / 2) (fun i hi => by
      rw [← Nat.testBit_succ] at hi ⊢
      exact h (i + 1) hi)
    rw [pc, pc]
    have : m % 2 = 1 → n % 2 = 1 := fun z => by simpa using h0 (by simpa using z)
    omega
theorem pc_eq : ∀ (k m n : Nat), m < 2 ^ k → n < 2 ^ k → (∀ i, m.testBit i = true → n.testBit i = true) → pc k m = pc k n → m = n
  | 0, m, n, hm, hn, _, _ => by
    rw [Nat.pow_zero] at hm hn
    omega
  | k + 1, m, n, hm, hn, h, e => by
    rw [Nat.pow_succ] at hm hn
    have h0 := h 0
    rw [Nat.testBit_zero, Nat.testBit_zero] at h0
    have hs : ∀ i, (m / 2).testBit i = true → (n / 2).testBit i = true := fun i hi => by
      rw [← Nat.testBit_succ] at hi ⊢
      exact h (i + 1) hi
    have i1 := pc_mono k (m / 2) (n / 2) hs
    rw [pc, pc] at e
    have : m % 2 = 1 → n % 2 = 1 := fun z => by simpa using h0 (by simpa using z)
    have ih := pc_eq k (m / 2) (n / 2) (by omega) (by omega) hs (by omega)
    omega
theorem bt_tb (x : Int32) (i : Nat) : bt x i = x.toBitVec.toNat.testBit i := rfl
theorem bc_lt {x y : Int32} (h : ∀ i, bt x i = true → bt y i = true) (hne : x ≠ y) : bc x < bc y := by
  have h1 := pc_mono 32 x.toBitVec.toNat y.toBitVec.toNat h
  have h2 : pc 32 x.toBitVec.toNat ≠ pc 32 y.toBitVec.toNat := fun e => hne (Int32.toBitVec_inj.mp (BitVec.eq_of_toNat_eq (pc_eq 32 _ _ x.toBitVec.isLt y.toBitVec.isLt h e)))
  unfold bc
  omega
theorem bc_24 {x : Int32} (h : w24 x) : bc x ≤ 24 := by
  have hl : x.toBitVec.toNat < 2 ^ 24 := by
    apply Nat.lt_pow_two_of_testBit
    intro i hi
    exact h i hi
  unfold bc
  generalize x.toBitVec.toNat = m at hl
  rw [show 32 = 24 + 8 from rfl, pc_split, Nat.div_eq_of_lt hl, pc_0]
  have := pc_le 24 m
  omega
theorem bnd_both {cN cW cP cT cH : Nat} {D : pD} {E : pDL} (h : iBook cN cW cP cT cH D) : ∀ (n r : Nat) (s b : Int32), r + n = 24 → w24 s → (b = s ∨ r + 1 ≤ bc s) → ∃ v, Bk_boundBy_9 s b (nI r) D E = some (some (.inl v), D, E) ∧ Mo_bound_17 s b D E = some (some (.inl v), D, E)
  | 0, r, s, b, hr, hw, hi => by
    have e : b = s := by
      rcases hi with q | q
      · exact q
      · have := bc_24 hw
        omega
    refine ⟨s, ?_, ?_⟩
    · rw [e_Bk_boundBy_9, if_pos (nlE 24 (k := r) (by omega) (by omega))]
    · rw [e_Mo_bound_17, if_pos e]
  | n + 1, r, s, b, hr, hw, hi => by
    by_cases e : b = s
    · refine ⟨s, ?_, ?_⟩
      · rw [e_Bk_boundBy_9, if_neg (nle 24 (k := r) (by omega) (by omega)), if_pos e.symm]
      · rw [e_Mo_bound_17, if_pos e]
    · have h1 := hi.resolve_left e
      have hw' := bG_w h hw cT (Nat.le_refl _)
      have hs := bG_sub D s cT
      have inv : s = bG D s cT ∨ (r + 1) + 1 ≤ bc (bG D s cT) := by
        by_cases q : s = bG D s cT
        · exact Or.inl q
        · have := bc_lt hs q
          exact Or.inr (by omega)
      obtain ⟨v, e1, e2⟩ := bnd_both h n (r + 1) (bG D s cT) s (by omega) hw' inv
      refine ⟨v, ?_, ?_⟩
      · rw [e_Bk_boundBy_9, if_neg (nle 24 (k := r) (by omega) (by omega)), if_neg (fun z => e z.symm), X_bnd h, ca1]
        exact e1
      · rw [e_Mo_bound_17, if_neg e, M_bnd h]
        exact e2
/-- bound -/
theorem L_bound (x : Int32) (D : pD) (E : pDL) (h : Inv D) : Same D E (Hb_bound x) (Mo_bound x) := by
  have hh := h
  obtain ⟨cN, cW, cP, cT, cH, hT, hF, hB, hN, hK, hG, hY, hL⟩ := h
  obtain ⟨⟨⟨n1, n2, n3, n4, n5⟩, ⟨a1, a2, a3, a4, a5⟩, ⟨b1, b2, b3, b4, b5⟩⟩, hS, hW, hGS, r1, r2, r3, r4, r5, r6⟩ := id hB
  rcases ixc x (n := cP) (by omega) with hx | ⟨p, hp, rfl⟩
  · exact Same.ro (v := -2) hh (by rw [e_Hb_bound, has2_n D E a3 hx, B1s, if_pos rfl]) (by rw [e_Mo_bound, is2_n D E b3 (by omega) hx, B1s, if_pos rfl])
  · have hb1 : bc ((1 : Int32) <<< (nI p &&& 31)) = 1 := (by decide +kernel : ∀ p, p < 24 → bc ((1 : Int32) <<< (nI p &&& 31)) = 1) p (by omega)
    obtain ⟨v, e1, e2⟩ := bnd_both (E := E) hB 24 0 ((1 : Int32) <<< (nI p &&& 31)) 0 (by omega) (w24_one (by omega)) (Or.inr (by omega))
    exact Same.ro (v := v) hh (by rw [e_Hb_bound, has2_y D E a3 hp (by omega), B1s, if_neg (by decide), e_Bk_boundBy, show Bk_boundBy_9 ((1 : Int32) <<< (nI p &&& 31)) 0 0 D E = _ from e1, B1s]) (by rw [e_Mo_bound, is2_y D E b3 (by omega) hp, B1s, if_neg (by decide), e2])
