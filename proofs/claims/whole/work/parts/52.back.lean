/-! TOLD BACK, RIGHT, ON -/
theorem iS_add {f g h : Nat → Int32} : ∀ {n : Nat}, (∀ k, k < n → f k = g k + h k) → iS f n = iS g n + iS h n
  | 0, _ => rfl
  | n + 1, e => by
    rw [iS, iS, iS, iS_add (fun k hk => e k (by omega)), e n (by omega)]
    rw [Int32.add_assoc, Int32.add_assoc, ← Int32.add_assoc (iS h n), Int32.add_comm (iS h n) (g n), Int32.add_assoc]
theorem b_not (x : Int32) {i : Nat} (hi : i < 32) : bt (x ^^^ (-1)) i = !bt x i := by
  rw [b_xor, b_m1 i hi]
  cases bt x i <;> rfl
theorem wS_xor (w : Nat → Int32) (a x : Int32) : wS w (a ^^^ x) 24 = wS w (a &&& (x ^^^ (-1))) 24 + wS w (x &&& (a ^^^ (-1))) 24 := by
  unfold wS
  apply iS_add
  intro k hk
  rw [b_xor, b_and, b_and, b_not _ (by omega), b_not _ (by omega)]
  cases bt a k <;> cases bt x k <;> simp
/-- the greatest one, then the least -/
def tb (sc : Nat → Int32) : Nat → Int32 × Int32
  | 0 => (-1, 0)
  | n + 1 => if (tb sc n).1 = -1 then (nI n, sc n) else if (tb sc n).2 < sc n then (nI n, sc n) else tb sc n
theorem tb_cong {f g : Nat → Int32} : ∀ {n : Nat}, (∀ k, k < n → f k = g k) → tb f n = tb g n
  | 0, _ => rfl
  | n + 1, h => by rw [tb, tb, tb_cong (fun k hk => h k (by omega)), h n (by omega)]
theorem tb_in (f : Nat → Int32) : ∀ n, n < 2147483648 → 0 < n → ∃ j, j < n ∧ (tb f n).1 = nI j
  | 0, _, h => absurd h (by omega)
  | n + 1, hn, _ => by
    rw [tb]
    by_cases h0 : (tb f n).1 = -1
    · rw [if_pos h0]
      exact ⟨n, by omega, rfl⟩
    · rw [if_neg h0]
      split
      · exact ⟨n, by omega, rfl⟩
      · by_cases hz : n = 0
        · subst hz
          exact absurd rfl h0
        · obtain ⟨j, hj, e⟩ := tb_in f n (by omega) (by omega)
          exact ⟨j, by omega, e⟩
def scX (D : pD) (x : Int32) (n : Nat) : Int32 := 2 * wS (D 6 0) (D 8 0 n &&& x) 24 - wS (D 6 0) (D 8 0 n ^^^ x) 24
/-- the notion told back -/
def tbk (D : pD) (cN : Nat) (x : Int32) : Int32 := (tb (scX D x) cN).1
theorem X_back {cN : Nat} (hc : cN ≤ 12) (x : Int32) (D : pD) (E : pDL) (hG : GS D) (h : D 4 0 0 = nI cN) : Bk_toldBack x D E = some (some (.inl (tbk D cN x)), D, E) := by
  rw [e_Bk_toldBack]
  refine (z0 (fun k => Bk_toldBack_7 x (tb (scX D x) k).1 (tb (scX D x) k).2 (nI k) D E) cN (fun k hk => ?_)).trans ?_
  · show Bk_toldBack_7 _ _ _ _ _ _ = Bk_toldBack_7 _ _ _ _ _ _
    rw [e_Bk_toldBack_7, tb]
    simp (disch := omega) only [sC, sN, sN0, sLL, sTT, sEE, sM1, sF, sGt, sLe, sLt, sNe, or_false, or_true, false_or, true_or, or_self, if_true, if_false, not_true_eq_false, not_false_eq_true, B1s, B0s, B2s, h, Bk_weightsOf_spec _ _ _ hG, ca1]
    by_cases h0 : (tb (scX D x) k).1 = -1
    · rw [if_pos h0, if_pos h0]
      rfl
    · rw [if_neg h0, if_neg h0]
      by_cases h1 : (tb (scX D x) k).2 < scX D x k
      · rw [if_pos h1, if_neg (by rw [iNL]; exact fun q => q h1)]
        rfl
      · rw [if_neg h1, if_pos (by rw [iNL]; exact h1)]
  · show Bk_toldBack_7 _ _ _ _ _ _ = _
    rw [e_Bk_toldBack_7, h, if_pos (nI_le (Nat.le_refl _) (by omega))]
    rfl
theorem M_wS {cN cW cP cT cH : Nat} {D : pD} (h : iBook cN cW cP cT cH D) (x : Int32) : wS (D 114 0) x 24 = wS (D 6 0) x 24 := iS_w x (fun t ht => by
  obtain ⟨w, -, e4, f4⟩ := h.2.2.1 t ht
  rw [e4, f4])
theorem M_back {cN cW cP cT cH : Nat} {D : pD} {E : pDL} (h : iBook cN cW cP cT cH D) (x : Int32) : Mo_backOf x D E = some (some (.inl (tbk D cN x)), D, E) := by
  have n1 := h.1.1.1
  have b1 := h.1.2.2.1
  have r1 := h.2.2.2.2.1
  rw [e_Mo_backOf]
  refine (z0 (fun k => Mo_backOf_7 x (tb (scX D x) k).1 (tb (scX D x) k).2 (nI k) D E) cN (fun k hk => ?_)).trans ?_
  · show Mo_backOf_7 _ _ _ _ _ _ = Mo_backOf_7 _ _ _ _ _ _
    have hs : 2 * wS (D 6 0) (D 8 0 k &&& x) 24 - wS (D 6 0) (D 8 0 k &&& (x ^^^ (-1))) 24 - wS (D 6 0) (x &&& (D 8 0 k ^^^ (-1))) 24 = scX D x k := by
      unfold scX
      rw [wS_xor, Int32.sub_sub]
    rw [e_Mo_backOf_7, tb]
    simp (disch := omega) only [sC, sN, sN0, sLL, sTT, sEE, sM1, sF, sGt, sLe, sLt, sNe, or_false, or_true, false_or, true_or, or_self, if_true, if_false, not_true_eq_false, not_false_eq_true, B1s, B0s, B2s, b1, Mo_weigh_spec, M_wS h, ca1, r1 k hk, hs]
    by_cases h0 : (tb (scX D x) k).1 = -1
    · rw [if_pos h0, if_pos h0]
    · rw [if_neg h0, if_neg h0]
      by_cases h1 : (tb (scX D x) k).2 < scX D x k
      · rw [if_pos h1, if_pos h1]
      · rw [if_neg h1, if_neg h1]
  · show Mo_backOf_7 _ _ _ _ _ _ = _
    rw [e_Mo_backOf_7, b1, if_pos (nI_le (Nat.le_refl _) (by omega))]
    rfl
/-- back -/
theorem L_back (x y : Int32) (D : pD) (E : pDL) (h : Inv D) : Same D E (Hb_back x y) (Mo_back x y) := by
  have hh := h
  obtain ⟨cN, cW, cP, cT, cH, hT, hF, hB, hN, hK, hG, hY, hL⟩ := h
  obtain ⟨⟨⟨n1, n2, n3, n4, n5⟩, ⟨a1, a2, a3, a4, a5⟩, ⟨b1, b2, b3, b4, b5⟩⟩, hS, hW, hGS, r1, r2, r3, r4, r5, r6⟩ := id hB
  rcases why_cases (E := E) hB hN x y with ⟨w1, w2⟩ | ⟨i, p, hi, hp, rfl, rfl, w2, ⟨k1, k2, w1⟩ | ⟨k1, k2, w1⟩⟩
  · exact Same.ro (v := -2) hh (by rw [e_Hb_back, w1, B1s, if_neg (by decide)]) (by rw [e_Mo_back, w2, B1s, if_pos rfl])
  · exact Same.ro (v := -1) hh (by rw [e_Hb_back, w1, B1s, if_neg (by decide)]) (by rw [e_Mo_back, w2]; simp (disch := omega) only [sC, sN, sN0, sLL, sTT, sEE, sM1, sF, sGt, sLe, sLt, sNe, or_false, or_true, false_or, true_or, or_self, if_true, if_false, not_true_eq_false, not_false_eq_true, B1s, B0s, B2s, h10, k2])
  · exact Same.ro (v := tbk D cN (hrd D i p)) hh (by rw [e_Hb_back, w1, B1s, if_pos rfl, X_hrd (by omega) (by omega), B1s, X_back n1 _ D E hGS a1, B1s]) (by rw [e_Mo_back, w2]; simp (disch := omega) only [sC, sN, sN0, sLL, sTT, sEE, sM1, sF, sGt, sLe, sLt, sNe, or_false, or_true, false_or, true_or, or_self, if_true, if_false, not_true_eq_false, not_false_eq_true, B1s, B0s, B2s, h10, k2, M_hrd hB hN hY hi hp, M_back hB])
/-- RIGHT -/
def rgt (D : pD) (cN i p : Nat) : Int32 := if D 43 0 p = -1 then 0 else if tbk D cN (hrd D i p) = D 10 0 p then 1 else 0
theorem X_hits {cN cW cP cT cH : Nat} {D : pD} {E : pDL} (h : iBook cN cW cP cT cH D) {i : Nat} (hi : i < cH) : Rn_rightOf (nI i) D E = some (some (.inl (iS (rgt D cN i) cP)), D, E) := by
  obtain ⟨⟨⟨n1, n2, n3, n4, n5⟩, ⟨a1, a2, a3, a4, a5⟩, ⟨b1, b2, b3, b4, b5⟩⟩, hS, hW, hGS, r1, r2, r3, r4, r5, r6⟩ := id h
  rw [e_Rn_rightOf]
  refine (z0 (fun k => Rn_rightOf_4 (nI i) (iS (rgt D cN i) k) (nI k) D E) cP (fun k hk => ?_)).trans ?_
  · show Rn_rightOf_4 _ _ _ _ _ = Rn_rightOf_4 _ _ _ _ _
    have hk24 : k < 24 := by omega
    have hi6 : i < 6 := by omega
    rw [e_Rn_rightOf_4, iS]
    by_cases h0 : D 43 0 k = -1
    · have e : rgt D cN i k = 0 := if_pos h0
      simp (disch := omega) only [sC, sN, sN0, sLL, sTT, sEE, sM1, sF, sGt, sLe, sLt, sNe, or_false, or_true, false_or, true_or, or_self, if_true, if_false, not_true_eq_false, not_false_eq_true, B1s, B0s, B2s, a3, Rn_isChosen_spec hk24, h0, ca1, e, Int32.add_zero]
    · by_cases h1 : tbk D cN (hrd D i k) = D 10 0 k
      · have e : rgt D cN i k = 1 := (if_neg h0).trans (if_pos h1)
        simp (disch := omega) only [sC, sN, sN0, sLL, sTT, sEE, sM1, sF, sGt, sLe, sLt, sNe, or_false, or_true, false_or, true_or, or_self, if_true, if_false, not_true_eq_false, not_false_eq_true, B1s, B0s, B2s, a3, Rn_isChosen_spec hk24, h0, h10, ca1, e, X_hrd hi6 hk24, X_back n1 _ D E hGS a1, h1]
      · have e : rgt D cN i k = 0 := (if_neg h0).trans (if_neg h1)
        simp (disch := omega) only [sC, sN, sN0, sLL, sTT, sEE, sM1, sF, sGt, sLe, sLt, sNe, or_false, or_true, false_or, true_or, or_self, if_true, if_false, not_true_eq_false, not_false_eq_true, B1s, B0s, B2s, a3, Rn_isChosen_spec hk24, h0, h10, ca1, e, X_hrd hi6 hk24, X_back n1 _ D E hGS a1, h1, Int32.add_zero]
  · show Rn_rightOf_4 _ _ _ _ _ = _
    rw [e_Rn_rightOf_4, a3, if_pos (nI_le (Nat.le_refl _) (by omega))]
theorem M_hits {cN cW cP cT cH : Nat} {D : pD} {E : pDL} (h : iBook cN cW cP cT cH D) (hN : iNow cW cP D) (hY : iYears cW D) {i : Nat} (hi : i < cH) : Mo_hitsOf (nI i) D E = some (some (.inl (iS (rgt D cN i) cP)), D, E) := by
  obtain ⟨⟨⟨n1, n2, n3, n4, n5⟩, ⟨a1, a2, a3, a4, a5⟩, ⟨b1, b2, b3, b4, b5⟩⟩, hS, hW, hGS, r1, r2, r3, r4, r5, r6⟩ := id h
  rw [e_Mo_hitsOf]
  refine (z0 (fun k => Mo_hitsOf_4 (nI i) (iS (rgt D cN i) k) (nI k) D E) cP (fun k hk => ?_)).trans ?_
  · show Mo_hitsOf_4 _ _ _ _ _ = Mo_hitsOf_4 _ _ _ _ _
    have hk24 : k < 24 := by omega
    have kd := now_kd hN hk24
    rw [e_Mo_hitsOf_4, iS]
    by_cases h0 : D 43 0 k = -1
    · have e : rgt D cN i k = 0 := if_pos h0
      simp (disch := omega) only [sC, sN, sN0, sLL, sTT, sEE, sM1, sF, sGt, sLe, sLt, sNe, or_false, or_true, false_or, true_or, or_self, if_true, if_false, not_true_eq_false, not_false_eq_true, B1s, B0s, B2s, b3, kd, h0, ca1, e]
    · by_cases h1 : tbk D cN (hrd D i k) = D 10 0 k
      · have e : rgt D cN i k = 1 := (if_neg h0).trans (if_pos h1)
        simp (disch := omega) only [sC, sN, sN0, sLL, sTT, sEE, sM1, sF, sGt, sLe, sLt, sNe, or_false, or_true, false_or, true_or, or_self, if_true, if_false, not_true_eq_false, not_false_eq_true, B1s, B0s, B2s, b3, kd, h0, ca1, e, M_hrd h hN hY hi hk, M_back h, (r4 k hk).1, h1]
      · have e : rgt D cN i k = 0 := (if_neg h0).trans (if_neg h1)
        simp (disch := omega) only [sC, sN, sN0, sLL, sTT, sEE, sM1, sF, sGt, sLe, sLt, sNe, or_false, or_true, false_or, true_or, or_self, if_true, if_false, not_true_eq_false, not_false_eq_true, B1s, B0s, B2s, b3, kd, h0, ca1, e, M_hrd h hN hY hi hk, M_back h, (r4 k hk).1, h1]
  · show Mo_hitsOf_4 _ _ _ _ _ = _
    rw [e_Mo_hitsOf_4, b3, if_pos (nI_le (Nat.le_refl _) (by omega))]
/-- hits -/
theorem L_hits (x : Int32) (D : pD) (E : pDL) (h : Inv D) : Same D E (Hb_hits x) (Mo_hits x) := by
  have hh := h
  obtain ⟨cN, cW, cP, cT, cH, hT, hF, hB, hN, hK, hG, hY, hL⟩ := h
  obtain ⟨⟨⟨n1, n2, n3, n4, n5⟩, ⟨a1, a2, a3, a4, a5⟩, ⟨b1, b2, b3, b4, b5⟩⟩, hS, hW, hGS, r1, r2, r3, r4, r5, r6⟩ := id hB
  rcases ixc x (n := cH) (by omega) with hx | ⟨i, hi, rfl⟩
  · exact Same.ro (v := -2) hh (by rw [e_Hb_hits, has4_n D E a5 hx, B1s, if_pos rfl]) (by rw [e_Mo_hits, is4_n D E b5 (by omega) hx, B1s, if_pos rfl])
  · exact Same.ro (v := iS (rgt D cN i) cP) hh (by rw [e_Hb_hits, has4_y D E a5 hi (by omega), B1s, if_neg (by decide), X_hits hB hi, B1s]) (by rw [e_Mo_hits, is4_y D E b5 (by omega) hi, B1s, if_neg (by decide), M_hits hB hN hY hi, B1s])
/-- the least one, then the least word -/
def tl (sc : Nat → Int32) : Nat → Int32 × Int32
  | 0 => (-1, 0)
  | n + 1 => if (tl sc n).1 = -1 then (nI n, sc n) else if sc n < (tl sc n).2 then (nI n, sc n) else tl sc n
theorem tl_in (f : Nat → Int32) : ∀ n, n < 2147483648 → 0 < n → ∃ j, j < n ∧ (tl f n).1 = nI j ∧ (tl f n).2 = f j
  | 0, _, h => absurd h (by omega)
  | n + 1, hn, _ => by
    rw [tl]
    by_cases h0 : (tl f n).1 = -1
    · rw [if_pos h0]
      exact ⟨n, by omega, rfl, rfl⟩
    · rw [if_neg h0]
      split
      · exact ⟨n, by omega, rfl, rfl⟩
      · by_cases hz : n = 0
        · subst hz
          exact absurd rfl h0
        · obtain ⟨j, hj, e⟩ := tl_in f n (by omega) (by omega)
          exact ⟨j, by omega, e⟩
/-- the cost of a word for traits -/
def cs_ (D : pD) (s : Int32) (w : Nat) : Int32 := D 5 0 0 * wS (D 6 0) (s &&& (D 9 0 w ^^^ (-1))) 24 + D 5 0 1 * wS (D 6 0) (D 9 0 w &&& (s ^^^ (-1))) 24
theorem wS_n {D : pD} (hW : iWts D) (x : Int32) : ∃ n : Nat, n ≤ 216 ∧ wS (D 6 0) x 24 = nI n := by
  have : ∀ m, m ≤ 24 → ∃ n : Nat, n ≤ 9 * m ∧ wS (D 6 0) x m = nI n := by
    intro m
    induction m with
    | zero => exact fun _ => ⟨0, by omega, rfl⟩
    | succ m ih =>
      intro hm
      obtain ⟨n, hn, e⟩ := ih (by omega)
      obtain ⟨w, hw, e2, -⟩ := hW m (by omega)
      unfold wS at e ⊢
      rw [iS, e, e2]
      by_cases hb : bt x m = true
      · rw [if_pos hb]
        exact ⟨n + w, by omega, nI_add n w⟩
      · rw [if_neg hb, Int32.add_zero]
        exact ⟨n, by omega, rfl⟩
  exact this 24 (by omega)
theorem mul_b {a b A B : Nat} (ha : a ≤ A) (hb : b ≤ B) : a * b ≤ A * B := Nat.mul_le_mul ha hb
theorem cs_n {D : pD} (hS : iSet D) (hW : iWts D) (s : Int32) (w : Nat) : ∃ n : Nat, n ≤ 42768 ∧ cs_ D s w = nI n := by
  obtain ⟨u, hu, e1⟩ := wS_n hW (s &&& (D 9 0 w ^^^ (-1)))
  obtain ⟨v, hv, e2⟩ := wS_n hW (D 9 0 w &&& (s ^^^ (-1)))
  obtain ⟨l, hl, e3, -⟩ := hS 0 (by omega)
  obtain ⟨a, ha, e4, -⟩ := hS 1 (by omega)
  unfold cs_
  rw [e1, e2, e3, e4, pk_mul, pk_mul, nI_add]
  exact ⟨_, by have := mul_b hl hu; have := mul_b ha hv; omega, rfl⟩
theorem M_said {cN cW cP cT cH : Nat} {D : pD} {E : pDL} (h : iBook cN cW cP cT cH D) (s : Int32) {g : Nat} (hg : g < cH) : Mo_on_58 (nI g) s (-1) 0 0 D E = some (some (.inl (tbk D cN ((if cW = 0 then 0 else D 9 0 (tl (cs_ D s) cW).1.toNatClampNeg) &&& D 15 0 g))), D, E) := by
  obtain ⟨⟨⟨n1, n2, n3, n4, n5⟩, ⟨a1, a2, a3, a4, a5⟩, ⟨b1, b2, b3, b4, b5⟩⟩, hS, hW, hGS, r1, r2, r3, r4, r5, r6⟩ := id h
  obtain ⟨s0, -, e0, f0⟩ := hS 0 (by omega)
  obtain ⟨s1, -, e1, f1⟩ := hS 1 (by omega)
  refine (z0 (fun k => Mo_on_58 (nI g) s (tl (cs_ D s) k).1 (tl (cs_ D s) k).2 (nI k) D E) cW (fun k hk => ?_)).trans ?_
  · show Mo_on_58 _ _ _ _ _ _ _ = Mo_on_58 _ _ _ _ _ _ _
    have hs : nI s0 * wS (D 6 0) (s &&& (D 9 0 k ^^^ (-1))) 24 + nI s1 * wS (D 6 0) (D 9 0 k &&& (s ^^^ (-1))) 24 = cs_ D s k := by
      unfold cs_
      rw [e0, e1]
    rw [e_Mo_on_58, tl]
    simp (disch := omega) only [sC, sN, sN0, sLL, sTT, sEE, sM1, sF, sGt, sLe, sLt, sNe, or_false, or_true, false_or, true_or, or_self, if_true, if_false, not_true_eq_false, not_false_eq_true, B1s, B0s, B2s, b2, Mo_weigh_spec, M_wS h, ca1, r2 k hk, show D 102 0 5 = nI s0 from f0, show D 102 0 6 = nI s1 from f1, hs]
    by_cases h0 : (tl (cs_ D s) k).1 = -1
    · rw [if_pos h0, if_pos h0]
    · rw [if_neg h0, if_neg h0]
      by_cases h1 : cs_ D s k < (tl (cs_ D s) k).2
      · rw [if_pos h1, if_pos h1]
      · rw [if_neg h1, if_neg h1]
  · show Mo_on_58 _ _ _ _ _ _ _ = _
    rw [e_Mo_on_58, b2, if_pos (nI_le (Nat.le_refl _) (by omega))]
    by_cases hz : cW = 0
    · subst hz
      rw [tl, if_pos rfl, if_pos rfl, M_back h, B1s]
      have : (0 : Int32) &&& D 15 0 g = 0 := by
        apply b_ext
        intro i _
        rw [b_and, b_0, Bool.false_and]
      rw [this]
    · obtain ⟨j, hj, ej, -⟩ := tl_in (cs_ D s) cW (by omega) (by omega)
      rw [ej, if_neg hz]
      simp (disch := omega) only [sC, sN, sN0, sLL, sTT, sEE, sM1, sF, sGt, sLe, sLt, sNe, or_false, or_true, false_or, true_or, or_self, if_true, if_false, not_true_eq_false, not_false_eq_true, B1s, B0s, B2s, r2 j hj, (r6 g hg).1, M_back h]
theorem X_said {cN cW cP cT cH : Nat} {D : pD} {E : pDL} (h : iBook cN cW cP cT cH D) {n : Nat} (hn : n < cN) : Bk_traitsSaidFor (nI n) D E = some (some (.inl (if cW = 0 then 0 else D 9 0 (tl (cs_ D (D 8 0 n)) cW).1.toNatClampNeg)), D, E) := by
  obtain ⟨⟨⟨n1, n2, n3, n4, n5⟩, ⟨a1, a2, a3, a4, a5⟩, ⟨b1, b2, b3, b4, b5⟩⟩, hS, hW, hGS, r1, r2, r3, r4, r5, r6⟩ := id h
  have st0 : Bk_setting 5 D E = some (some (.inl (D 5 0 0)), D, E) := Bk_setting_spec (k := 0) (by omega) D E
  have st1 : Bk_setting 6 D E = some (some (.inl (D 5 0 1)), D, E) := Bk_setting_spec (k := 1) (by omega) D E
  have hn0 := has0_y D E a1 hn (by omega)
  rw [e_Bk_traitsSaidFor]
  have key : ∀ k, k ≤ cW → Bk_traitsSaidFor_7 (nI n) 0 (-1) 0 D E = Bk_traitsSaidFor_7 (nI n) (if k = 0 then 0 else D 9 0 (tl (cs_ D (D 8 0 n)) k).1.toNatClampNeg) (if k = 0 then -1 else (tl (cs_ D (D 8 0 n)) k).2) (nI k) D E := by
    intro k
    induction k with
    | zero => intro _; rfl
    | succ k ih =>
      intro hk
      rw [ih (by omega), e_Bk_traitsSaidFor_7]
      have hs : D 5 0 0 * wS (D 6 0) (D 8 0 n &&& (D 9 0 k ^^^ (-1))) 24 + D 5 0 1 * wS (D 6 0) (D 9 0 k &&& (D 8 0 n ^^^ (-1))) 24 = cs_ D (D 8 0 n) k := rfl
      simp (disch := omega) only [sC, sN, sN0, sLL, sTT, sEE, sM1, sF, sGt, sLe, sLt, sNe, or_false, or_true, false_or, true_or, or_self, if_true, if_false, not_true_eq_false, not_false_eq_true, B1s, B0s, B2s, a2, hn0, h10, st0, st1, Bk_weightsOf_spec _ _ _ hGS, ca1, hs, Nat.succ_ne_zero]
      rw [tl]
      by_cases hz : k = 0
      · subst hz
        rw [if_pos rfl, if_pos rfl, if_pos (by decide), tl, if_pos rfl]
        rfl
      · obtain ⟨j, hj, ej, ev⟩ := tl_in (cs_ D (D 8 0 n)) k (by omega) (by omega)
        obtain ⟨m, hm, em⟩ := cs_n hS hW (D 8 0 n) j
        have hne : ¬ (tl (cs_ D (D 8 0 n)) k).1 = -1 := by
          rw [ej]
          exact iM (by omega)
        rw [if_neg hz, if_neg hz, if_neg (by rw [ev, em]; exact iN (by omega))]
        by_cases h1 : cs_ D (D 8 0 n) k < (tl (cs_ D (D 8 0 n)) k).2
        · have h2 : ¬ (tl (cs_ D (D 8 0 n)) k).2 ≤ cs_ D (D 8 0 n) k := by
            rw [iNL]
            exact fun q => q h1
          rw [if_neg h2, if_neg hne, if_pos h1]
          dsimp only
          rw [iC (by omega)]
        · have h2 : (tl (cs_ D (D 8 0 n)) k).2 ≤ cs_ D (D 8 0 n) k := by
            rw [iNL]
            exact h1
          rw [if_pos h2, if_neg hne, if_neg h1]
  rw [key cW (Nat.le_refl _), e_Bk_traitsSaidFor_7, a2, if_pos (nI_le (Nat.le_refl _) (by omega))]
/-- on -/
theorem L_on (x z y : Int32) (D : pD) (E : pDL) (h : Inv D) : Same D E (Hb_on x z y) (Mo_on x z y) := by
  have hh := h
  obtain ⟨cN, cW, cP, cT, cH, hT, hF, hB, hN, hK, hG, hY, hL⟩ := h
  obtain ⟨⟨⟨n1, n2, n3, n4, n5⟩, ⟨a1, a2, a3, a4, a5⟩, ⟨b1, b2, b3, b4, b5⟩⟩, hS, hW, hGS, r1, r2, r3, r4, r5, r6⟩ := id hB
  rcases ixc z (n := cH) (by omega) with hz | ⟨g, hg, rfl⟩
  · refine Same.ro (v := -2) hh (by rw [e_Hb_on, has4_n D E a5 hz, B1s, if_pos rfl]) ?_
    rcases why_cases (E := E) hB hN x y with ⟨w1, w2⟩ | ⟨i, p, hi, hp, rfl, rfl, w2, -⟩
    · rw [e_Mo_on, w2, B1s, if_pos rfl]
    · rw [e_Mo_on, w2, B1s, if_neg (by decide), is4_n D E b5 (by omega) hz, B1s, if_pos rfl]
  · rcases why_cases (E := E) hB hN x y with ⟨w1, w2⟩ | ⟨i, p, hi, hp, rfl, rfl, w2, ⟨k1, k2, w1⟩ | ⟨k1, k2, w1⟩⟩
    · exact Same.ro (v := -2) hh (by rw [e_Hb_on, has4_y D E a5 hg (by omega), B1s, if_neg (by decide), w1, B1s, if_neg (by decide)]) (by rw [e_Mo_on, w2, B1s, if_pos rfl])
    · exact Same.ro (v := -1) hh (by rw [e_Hb_on, has4_y D E a5 hg (by omega), B1s, if_neg (by decide), w1, B1s, if_neg (by decide)]) (by rw [e_Mo_on, w2, B1s, if_neg (by decide), is4_y D E b5 (by omega) hg]; simp (disch := omega) only [sC, sN, sN0, sLL, sTT, sEE, sM1, sF, sGt, sLe, sLt, sNe, or_false, or_true, false_or, true_or, or_self, if_true, if_false, not_true_eq_false, not_false_eq_true, B1s, B0s, B2s, h10, k2])
    · have hp24 : p < 24 := by omega
      have hi6 : i < 6 := by omega
      have hc0 : 0 < cN := by
        obtain ⟨j, hj, -⟩ := vp_in_of (r4 p hp).2.1 (by omega)
        omega
      obtain ⟨n, hn, en⟩ := tb_in (scX D (hrd D i p)) cN (by omega) hc0
      have en' : tbk D cN (hrd D i p) = nI n := en
      refine Same.ro (v := tbk D cN ((if cW = 0 then 0 else D 9 0 (tl (cs_ D (D 8 0 n)) cW).1.toNatClampNeg) &&& D 15 0 g)) hh ?_ ?_
      · rw [e_Hb_on, has4_y D E a5 hg (by omega), B1s, if_neg (by decide), w1, B1s, if_pos rfl, X_hrd hi6 hp24, B1s, X_back n1 _ D E hGS a1, B1s, en', X_said hB hn, B1s, if_neg (iB (by omega) (by omega)), iC (by omega), X_back n1 _ D E hGS a1, B1s]
      · rw [e_Mo_on, w2, B1s, if_neg (by decide), is4_y D E b5 (by omega) hg]
        simp (disch := omega) only [sC, sN, sN0, sLL, sTT, sEE, sM1, sF, sGt, sLe, sLt, sNe, or_false, or_true, false_or, true_or, or_self, if_true, if_false, not_true_eq_false, not_false_eq_true, B1s, B0s, B2s, h10, k2, M_hrd hB hN hY hi hp, M_back hB, en', r1 n hn, M_said hB (D 8 0 n) hg]
