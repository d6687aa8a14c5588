/-! best: what ties forbid -/
def allB (f : Nat → Bool) : Nat → Bool
  | 0 => true
  | n + 1 => allB f n && f n
theorem allB_iff (f : Nat → Bool) : ∀ n, allB f n = true ↔ ∀ t, t < n → f t = true
  | 0 => ⟨fun _ t h => absurd h (by omega), fun _ => rfl⟩
  | n + 1 => by
    rw [allB, Bool.and_eq_true, allB_iff f n]
    constructor
    · intro ⟨h1, h2⟩ t ht
      by_cases e : t = n
      · rw [e]
        exact h2
      · exact h1 t (by omega)
    · intro h
      exact ⟨fun t ht => h t (by omega), h n (by omega)⟩
/-- are both borrowed -/
def fl (cW a c : Nat) : Int32 := if oB cW a = 0 then 0 else oB cW c
/-- one end in the set, at the level k: may it have the option a -/
def okO_ (D : pD) (cW : Nat) (x : Int32) (P : Nat → Nat) (t k a : Nat) : Bool := if (tF D t = P k ∧ bt x (tS D t) = false) ∨ (tS D t = P k ∧ bt x (tF D t) = false) then decide (icl D t (P k) (oT D cW a) (oB cW a) = 0) else true
/-- both ends in the set -/
def okI_ (D : pD) (cW : Nat) (P : Nat → Nat) (t k l a c : Nat) : Bool := if (tF D t = P k ∧ tS D t = P l) ∨ (tF D t = P l ∧ tS D t = P k) then decide (wc D t (oT D cW a) (oT D cW c) (fl cW a c) = 0) else true
theorem tF_ko {ks : List Nat} {D D' : pD} (hk : Ko ks D D') (hs : 12 ∉ ks) (t : Nat) : tF D' t = tF D t := by
  unfold tF
  rw [hk.c hs]
theorem tS_ko {ks : List Nat} {D D' : pD} (hk : Ko ks D D') (hs : 13 ∉ ks) (t : Nat) : tS D' t = tS D t := by
  unfold tS
  rw [hk.c hs]
theorem wc_ko {ks : List Nat} {D D' : pD} (hk : Ko ks D D') (hs : ∀ k ∈ [10, 12, 13, 14], k ∉ ks) (t : Nat) (a b f : Int32) : wc D' t a b f = wc D t a b f := by
  unfold wc
  rw [tF_ko hk (hs 12 (by decide)), tS_ko hk (hs 13 (by decide)), hk.c (hs 14 (by decide)), hk.c (hs 10 (by decide)), hk.c (hs 10 (by decide))]
theorem tAt_ko {ks : List Nat} {D D' : pD} (hk : Ko ks D D') (hs : ∀ k ∈ [9, 44, 45, 46], k ∉ ks) (q : Nat) : tAt D' q = tAt D q := by
  unfold tAt
  rw [hk.c (hs 44 (by decide)), hk.c (hs 45 (by decide)), hk.c (hs 46 (by decide)), hk 9 (hs 9 (by decide))]
theorem icq_ko {ks : List Nat} {D D' : pD} (hk : Ko ks D D') (hs : ∀ k ∈ [9, 10, 12, 13, 14, 43, 44, 45, 46], k ∉ ks) (t q : Nat) (a f : Int32) : icq D' t q a f = icq D t q a f := by
  unfold icq
  rw [hk.c (hs 43 (by decide)), tAt_ko hk (fun k z => hs k (by revert z; revert k; decide)), wc_ko hk (fun k z => hs k (by revert z; revert k; decide))]
theorem icl_ko {ks : List Nat} {D D' : pD} (hk : Ko ks D D') (hs : ∀ k ∈ [9, 10, 12, 13, 14, 43, 44, 45, 46], k ∉ ks) (t q : Nat) (a f : Int32) : icl D' t q a f = icl D t q a f := by
  unfold icl
  rw [tF_ko hk (hs 12 (by decide)), tS_ko hk (hs 13 (by decide)), icq_ko hk hs, icq_ko hk hs]
theorem oT_ko {ks : List Nat} {D D' : pD} (hk : Ko ks D D') (hs : 9 ∉ ks) (cW a : Nat) : oT D' cW a = oT D cW a := by
  unfold oT
  rw [hk.c hs]
theorem X_levelOf {D1 : pD} {E : pDL} {m : Nat} {P : Nat → Nat} (hm : m ≤ 4) (e7 : D1 50 0 7 = nI m) (h51 : ∀ k, k < m → D1 51 0 k = nI (P k) ∧ P k < 24) {q : Nat} (hq : q < 24) : ∀ (n k : Nat), k + n = m → (∃ l, l < m ∧ P l = q ∧ Se_levelOf_2 (nI q) (nI k) D1 E = some (some (.inl (nI l)), D1, E)) ∨ ((∀ l, k ≤ l → l < m → P l ≠ q) ∧ Se_levelOf_2 (nI q) (nI k) D1 E = some (some (.inl (-1)), D1, E))
  | 0, k, hk => Or.inr ⟨fun l h1 h2 => absurd h1 (by omega), by rw [e_Se_levelOf_2, e7, if_pos (nI_le (by omega) (by omega))]⟩
  | n + 1, k, hk => by
    obtain ⟨e1, e2⟩ := h51 k (by omega)
    by_cases c : P k = q
    · left
      refine ⟨k, by omega, c, ?_⟩
      rw [e_Se_levelOf_2, e7]
      simp (disch := omega) only [sC, sN, sN0, sLL, sTT, sEE, sM1, sF, sGt, sLe, sLt, sNe, or_false, or_true, false_or, true_or, or_self, if_true, if_false, not_true_eq_false, not_false_eq_true, B1s, B0s, B2s, e1, c]
    · have st : Se_levelOf_2 (nI q) (nI k) D1 E = Se_levelOf_2 (nI q) (nI (k + 1)) D1 E := by
        rw [e_Se_levelOf_2, e7]
        simp (disch := omega) only [sC, sN, sN0, sLL, sTT, sEE, sM1, sF, sGt, sLe, sLt, sNe, or_false, or_true, false_or, true_or, or_self, if_true, if_false, not_true_eq_false, not_false_eq_true, B1s, B0s, B2s, e1, c, ca1]
      rcases X_levelOf (E := E) hm e7 h51 hq n (k + 1) (by omega) with ⟨l, h1, h2, h3⟩ | ⟨h1, h2⟩
      · exact Or.inl ⟨l, h1, h2, by rw [st, h3]⟩
      · refine Or.inr ⟨fun l q1 q2 => ?_, by rw [st, h2]⟩
        by_cases e : l = k
        · rw [e]
          exact c
        · exact h1 l (by omega) q2
theorem b_clr {y : Int32} {c i : Nat} (hc : c < 32) (hi : i < 32) : bt (y &&& (((1 : Int32) <<< (nI c &&& 31)) ^^^ (-1))) i = (bt y i && !decide (i = c)) := by
  rw [b_and, b_not _ hi, b_one hc hi]
theorem X_outside {cN cW cP cT cH : Nat} {D : pD} {E : pDL} (hB : iBook cN cW cP cT cH D) {t : Nat} (ht : t < cT) {k p : Nat} (hk : k < 4) (hp : p < 24) : ∀ (n a : Nat) (D1 : pD), a + n = cW + 1 → Ko [50, 51, 52, 53, 54, 55, 56] D D1 → D1 50 0 8 = nI (cW + 1) → D1 51 0 k = nI p → ∃ D2, Se_obeyOutside_3 (nI t) (nI k) (nI a) D1 E = some (none, D2, E) ∧ (∀ q j, (q ≠ 54 ∨ j ≠ 1) → D2 q j = D1 q j) ∧ (∀ l, l ≠ k → D2 54 1 l = D1 54 1 l) ∧ ∀ c, c ≤ cW → bt (D2 54 1 k) c = (bt (D1 54 1 k) c && (decide (c < a) || decide (icl D t p (oT D cW c) (oB cW c) = 0)))
  | 0, a, D1, ha, k1, e8, e51 => by
    have n2 := hB.1.1.2.1
    refine ⟨D1, by rw [e_Se_obeyOutside_3, e8, if_pos (nI_le (by omega) (by omega))], fun _ _ _ => rfl, fun _ _ => rfl, fun c hc => ?_⟩
    rw [decide_eq_true (show c < a by omega), Bool.true_or, Bool.and_true]
  | n + 1, a, D1, ha, k1, e8, e51 => by
    have n2 := hB.1.1.2.1
    have n4 := hB.1.1.2.2.2.1
    have hB1 := hB.ko k1 (by decide)
    have t1 : Rn_traitsOfOption (nI a) D1 E = some (some (.inl (oT D cW a)), D1, E) := by
      rw [← oT_ko k1 (by decide)]
      exact X_optT n2 hB1.1.2.1.2.1 (show a ≤ cW by omega)
    have t2 : Rn_isBorrowedOption (nI a) D1 E = some (some (.inl (oB cW a)), D1, E) := X_optB n2 hB1.1.2.1.2.1 (show a ≤ cW by omega)
    have ic := X_icl (E := E) hB1 ht hp (oT D cW a) (oB cW a)
    rw [icl_ko k1 (by decide)] at ic
    by_cases c : icl D t p (oT D cW a) (oB cW a) = 0
    · obtain ⟨D2, r1, r2, r3, r4⟩ := X_outside (E := E) hB ht hk hp n (a + 1) D1 (by omega) k1 e8 e51
      refine ⟨D2, ?_, r2, r3, fun i hi => ?_⟩
      · rw [e_Se_obeyOutside_3, e8]
        simp (disch := omega) only [sC, sN, sN0, sLL, sTT, sEE, sM1, sF, sGt, sLe, sLt, sNe, or_false, or_true, false_or, true_or, or_self, if_true, if_false, not_true_eq_false, not_false_eq_true, B1s, B0s, B2s, e51, t1, t2, ic, c, ca1]
        exact r1
      · rw [r4 i hi]
        by_cases e : i = a
        · subst e
          rw [decide_eq_true c, Bool.or_true, Bool.or_true]
        · by_cases q : i < a
          · rw [decide_eq_true q, decide_eq_true (show i < a + 1 by omega)]
          · rw [decide_eq_false q, decide_eq_false (show ¬ i < a + 1 by omega)]
    · obtain ⟨D2, r1, r2, r3, r4⟩ := X_outside (E := E) hB ht hk hp n (a + 1) (dset D1 54 1 k (D1 54 1 k &&& (((1 : Int32) <<< (nI a &&& 31)) ^^^ (-1)))) (by omega) (k1.set (by decide) _ _ _) (by rw [dsJ (Or.inl (by decide))]; exact e8) (by rw [dsJ (Or.inl (by decide))]; exact e51)
      refine ⟨D2, ?_, fun q j hq => by rw [r2 q j hq, dsJ hq], fun l hl => by rw [r3 l hl, dsE, if_neg hl], fun i hi => ?_⟩
      · rw [e_Se_obeyOutside_3, e8]
        simp (disch := omega) only [sC, sN, sN0, sLL, sTT, sEE, sM1, sF, sGt, sLe, sLt, sNe, or_false, or_true, false_or, true_or, or_self, if_true, if_false, not_true_eq_false, not_false_eq_true, B1s, B0s, B2s, e51, t1, t2, ic, c, ca1, show (0 : Nat) < 5 from by decide, Nat.zero_add]
        exact r1
      · rw [r4 i hi, dsE, if_pos rfl, b_clr (by omega) (by omega)]
        by_cases e : i = a
        · subst e
          rw [decide_eq_false c, decide_eq_true (show i = i from rfl), decide_eq_false (show ¬ i < i by omega)]
          simp
        · by_cases q : i < a
          · rw [decide_eq_true q, decide_eq_true (show i < a + 1 by omega), decide_eq_false e]
            simp
          · rw [decide_eq_false q, decide_eq_false (show ¬ i < a + 1 by omega), decide_eq_false e]
            simp
theorem X_inside44 {cN cW cP cT cH : Nat} {D : pD} {E : pDL} (hB : iBook cN cW cP cT cH D) {t : Nat} (ht : t < cT) {r a : Nat} (hr : r < 16) (ha : a ≤ cW) : ∀ (n c : Nat) (D1 : pD), c + n = cW + 1 → Ko [50, 51, 52, 53, 54, 55, 56] D D1 → D1 50 0 8 = nI (cW + 1) → ∃ D2, Se_obeyInside_goesWith_44 (nI t) r (nI a) (oT D cW a) (oB cW a) (nI c) D1 E = Se_obeyInside_goesWith_16 (nI t) r (nI (a + 1)) D2 E ∧ (∀ q j, (q ≠ 53 ∨ j ≠ r + 1) → D2 q j = D1 q j) ∧ (∀ l, l ≠ a → D2 53 (r + 1) l = D1 53 (r + 1) l) ∧ ∀ i, i ≤ cW → bt (D2 53 (r + 1) a) i = (bt (D1 53 (r + 1) a) i && (decide (i < c) || decide (wc D t (oT D cW a) (oT D cW i) (fl cW a i) = 0)))
  | 0, c, D1, hc, k1, e8 => by
    have n2 := hB.1.1.2.1
    refine ⟨D1, by rw [e_Se_obeyInside_goesWith_44, e8, if_pos (nI_le (by omega) (by omega)), ca1], fun _ _ _ => rfl, fun _ _ => rfl, fun i hi => ?_⟩
    rw [decide_eq_true (show i < c by omega), Bool.true_or, Bool.and_true]
  | n + 1, c, D1, hc, k1, e8 => by
    have n2 := hB.1.1.2.1
    have n4 := hB.1.1.2.2.2.1
    have hB1 := hB.ko k1 (by decide)
    have t1 : Rn_traitsOfOption (nI c) D1 E = some (some (.inl (oT D cW c)), D1, E) := by
      rw [← oT_ko k1 (by decide)]
      exact X_optT n2 hB1.1.2.1.2.1 (show c ≤ cW by omega)
    have t2 : Rn_isBorrowedOption (nI c) D1 E = some (some (.inl (oB cW c)), D1, E) := X_optB n2 hB1.1.2.1.2.1 (show c ≤ cW by omega)
    have wo := fun f => X_would (E := E) hB1 ht (oT D cW a) (oT D cW c) f
    have wk : ∀ f, wc D1 t (oT D cW a) (oT D cW c) f = wc D t (oT D cW a) (oT D cW c) f := fun f => wc_ko k1 (by decide) t _ _ f
    have hst : Se_obeyInside_goesWith_44 (nI t) r (nI a) (oT D cW a) (oB cW a) (nI c) D1 E = Se_obeyInside_goesWith_85 (nI t) r (nI a) (oT D cW a) (oB cW a) (nI c) (fl cW a c) (oT D cW c) (oT D cW a) (nI t) D1 E := by
      rw [e_Se_obeyInside_goesWith_44, e8, if_neg (nI_ge (by omega) (by omega)), t1, B1s]
      unfold fl
      by_cases c0 : oB cW a = 0
      · rw [if_pos c0, if_pos c0]
      · rw [if_neg c0, if_neg c0, t2, B1s]
        unfold oB
        by_cases c1 : c = cW
        · rw [if_pos c1, if_neg (by decide)]
        · rw [if_neg c1, if_pos rfl]
    by_cases cw : wc D t (oT D cW a) (oT D cW c) (fl cW a c) = 0
    · obtain ⟨D2, r1, r2, r3, r4⟩ := X_inside44 (E := E) hB ht hr ha n (c + 1) D1 (by omega) k1 e8
      refine ⟨D2, ?_, r2, r3, fun i hi => ?_⟩
      · rw [hst, e_Se_obeyInside_goesWith_85, wo, B1s, wk, if_pos cw, ca1]
        exact r1
      · rw [r4 i hi]
        by_cases e : i = c
        · subst e
          rw [decide_eq_true cw, Bool.or_true, Bool.or_true]
        · by_cases q : i < c
          · rw [decide_eq_true q, decide_eq_true (show i < c + 1 by omega)]
          · rw [decide_eq_false q, decide_eq_false (show ¬ i < c + 1 by omega)]
    · obtain ⟨D2, r1, r2, r3, r4⟩ := X_inside44 (E := E) hB ht hr ha n (c + 1) (dset D1 53 (r + 1) a (D1 53 (r + 1) a &&& (((1 : Int32) <<< (nI c &&& 31)) ^^^ (-1)))) (by omega) (k1.set (by decide) _ _ _) (by rw [dsJ (Or.inl (by decide))]; exact e8)
      refine ⟨D2, ?_, fun q j hq => by rw [r2 q j hq, dsJ hq], fun l hl => by rw [r3 l hl, dsE, if_neg hl], fun i hi => ?_⟩
      · rw [hst, e_Se_obeyInside_goesWith_85, wo, B1s, wk, if_neg cw]
        simp (disch := omega) only [sC, sN, sN0, sLL, sTT, sEE, sM1, sF, sGt, sLe, sLt, sNe, or_false, or_true, false_or, true_or, or_self, if_true, if_false, not_true_eq_false, not_false_eq_true, B1s, B0s, B2s, hr, ca1]
        exact r1
      · rw [r4 i hi, dsE, if_pos rfl, b_clr (by omega) (by omega)]
        by_cases e : i = c
        · subst e
          rw [decide_eq_false cw, decide_eq_true (show i = i from rfl), decide_eq_false (show ¬ i < i by omega)]
          simp
        · by_cases q : i < c
          · rw [decide_eq_true q, decide_eq_true (show i < c + 1 by omega), decide_eq_false e]
            simp
          · rw [decide_eq_false q, decide_eq_false (show ¬ i < c + 1 by omega), decide_eq_false e]
            simp
theorem X_inside16 {cN cW cP cT cH : Nat} {D : pD} {E : pDL} (hB : iBook cN cW cP cT cH D) {t : Nat} (ht : t < cT) {r : Nat} (hr : r < 16) : ∀ (n a : Nat) (D1 : pD), a + n = cW + 1 → Ko [50, 51, 52, 53, 54, 55, 56] D D1 → D1 50 0 8 = nI (cW + 1) → ∃ D2, Se_obeyInside_goesWith_16 (nI t) r (nI a) D1 E = some (none, D2, E) ∧ (∀ q j, (q ≠ 53 ∨ j ≠ r + 1) → D2 q j = D1 q j) ∧ (∀ l, l < a → D2 53 (r + 1) l = D1 53 (r + 1) l) ∧ ∀ l, a ≤ l → l ≤ cW → ∀ i, i ≤ cW → bt (D2 53 (r + 1) l) i = (bt (D1 53 (r + 1) l) i && decide (wc D t (oT D cW l) (oT D cW i) (fl cW l i) = 0))
  | 0, a, D1, ha, k1, e8 => by
    have n2 := hB.1.1.2.1
    exact ⟨D1, by rw [e_Se_obeyInside_goesWith_16, e8, if_pos (nI_le (by omega) (by omega))], fun _ _ _ => rfl, fun _ _ => rfl, fun l h1 h2 => absurd h1 (by omega)⟩
  | n + 1, a, D1, ha, k1, e8 => by
    have n2 := hB.1.1.2.1
    have hB1 := hB.ko k1 (by decide)
    have t1 : Rn_traitsOfOption (nI a) D1 E = some (some (.inl (oT D cW a)), D1, E) := by
      rw [← oT_ko k1 (by decide)]
      exact X_optT n2 hB1.1.2.1.2.1 (show a ≤ cW by omega)
    have t2 : Rn_isBorrowedOption (nI a) D1 E = some (some (.inl (oB cW a)), D1, E) := X_optB n2 hB1.1.2.1.2.1 (show a ≤ cW by omega)
    obtain ⟨D2, r1, r2, r3, r4⟩ := X_inside44 (E := E) hB ht hr (show a ≤ cW by omega) (cW + 1) 0 D1 (by omega) k1 e8
    have k2 : Ko [50, 51, 52, 53, 54, 55, 56] D D2 := fun k hk => funext fun j => by rw [r2 k j (Or.inl (fun z => hk (by rw [z]; decide))), k1 k hk]
    obtain ⟨D3, s1, s2, s3, s4⟩ := X_inside16 (E := E) hB ht hr n (a + 1) D2 (by omega) k2 (by rw [r2 50 0 (Or.inl (by decide)), e8])
    refine ⟨D3, ?_, fun q j hq => by rw [s2 q j hq, r2 q j hq], fun l hl => by rw [s3 l (by omega), r3 l (by omega)], fun l h1 h2 i hi => ?_⟩
    · rw [e_Se_obeyInside_goesWith_16, e8, if_neg (nI_ge (by omega) (by omega)), t1, B1s, t2, B1s]
      exact r1.trans s1
    · by_cases e : l = a
      · subst e
        rw [s3 l (by omega), r4 i hi, decide_eq_false (show ¬ i < 0 by omega), Bool.false_or]
      · rw [s4 l (by omega) h2 i hi, r3 l e]
/-- behind t ties -/
def obI (D D1 : pD) (cW : Nat) (x : Int32) (P : Nat → Nat) (m t : Nat) : Prop := Ko [50, 51, 52, 53, 54, 55, 56] D D1 ∧ D1 50 0 7 = nI m ∧ D1 50 0 8 = nI (cW + 1) ∧ D1 50 0 9 = nI NW ∧ (∀ k, k < m → D1 51 0 k = nI (P k) ∧ (∀ a, a ≤ cW → D1 52 (k + 1) a = lO D cW (P k) a) ∧ ∀ a, a ≤ cW → bt (D1 54 1 k) a = allB (fun t => okO_ D cW x P t k a) t) ∧ ∀ k l, k < l → l < m → ∀ a, a ≤ cW → ∀ c, c ≤ cW → bt (D1 53 (k * 4 + l + 1) a) c = allB (fun t => okI_ D cW P t k l a c) t
theorem X_obeyTie {cN cW cP cT cH : Nat} {D D1 : pD} {E : pDL} (hB : iBook cN cW cP cT cH D) {x : Int32} {m : Nat} {P : Nat → Nat} (hm : m ≤ 4) (hP : ∀ k, k < m → P k < 24 ∧ bt x (P k) = true) (hinj : ∀ k l, k < m → l < m → P k = P l → k = l) (hin : ∀ q, q < cP → bt x q = true → ∃ k, k < m ∧ P k = q) {t : Nat} (ht : t < cT) (h : obI D D1 cW x P m t) : ∃ D2, Se_obeyTie (nI t) D1 E = some (none, D2, E) ∧ obI D D2 cW x P m (t + 1) := by
  obtain ⟨k1, e7, e8, e9, h5, h6⟩ := h
  have n2 := hB.1.1.2.1
  have n3 := hB.1.1.2.2.1
  have n4 := hB.1.1.2.2.2.1
  obtain ⟨f1, f2, f3, f4, f5⟩ := tie_x hB ht
  have f1' : D1 12 0 t = nI (tF D t) := by rw [k1.c (by decide), f1]
  have f2' : D1 13 0 t = nI (tS D t) := by rw [k1.c (by decide), f2]
  have h51 : ∀ k, k < m → D1 51 0 k = nI (P k) ∧ P k < 24 := fun k hk => ⟨(h5 k hk).1, (hP k hk).1⟩
  have lF := X_levelOf (E := E) hm e7 h51 (show tF D t < 24 by omega) m 0 (by omega)
  have lS := X_levelOf (E := E) hm e7 h51 (show tS D t < 24 by omega) m 0 (by omega)
  have outF : (∀ l, 0 ≤ l → l < m → P l ≠ tF D t) → bt x (tF D t) = false := fun z => by
    cases hb : bt x (tF D t) with
    | false => rfl
    | true =>
      obtain ⟨k, hk, e⟩ := hin _ f3 hb
      exact absurd e (z k (by omega) hk)
  have outS : (∀ l, 0 ≤ l → l < m → P l ≠ tS D t) → bt x (tS D t) = false := fun z => by
    cases hb : bt x (tS D t) with
    | false => rfl
    | true =>
      obtain ⟨k, hk, e⟩ := hin _ f4 hb
      exact absurd e (z k (by omega) hk)
  have st : ∀ y1 y2, Se_levelOf_2 (nI (tF D t)) (nI 0) D1 E = some (some (.inl y1), D1, E) → Se_levelOf_2 (nI (tS D t)) (nI 0) D1 E = some (some (.inl y2), D1, E) → Se_obeyTie (nI t) D1 E = (if y1 = -1 then (Se_obeyTie_61 (nI t) y1 y2 D1 E) else (if y2 = -1 then (Se_obeyTie_61 (nI t) y1 y2 D1 E) else (pB0 (Se_obeyInside (nI t) (if y2 < y1 then y2 else y1) (if y1 < y2 then y2 else y1) D1 E) fun D3 E3 => some (none, D3, E3)))) := by
    intro y1 y2 q1 q2
    have q1' : Se_levelOf (nI (tF D t)) D1 E = some (some (.inl y1), D1, E) := by rw [e_Se_levelOf]; exact q1
    have q2' : Se_levelOf (nI (tS D t)) D1 E = some (some (.inl y2), D1, E) := by rw [e_Se_levelOf]; exact q2
    rw [e_Se_obeyTie]
    simp (disch := omega) only [sC, sN, sN0, sLL, sTT, sEE, sM1, sF, sGt, sLe, sLt, sNe, or_false, or_true, false_or, true_or, or_self, if_true, if_false, not_true_eq_false, not_false_eq_true, B1s, B0s, B2s, f1', f2', q1', q2']
  have outside : ∀ k, k < m → (tF D t = P k ∧ bt x (tS D t) = false) ∨ (tS D t = P k ∧ bt x (tF D t) = false) → ∃ D2, Se_obeyOutside (nI t) (nI k) D1 E = some (none, D2, E) ∧ obI D D2 cW x P m (t + 1) := by
    intro k hk hcond
    obtain ⟨D2, r1, r2, r3, r4⟩ := X_outside (E := E) hB ht (show k < 4 by omega) (hP k hk).1 (cW + 1) 0 D1 (by omega) k1 e8 (h5 k hk).1
    refine ⟨D2, by rw [e_Se_obeyOutside]; exact r1, ?_⟩
    have nin : ∀ a b c d, okI_ D cW P t a b c d = true ∨ ¬ (a < m ∧ b < m) := by
      intro a b c d
      by_cases hab : a < m ∧ b < m
      · left
        unfold okI_
        rw [if_neg]
        rintro (⟨z1, z2⟩ | ⟨z1, z2⟩)
        · rcases hcond with ⟨-, w⟩ | ⟨-, w⟩
          · rw [z2, (hP b hab.2).2] at w
            cases w
          · rw [z1, (hP a hab.1).2] at w
            cases w
        · rcases hcond with ⟨-, w⟩ | ⟨-, w⟩
          · rw [z2, (hP a hab.1).2] at w
            cases w
          · rw [z1, (hP b hab.2).2] at w
            cases w
      · exact Or.inr hab
    refine ⟨fun q hq => funext fun j => by rw [r2 q j (Or.inl (fun z => hq (by rw [z]; decide))), k1 q hq], by rw [r2 50 0 (Or.inl (by decide)), e7], by rw [r2 50 0 (Or.inl (by decide)), e8], by rw [r2 50 0 (Or.inl (by decide)), e9], fun l hl => ⟨by rw [r2 51 0 (Or.inl (by decide))]; exact (h5 l hl).1, fun a ha => by rw [r2 52 _ (Or.inl (by decide))]; exact (h5 l hl).2.1 a ha, fun a ha => ?_⟩, fun a b hab hb c hc d hd => ?_⟩
    · rw [allB]
      by_cases e : l = k
      · subst e
        rw [r4 a ha, (h5 l hl).2.2 a ha, decide_eq_false (show ¬ a < 0 by omega), Bool.false_or]
        congr 1
        unfold okO_
        rw [if_pos hcond]
      · have : okO_ D cW x P t l a = true := by
          unfold okO_
          rw [if_neg]
          rintro (⟨z1, z2⟩ | ⟨z1, z2⟩)
          · rcases hcond with ⟨w1, w2⟩ | ⟨w1, w2⟩
            · exact e (hinj l k hl hk (z1.symm.trans w1))
            · rw [z1, (hP l hl).2] at w2
              cases w2
          · rcases hcond with ⟨w1, w2⟩ | ⟨w1, w2⟩
            · rw [z1, (hP l hl).2] at w2
              cases w2
            · exact e (hinj l k hl hk (z1.symm.trans w1))
        rw [this, Bool.and_true, r3 l e, (h5 l hl).2.2 a ha]
    · rw [allB, r2 53 _ (Or.inl (by decide)), h6 a b hab hb c hc d hd]
      rcases nin a b c d with z | z
      · rw [z, Bool.and_true]
      · exact absurd ⟨by omega, hb⟩ z
  rcases lF with ⟨k, hk, ek, qF⟩ | ⟨zF, qF⟩
  · rcases lS with ⟨l, hl, el, qS⟩ | ⟨zS, qS⟩
    · have hkl : k ≠ l := fun z => f5 (by rw [← ek, ← el, z])
      have hmin : (if nI l < nI k then nI l else nI k) = nI (min k l) := by
        simp (disch := omega) only [sTT]
        by_cases c : l < k
        · rw [if_pos c, Nat.min_eq_right (by omega)]
        · rw [if_neg c, Nat.min_eq_left (by omega)]
      have hmax : (if nI k < nI l then nI l else nI k) = nI (max k l) := by
        simp (disch := omega) only [sTT]
        by_cases c : k < l
        · rw [if_pos c, Nat.max_eq_right (by omega)]
        · rw [if_neg c, Nat.max_eq_left (by omega)]
      have hr : min k l * 4 + max k l < 16 := by
        rcases Nat.lt_or_ge k l with c | c
        · rw [Nat.min_eq_left (by omega), Nat.max_eq_right (by omega)]
          omega
        · rw [Nat.min_eq_right c, Nat.max_eq_left c]
          omega
      have hmm : min k l < m ∧ max k l < m ∧ min k l < max k l ∧ ((min k l = k ∧ max k l = l) ∨ (min k l = l ∧ max k l = k)) := by omega
      generalize hmi : min k l = i at *
      generalize hma : max k l = j at *
      obtain ⟨hi, hj, hij, hor⟩ := hmm
      obtain ⟨D2, r1, r2, r3, r4⟩ := X_inside16 (E := E) hB ht hr (cW + 1) 0 D1 (by omega) k1 e8
      refine ⟨D2, ?_, ?_⟩
      · rw [st _ _ qF qS, if_neg (iM (by omega)), if_neg (iM (by omega)), hmin, hmax, e_Se_obeyInside]
        simp (disch := omega) only [sC, sN, sN0, sLL, sTT, sEE, sM1, sF, sGt, sLe, sLt, sNe, or_false, or_true, false_or, true_or, or_self, if_true, if_false, not_true_eq_false, not_false_eq_true, B1s, B0s, B2s, cm4, nI_add]
        rw [show Se_obeyInside_goesWith_16 (nI t) (i * 4 + j) 0 D1 E = _ from r1, B0s]
      · have cond : ∀ a b, a < b → b < m → ((tF D t = P a ∧ tS D t = P b) ∨ (tF D t = P b ∧ tS D t = P a) ↔ a = i ∧ b = j) := by
          intro a b hab hb
          constructor
          · rintro (⟨z1, z2⟩ | ⟨z1, z2⟩)
            · have e1 := hinj k a hk (by omega) (by rw [ek, z1])
              have e2 := hinj l b hl hb (by rw [el, z2])
              omega
            · have e1 := hinj k b hk hb (by rw [ek, z1])
              have e2 := hinj l a hl (by omega) (by rw [el, z2])
              omega
          · rintro ⟨rfl, rfl⟩
            rcases hor with ⟨z1, z2⟩ | ⟨z1, z2⟩
            · left
              rw [z1, z2]
              exact ⟨ek.symm, el.symm⟩
            · right
              rw [z1, z2]
              exact ⟨ek.symm, el.symm⟩
        refine ⟨fun q hq => funext fun z => by rw [r2 q z (Or.inl (fun w => hq (by rw [w]; decide))), k1 q hq], by rw [r2 50 0 (Or.inl (by decide)), e7], by rw [r2 50 0 (Or.inl (by decide)), e8], by rw [r2 50 0 (Or.inl (by decide)), e9], fun q hq => ⟨by rw [r2 51 0 (Or.inl (by decide))]; exact (h5 q hq).1, fun a ha => by rw [r2 52 _ (Or.inl (by decide))]; exact (h5 q hq).2.1 a ha, fun a ha => ?_⟩, fun a b hab hb c hc d hd => ?_⟩
        · have : okO_ D cW x P t q a = true := by
            unfold okO_
            rw [if_neg]
            rintro (⟨z1, z2⟩ | ⟨z1, z2⟩)
            · rw [← el, (hP l hl).2] at z2
              cases z2
            · rw [← ek, (hP k hk).2] at z2
              cases z2
          rw [allB, this, Bool.and_true, r2 54 1 (Or.inl (by decide)), (h5 q hq).2.2 a ha]
        · rw [allB]
          by_cases e : a = i ∧ b = j
          · obtain ⟨rfl, rfl⟩ := e
            rw [r4 c (by omega) hc d hd, h6 a b hab hb c hc d hd]
            congr 1
            unfold okI_
            rw [if_pos ((cond a b hab hb).mpr ⟨rfl, rfl⟩)]
          · have : okI_ D cW P t a b c d = true := by
              unfold okI_
              rw [if_neg (fun z => e ((cond a b hab hb).mp z))]
            rw [this, Bool.and_true, r2 53 _ (Or.inr (by omega)), h6 a b hab hb c hc d hd]
    · obtain ⟨D2, r1, r2⟩ := outside k hk (Or.inl ⟨ek.symm, outS zS⟩)
      refine ⟨D2, ?_, r2⟩
      rw [st _ _ qF qS, if_neg (iM (by omega)), if_pos rfl, e_Se_obeyTie_61, if_neg (iM (by omega)), r1, B0s]
  · rcases lS with ⟨l, hl, el, qS⟩ | ⟨zS, qS⟩
    · obtain ⟨D2, r1, r2⟩ := outside l hl (Or.inr ⟨el.symm, outF zF⟩)
      refine ⟨D2, ?_, r2⟩
      rw [st _ _ qF qS, if_pos rfl, e_Se_obeyTie_61, if_pos rfl, if_neg (iM (by omega)), r1, B0s]
    · refine ⟨D1, ?_, k1, e7, e8, e9, fun q hq => ⟨(h5 q hq).1, (h5 q hq).2.1, fun a ha => ?_⟩, fun a b hab hb c hc d hd => ?_⟩
      · rw [st _ _ qF qS, if_pos rfl, e_Se_obeyTie_61, if_pos rfl, if_pos rfl]
      · have : okO_ D cW x P t q a = true := by
          unfold okO_
          rw [if_neg]
          rintro (⟨z1, -⟩ | ⟨z1, -⟩)
          · exact zF q (by omega) hq z1.symm
          · exact zS q (by omega) hq z1.symm
        rw [allB, this, Bool.and_true, (h5 q hq).2.2 a ha]
      · have : okI_ D cW P t a b c d = true := by
          unfold okI_
          rw [if_neg]
          rintro (⟨z1, -⟩ | ⟨z1, -⟩)
          · exact zF a (by omega) (by omega) z1.symm
          · exact zF b (by omega) hb z1.symm
        rw [allB, this, Bool.and_true, h6 a b hab hb c hc d hd]
