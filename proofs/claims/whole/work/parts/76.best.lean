/-! best: both -/
theorem Inv.e0 {D D' : pD} (h : Inv D) (e : ∀ k, k ∈ [1, 2, 4, 5, 6, 7, 8, 9, 10, 11, 12, 13, 14, 15, 16, 17, 25, 43, 44, 45, 46, 47, 49, 58, 59, 60, 61, 62, 65, 66, 67, 68, 69, 70, 71, 72, 73, 77, 78, 79, 80, 81, 83, 84, 85, 86, 87, 89, 90, 91, 92, 93, 95, 96, 97, 98, 99, 100, 101, 102, 105, 106, 107, 108, 109, 110, 111, 112, 113, 114, 115, 116, 117, 118, 119, 125, 126, 127, 128, 129, 130, 131, 132, 133, 134, 135, 136, 137, 138, 139, 140, 141] → D' k 0 = D k 0) : Inv D' := by
  obtain ⟨cN, cW, cP, cT, cH, hT, hF, hB, hN, hK, hG, hY, hL⟩ := h
  refine ⟨cN, cW, cP, cT, cH, hT.fr (fun k q => e k ?_) ?_ ?_, hF.fr ?_ ?_ ?_ ?_, hB.fr (fun k q => e k ?_), hN.fr (fun k q => e k ?_), hK.fr (fun k q => e k ?_), hG.fr (fun k q => e k ?_), hY.fr (fun k q => e k ?_) ?_ ?_, hL.fr (fun k q => e k ?_) ?_ ?_ ?_ ?_ ?_ ?_⟩
  all_goals first
    | exact congrFun (e 1 (by decide)) _
    | exact congrFun (e 100 (by decide)) _
    | exact congrFun (e 17 (by decide)) _
    | exact congrFun (e 59 (by decide)) _
    | exact congrFun (e 65 (by decide)) _
    | (revert k; decide)
def good (x : Int32) (cP : Nat) : Prop := (∀ i, i < 32 → bt x i = true → i < cP) ∧ (pl x 32).length ≤ 4
theorem M_asked {cN cW cP cT cH : Nat} {D : pD} {E : pDL} (hB : iBook cN cW cP cT cH D) (x : Int32) : ∀ (n p : Nat) (D1 : pD), p + n = 32 → (∀ i, i < p → bt x i = true → i < cP) → (pl x p).length ≤ 4 → Ko [120] D D1 → (∀ k, k < (pl x p).length → D1 120 0 k = nI (pP x p k)) → (good x cP → ∃ D2, Mo_best_4 x (nI (pl x p).length) (nI p) D1 E = Mo_best_4 x (nI (pl x 32).length) (nI 32) D2 E ∧ Ko [120] D D2 ∧ ∀ k, k < (pl x 32).length → D2 120 0 k = nI (pP x 32 k)) ∧ (¬ good x cP → ∃ D2, Mo_best_4 x (nI (pl x p).length) (nI p) D1 E = some (some (.inl (-2)), D2, E) ∧ Ko [120] D D2)
  | 0, p, D1, hp, h1, h2, k1, h3 => by
    obtain rfl : p = 32 := by omega
    exact ⟨fun _ => ⟨D1, rfl, k1, h3⟩, fun z => absurd ⟨h1, h2⟩ z⟩
  | n + 1, p, D1, hp, h1, h2, k1, h3 => by
    have n3 := hB.1.1.2.2.1
    have b3 := hB.1.2.2.2.2.1
    have b3' : D1 102 0 2 = nI cP := by rw [k1.c (by decide), b3]
    by_cases c : bt x p = true
    · have c' : ¬ (x >>> (nI p &&& 31)) &&& 1 = 0 := fun z => by rw [bit0 (by omega), c] at z; cases z
      have hls : (pl x (p + 1)).length = (pl x p).length + 1 := by
        rw [pl_s, if_pos c, List.length_append]
        rfl
      by_cases hpc : p < cP
      · by_cases h4 : (pl x p).length = 4
        · refine ⟨fun g => ?_, fun _ => ⟨D1, ?_, k1⟩⟩
          · have := pl_mono x (p + 1) 32 (by omega)
            have := g.2
            omega
          · rw [e_Mo_best_4, h4]
            simp (disch := omega) only [sC, sN, sN0, sLL, sTT, sEE, sM1, sF, sGt, sLe, sLt, sNe, or_false, or_true, false_or, true_or, or_self, if_true, if_false, not_true_eq_false, not_false_eq_true, B1s, B0s, B2s, cl32, cn32, ct32, cu32, ce32, cf32, c', is2_y D1 E b3' (by omega) hpc, h10]
            rw [if_pos (show nI 4 = (4 : Int32) from rfl)]
        · have hst : Mo_best_4 x (nI (pl x p).length) (nI p) D1 E = Mo_best_4 x (nI (pl x (p + 1)).length) (nI (p + 1)) (dset D1 120 0 (pl x p).length (nI p)) E := by
            rw [e_Mo_best_4, hls]
            simp (disch := omega) only [sC, sN, sN0, sLL, sTT, sEE, sM1, sF, sGt, sLe, sLt, sNe, or_false, or_true, false_or, true_or, or_self, if_true, if_false, not_true_eq_false, not_false_eq_true, B1s, B0s, B2s, cl32, cn32, ct32, cu32, ce32, cf32, cl4, cn4, ct4, cu4, ce4, cf4, c', is2_y D1 E b3' (by omega) hpc, h10, ca1]
          rw [hst]
          refine M_asked (E := E) hB x n (p + 1) _ (by omega) (fun i hi hb => ?_) (by omega) (k1.set (by decide) _ _ _) (fun k hk => ?_)
          · by_cases e : i = p
            · rw [e]
              exact hpc
            · exact h1 i (by omega) hb
          · rw [dsA]
            by_cases e : k = (pl x p).length
            · rw [if_pos e, e, pP_new c]
            · rw [if_neg e, pP_s (by omega), h3 k (by omega)]
      · refine ⟨fun g => absurd (g.1 p (by omega) c) hpc, fun _ => ⟨D1, ?_, k1⟩⟩
        rw [e_Mo_best_4]
        simp (disch := omega) only [sC, sN, sN0, sLL, sTT, sEE, sM1, sF, sGt, sLe, sLt, sNe, or_false, or_true, false_or, true_or, or_self, if_true, if_false, not_true_eq_false, not_false_eq_true, B1s, B0s, B2s, cl32, cn32, ct32, cu32, ce32, cf32, c', is2_n D1 E b3' (by omega) (Or.inr (nI_le (show cP ≤ p by omega) (by omega)))]
    · have c' : (x >>> (nI p &&& 31)) &&& 1 = 0 := (bit0 (by omega)).mpr (by simpa using c)
      have e1 : pl x (p + 1) = pl x p := by rw [pl_s, if_neg c]
      have e2 : ∀ k, pP x (p + 1) k = pP x p k := fun k => by
        unfold pP
        rw [e1]
      have hst : Mo_best_4 x (nI (pl x p).length) (nI p) D1 E = Mo_best_4 x (nI (pl x (p + 1)).length) (nI (p + 1)) D1 E := by
        rw [e_Mo_best_4, e1]
        simp (disch := omega) only [sC, sN, sN0, sLL, sTT, sEE, sM1, sF, sGt, sLe, sLt, sNe, or_false, or_true, false_or, true_or, or_self, if_true, if_false, not_true_eq_false, not_false_eq_true, B1s, B0s, B2s, cl32, cn32, ct32, cu32, ce32, cf32, c', ca1]
      rw [hst]
      refine M_asked (E := E) hB x n (p + 1) D1 (by omega) (fun i hi hb => ?_) (by rw [e1]; exact h2) k1 (fun k hk => by rw [e2]; exact h3 k (by rw [e1] at hk; exact hk))
      by_cases e : i = p
      · rw [e] at hb
        exact absurd hb c
      · exact h1 i (by omega) hb
/-- what was is saved -/
theorem M_saved {cW m : Nat} (hm : m ≤ 4) {P : Nat → Nat} (hP : ∀ k, k < m → P k < 24) (hW : cW ≤ 20) (x : Int32) {E : pDL} {D : pD} (b2 : D 102 0 1 = nI cW) (h120 : ∀ k, k < m → D 120 0 k = nI (P k)) : ∀ (n k : Nat) (D1 : pD), k + n = m → Ko [121, 122, 123, 124] D D1 → (∀ l, l < k → D1 121 0 l = D 115 0 (P l) ∧ D1 122 0 l = D 116 0 (P l) ∧ D1 123 0 l = D 117 0 (P l) ∧ D1 124 0 l = D 118 0 (P l)) → ∃ D2, Mo_best_65 x (nI m) (nI ((cW + 1) ^ k)) (nI k) D1 E = Mo_best_162 x (nI m) (nI ((cW + 1) ^ m)) (-1) 0 (nI 0) D2 E ∧ Ko [121, 122, 123, 124] D D2 ∧ ∀ l, l < m → D2 121 0 l = D 115 0 (P l) ∧ D2 122 0 l = D 116 0 (P l) ∧ D2 123 0 l = D 117 0 (P l) ∧ D2 124 0 l = D 118 0 (P l)
  | 0, k, D1, hk, k1, h => by
    obtain rfl : k = m := by omega
    exact ⟨D1, by rw [e_Mo_best_65, if_pos (nI_le (Nat.le_refl _) (by omega))]; rfl, k1, h⟩
  | n + 1, k, D1, hk, k1, h => by
    have hkm : k < m := by omega
    have hpk := hP k hkm
    have e120 : D1 120 0 k = nI (P k) := by rw [k1.c (by decide), h120 k hkm]
    have emul : nI ((cW + 1) ^ k) * (D1 102 0 1 + 1) = nI ((cW + 1) ^ (k + 1)) := by rw [k1.c (by decide), b2, ca1, pk_mul, ← Nat.pow_succ]
    obtain ⟨D2, r1, r2, r3⟩ := M_saved hm hP hW x (E := E) b2 h120 n (k + 1) (dset (dset (dset (dset D1 121 0 k (D 115 0 (P k))) 122 0 k (D 116 0 (P k))) 123 0 k (D 117 0 (P k))) 124 0 k (D 118 0 (P k))) (by omega) ((((k1.set (by decide) _ _ _).set (by decide) _ _ _).set (by decide) _ _ _).set (by decide) _ _ _) (fun l hl => by
      simp (disch := decide) only [dsN, dsA]
      by_cases e : l = k
      · subst e
        simp only [if_true, and_self]
      · simp only [e, if_false]
        exact h l (by omega))
    refine ⟨D2, ?_, r2, r3⟩
    rw [e_Mo_best_65]
    simp (disch := omega) only [sC, sN, sN0, sLL, sTT, sEE, sM1, sF, sGt, sLe, sLt, sNe, or_false, or_true, false_or, true_or, or_self, if_true, if_false, not_true_eq_false, not_false_eq_true, B1s, B0s, B2s, e120, emul, k1.c (k := 115) (by decide), k1.c (k := 116) (by decide), k1.c (k := 117) (by decide), k1.c (k := 118) (by decide), ca1]
    exact r1
/-- the best row of the reference's so far -/
def mI (b m : Nat) (L : Nat → Nat → Nat) (A : Nat → Nat → Bool) (G : Nat → Nat → Nat → Nat → Bool) (c : Nat) (best le : Int32) : Prop := (best = -1 ∧ ∀ j, j < c → ¬ rfree b m A G j) ∨ ∃ j0, j0 < c ∧ best = nI j0 ∧ le = nI (rcost b m L j0) ∧ rfree b m A G j0 ∧ (∀ j, j < c → rfree b m A G j → rcost b m L j0 ≤ rcost b m L j) ∧ ∀ j, j < j0 → rfree b m A G j → rcost b m L j0 < rcost b m L j
/-- what stands while the reference goes through the rows -/
def rwI (D Dm : pD) (cW cP m : Nat) (P : Nat → Nat) : Prop := Ko [115, 116, 117, 118, 120, 121, 122, 123, 124] D Dm ∧ MV cW cP Dm ∧ stO D Dm P m ∧ (∀ k, k < m → Dm 120 0 k = nI (P k)) ∧ ∀ l, l < m → Dm 121 0 l = D 115 0 (P l) ∧ Dm 122 0 l = D 116 0 (P l) ∧ Dm 123 0 l = D 117 0 (P l) ∧ Dm 124 0 l = D 118 0 (P l)
theorem rw_lay {cN cW cP cT cH : Nat} {D Dm : pD} {E : pDL} (hB : iBook cN cW cP cT cH D) (hN : iNow cW cP D) (hY : iYears cW D) {P : Nat → Nat} {m : Nat} (hm : m ≤ 4) (hm1 : 1 ≤ m) (hP : ∀ k, k < m → P k < cP) (hinj : ∀ k l, k < m → l < m → P k = P l → k = l) {j : Nat} (hj : j < (cW + 1) ^ m) (hj2 : (cW + 1) ^ m ≤ 194481) (h : rwI D Dm cW cP m P) : ∃ Dn, Mo_layRow (nI j) (nI m) Dm E = some (some (.inl (nI (rcost (cW + 1) m (bL D cW P) j))), Dn, E) ∧ rwI D Dn cW cP m P ∧ ∀ k, k < m → atO Dn cW (P k) (dg (cW + 1) m j k) := by
  obtain ⟨h1, h2, h3, h4, h5⟩ := h
  obtain ⟨Dn, r1, r2, r3, r4, r5, -⟩ := M_lay (E := E) hB hN hY hm hP hinj hj hj2 m 0 Dm (Nat.le_refl _) h1 h2 h3 h4
  rw [Nat.sub_self, Nat.pow_zero, Nat.div_one, Nat.zero_add] at r1
  refine ⟨Dn, ?_, ⟨h1.tr (r2.sub (by decide)), r3, r4, fun k hk => by rw [r2.c (by decide), h4 k hk], fun l hl => by rw [r2.c (k := 121) (by decide), r2.c (k := 122) (by decide), r2.c (k := 123) (by decide), r2.c (k := 124) (by decide)]; exact h5 l hl⟩, r5⟩
  rw [e_Mo_layRow]
  exact r1
theorem M_rows {cN cW cP cT cH : Nat} {D : pD} {E : pDL} (hB : iBook cN cW cP cT cH D) (hN : iNow cW cP D) (hY : iYears cW D) {x : Int32} {P : Nat → Nat} {m : Nat} (hm : m ≤ 4) (hm1 : 1 ≤ m) (hP : ∀ k, k < m → P k < cP ∧ bt x (P k) = true) (hinj : ∀ k l, k < m → l < m → P k = P l → k = l) (hin : ∀ q, q < cP → bt x q = true → ∃ k, k < m ∧ P k = q) (hj2 : (cW + 1) ^ m ≤ 194481) : ∀ (n j : Nat) (best le : Int32) (Dm : pD), j + n = (cW + 1) ^ m → rwI D Dm cW cP m P → mI (cW + 1) m (bL D cW P) (bA D cW cT x P) (bGG D cW cT P) j best le → ∃ Dn best' le', Mo_best_162 x (nI m) (nI ((cW + 1) ^ m)) best le (nI j) Dm E = Mo_best_162 x (nI m) (nI ((cW + 1) ^ m)) best' le' (nI ((cW + 1) ^ m)) Dn E ∧ rwI D Dn cW cP m P ∧ mI (cW + 1) m (bL D cW P) (bA D cW cT x P) (bGG D cW cT P) ((cW + 1) ^ m) best' le' := by
  have hS := hB.2.1
  have hW := hB.2.2.1
  have hNW : NW = 16777216 := rfl
  intro n
  induction n with
  | zero =>
    intro j best le Dm hj hr hi
    obtain rfl : j = (cW + 1) ^ m := by omega
    exact ⟨Dm, best, le, rfl, hr, hi⟩
  | succ n ih =>
    intro j best le Dm hj hr hi
    have hjl : j < (cW + 1) ^ m := by omega
    obtain ⟨Dn, l1, l2, l3⟩ := rw_lay (E := E) hB hN hY hm hm1 (fun k hk => (hP k hk).1) hinj hjl hj2 hr
    have hf := M_free (E := E) hB hN hY l2.1 l2.2.1 x
    have hiff := free_iff (cT := cT) hB hN hP hinj hin (j := j) l2.2.2.1 l3
    have hcost := bL_lt hS hW cW P hm (cW + 1) j
    have hge : ¬ nI ((cW + 1) ^ m) ≤ nI j := nI_ge hjl (by omega)
    have skip : (rfree (cW + 1) m (bA D cW cT x P) (bGG D cW cT P) j → ∃ j0, j0 < j ∧ best = nI j0 ∧ le = nI (rcost (cW + 1) m (bL D cW P) j0) ∧ rcost (cW + 1) m (bL D cW P) j0 ≤ rcost (cW + 1) m (bL D cW P) j) → mI (cW + 1) m (bL D cW P) (bA D cW cT x P) (bGG D cW cT P) (j + 1) best le := by
      intro hs
      rcases hi with ⟨g1, g2⟩ | ⟨j0, g1, g2, g3, g4, g5, g6⟩
      · refine Or.inl ⟨g1, fun i hi' hfi => ?_⟩
        by_cases e : i = j
        · rw [e] at hfi
          obtain ⟨j0, q1, q2, -⟩ := hs hfi
          rw [g1] at q2
          exact iM (by omega) q2.symm
        · exact g2 i (by omega) hfi
      · refine Or.inr ⟨j0, by omega, g2, g3, g4, fun i hi' hfi => ?_, g6⟩
        by_cases e : i = j
        · rw [e] at hfi ⊢
          obtain ⟨j1, q1, q2, q3, q4⟩ := hs hfi
          have : j0 = j1 := (iE (by omega) (by omega)).mp (g2.symm.trans q2)
          rw [this]
          exact q4
        · exact g5 i (by omega) hfi
    by_cases cf : allT (okT D Dn x) 0 cT = true
    · have hfree := hiff.mp cf
      rw [if_pos cf] at hf
      have take : (best = -1 ∨ ∃ j0, j0 < j ∧ best = nI j0 ∧ le = nI (rcost (cW + 1) m (bL D cW P) j0) ∧ rcost (cW + 1) m (bL D cW P) j < rcost (cW + 1) m (bL D cW P) j0) → mI (cW + 1) m (bL D cW P) (bA D cW cT x P) (bGG D cW cT P) (j + 1) (nI j) (nI (rcost (cW + 1) m (bL D cW P) j)) := by
        intro ht
        have hlt : ∀ i, i < j → rfree (cW + 1) m (bA D cW cT x P) (bGG D cW cT P) i → rcost (cW + 1) m (bL D cW P) j < rcost (cW + 1) m (bL D cW P) i := by
          intro i hi' hfi
          rcases hi with ⟨g1, g2⟩ | ⟨j0, g1, g2, g3, g4, g5, g6⟩
          · exact absurd hfi (g2 i hi')
          · rcases ht with t | ⟨j1, q1, q2, q3, q4⟩
            · rw [t] at g2
              exact absurd g2.symm (iM (by omega))
            · have : j0 = j1 := (iE (by omega) (by omega)).mp (g2.symm.trans q2)
              rw [← this] at q4
              have := g5 i hi' hfi
              omega
        refine Or.inr ⟨j, by omega, rfl, rfl, hfree, fun i hi' hfi => ?_, hlt⟩
        by_cases e : i = j
        · rw [e]
          exact Nat.le_refl _
        · exact Nat.le_of_lt (hlt i (by omega) hfi)
      by_cases cb : best = -1
      · obtain ⟨Dz, b', l', z1, z2⟩ := ih (j + 1) (nI j) (nI (rcost (cW + 1) m (bL D cW P) j)) Dn (by omega) l2 (take (Or.inl cb))
        refine ⟨Dz, b', l', ?_, z2⟩
        rw [e_Mo_best_162, if_neg hge, l1, B1s, if_pos cb, hf, B1s, if_neg (by decide), ca1]
        exact z1
      · rcases hi with ⟨g1, -⟩ | ⟨j0, g1, g2, g3, g4, g5, g6⟩
        · exact absurd g1 cb
        · have hc0 := bL_lt hS hW cW P hm (cW + 1) j0
          by_cases cl' : rcost (cW + 1) m (bL D cW P) j0 ≤ rcost (cW + 1) m (bL D cW P) j
          · obtain ⟨Dz, b', l', z1, z2⟩ := ih (j + 1) best le Dn (by omega) l2 (skip (fun _ => ⟨j0, g1, g2, g3, cl'⟩))
            refine ⟨Dz, b', l', ?_, z2⟩
            rw [e_Mo_best_162, if_neg hge, l1, B1s, if_neg cb, if_pos (by rw [g3]; exact nI_le cl' (by omega)), ca1]
            exact z1
          · obtain ⟨Dz, b', l', z1, z2⟩ := ih (j + 1) (nI j) (nI (rcost (cW + 1) m (bL D cW P) j)) Dn (by omega) l2 (take (Or.inr ⟨j0, g1, g2, g3, by omega⟩))
            refine ⟨Dz, b', l', ?_, z2⟩
            rw [e_Mo_best_162, if_neg hge, l1, B1s, if_neg cb, if_neg (by rw [g3]; exact nI_ge (by omega) (by omega)), hf, B1s, if_neg (by decide), ca1]
            exact z1
    · have hnf : ¬ rfree (cW + 1) m (bA D cW cT x P) (bGG D cW cT P) j := fun z => cf (hiff.mpr z)
      rw [if_neg cf] at hf
      obtain ⟨Dz, b', l', z1, z2⟩ := ih (j + 1) best le Dn (by omega) l2 (skip (fun z => absurd z hnf))
      refine ⟨Dz, b', l', ?_, z2⟩
      rw [e_Mo_best_162, if_neg hge, l1, B1s]
      by_cases cb : best = -1
      · rw [if_pos cb, hf, B1s, if_pos rfl, ca1]
        exact z1
      · rw [if_neg cb]
        by_cases cl' : le ≤ nI (rcost (cW + 1) m (bL D cW P) j)
        · rw [if_pos cl', ca1]
          exact z1
        · rw [if_neg cl', hf, B1s, if_pos rfl, ca1]
          exact z1
/-- what was comes back -/
theorem M_restore {m : Nat} (hm : m ≤ 4) {P : Nat → Nat} (hP : ∀ k, k < m → P k < 24) (hinj : ∀ k l, k < m → l < m → P k = P l → k = l) {E : pDL} {D : pD} : ∀ (n k : Nat) (Dm : pD), k + n = m → (∀ k, k < m → Dm 120 0 k = nI (P k)) → (∀ l, l < m → Dm 121 0 l = D 115 0 (P l) ∧ Dm 122 0 l = D 116 0 (P l) ∧ Dm 123 0 l = D 117 0 (P l) ∧ Dm 124 0 l = D 118 0 (P l)) → stO D Dm P m → (∀ l, l < k → Dm 115 0 (P l) = D 115 0 (P l) ∧ Dm 116 0 (P l) = D 116 0 (P l) ∧ Dm 117 0 (P l) = D 117 0 (P l) ∧ Dm 118 0 (P l) = D 118 0 (P l)) → ∃ Dn, Mo_best_238 (nI m) (nI k) Dm E = some (some (.inl (-1)), Dn, E) ∧ Ko [115, 116, 117, 118] Dm Dn ∧ ∀ q, Dn 115 0 q = D 115 0 q ∧ Dn 116 0 q = D 116 0 q ∧ Dn 117 0 q = D 117 0 q ∧ Dn 118 0 q = D 118 0 q
  | 0, k, Dm, hk, h1, h2, h3, h4 => by
    obtain rfl : k = m := by omega
    refine ⟨Dm, by rw [e_Mo_best_238, if_pos (nI_le (Nat.le_refl _) (by omega))], Ko.rf, fun q => ?_⟩
    by_cases c : ∃ l, l < k ∧ P l = q
    · obtain ⟨l, hl, rfl⟩ := c
      exact h4 l hl
    · exact h3 q (fun l hl z => c ⟨l, hl, z⟩)
  | n + 1, k, Dm, hk, h1, h2, h3, h4 => by
    have hkm : k < m := by omega
    have hpk := hP k hkm
    obtain ⟨w1, w2, w3, w4⟩ := h2 k hkm
    have kp := putM_ko Dm (P k) (D 115 0 (P k)) (D 116 0 (P k)) (D 117 0 (P k)) (D 118 0 (P k))
    obtain ⟨Dn, r1, r2, r3⟩ := M_restore hm hP hinj (E := E) n (k + 1) (putM Dm (P k) (D 115 0 (P k)) (D 116 0 (P k)) (D 117 0 (P k)) (D 118 0 (P k))) (by omega) (fun l hl => by rw [kp.c (by decide), h1 l hl]) (fun l hl => by rw [kp.c (k := 121) (by decide), kp.c (k := 122) (by decide), kp.c (k := 123) (by decide), kp.c (k := 124) (by decide)]; exact h2 l hl) (fun q hq => by
      have hne : q ≠ P k := fun z => hq k hkm z.symm
      rw [putM_k, putM_a, putM_b, putM_c, if_neg hne, if_neg hne, if_neg hne, if_neg hne]
      exact h3 q hq) (fun l hl => by
      rw [putM_k, putM_a, putM_b, putM_c]
      by_cases e : l = k
      · rw [e, if_pos rfl, if_pos rfl, if_pos rfl, if_pos rfl]
        exact ⟨rfl, rfl, rfl, rfl⟩
      · have hne : P l ≠ P k := fun z => e (hinj l k (by omega) hkm z)
        rw [if_neg hne, if_neg hne, if_neg hne, if_neg hne]
        exact h4 l (by omega))
    refine ⟨Dn, ?_, kp.tr r2, r3⟩
    rw [e_Mo_best_238]
    simp (disch := omega) only [sC, sN, sN0, sLL, sTT, sEE, sM1, sF, sGt, sLe, sLt, sNe, or_false, or_true, false_or, true_or, or_self, if_true, if_false, not_true_eq_false, not_false_eq_true, B1s, B0s, B2s, h1 k hkm, w1, w2, w3, w4, ca1]
    exact r1
theorem pow_le {a b k n : Nat} (h : a ≤ b) (hk : k ≤ n) (hb : 0 < b) : a ^ k ≤ b ^ n := Nat.le_trans (Nat.pow_le_pow_left h k) (Nat.pow_le_pow_right hb hk)
/-- best -/
theorem L_best (x : Int32) (D : pD) (E : pDL) (h : Inv D) : Same D E (Hb_best x) (Mo_best x) := by
  have hh := h
  obtain ⟨cN, cW, cP, cT, cH, hT, hF, hB, hN, hK, hG, hY, hL⟩ := h
  obtain ⟨⟨⟨n1, n2, n3, n4, n5⟩, ⟨a1, a2, a3, a4, a5⟩, ⟨b1, b2, b3, b4, b5⟩⟩, hS, hW, hGS, r1, r2, r3, r4, r5, r6⟩ := id hB
  have hbc := bc_pl x
  have hb32 := bc_le x
  have hall : Bk_allPlaces D E = some (some (.inl (((1 : Int32) <<< (nI cP &&& 31)) - 1)), D, E) := by rw [e_Bk_allPlaces, a3]
  obtain ⟨mg, mb⟩ := M_asked (E := E) hB x 32 0 D (by omega) (fun i hi => absurd hi (by omega)) (by rw [pl_0]; exact Nat.zero_le _) Ko.rf (fun k hk => absurd hk (by rw [pl_0]; exact Nat.not_lt_zero _))
  have bad : ∀ D2, Ko [120] D D2 → Hb_best x D E = some (some (.inl (-2)), D, E) → Mo_best x D E = some (some (.inl (-2)), D2, E) → Same D E (Hb_best x) (Mo_best x) := by
    intro D2 k2 q1 q2
    refine Bo.of ⟨_, _, _, _, by repeat first | exact okL_nil | refine okL_n ?_ | refine okL_i ?_ | refine okL_r (by decide) ?_, fun _ _ => rfl⟩ ⟨_, _, _, _, by repeat first | exact okL_nil | refine okL_n ?_ | refine okL_i ?_ | refine okL_r (by decide) ?_, fun _ _ => rfl⟩ q1 q2 ?_
    have : cmb D D2 = D2 := by
      funext k
      by_cases c : k < 100
      · rw [cmb_x c, k2 k (by simp; omega)]
      · rw [cmb_m c]
    rw [this]
    exact hh.ko k2 (by decide) (fun i _ => k2.c (by decide) i)
  have xbad : (¬ good x cP ∨ (pl x 32).length = 0) → Hb_best x D E = some (some (.inl (-2)), D, E) := by
    intro hg
    rw [e_Hb_best, Ji_bitCount_spec, B1s, hbc]
    by_cases c1 : (pl x 32).length < 1
    · rw [if_pos (nlt 1 c1 (by omega))]
    · rw [if_neg (show ¬ nI (pl x 32).length < (1 : Int32) from fun z => c1 ((iT (b := 1) (by omega) (by omega)).mp z))]
      by_cases c2 : 4 < (pl x 32).length
      · rw [if_pos (show (4 : Int32) < nI (pl x 32).length from (nI_lt c2 (by omega) : nI 4 < _))]
      · rw [if_neg (nnl 4 (k := (pl x 32).length) (by omega) (by omega)), hall, B1s, if_neg (fun z => by
          rcases hg with q | q
          · exact q ⟨(all_b n3 x).mp z, by omega⟩
          · omega)]
  by_cases hg : good x cP
  · obtain ⟨Da, p1, p2, p3⟩ := mg hg
    have p1' : Mo_best x D E = Mo_best_4 x (nI (pl x 32).length) (nI 32) Da E := by
      rw [e_Mo_best]
      exact p1
    by_cases hz : (pl x 32).length = 0
    · refine bad Da p2 (xbad (Or.inr hz)) ?_
      rw [p1', e_Mo_best_4, if_pos (by decide), if_pos (show nI (pl x 32).length = (0 : Int32) by rw [hz]; rfl)]
    · have hsame := pl_same hg.1 (show cP ≤ 32 by omega)
      have hPs : ∀ k, pP x 32 k = pP x cP k := fun k => by
        unfold pP
        rw [hsame]
      rw [hsame] at hbc hz p1' p3
      have hm4 : (pl x cP).length ≤ 4 := by rw [← hsame]; exact hg.2
      obtain ⟨D2, le, R, s1, s2, s3, s4, s5, s6⟩ := X_search (E := E) hB (x := x) hm4
      have hP : ∀ k, k < (pl x cP).length → pP x cP k < cP ∧ bt x (pP x cP k) = true := fun k hk => pP_mem hk
      have hP24 : ∀ k, k < (pl x cP).length → pP x cP k < 24 := fun k hk => by have := (hP k hk).1; omega
      have hinj : ∀ k l, k < (pl x cP).length → l < (pl x cP).length → pP x cP k = pP x cP l → k = l := fun k l hk hl h => pP_inj hk hl h
      have hin : ∀ q, q < cP → bt x q = true → ∃ k, k < (pl x cP).length ∧ pP x cP k = q := fun q h1 h2 => pP_of h1 h2
      have p3' : ∀ k, k < (pl x cP).length → Da 120 0 k = nI (pP x cP k) := fun k hk => by rw [p3 k hk, hPs]
      generalize hmm : (pl x cP).length = m at *
      have hrows : (cW + 1) ^ m ≤ 194481 := by
        have := pow_le (a := cW + 1) (b := 21) (k := m) (n := 4) (by omega) hm4 (by omega)
        have e : (21 : Nat) ^ 4 = 194481 := by decide
        omega
      obtain ⟨Db, t1, t2, t3⟩ := M_saved hm4 hP24 n2 x (E := E) (D := Da) (by rw [p2.c (by decide), b2]) p3' m 0 Da (by omega) Ko.rf (fun l hl => absurd hl (by omega))
      have kb : Ko [120, 121, 122, 123, 124] D Db := (p2.sub (by decide)).tr (t2.sub (by decide))
      have hV0 : MV cW cP Db := by
        intro p hp
        rw [kb.c (k := 115) (by decide), kb.c (k := 116) (by decide), kb.c (k := 117) (by decide), kb.c (k := 118) (by decide)]
        exact now_mv hN p hp
      have hr0 : rwI D Db cW cP m (pP x cP) := ⟨kb.sub (by decide), hV0, fun q _ => ⟨kb.c (by decide) q, kb.c (by decide) q, kb.c (by decide) q, kb.c (by decide) q⟩, fun k hk => by rw [t2.c (by decide), p3' k hk], fun l hl => by
        obtain ⟨q1, q2, q3, q4⟩ := t3 l hl
        rw [q1, q2, q3, q4, p2.c (k := 115) (by decide), p2.c (k := 116) (by decide), p2.c (k := 117) (by decide), p2.c (k := 118) (by decide)]
        exact ⟨rfl, rfl, rfl, rfl⟩⟩
      obtain ⟨Dn, best, lb, u1, u2, u3⟩ := M_rows (E := E) hB hN hY (x := x) hm4 (by omega) hP hinj hin hrows ((cW + 1) ^ m) 0 (-1) 0 Db (by omega) hr0 (Or.inl ⟨rfl, fun j hj => absurd hj (by omega)⟩)
      have hmo : Mo_best x D E = Mo_best_162 x (nI m) (nI ((cW + 1) ^ m)) best lb (nI ((cW + 1) ^ m)) Dn E := by
        rw [p1', e_Mo_best_4, if_pos (by decide), if_neg (show ¬ nI m = (0 : Int32) from fun z => hz ((iE (b := 0) (by omega) (by omega)).mp z))]
        exact t1.trans u1
      have hcost : ∀ j, rcost (cW + 1) m (bL D cW (pP x cP)) j < NW := fun j => bL_lt hS hW cW (pP x cP) hm4 (cW + 1) j
      have hxb : Hb_best x D E = (pB1 (Se_putBest x D E) fun y3 D3 E3 => (if y3 = 0 then (some (some (.inl (-1 : Int32)), D3, E3)) else (pB1 (Rn_lostOfAll_held_wordTraits D3 E3) fun y4 D4 E4 => (some (some (.inl y4), D4, E4))))) := by
        rw [e_Hb_best, Ji_bitCount_spec, B1s, hbc, if_neg (show ¬ nI m < (1 : Int32) from fun z => by have := (iT (b := 1) (by omega) (by omega)).mp z; omega), if_neg (nnl 4 (k := m) (by omega) (by omega)), hall, B1s, if_pos ((all_b n3 x).mpr hg.1)]
      rcases u3 with ⟨g1, g2⟩ | ⟨j0, g1, g2, g3, g4, g5, g6⟩
      · have hle : le = NW := (s6.uniq (Or.inl ⟨rfl, g2⟩ : IsB (cW + 1) m (bL D cW (pP x cP)) (bA D cW cT x (pP x cP)) (bGG D cW cT (pP x cP)) ((cW + 1) ^ m) NW (fun _ => 0)) hcost).1
        obtain ⟨v1, v2, v3, v4, v5⟩ := u2
        obtain ⟨Dz, w1, w2, w3⟩ := M_restore hm4 hP24 hinj (E := E) (D := D) m 0 Dn (by omega) v4 v5 v3 (fun l hl => absurd hl (by omega))
        refine Bo.of ⟨_, _, _, _, by repeat first | exact okL_nil | refine okL_n ?_ | refine okL_i ?_ | refine okL_r (by decide) ?_, fun _ _ => rfl⟩ ⟨_, _, _, _, by repeat first | exact okL_nil | refine okL_n ?_ | refine okL_i ?_ | refine okL_r (by decide) ?_, fun _ _ => rfl⟩ (v := -1) (D1 := D2) (E1 := E) (D2 := Dz) (E2 := E) ?_ ?_ ?_
        · rw [hxb, s1, if_pos hle, B1s, if_pos rfl]
        · rw [hmo, e_Mo_best_162, if_pos (nI_le (Nat.le_refl _) (by omega)), if_pos g1]
          exact w1
        · refine hh.e0 (fun k hk => ?_)
          by_cases c : k < 100
          · rw [cmb_x c, s2 k (by revert hk; simp; omega)]
          · rw [cmb_m c]
            by_cases c2 : k ∈ [115, 116, 117, 118]
            · have hq' : k = 115 ∨ k = 116 ∨ k = 117 ∨ k = 118 := by simpa using c2
              funext q
              obtain ⟨z1, z2, z3, z4⟩ := w3 q
              rcases hq' with rfl | rfl | rfl | rfl
              · exact z1
              · exact z2
              · exact z3
              · exact z4
            · rw [w2 k c2, v1 k (by revert hk c2; simp; omega)]
      · have hib : IsB (cW + 1) m (bL D cW (pP x cP)) (bA D cW cT x (pP x cP)) (bGG D cW cT (pP x cP)) ((cW + 1) ^ m) (rcost (cW + 1) m (bL D cW (pP x cP)) j0) (dg (cW + 1) m j0) := Or.inr ⟨j0, g1, g4, rfl, fun _ _ => rfl, g5, g6⟩
        obtain ⟨q1, q2⟩ := s6.uniq hib hcost
        have hne : le ≠ NW := by
          rw [q1]
          have := hcost j0
          omega
        have hRd := q2 hne
        have hd : ∀ k, dg (cW + 1) m j0 k ≤ cW := fun k => by have := dg_lt (b := cW + 1) (m := m) (j := j0) (k := k) (by omega); omega
        obtain ⟨D3, y1, y2, y3, y4⟩ := X_putAll n2 hm4 (E := E) (P := pP x cP) (R := R) hP24 hinj (fun k hk => by rw [hRd k hk]; exact hd k) m 0 D2 (by omega) s3 (by rw [s2.c (by decide), a2]) s4 (s5 hne)
        obtain ⟨Dz, w1, ⟨w2, w3, w4, -, -⟩, w5⟩ := rw_lay (E := E) hB hN hY hm4 (by omega) (fun k hk => (hP k hk).1) hinj g1 hrows u2
        have kC : Ko [43, 44, 45, 46, 50, 51, 52, 53, 54, 55, 56, 115, 116, 117, 118, 120, 121, 122, 123, 124] D (cmb D3 Dz) := by
          intro k hk
          by_cases c : k < 100
          · rw [cmb_x c, y2 k (by revert hk; simp; omega), s2 k (by revert hk; simp; omega)]
          · rw [cmb_m c, w2 k (by revert hk; simp <;> omega)]
        have hNC : iNow cW cP (cmb D3 Dz) := by
          intro p hp
          rw [cmb_x (k := 43) (by decide), cmb_x (k := 44) (by decide), cmb_x (k := 45) (by decide), cmb_x (k := 46) (by decide), kC.c (k := 47) (by decide), kC.c (k := 119) (by decide), cmb_m (k := 115) (by decide), cmb_m (k := 116) (by decide), cmb_m (k := 117) (by decide), cmb_m (k := 118) (by decide)]
          by_cases c : ∃ l, l < m ∧ pP x cP l = p
          · obtain ⟨l, hl, rfl⟩ := c
            obtain ⟨z1, z2, z3, z4⟩ := y4 l (by omega) hl
            obtain ⟨o1, o2, o3, o4⟩ := w5 l hl
            rw [z1, z2, z3, z4, o1, o2, o3, o4, hRd l hl]
            exact ⟨SC.rf (op_xc n2 (hd l)), (hN _ hp).2.1, fun z => absurd (hP l hl).1 (by omega)⟩
          · obtain ⟨z1, z2, z3, z4⟩ := y3 p (fun l _ hl z => c ⟨l, hl, z⟩)
            obtain ⟨o1, o2, o3, o4⟩ := w4 p (fun l hl z => c ⟨l, hl, z⟩)
            rw [z1, z2, z3, z4, o1, o2, o3, o4, s2.c (k := 43) (by decide), s2.c (k := 44) (by decide), s2.c (k := 45) (by decide), s2.c (k := 46) (by decide)]
            exact hN p hp
        have hBC := hB.ko kC (by decide)
        have hYC := hY.ko kC (by decide)
        have xl := X_ro (f := Rn_lostOfAll_held_wordTraits) ⟨_, _, _, _, by repeat first | exact okL_nil | refine okL_n ?_ | refine okL_i ?_ | refine okL_r (by decide) ?_, fun _ _ => rfl⟩ (X_lost (E := E) hBC) (D' := D3) (fun k hk => (cmb_x hk).symm)
        have ml := M_ro (f := Mo_lostAll (-1)) ⟨_, _, _, _, by repeat first | exact okL_nil | refine okL_n ?_ | refine okL_i ?_ | refine okL_r (by decide) ?_, fun _ _ => rfl⟩ (M_lost (E := E) hBC hNC hYC) (D' := Dz) (fun k hk _ => (cmb_m (by omega)).symm)
        refine Bo.of ⟨_, _, _, _, by repeat first | exact okL_nil | refine okL_n ?_ | refine okL_i ?_ | refine okL_r (by decide) ?_, fun _ _ => rfl⟩ ⟨_, _, _, _, by repeat first | exact okL_nil | refine okL_n ?_ | refine okL_i ?_ | refine okL_r (by decide) ?_, fun _ _ => rfl⟩ (v := iS (Rn_lostAt_held_wordTraits_v (cmb D3 Dz)) cP) (D1 := D3) (E1 := E) (D2 := Dz) (E2 := E) ?_ ?_ ?_
        · rw [hxb, s1, if_neg hne, y1, B1s, if_neg (by decide), xl, B1s]
        · rw [hmo, e_Mo_best_162, if_pos (nI_le (Nat.le_refl _) (by omega)), g2, if_neg (iM (by omega)), w1, B1s, ml, B1s]
        · exact ⟨cN, cW, cP, cT, cH, hT.ko kC (by decide), hF.ko kC (by decide), hBC, hNC, hK.ko kC (by decide), hG.ko kC (by decide), hYC, hL.ko kC (by decide)⟩
  · obtain ⟨D2, p1, p2⟩ := mb hg
    refine bad D2 p2 (xbad (Or.inl hg)) ?_
    rw [e_Mo_best]
    exact p1
