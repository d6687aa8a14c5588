/-! MORE CALLS: gives, agree, swap -/
theorem cmb_self (D : pD) : cmb D D = D := funext fun k => by unfold cmb; split <;> rfl
theorem cmb_sx {D1 D2 : pD} {k j i : Nat} {x : Int32} (h : k < 100) : cmb (dset D1 k j i x) D2 = dset (cmb D1 D2) k j i x := by
  funext k' j'
  unfold cmb dset
  by_cases h1 : k' < 100
  · simp only [h1, if_true]
    by_cases e : k' = k ∧ j' = j
    · obtain ⟨rfl, rfl⟩ := e
      simp [h]
    · rw [if_neg e, if_neg e]
  · simp only [h1, if_false]
    rw [if_neg (fun e : k' = k ∧ j' = j => h1 (e.1 ▸ h))]
theorem cmb_sm {D1 D2 : pD} {k j i : Nat} {x : Int32} (h : ¬ k < 100) : cmb D1 (dset D2 k j i x) = dset (cmb D1 D2) k j i x := by
  funext k' j'
  unfold cmb dset
  by_cases h1 : k' < 100
  · simp only [h1, if_true]
    rw [if_neg (fun e : k' = k ∧ j' = j => h (e.1 ▸ h1))]
  · simp only [h1, if_false]
    by_cases e : k' = k ∧ j' = j
    · obtain ⟨rfl, rfl⟩ := e
      simp [h]
    · rw [if_neg e, if_neg e]
theorem cmb_cx {D1 D2 : pD} {s sp d dp n : Nat} (hs : s < 100) (h : d < 100) : cmb (dcpy D1 s sp d dp n) D2 = dcpy (cmb D1 D2) s sp d dp n := by
  funext k' j'
  unfold cmb dcpy
  by_cases h1 : k' < 100
  · simp only [h1, if_true]
    by_cases e : k' = d ∧ j' = 0
    · obtain ⟨rfl, rfl⟩ := e
      simp [h, hs]
    · rw [if_neg e, if_neg e]
  · simp only [h1, if_false]
    rw [if_neg (fun e : k' = d ∧ j' = 0 => h1 (e.1 ▸ h))]
theorem Ko.c {ks : List Nat} {D D' : pD} (h : Ko ks D D') {k : Nat} (hk : k ∉ ks) (i : Nat) : D' k 0 i = D k 0 i := by rw [h k hk]
theorem iTape.ko {ks : List Nat} {D D' : pD} (h : iTape D) (hk : Ko ks D D') (hs : ∀ k ∈ [1, 2, 25, 100, 101], k ∉ ks) : iTape D' := h.fr (hk.at (fun k q => hs k (by revert k; decide))) (hk.c (hs 1 (by decide)) _) (hk.c (hs 100 (by decide)) _)
theorem iFault.ko {ks : List Nat} {D D' : pD} (h : iFault D) (hk : Ko ks D D') (hs : ∀ k ∈ [17, 100], k ∉ ks) : iFault D' := h.fr (hk.c (hs 17 (by decide)) _) (hk.c (hs 17 (by decide)) _) (hk.c (hs 100 (by decide)) _) (hk.c (hs 100 (by decide)) _)
theorem iBook.ko {cN cW cP cT cH : Nat} {ks : List Nat} {D D' : pD} (h : iBook cN cW cP cT cH D) (hk : Ko ks D D') (hs : ∀ k ∈ [4, 5, 6, 7, 8, 9, 10, 11, 12, 13, 14, 15, 16, 102, 105, 106, 107, 108, 109, 110, 111, 112, 113, 114], k ∉ ks) : iBook cN cW cP cT cH D' := h.fr (hk.at hs)
theorem iNow.ko {cW cP : Nat} {ks : List Nat} {D D' : pD} (h : iNow cW cP D) (hk : Ko ks D D') (hs : ∀ k ∈ [43, 44, 45, 46, 47, 115, 116, 117, 118, 119], k ∉ ks) : iNow cW cP D' := h.fr (hk.at hs)
theorem iKept.ko {cW cP : Nat} {ks : List Nat} {D D' : pD} (h : iKept cW cP D) (hk : Ko ks D D') (hs : ∀ k ∈ [49, 77, 78, 79, 80, 81, 83, 84, 85, 86, 87, 89, 90, 91, 92, 93, 95, 96, 97, 98, 99, 125, 126, 127, 128, 129, 130], k ∉ ks) : iKept cW cP D' := h.fr (hk.at hs)
theorem iGiven.ko {ks : List Nat} {D D' : pD} (h : iGiven D) (hk : Ko ks D D') (hs : ∀ k ∈ [58, 131], k ∉ ks) : iGiven D' := h.fr (hk.at hs)
theorem iYears.ko {cW : Nat} {ks : List Nat} {D D' : pD} (h : iYears cW D) (hk : Ko ks D D') (hs : ∀ k ∈ [59, 60, 61, 62, 100, 132, 133, 134], k ∉ ks) : iYears cW D' := h.fr (hk.at (fun k q => hs k (by revert k; decide))) (hk.c (hs 59 (by decide)) _) (hk.c (hs 100 (by decide)) _)
theorem iLaugh.ko {ks : List Nat} {D D' : pD} (h : iLaugh D) (hk : Ko ks D D') (hs : ∀ k ∈ [65, 66, 67, 68, 69, 70, 71, 72, 73, 100, 135, 136, 137, 138, 139, 140, 141], k ∉ ks) : iLaugh D' := h.fr (hk.at (fun k q => hs k (by revert k; decide))) (hk.c (hs 65 (by decide)) _) (hk.c (hs 65 (by decide)) _) (hk.c (hs 65 (by decide)) _) (hk.c (hs 100 (by decide)) _) (hk.c (hs 100 (by decide)) _) (hk.c (hs 100 (by decide)) _)
theorem nle_of {x : Int32} {m n : Nat} (h : nI n ≤ x) (hm : m < n) (hn : n < 2147483648) : ¬ x ≤ nI m := by
  rw [Int32.le_iff_toInt_le] at h ⊢
  rw [nI_toInt hn] at h
  rw [nI_toInt (by omega)]
  omega
theorem lt_of {x : Int32} {m n : Nat} (h : nI n ≤ x) (hm : m < n) (hn : n < 2147483648) : nI m < x := by
  rw [Int32.le_iff_toInt_le] at h
  rw [Int32.lt_iff_toInt_lt]
  rw [nI_toInt hn] at h
  rw [nI_toInt (by omega)]
  omega
theorem i8s {n : Nat} (h : n < 128) : (nI n).toInt8.toInt32 = nI n := (by decide +kernel : ∀ n, n < 128 → (nI n).toInt8.toInt32 = nI n) n h
theorem cm20 {k : Nat} : nI k * (20 : Int32) = nI (k * 20) := pk_mul k 20
theorem cm4 {k : Nat} : nI k * (4 : Int32) = nI (k * 4) := pk_mul k 4
theorem cm24 {k : Nat} : nI k * (24 : Int32) = nI (k * 24) := pk_mul k 24
theorem cm1000 {k : Nat} : nI k * (1000 : Int32) = nI (k * 1000) := pk_mul k 1000
theorem cw1000 {k : Nat} : (1000 : Int32) * nI k = nI (k * 1000) := by rw [Int32.mul_comm]; exact cm1000
theorem cw24 {k : Nat} : (24 : Int32) * nI k = nI (k * 24) := by rw [Int32.mul_comm]; exact cm24
/-- gives -/
theorem given_set {D : pD} (h : iGiven D) {p w v n : Nat} (hp : p < 24) (hw : w < 20) (hv : v < 4) (hn : n ≤ 99) : iGiven (dset (dset D 58 0 ((p * 20 + w) * 4 + v) (nI n)) 131 0 ((v * 24 + p) * 20 + w) (nI n)) := by
  intro p' hp' w' hw' v' hv'
  rw [dsN (k' := 58) (by decide), dsA, dsA, dsN (by decide)]
  by_cases e : (p' * 20 + w') * 4 + v' = (p * 20 + w) * 4 + v
  · have e1 : v' = v := by omega
    have e2 : w' = w := by omega
    have e3 : p' = p := by omega
    subst e1 e2 e3
    rw [if_pos rfl, if_pos rfl]
    exact ⟨n, hn, rfl, rfl⟩
  · rw [if_neg e, if_neg (fun z => e (by
      have e2 : w' = w := by omega
      have e3 : v' * 24 + p' = v * 24 + p := by omega
      have e4 : p' = p := by omega
      have e5 : v' = v := by omega
      subst e2 e4 e5
      rfl))]
    exact h p' hp' w' hw' v' hv'
theorem L_gives (x y z u : Int32) (D : pD) (E : pDL) (h : Inv D) : Same D E (Hb_gives x y z u) (Mo_gives x y z u) := by
  have hh := h
  obtain ⟨cN, cW, cP, cT, cH, hT, hF, hB, hN, hK, hG, hY, hL⟩ := h
  obtain ⟨⟨⟨n1, n2, n3, n4, n5⟩, ⟨a1, a2, a3, a4, a5⟩, ⟨b1, b2, b3, b4, b5⟩⟩, hS, hW, hGS, r1, r2, r3, r4, r5, r6⟩ := id hB
  rcases ixc x (n := 4) (by omega) with hx | ⟨v, hv, rfl⟩
  · refine Same.ro (v := -2) hh ?_ (by rw [e_Mo_gives, in_out D E 4 (by decide) (by omega) hx, B1s, if_pos rfl])
    rw [e_Hb_gives]
    by_cases h0 : x < 0
    · rw [if_pos h0]
    · rw [if_neg h0, if_pos (show (4 : Int32) ≤ x from hx.resolve_left h0)]
  · have xv : ¬ (4 : Int32) ≤ nI v := nle 4 hv (by omega)
    rcases ixc y (n := cP) (by omega) with hy | ⟨p, hp, rfl⟩
    · exact Same.ro (v := -2) hh (by rw [e_Hb_gives, if_neg (iN (by omega)), if_neg xv, has2_n D E a3 hy, B1s, if_pos rfl]) (by rw [e_Mo_gives, in_in D E 4 (by decide) (by omega) hv, B1s, if_neg (by decide), is2_n D E b3 (by omega) hy, B1s, if_pos rfl])
    · rcases ixc z (n := cW) (by omega) with hz | ⟨w, hw, rfl⟩
      · exact Same.ro (v := -2) hh (by rw [e_Hb_gives, if_neg (iN (by omega)), if_neg xv, has2_y D E a3 hp (by omega), B1s, if_neg (by decide), has1_n D E a2 hz, B1s, if_pos rfl]) (by rw [e_Mo_gives, in_in D E 4 (by decide) (by omega) hv, B1s, if_neg (by decide), is2_y D E b3 (by omega) hp, B1s, if_neg (by decide), is1_n D E b2 (by omega) hz, B1s, if_pos rfl])
      · rcases ixc u (n := 100) (by omega) with hu | ⟨n, hn, rfl⟩
        · refine Same.ro (v := -2) hh ?_ (by rw [e_Mo_gives, in_in D E 4 (by decide) (by omega) hv, B1s, if_neg (by decide), is2_y D E b3 (by omega) hp, B1s, if_neg (by decide), is1_y D E b2 (by omega) hw, B1s, if_neg (by decide), in_out D E 100 (by decide) (by omega) hu, B1s, if_pos rfl])
          rw [e_Hb_gives, if_neg (iN (by omega)), if_neg xv, has2_y D E a3 hp (by omega), B1s, if_neg (by decide), has1_y D E a2 hw (by omega), B1s, if_neg (by decide)]
          by_cases h0 : u < 0
          · rw [if_pos h0]
          · rw [if_neg h0, if_neg (show ¬ u ≤ (99 : Int32) from nle_of (hu.resolve_left h0) (m := 99) (by omega) (by omega))]
        · have hp24 : p < 24 := by omega
          have hw20 : w < 20 := by omega
          obtain ⟨n0, hn0, g1, g2⟩ := hG p hp24 w hw20 v hv
          refine Bo.of (v := nI n0) (D1 := dset D 58 0 ((p * 20 + w) * 4 + v) (nI n)) (E1 := E) (D2 := dset D 131 0 ((v * 24 + p) * 20 + w) (nI n)) (E2 := E) ⟨_, _, _, _, by repeat first | exact okL_nil | refine okL_n ?_ | refine okL_i ?_ | refine okL_r (by decide) ?_, fun _ _ => rfl⟩ ⟨_, _, _, _, by repeat first | exact okL_nil | refine okL_n ?_ | refine okL_i ?_ | refine okL_r (by decide) ?_, fun _ _ => rfl⟩ ?_ ?_ ?_
          · rw [e_Hb_gives, if_neg (iN (by omega)), if_neg xv, has2_y D E a3 hp (by omega), B1s, if_neg (by decide), has1_y D E a2 hw (by omega), B1s, if_neg (by decide)]
            simp (disch := omega) only [sC, sN, sN0, sLL, sTT, sEE, sM1, sF, sGt, sLe, sLt, sNe, or_false, or_true, false_or, true_or, or_self, if_true, if_false, not_true_eq_false, not_false_eq_true, B1s, B0s, B2s, cl99, cn99, ct99, cu99, ce99, cf99, e_Fo_put, e_Fo_indexOf, cm20, cm4, nI_add, i8s, g1]
          · rw [e_Mo_gives, in_in D E 4 (by decide) (by omega) hv, B1s, if_neg (by decide), is2_y D E b3 (by omega) hp, B1s, if_neg (by decide), is1_y D E b2 (by omega) hw, B1s, if_neg (by decide), in_in D E 100 (by decide) (by omega) hn, B1s, if_neg (by decide)]
            simp (disch := omega) only [sC, sN, sN0, sLL, sTT, sEE, sM1, sF, sGt, sLe, sLt, sNe, or_false, or_true, false_or, true_or, or_self, if_true, if_false, not_true_eq_false, not_false_eq_true, B1s, B0s, B2s, e_Mo_cellOf, cm20, cm24, nI_add, g2]
          · rw [cmb_sm (by decide), cmb_sx (by decide), cmb_self]
            have k1 : Ko [58, 131] D (dset (dset D 58 0 ((p * 20 + w) * 4 + v) (nI n)) 131 0 ((v * 24 + p) * 20 + w) (nI n)) := (Ko.rf.set (by decide) _ _ _).set (by decide) _ _ _
            exact ⟨cN, cW, cP, cT, cH, hT.ko k1 (by decide), hF.ko k1 (by decide), hB.ko k1 (by decide), hN.ko k1 (by decide), hK.ko k1 (by decide), given_set hG hp24 hw20 hv (by omega), hY.ko k1 (by decide), hL.ko k1 (by decide)⟩
/-- agree -/
def gv (D : pD) (p w v : Nat) : Nat := (D 58 0 ((p * 20 + w) * 4 + v)).toNatClampNeg
theorem gv_x {D : pD} (h : iGiven D) {p w v : Nat} (hp : p < 24) (hw : w < 20) (hv : v < 4) : gv D p w v ≤ 99 ∧ D 58 0 ((p * 20 + w) * 4 + v) = nI (gv D p w v) ∧ D 131 0 ((v * 24 + p) * 20 + w) = nI (gv D p w v) := by
  obtain ⟨n, hn, e1, e2⟩ := h p hp w hw v hv
  unfold gv
  rw [e1, e2, iC (by omega)]
  exact ⟨hn, rfl, rfl⟩
def gm (f : Nat → Nat) : Nat → Nat
  | 0 => 0
  | n + 1 => if gm f n < f n then f n else gm f n
theorem gm_le {f : Nat → Nat} {b : Nat} : ∀ {n : Nat}, (∀ k, k < n → f k ≤ b) → gm f n ≤ b
  | 0, _ => Nat.zero_le _
  | n + 1, h => by
    have h1 := gm_le (n := n) (fun k hk => h k (by omega))
    have h2 := h n (by omega)
    rw [gm]
    split <;> omega
def cst (D : pD) (p w : Nat) : Int32 := nI (gm (gv D p w) 4 * 1000 + nS (gv D p w) 4)
theorem X_cost {D : pD} {E : pDL} (hG : iGiven D) {p w : Nat} (hp : p < 24) (hw : w < 20) : Fo_costOf (nI p) (nI w) D E = some (some (.inl (cst D p w)), D, E) := by
  rw [e_Fo_costOf]
  refine (z0 (fun k => Fo_costOf_8 (nI p) (nI w) (nI (gm (gv D p w) k)) (nI (nS (gv D p w) k)) (nI k) D E) 4 (fun k hk => ?_)).trans ?_
  · show Fo_costOf_8 _ _ _ _ _ _ _ = Fo_costOf_8 _ _ _ _ _ _ _
    obtain ⟨h1, h2, -⟩ := gv_x hG hp hw hk
    have h3 : gm (gv D p w) k ≤ 99 := gm_le (fun j hj => (gv_x hG hp hw (by omega)).1)
    rw [e_Fo_costOf_8, gm, nS]
    simp (disch := omega) only [sC, sN, sN0, sLL, sTT, sEE, sM1, sF, sGt, sLe, sLt, sNe, or_false, or_true, false_or, true_or, or_self, if_true, if_false, not_true_eq_false, not_false_eq_true, B1s, B0s, B2s, cl4, cn4, ct4, cu4, ce4, cf4, e_Fo_indexOf, cm20, cm4, nI_add, h2, ca1]
    by_cases h4 : gm (gv D p w) k < gv D p w k
    · rw [if_pos h4, if_pos h4]
    · rw [if_neg h4, if_neg h4]
  · show Fo_costOf_8 _ _ _ _ _ _ _ = _
    rw [e_Fo_costOf_8, if_pos (by decide)]
    simp only [cm1000, nI_add]
    rfl
theorem L_agree (x : Int32) (D : pD) (E : pDL) (h : Inv D) : Same D E (Hb_agree x) (Mo_agree x) := by
  have hh := h
  obtain ⟨cN, cW, cP, cT, cH, hT, hF, hB, hN, hK, hG, hY, hL⟩ := h
  obtain ⟨⟨⟨n1, n2, n3, n4, n5⟩, ⟨a1, a2, a3, a4, a5⟩, ⟨b1, b2, b3, b4, b5⟩⟩, hS, hW, hGS, r1, r2, r3, r4, r5, r6⟩ := id hB
  rcases ixc x (n := cP) (by omega) with hx | ⟨p, hp, rfl⟩
  · exact Same.ro (v := -2) hh (by rw [e_Hb_agree, has2_n D E a3 hx, B1s, if_pos rfl]) (by rw [e_Mo_agree, is2_n D E b3 (by omega) hx, B1s, if_pos rfl])
  · have hp24 : p < 24 := by omega
    refine Same.ro (v := (tl (cst D p) cW).1) hh ?_ ?_
    · rw [e_Hb_agree, has2_y D E a3 hp (by omega), B1s, if_neg (by decide), a2, e_Fo_agreed]
      have key : Fo_agreed_8 (nI p) (nI cW) (-1) 0 0 D E = some (some (.inl (tl (cst D p) cW).1), D, E) := by
        refine (z0 (fun k => Fo_agreed_8 (nI p) (nI cW) (tl (cst D p) k).1 (tl (cst D p) k).2 (nI k) D E) cW (fun k hk => ?_)).trans ?_
        · show Fo_agreed_8 _ _ _ _ _ _ _ = Fo_agreed_8 _ _ _ _ _ _ _
          rw [e_Fo_agreed_8, tl]
          simp (disch := omega) only [sC, sN, sN0, sLL, sTT, sEE, sM1, sF, sGt, sLe, sLt, sNe, or_false, or_true, false_or, true_or, or_self, if_true, if_false, not_true_eq_false, not_false_eq_true, B1s, B0s, B2s, X_cost hG hp24 (show k < 20 by omega), ca1]
          by_cases h0 : (tl (cst D p) k).1 = -1
          · rw [if_pos h0, if_pos h0]
          · rw [if_neg h0, if_neg h0]
            by_cases h1 : cst D p k < (tl (cst D p) k).2
            · rw [if_pos h1, if_neg (by rw [iNL]; exact fun q => q h1)]
            · rw [if_neg h1, if_pos (by rw [iNL]; exact h1)]
        · show Fo_agreed_8 _ _ _ _ _ _ _ = _
          rw [e_Fo_agreed_8, if_pos (nI_le (Nat.le_refl _) (by omega))]
      rw [key, B1s]
    · rw [e_Mo_agree, is2_y D E b3 (by omega) hp, B1s, if_neg (by decide)]
      refine (z0 (fun k => Mo_agree_18 (nI p) (tl (cst D p) k).1 (tl (cst D p) k).2 (nI k) D E) cW (fun k hk => ?_)).trans ?_
      · show Mo_agree_18 _ _ _ _ _ _ = Mo_agree_18 _ _ _ _ _ _
        have hk20 : k < 20 := by omega
        rw [e_Mo_agree_18, b2, if_neg (nI_ge hk (by omega)), tl]
        generalize (tl (cst D p) k) = q
        have hin : Mo_agree_38 (nI p) q.1 q.2 (nI k) 0 0 0 D E = Mo_agree_38 (nI p) q.1 q.2 (nI k) (nI (gm (gv D p k) 4)) (nI (nS (gv D p k) 4)) (nI 4) D E := by
          refine z0 (fun j => Mo_agree_38 (nI p) q.1 q.2 (nI k) (nI (gm (gv D p k) j)) (nI (nS (gv D p k) j)) (nI j) D E) 4 (fun j hj => ?_)
          show Mo_agree_38 _ _ _ _ _ _ _ _ _ = Mo_agree_38 _ _ _ _ _ _ _ _ _
          obtain ⟨h1, -, h2⟩ := gv_x hG hp24 hk20 hj
          have h3 : gm (gv D p k) j ≤ 99 := gm_le (fun i hi => (gv_x hG hp24 hk20 (by omega)).1)
          rw [e_Mo_agree_38, gm, nS]
          simp (disch := omega) only [sC, sN, sN0, sLL, sTT, sEE, sM1, sF, sGt, sLe, sLt, sNe, or_false, or_true, false_or, true_or, or_self, if_true, if_false, not_true_eq_false, not_false_eq_true, B1s, B0s, B2s, cl4, cn4, ct4, cu4, ce4, cf4, e_Mo_cellOf, cm20, cm24, nI_add, h2, ca1]
          by_cases h4 : gm (gv D p k) j < gv D p k j
          · rw [if_pos h4, if_neg (by omega)]
          · rw [if_neg h4, if_pos (by omega)]
        rw [hin, e_Mo_agree_38, if_pos (by decide)]
        simp only [cw1000, nI_add, ca1]
        by_cases h0 : q.1 = -1
        · rw [if_pos h0, if_pos h0]
          rfl
        · rw [if_neg h0, if_neg h0]
          by_cases h1 : cst D p k < q.2
          · rw [if_pos h1]
            exact if_pos h1
          · rw [if_neg h1]
            exact if_neg h1
      · show Mo_agree_18 _ _ _ _ _ _ = _
        rw [e_Mo_agree_18, b2, if_pos (nI_le (Nat.le_refl _) (by omega))]
/-- swap -/
def oS (f : Nat → Int32) : Nat → Int32
  | 0 => 0
  | n + 1 => oS f n ||| f n
theorem L_swap (x : Int32) (D : pD) (E : pDL) (h : Inv D) : Same D E (Hb_swap x) (Mo_swap x) := by
  have hh := h
  obtain ⟨cN, cW, cP, cT, cH, hT, hF, hB, hN, hK, hG, hY, hL⟩ := h
  obtain ⟨⟨⟨n1, n2, n3, n4, n5⟩, ⟨a1, a2, a3, a4, a5⟩, ⟨b1, b2, b3, b4, b5⟩⟩, hS, hW, hGS, r1, r2, r3, r4, r5, r6⟩ := id hB
  rcases ixc x (n := cN) (by omega) with hx | ⟨n, hn, rfl⟩
  · exact Same.ro (v := -2) hh (by rw [e_Hb_swap, has0_n D E a1 hx, B1s, if_pos rfl]) (by rw [e_Mo_swap, is0_n D E b1 (by omega) hx, B1s, if_pos rfl])
  · have fin : ∀ (s : Int32) (m k : Nat), k + m = cW → ∃ v, Bk_wordForAll_41 s (nI k) D E = some (some (.inl v), D, E) ∧ Mo_swap_56 s (nI k) D E = some (some (.inl v), D, E) := by
      intro s m
      induction m with
      | zero =>
        intro k hk
        obtain rfl : k = cW := by omega
        exact ⟨-1, by rw [e_Bk_wordForAll_41, a2, if_pos (nI_le (Nat.le_refl _) (by omega))], by rw [e_Mo_swap_56, b2, if_pos (nI_le (Nat.le_refl _) (by omega))]⟩
      | succ m ih =>
        intro k hk
        by_cases h0 : s &&& (D 9 0 k ^^^ (-1)) = 0
        · refine ⟨nI k, ?_, ?_⟩
          · rw [e_Bk_wordForAll_41]
            simp (disch := omega) only [sC, sN, sN0, sLL, sTT, sEE, sM1, sF, sGt, sLe, sLt, sNe, or_false, or_true, false_or, true_or, or_self, if_true, if_false, not_true_eq_false, not_false_eq_true, B1s, B0s, B2s, a2, h0]
          · rw [e_Mo_swap_56]
            simp (disch := omega) only [sC, sN, sN0, sLL, sTT, sEE, sM1, sF, sGt, sLe, sLt, sNe, or_false, or_true, false_or, true_or, or_self, if_true, if_false, not_true_eq_false, not_false_eq_true, B1s, B0s, B2s, b2, r2 k (by omega), h0]
        · obtain ⟨v, e1, e2⟩ := ih (k + 1) (by omega)
          refine ⟨v, ?_, ?_⟩
          · rw [e_Bk_wordForAll_41]
            simp (disch := omega) only [sC, sN, sN0, sLL, sTT, sEE, sM1, sF, sGt, sLe, sLt, sNe, or_false, or_true, false_or, true_or, or_self, if_true, if_false, not_true_eq_false, not_false_eq_true, B1s, B0s, B2s, a2, h0, ca1, e1]
          · rw [e_Mo_swap_56]
            simp (disch := omega) only [sC, sN, sN0, sLL, sTT, sEE, sM1, sF, sGt, sLe, sLt, sNe, or_false, or_true, false_or, true_or, or_self, if_true, if_false, not_true_eq_false, not_false_eq_true, B1s, B0s, B2s, b2, r2 k (by omega), h0, ca1, e2]
    obtain ⟨v, e1, e2⟩ := fin (oS (fun p => if D 10 0 p = nI n then D 11 0 p else 0) cP) cW 0 (by omega)
    refine Same.ro (v := v) hh ?_ ?_
    · rw [e_Hb_swap, has0_y D E a1 hn (by omega), B1s, if_neg (by decide), e_Bk_wordForAll]
      have key : Bk_wordForAll_4 (nI n) 0 0 D E = some (some (.inl v), D, E) := by
        refine (z0 (fun k => Bk_wordForAll_4 (nI n) (oS (fun p => if D 10 0 p = nI n then D 11 0 p else 0) k) (nI k) D E) cP (fun k hk => ?_)).trans ?_
        · show Bk_wordForAll_4 _ _ _ _ _ = Bk_wordForAll_4 _ _ _ _ _
          rw [e_Bk_wordForAll_4, oS]
          by_cases h0 : D 10 0 k = nI n
          · simp (disch := omega) only [sC, sN, sN0, sLL, sTT, sEE, sM1, sF, sGt, sLe, sLt, sNe, or_false, or_true, false_or, true_or, or_self, if_true, if_false, not_true_eq_false, not_false_eq_true, B1s, B0s, B2s, a3, h0, ca1]
          · simp (disch := omega) only [sC, sN, sN0, sLL, sTT, sEE, sM1, sF, sGt, sLe, sLt, sNe, or_false, or_true, false_or, true_or, or_self, if_true, if_false, not_true_eq_false, not_false_eq_true, B1s, B0s, B2s, a3, h0, ca1, or_0]
        · show Bk_wordForAll_4 _ _ _ _ _ = _
          rw [e_Bk_wordForAll_4, a3, if_pos (nI_le (Nat.le_refl _) (by omega))]
          exact e1
      rw [key, B1s]
    · rw [e_Mo_swap, is0_y D E b1 (by omega) hn, B1s, if_neg (by decide)]
      refine (z0 (fun k => Mo_swap_15 (nI n) (oS (fun p => if D 10 0 p = nI n then D 11 0 p else 0) k) (nI k) D E) cP (fun k hk => ?_)).trans ?_
      · show Mo_swap_15 _ _ _ _ _ = Mo_swap_15 _ _ _ _ _
        rw [e_Mo_swap_15, oS]
        by_cases h0 : D 10 0 k = nI n
        · simp (disch := omega) only [sC, sN, sN0, sLL, sTT, sEE, sM1, sF, sGt, sLe, sLt, sNe, or_false, or_true, false_or, true_or, or_self, if_true, if_false, not_true_eq_false, not_false_eq_true, B1s, B0s, B2s, b3, (r4 k hk).1, (r4 k hk).2.2, h0, ca1]
        · simp (disch := omega) only [sC, sN, sN0, sLL, sTT, sEE, sM1, sF, sGt, sLe, sLt, sNe, or_false, or_true, false_or, true_or, or_self, if_true, if_false, not_true_eq_false, not_false_eq_true, B1s, B0s, B2s, b3, (r4 k hk).1, h0, ca1]
      · show Mo_swap_15 _ _ _ _ _ = _
        rw [e_Mo_swap_15, b3, if_pos (nI_le (Nat.le_refl _) (by omega))]
        exact e2
