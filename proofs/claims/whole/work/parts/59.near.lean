/-! HOW MUCH IS LOST AT MOST; nearer -/
theorem lT_n {D : pD} (hS : iSet D) (hW : iWts D) (be no nt x : Int32) : ∃ m : Nat, m ≤ 42768 ∧ lT (D 5 0 0) (D 5 0 1) (D 6 0) be no nt x = nI m := by
  obtain ⟨u, hu, e1⟩ := wS_n hW (be &&& (x ^^^ (-1)) &&& (nt ^^^ (-1)))
  obtain ⟨v, hv, e2⟩ := wS_n hW (x &&& (no ^^^ (-1)))
  obtain ⟨l, hl, e3, -⟩ := hS 0 (by omega)
  obtain ⟨a, ha, e4, -⟩ := hS 1 (by omega)
  unfold lT
  rw [e1, e2, e3, e4, pk_mul, pk_mul, nI_add]
  exact ⟨_, by have := mul_b hl hu; have := mul_b ha hv; omega, rfl⟩
theorem lA_n {D : pD} (hS : iSet D) (hW : iWts D) (be no nt x kd b c : Int32) : ∃ m : Nat, m ≤ 43065 ∧ lA (D 5 0 0) (D 5 0 1) (D 5 0 3) (D 5 0 2) (D 6 0) be no nt x kd b c = nI m := by
  obtain ⟨m, hm, e⟩ := lT_n hS hW be no nt x
  obtain ⟨l, hl, e3, -⟩ := hS 3 (by omega)
  obtain ⟨a, ha, e4, -⟩ := hS 2 (by omega)
  have hbh : ∃ q : Nat, q ≤ 2 ∧ (if b = -1 then (0 : Int32) else 1) + (if c = -1 then (0 : Int32) else 1) = nI q := by
    by_cases h1 : b = -1 <;> by_cases h2 : c = -1
    · exact ⟨0, by omega, by rw [if_pos h1, if_pos h2]; decide⟩
    · exact ⟨1, by omega, by rw [if_pos h1, if_neg h2]; decide⟩
    · exact ⟨1, by omega, by rw [if_neg h1, if_pos h2]; decide⟩
    · exact ⟨2, by omega, by rw [if_neg h1, if_neg h2]; decide⟩
  obtain ⟨q, hq, eq⟩ := hbh
  unfold lA
  by_cases hk : kd = -1
  · exact ⟨0, by omega, by rw [if_pos hk]; rfl⟩
  · rw [if_neg hk, e, eq, e3, e4, pk_mul, nI_add]
    have := mul_b hq hl
    by_cases h3 : kd = 3
    · rw [if_pos h3, nI_add]
      exact ⟨_, by omega, rfl⟩
    · rw [if_neg h3, Int32.add_zero]
      exact ⟨_, by omega, rfl⟩
theorem iS_n {f : Nat → Int32} {b : Nat} : ∀ {n : Nat}, (∀ k, k < n → ∃ m : Nat, m ≤ b ∧ f k = nI m) → ∃ m : Nat, m ≤ n * b ∧ iS f n = nI m
  | 0, _ => ⟨0, by omega, rfl⟩
  | n + 1, h => by
    obtain ⟨m, hm, e⟩ := iS_n (n := n) (fun k hk => h k (by omega))
    obtain ⟨q, hq, e2⟩ := h n (by omega)
    refine ⟨m + q, ?_, by rw [iS, e, e2, nI_add]⟩
    rw [Nat.succ_mul]
    omega
theorem sub0 {a b : Nat} (ha : a < 1073741824) (hb : b < 1073741824) : (nI a - nI b = 0) = (a = b) := by
  apply propext
  constructor
  · intro h
    have := Int32.sub_eq_iff_eq_add.mp h
    rw [Int32.zero_add] at this
    exact (iE (by omega) (by omega)).mp this
  · rintro rfl
    exact Int32.sub_self _
theorem subL {a b : Nat} (ha : a < 1073741824) (hb : b < 1073741824) : (nI a - nI b ≤ 0) = (a ≤ b) := by
  apply propext
  have e : (nI a - nI b).toInt = (a : Int) - b := by
    rw [Int32.toInt_sub, nI_toInt (by omega), nI_toInt (by omega), Int.bmod_eq_of_le (by omega) (by omega)]
  rw [Int32.le_iff_toInt_le, e]
  have : (0 : Int32).toInt = 0 := rfl
  omega
/-- RIGHT, by any rendering -/
def rgR (D : pD) (cN : Nat) (k a b c n : Nat → Int32) (i p : Nat) : Int32 := if k p = -1 then 0 else if tbk D cN ((tA (D 9 0) (a p) (b p) (c p) ||| n p) &&& D 15 0 i) = D 10 0 p then 1 else 0
/-- LOST, by any rendering -/
def lsR (D : pD) (k a b c n : Nat → Int32) (p : Nat) : Int32 := lA (D 5 0 0) (D 5 0 1) (D 5 0 3) (D 5 0 2) (D 6 0) (D 11 0 p) (D 8 0 (pN D p)) (n p) (tA (D 9 0) (a p) (b p) (c p)) (k p) (b p) (c p)
theorem tb_ko {ks : List Nat} {D D' : pD} (hk : Ko ks D D') (hs : ∀ k ∈ [6, 8], k ∉ ks) (cN : Nat) (x : Int32) : tbk D' cN x = tbk D cN x := by
  have e := hk.at hs
  unfold tbk scX
  rw [e 6 (by decide), e 8 (by decide)]
theorem rgR_n (D : pD) (cN : Nat) (k a b c n : Nat → Int32) (i p : Nat) : ∃ m : Nat, m ≤ 1 ∧ rgR D cN k a b c n i p = nI m := by
  unfold rgR
  split
  · exact ⟨0, by omega, rfl⟩
  · split
    · exact ⟨1, by omega, rfl⟩
    · exact ⟨0, by omega, rfl⟩
theorem rgR_ko {ks : List Nat} {D D' : pD} (hk : Ko ks D D') (hs : ∀ k ∈ [6, 8, 9, 10, 15], k ∉ ks) (cN : Nat) (k a b c n : Nat → Int32) (i p : Nat) : rgR D' cN k a b c n i p = rgR D cN k a b c n i p := by
  have e := hk.at hs
  unfold rgR
  rw [e 9 (by decide), e 10 (by decide), e 15 (by decide)]
  rw [tb_ko hk (fun k hk => hs k (by revert k; decide))]
theorem lsR_ko {ks : List Nat} {D D' : pD} (hk : Ko ks D D') (hs : ∀ k ∈ [5, 6, 8, 9, 10, 11], k ∉ ks) (k a b c n : Nat → Int32) (p : Nat) : lsR D' k a b c n p = lsR D k a b c n p := by
  have e := hk.at hs
  unfold lsR pN
  rw [e 5 (by decide), e 6 (by decide), e 8 (by decide), e 9 (by decide), e 10 (by decide), e 11 (by decide)]
theorem rgR_cong {D : pD} {cN : Nat} {k a b c n k' a' b' c' n' : Nat → Int32} {i p : Nat} (h : k' p = k p ∧ a' p = a p ∧ b' p = b p ∧ c' p = c p ∧ n' p = n p) : rgR D cN k' a' b' c' n' i p = rgR D cN k a b c n i p := by
  unfold rgR
  rw [h.1, h.2.1, h.2.2.1, h.2.2.2.1, h.2.2.2.2]
theorem lsR_cong {D : pD} {k a b c n k' a' b' c' n' : Nat → Int32} {p : Nat} (h : k' p = k p ∧ a' p = a p ∧ b' p = b p ∧ c' p = c p ∧ n' p = n p) : lsR D k' a' b' c' n' p = lsR D k a b c n p := by
  unfold lsR
  rw [h.1, h.2.1, h.2.2.1, h.2.2.2.1, h.2.2.2.2]
/-- what the reference finds of a rendering that it has laid: f says of the class's cells which one -/
theorem M_of {cN cW cP cT cH : Nat} {D Dm : pD} {E : pDL} (hB : iBook cN cW cP cT cH D) (hY : iYears cW D) {ks : List Nat} (hk : Ko ks D Dm) (hs : ∀ k ∈ [100, 102, 105, 106, 107, 108, 109, 110, 111, 112, 113, 114, 132, 133, 134], k ∉ ks) {k a b c n : Nat → Int32} (hR : iRen cW cP k a b c n (Dm 115 0) (Dm 116 0) (Dm 117 0) (Dm 118 0) (Dm 119 0)) {i : Nat} (hi : i < cH) :
    Mo_hitsOf (nI i) Dm E = some (some (.inl (iS (rgR D cN k a b c n i) cP)), Dm, E) ∧ Mo_lostAll (-1) Dm E = some (some (.inl (iS (lsR D k a b c n) cP)), Dm, E) := by
  let DD : pD := fun q => if q = 43 then (fun j => if j = 0 then k else D 43 j) else if q = 44 then (fun j => if j = 0 then a else D 44 j) else if q = 45 then (fun j => if j = 0 then b else D 45 j) else if q = 46 then (fun j => if j = 0 then c else D 46 j) else if q = 47 then (fun j => if j = 0 then n else D 47 j) else if q < 100 then D q else Dm q
  have d1 : Ko (43 :: 44 :: 45 :: 46 :: 47 :: ks) D DD := by
    intro q hq
    simp only [List.mem_cons, not_or] at hq
    show (if q = 43 then _ else _) = _
    rw [if_neg hq.1, if_neg hq.2.1, if_neg hq.2.2.1, if_neg hq.2.2.2.1, if_neg hq.2.2.2.2.1]
    split
    · rfl
    · exact hk q hq.2.2.2.2.2
  have dm : ∀ q, 100 ≤ q → Dm q = DD q := by
    intro q hq
    show _ = (if q = 43 then _ else _)
    rw [if_neg (by omega), if_neg (by omega), if_neg (by omega), if_neg (by omega), if_neg (by omega), if_neg (by omega)]
  have hs1 : ∀ k ∈ [102, 105, 106, 107, 108, 109, 110, 111, 112, 113, 114, 100, 132, 133, 134], k ∉ ks := fun k q => hs k (by revert k; decide)
  have hx : ∀ q, q < 100 → (q = 43 ∨ q = 44 ∨ q = 45 ∨ q = 46 ∨ q = 47) ∨ DD q = D q := by
    intro q hq
    by_cases z : q = 43 ∨ q = 44 ∨ q = 45 ∨ q = 46 ∨ q = 47
    · exact Or.inl z
    · right
      show (if q = 43 then _ else _) = _
      rw [if_neg (by omega), if_neg (by omega), if_neg (by omega), if_neg (by omega), if_neg (by omega), if_pos hq]
  have hmm : ∀ q, 100 ≤ q → q ∉ ks → DD q = D q := fun q h1 h2 => (dm q h1).symm.trans (hk q h2)
  have eB : ∀ q ∈ [4, 5, 6, 7, 8, 9, 10, 11, 12, 13, 14, 15, 16, 102, 105, 106, 107, 108, 109, 110, 111, 112, 113, 114], DD q 0 = D q 0 := by
    intro q hq
    by_cases z : q < 100
    · rcases hx q z with w | w
      · exact absurd w (by revert hq; simp; omega)
      · rw [w]
    · rw [hmm q (by omega) (hs q (by revert hq; simp; omega))]
  have hB' : iBook cN cW cP cT cH DD := hB.fr eB
  have hY' : iYears cW DD := hY.fr (fun q hq => by
    by_cases z : q < 100
    · rcases hx q z with w | w
      · exact absurd w (by revert hq; simp; omega)
      · rw [w]
    · rw [hmm q (by omega) (hs q (by revert hq; simp; omega))]) (by rcases hx 59 (by omega) with w | w; exact absurd w (by omega); rw [w]) (by rw [hmm 100 (by omega) (hs 100 (by decide))])
  have hN' : iNow cW cP DD := by
    show iRen cW cP k a b c n (DD 115 0) (DD 116 0) (DD 117 0) (DD 118 0) (DD 119 0)
    rw [← dm 115 (by omega), ← dm 116 (by omega), ← dm 117 (by omega), ← dm 118 (by omega), ← dm 119 (by omega)]
    exact hR
  have a1 := M_ro (f := Mo_hitsOf (nI i)) ⟨_, _, _, _, by repeat first | exact okL_nil | refine okL_n ?_ | refine okL_i ?_ | refine okL_r (by decide) ?_, fun _ _ => rfl⟩ (M_hits (E := E) hB' hN' hY' hi) (D' := Dm) (fun q h1 _ => dm q h1)
  have a2 := M_ro (f := Mo_lostAll (-1)) ⟨_, _, _, _, by repeat first | exact okL_nil | refine okL_n ?_ | refine okL_i ?_ | refine okL_r (by decide) ?_, fun _ _ => rfl⟩ (M_lost (E := E) hB' hN' hY') (D' := Dm) (fun q h1 _ => dm q h1)
  rw [a1, a2]
  have ec : ∀ q ∈ [5, 6, 8, 9, 10, 11, 15], DD q 0 = D q 0 := fun q hq => eB q (by revert hq; revert q; decide)
  have c1 : rgt DD cN i = rgR D cN k a b c n i := by
    funext p
    show (if k p = -1 then (0 : Int32) else if tbk DD cN ((tA (DD 9 0) (a p) (b p) (c p) ||| n p) &&& DD 15 0 i) = DD 10 0 p then 1 else 0) = _
    unfold rgR tbk scX
    rw [ec 9 (by decide), ec 15 (by decide), ec 10 (by decide), ec 6 (by decide), ec 8 (by decide)]
  have c2 : Rn_lostAt_held_wordTraits_v DD = lsR D k a b c n := by
    funext p
    show lA (DD 5 0 0) (DD 5 0 1) (DD 5 0 3) (DD 5 0 2) (DD 6 0) (DD 11 0 p) (DD 8 0 (DD 10 0 p).toNatClampNeg) (n p) (tA (DD 9 0) (a p) (b p) (c p)) (k p) (b p) (c p) = _
    unfold lsR pN
    rw [ec 5 (by decide), ec 6 (by decide), ec 11 (by decide), ec 8 (by decide), ec 10 (by decide), ec 9 (by decide)]
  rw [c1, c2]
  exact ⟨rfl, rfl⟩
theorem X_hrd0 {i p : Nat} (hi : i < 6) (hp : p < 24) (D : pD) (E : pDL) : Rn_heardAt_k0 (nI i) (nI p) D E = some (some (.inl ((tA (D 9 0) (D 78 0 p) (D 79 0 p) (D 80 0 p) ||| D 81 0 p) &&& D 15 0 i)), D, E) := by
  rw [e_Rn_heardAt_k0, Rn_traitsAt_k0_held_wordTraits_spec hp]
  simp (disch := omega) only [sC, sN, sN0, sLL, sTT, sEE, sM1, sF, sGt, sLe, sLt, sNe, or_false, or_true, false_or, true_or, or_self, if_true, if_false, not_true_eq_false, not_false_eq_true, B1s, B0s, B2s]
theorem X_hits0 {cN cW cP cT cH : Nat} {D : pD} {E : pDL} (h : iBook cN cW cP cT cH D) {i : Nat} (hi : i < cH) : Rn_rightOf_k0 (nI i) D E = some (some (.inl (iS (rgR D cN (D 77 0) (D 78 0) (D 79 0) (D 80 0) (D 81 0) i) cP)), D, E) := by
  obtain ⟨⟨⟨n1, n2, n3, n4, n5⟩, ⟨a1, a2, a3, a4, a5⟩, ⟨b1, b2, b3, b4, b5⟩⟩, hS, hW, hGS, r1, r2, r3, r4, r5, r6⟩ := id h
  rw [e_Rn_rightOf_k0]
  refine (z0 (fun k => Rn_rightOf_k0_4 (nI i) (iS (rgR D cN (D 77 0) (D 78 0) (D 79 0) (D 80 0) (D 81 0) i) k) (nI k) D E) cP (fun k hk => ?_)).trans ?_
  · show Rn_rightOf_k0_4 _ _ _ _ _ = Rn_rightOf_k0_4 _ _ _ _ _
    have hk24 : k < 24 := by omega
    have hi6 : i < 6 := by omega
    rw [e_Rn_rightOf_k0_4, iS]
    by_cases h0 : D 77 0 k = -1
    · have e : rgR D cN (D 77 0) (D 78 0) (D 79 0) (D 80 0) (D 81 0) i k = 0 := if_pos h0
      simp (disch := omega) only [sC, sN, sN0, sLL, sTT, sEE, sM1, sF, sGt, sLe, sLt, sNe, or_false, or_true, false_or, true_or, or_self, if_true, if_false, not_true_eq_false, not_false_eq_true, B1s, B0s, B2s, a3, Rn_isChosen_k0_spec hk24, h0, ca1, e, Int32.add_zero]
    · by_cases h1 : tbk D cN ((tA (D 9 0) (D 78 0 k) (D 79 0 k) (D 80 0 k) ||| D 81 0 k) &&& D 15 0 i) = D 10 0 k
      · have e : rgR D cN (D 77 0) (D 78 0) (D 79 0) (D 80 0) (D 81 0) i k = 1 := (if_neg h0).trans (if_pos h1)
        simp (disch := omega) only [sC, sN, sN0, sLL, sTT, sEE, sM1, sF, sGt, sLe, sLt, sNe, or_false, or_true, false_or, true_or, or_self, if_true, if_false, not_true_eq_false, not_false_eq_true, B1s, B0s, B2s, a3, Rn_isChosen_k0_spec hk24, h0, h10, ca1, e, X_hrd0 hi6 hk24, X_back n1 _ D E hGS a1, h1]
      · have e : rgR D cN (D 77 0) (D 78 0) (D 79 0) (D 80 0) (D 81 0) i k = 0 := (if_neg h0).trans (if_neg h1)
        simp (disch := omega) only [sC, sN, sN0, sLL, sTT, sEE, sM1, sF, sGt, sLe, sLt, sNe, or_false, or_true, false_or, true_or, or_self, if_true, if_false, not_true_eq_false, not_false_eq_true, B1s, B0s, B2s, a3, Rn_isChosen_k0_spec hk24, h0, h10, ca1, e, X_hrd0 hi6 hk24, X_back n1 _ D E hGS a1, h1, Int32.add_zero]
  · show Rn_rightOf_k0_4 _ _ _ _ _ = _
    rw [e_Rn_rightOf_k0_4, a3, if_pos (nI_le (Nat.le_refl _) (by omega))]
theorem X_hrd1 {i p : Nat} (hi : i < 6) (hp : p < 24) (D : pD) (E : pDL) : Rn_heardAt_k1 (nI i) (nI p) D E = some (some (.inl ((tA (D 9 0) (D 84 0 p) (D 85 0 p) (D 86 0 p) ||| D 87 0 p) &&& D 15 0 i)), D, E) := by
  rw [e_Rn_heardAt_k1, Rn_traitsAt_k1_held_wordTraits_spec hp]
  simp (disch := omega) only [sC, sN, sN0, sLL, sTT, sEE, sM1, sF, sGt, sLe, sLt, sNe, or_false, or_true, false_or, true_or, or_self, if_true, if_false, not_true_eq_false, not_false_eq_true, B1s, B0s, B2s]
theorem X_hits1 {cN cW cP cT cH : Nat} {D : pD} {E : pDL} (h : iBook cN cW cP cT cH D) {i : Nat} (hi : i < cH) : Rn_rightOf_k1 (nI i) D E = some (some (.inl (iS (rgR D cN (D 83 0) (D 84 0) (D 85 0) (D 86 0) (D 87 0) i) cP)), D, E) := by
  obtain ⟨⟨⟨n1, n2, n3, n4, n5⟩, ⟨a1, a2, a3, a4, a5⟩, ⟨b1, b2, b3, b4, b5⟩⟩, hS, hW, hGS, r1, r2, r3, r4, r5, r6⟩ := id h
  rw [e_Rn_rightOf_k1]
  refine (z0 (fun k => Rn_rightOf_k1_4 (nI i) (iS (rgR D cN (D 83 0) (D 84 0) (D 85 0) (D 86 0) (D 87 0) i) k) (nI k) D E) cP (fun k hk => ?_)).trans ?_
  · show Rn_rightOf_k1_4 _ _ _ _ _ = Rn_rightOf_k1_4 _ _ _ _ _
    have hk24 : k < 24 := by omega
    have hi6 : i < 6 := by omega
    rw [e_Rn_rightOf_k1_4, iS]
    by_cases h0 : D 83 0 k = -1
    · have e : rgR D cN (D 83 0) (D 84 0) (D 85 0) (D 86 0) (D 87 0) i k = 0 := if_pos h0
      simp (disch := omega) only [sC, sN, sN0, sLL, sTT, sEE, sM1, sF, sGt, sLe, sLt, sNe, or_false, or_true, false_or, true_or, or_self, if_true, if_false, not_true_eq_false, not_false_eq_true, B1s, B0s, B2s, a3, Rn_isChosen_k1_spec hk24, h0, ca1, e, Int32.add_zero]
    · by_cases h1 : tbk D cN ((tA (D 9 0) (D 84 0 k) (D 85 0 k) (D 86 0 k) ||| D 87 0 k) &&& D 15 0 i) = D 10 0 k
      · have e : rgR D cN (D 83 0) (D 84 0) (D 85 0) (D 86 0) (D 87 0) i k = 1 := (if_neg h0).trans (if_pos h1)
        simp (disch := omega) only [sC, sN, sN0, sLL, sTT, sEE, sM1, sF, sGt, sLe, sLt, sNe, or_false, or_true, false_or, true_or, or_self, if_true, if_false, not_true_eq_false, not_false_eq_true, B1s, B0s, B2s, a3, Rn_isChosen_k1_spec hk24, h0, h10, ca1, e, X_hrd1 hi6 hk24, X_back n1 _ D E hGS a1, h1]
      · have e : rgR D cN (D 83 0) (D 84 0) (D 85 0) (D 86 0) (D 87 0) i k = 0 := (if_neg h0).trans (if_neg h1)
        simp (disch := omega) only [sC, sN, sN0, sLL, sTT, sEE, sM1, sF, sGt, sLe, sLt, sNe, or_false, or_true, false_or, true_or, or_self, if_true, if_false, not_true_eq_false, not_false_eq_true, B1s, B0s, B2s, a3, Rn_isChosen_k1_spec hk24, h0, h10, ca1, e, X_hrd1 hi6 hk24, X_back n1 _ D E hGS a1, h1, Int32.add_zero]
  · show Rn_rightOf_k1_4 _ _ _ _ _ = _
    rw [e_Rn_rightOf_k1_4, a3, if_pos (nI_le (Nat.le_refl _) (by omega))]
theorem X_hrd2 {i p : Nat} (hi : i < 6) (hp : p < 24) (D : pD) (E : pDL) : Rn_heardAt_k2 (nI i) (nI p) D E = some (some (.inl ((tA (D 9 0) (D 90 0 p) (D 91 0 p) (D 92 0 p) ||| D 93 0 p) &&& D 15 0 i)), D, E) := by
  rw [e_Rn_heardAt_k2, Rn_traitsAt_k2_held_wordTraits_spec hp]
  simp (disch := omega) only [sC, sN, sN0, sLL, sTT, sEE, sM1, sF, sGt, sLe, sLt, sNe, or_false, or_true, false_or, true_or, or_self, if_true, if_false, not_true_eq_false, not_false_eq_true, B1s, B0s, B2s]
theorem X_hits2 {cN cW cP cT cH : Nat} {D : pD} {E : pDL} (h : iBook cN cW cP cT cH D) {i : Nat} (hi : i < cH) : Rn_rightOf_k2 (nI i) D E = some (some (.inl (iS (rgR D cN (D 89 0) (D 90 0) (D 91 0) (D 92 0) (D 93 0) i) cP)), D, E) := by
  obtain ⟨⟨⟨n1, n2, n3, n4, n5⟩, ⟨a1, a2, a3, a4, a5⟩, ⟨b1, b2, b3, b4, b5⟩⟩, hS, hW, hGS, r1, r2, r3, r4, r5, r6⟩ := id h
  rw [e_Rn_rightOf_k2]
  refine (z0 (fun k => Rn_rightOf_k2_4 (nI i) (iS (rgR D cN (D 89 0) (D 90 0) (D 91 0) (D 92 0) (D 93 0) i) k) (nI k) D E) cP (fun k hk => ?_)).trans ?_
  · show Rn_rightOf_k2_4 _ _ _ _ _ = Rn_rightOf_k2_4 _ _ _ _ _
    have hk24 : k < 24 := by omega
    have hi6 : i < 6 := by omega
    rw [e_Rn_rightOf_k2_4, iS]
    by_cases h0 : D 89 0 k = -1
    · have e : rgR D cN (D 89 0) (D 90 0) (D 91 0) (D 92 0) (D 93 0) i k = 0 := if_pos h0
      simp (disch := omega) only [sC, sN, sN0, sLL, sTT, sEE, sM1, sF, sGt, sLe, sLt, sNe, or_false, or_true, false_or, true_or, or_self, if_true, if_false, not_true_eq_false, not_false_eq_true, B1s, B0s, B2s, a3, Rn_isChosen_k2_spec hk24, h0, ca1, e, Int32.add_zero]
    · by_cases h1 : tbk D cN ((tA (D 9 0) (D 90 0 k) (D 91 0 k) (D 92 0 k) ||| D 93 0 k) &&& D 15 0 i) = D 10 0 k
      · have e : rgR D cN (D 89 0) (D 90 0) (D 91 0) (D 92 0) (D 93 0) i k = 1 := (if_neg h0).trans (if_pos h1)
        simp (disch := omega) only [sC, sN, sN0, sLL, sTT, sEE, sM1, sF, sGt, sLe, sLt, sNe, or_false, or_true, false_or, true_or, or_self, if_true, if_false, not_true_eq_false, not_false_eq_true, B1s, B0s, B2s, a3, Rn_isChosen_k2_spec hk24, h0, h10, ca1, e, X_hrd2 hi6 hk24, X_back n1 _ D E hGS a1, h1]
      · have e : rgR D cN (D 89 0) (D 90 0) (D 91 0) (D 92 0) (D 93 0) i k = 0 := (if_neg h0).trans (if_neg h1)
        simp (disch := omega) only [sC, sN, sN0, sLL, sTT, sEE, sM1, sF, sGt, sLe, sLt, sNe, or_false, or_true, false_or, true_or, or_self, if_true, if_false, not_true_eq_false, not_false_eq_true, B1s, B0s, B2s, a3, Rn_isChosen_k2_spec hk24, h0, h10, ca1, e, X_hrd2 hi6 hk24, X_back n1 _ D E hGS a1, h1, Int32.add_zero]
  · show Rn_rightOf_k2_4 _ _ _ _ _ = _
    rw [e_Rn_rightOf_k2_4, a3, if_pos (nI_le (Nat.le_refl _) (by omega))]
theorem X_hrd3 {i p : Nat} (hi : i < 6) (hp : p < 24) (D : pD) (E : pDL) : Rn_heardAt_k3 (nI i) (nI p) D E = some (some (.inl ((tA (D 9 0) (D 96 0 p) (D 97 0 p) (D 98 0 p) ||| D 99 0 p) &&& D 15 0 i)), D, E) := by
  rw [e_Rn_heardAt_k3, Rn_traitsAt_k3_held_wordTraits_spec hp]
  simp (disch := omega) only [sC, sN, sN0, sLL, sTT, sEE, sM1, sF, sGt, sLe, sLt, sNe, or_false, or_true, false_or, true_or, or_self, if_true, if_false, not_true_eq_false, not_false_eq_true, B1s, B0s, B2s]
theorem X_hits3 {cN cW cP cT cH : Nat} {D : pD} {E : pDL} (h : iBook cN cW cP cT cH D) {i : Nat} (hi : i < cH) : Rn_rightOf_k3 (nI i) D E = some (some (.inl (iS (rgR D cN (D 95 0) (D 96 0) (D 97 0) (D 98 0) (D 99 0) i) cP)), D, E) := by
  obtain ⟨⟨⟨n1, n2, n3, n4, n5⟩, ⟨a1, a2, a3, a4, a5⟩, ⟨b1, b2, b3, b4, b5⟩⟩, hS, hW, hGS, r1, r2, r3, r4, r5, r6⟩ := id h
  rw [e_Rn_rightOf_k3]
  refine (z0 (fun k => Rn_rightOf_k3_4 (nI i) (iS (rgR D cN (D 95 0) (D 96 0) (D 97 0) (D 98 0) (D 99 0) i) k) (nI k) D E) cP (fun k hk => ?_)).trans ?_
  · show Rn_rightOf_k3_4 _ _ _ _ _ = Rn_rightOf_k3_4 _ _ _ _ _
    have hk24 : k < 24 := by omega
    have hi6 : i < 6 := by omega
    rw [e_Rn_rightOf_k3_4, iS]
    by_cases h0 : D 95 0 k = -1
    · have e : rgR D cN (D 95 0) (D 96 0) (D 97 0) (D 98 0) (D 99 0) i k = 0 := if_pos h0
      simp (disch := omega) only [sC, sN, sN0, sLL, sTT, sEE, sM1, sF, sGt, sLe, sLt, sNe, or_false, or_true, false_or, true_or, or_self, if_true, if_false, not_true_eq_false, not_false_eq_true, B1s, B0s, B2s, a3, Rn_isChosen_k3_spec hk24, h0, ca1, e, Int32.add_zero]
    · by_cases h1 : tbk D cN ((tA (D 9 0) (D 96 0 k) (D 97 0 k) (D 98 0 k) ||| D 99 0 k) &&& D 15 0 i) = D 10 0 k
      · have e : rgR D cN (D 95 0) (D 96 0) (D 97 0) (D 98 0) (D 99 0) i k = 1 := (if_neg h0).trans (if_pos h1)
        simp (disch := omega) only [sC, sN, sN0, sLL, sTT, sEE, sM1, sF, sGt, sLe, sLt, sNe, or_false, or_true, false_or, true_or, or_self, if_true, if_false, not_true_eq_false, not_false_eq_true, B1s, B0s, B2s, a3, Rn_isChosen_k3_spec hk24, h0, h10, ca1, e, X_hrd3 hi6 hk24, X_back n1 _ D E hGS a1, h1]
      · have e : rgR D cN (D 95 0) (D 96 0) (D 97 0) (D 98 0) (D 99 0) i k = 0 := (if_neg h0).trans (if_neg h1)
        simp (disch := omega) only [sC, sN, sN0, sLL, sTT, sEE, sM1, sF, sGt, sLe, sLt, sNe, or_false, or_true, false_or, true_or, or_self, if_true, if_false, not_true_eq_false, not_false_eq_true, B1s, B0s, B2s, a3, Rn_isChosen_k3_spec hk24, h0, h10, ca1, e, X_hrd3 hi6 hk24, X_back n1 _ D E hGS a1, h1, Int32.add_zero]
  · show Rn_rightOf_k3_4 _ _ _ _ _ = _
    rw [e_Rn_rightOf_k3_4, a3, if_pos (nI_le (Nat.le_refl _) (by omega))]
/-- the row j of the slot i -/
def kR (D : pD) (i j : Nat) : Nat → Int32 := D (76 + 6 * i + 1 + j) 0
def kH (D : pD) (cN cP i h : Nat) : Int32 := iS (rgR D cN (kR D i 0) (kR D i 1) (kR D i 2) (kR D i 3) (kR D i 4) h) cP
def kL (D : pD) (cP i : Nat) : Int32 := iS (lsR D (kR D i 0) (kR D i 1) (kR D i 2) (kR D i 3) (kR D i 4)) cP
theorem kept_at {cW cP : Nat} {D : pD} (hK : iKept cW cP D) {i : Nat} (hi : i < 4) : iSl cW cP (76 + 6 * i) i D := by
  have : i = 0 ∨ i = 1 ∨ i = 2 ∨ i = 3 := by omega
  rcases this with rfl | rfl | rfl | rfl
  · exact hK.1
  · exact hK.2.1
  · exact hK.2.2.1
  · exact hK.2.2.2
theorem near64 {cN cW cP cT cH : Nat} {D : pD} {E : pDL} (hB : iBook cN cW cP cT cH D) {h : Nat} (hh : h < cH) (x : Int32) {j : Nat} (hj : j < 4) (s : Int32) : Hb_nearer_64 x (nI j) (nI h) s D E = Hb_nearer_77 x (nI j) (s - kH D cN cP j h) D E := by
  have : j = 0 ∨ j = 1 ∨ j = 2 ∨ j = 3 := by omega
  rw [e_Hb_nearer_64, if_neg (iB hj (by omega)), iC (by omega)]
  rcases this with rfl | rfl | rfl | rfl
  · simp (disch := decide) only [if_true, if_false, sNe, Nat.reduceSub, eq_self, one_ne, X_hits0 hB hh, B1s]
    rfl
  · simp (disch := decide) only [if_true, if_false, sNe, Nat.reduceSub, eq_self, one_ne, X_hits1 hB hh, B1s]
    rfl
  · simp (disch := decide) only [if_true, if_false, sNe, Nat.reduceSub, eq_self, one_ne, X_hits2 hB hh, B1s]
    rfl
  · simp (disch := decide) only [if_true, if_false, sNe, Nat.reduceSub, eq_self, one_ne, X_hits3 hB hh, B1s]
    rfl
theorem near77 {cN cW cP cT cH : Nat} {D : pD} {E : pDL} (hB : iBook cN cW cP cT cH D) (x : Int32) {j : Nat} (hj : j < 4) : Hb_nearer_77 x (nI j) 0 D E = Hb_nearer_98 x (nI j) (kL D cP j) D E := by
  have : j = 0 ∨ j = 1 ∨ j = 2 ∨ j = 3 := by omega
  rw [e_Hb_nearer_77, if_pos rfl, if_neg (iB hj (by omega)), iC (by omega)]
  rcases this with rfl | rfl | rfl | rfl
  · simp (disch := decide) only [if_true, if_false, sNe, Nat.reduceSub, eq_self, one_ne, Rn_lostOfAll_k0_held_wordTraits_spec hB.1.1.2.2.1 D E hB.bk hB.1.2.1.2.2.1, B1s]
    rfl
  · simp (disch := decide) only [if_true, if_false, sNe, Nat.reduceSub, eq_self, one_ne, Rn_lostOfAll_k1_held_wordTraits_spec hB.1.1.2.2.1 D E hB.bk hB.1.2.1.2.2.1, B1s]
    rfl
  · simp (disch := decide) only [if_true, if_false, sNe, Nat.reduceSub, eq_self, one_ne, Rn_lostOfAll_k2_held_wordTraits_spec hB.1.1.2.2.1 D E hB.bk hB.1.2.1.2.2.1, B1s]
    rfl
  · simp (disch := decide) only [if_true, if_false, sNe, Nat.reduceSub, eq_self, one_ne, Rn_lostOfAll_k3_held_wordTraits_spec hB.1.1.2.2.1 D E hB.bk hB.1.2.1.2.2.1, B1s]
    rfl
theorem near98 {cN cW cP cT cH : Nat} {D : pD} {E : pDL} (hB : iBook cN cW cP cT cH D) (y : Int32) {i : Nat} (hi : i < 4) (s : Int32) : Hb_nearer_98 (nI i) y s D E = Hb_nearer_117 (nI i) y (s - kL D cP i) D E := by
  have : i = 0 ∨ i = 1 ∨ i = 2 ∨ i = 3 := by omega
  rw [e_Hb_nearer_98, if_neg (iB hi (by omega)), iC (by omega)]
  rcases this with rfl | rfl | rfl | rfl
  · simp (disch := decide) only [if_true, if_false, sNe, Nat.reduceSub, eq_self, one_ne, Rn_lostOfAll_k0_held_wordTraits_spec hB.1.1.2.2.1 D E hB.bk hB.1.2.1.2.2.1, B1s]
    rfl
  · simp (disch := decide) only [if_true, if_false, sNe, Nat.reduceSub, eq_self, one_ne, Rn_lostOfAll_k1_held_wordTraits_spec hB.1.1.2.2.1 D E hB.bk hB.1.2.1.2.2.1, B1s]
    rfl
  · simp (disch := decide) only [if_true, if_false, sNe, Nat.reduceSub, eq_self, one_ne, Rn_lostOfAll_k2_held_wordTraits_spec hB.1.1.2.2.1 D E hB.bk hB.1.2.1.2.2.1, B1s]
    rfl
  · simp (disch := decide) only [if_true, if_false, sNe, Nat.reduceSub, eq_self, one_ne, Rn_lostOfAll_k3_held_wordTraits_spec hB.1.1.2.2.1 D E hB.bk hB.1.2.1.2.2.1, B1s]
    rfl
theorem near0 {cN cW cP cT cH : Nat} {D : pD} {E : pDL} (hB : iBook cN cW cP cT cH D) {h : Nat} (hh : h < cH) {i j : Nat} (hi : i < 4) (hj : j < 4) (f1 : D 49 0 i = 1) (f2 : D 49 0 j = 1) : Hb_nearer (nI i) (nI j) (nI h) D E = Hb_nearer_64 (nI i) (nI j) (nI h) (kH D cN cP i h) D E := by
  obtain ⟨⟨⟨n1, n2, n3, n4, n5⟩, ⟨a1, a2, a3, a4, a5⟩, -⟩, -⟩ := id hB
  have bi : ¬ (nI i < 0 ∨ 4 ≤ (nI i).toNatClampNeg) := iB hi (by omega)
  have bj : ¬ (nI j < 0 ∨ 4 ≤ (nI j).toNatClampNeg) := iB hj (by omega)
  rw [e_Hb_nearer, if_neg (iN (by omega)), if_neg (nle 4 hi (by omega)), if_neg (iN (by omega)), if_neg (nle 4 hj (by omega)), has4_y D E a5 hh (by omega), B1s, if_neg (by decide), if_neg bi, if_neg (by rw [iC (by omega), f1]; decide), if_neg bj, if_neg (by rw [iC (by omega), f2]; decide), if_neg bi, iC (by omega)]
  have : i = 0 ∨ i = 1 ∨ i = 2 ∨ i = 3 := by omega
  rcases this with rfl | rfl | rfl | rfl
  · simp (disch := decide) only [if_true, if_false, sNe, Nat.reduceSub, eq_self, one_ne, X_hits0 hB hh, B1s]
    rfl
  · simp (disch := decide) only [if_true, if_false, sNe, Nat.reduceSub, eq_self, one_ne, X_hits1 hB hh, B1s]
    rfl
  · simp (disch := decide) only [if_true, if_false, sNe, Nat.reduceSub, eq_self, one_ne, X_hits2 hB hh, B1s]
    rfl
  · simp (disch := decide) only [if_true, if_false, sNe, Nat.reduceSub, eq_self, one_ne, X_hits3 hB hh, B1s]
    rfl
/-- nearer -/
theorem L_nearer (x y z : Int32) (D : pD) (E : pDL) (h : Inv D) : Same D E (Hb_nearer x y z) (Mo_nearer x y z) := by
  have hh := h
  obtain ⟨cN, cW, cP, cT, cH, hT, hF, hB, hN, hK, hG, hY, hL⟩ := h
  obtain ⟨⟨⟨n1, n2, n3, n4, n5⟩, ⟨a1, a2, a3, a4, a5⟩, ⟨b1, b2, b3, b4, b5⟩⟩, hS, hW, hGS, r1, r2, r3, r4, r5, r6⟩ := id hB
  rcases ixc x (n := 4) (by omega) with hx | ⟨i, hi, rfl⟩
  · refine Same.ro (v := -2) hh ?_ (by rw [e_Mo_nearer, slot_out D E hx, B1s, if_pos rfl])
    rw [e_Hb_nearer]
    by_cases h0 : x < 0
    · rw [if_pos h0]
    · rw [if_neg h0, if_pos (show (4 : Int32) ≤ x from hx.resolve_left h0)]
  · rcases ixc y (n := 4) (by omega) with hy | ⟨j, hj, rfl⟩
    · refine Same.ro (v := -2) hh ?_ (by rw [e_Mo_nearer, slot_in D E hi, B1s, if_neg (by decide), slot_out D E hy, B1s, if_pos rfl])
      rw [e_Hb_nearer, if_neg (iN (by omega)), if_neg (nle 4 hi (by omega))]
      by_cases h0 : y < 0
      · rw [if_pos h0]
      · rw [if_neg h0, if_pos (show (4 : Int32) ≤ y from hy.resolve_left h0)]
    · rcases ixc z (n := cH) (by omega) with hz | ⟨q, hq, rfl⟩
      · exact Same.ro (v := -2) hh (by rw [e_Hb_nearer, if_neg (iN (by omega)), if_neg (nle 4 hi (by omega)), if_neg (iN (by omega)), if_neg (nle 4 hj (by omega)), has4_n D E a5 hz, B1s, if_pos rfl]) (by rw [e_Mo_nearer, slot_in D E hi, B1s, if_neg (by decide), slot_in D E hj, B1s, if_neg (by decide), is4_n D E b5 (by omega) hz, B1s, if_pos rfl])
      · have bi : ¬ (nI i < 0 ∨ 4 ≤ (nI i).toNatClampNeg) := iB hi (by omega)
        have bj : ¬ (nI j < 0 ∨ 4 ≤ (nI j).toNatClampNeg) := iB hj (by omega)
        have ci : (nI i).toNatClampNeg = i := iC (by omega)
        have cj : (nI j).toNatClampNeg = j := iC (by omega)
        obtain ⟨s1, s2⟩ := kept_at hK hi
        obtain ⟨t1, t2⟩ := kept_at hK hj
        rcases s2 with s2 | ⟨s2, s3⟩
        · refine Same.ro (v := -4) hh ?_ ?_
          · rw [e_Hb_nearer, if_neg (iN (by omega)), if_neg (nle 4 hi (by omega)), if_neg (iN (by omega)), if_neg (nle 4 hj (by omega)), has4_y D E a5 hq (by omega), B1s, if_neg (by decide), if_neg bi, ci, if_pos s2]
          · rw [e_Mo_nearer, slot_in D E hi, B1s, if_neg (by decide), slot_in D E hj, B1s, if_neg (by decide), is4_y D E b5 (by omega) hq, B1s, if_neg (by decide), if_neg bi, ci, if_pos (s1.trans s2)]
        · rcases t2 with t2 | ⟨t2, t3⟩
          · refine Same.ro (v := -4) hh ?_ ?_
            · rw [e_Hb_nearer, if_neg (iN (by omega)), if_neg (nle 4 hi (by omega)), if_neg (iN (by omega)), if_neg (nle 4 hj (by omega)), has4_y D E a5 hq (by omega), B1s, if_neg (by decide), if_neg bi, if_neg (by rw [ci, s2]; decide), if_neg bj, cj, if_pos t2]
            · rw [e_Mo_nearer, slot_in D E hi, B1s, if_neg (by decide), slot_in D E hj, B1s, if_neg (by decide), is4_y D E b5 (by omega) hq, B1s, if_neg (by decide), if_neg bi, if_neg (by rw [ci, s1, s2]; decide), if_neg bj, cj, if_pos (t1.trans t2)]
          · obtain ⟨D4, u1, u2, u3⟩ := M_store (s := 4) (by omega) D E
            obtain ⟨D5, v1, v2, v3, v4⟩ := M_load (s := i) (by omega) D4 E
            obtain ⟨D8, w1, w2, w3, w4⟩ := M_load (s := j) (by omega) D5 E
            obtain ⟨D11, x1, x2, x3, x4⟩ := M_load (s := 4) (by omega) D8 E
            have k4 : Ko [115, 116, 117, 118, 119, 126, 127, 128, 129, 130] D D4 := u2.sub (by decide)
            have k5 : Ko [115, 116, 117, 118, 119, 126, 127, 128, 129, 130] D D5 := k4.tr (v2.sub (by decide))
            have k8 : Ko [115, 116, 117, 118, 119, 126, 127, 128, 129, 130] D D8 := k5.tr (w2.sub (by decide))
            have k11 : Ko [115, 116, 117, 118, 119, 126, 127, 128, 129, 130] D D11 := k8.tr (x2.sub (by decide))
            have l5 : ∀ a ∈ [126, 127, 128, 129, 130], ∀ p, p < 24 → D5 a 0 p = D5 a 0 p := fun _ _ _ _ => rfl
            have m4 : ∀ a ∈ [126, 127, 128, 129, 130], ∀ m, m < 96 → D4 a 0 m = D a 0 m := fun a ha m hm => by rw [u3 a ha, if_neg (by omega)]
            have m5 : ∀ a ∈ [126, 127, 128, 129, 130], D5 a = D4 a := fun a ha => v2 a (by revert ha; revert a; decide)
            have m8 : ∀ a ∈ [126, 127, 128, 129, 130], D8 a = D4 a := fun a ha => (w2 a (by revert ha; revert a; decide)).trans (m5 a ha)
            have r5' : iRen cW cP (kR D i 0) (kR D i 1) (kR D i 2) (kR D i 3) (kR D i 4) (D5 115 0) (D5 116 0) (D5 117 0) (D5 118 0) (D5 119 0) := by
              intro p hp
              have := s3 p hp
              dsimp only at this
              rw [v3 115 (by decide), v3 116 (by decide), v3 117 (by decide), v3 118 (by decide), v3 119 (by decide), if_pos hp, if_pos hp, if_pos hp, if_pos hp, if_pos hp, m4 126 (by decide) _ (by omega), m4 127 (by decide) _ (by omega), m4 128 (by decide) _ (by omega), m4 129 (by decide) _ (by omega), m4 130 (by decide) _ (by omega)]
              exact this
            have r8' : iRen cW cP (kR D j 0) (kR D j 1) (kR D j 2) (kR D j 3) (kR D j 4) (D8 115 0) (D8 116 0) (D8 117 0) (D8 118 0) (D8 119 0) := by
              intro p hp
              have := t3 p hp
              dsimp only at this
              rw [w3 115 (by decide), w3 116 (by decide), w3 117 (by decide), w3 118 (by decide), w3 119 (by decide), if_pos hp, if_pos hp, if_pos hp, if_pos hp, if_pos hp, m5 126 (by decide), m5 127 (by decide), m5 128 (by decide), m5 129 (by decide), m5 130 (by decide), m4 126 (by decide) _ (by omega), m4 127 (by decide) _ (by omega), m4 128 (by decide) _ (by omega), m4 129 (by decide) _ (by omega), m4 130 (by decide) _ (by omega)]
              exact this
            obtain ⟨y1, y2⟩ := M_of (E := E) hB hY k5 (by decide) r5' hq
            obtain ⟨y3, y4⟩ := M_of (E := E) hB hY k8 (by decide) r8' hq
            have back : Ko [126, 127, 128, 129, 130] D D11 := by
              intro k hk
              by_cases c : k ∈ [115, 116, 117, 118, 119]
              · funext r
                by_cases hr : r = 0
                · subst hr
                  funext m
                  rw [x3 k c]
                  have ha : k + 11 ∈ [126, 127, 128, 129, 130] := by revert c; simp
                  by_cases hm : m < 24
                  · rw [if_pos hm, m8 _ ha, u3 _ ha, if_pos (by omega), show k + 11 - 11 = k by omega, show 24 * 4 + m - 24 * 4 = m by omega]
                  · rw [if_neg hm, w3 k c, if_neg hm, v3 k c, if_neg hm, u2 k hk]
                · rw [x4 k r hr, w4 k r hr, v4 k r hr, u2 k hk]
              · rw [x2 k c, w2 k c, v2 k c, u2 k hk]
            have fin : Inv D11 := by
              refine ⟨cN, cW, cP, cT, cH, hT.ko back (by decide), hF.ko back (by decide), hB.ko back (by decide), hN.ko back (by decide), ?_, hG.ko back (by decide), hY.ko back (by decide), hL.ko back (by decide)⟩
              have f : ∀ i, i < 4 → ∀ k ∈ [126, 127, 128, 129, 130], ∀ p, p < 24 → D11 k 0 (24 * i + p) = D k 0 (24 * i + p) := by
                intro i hi k hk p hp
                rw [x2 k (by revert hk; revert k; decide), m8 k hk, m4 k hk _ (by omega)]
              exact ⟨hK.1.fr (back.at (by decide)) (f 0 (by omega)), hK.2.1.fr (back.at (by decide)) (f 1 (by omega)), hK.2.2.1.fr (back.at (by decide)) (f 2 (by omega)), hK.2.2.2.fr (back.at (by decide)) (f 3 (by omega))⟩
            have hm : ∀ v, (if kH D cN cP i q = kH D cN cP j q then (if kL D cP j ≤ kL D cP i then (if kL D cP i ≤ kL D cP j then (-1 : Int32) else nI j) else nI i) else (if kH D cN cP i q ≤ kH D cN cP j q then nI j else nI i)) = v → Mo_nearer (nI i) (nI j) (nI q) D E = some (some (.inl v), D11, E) := by
              intro v hv
              rw [e_Mo_nearer, slot_in D E hi, B1s, if_neg (by decide), slot_in D E hj, B1s, if_neg (by decide), is4_y D E b5 (by omega) hq, B1s, if_neg (by decide), if_neg bi, if_neg (by rw [ci, s1, s2]; decide), if_neg bj, if_neg (by rw [cj, t1, t2]; decide), show Mo_store 4 D E = _ from u1, B0s, v1, B0s, y1, B1s, y2, B1s, w1, B0s, y3, B1s, y4, B1s, show Mo_load 4 D8 E = _ from x1, B0s, ← hv]
              show (if kH D cN cP i q = kH D cN cP j q then _ else _) = _
              by_cases c1 : kH D cN cP i q = kH D cN cP j q
              · rw [if_pos c1, if_pos c1]
                show (if kL D cP j ≤ kL D cP i then _ else _) = _
                by_cases c2 : kL D cP j ≤ kL D cP i
                · rw [if_pos c2, if_pos c2]
                  show (if kL D cP i ≤ kL D cP j then _ else _) = _
                  by_cases c3 : kL D cP i ≤ kL D cP j
                  · rw [if_pos c3, if_pos c3]
                  · rw [if_neg c3, if_neg c3]
                · rw [if_neg c2, if_neg c2]
              · rw [if_neg c1, if_neg c1]
                show (if kH D cN cP i q ≤ kH D cN cP j q then _ else _) = _
                by_cases c2 : kH D cN cP i q ≤ kH D cN cP j q
                · rw [if_pos c2, if_pos c2]
                · rw [if_neg c2, if_neg c2]
            have nh : ∀ i, ∃ m : Nat, m ≤ 24 ∧ kH D cN cP i q = nI m := fun i => by
              obtain ⟨m, hm, e⟩ := iS_n (b := 1) (n := cP) (fun p _ => rgR_n D cN (kR D i 0) (kR D i 1) (kR D i 2) (kR D i 3) (kR D i 4) q p)
              exact ⟨m, by omega, e⟩
            have nl : ∀ i, ∃ m : Nat, m ≤ 1033560 ∧ kL D cP i = nI m := fun i => by
              obtain ⟨m, hm, e⟩ := iS_n (b := 43065) (n := cP) (f := lsR D (kR D i 0) (kR D i 1) (kR D i 2) (kR D i 3) (kR D i 4)) (fun p _ => lA_n hS hW _ _ _ _ _ _ _)
              exact ⟨m, by omega, e⟩
            obtain ⟨ha, ga, ea⟩ := nh i
            obtain ⟨hb, gb, eb⟩ := nh j
            obtain ⟨la, ja, fa⟩ := nl i
            obtain ⟨lb, jb, fb⟩ := nl j
            rw [ea, eb, fa, fb] at hm
            simp (disch := omega) only [sEE, sLL] at hm
            refine Bo.of (D1 := D) (E1 := E) (D2 := D11) (E2 := E) ⟨_, _, _, _, by repeat first | exact okL_nil | refine okL_n ?_ | refine okL_i ?_ | refine okL_r (by decide) ?_, fun _ _ => rfl⟩ ⟨_, _, _, _, by repeat first | exact okL_nil | refine okL_n ?_ | refine okL_i ?_ | refine okL_r (by decide) ?_, fun _ _ => rfl⟩ ?_ (hm _ rfl) ?_
            · rw [near0 hB hq hi hj s2 t2, near64 hB hq _ hj, ea, eb]
              by_cases c1 : ha = hb
              · rw [show nI ha - nI hb = 0 by rw [sub0 (by omega) (by omega)]; exact c1, near77 hB _ hj, near98 hB _ hi, fa, fb, e_Hb_nearer_117]
                simp (disch := omega) only [sub0, subL, c1, if_true]
                by_cases c2 : lb ≤ la
                · by_cases c3 : la ≤ lb
                  · rw [if_pos (by omega), if_pos c2, if_pos c3]
                  · rw [if_neg (by omega), if_pos c2, if_pos c2, if_neg c3]
                · rw [if_neg (by omega), if_neg c2, if_neg c2]
              · rw [e_Hb_nearer_77]
                simp (disch := omega) only [sub0, c1, if_false]
                rw [e_Hb_nearer_117]
                simp (disch := omega) only [sub0, subL, c1, if_false]
                by_cases c2 : ha ≤ hb
                · rw [if_pos c2, if_pos c2]
                · rw [if_neg c2, if_neg c2]
            · have : cmb D D11 = D11 := by
                funext k
                by_cases c : k < 100
                · rw [cmb_x c, back k (by simp; omega)]
                · rw [cmb_m c]
              rw [this]
              exact fin
