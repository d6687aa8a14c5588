/-! LOOPS, SUMS, AND WHAT A PUT CHANGES -/
theorem zst {α : Type} (F : Nat → α) (a : Nat) : ∀ n, (∀ k, a ≤ k → k < a + n → F k = F (k + 1)) → F a = F (a + n)
  | 0, _ => rfl
  | n + 1, h => (zst F a n (fun k h1 h2 => h k h1 (by omega))).trans (h (a + n) (by omega) (by omega))
/-- a loop goes from a to N -/
theorem zto {α : Type} (F : Nat → α) (a N : Nat) (ha : a ≤ N) (h : ∀ k, a ≤ k → k < N → F k = F (k + 1)) : F a = F N := by
  have := zst F a (N - a) (fun k h1 h2 => h k h1 (by omega))
  rwa [show a + (N - a) = N by omega] at this
theorem z0 {α : Type} (F : Nat → α) (N : Nat) (h : ∀ k, k < N → F k = F (k + 1)) : F 0 = F N := zto F 0 N (by omega) (fun k _ => h k)
/-- sums of numbers -/
def nS (f : Nat → Nat) : Nat → Nat
  | 0 => 0
  | n + 1 => nS f n + f n
theorem nS_cong {f g : Nat → Nat} : ∀ {n : Nat}, (∀ k, k < n → f k = g k) → nS f n = nS g n
  | 0, _ => rfl
  | n + 1, h => by rw [nS, nS, nS_cong (fun k hk => h k (by omega)), h n (by omega)]
theorem nS_le {f : Nat → Nat} {b : Nat} : ∀ {n : Nat}, (∀ k, k < n → f k ≤ b) → nS f n ≤ n * b
  | 0, _ => by rw [nS]; omega
  | n + 1, h => by
    have h1 := nS_le (n := n) (fun k hk => h k (by omega))
    have h2 := h n (by omega)
    rw [nS, Nat.succ_mul]
    omega
theorem nS_tail {f : Nat → Nat} {a : Nat} : ∀ {n : Nat}, a ≤ n → (∀ k, a ≤ k → k < n → f k = 0) → nS f n = nS f a
  | 0, h, _ => by rw [show a = 0 by omega]
  | n + 1, h, h0 => by
    by_cases e : a = n + 1
    · rw [e]
    · rw [nS, nS_tail (by omega) (fun k h1 h2 => h0 k h1 (by omega)), h0 n (by omega) (by omega), Nat.add_zero]
theorem iS_nI {f : Nat → Int32} {g : Nat → Nat} : ∀ {n : Nat}, (∀ k, k < n → f k = nI (g k)) → iS f n = nI (nS g n)
  | 0, _ => rfl
  | n + 1, h => by rw [iS, nS, iS_nI (fun k hk => h k (by omega)), h n (by omega), nI_add]
theorem iS_tail {f : Nat → Int32} {a : Nat} : ∀ {n : Nat}, a ≤ n → (∀ k, a ≤ k → k < n → f k = 0) → iS f n = iS f a
  | 0, h, _ => by rw [show a = 0 by omega]
  | n + 1, h, h0 => by
    by_cases e : a = n + 1
    · rw [e]
    · rw [iS, iS_tail (by omega) (fun k h1 h2 => h0 k h1 (by omega)), h0 n (by omega) (by omega), Int32.add_zero]
/-- all but the rendering that is -/
def Rest (cN cW cP cT cH : Nat) (D : pD) : Prop := iTape D ∧ iFault D ∧ iBook cN cW cP cT cH D ∧ iKept cW cP D ∧ iGiven D ∧ iYears cW D ∧ iLaugh D
theorem Rest.ko {cN cW cP cT cH : Nat} {ks : List Nat} {D D' : pD} (h : Rest cN cW cP cT cH D) (hk : Ko ks D D') (hs : ∀ k ∈ [1, 2, 4, 5, 6, 7, 8, 9, 10, 11, 12, 13, 14, 15, 16, 17, 25, 49, 58, 59, 60, 61, 62, 65, 66, 67, 68, 69, 70, 71, 72, 73, 77, 78, 79, 80, 81, 83, 84, 85, 86, 87, 89, 90, 91, 92, 93, 95, 96, 97, 98, 99, 100, 101, 102, 105, 106, 107, 108, 109, 110, 111, 112, 113, 114, 125, 126, 127, 128, 129, 130, 131, 132, 133, 134, 135, 136, 137, 138, 139, 140, 141], k ∉ ks) : Rest cN cW cP cT cH D' := by
  obtain ⟨hT, hF, hB, hK, hG, hY, hL⟩ := h
  have e : ∀ k, k ∈ [1, 2, 4, 5, 6, 7, 8, 9, 10, 11, 12, 13, 14, 15, 16, 17, 25, 49, 58, 59, 60, 61, 62, 65, 66, 67, 68, 69, 70, 71, 72, 73, 77, 78, 79, 80, 81, 83, 84, 85, 86, 87, 89, 90, 91, 92, 93, 95, 96, 97, 98, 99, 100, 101, 102, 105, 106, 107, 108, 109, 110, 111, 112, 113, 114, 125, 126, 127, 128, 129, 130, 131, 132, 133, 134, 135, 136, 137, 138, 139, 140, 141] → D' k 0 = D k 0 := hk.at hs
  refine ⟨hT.fr (fun k q => e k ?_) ?_ ?_, hF.fr ?_ ?_ ?_ ?_, hB.fr (fun k q => e k ?_), hK.fr (fun k q => e k ?_), hG.fr (fun k q => e k ?_), hY.fr (fun k q => e k ?_) ?_ ?_, hL.fr (fun k q => e k ?_) ?_ ?_ ?_ ?_ ?_ ?_⟩
  all_goals first
    | exact congrFun (e 1 (by decide)) _
    | exact congrFun (e 100 (by decide)) _
    | exact congrFun (e 17 (by decide)) _
    | exact congrFun (e 59 (by decide)) _
    | exact congrFun (e 65 (by decide)) _
    | (revert k; decide)
theorem Rest.inv {cN cW cP cT cH : Nat} {D : pD} (h : Rest cN cW cP cT cH D) (hN : iNow cW cP D) : Inv D := ⟨cN, cW, cP, cT, cH, h.1, h.2.1, h.2.2.1, hN, h.2.2.2.1, h.2.2.2.2.1, h.2.2.2.2.2.1, h.2.2.2.2.2.2⟩
/-- a choice is put -/
def putX (D : pD) (p : Nat) (k a b c : Int32) : pD := dset (dset (dset (dset D 43 0 p k) 44 0 p a) 45 0 p b) 46 0 p c
def putM (D : pD) (p : Nat) (k a b c : Int32) : pD := dset (dset (dset (dset D 115 0 p k) 116 0 p a) 117 0 p b) 118 0 p c
theorem putX_ko (D : pD) (p : Nat) (k a b c : Int32) : Ko [43, 44, 45, 46] D (putX D p k a b c) := (((Ko.rf.set (by decide) _ _ _).set (by decide) _ _ _).set (by decide) _ _ _).set (by decide) _ _ _
theorem putM_ko (D : pD) (p : Nat) (k a b c : Int32) : Ko [115, 116, 117, 118] D (putM D p k a b c) := (((Ko.rf.set (by decide) _ _ _).set (by decide) _ _ _).set (by decide) _ _ _).set (by decide) _ _ _
theorem putX_n {D : pD} {p j j' : Nat} {k a b c : Int32} (h : j ∉ [43, 44, 45, 46]) : putX D p k a b c j j' = D j j' := congrFun (putX_ko D p k a b c j h) j'
theorem putM_n {D : pD} {p j j' : Nat} {k a b c : Int32} (h : j ∉ [115, 116, 117, 118]) : putM D p k a b c j j' = D j j' := congrFun (putM_ko D p k a b c j h) j'
theorem putX_k {D : pD} {p q : Nat} {k a b c : Int32} : putX D p k a b c 43 0 q = if q = p then k else D 43 0 q := by unfold putX; simp (disch := decide) only [dsN, dsA]
theorem putX_a {D : pD} {p q : Nat} {k a b c : Int32} : putX D p k a b c 44 0 q = if q = p then a else D 44 0 q := by unfold putX; simp (disch := decide) only [dsN, dsA]
theorem putX_b {D : pD} {p q : Nat} {k a b c : Int32} : putX D p k a b c 45 0 q = if q = p then b else D 45 0 q := by unfold putX; simp (disch := decide) only [dsN, dsA]
theorem putX_c {D : pD} {p q : Nat} {k a b c : Int32} : putX D p k a b c 46 0 q = if q = p then c else D 46 0 q := by unfold putX; simp (disch := decide) only [dsN, dsA]
theorem putM_k {D : pD} {p q : Nat} {k a b c : Int32} : putM D p k a b c 115 0 q = if q = p then k else D 115 0 q := by unfold putM; simp (disch := decide) only [dsN, dsA]
theorem putM_a {D : pD} {p q : Nat} {k a b c : Int32} : putM D p k a b c 116 0 q = if q = p then a else D 116 0 q := by unfold putM; simp (disch := decide) only [dsN, dsA]
theorem putM_b {D : pD} {p q : Nat} {k a b c : Int32} : putM D p k a b c 117 0 q = if q = p then b else D 117 0 q := by unfold putM; simp (disch := decide) only [dsN, dsA]
theorem putM_c {D : pD} {p q : Nat} {k a b c : Int32} : putM D p k a b c 118 0 q = if q = p then c else D 118 0 q := by unfold putM; simp (disch := decide) only [dsN, dsA]
theorem Rn_put_spec {p : Nat} (hp : p < 24) (k a b c : Int32) (D : pD) (E : pDL) : Rn_put (nI p) k a b c D E = some (none, putX D p k a b c, E) := by
  rw [e_Rn_put]
  simp (disch := omega) only [sC, sN, sN0, sLL, sTT, sEE, sM1, sF, sGt, sLe, sLt, sNe, or_false, or_true, false_or, true_or, or_self, if_true, if_false, not_true_eq_false, not_false_eq_true, B1s, B0s, B2s]
  rfl
theorem Mo_put_spec {p : Nat} (hp : p < 24) (k a b c : Int32) (D : pD) (E : pDL) : Mo_put (nI p) k a b c D E = some (none, putM D p k (if k = 3 then -1 else a) (if k = 1 ∨ k = 2 then b else -1) (if k = 2 then c else -1), E) := by
  rw [e_Mo_put]
  simp (disch := omega) only [sC, sN, sN0, sLL, sTT, sEE, sM1, sF, sGt, sLe, sLt, sNe, or_false, or_true, false_or, true_or, or_self, if_true, if_false, not_true_eq_false, not_false_eq_true, B1s, B0s, B2s, e_Mo_put_m_wordA_22]
  by_cases h1 : k = 1
  · subst h1
    simp (disch := decide) only [sd, if_true, if_false, true_or]
    rfl
  · by_cases h2 : k = 2
    · subst h2
      simp (disch := decide) only [sd, if_true, if_false, or_true]
      rfl
    · by_cases h3 : k = 3
      · simp only [h1, h2, h3, if_true, if_false, or_false]
        subst h3
        simp (disch := decide) only [sd, if_true, if_false, or_false]
        rfl
      · simp only [h1, h2, h3, if_false, or_false]
        rfl
theorem put_now {cW cP : Nat} {D : pD} (hN : iNow cW cP D) {p : Nat} (hp : p < cP) {k a b c k' a' b' c' : Int32} (hs : SC cW k a b c k' a' b' c') : iNow cW cP (putM (putX D p k a b c) p k' a' b' c') := by
  intro q hq
  rw [putM_k, putM_a, putM_b, putM_c, putM_n (j := 43) (by decide), putM_n (j := 44) (by decide), putM_n (j := 45) (by decide), putM_n (j := 46) (by decide), putM_n (j := 47) (by decide), putM_n (j := 119) (by decide)]
  rw [putX_k, putX_a, putX_b, putX_c, putX_n (j := 47) (by decide), putX_n (j := 119) (by decide), putX_n (j := 115) (by decide), putX_n (j := 116) (by decide), putX_n (j := 117) (by decide), putX_n (j := 118) (by decide)]
  by_cases e : q = p
  · subst e
    rw [if_pos rfl, if_pos rfl, if_pos rfl, if_pos rfl, if_pos rfl, if_pos rfl, if_pos rfl, if_pos rfl]
    exact ⟨hs, (hN q hq).2.1, fun z => absurd hp (by omega)⟩
  · rw [if_neg e, if_neg e, if_neg e, if_neg e, if_neg e, if_neg e, if_neg e, if_neg e]
    exact hN q hq
theorem put_rest {cN cW cP cT cH : Nat} {D : pD} (h : Rest cN cW cP cT cH D) (p : Nat) (k a b c k' a' b' c' : Int32) : Rest cN cW cP cT cH (putM (putX D p k a b c) p k' a' b' c') :=
  (h.ko (putX_ko D p k a b c) (by decide)).ko (putM_ko _ p k' a' b' c') (by decide)
/-- what a choice loses, both -/
theorem X_lostAt {cN cW cP cT cH : Nat} {D : pD} {E : pDL} (h : iBook cN cW cP cT cH D) {p : Nat} (hp : p < 24) : Rn_lostAt_held_wordTraits (nI p) D E = some (some (.inl (Rn_lostAt_held_wordTraits_v D p)), D, E) := Rn_lostAt_held_wordTraits_spec hp D E h.bk
theorem M_lostAt {cN cW cP cT cH : Nat} {D : pD} {E : pDL} (h : iBook cN cW cP cT cH D) (hN : iNow cW cP D) (hY : iYears cW D) {p : Nat} (hp : p < cP) : Mo_lostAt (nI p) (-1) D E = some (some (.inl (Rn_lostAt_held_wordTraits_v D p)), D, E) := by
  obtain ⟨cM, h1, -, h2, -⟩ := hY
  have hm := hN.mo h h1 h2
  have h24 : p < 24 := by have := h.1.1.2.2.1; omega
  rw [Mo_lostAt_spec h1 h24 (-1) D E h2 (hm.2.2.2.2.1 p h24) (hm.2.2.2.2.2 p hp), now_lost h hN cM hp]
theorem M_had {cN cW cP cT cH : Nat} {D : pD} {E : pDL} (h : iBook cN cW cP cT cH D) (hN : iNow cW cP D) (hY : iYears cW D) {p : Nat} (hp : p < 24) : Mo_had (nI p) (-1) D E = some (some (.inl (tA (D 9 0) (D 44 0 p) (D 45 0 p) (D 46 0 p))), D, E) := by
  obtain ⟨cM, h1, -, h2, -⟩ := hY
  have hm := hN.mo h h1 h2
  rw [Mo_had_spec h1 hp (-1) D E h2 (hm.2.2.2.2.1 p hp), now_had h hN cM hp]
theorem M_notion {cN cW cP cT cH : Nat} {D : pD} (h : iBook cN cW cP cT cH D) {p : Nat} (hp : p < cP) : D 105 0 (mN D p) = D 8 0 (pN D p) := by
  obtain ⟨⟨⟨n1, n2, n3, n4, n5⟩, -, -⟩, hS, hW, hGS, r1, r2, r3, r4, r5, r6⟩ := h
  unfold mN pN
  rw [(r4 p hp).1]
  obtain ⟨j, hj, e⟩ := vp_in_of (r4 p hp).2.1 (by omega)
  rw [e, iC (by omega)]
  exact r1 j hj
theorem M_lackAt {cN cW cP cT cH : Nat} {D : pD} {E : pDL} (h : iBook cN cW cP cT cH D) (hN : iNow cW cP D) (hY : iYears cW D) {p : Nat} (hp : p < cP) : Mo_lackAt (nI p) (-1) D E = some (some (.inl (D 11 0 p &&& (tA (D 9 0) (D 44 0 p) (D 45 0 p) (D 46 0 p) ^^^ (-1)))), D, E) := by
  have h24 : p < 24 := by have := h.1.1.2.2.1; omega
  rw [e_Mo_lackAt, if_neg (iB (by omega) (by omega)), M_had h hN hY h24, B1s, iC (by omega), (h.2.2.2.2.2.2.2.1 p hp).2.2]
theorem M_addAt {cN cW cP cT cH : Nat} {D : pD} {E : pDL} (h : iBook cN cW cP cT cH D) (hN : iNow cW cP D) (hY : iYears cW D) {p : Nat} (hp : p < cP) : Mo_addAt (nI p) (-1) D E = some (some (.inl (tA (D 9 0) (D 44 0 p) (D 45 0 p) (D 46 0 p) &&& (D 8 0 (pN D p) ^^^ (-1)))), D, E) := by
  have h24 : p < 24 := by have := h.1.1.2.2.1; omega
  have hn := (h.2.2.2.2.2.2.1 p h24)
  have hn2 : ¬ (D 107 0 p < 0 ∨ 24 ≤ (D 107 0 p).toNatClampNeg) := by
    rw [(h.2.2.2.2.2.2.2.1 p hp).1]
    exact fun q => hn (q.imp id (fun z => by omega))
  rw [e_Mo_addAt, M_had h hN hY h24, B1s, if_neg (iB (by omega) (by omega)), iC (by omega), if_neg hn2]
  have := M_notion h hp
  unfold mN at this
  rw [this]
