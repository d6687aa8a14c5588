/-! THE TEXT: what is drafted -/
def pCn (DX DM : pD) (c0 c1 c2 c3 c4 : Nat) : Prop := (c0 ≤ 12 ∧ c1 ≤ 20 ∧ c2 ≤ 24 ∧ c3 ≤ 20 ∧ c4 ≤ 6) ∧ (DX 19 0 0 = nI c0 ∧ DX 19 0 1 = nI c1 ∧ DX 19 0 2 = nI c2 ∧ DX 19 0 3 = nI c3 ∧ DX 19 0 4 = nI c4) ∧ (DM 102 0 10 = nI c0 ∧ DM 102 0 11 = nI c1 ∧ DM 102 0 12 = nI c2 ∧ DM 102 0 13 = nI c3 ∧ DM 102 0 14 = nI c4)
def pSt_ (DX DM : pD) : Prop := ∀ k, k < 5 → ∃ s : Nat, s ≤ 99 ∧ DX 20 0 k = nI s ∧ DM 102 0 (15 + k) = nI s
def pWt (DX DM : pD) : Prop := ∀ t, t < 24 → ∃ w : Nat, w ≤ 9 ∧ DX 21 0 t = nI w ∧ DM 114 0 (24 + t) = nI w
def pR0 (DX DM : pD) (c0 : Nat) : Prop := ∀ i, i < c0 → DM 105 0 (12 + i) = DX 23 0 i
def pR1' (DX DM : pD) (c1 : Nat) : Prop := ∀ i, i < c1 → DM 106 0 (20 + i) = DX 24 0 i
def p25 (DX : pD) : Prop := ∀ p, p < 24 → vp_in (DX 25 0 p) 12
def pR2 (DX DM : pD) (c0 c2 : Nat) : Prop := ∀ p, p < c2 → DM 107 0 (24 + p) = DX 25 0 p ∧ vp_in (DX 25 0 p) c0 ∧ DM 108 0 (24 + p) = DX 26 0 p
def pR3 (DX DM : pD) (c2 c3 : Nat) : Prop := ∀ t, t < c3 → DM 109 0 (20 + t) = DX 27 0 t ∧ DM 110 0 (20 + t) = DX 28 0 t ∧ DM 111 0 (20 + t) = DX 29 0 t ∧ vp_in (DX 27 0 t) c2 ∧ vp_in (DX 28 0 t) c2 ∧ DX 27 0 t ≠ DX 28 0 t
def pR4 (DX DM : pD) (c4 : Nat) : Prop := ∀ h, h < c4 → DM 112 0 (6 + h) = DX 30 0 h ∧ DM 113 0 (6 + h) = DX 31 0 h
def pTd (DX DM : pD) : Prop := (∀ k, k < 5 → bt (DX 17 0 13) (5 + k) = bt (DM 100 0 26) (6 + k)) ∧ DM 100 0 8 = DX 17 0 4 ∧ DM 100 0 9 = DX 17 0 5
def PR0 (DX DM : pD) (c0 c1 c2 c3 c4 : Nat) : Prop := pCn DX DM c0 c1 c2 c3 c4 ∧ pSt_ DX DM ∧ pWt DX DM ∧ pR0 DX DM c0 ∧ pR1' DX DM c1 ∧ p25 DX ∧ pR2 DX DM c0 c2 ∧ pR3 DX DM c2 c3 ∧ pR4 DX DM c4 ∧ pTd DX DM
theorem PR0.fr {DX DX' DM DM' : pD} {c0 c1 c2 c3 c4 : Nat} (h : PR0 DX DM c0 c1 c2 c3 c4) (eX : ∀ k ∈ [19, 20, 21, 23, 24, 25, 26, 27, 28, 29, 30, 31], DX' k 0 = DX k 0) (e17 : ∀ i ∈ [4, 5, 13], DX' 17 0 i = DX 17 0 i) (eM : ∀ k ∈ [102, 105, 106, 107, 108, 109, 110, 111, 112, 113, 114], DM' k 0 = DM k 0) (e100 : ∀ i ∈ [8, 9, 26], DM' 100 0 i = DM 100 0 i) : PR0 DX' DM' c0 c1 c2 c3 c4 := by
  unfold PR0 pCn pSt_ pWt pR0 pR1' p25 pR2 pR3 pR4 pTd at h ⊢
  rw [e17 4 (by decide), e17 5 (by decide), e17 13 (by decide), e100 8 (by decide), e100 9 (by decide), e100 26 (by decide), eX 19 (by decide), eX 20 (by decide), eX 21 (by decide), eX 23 (by decide), eX 24 (by decide), eX 25 (by decide), eX 26 (by decide), eX 27 (by decide), eX 28 (by decide), eX 29 (by decide), eX 30 (by decide), eX 31 (by decide), eM 102 (by decide), eM 105 (by decide), eM 106 (by decide), eM 107 (by decide), eM 108 (by decide), eM 109 (by decide), eM 110 (by decide), eM 111 (by decide), eM 112 (by decide), eM 113 (by decide), eM 114 (by decide)]
  exact h
/-- where the reference's draft begins -/
def loM (k : Nat) : Nat := if k = 102 then 10 else if k = 105 then 12 else if k = 106 then 20 else if k = 107 then 24 else if k = 108 then 24 else if k = 109 then 20 else if k = 110 then 20 else if k = 111 then 20 else if k = 112 then 6 else if k = 113 then 6 else if k = 114 then 24 else 0
def FX (D0 DX : pD) : Prop := Ko [17, 19, 20, 21, 23, 24, 25, 26, 27, 28, 29, 30, 31, 32, 33, 34, 35, 36, 37, 38, 39, 40] D0 DX ∧ p25 DX
def FM (D0 DM : pD) : Prop := Ko [100, 102, 105, 106, 107, 108, 109, 110, 111, 112, 113, 114] D0 DM ∧ (∀ k, k ≠ 100 → ∀ i, i < loM k → DM k 0 i = D0 k 0 i) ∧ (∀ i ∈ [44, 48, 49, 50], DM 100 0 i = D0 100 0 i) ∧ DM 100 0 1 = 0
theorem FX.tr {D0 DX DX' : pD} {ks : List Nat} (h : FX D0 DX) (hk : Ko ks DX DX') (hs : ∀ k ∈ ks, k ∈ [17, 19, 20, 21, 23, 24, 25, 26, 27, 28, 29, 30, 31, 32, 33, 34, 35, 36, 37, 38, 39, 40]) (h25 : 25 ∉ ks := by decide) : FX D0 DX' := ⟨h.1.tr (hk.sub hs), by unfold p25; rw [hk 25 h25]; exact h.2⟩
theorem FM.g {D0 DM DM' : pD} (h : FM D0 DM) (hk : Ko [100] DM DM') (he : ∀ i ∈ [1, 44, 48, 49, 50], DM' 100 0 i = DM 100 0 i) : FM D0 DM' := by
  refine ⟨h.1.tr (hk.sub (by decide)), fun k hk' i hi => ?_, fun i hi => by rw [he i (List.mem_cons_of_mem _ hi), h.2.2.1 i hi], by rw [he 1 (by decide)]; exact h.2.2.2⟩
  rw [hk k (by simp; exact hk'), h.2.1 k hk' i hi]
theorem FM.set {D0 DM : pD} (h : FM D0 DM) {k i : Nat} (x : Int32) (hk : k ∈ [102, 105, 106, 107, 108, 109, 110, 111, 112, 113, 114]) (hi : loM k ≤ i) : FM D0 (dset DM k 0 i x) := by
  have hne : k ≠ 100 := fun z => by rw [z] at hk; revert hk; decide
  refine ⟨h.1.set (by clear hi hne h; revert hk; revert k; decide) _ _ _, fun q hq j hj => ?_, fun j hj => ?_, by rw [dsN hne.symm]; exact h.2.2.2⟩
  · by_cases e : q = k
    · subst e
      rw [dsA, if_neg (by omega), h.2.1 q hq j hj]
    · rw [dsN e, h.2.1 q hq j hj]
  · rw [dsN hne.symm, h.2.2.1 j hj]
theorem PR0.notion {DX DM : pD} {c0 c1 c2 c3 c4 : Nat} (h : PR0 DX DM c0 c1 c2 c3 c4) (hc : c0 < 12) (v : Int32) : PR0 (dset (dset DX 23 0 c0 v) 19 0 0 (nI (c0 + 1))) (dset (dset DM 105 0 (12 + c0) v) 102 0 10 (nI (c0 + 1))) (c0 + 1) c1 c2 c3 c4 := by
  obtain ⟨⟨⟨b0, b1, b2, b3, b4⟩, ⟨x0, x1, x2, x3, x4⟩, ⟨m0, m1, m2, m3, m4⟩⟩, hSt, hWt, h0, h1, h25, h2, h3, h4, hTd⟩ := h
  refine ⟨⟨⟨by omega, b1, b2, b3, b4⟩, ?_, ?_⟩, ?_, ?_, ?_, ?_, ?_, ?_, ?_, ?_, ?_⟩
  · simp (disch := decide) only [dsN, dsA, sNe, if_true, if_false]
    exact ⟨trivial, x1, x2, x3, x4⟩
  · simp (disch := decide) only [dsN, dsA, sNe, if_true, if_false]
    exact ⟨trivial, m1, m2, m3, m4⟩
  · intro k hk
    simp (disch := first | decide | omega) only [dsN, dsA, sNe, if_false]
    exact hSt k hk
  · simp (disch := decide) only [pWt, dsN]
    exact hWt
  · intro i hi
    simp (disch := decide) only [dsN, dsA]
    by_cases e : i = c0
    · rw [if_pos (by omega), if_pos e]
    · rw [if_neg (by omega), if_neg e]
      exact h0 i (by omega)
  · simp (disch := decide) only [pR1', dsN]
    exact h1
  · simp (disch := decide) only [p25, dsN]
    exact h25
  · simp (disch := decide) only [pR2, dsN]
    exact fun p hp => ⟨(h2 p hp).1, in_mono (h2 p hp).2.1 (by omega), (h2 p hp).2.2⟩
  · simp (disch := decide) only [pR3, dsN]
    exact h3
  · simp (disch := decide) only [pR4, dsN]
    exact h4
  · simp (disch := decide) only [pTd, dsN]
    exact hTd
theorem PR0.word {DX DM : pD} {c0 c1 c2 c3 c4 : Nat} (h : PR0 DX DM c0 c1 c2 c3 c4) (hc : c1 < 20) (v : Int32) : PR0 (dset (dset DX 24 0 c1 v) 19 0 1 (nI (c1 + 1))) (dset (dset DM 106 0 (20 + c1) v) 102 0 11 (nI (c1 + 1))) c0 (c1 + 1) c2 c3 c4 := by
  obtain ⟨⟨⟨b0, b1, b2, b3, b4⟩, ⟨x0, x1, x2, x3, x4⟩, ⟨m0, m1, m2, m3, m4⟩⟩, hSt, hWt, h0, h1, h25, h2, h3, h4, hTd⟩ := h
  refine ⟨⟨⟨b0, by omega, b2, b3, b4⟩, ?_, ?_⟩, ?_, ?_, ?_, ?_, ?_, ?_, ?_, ?_, ?_⟩
  · simp (disch := decide) only [dsN, dsA, sNe, if_true, if_false]
    exact ⟨x0, trivial, x2, x3, x4⟩
  · simp (disch := decide) only [dsN, dsA, sNe, if_true, if_false]
    exact ⟨m0, trivial, m2, m3, m4⟩
  · intro k hk
    simp (disch := first | decide | omega) only [dsN, dsA, sNe, if_false]
    exact hSt k hk
  · simp (disch := decide) only [pWt, dsN]
    exact hWt
  · simp (disch := decide) only [pR0, dsN]
    exact h0
  · intro i hi
    simp (disch := decide) only [dsN, dsA]
    by_cases e : i = c1
    · rw [if_pos (by omega), if_pos e]
    · rw [if_neg (by omega), if_neg e]
      exact h1 i (by omega)
  · simp (disch := decide) only [p25, dsN]
    exact h25
  · simp (disch := decide) only [pR2, dsN]
    exact h2
  · simp (disch := decide) only [pR3, dsN]
    exact h3
  · simp (disch := decide) only [pR4, dsN]
    exact h4
  · simp (disch := decide) only [pTd, dsN]
    exact hTd
theorem PR0.place {DX DM : pD} {c0 c1 c2 c3 c4 : Nat} (h : PR0 DX DM c0 c1 c2 c3 c4) (hc : c2 < 24) {w : Nat} (hw : w < c0) (v : Int32) : PR0 (dset (dset (dset DX 25 0 c2 (nI w)) 26 0 c2 v) 19 0 2 (nI (c2 + 1))) (dset (dset (dset DM 107 0 (24 + c2) (nI w)) 108 0 (24 + c2) v) 102 0 12 (nI (c2 + 1))) c0 c1 (c2 + 1) c3 c4 := by
  obtain ⟨⟨⟨b0, b1, b2, b3, b4⟩, ⟨x0, x1, x2, x3, x4⟩, ⟨m0, m1, m2, m3, m4⟩⟩, hSt, hWt, h0, h1, h25, h2, h3, h4, hTd⟩ := h
  refine ⟨⟨⟨b0, b1, by omega, b3, b4⟩, ?_, ?_⟩, ?_, ?_, ?_, ?_, ?_, ?_, ?_, ?_, ?_⟩
  · simp (disch := decide) only [dsN, dsA, sNe, if_true, if_false]
    exact ⟨x0, x1, trivial, x3, x4⟩
  · simp (disch := decide) only [dsN, dsA, sNe, if_true, if_false]
    exact ⟨m0, m1, trivial, m3, m4⟩
  · intro k hk
    simp (disch := first | decide | omega) only [dsN, dsA, sNe, if_false]
    exact hSt k hk
  · simp (disch := decide) only [pWt, dsN]
    exact hWt
  · simp (disch := decide) only [pR0, dsN]
    exact h0
  · simp (disch := decide) only [pR1', dsN]
    exact h1
  · intro p hp
    simp (disch := decide) only [dsN, dsA]
    by_cases e : p = c2
    · rw [if_pos e]
      exact w_in (by omega) (by omega)
    · rw [if_neg e]
      exact h25 p hp
  · intro p hp
    simp (disch := decide) only [dsN, dsA]
    by_cases e : p = c2
    · rw [if_pos (by omega), if_pos e, if_pos (by omega), if_pos e]
      exact ⟨rfl, w_in hw (by omega), rfl⟩
    · rw [if_neg (by omega), if_neg e, if_neg (by omega), if_neg e]
      exact h2 p (by omega)
  · simp (disch := decide) only [pR3, dsN]
    exact fun t ht => ⟨(h3 t ht).1, (h3 t ht).2.1, (h3 t ht).2.2.1, in_mono (h3 t ht).2.2.2.1 (by omega), in_mono (h3 t ht).2.2.2.2.1 (by omega), (h3 t ht).2.2.2.2.2⟩
  · simp (disch := decide) only [pR4, dsN]
    exact h4
  · simp (disch := decide) only [pTd, dsN]
    exact hTd
theorem PR0.tie {DX DM : pD} {c0 c1 c2 c3 c4 : Nat} (h : PR0 DX DM c0 c1 c2 c3 c4) (hc : c3 < 20) {a b : Nat} (ha : a < c2) (hb : b < c2) (hab : a ≠ b) (v : Int32) : PR0 (dset (dset (dset (dset DX 27 0 c3 (nI a)) 28 0 c3 (nI b)) 29 0 c3 v) 19 0 3 (nI (c3 + 1))) (dset (dset (dset (dset DM 109 0 (20 + c3) (nI a)) 110 0 (20 + c3) (nI b)) 111 0 (20 + c3) v) 102 0 13 (nI (c3 + 1))) c0 c1 c2 (c3 + 1) c4 := by
  obtain ⟨⟨⟨b0, b1, b2, b3, b4⟩, ⟨x0, x1, x2, x3, x4⟩, ⟨m0, m1, m2, m3, m4⟩⟩, hSt, hWt, h0, h1, h25, h2, h3, h4, hTd⟩ := h
  refine ⟨⟨⟨b0, b1, b2, by omega, b4⟩, ?_, ?_⟩, ?_, ?_, ?_, ?_, ?_, ?_, ?_, ?_, ?_⟩
  · simp (disch := decide) only [dsN, dsA, sNe, if_true, if_false]
    exact ⟨x0, x1, x2, trivial, x4⟩
  · simp (disch := decide) only [dsN, dsA, sNe, if_true, if_false]
    exact ⟨m0, m1, m2, trivial, m4⟩
  · intro k hk
    simp (disch := first | decide | omega) only [dsN, dsA, sNe, if_false]
    exact hSt k hk
  · simp (disch := decide) only [pWt, dsN]
    exact hWt
  · simp (disch := decide) only [pR0, dsN]
    exact h0
  · simp (disch := decide) only [pR1', dsN]
    exact h1
  · simp (disch := decide) only [p25, dsN]
    exact h25
  · simp (disch := decide) only [pR2, dsN]
    exact h2
  · intro t ht
    simp (disch := decide) only [dsN, dsA]
    by_cases e : t = c3
    · simp (disch := omega) only [e, if_true]
      exact ⟨trivial, trivial, trivial, w_in ha (by omega), w_in hb (by omega), fun z => hab ((iE (by omega) (by omega)).mp z)⟩
    · have e2 : ¬ 20 + t = 20 + c3 := by omega
      simp only [e, e2, if_false]
      exact h3 t (by omega)
  · simp (disch := decide) only [pR4, dsN]
    exact h4
  · simp (disch := decide) only [pTd, dsN]
    exact hTd
theorem PR0.hearer {DX DM : pD} {c0 c1 c2 c3 c4 : Nat} (h : PR0 DX DM c0 c1 c2 c3 c4) (hc : c4 < 6) (v w : Int32) : PR0 (dset (dset (dset DX 30 0 c4 v) 31 0 c4 w) 19 0 4 (nI (c4 + 1))) (dset (dset (dset DM 112 0 (6 + c4) v) 113 0 (6 + c4) w) 102 0 14 (nI (c4 + 1))) c0 c1 c2 c3 (c4 + 1) := by
  obtain ⟨⟨⟨b0, b1, b2, b3, b4⟩, ⟨x0, x1, x2, x3, x4⟩, ⟨m0, m1, m2, m3, m4⟩⟩, hSt, hWt, h0, h1, h25, h2, h3, h4, hTd⟩ := h
  refine ⟨⟨⟨b0, b1, b2, b3, by omega⟩, ?_, ?_⟩, ?_, ?_, ?_, ?_, ?_, ?_, ?_, ?_, ?_⟩
  · simp (disch := decide) only [dsN, dsA, sNe, if_true, if_false]
    exact ⟨x0, x1, x2, x3, trivial⟩
  · simp (disch := decide) only [dsN, dsA, sNe, if_true, if_false]
    exact ⟨m0, m1, m2, m3, trivial⟩
  · intro k hk
    simp (disch := first | decide | omega) only [dsN, dsA, sNe, if_false]
    exact hSt k hk
  · simp (disch := decide) only [pWt, dsN]
    exact hWt
  · simp (disch := decide) only [pR0, dsN]
    exact h0
  · simp (disch := decide) only [pR1', dsN]
    exact h1
  · simp (disch := decide) only [p25, dsN]
    exact h25
  · simp (disch := decide) only [pR2, dsN]
    exact h2
  · simp (disch := decide) only [pR3, dsN]
    exact h3
  · intro i hi
    simp (disch := decide) only [dsN, dsA]
    by_cases e : i = c4
    · simp only [e, if_true, and_self]
    · have e2 : ¬ 6 + i = 6 + c4 := by omega
      simp only [e, e2, if_false]
      exact h4 i (by omega)
  · simp (disch := decide) only [pTd, dsN]
    exact hTd
theorem PR0.setting {DX DM : pD} {c0 c1 c2 c3 c4 : Nat} (h : PR0 DX DM c0 c1 c2 c3 c4) {k v : Nat} (hk : k < 5) (hv : v ≤ 99) : PR0 (dset DX 20 0 k (nI v)) (dset DM 102 0 (15 + k) (nI v)) c0 c1 c2 c3 c4 := by
  obtain ⟨⟨hb, ⟨x0, x1, x2, x3, x4⟩, ⟨m0, m1, m2, m3, m4⟩⟩, hSt, hWt, h0, h1, h25, h2, h3, h4, hTd⟩ := h
  refine ⟨⟨hb, ?_, ?_⟩, ?_, ?_, ?_, ?_, ?_, ?_, ?_, ?_, ?_⟩
  · simp (disch := decide) only [dsN]
    exact ⟨x0, x1, x2, x3, x4⟩
  · simp (disch := omega) only [dsA, sNe, if_false]
    exact ⟨m0, m1, m2, m3, m4⟩
  · intro i hi
    rw [dsA, dsA]
    by_cases e : i = k
    · rw [if_pos e, if_pos (by omega)]
      exact ⟨v, hv, rfl, rfl⟩
    · rw [if_neg e, if_neg (by omega)]
      exact hSt i hi
  · simp (disch := decide) only [pWt, dsN]
    exact hWt
  · simp (disch := decide) only [pR0, dsN]
    exact h0
  · simp (disch := decide) only [pR1', dsN]
    exact h1
  · simp (disch := decide) only [p25, dsN]
    exact h25
  · simp (disch := decide) only [pR2, dsN]
    exact h2
  · simp (disch := decide) only [pR3, dsN]
    exact h3
  · simp (disch := decide) only [pR4, dsN]
    exact h4
  · simp (disch := decide) only [pTd, dsN]
    exact hTd
theorem PR0.weights {DX DX' DM DM' : pD} {c0 c1 c2 c3 c4 : Nat} (h : PR0 DX DM c0 c1 c2 c3 c4) (kx : Ko [21] DX DX') (km : Ko [114] DM DM') (hw : pWt DX' DM') : PR0 DX' DM' c0 c1 c2 c3 c4 := by
  obtain ⟨hCn, hSt, hWt, h0, h1, h25, h2, h3, h4, hTd⟩ := h
  have ex : ∀ k ∈ [17, 19, 20, 23, 24, 25, 26, 27, 28, 29, 30, 31], DX' k 0 = DX k 0 := kx.at (by decide)
  have em : ∀ k ∈ [100, 102, 105, 106, 107, 108, 109, 110, 111, 112, 113], DM' k 0 = DM k 0 := km.at (by decide)
  refine ⟨?_, ?_, hw, ?_, ?_, ?_, ?_, ?_, ?_, ?_⟩
  · unfold pCn at hCn ⊢
    rw [ex 19 (by decide), em 102 (by decide)]
    exact hCn
  · unfold pSt_ at hSt ⊢
    rw [ex 20 (by decide), em 102 (by decide)]
    exact hSt
  · unfold pR0 at h0 ⊢
    rw [ex 23 (by decide), em 105 (by decide)]
    exact h0
  · unfold pR1' at h1 ⊢
    rw [ex 24 (by decide), em 106 (by decide)]
    exact h1
  · unfold p25 at h25 ⊢
    rw [ex 25 (by decide)]
    exact h25
  · unfold pR2 at h2 ⊢
    rw [ex 25 (by decide), ex 26 (by decide), em 107 (by decide), em 108 (by decide)]
    exact h2
  · unfold pR3 at h3 ⊢
    rw [ex 27 (by decide), ex 28 (by decide), ex 29 (by decide), em 109 (by decide), em 110 (by decide), em 111 (by decide)]
    exact h3
  · unfold pR4 at h4 ⊢
    rw [ex 30 (by decide), ex 31 (by decide), em 112 (by decide), em 113 (by decide)]
    exact h4
  · unfold pTd at hTd ⊢
    rw [ex 17 (by decide), em 100 (by decide)]
    exact hTd
/-- names stay -/
theorem nmR.fr {DX DX' : pD} {EM EM' : pDL} {T : Nat → Int32} {n B F cnt : Nat} (h : nmR DX EM T n B F cnt) (e0 : DX' B 0 = DX B 0) (e1 : DX' (B + 1) 0 = DX (B + 1) 0) (e2 : DX' (B + 2) 0 = DX (B + 2) 0) (eE : ∀ i, i < cnt → EM' 103 (F + i) = EM 103 (F + i) ∧ EM' 104 (F + i) = EM 104 (F + i)) : nmR DX' EM' T n B F cnt := by
  obtain ⟨h1, h2⟩ := h
  refine ⟨by rw [e0]; exact h1, fun i hi => ?_⟩
  obtain ⟨a, b, q1, q2, q3, q4, q5⟩ := h2 i hi
  exact ⟨a, b, by rw [e1]; exact q1, by rw [e2]; exact q2, q3, by rw [(eE i hi).1]; exact q4, by rw [(eE i hi).2]; exact q5⟩
/-- both readers, after some names -/
def Rd (T : Nat → Int32) (n : Nat) (D0 DX DM : pD) (EM : pDL) (c0 c1 c2 c3 c4 b0 b1 b4 : Nat) : Prop := XB T n DX ∧ MB T n DM ∧ PR0 DX DM c0 c1 c2 c3 c4 ∧ nmR DX EM T n 32 0 b0 ∧ nmR DX EM T n 35 20 b1 ∧ nmR DX EM T n 38 40 b4 ∧ FX D0 DX ∧ FM D0 DM
theorem Rd.g {T : Nat → Int32} {n : Nat} {D0 DX DX' DM DM' : pD} {EM EM' : pDL} {c0 c1 c2 c3 c4 b0 b1 b4 e : Nat} {xs ys : List Nat} (h : Rd T n D0 DX DM EM c0 c1 c2 c3 c4 b0 b1 b4) (hx : xG DX DX' e xs) (hm : mG DM DM' EM EM' ys) (ix : ∀ i ∈ [4, 5, 6, 7, 13], i ∉ xs) (iy : ∀ i ∈ [1, 2, 8, 9, 26, 44, 48, 49, 50], i ∉ ys) : Rd T n D0 DX' DM' EM' c0 c1 c2 c3 c4 b0 b1 b4 := by
  obtain ⟨g1, g2, g3, g4, g5, g6, g7, g8⟩ := h
  have e3 := hm.2.2 103 (by decide)
  have e4 := hm.2.2 104 (by decide)
  refine ⟨g1.g hx (ix 6 (by decide)) (ix 7 (by decide)), g2.g hm (iy 2 (by decide)), g3.fr (hx.1.at (by decide)) (fun i hi => hx.2.2 i (by revert hi; simp; omega) (ix i (by revert hi; simp; omega))) (hm.1.at (by decide)) (fun i hi => hm.2.1 i (by revert hi; simp; omega) (iy i (by revert hi; simp; omega))), ?_, ?_, ?_, g7.tr hx.1 (by decide), g8.g hm.1 (fun i hi => hm.2.1 i (by revert hi; simp; omega) (iy i (by revert hi; simp; omega)))⟩
  · exact g4.fr (by rw [hx.1 _ (by decide)]) (by rw [hx.1 _ (by decide)]) (by rw [hx.1 _ (by decide)]) fun i _ => by rw [e3, e4]; exact ⟨rfl, rfl⟩
  · exact g5.fr (by rw [hx.1 _ (by decide)]) (by rw [hx.1 _ (by decide)]) (by rw [hx.1 _ (by decide)]) fun i _ => by rw [e3, e4]; exact ⟨rfl, rfl⟩
  · exact g6.fr (by rw [hx.1 _ (by decide)]) (by rw [hx.1 _ (by decide)]) (by rw [hx.1 _ (by decide)]) fun i _ => by rw [e3, e4]; exact ⟨rfl, rfl⟩
theorem Rd.upd {T : Nat → Int32} {n : Nat} {D0 DX DX' DM DM' : pD} {EM : pDL} {c0 c1 c2 c3 c4 b0 b1 b4 d0 d1 d2 d3 d4 : Nat} (h : Rd T n D0 DX DM EM c0 c1 c2 c3 c4 b0 b1 b4) (hx : Ko [19, 20, 21, 23, 24, 25, 26, 27, 28, 29, 30, 31] DX DX') (hm : Ko [102, 105, 106, 107, 108, 109, 110, 111, 112, 113, 114] DM DM') (hp : PR0 DX' DM' d0 d1 d2 d3 d4) (hf : FM D0 DM') : Rd T n D0 DX' DM' EM d0 d1 d2 d3 d4 b0 b1 b4 := by
  obtain ⟨g1, g2, g3, g4, g5, g6, g7, g8⟩ := h
  refine ⟨⟨by rw [hx 2 (by decide)]; exact g1.1, by rw [hx.c (by decide)]; exact g1.2.1, by rw [hx.c (by decide)]; exact g1.2.2⟩, ⟨by rw [hm.c (by decide)]; exact g2.1, fun i hi => by rw [hm.c (by decide)]; exact g2.2 i hi⟩, hp, ?_, ?_, ?_, ⟨g7.1.tr (hx.sub (by decide)), hp.2.2.2.2.2.1⟩, hf⟩
  · exact g4.fr (by rw [hx _ (by decide)]) (by rw [hx _ (by decide)]) (by rw [hx _ (by decide)]) fun i _ => ⟨rfl, rfl⟩
  · exact g5.fr (by rw [hx _ (by decide)]) (by rw [hx _ (by decide)]) (by rw [hx _ (by decide)]) fun i _ => ⟨rfl, rfl⟩
  · exact g6.fr (by rw [hx _ (by decide)]) (by rw [hx _ (by decide)]) (by rw [hx _ (by decide)]) fun i _ => ⟨rfl, rfl⟩
theorem lxA.fr {T : Nat → Int32} {n q : Nat} {D D' : pD} {E : pDL} {ks : List Nat} (h : lxA T n D E q) (hk : Ko ks D D') (hi : 100 ∉ ks) : lxA T n D' E q := by
  obtain ⟨s, e, c, t, l⟩ := h
  refine ⟨s, e, c, t, ?_⟩
  unfold lxM at l ⊢
  rw [hk 100 hi]
  exact l
theorem Rd.nn {T : Nat → Int32} {n : Nat} {D0 DX DX' DM DM' : pD} {EM EM' : pDL} {c0 c1 c2 c3 c4 : Nat} (h : Rd T n D0 DX DM EM c0 c1 c2 c3 c4 c0 c1 c4) (hc : c0 < 12) (kx : Ko [17, 32, 33, 34] DX DX') (hxb : XB T n DX') (h13 : ∀ i, i ∉ [8, 9, 10] → DX' 17 0 i = DX 17 0 i) (km : Ko [100] DM DM') (h100 : ∀ i, i ∉ [3, 4, 5, 6, 7] → DM' 100 0 i = DM 100 0 i) (hE : ∀ i, i ≠ 0 + c0 → EM' 103 i = EM 103 i ∧ EM' 104 i = EM 104 i) (hr : nmR DX' EM' T n 32 0 (c0 + 1)) : Rd T n D0 DX' DM' EM' c0 c1 c2 c3 c4 (c0 + 1) (c1) (c4) := by
  obtain ⟨g1, g2, g3, g4, g5, g6, g7, g8⟩ := h
  obtain ⟨b0, b1, b2, b3, b4⟩ := g3.1.1
  exact ⟨hxb, ⟨by rw [h100 2 (by decide)]; exact g2.1, fun i hi => by rw [km.c (by decide)]; exact g2.2 i hi⟩, g3.fr (kx.at (by decide)) (fun i hi => h13 i (by revert hi; simp; omega)) (km.at (by decide)) (fun i hi => h100 i (by revert hi; simp; omega)), hr, g5.fr (by rw [kx _ (by decide)]) (by rw [kx _ (by decide)]) (by rw [kx _ (by decide)]) (fun i hi => by rw [(hE (20 + i) (by omega)).1, (hE (20 + i) (by omega)).2]; exact ⟨rfl, rfl⟩), g6.fr (by rw [kx _ (by decide)]) (by rw [kx _ (by decide)]) (by rw [kx _ (by decide)]) (fun i hi => by rw [(hE (40 + i) (by omega)).1, (hE (40 + i) (by omega)).2]; exact ⟨rfl, rfl⟩), g7.tr kx (by decide), g8.g km (fun i hi => h100 i (by revert hi; simp; omega))⟩
theorem Rd.nw {T : Nat → Int32} {n : Nat} {D0 DX DX' DM DM' : pD} {EM EM' : pDL} {c0 c1 c2 c3 c4 : Nat} (h : Rd T n D0 DX DM EM c0 c1 c2 c3 c4 c0 c1 c4) (hc : c1 < 20) (kx : Ko [17, 35, 36, 37] DX DX') (hxb : XB T n DX') (h13 : ∀ i, i ∉ [8, 9, 10] → DX' 17 0 i = DX 17 0 i) (km : Ko [100] DM DM') (h100 : ∀ i, i ∉ [3, 4, 5, 6, 7] → DM' 100 0 i = DM 100 0 i) (hE : ∀ i, i ≠ 20 + c1 → EM' 103 i = EM 103 i ∧ EM' 104 i = EM 104 i) (hr : nmR DX' EM' T n 35 20 (c1 + 1)) : Rd T n D0 DX' DM' EM' c0 c1 c2 c3 c4 (c0) (c1 + 1) (c4) := by
  obtain ⟨g1, g2, g3, g4, g5, g6, g7, g8⟩ := h
  obtain ⟨b0, b1, b2, b3, b4⟩ := g3.1.1
  exact ⟨hxb, ⟨by rw [h100 2 (by decide)]; exact g2.1, fun i hi => by rw [km.c (by decide)]; exact g2.2 i hi⟩, g3.fr (kx.at (by decide)) (fun i hi => h13 i (by revert hi; simp; omega)) (km.at (by decide)) (fun i hi => h100 i (by revert hi; simp; omega)), g4.fr (by rw [kx _ (by decide)]) (by rw [kx _ (by decide)]) (by rw [kx _ (by decide)]) (fun i hi => by rw [(hE (0 + i) (by omega)).1, (hE (0 + i) (by omega)).2]; exact ⟨rfl, rfl⟩), hr, g6.fr (by rw [kx _ (by decide)]) (by rw [kx _ (by decide)]) (by rw [kx _ (by decide)]) (fun i hi => by rw [(hE (40 + i) (by omega)).1, (hE (40 + i) (by omega)).2]; exact ⟨rfl, rfl⟩), g7.tr kx (by decide), g8.g km (fun i hi => h100 i (by revert hi; simp; omega))⟩
theorem Rd.nh {T : Nat → Int32} {n : Nat} {D0 DX DX' DM DM' : pD} {EM EM' : pDL} {c0 c1 c2 c3 c4 : Nat} (h : Rd T n D0 DX DM EM c0 c1 c2 c3 c4 c0 c1 c4) (hc : c4 < 6) (kx : Ko [17, 38, 39, 40] DX DX') (hxb : XB T n DX') (h13 : ∀ i, i ∉ [8, 9, 10] → DX' 17 0 i = DX 17 0 i) (km : Ko [100] DM DM') (h100 : ∀ i, i ∉ [3, 4, 5, 6, 7] → DM' 100 0 i = DM 100 0 i) (hE : ∀ i, i ≠ 40 + c4 → EM' 103 i = EM 103 i ∧ EM' 104 i = EM 104 i) (hr : nmR DX' EM' T n 38 40 (c4 + 1)) : Rd T n D0 DX' DM' EM' c0 c1 c2 c3 c4 (c0) (c1) (c4 + 1) := by
  obtain ⟨g1, g2, g3, g4, g5, g6, g7, g8⟩ := h
  obtain ⟨b0, b1, b2, b3, b4⟩ := g3.1.1
  exact ⟨hxb, ⟨by rw [h100 2 (by decide)]; exact g2.1, fun i hi => by rw [km.c (by decide)]; exact g2.2 i hi⟩, g3.fr (kx.at (by decide)) (fun i hi => h13 i (by revert hi; simp; omega)) (km.at (by decide)) (fun i hi => h100 i (by revert hi; simp; omega)), g4.fr (by rw [kx _ (by decide)]) (by rw [kx _ (by decide)]) (by rw [kx _ (by decide)]) (fun i hi => by rw [(hE (0 + i) (by omega)).1, (hE (0 + i) (by omega)).2]; exact ⟨rfl, rfl⟩), g5.fr (by rw [kx _ (by decide)]) (by rw [kx _ (by decide)]) (by rw [kx _ (by decide)]) (fun i hi => by rw [(hE (20 + i) (by omega)).1, (hE (20 + i) (by omega)).2]; exact ⟨rfl, rfl⟩), hr, g7.tr kx (by decide), g8.g km (fun i hi => h100 i (by revert hi; simp; omega))⟩
/-- both readers stand at q -/
def Sd (T : Nat → Int32) (n : Nat) (D0 DX DM : pD) (EM : pDL) (q c0 c1 c2 c3 c4 : Nat) : Prop := Rd T n D0 DX DM EM c0 c1 c2 c3 c4 c0 c1 c4 ∧ DX 17 0 9 = nI q ∧ q ≤ n ∧ lxA T n DM EM q
/-- both readers have refused, alike -/
def Fl (D0 DX DM : pD) : Prop := FX D0 DX ∧ FM D0 DM ∧ DM 100 0 8 = DX 17 0 4 ∧ DM 100 0 9 = DX 17 0 5
theorem Fl.of {D0 DX DX' DM DM' : pD} {f s : Nat} (hx : FX D0 DX) (hm : FM D0 DM) (h1 : xF DX DX' f s) (h2 : mF DM DM' f s) : Fl D0 DX' DM' := ⟨hx.tr h1.1 (by decide), hm.g h2.1 (fun i hi => h2.2.1 i (by revert hi; simp; omega) (by revert hi; simp; omega)), by rw [h1.2.1, h2.2.2.1], by rw [h1.2.2, h2.2.2.2]⟩
theorem Fl.name {D0 DX DX' DM DM' : pD} {f s : Nat} (hx : FX D0 DX) (hm : FM D0 DM) (h1 : xF DX DX' f s) (km : Ko [100] DM DM') (h100 : ∀ i, i ∉ [3, 4, 5, 6, 7, 8, 9] → DM' 100 0 i = DM 100 0 i) (m8 : DM' 100 0 8 = nI f) (m9 : DM' 100 0 9 = nI s) : Fl D0 DX' DM' := ⟨hx.tr h1.1 (by decide), hm.g km (fun i hi => h100 i (by revert hi; simp; omega)), by rw [h1.2.1, m8], by rw [h1.2.2, m9]⟩
/-- what a clause's body comes to -/
def OutB (T : Nat → Int32) (n : Nat) (D0 : pD) (E : pDL) (q : Nat) (BX BM : Option pRes) : Prop := (∃ DX' DM' EM' q' c0 c1 c2 c3 c4, BX = some (some (.inl 1), DX', E) ∧ BM = some (some (.inl 1), DM', EM') ∧ Sd T n D0 DX' DM' EM' q' c0 c1 c2 c3 c4 ∧ q ≤ q') ∨ ∃ DX' DM' EM', BX = some (some (.inl 0), DX', E) ∧ BM = some (some (.inl 0), DM', EM') ∧ Fl D0 DX' DM'
