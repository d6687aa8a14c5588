/-! THE TEXT: book -/
theorem lxA.g {T : Nat → Int32} {n q : Nat} {D D' : pD} {E : pDL} (h : lxA T n D E q) (e : ∀ i ∈ [3, 4, 5, 6, 7], D' 100 0 i = D 100 0 i) : lxA T n D' E q := by
  obtain ⟨s, e', c, t, l⟩ := h
  refine ⟨s, e', c, t, ?_⟩
  unfold lxM at l ⊢
  rw [e 3 (by decide), e 4 (by decide), e 5 (by decide), e 6 (by decide), e 7 (by decide)]
  exact l
theorem both_begin {D : pD} {E : pDL} {n : Nat} (hn : n ≤ 1200) (t1 : D 1 0 1 = nI n) (t2 : D 100 0 1 = nI n) (t3 : ∀ i, i < n → D 101 0 i = D 2 0 i ∧ (D 2 0 i).toInt8.toInt32 = D 2 0 i) (t4 : p25 D) : ∃ DX DM EM, Re_begin D E = some (none, DX, E) ∧ Mo_book D E = Mo_book_38 0 DM EM ∧ Sd (D 2 0) n D DX DM EM 0 0 0 0 0 0 := by
  obtain ⟨DX, x1, xk, x2, x3, x4, x5, x6⟩ := X_begin_ D E
  generalize hA : dset (dset (dset D 100 0 2 (D 100 0 1)) 100 0 1 0) 100 0 6 0 = A
  have kA : Ko [100] D A := by
    rw [← hA]
    exact ((Ko.rf.set (by decide) _ _ _).set (by decide) _ _ _).set (by decide) _ _ _
  have iA : ∀ i, i ∉ [1, 2, 6] → A 100 0 i = D 100 0 i := by
    intro i hi
    simp only [List.mem_cons, List.not_mem_nil, or_false, not_or] at hi
    rw [← hA, dsA, if_neg hi.2.2, dsA, if_neg hi.1, dsA, if_neg hi.2.1]
  have A2 : A 100 0 2 = nI n := by
    rw [← hA, dsA, if_neg (by decide), dsA, if_neg (by decide), dsA, if_pos rfl, t2]
  have A1 : A 100 0 1 = 0 := by rw [← hA, dsA, if_neg (by decide), dsA, if_pos rfl]
  have A6 : A 100 0 6 = nI 0 := by rw [← hA, dsA, if_pos rfl]; rfl
  have mA : MB (D 2 0) n A := ⟨A2, fun i hi => by rw [kA.c (by decide)]; exact (t3 i hi).1⟩
  obtain ⟨B, EB, b1, b2, b3⟩ := M_next (E := E) hn (fun i hi => (t3 i hi).2) mA A6 (Nat.zero_le _)
  generalize hC : dset (dset B 100 0 8 0) 100 0 9 (-1) = C
  have kC : Ko [100] B C := by
    rw [← hC]
    exact (Ko.rf.set (by decide) _ _ _).set (by decide) _ _ _
  have iC' : ∀ i, i ∉ [8, 9] → C 100 0 i = B 100 0 i := by
    intro i hi
    simp only [List.mem_cons, List.not_mem_nil, or_false, not_or] at hi
    rw [← hC, dsA, if_neg hi.2, dsA, if_neg hi.1]
  obtain ⟨M, m1, mk, m2, m3, m4, m5, m6, m7, m8⟩ := M_begin C EB
  have kM : Ko [100, 102, 114] D M := ((kA.sub (by decide)).tr (b2.1.sub (by decide))).tr ((kC.sub (by decide)).tr mk)
  have iM' : ∀ i, i ∉ [1, 2, 3, 4, 5, 6, 7, 8, 9, 26] → M 100 0 i = D 100 0 i := by
    intro i hi
    simp only [List.mem_cons, List.not_mem_nil, or_false, not_or] at hi
    obtain ⟨q1, q2, q3, q4, q5, q6, q7, q8, q9, q10⟩ := hi
    rw [m2 i q10, iC' i (by simp; exact ⟨q8, q9⟩), b2.2.1 i (by simp; exact ⟨q3, q4, q5, q6, q7⟩) (by simp), iA i (by simp; exact ⟨q1, q2, q6⟩)]
  have M2 : M 100 0 2 = nI n := by rw [m2 2 (by decide), iC' 2 (by decide), b2.2.1 2 (by decide) (by simp), A2]
  have M1 : M 100 0 1 = 0 := by rw [m2 1 (by decide), iC' 1 (by decide), b2.2.1 1 (by decide) (by simp), A1]
  have M8 : M 100 0 8 = 0 := by rw [m2 8 (by decide), ← hC, dsA, if_neg (by decide), dsA, if_pos rfl]
  have M9 : M 100 0 9 = -1 := by rw [m2 9 (by decide), ← hC, dsA, if_pos rfl]
  have p25X : p25 DX := by
    unfold p25
    rw [xk 25 (by decide)]
    exact t4
  have lo102 : ∀ i, i < 10 → M 102 0 i = D 102 0 i := fun i hi => by rw [m4 i hi, kC.c (by decide), b2.1.c (by decide), kA.c (by decide)]
  have lo114 : ∀ i, i < 24 → M 114 0 i = D 114 0 i := fun i hi => by rw [m7 i hi, kC.c (by decide), b2.1.c (by decide), kA.c (by decide)]
  refine ⟨DX, M, EB, x1, ?_, ⟨⟨⟨by rw [xk 2 (by decide)], x6.2.2.1, by rw [x6.2.2.2.1, t1]⟩, ⟨M2, fun i hi => by rw [kM.c (by decide)]; exact (t3 i hi).1⟩, ⟨⟨⟨by omega, by omega, by omega, by omega, by omega⟩, ⟨x2 0 (by omega), x2 1 (by omega), x2 2 (by omega), x2 3 (by omega), x2 4 (by omega)⟩, ⟨m5 0 (by omega), m5 1 (by omega), m5 2 (by omega), m5 3 (by omega), m5 4 (by omega)⟩⟩, ?_, fun t ht => ⟨1, by omega, x4 t ht, m8 t ht⟩, fun i hi => absurd hi (Nat.not_lt_zero _), fun i hi => absurd hi (Nat.not_lt_zero _), p25X, fun i hi => absurd hi (Nat.not_lt_zero _), fun i hi => absurd hi (Nat.not_lt_zero _), fun i hi => absurd hi (Nat.not_lt_zero _), ⟨fun k hk => by rw [x6.2.2.2.2.2, m3, b_0, b_0], by rw [x6.1, M8], by rw [x6.2.1, M9]⟩⟩, ⟨x5.1, fun i hi => absurd hi (Nat.not_lt_zero _)⟩, ⟨x5.2.1, fun i hi => absurd hi (Nat.not_lt_zero _)⟩, ⟨x5.2.2, fun i hi => absurd hi (Nat.not_lt_zero _)⟩, ⟨xk.sub (by decide), p25X⟩, ⟨kM.sub (by decide), fun k hk i hi => ?_, fun i hi => iM' i (by revert hi; simp; omega), M1⟩⟩, x6.2.2.2.2.1, Nat.zero_le _, b3.g fun i hi => ?_⟩⟩
  · rw [e_Mo_book, hA, b1, B0s, hC, m1, B0s]
  · intro k hk
    obtain ⟨y0, y1, y2, y3, y4⟩ := x3
    obtain ⟨z0, z1, z2, z3, z4⟩ := m6
    rcases lt5 hk with rfl | rfl | rfl | rfl | rfl
    · exact ⟨2, by omega, y0, z0⟩
    · exact ⟨1, by omega, y1, z1⟩
    · exact ⟨5, by omega, y2, z2⟩
    · exact ⟨1, by omega, y3, z3⟩
    · exact ⟨6, by omega, y4, z4⟩
  · by_cases e2 : k = 102
    · subst e2
      exact lo102 i hi
    · by_cases e3 : k = 114
      · subst e3
        exact lo114 i hi
      · rw [kM.c (by simp; exact ⟨hk, e2, e3⟩)]
  · rw [m2 i (by revert hi; simp; omega), iC' i (by revert hi; simp; omega)]
/-- a book that only lost its upper halves -/
theorem iBook.pt {cN cW cP cT cH : Nat} {D D' : pD} (h : iBook cN cW cP cT cH D) (e : ∀ k ∈ [4, 5, 6, 7, 8, 9, 10, 11, 12, 13, 14, 15, 16], D' k 0 = D k 0) (f : ∀ k, k ≠ 100 → 100 ≤ k → ∀ i, i < loM k → D' k 0 i = D k 0 i) : iBook cN cW cP cT cH D' := by
  obtain ⟨⟨⟨n1, n2, n3, n4, n5⟩, ⟨a1, a2, a3, a4, a5⟩, ⟨b1, b2, b3, b4, b5⟩⟩, hS, hW, hGS, r1, r2, r3, r4, r5, r6⟩ := h
  have g102 : ∀ i, i < 10 → D' 102 0 i = D 102 0 i := fun i hi => f 102 (by decide) (by decide) i hi
  refine ⟨⟨⟨n1, n2, n3, n4, n5⟩, ?_, ?_⟩, ?_, ?_, ?_, ?_, ?_, ?_, ?_, ?_, ?_⟩
  · rw [e 4 (by decide)]
    exact ⟨a1, a2, a3, a4, a5⟩
  · rw [g102 0 (by decide), g102 1 (by decide), g102 2 (by decide), g102 3 (by decide), g102 4 (by decide)]
    exact ⟨b1, b2, b3, b4, b5⟩
  · intro k hk
    rw [e 5 (by decide), g102 (5 + k) (by omega)]
    exact hS k hk
  · intro t ht
    rw [e 6 (by decide), f 114 (by decide) (by decide) t ht]
    exact hW t ht
  · unfold GS
    rw [e 6 (by decide), e 7 (by decide)]
    exact hGS
  · intro i hi
    rw [e 8 (by decide), f 105 (by decide) (by decide) i (show i < 12 by omega)]
    exact r1 i hi
  · intro i hi
    rw [e 9 (by decide), f 106 (by decide) (by decide) i (show i < 20 by omega)]
    exact r2 i hi
  · rw [e 10 (by decide)]
    exact r3
  · intro i hi
    rw [e 10 (by decide), e 11 (by decide), f 107 (by decide) (by decide) i (show i < 24 by omega), f 108 (by decide) (by decide) i (show i < 24 by omega)]
    exact r4 i hi
  · intro i hi
    rw [e 12 (by decide), e 13 (by decide), e 14 (by decide), f 109 (by decide) (by decide) i (show i < 20 by omega), f 110 (by decide) (by decide) i (show i < 20 by omega), f 111 (by decide) (by decide) i (show i < 20 by omega)]
    exact r5 i hi
  · intro i hi
    rw [e 15 (by decide), e 16 (by decide), f 112 (by decide) (by decide) i (show i < 6 by omega), f 113 (by decide) (by decide) i (show i < 6 by omega)]
    exact r6 i hi
theorem Inv.lost {D DX DM : pD} (h : Inv D) (hf : Fl D DX DM) : Inv (cmb (dset DX 1 0 1 0) DM) := by
  obtain ⟨cN, cW, cP, cT, cH, hT, hF, hB, hN, hK, hG, hY, hL⟩ := h
  obtain ⟨⟨fx, f25⟩, ⟨fm, fl, f44, f1⟩, q8, q9⟩ := hf
  have cx : ∀ k, k < 100 → k ≠ 1 → k ∉ [17, 19, 20, 21, 23, 24, 25, 26, 27, 28, 29, 30, 31, 32, 33, 34, 35, 36, 37, 38, 39, 40] → cmb (dset DX 1 0 1 0) DM k 0 = D k 0 := by
    intro k k1 k2 k3
    rw [cmb_x k1, dsN k2, fx k k3]
  have cm : ∀ k, ¬ k < 100 → k ∉ [100, 102, 105, 106, 107, 108, 109, 110, 111, 112, 113, 114] → cmb (dset DX 1 0 1 0) DM k 0 = D k 0 := by
    intro k k1 k3
    rw [cmb_m k1, fm k k3]
  have c100 : ∀ i, cmb (dset DX 1 0 1 0) DM 100 0 i = DM 100 0 i := fun i => by rw [cmb_m (by decide)]
  have call : ∀ l : List Nat, (∀ k ∈ l, k ≠ 1 ∧ k ∉ [17, 19, 20, 21, 23, 24, 25, 26, 27, 28, 29, 30, 31, 32, 33, 34, 35, 36, 37, 38, 39, 40] ∧ k ∉ [100, 102, 105, 106, 107, 108, 109, 110, 111, 112, 113, 114]) → ∀ k ∈ l, cmb (dset DX 1 0 1 0) DM k 0 = D k 0 := by
    intro l hl k hk
    by_cases z : k < 100
    · exact cx k z (hl k hk).1 (hl k hk).2.1
    · exact cm k z (hl k hk).2.2
  refine ⟨cN, cW, cP, cT, cH, ⟨0, by omega, ?_, ?_, fun i hi => absurd hi (Nat.not_lt_zero _), ?_⟩, ⟨?_, ?_⟩, hB.pt (call _ (by decide)) ?_, hN.fr (call _ (by decide)), hK.fr (call _ (by decide)), hG.fr (call _ (by decide)), hY.fr (call _ (by decide)) ?_ ?_, hL.fr (call _ (by decide)) ?_ ?_ ?_ ?_ ?_ ?_⟩
  · rw [cmb_x (by decide), dsA, if_pos rfl]
    rfl
  · rw [c100, f1]
    rfl
  · rw [cmb_x (by decide), dsN (by decide)]
    exact f25
  · rw [c100, cmb_x (by decide), dsN (by decide)]
    exact q8
  · rw [c100, cmb_x (by decide), dsN (by decide)]
    exact q9
  · intro k k1 k2 i hi
    rw [cmb_m (by omega)]
    exact fl k k1 i hi
  · rw [cx 59 (by decide) (by decide) (by decide)]
  · rw [c100, f44 44 (by decide)]
  · rw [cx 65 (by decide) (by decide) (by decide)]
  · rw [cx 65 (by decide) (by decide) (by decide)]
  · rw [cx 65 (by decide) (by decide) (by decide)]
  · rw [c100, f44 48 (by decide)]
  · rw [c100, f44 49 (by decide)]
  · rw [c100, f44 50 (by decide)]
theorem gS_0 (w : Nat → Int32) (g : Nat) : gS w g 0 = 0 := by
  unfold gS
  have : ∀ n, iS (fun j => if (0 : Nat).testBit j = true then w (6 * g + j) else 0) n = 0 := by
    intro n
    induction n with
    | zero => rfl
    | succ n ih => rw [iS, ih]; simp
  exact this 6
theorem L_book (D : pD) (E : pDL) (h : Inv D) : Same D E Hb_book Mo_book := by
  have hh := h
  obtain ⟨cN, cW, cP, cT, cH, ⟨n, hn, t1, t2, t3, t4⟩, hF, hB, hN, hK, hG, hY, hL⟩ := h
  have hX : isX Hb_book := ⟨_, _, _, _, by repeat first | exact okL_nil | refine okL_n ?_ | refine okL_i ?_ | refine okL_r (by decide) ?_, fun _ _ => rfl⟩
  have hM : isM Mo_book := ⟨_, _, _, _, by repeat first | exact okL_nil | refine okL_n ?_ | refine okL_i ?_ | refine okL_r (by decide) ?_, fun _ _ => rfl⟩
  obtain ⟨DX, DM, EM, x1, m1, hs⟩ := both_begin (E := E) hn t1 t2 t3 t4
  rcases both_loop (E := E) (D0 := D) hn (fun i hi => (t3 i hi).2) n 0 0 DX DM EM 0 0 0 0 0 (by omega) (Nat.le_refl _) hs with ⟨j, DX', DM', EM', c0, c1, c2, c3, c4, hj, e1, e2, R⟩ | ⟨DX', DM', EM', e1, e2, hf⟩
  · have eR : Re_read D E = some (some (.inl (nI j)), DX', E) := by
      rw [e_Re_read, x1, B0s]
      exact e1
    obtain ⟨rx, rm, ⟨⟨⟨n0, n1, n2, n3, n4⟩, ⟨p0, p1, p2, p3, p4⟩, ⟨w0, w1, w2, w3, w4⟩⟩, hSt, hWt, h0, h1, h25, h2, h3, h4, hTd, hf8, hf9⟩, -, -, -, ⟨fx, -⟩, ⟨fm, fl, f44, f1⟩⟩ := R
    have z7 : ∀ g, g < 4 → dset DX' 1 0 1 0 7 0 (64 * g) = 0 := by
      intro g hg
      rw [dsN (by decide), fx.c (by decide)]
      have := hB.2.2.2.1 g hg 0 (by omega)
      rw [Nat.add_zero] at this
      rw [this, gS_0]
    obtain ⟨DY, y1, yk, yG, y4, y5, y6, y8, y9, y10, y11, y12, y13, y14, y15, y16⟩ := X_copyFrom (dset DX' 1 0 1 0) E z7
    obtain ⟨DZ, u1, uk, u43, u49, u58, u59, u65, u66, u67⟩ := X_clears (nI j) DY E
    obtain ⟨DS, s1, sk, s100, ⟨s44, s48, s49, s50⟩, s115, s125, s131, v102, v105, v106, v107, v108, v109, v110, v111, v112, v113, v114⟩ := M_settle DM' EM'
    have fX : Hb_book D E = some (some (.inl (nI j)), DZ, E) := by
      rw [e_Hb_book, eR, B1s, if_neg (iM (by omega)), y1, B0s]
      exact u1
    have fM : Mo_book D E = some (some (.inl (nI j)), DS, EM') := by
      rw [m1, show Mo_book_38 0 DM EM = _ from e2, s1, B0s]
    refine Bo.of hX hM fX fM ⟨c0, c1, c2, c3, c4, ?_, ?_, ?_, ?_, ?_, ?_, ?_, ?_⟩
    · refine ⟨0, by omega, ?_, ?_, fun i hi => absurd hi (Nat.not_lt_zero _), ?_⟩
      · rw [cmb_x (by decide), uk.c (by decide), yk.c (by decide), dsA, if_pos rfl]
        rfl
      · rw [cmb_m (by decide), s100 1 (by decide), f1]
        rfl
      · rw [cmb_x (by decide), uk 25 (by decide), yk 25 (by decide), dsN (by decide)]
        exact h25
    · refine ⟨?_, ?_⟩
      · rw [cmb_m (by decide), cmb_x (by decide), s100 8 (by decide), uk.c (by decide), yk.c (by decide), dsN (by decide)]
        exact hf8
      · rw [cmb_m (by decide), cmb_x (by decide), s100 9 (by decide), uk.c (by decide), yk.c (by decide), dsN (by decide)]
        exact hf9
    · have A : ∀ k ∈ [4, 5, 6, 7, 8, 9, 10, 11, 12, 13, 14, 15, 16], cmb DZ DS k 0 = DY k 0 := by
        intro k hk
        have : k < 100 ∧ k ∉ [43, 44, 45, 46, 47, 49, 58, 59, 65] := by
          revert hk
          simp
          omega
        rw [cmb_x this.1, uk k this.2]
      have B : ∀ k, ¬ k < 100 → cmb DZ DS k = DS k := fun k hk => cmb_m hk
      have zn : ∀ k, k ≠ 1 → ∀ i, dset DX' 1 0 1 0 k 0 i = DX' k 0 i := fun k hk i => by rw [dsN hk]
      refine ⟨⟨⟨n0, n1, n2, n3, n4⟩, ?_, ?_⟩, ?_, ?_, ?_, ?_, ?_, ?_, ?_, ?_, ?_⟩
      · rw [A 4 (by decide), y4 0 (by decide), y4 1 (by decide), y4 2 (by decide), y4 3 (by decide), y4 4 (by decide), zn 19 (by decide), zn 19 (by decide), zn 19 (by decide), zn 19 (by decide), zn 19 (by decide)]
        exact ⟨p0, p1, p2, p3, p4⟩
      · rw [B 102 (by decide), v102 0 (by decide), v102 1 (by decide), v102 2 (by decide), v102 3 (by decide), v102 4 (by decide)]
        exact ⟨w0, w1, w2, w3, w4⟩
      · intro k hk
        rw [A 5 (by decide), B 102 (by decide), y5 k hk, zn 20 (by decide), v102 (5 + k) (by omega), show 10 + (5 + k) = 15 + k by omega]
        exact hSt k hk
      · intro t ht
        rw [A 6 (by decide), B 114 (by decide), y6 t ht, zn 21 (by decide), v114 t ht]
        exact hWt t ht
      · unfold GS
        rw [A 6 (by decide), A 7 (by decide)]
        exact yG
      · intro i hi
        rw [A 8 (by decide), B 105 (by decide), y8 i (by omega), zn 23 (by decide), v105 i (by omega)]
        exact h0 i hi
      · intro i hi
        rw [A 9 (by decide), B 106 (by decide), y9 i (by omega), zn 24 (by decide), v106 i (by omega)]
        exact h1 i hi
      · intro i hi
        rw [A 10 (by decide), y10 i hi, zn 25 (by decide)]
        exact h25 i hi
      · intro i hi
        rw [A 10 (by decide), A 11 (by decide), B 107 (by decide), B 108 (by decide), y10 i (by omega), y11 i (by omega), zn 25 (by decide), zn 26 (by decide), v107 i (by omega), v108 i (by omega)]
        exact h2 i hi
      · intro i hi
        rw [A 12 (by decide), A 13 (by decide), A 14 (by decide), B 109 (by decide), B 110 (by decide), B 111 (by decide), y12 i (by omega), y13 i (by omega), y14 i (by omega), zn 27 (by decide), zn 28 (by decide), zn 29 (by decide), v109 i (by omega), v110 i (by omega), v111 i (by omega)]
        exact h3 i hi
      · intro i hi
        rw [A 15 (by decide), A 16 (by decide), B 112 (by decide), B 113 (by decide), y15 i (by omega), y16 i (by omega), zn 30 (by decide), zn 31 (by decide), v112 i (by omega), v113 i (by omega)]
        exact h4 i hi
    · intro p hp
      obtain ⟨g1, g2, g3, g4, g5⟩ := u43 p hp
      obtain ⟨g6, g7⟩ := s115 p hp
      have e43 : cmb DZ DS 43 0 p = -1 := by rw [cmb_x (by decide), g1]
      have e44 : cmb DZ DS 44 0 p = -1 := by rw [cmb_x (by decide), g2]
      have e45 : cmb DZ DS 45 0 p = -1 := by rw [cmb_x (by decide), g3]
      have e46 : cmb DZ DS 46 0 p = -1 := by rw [cmb_x (by decide), g4]
      have e47 : cmb DZ DS 47 0 p = 0 := by rw [cmb_x (by decide), g5]
      have e115 : cmb DZ DS 115 0 p = -1 := by rw [cmb_m (by decide), g6]
      have e119 : cmb DZ DS 119 0 p = 0 := by rw [cmb_m (by decide), g7]
      rw [e43, e44, e45, e46, e47, e115, e119]
      exact ⟨⟨Or.inl ⟨rfl, rfl, rfl, rfl⟩, rfl, fun q => absurd rfl q⟩, rfl, fun _ => ⟨rfl, rfl⟩⟩
    · have S : ∀ (b i : Nat), i < 4 → iSl c1 c2 b i (cmb DZ DS) := by
        intro b i hi
        have e1 : cmb DZ DS 125 0 i = 0 := by rw [cmb_m (by decide), s125 i hi]
        have e2 : cmb DZ DS 49 0 i = 0 := by rw [cmb_x (by decide), u49 i hi]
        exact ⟨by rw [e1, e2], Or.inl e2⟩
      exact ⟨S 76 0 (by decide), S 82 1 (by decide), S 88 2 (by decide), S 94 3 (by decide)⟩
    · intro p hp w hw v hv
      refine ⟨0, by omega, ?_, ?_⟩
      · rw [cmb_x (by decide), u58 _ (by omega)]
        rfl
      · rw [cmb_m (by decide), s131 _ (by omega)]
        rfl
    · refine ⟨0, by omega, ?_, ?_, fun i hi => absurd hi (Nat.not_lt_zero _), fun i k _ hk => absurd hk (Nat.not_lt_zero _)⟩
      · rw [cmb_x (by decide), u59]
        rfl
      · rw [cmb_m (by decide), s44]
        rfl
    · refine ⟨0, 0, by omega, by omega, ?_, ?_, ?_, ?_, ?_, fun i hi => absurd hi (Nat.not_lt_zero _), fun i hi => absurd hi (Nat.not_lt_zero _)⟩
      · rw [cmb_x (by decide), u65]
        rfl
      · rw [cmb_m (by decide), s48]
        rfl
      · rw [cmb_x (by decide), u66]
        rfl
      · rw [cmb_m (by decide), s49]
        rfl
      · rw [cmb_m (by decide), cmb_x (by decide), s50, u67]
  · have eR : Re_read D E = some (some (.inl (-1)), DX', E) := by
      rw [e_Re_read, x1, B0s]
      exact e1
    refine Bo.of hX hM (v := -1) (D1 := dset DX' 1 0 1 0) (E1 := E) (D2 := DM') (E2 := EM') ?_ ?_ (hh.lost hf)
    · rw [e_Hb_book, eR, B1s, if_pos rfl]
    · rw [m1]
      exact e2
