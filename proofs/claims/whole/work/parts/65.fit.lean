/-! fit, surely, next -/
theorem nS_one : ∀ n, nS (fun _ => 1) n = n
  | 0 => rfl
  | n + 1 => by rw [nS, nS_one n]
theorem lk_01 {D : pD} {y : Int32} {k cR : Nat} (h0 : D 68 0 k = 0 ∨ D 68 0 k = 1) (h1 : ∀ i, i < cR → D 72 0 i = 0 ∨ D 72 0 i = 1) : ∀ n, n ≤ cR → lk D y k n = 0 ∨ lk D y k n = 1
  | 0, _ => h0
  | n + 1, hn => by
    rw [lk]
    split
    · exact h1 n (by omega)
    · exact lk_01 h0 h1 n (by omega)
/-- what the reference needs of laughs -/
def mLa (D : pD) (cL cR : Nat) : Prop := cL ≤ 30 ∧ cR ≤ 20 ∧ D 100 0 48 = nI cL ∧ D 100 0 49 = nI cR ∧ (∀ k, k < cL → D 136 0 k = D 66 0 k ∧ D 137 0 k = D 67 0 k ∧ D 138 0 k = D 68 0 k ∧ D 135 0 k = D 69 0 k ∧ (D 68 0 k = 0 ∨ D 68 0 k = 1)) ∧ ∀ i, i < cR → D 140 0 i = D 71 0 i ∧ D 141 0 i = D 72 0 i ∧ D 139 0 i = D 73 0 i ∧ (D 72 0 i = 0 ∨ D 72 0 i = 1)
theorem M_fit77 {cL cR : Nat} {D D1 : pD} {E : pDL} (hm : mLa D cL cR) (hk1 : Ko [142] D D1) (h y c s : Int32) (ss : Int32) {k : Nat} (hk : k < cL) : Mo_makeFits_77 h y c ss s (nI k) (D 138 0 k) 0 D1 E = Mo_makeFits_77 h y c ss s (nI k) (lk D y k cR) (nI cR) D1 E := by
  obtain ⟨m1, m2, m3, m4, m5, m6⟩ := hm
  have e0 : D 138 0 k = lk D y k 0 := (m5 k hk).2.2.1
  rw [e0]
  refine z0 (fun i => Mo_makeFits_77 h y c ss s (nI k) (lk D y k i) (nI i) D1 E) cR (fun i hi => ?_)
  show Mo_makeFits_77 _ _ _ _ _ _ _ _ _ _ = Mo_makeFits_77 _ _ _ _ _ _ _ _ _ _
  obtain ⟨q1, q2, q3, -⟩ := m6 i hi
  have a1 : D1 140 0 i = D 71 0 i := by rw [hk1.c (by decide), q1]
  have a2 : D1 141 0 i = D 72 0 i := by rw [hk1.c (by decide), q2]
  have a3 : D1 139 0 i = D 73 0 i := by rw [hk1.c (by decide), q3]
  rw [e_Mo_makeFits_77, hk1.c (k := 100) (by decide), m4, lk]
  by_cases c1 : D 71 0 i = nI k
  · by_cases c2 : y < D 73 0 i
    · simp (disch := omega) only [sC, sN, sN0, sLL, sTT, sEE, sM1, sF, sGt, sLe, sLt, sNe, or_false, or_true, false_or, true_or, or_self, if_true, if_false, not_true_eq_false, not_false_eq_true, B1s, B0s, B2s, a1, a2, a3, c1, c2, ca1, false_and]
    · simp (disch := omega) only [sC, sN, sN0, sLL, sTT, sEE, sM1, sF, sGt, sLe, sLt, sNe, or_false, or_true, false_or, true_or, or_self, if_true, if_false, not_true_eq_false, not_false_eq_true, B1s, B0s, B2s, a1, a2, a3, c1, c2, ca1, true_and]
  · simp (disch := omega) only [sC, sN, sN0, sLL, sTT, sEE, sM1, sF, sGt, sLe, sLt, sNe, or_false, or_true, false_or, true_or, or_self, if_true, if_false, not_true_eq_false, not_false_eq_true, B1s, B0s, B2s, a1, c1, ca1, and_false]
def b01 (b : Bool) : Int32 := if b = true then 1 else 0
theorem M_fit31 {cL cR : Nat} {D : pD} {E : pDL} (hm : mLa D cL cR) (h y : Int32) (c : Nat) {s : Nat} (hs : s < 300) (q : Int32) : ∀ (n k : Nat) (D1 : pD) (f : Bool), k + n = cL → Ko [142] D D1 → D1 142 0 s = b01 f → ∃ D2, Mo_makeFits_31 h y (nI c) (nI s) q (nI k) D1 E = Mo_makeFits_5 h y (nI (c + (if (f && fbt D h y cR q k n) = true then 1 else 0))) (nI (s + 1)) D2 E ∧ Ko [142] D D2 ∧ D2 142 0 s = b01 (f && fbt D h y cR q k n) ∧ ∀ i, i ≠ s → D2 142 0 i = D1 142 0 i
  | 0, k, D1, f, hk, h1, h2 => by
    obtain rfl : k = cL := by omega
    obtain ⟨m1, m2, m3, m4, m5, m6⟩ := hm
    refine ⟨D1, ?_, h1, by rw [fbt, Bool.and_true, h2], fun _ _ => rfl⟩
    rw [e_Mo_makeFits_31, h1.c (k := 100) (by decide), m3, fbt, Bool.and_true]
    cases f with
    | true =>
      have h2' : D1 142 0 s = 1 := h2
      simp (disch := omega) only [sC, sN, sN0, sLL, sTT, sEE, sM1, sF, sGt, sLe, sLt, sNe, or_false, or_true, false_or, true_or, or_self, if_true, if_false, not_true_eq_false, not_false_eq_true, B1s, B0s, B2s, h2', h10, ca1]
    | false =>
      have h2' : D1 142 0 s = 0 := h2
      simp (disch := omega) only [sC, sN, sN0, sLL, sTT, sEE, sM1, sF, sGt, sLe, sLt, sNe, or_false, or_true, false_or, true_or, or_self, if_true, if_false, not_true_eq_false, not_false_eq_true, B1s, B0s, B2s, h2', ca1, Int32.add_zero, Nat.add_zero, reduceCtorEq]
  | n + 1, k, D1, f, hk, h1, h2 => by
    have hm' := hm
    obtain ⟨m1, m2, m3, m4, m5, m6⟩ := hm
    obtain ⟨q1, q2, q3, q4, q5⟩ := m5 k (by omega)
    have a1 : D1 136 0 k = D 66 0 k := by rw [h1.c (by decide), q1]
    have a2 : D1 137 0 k = D 67 0 k := by rw [h1.c (by decide), q2]
    have a3 : D1 138 0 k = D 138 0 k := by rw [h1.c (by decide)]
    have a4 : D1 135 0 k = D 69 0 k := by rw [h1.c (by decide), q4]
    have l01 := lk_01 (y := y) q5 (fun i hi => (m6 i hi).2.2.2) cR (Nat.le_refl _)
    have skip : bad D h y cR q k = false → (Mo_makeFits_31 h y (nI c) (nI s) q (nI k) D1 E = Mo_makeFits_31 h y (nI c) (nI s) q (nI (k + 1)) D1 E) → ∃ D2, Mo_makeFits_31 h y (nI c) (nI s) q (nI k) D1 E = Mo_makeFits_5 h y (nI (c + (if (f && fbt D h y cR q k (n + 1)) = true then 1 else 0))) (nI (s + 1)) D2 E ∧ Ko [142] D D2 ∧ D2 142 0 s = b01 (f && fbt D h y cR q k (n + 1)) ∧ ∀ i, i ≠ s → D2 142 0 i = D1 142 0 i := by
      intro hb he
      obtain ⟨D2, r1, r2, r3, r4⟩ := M_fit31 hm' h y c hs q n (k + 1) D1 f (by omega) h1 h2
      rw [fbt, hb, he]
      exact ⟨D2, r1, r2, r3, r4⟩
    have go : ∀ f' : Bool, (f && fbt D h y cR q k (n + 1)) = (f' && fbt D h y cR q (k + 1) n) → Mo_makeFits_31 h y (nI c) (nI s) q (nI k) D1 E = Mo_makeFits_31 h y (nI c) (nI s) q (nI (k + 1)) (dset D1 142 0 s (b01 f')) E → ∃ D2, Mo_makeFits_31 h y (nI c) (nI s) q (nI k) D1 E = Mo_makeFits_5 h y (nI (c + (if (f && fbt D h y cR q k (n + 1)) = true then 1 else 0))) (nI (s + 1)) D2 E ∧ Ko [142] D D2 ∧ D2 142 0 s = b01 (f && fbt D h y cR q k (n + 1)) ∧ ∀ i, i ≠ s → D2 142 0 i = D1 142 0 i := by
      intro f' hb he
      obtain ⟨D2, r1, r2, r3, r4⟩ := M_fit31 hm' h y c hs q n (k + 1) (dset D1 142 0 s (b01 f')) f' (by omega) (h1.set (by decide) _ _ _) (by rw [dsA, if_pos rfl])
      rw [hb, he]
      exact ⟨D2, r1, r2, r3, fun i hi => by rw [r4 i hi, dsA, if_neg hi]⟩
    by_cases c1 : D 66 0 k = h
    · by_cases c2 : y < D 69 0 k
      · refine skip ?_ ?_
        · unfold bad
          rw [decide_eq_false (show ¬ ¬ y < D 69 0 k from fun z => z c2), Bool.and_false, Bool.false_and]
        · rw [e_Mo_makeFits_31, h1.c (k := 100) (by decide), m3]
          simp (disch := omega) only [sC, sN, sN0, sLL, sTT, sEE, sM1, sF, sGt, sLe, sLt, sNe, or_false, or_true, false_or, true_or, or_self, if_true, if_false, not_true_eq_false, not_false_eq_true, B1s, B0s, B2s, a1, a4, c1, iNL, c2, ca1]
      · have h77 := M_fit77 (E := E) hm' h1 h y (nI c) q (nI s) (show k < cL by omega)
        have hst : Mo_makeFits_31 h y (nI c) (nI s) q (nI k) D1 E = Mo_makeFits_77 h y (nI c) (nI s) q (nI k) (lk D y k cR) (nI cR) D1 E := by
          rw [e_Mo_makeFits_31, h1.c (k := 100) (by decide), m3]
          simp (disch := omega) only [sC, sN, sN0, sLL, sTT, sEE, sM1, sF, sGt, sLe, sLt, sNe, or_false, or_true, false_or, true_or, or_self, if_true, if_false, not_true_eq_false, not_false_eq_true, B1s, B0s, B2s, a1, a3, a4, c1, iNL, c2]
          exact h77
        have hbad : bad D h y cR q k = !decide ((if q &&& (D 67 0 k ^^^ (-1)) = 0 then (1 : Int32) else 0) = lk D y k cR) := by
          unfold bad
          rw [decide_eq_true c1, decide_eq_true c2, Bool.true_and, Bool.true_and]
        cases f with
        | false =>
          have h2' : D1 142 0 s = 0 := h2
          refine go false (by rw [Bool.false_and, Bool.false_and]) ?_
          rw [hst, e_Mo_makeFits_77, h1.c (k := 100) (by decide), m4]
          simp (disch := omega) only [sC, sN, sN0, sLL, sTT, sEE, sM1, sF, sGt, sLe, sLt, sNe, or_false, or_true, false_or, true_or, or_self, if_true, if_false, not_true_eq_false, not_false_eq_true, B1s, B0s, B2s, h2', ca1]
          rfl
        | true =>
          have h2' : D1 142 0 s = 1 := h2
          by_cases c3 : q &&& (D 67 0 k ^^^ (-1)) = 0
          · rw [if_pos c3] at hbad
            rcases l01 with l | l
            · refine go false (by rw [fbt, hbad, l]; rfl) ?_
              rw [hst, e_Mo_makeFits_77, h1.c (k := 100) (by decide), m4]
              simp (disch := omega) only [sC, sN, sN0, sLL, sTT, sEE, sM1, sF, sGt, sLe, sLt, sNe, or_false, or_true, false_or, true_or, or_self, if_true, if_false, not_true_eq_false, not_false_eq_true, B1s, B0s, B2s, h2', h10, a2, c3, l, q01, ca1]
              rfl
            · refine go true (by rw [fbt, hbad, l]; rfl) ?_
              rw [hst, e_Mo_makeFits_77, h1.c (k := 100) (by decide), m4]
              simp (disch := omega) only [sC, sN, sN0, sLL, sTT, sEE, sM1, sF, sGt, sLe, sLt, sNe, or_false, or_true, false_or, true_or, or_self, if_true, if_false, not_true_eq_false, not_false_eq_true, B1s, B0s, B2s, h2', h10, a2, c3, l, ca1]
              rfl
          · rw [if_neg c3] at hbad
            rcases l01 with l | l
            · refine go true (by rw [fbt, hbad, l]; rfl) ?_
              rw [hst, e_Mo_makeFits_77, h1.c (k := 100) (by decide), m4]
              simp (disch := omega) only [sC, sN, sN0, sLL, sTT, sEE, sM1, sF, sGt, sLe, sLt, sNe, or_false, or_true, false_or, true_or, or_self, if_true, if_false, not_true_eq_false, not_false_eq_true, B1s, B0s, B2s, h2', h10, a2, c3, l, q01, ca1]
              rfl
            · refine go false (by rw [fbt, hbad, l]; rfl) ?_
              rw [hst, e_Mo_makeFits_77, h1.c (k := 100) (by decide), m4]
              simp (disch := omega) only [sC, sN, sN0, sLL, sTT, sEE, sM1, sF, sGt, sLe, sLt, sNe, or_false, or_true, false_or, true_or, or_self, if_true, if_false, not_true_eq_false, not_false_eq_true, B1s, B0s, B2s, h2', h10, a2, c3, l, q01, ca1]
              rfl
    · refine skip ?_ ?_
      · unfold bad
        rw [decide_eq_false c1, Bool.false_and, Bool.false_and]
      · rw [e_Mo_makeFits_31, h1.c (k := 100) (by decide), m3]
        simp (disch := omega) only [sC, sN, sN0, sLL, sTT, sEE, sM1, sF, sGt, sLe, sLt, sNe, or_false, or_true, false_or, true_or, or_self, if_true, if_false, not_true_eq_false, not_false_eq_true, B1s, B0s, B2s, a1, c1, ca1]
theorem M_fit5 {cL cR : Nat} {D : pD} {E : pDL} (hm : mLa D cL cR) (h y : Int32) : ∀ (n s : Nat) (D1 : pD), s + n = 300 → Ko [142] D D1 → (∀ i, i < s → D1 142 0 i = nI (fitN D h y cL cR (prM i))) → ∃ D2, Mo_makeFits_5 h y (nI (nS (fun s => fitN D h y cL cR (prM s)) s)) (nI s) D1 E = some (some (.inl (nI (nS (fun s => fitN D h y cL cR (prM s)) 300))), D2, E) ∧ Ko [142] D D2 ∧ ∀ i, i < 300 → D2 142 0 i = nI (fitN D h y cL cR (prM i))
  | 0, s, D1, hs, h1, h2 => by
    obtain rfl : s = 300 := by omega
    exact ⟨D1, by rw [e_Mo_makeFits_5, if_pos (by decide)], h1, h2⟩
  | n + 1, s, D1, hs, h1, h2 => by
    obtain ⟨D2, r1, r2, r3, r4⟩ := M_fit31 (E := E) hm h y (nS (fun s => fitN D h y cL cR (prM s)) s) (show s < 300 by omega) (sv (prM s)) cL 0 (dset D1 142 0 s 1) true (by omega) (h1.set (by decide) _ _ _) (by rw [dsA, if_pos rfl]; rfl)
    have ef : (if (true && fbt D h y cR (sv (prM s)) 0 cL) = true then 1 else 0) = fitN D h y cL cR (prM s) := by
      unfold fitN
      rw [Bool.true_and]
    rw [ef] at r1
    obtain ⟨D3, t1, t2, t3⟩ := M_fit5 (E := E) hm h y n (s + 1) D2 (by omega) r2 (fun i hi => by
      by_cases e : i = s
      · subst e
        rw [r3]
        unfold fitN b01
        rw [Bool.true_and]
        split <;> rfl
      · rw [r4 i e, dsA, if_neg e, h2 i (by omega)])
    refine ⟨D3, ?_, t2, t3⟩
    rw [e_Mo_makeFits_5, if_neg (nle 300 (k := s) (by omega) (by omega)), if_neg (iB (by omega) (by omega)), iC (by omega), and_11, M_setOf (by omega), B1s]
    exact r1.trans t1
theorem M_fits {cL cR : Nat} {D : pD} {E : pDL} (hm : mLa D cL cR) (h y : Int32) : ∃ D2, Mo_makeFits h y D E = some (some (.inl (nI (nS (fun s => fitN D h y cL cR (prM s)) 300))), D2, E) ∧ Ko [142] D D2 ∧ ∀ i, i < 300 → D2 142 0 i = nI (fitN D h y cL cR (prM i)) := by
  rw [e_Mo_makeFits]
  exact M_fit5 hm h y 300 0 D rfl Ko.rf (fun i hi => absurd hi (by omega))
theorem iLaugh.m {D : pD} (h : iLaugh D) : ∃ cL cR, mLa D cL cR ∧ D 65 0 12 = nI cL ∧ D 65 0 13 = nI cR ∧ ∀ i, i < cR → vp_in (D 71 0 i) cL := by
  obtain ⟨cL, cR, l0, q0, l1, l2, l3, l4, l5, l6, l7⟩ := h
  exact ⟨cL, cR, ⟨l0, q0, l2, l4, fun k hk => ⟨(l6 k hk).1, (l6 k hk).2.1, (l6 k hk).2.2.1, (l6 k hk).2.2.2.1, (l6 k hk).2.2.2.2.1⟩, fun i hi => ⟨(l7 i hi).1, (l7 i hi).2.1, (l7 i hi).2.2.1, (l7 i hi).2.2.2.2⟩⟩, l1, l3, fun i hi => (l7 i hi).2.2.2.1⟩
theorem step_in (D : pD) (E : pDL) {m : Nat} (h : m < 1000) : Hb_isStep (nI m) D E = some (some (.inl 1), D, E) ∧ Mo_in (nI m) 0 999 D E = some (some (.inl 1), D, E) :=
  ⟨by rw [e_Hb_isStep, if_neg (iN (by omega)), if_neg (nnl 999 (by omega) (by omega))], in_in D E 1000 (by decide) (by omega) h⟩
theorem step_out (D : pD) (E : pDL) {x : Int32} (h : x < 0 ∨ nI 1000 ≤ x) : Hb_isStep x D E = some (some (.inl 0), D, E) ∧ Mo_in x 0 999 D E = some (some (.inl 0), D, E) := by
  refine ⟨?_, in_out D E 1000 (by decide) (by omega) h⟩
  rw [e_Hb_isStep]
  by_cases h0 : x < 0
  · rw [if_pos h0]
  · rw [if_neg h0, if_pos (show (999 : Int32) < x from lt_of (h.resolve_left h0) (m := 999) (by omega) (by omega))]
/-- both have gathered -/
theorem both_fit {D : pD} (hI : Inv D) (E : pDL) (h y : Int32) : ∃ (DX DM : pD) (m : Nat) (F : Nat × Nat → Nat), La_gather h y D E = some (some (.inl (nI m)), DX, E) ∧ Mo_makeFits h y D E = some (some (.inl (nI m)), DM, E) ∧ Ko [65, 74, 75] D DX ∧ Ko [142] D DM ∧ DX 65 0 10 = nI m ∧ m ≤ 300 ∧ (∀ w : Int32 → Nat, nS (fun i => w (DX 75 0 i)) m = nS (fun s => F (prM s) * w (sv (prM s))) 300) ∧ (∀ s, s < 300 → DM 142 0 s = nI (F (prM s))) ∧ (∀ q, F q = 0 ∨ F q = 1) ∧ Inv (cmb DX DM) := by
  obtain ⟨cN, cW, cP, cT, cH, hT, hF, hB, hN, hK, hG, hY, hL⟩ := id hI
  obtain ⟨cL, cR, hm, e12, e13, hv⟩ := hL.m
  obtain ⟨DX, m, x1, ⟨x2, x3, x4, x5, x6⟩, x7⟩ := X_gather hm.1 hm.2.1 h y D E e12 e13 hv
  obtain ⟨DM, y1, y2, y3⟩ := M_fits (E := E) hm h y
  have x8 : ∀ w : Int32 → Nat, nS (fun i => w (DX 75 0 i)) m = nS (fun s => fitN D h y cL cR (prM s) * w (sv (prM s))) 300 := fun w => (x7 w).trans (sX_M _)
  have em : nS (fun s => fitN D h y cL cR (prM s)) 300 = m := by
    have := x8 (fun _ => 1)
    rw [nS_one] at this
    rw [this]
    exact nS_cong (fun s _ => by rw [Nat.mul_one])
  rw [em] at y1
  refine ⟨DX, DM, m, fitN D h y cL cR, x1, y1, x2, y2, x5, x6, x8, y3, fitN_01 D h y cL cR, ?_⟩
  have k3 : Ko [65, 74, 75, 142] D (cmb DX DM) := by
    intro k hk
    by_cases c : k < 100
    · rw [cmb_x c]
      exact x2 k (fun z => hk (by revert z; simp; omega))
    · rw [cmb_m c]
      exact y2 k (fun z => hk (by revert z; simp; omega))
  exact hI.ko k3 (by decide) (fun i hi => by
    rw [cmb_x (by decide)]
    exact x3 i (by revert hi; simp; omega))
/-- fit -/
theorem L_fit (x y : Int32) (D : pD) (E : pDL) (h : Inv D) : Same D E (Hb_fit x y) (Mo_fit x y) := by
  have hh := h
  obtain ⟨cN, cW, cP, cT, cH, hT, hF, hB, hN, hK, hG, hY, hL⟩ := h
  obtain ⟨⟨⟨n1, n2, n3, n4, n5⟩, ⟨a1, a2, a3, a4, a5⟩, ⟨b1, b2, b3, b4, b5⟩⟩, hS, hW, hGS, r1, r2, r3, r4, r5, r6⟩ := id hB
  rcases ixc x (n := cH) (by omega) with hx | ⟨i, hi, rfl⟩
  · exact Same.ro (v := -2) hh (by rw [e_Hb_fit, has4_n D E a5 hx, B1s, if_pos rfl]) (by rw [e_Mo_fit, is4_n D E b5 (by omega) hx, B1s, if_pos rfl])
  · rcases ixc y (n := 1000) (by omega) with hy | ⟨s, hs, rfl⟩
    · exact Same.ro (v := -2) hh (by rw [e_Hb_fit, has4_y D E a5 hi (by omega), B1s, if_neg (by decide), (step_out D E hy).1, B1s, if_pos rfl]) (by rw [e_Mo_fit, is4_y D E b5 (by omega) hi, B1s, if_neg (by decide), (step_out D E hy).2, B1s, if_pos rfl])
    · obtain ⟨DX, DM, m, F, x1, y1, x2, y2, x5, x6, x8, y3, -, hI⟩ := both_fit hh E (nI i) (nI s)
      exact Bo.of ⟨_, _, _, _, by repeat first | exact okL_nil | refine okL_n ?_ | refine okL_i ?_ | refine okL_r (by decide) ?_, fun _ _ => rfl⟩ ⟨_, _, _, _, by repeat first | exact okL_nil | refine okL_n ?_ | refine okL_i ?_ | refine okL_r (by decide) ?_, fun _ _ => rfl⟩ (v := nI m) (by rw [e_Hb_fit, has4_y D E a5 hi (by omega), B1s, if_neg (by decide), (step_in D E hs).1, B1s, if_neg (by decide), x1, B1s]) (by rw [e_Mo_fit, is4_y D E b5 (by omega) hi, B1s, if_neg (by decide), (step_in D E hs).2, B1s, if_neg (by decide), y1, B1s]) hI
/-- the sets with a trait, within traits -/
theorem X_with (x : Int32) {DX : pD} {E : pDL} {m : Nat} (hm : m ≤ 300) (e : DX 65 0 10 = nI m) : La_setsWith x DX E = some (some (.inl (nI (nS (fun i => if DX 75 0 i &&& x = 0 then 0 else 1) m))), DX, E) := by
  rw [e_La_setsWith]
  refine (z0 (fun k => La_setsWith_4 x (nI (nS (fun i => if DX 75 0 i &&& x = 0 then 0 else 1) k)) (nI k) DX E) m (fun k hk => ?_)).trans ?_
  · show La_setsWith_4 _ _ _ _ _ = La_setsWith_4 _ _ _ _ _
    rw [e_La_setsWith_4, e, nS]
    by_cases c : DX 75 0 k &&& x = 0
    · simp (disch := omega) only [sC, sN, sN0, sLL, sTT, sEE, sM1, sF, sGt, sLe, sLt, sNe, or_false, or_true, false_or, true_or, or_self, if_true, if_false, not_true_eq_false, not_false_eq_true, B1s, B0s, B2s, c, ca1, Int32.add_zero, Nat.add_zero]
    · simp (disch := omega) only [sC, sN, sN0, sLL, sTT, sEE, sM1, sF, sGt, sLe, sLt, sNe, or_false, or_true, false_or, true_or, or_self, if_true, if_false, not_true_eq_false, not_false_eq_true, B1s, B0s, B2s, c, ca1]
  · show La_setsWith_4 _ _ _ _ _ = _
    rw [e_La_setsWith_4, e, if_pos (nI_le (Nat.le_refl _) (by omega))]
theorem X_within (x : Int32) {DX : pD} {E : pDL} {m : Nat} (hm : m ≤ 300) (e : DX 65 0 10 = nI m) : La_setsWithin x DX E = some (some (.inl (nI (nS (fun i => if DX 75 0 i &&& (x ^^^ (-1)) = 0 then 1 else 0) m))), DX, E) := by
  rw [e_La_setsWithin]
  refine (z0 (fun k => La_setsWithin_4 x (nI (nS (fun i => if DX 75 0 i &&& (x ^^^ (-1)) = 0 then 1 else 0) k)) (nI k) DX E) m (fun k hk => ?_)).trans ?_
  · show La_setsWithin_4 _ _ _ _ _ = La_setsWithin_4 _ _ _ _ _
    rw [e_La_setsWithin_4, e, nS]
    by_cases c : DX 75 0 k &&& (x ^^^ (-1)) = 0
    · simp (disch := omega) only [sC, sN, sN0, sLL, sTT, sEE, sM1, sF, sGt, sLe, sLt, sNe, or_false, or_true, false_or, true_or, or_self, if_true, if_false, not_true_eq_false, not_false_eq_true, B1s, B0s, B2s, c, ca1]
    · simp (disch := omega) only [sC, sN, sN0, sLL, sTT, sEE, sM1, sF, sGt, sLe, sLt, sNe, or_false, or_true, false_or, true_or, or_self, if_true, if_false, not_true_eq_false, not_false_eq_true, B1s, B0s, B2s, c, ca1, Int32.add_zero, Nat.add_zero]
  · show La_setsWithin_4 _ _ _ _ _ = _
    rw [e_La_setsWithin_4, e, if_pos (nI_le (Nat.le_refl _) (by omega))]
theorem one_x {s : Int32} {a : Nat} (ha : a < 32) : s &&& ((1 : Int32) <<< (nI a &&& 31)) = 0 ↔ bt s a = false := by
  have := pair_x (s := s) ha ha
  rw [or_same] at this
  rw [this]
  exact and_self_iff
/-- surely -/
theorem L_surely (x t y : Int32) (D : pD) (E : pDL) (h : Inv D) : Same D E (Hb_surely x t y) (Mo_surely x t y) := by
  have hh := h
  obtain ⟨cN, cW, cP, cT, cH, hT, hF, hB, hN, hK, hG, hY, hL⟩ := h
  obtain ⟨⟨⟨n1, n2, n3, n4, n5⟩, ⟨a1, a2, a3, a4, a5⟩, ⟨b1, b2, b3, b4, b5⟩⟩, hS, hW, hGS, r1, r2, r3, r4, r5, r6⟩ := id hB
  rcases ixc x (n := cH) (by omega) with hx | ⟨i, hi, rfl⟩
  · exact Same.ro (v := -2) hh (by rw [e_Hb_surely, has4_n D E a5 hx, B1s, if_pos rfl]) (by rw [e_Mo_surely, is4_n D E b5 (by omega) hx, B1s, if_pos rfl])
  · rcases ixc t (n := 24) (by omega) with ht | ⟨j, hj, rfl⟩
    · refine Same.ro (v := -2) hh ?_ (by rw [e_Mo_surely, is4_y D E b5 (by omega) hi, B1s, if_neg (by decide), in_out D E 24 (by decide) (by omega) ht, B1s, if_pos rfl])
      rw [e_Hb_surely, has4_y D E a5 hi (by omega), B1s, if_neg (by decide)]
      by_cases h0 : t < 0
      · rw [if_pos h0]
      · rw [if_neg h0, if_pos (show (24 : Int32) ≤ t from ht.resolve_left h0)]
    · have tin := in_in D E (m := 23) 24 (by decide) (by omega) hj
      rcases ixc y (n := 1000) (by omega) with hy | ⟨s, hs, rfl⟩
      · exact Same.ro (v := -2) hh (by rw [e_Hb_surely, has4_y D E a5 hi (by omega), B1s, if_neg (by decide), if_neg (iN (by omega)), if_neg (nle 24 hj (by omega)), (step_out D E hy).1, B1s, if_pos rfl]) (by rw [e_Mo_surely, is4_y D E b5 (by omega) hi, B1s, if_neg (by decide), tin, B1s, if_neg (by decide), (step_out D E hy).2, B1s, if_pos rfl])
      · obtain ⟨DX, DM, m, F, x1, y1, x2, y2, x5, x6, x8, y3, f01, hI⟩ := both_fit hh E (nI i) (nI s)
        let w : Int32 → Nat := fun q => if q &&& ((1 : Int32) <<< (nI j &&& 31)) = 0 then 0 else 1
        have xw : La_setsWith ((1 : Int32) <<< (nI j &&& 31)) DX E = some (some (.inl (nI (nS (fun s => F (prM s) * w (sv (prM s))) 300))), DX, E) := by
          rw [X_with _ x6 x5, ← x8 w]
        have mw : Mo_surely_46 (nI j) (nI m) 0 0 DM E = Mo_surely_46 (nI j) (nI m) (nI (nS (fun s => F (prM s) * w (sv (prM s))) 300)) (nI 300) DM E := by
          refine z0 (fun k => Mo_surely_46 (nI j) (nI m) (nI (nS (fun s => F (prM s) * w (sv (prM s))) k)) (nI k) DM E) 300 (fun k hk => ?_)
          show Mo_surely_46 _ _ _ _ _ _ = Mo_surely_46 _ _ _ _ _ _
          rw [e_Mo_surely_46, nS]
          rcases f01 (prM k) with f | f
          · have e142 : DM 142 0 k = 0 := by rw [y3 k hk, f]; rfl
            simp (disch := omega) only [sC, sN, sN0, sLL, sTT, sEE, sM1, sF, sGt, sLe, sLt, sNe, or_false, or_true, false_or, true_or, or_self, if_true, if_false, not_true_eq_false, not_false_eq_true, B1s, B0s, B2s, cl300, cn300, ct300, cu300, ce300, cf300, e142, ca1, f, Nat.zero_mul, Int32.add_zero, Nat.add_zero]
          · have e142 : DM 142 0 k = 1 := by rw [y3 k hk, f]; rfl
            by_cases c : bt (sv (prM k)) j = true
            · have ew : w (sv (prM k)) = 1 := if_neg (fun z => by rw [one_x (by omega)] at z; rw [z] at c; cases c)
              simp (disch := omega) only [sC, sN, sN0, sLL, sTT, sEE, sM1, sF, sGt, sLe, sLt, sNe, or_false, or_true, false_or, true_or, or_self, if_true, if_false, not_true_eq_false, not_false_eq_true, B1s, B0s, B2s, cl300, cn300, ct300, cu300, ce300, cf300, e142, h10, M_setOf hk, bit1, c, ca1, f, ew, Nat.one_mul]
            · have ew : w (sv (prM k)) = 0 := if_pos ((one_x (by omega)).mpr (by simpa using c))
              simp (disch := omega) only [sC, sN, sN0, sLL, sTT, sEE, sM1, sF, sGt, sLe, sLt, sNe, or_false, or_true, false_or, true_or, or_self, if_true, if_false, not_true_eq_false, not_false_eq_true, B1s, B0s, B2s, cl300, cn300, ct300, cu300, ce300, cf300, e142, h10, M_setOf hk, bit1, c, ca1, f, ew, Nat.one_mul, Int32.add_zero, Nat.add_zero, Bool.false_eq_true]
        generalize nS (fun s => F (prM s) * w (sv (prM s))) 300 = W at xw mw
        refine Bo.of ⟨_, _, _, _, by repeat first | exact okL_nil | refine okL_n ?_ | refine okL_i ?_ | refine okL_r (by decide) ?_, fun _ _ => rfl⟩ ⟨_, _, _, _, by repeat first | exact okL_nil | refine okL_n ?_ | refine okL_i ?_ | refine okL_r (by decide) ?_, fun _ _ => rfl⟩ (v := if nI m = 0 then -1 else if nI W = nI m then 1 else if nI W = 0 then 0 else 2) (D1 := DX) (E1 := E) (D2 := DM) (E2 := E) ?_ ?_ hI
        · rw [e_Hb_surely, has4_y D E a5 hi (by omega), B1s, if_neg (by decide), if_neg (iN (by omega)), if_neg (nle 24 hj (by omega)), (step_in D E hs).1, B1s, if_neg (by decide), x1, B1s]
          by_cases c0 : nI m = 0
          · rw [if_pos c0, if_pos c0]
          · rw [if_neg c0, if_neg c0, xw, B1s]
            by_cases c1 : nI W = nI m
            · rw [if_pos c1, if_pos c1]
            · rw [if_neg c1, if_neg c1]
              by_cases c2 : nI W = 0
              · rw [if_pos c2, if_pos c2]
              · rw [if_neg c2, if_neg c2]
        · rw [e_Mo_surely, is4_y D E b5 (by omega) hi, B1s, if_neg (by decide), tin, B1s, if_neg (by decide), (step_in D E hs).2, B1s, if_neg (by decide), y1, B1s, mw, e_Mo_surely_46, if_pos (by decide)]
          by_cases c0 : nI m = 0
          · rw [if_pos c0, if_pos c0]
          · rw [if_neg c0, if_neg c0]
            by_cases c1 : nI W = nI m
            · rw [if_pos c1, if_pos c1]
            · rw [if_neg c1, if_neg c1]
              by_cases c2 : nI W = 0
              · rw [if_pos c2, if_pos c2]
              · rw [if_neg c2, if_neg c2]
/-- next -/
theorem L_next (x : Int32) (D : pD) (E : pDL) (h : Inv D) : Same D E (Hb_next x) (Mo_next x) := by
  have hh := h
  obtain ⟨cN, cW, cP, cT, cH, hT, hF, hB, hN, hK, hG, hY, hL⟩ := h
  obtain ⟨⟨⟨n1, n2, n3, n4, n5⟩, ⟨a1, a2, a3, a4, a5⟩, ⟨b1, b2, b3, b4, b5⟩⟩, hS, hW, hGS, r1, r2, r3, r4, r5, r6⟩ := id hB
  rcases ixc x (n := cH) (by omega) with hx | ⟨i, hi, rfl⟩
  · exact Same.ro (v := -2) hh (by rw [e_Hb_next, has4_n D E a5 hx, B1s, if_pos rfl]) (by rw [e_Mo_next, is4_n D E b5 (by omega) hx, B1s, if_pos rfl])
  · obtain ⟨DX, DM, m, F, x1, y1, x2, y2, x5, x6, x8, y3, f01, hI⟩ := both_fit hh E (nI i) 999
    have hBx := hB.ko x2 (by decide)
    have hBm := hB.ko y2 (by decide)
    have hNm := hN.ko y2 (by decide)
    have hYm := hY.ko y2 (by decide)
    have loop : ∀ (n p : Nat) (b : Int32) (l : Nat), p + n = cP → l ≤ m → ∃ v, Hb_next_35 (nI m) (nI l) b (nI p) DX E = some (some (.inl v), DX, E) ∧ Mo_next_28 (nI m) b (nI l) (nI p) DM E = some (some (.inl v), DM, E) := by
      intro n
      induction n with
      | zero =>
        intro p b l hp hl
        obtain rfl : p = cP := by omega
        exact ⟨b, by rw [e_Hb_next_35, hBx.1.2.1.2.2.1, if_pos (nI_le (Nat.le_refl _) (by omega))], by rw [e_Mo_next_28, hBm.1.2.2.2.2.1, if_pos (nI_le (Nat.le_refl _) (by omega))]⟩
      | succ n ih =>
        intro p b l hp hl
        have hp24 : p < 24 := by omega
        have kdx : DX 43 0 p = D 43 0 p := x2.c (by decide) p
        have kdm : DM 115 0 p = D 43 0 p := by rw [y2.c (by decide), now_kd hN hp24]
        by_cases c0 : D 43 0 p = -1
        · obtain ⟨v, e1, e2⟩ := ih (p + 1) b l (by omega) hl
          refine ⟨v, ?_, ?_⟩
          · rw [e_Hb_next_35, hBx.1.2.1.2.2.1]
            simp (disch := omega) only [sC, sN, sN0, sLL, sTT, sEE, sM1, sF, sGt, sLe, sLt, sNe, or_false, or_true, false_or, true_or, or_self, if_true, if_false, not_true_eq_false, not_false_eq_true, B1s, B0s, B2s, Rn_isChosen_spec hp24, kdx, c0, ca1]
            exact e1
          · rw [e_Mo_next_28, hBm.1.2.2.2.2.1]
            simp (disch := omega) only [sC, sN, sN0, sLL, sTT, sEE, sM1, sF, sGt, sLe, sLt, sNe, or_false, or_true, false_or, true_or, or_self, if_true, if_false, not_true_eq_false, not_false_eq_true, B1s, B0s, B2s, kdm, c0, ca1]
            exact e2
        · let w : Int32 → Nat := fun q => if q &&& (tAt D p ^^^ (-1)) = 0 then 1 else 0
          have tx : Rn_traitsAt_held_wordTraits (nI p) DX E = some (some (.inl (tAt D p)), DX, E) := by
            rw [Rn_traitsAt_held_wordTraits_spec hp24]
            unfold tAt
            rw [x2.c (k := 44) (by decide), x2.c (k := 45) (by decide), x2.c (k := 46) (by decide), x2 9 (by decide)]
          have tm : Mo_had (nI p) (-1) DM E = some (some (.inl (tAt D p)), DM, E) := by
            rw [M_had hBm hNm hYm hp24]
            unfold tAt
            rw [y2.c (k := 44) (by decide), y2.c (k := 45) (by decide), y2.c (k := 46) (by decide), y2 9 (by decide)]
          have xw : La_setsWithin (tAt D p) DX E = some (some (.inl (nI (nS (fun s => F (prM s) * w (sv (prM s))) 300))), DX, E) := by
            rw [X_within _ x6 x5, ← x8 w]
          have wm : nS (fun s => F (prM s) * w (sv (prM s))) 300 ≤ m := by
            rw [← x8 w]
            have := nS_le (f := fun i => w (DX 75 0 i)) (b := 1) (n := m) (fun k _ => by show (if _ then 1 else 0) ≤ 1; split <;> omega)
            omega
          have mw : Mo_next_59 (nI m) b (nI l) (nI p) 0 0 DM E = Mo_next_59 (nI m) b (nI l) (nI p) (nI (nS (fun s => F (prM s) * w (sv (prM s))) 300)) (nI 300) DM E := by
            refine z0 (fun k => Mo_next_59 (nI m) b (nI l) (nI p) (nI (nS (fun s => F (prM s) * w (sv (prM s))) k)) (nI k) DM E) 300 (fun k hk => ?_)
            show Mo_next_59 _ _ _ _ _ _ _ _ = Mo_next_59 _ _ _ _ _ _ _ _
            rw [e_Mo_next_59, nS]
            rcases f01 (prM k) with f | f
            · have e142 : DM 142 0 k = 0 := by rw [y3 k hk, f]; rfl
              simp (disch := omega) only [sC, sN, sN0, sLL, sTT, sEE, sM1, sF, sGt, sLe, sLt, sNe, or_false, or_true, false_or, true_or, or_self, if_true, if_false, not_true_eq_false, not_false_eq_true, B1s, B0s, B2s, cl300, cn300, ct300, cu300, ce300, cf300, e142, ca1, f, Nat.zero_mul, Int32.add_zero, Nat.add_zero]
            · have e142 : DM 142 0 k = 1 := by rw [y3 k hk, f]; rfl
              by_cases c : sv (prM k) &&& (tAt D p ^^^ (-1)) = 0
              · have ew : w (sv (prM k)) = 1 := if_pos c
                simp (disch := omega) only [sC, sN, sN0, sLL, sTT, sEE, sM1, sF, sGt, sLe, sLt, sNe, or_false, or_true, false_or, true_or, or_self, if_true, if_false, not_true_eq_false, not_false_eq_true, B1s, B0s, B2s, cl300, cn300, ct300, cu300, ce300, cf300, e142, h10, M_setOf hk, tm, c, ca1, f, ew, Nat.one_mul]
              · have ew : w (sv (prM k)) = 0 := if_neg c
                simp (disch := omega) only [sC, sN, sN0, sLL, sTT, sEE, sM1, sF, sGt, sLe, sLt, sNe, or_false, or_true, false_or, true_or, or_self, if_true, if_false, not_true_eq_false, not_false_eq_true, B1s, B0s, B2s, cl300, cn300, ct300, cu300, ce300, cf300, e142, h10, M_setOf hk, tm, c, ca1, f, ew, Nat.one_mul, Int32.add_zero, Nat.add_zero]
          generalize nS (fun s => F (prM s) * w (sv (prM s))) 300 = W at xw mw wm
          have hsub : nI m - nI W = nI (m - W) := pk_sub wm
          have hX : Hb_next_35 (nI m) (nI l) b (nI p) DX E = if l ≤ (if W < m - W then m - W else W) then Hb_next_35 (nI m) (nI l) b (nI (p + 1)) DX E else Hb_next_35 (nI m) (nI (if W < m - W then m - W else W)) (nI p) (nI (p + 1)) DX E := by
            rw [e_Hb_next_35, hBx.1.2.1.2.2.1]
            simp (disch := omega) only [sC, sN, sN0, sLL, sTT, sEE, sM1, sF, sGt, sLe, sLt, sNe, or_false, or_true, false_or, true_or, or_self, if_true, if_false, not_true_eq_false, not_false_eq_true, B1s, B0s, B2s, Rn_isChosen_spec hp24, kdx, c0, h10, tx, xw, hsub, ca1]
            by_cases c1 : W < m - W
            · simp (disch := omega) only [c1, if_true, sLL]
            · simp (disch := omega) only [c1, if_false, sLL]
          have hMm : Mo_next_28 (nI m) b (nI l) (nI p) DM E = if l ≤ (if W < m - W then m - W else W) then Mo_next_28 (nI m) b (nI l) (nI (p + 1)) DM E else Mo_next_28 (nI m) (nI p) (nI (if W < m - W then m - W else W)) (nI (p + 1)) DM E := by
            rw [e_Mo_next_28, hBm.1.2.2.2.2.1]
            simp (disch := omega) only [sC, sN, sN0, sLL, sTT, sEE, sM1, sF, sGt, sLe, sLt, sNe, or_false, or_true, false_or, true_or, or_self, if_true, if_false, not_true_eq_false, not_false_eq_true, B1s, B0s, B2s, kdm, c0]
            rw [mw, e_Mo_next_59, if_pos (by decide), hsub, ca1]
            simp (disch := omega) only [sLL, sTT]
            by_cases c1 : W < m - W
            · rw [if_pos (show W ≤ m - W by omega)]
              simp only [c1, if_true]
              by_cases c2 : l ≤ m - W
              · rw [if_pos c2, if_neg (by omega)]
              · rw [if_neg c2, if_pos (by omega)]
            · simp only [c1, if_false]
              by_cases c3 : W ≤ m - W
              · have : m - W = W := by omega
                rw [if_pos c3, this]
                by_cases c2 : l ≤ W
                · rw [if_pos c2, if_neg (by omega)]
                · rw [if_neg c2, if_pos (by omega)]
              · rw [if_neg c3]
                by_cases c2 : l ≤ W
                · rw [if_pos c2, if_neg (by omega)]
                · rw [if_neg c2, if_pos (by omega)]
          rw [hX, hMm]
          by_cases c2 : l ≤ (if W < m - W then m - W else W)
          · rw [if_pos c2, if_pos c2]
            exact ih (p + 1) b l (by omega) hl
          · rw [if_neg c2, if_neg c2]
            exact ih (p + 1) (nI p) _ (by omega) (by omega)
    obtain ⟨v, e1, e2⟩ := loop cP 0 (-1) m (by omega) (Nat.le_refl _)
    refine Bo.of ⟨_, _, _, _, by repeat first | exact okL_nil | refine okL_n ?_ | refine okL_i ?_ | refine okL_r (by decide) ?_, fun _ _ => rfl⟩ ⟨_, _, _, _, by repeat first | exact okL_nil | refine okL_n ?_ | refine okL_i ?_ | refine okL_r (by decide) ?_, fun _ _ => rfl⟩ (v := v) (D1 := DX) (E1 := E) (D2 := DM) (E2 := E) ?_ ?_ hI
    · rw [e_Hb_next, has4_y D E a5 hi (by omega), B1s, if_neg (by decide), x1, B1s]
      exact e1
    · rw [e_Mo_next, is4_y D E b5 (by omega) hi, B1s, if_neg (by decide), y1, B1s]
      exact e2
