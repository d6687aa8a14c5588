/-! best: rows that are free -/
def okT (D Dm : pD) (x : Int32) (t : Nat) : Bool := (decide (bt x (tF D t) = false ∧ bt x (tS D t) = false)) || decide (cl (vwD D Dm) t = 0)
def allT (f : Nat → Bool) (t : Nat) : Nat → Bool
  | 0 => true
  | n + 1 => f t && allT f (t + 1) n
theorem allT_iff (f : Nat → Bool) : ∀ n t, allT f t n = true ↔ ∀ i, t ≤ i → i < t + n → f i = true
  | 0, t => ⟨fun _ i h1 h2 => absurd h1 (by omega), fun _ => rfl⟩
  | n + 1, t => by
    rw [allT, Bool.and_eq_true, allT_iff f n (t + 1)]
    constructor
    · intro ⟨h1, h2⟩ i q1 q2
      by_cases e : i = t
      · rw [e]
        exact h1
      · exact h2 i (by omega) (by omega)
    · intro h
      exact ⟨h t (Nat.le_refl _) (by omega), fun i q1 q2 => h i (by omega) (by omega)⟩
theorem cl_01 (D : pD) (t : Nat) : cl D t = 0 ∨ cl D t = 1 := by
  unfold cl
  split
  · exact Or.inl rfl
  · exact icq_01 _ _ _ _ _
theorem M_free {cN cW cP cT cH : Nat} {D Dm : pD} {E : pDL} (hB : iBook cN cW cP cT cH D) (hN : iNow cW cP D) (hY : iYears cW D) (hk : Ko [115, 116, 117, 118, 120, 121, 122, 123, 124] D Dm) (hV : MV cW cP Dm) (x : Int32) : Mo_isFree x Dm E = some (some (.inl (if allT (okT D Dm x) 0 cT = true then 1 else 0)), Dm, E) := by
  obtain ⟨⟨⟨n1, n2, n3, n4, n5⟩, ⟨a1, a2, a3, a4, a5⟩, ⟨b1, b2, b3, b4, b5⟩⟩, hS, hW, hGS, r1, r2, r3, r4, r5, r6⟩ := id hB
  obtain ⟨vB, vN', vY⟩ := vw_ok hB hN hY hk hV
  have loop : ∀ n t, t + n = cT → Mo_isFree_2 x (nI t) Dm E = some (some (.inl (if allT (okT D Dm x) t n = true then 1 else 0)), Dm, E) := by
    intro n
    induction n with
    | zero =>
      intro t ht
      obtain rfl : t = cT := by omega
      rw [e_Mo_isFree_2, hk.c (by decide), b4, if_pos (nI_le (Nat.le_refl _) (by omega)), allT, if_pos rfl]
    | succ n ih =>
      intro t ht
      have htc : t < cT := by omega
      have ih' := ih (t + 1) (by omega)
      obtain ⟨e1, e2, f3, f4, f5⟩ := tie_x hB htc
      obtain ⟨m1, m2, -⟩ := r5 t htc
      have m1' : Dm 109 0 t = nI (tF D t) := by rw [hk.c (by decide), m1, e1]
      have m2' : Dm 110 0 t = nI (tS D t) := by rw [hk.c (by decide), m2, e2]
      have hcl : Mo_isClash (nI t) Dm E = some (some (.inl (cl (vwD D Dm) t)), Dm, E) := M_ro (f := Mo_isClash (nI t)) ⟨_, _, _, _, by repeat first | exact okL_nil | refine okL_n ?_ | refine okL_i ?_ | refine okL_r (by decide) ?_, fun _ _ => rfl⟩ (M_clash (E := E) vB vN' vY htc) (fun q h1 _ => vw_m h1)
      rw [e_Mo_isFree_2, hk.c (k := 102) (by decide), b4, allT]
      have hok : okT D Dm x t = ((decide (bt x (tF D t) = false ∧ bt x (tS D t) = false)) || decide (cl (vwD D Dm) t = 0)) := rfl
      by_cases c : bt x (tF D t) = false ∧ bt x (tS D t) = false
      · rw [hok, decide_eq_true c, Bool.true_or, Bool.true_and]
        have c' : ¬ ((x >>> (nI (tF D t) &&& 31)) ||| (x >>> (nI (tS D t) &&& 31))) &&& 1 = 1 := fun z => ((pair_m (by omega) (by omega)).mp z) c
        simp (disch := omega) only [sC, sN, sN0, sLL, sTT, sEE, sM1, sF, sGt, sLe, sLt, sNe, or_false, or_true, false_or, true_or, or_self, if_true, if_false, not_true_eq_false, not_false_eq_true, B1s, B0s, B2s, m1', m2', c', ca1, ih']
      · have c' : ((x >>> (nI (tF D t) &&& 31)) ||| (x >>> (nI (tS D t) &&& 31))) &&& 1 = 1 := (pair_m (by omega) (by omega)).mpr c
        rw [hok, decide_eq_false c, Bool.false_or]
        rcases cl_01 (vwD D Dm) t with z | z
        · rw [decide_eq_true z, Bool.true_and]
          simp (disch := omega) only [sC, sN, sN0, sLL, sTT, sEE, sM1, sF, sGt, sLe, sLt, sNe, or_false, or_true, false_or, true_or, or_self, if_true, if_false, not_true_eq_false, not_false_eq_true, B1s, B0s, B2s, m1', m2', c', hcl, z, ca1, ih']
        · rw [decide_eq_false (by rw [z]; decide), Bool.false_and]
          simp (disch := omega) only [sC, sN, sN0, sLL, sTT, sEE, sM1, sF, sGt, sLe, sLt, sNe, or_false, or_true, false_or, true_or, or_self, if_true, if_false, not_true_eq_false, not_false_eq_true, B1s, B0s, B2s, m1', m2', c', hcl, z, h10, Bool.false_eq_true]
  rw [e_Mo_isFree]
  exact loop cT 0 (by omega)
theorem wc_comm (D : pD) (t : Nat) (a b f : Int32) : wc D t a b f = wc D t b a f := by
  unfold wc
  rw [and_comm3]
theorem fl_comm (cW a c : Nat) : fl cW a c = fl cW c a := by
  unfold fl oB
  by_cases e1 : a = cW <;> by_cases e2 : c = cW <;> simp [e1, e2]
theorem vw_k {ks : List Nat} {D Dm : pD} : Ko (43 :: 44 :: 45 :: 46 :: ks) D (fun q => if q < 100 then vwD D Dm q else D q) := by
  intro q hq
  simp only [List.mem_cons, not_or] at hq
  by_cases c : q < 100
  · show (if q < 100 then _ else _) = _
    rw [if_pos c, vw_x c (by simp only [List.mem_cons, List.not_mem_nil, or_false, not_or]; exact ⟨hq.1, hq.2.1, hq.2.2.1, hq.2.2.2.1⟩)]
  · show (if q < 100 then _ else _) = _
    rw [if_neg c]
theorem vw_tF {D Dm : pD} {t : Nat} : tF (vwD D Dm) t = tF D t := by
  unfold tF
  rw [vw_x (by decide) (by decide)]
theorem vw_tS {D Dm : pD} {t : Nat} : tS (vwD D Dm) t = tS D t := by
  unfold tS
  rw [vw_x (by decide) (by decide)]
theorem vw_wc {D Dm : pD} {t : Nat} {a b f : Int32} : wc (vwD D Dm) t a b f = wc D t a b f := by
  unfold wc
  rw [vw_tF, vw_tS, vw_x (q := 14) (by decide) (by decide), vw_x (q := 10) (by decide) (by decide)]
/-- what stays outside is seen as it was -/
theorem vw_icq {cW cP m : Nat} {D Dm : pD} {P : Nat → Nat} (hN : iNow cW cP D) (hst : stO D Dm P m) {q : Nat} (hq24 : q < 24) (hq : ∀ k, k < m → P k ≠ q) (t : Nat) (a f : Int32) : icq (vwD D Dm) t q a f = icq D t q a f := by
  obtain ⟨s1, s2, s3, s4⟩ := hst q hq
  obtain ⟨⟨x1, x2, x3⟩, -⟩ := hN q hq24
  unfold icq
  rw [vw_43, s1, x2]
  by_cases c : D 43 0 q = -1
  · rw [if_pos c, if_pos c]
  · rw [if_neg c, if_neg c, vw_wc]
    obtain ⟨w1, w2, w3⟩ := x3 c
    have e : tAt (vwD D Dm) q = tAt D q := by
      unfold tAt
      rw [vw_44, vw_45, vw_46, s1, s2, s3, s4, x2, if_neg c, if_neg c, if_neg c, w1, w2, w3, vw_x (by decide) (by decide)]
    rw [e]
theorem free_iff {cN cW cP cT cH : Nat} {D Dm : pD} (hB : iBook cN cW cP cT cH D) (hN : iNow cW cP D) {x : Int32} {P : Nat → Nat} {m : Nat} (hP : ∀ k, k < m → P k < cP ∧ bt x (P k) = true) (hinj : ∀ k l, k < m → l < m → P k = P l → k = l) (hin : ∀ q, q < cP → bt x q = true → ∃ k, k < m ∧ P k = q) {j : Nat} (hst : stO D Dm P m) (hat : ∀ k, k < m → atO Dm cW (P k) (dg (cW + 1) m j k)) : allT (okT D Dm x) 0 cT = true ↔ rfree (cW + 1) m (bA D cW cT x P) (bGG D cW cT P) j := by
  have n2 := hB.1.1.2.1
  have n3 := hB.1.1.2.2.1
  have hd : ∀ k, dg (cW + 1) m j k ≤ cW := fun k => by have := dg_lt (b := cW + 1) (m := m) (j := j) (k := k) (by omega); omega
  have hkd : ∀ k, k < m → vwD D Dm 43 0 (P k) = okd cW (dg (cW + 1) m j k) := fun k hk => by rw [vw_43]; exact (hat k hk).1
  have both : ∀ t k l, t < cT → k < m → l < m → tF D t = P k → tS D t = P l → cl (vwD D Dm) t = wc D t (oT D cW (dg (cW + 1) m j k)) (oT D cW (dg (cW + 1) m j l)) (fl cW (dg (cW + 1) m j k) (dg (cW + 1) m j l)) := by
    intro t k l ht hk hl e1 e2
    unfold cl icq
    rw [vw_tF, vw_tS, e1, e2, hkd k hk, hkd l hl, if_neg (okd_ne _ _), if_neg (okd_ne _ _), vw_wc, atO_t n2 (hd k) (hat k hk), atO_t n2 (hd l) (hat l hl), okd_b, okd_b]
    rfl
  have oneF : ∀ t k, t < cT → k < m → tF D t = P k → bt x (tS D t) = false → cl (vwD D Dm) t = icl D t (P k) (oT D cW (dg (cW + 1) m j k)) (oB cW (dg (cW + 1) m j k)) := by
    intro t k ht hk e1 e2
    obtain ⟨-, -, g3, g4, g5⟩ := tie_x hB ht
    rw [cl_icl (p := P k) (by rw [hkd k hk]; exact okd_ne _ _) (Or.inl (by rw [vw_tF, e1])), atO_t n2 (hd k) (hat k hk), atO_b (hat k hk)]
    unfold icl
    rw [vw_tF, vw_tS, if_pos e1, if_pos e1]
    exact vw_icq hN hst (by omega) (fun l hl z => by rw [← z, (hP l hl).2] at e2; cases e2) t _ _
  have oneS : ∀ t k, t < cT → k < m → tS D t = P k → bt x (tF D t) = false → cl (vwD D Dm) t = icl D t (P k) (oT D cW (dg (cW + 1) m j k)) (oB cW (dg (cW + 1) m j k)) := by
    intro t k ht hk e1 e2
    obtain ⟨-, -, g3, g4, g5⟩ := tie_x hB ht
    rw [cl_icl (p := P k) (by rw [hkd k hk]; exact okd_ne _ _) (Or.inr (by rw [vw_tS, e1])), atO_t n2 (hd k) (hat k hk), atO_b (hat k hk)]
    unfold icl
    have hne : ¬ tF D t = P k := fun z => by rw [z, (hP k hk).2] at e2; cases e2
    rw [vw_tF, vw_tS, if_neg hne, if_neg hne, if_pos e1, if_pos e1]
    exact vw_icq hN hst (by omega) (fun l hl z => by rw [← z, (hP l hl).2] at e2; cases e2) t _ _
  rw [allT_iff]
  constructor
  · intro h k hk
    refine ⟨(allB_iff _ _).mpr fun t ht => ?_, fun l hkl hl => (allB_iff _ _).mpr fun t ht => ?_⟩
    · have hq := h t (by omega) (by omega)
      show okO_ D cW x P t k (dg (cW + 1) m j k) = true
      unfold okO_
      by_cases c : (tF D t = P k ∧ bt x (tS D t) = false) ∨ (tS D t = P k ∧ bt x (tF D t) = false)
      · rw [if_pos c]
        apply decide_eq_true
        unfold okT at hq
        rcases c with ⟨c1, c2⟩ | ⟨c1, c2⟩
        · rw [decide_eq_false (by rw [c1, (hP k hk).2]; exact fun z => by cases z.1), Bool.false_or] at hq
          rw [← oneF t k ht hk c1 c2]
          exact of_decide_eq_true hq
        · rw [decide_eq_false (by rw [c1, (hP k hk).2]; exact fun z => by cases z.2), Bool.false_or] at hq
          rw [← oneS t k ht hk c1 c2]
          exact of_decide_eq_true hq
      · rw [if_neg c]
    · have hq := h t (by omega) (by omega)
      show okI_ D cW P t k l (dg (cW + 1) m j k) (dg (cW + 1) m j l) = true
      unfold okI_
      by_cases c : (tF D t = P k ∧ tS D t = P l) ∨ (tF D t = P l ∧ tS D t = P k)
      · rw [if_pos c]
        apply decide_eq_true
        unfold okT at hq
        rcases c with ⟨c1, c2⟩ | ⟨c1, c2⟩
        · rw [decide_eq_false (by rw [c1, (hP k hk).2]; exact fun z => by cases z.1), Bool.false_or] at hq
          rw [← both t k l ht hk hl c1 c2]
          exact of_decide_eq_true hq
        · rw [decide_eq_false (by rw [c1, (hP l hl).2]; exact fun z => by cases z.1), Bool.false_or] at hq
          rw [wc_comm, fl_comm, ← both t l k ht hl hk c1 c2]
          exact of_decide_eq_true hq
      · rw [if_neg c]
  · intro h t h1 h2
    have ht : t < cT := by omega
    obtain ⟨-, -, g3, g4, g5⟩ := tie_x hB ht
    unfold okT
    cases bF : bt x (tF D t) with
    | false =>
      cases bS : bt x (tS D t) with
      | false => rfl
      | true =>
        obtain ⟨k, hk, e⟩ := hin _ g4 bS
        have hA := (allB_iff _ _).mp (h k hk).1 t ht
        have hA' : okO_ D cW x P t k (dg (cW + 1) m j k) = true := hA
        unfold okO_ at hA'
        rw [if_pos (Or.inr ⟨e.symm, bF⟩)] at hA'
        rw [oneS t k ht hk e.symm bF, hA', Bool.or_true]
    | true =>
      obtain ⟨k, hk, e⟩ := hin _ g3 bF
      cases bS : bt x (tS D t) with
      | false =>
        have hA := (allB_iff _ _).mp (h k hk).1 t ht
        have hA' : okO_ D cW x P t k (dg (cW + 1) m j k) = true := hA
        unfold okO_ at hA'
        rw [if_pos (Or.inl ⟨e.symm, bS⟩)] at hA'
        rw [oneF t k ht hk e.symm bS, hA', Bool.or_true]
      | true =>
        obtain ⟨l, hl, e2⟩ := hin _ g4 bS
        rcases Nat.lt_trichotomy k l with q | q | q
        · have hG' : okI_ D cW P t k l (dg (cW + 1) m j k) (dg (cW + 1) m j l) = true := (allB_iff _ _).mp ((h k hk).2 l q hl) t ht
          unfold okI_ at hG'
          rw [if_pos (Or.inl ⟨e.symm, e2.symm⟩)] at hG'
          rw [both t k l ht hk hl e.symm e2.symm, hG', Bool.or_true]
        · exact absurd (by rw [← e, ← e2, q]) g5
        · have hG' : okI_ D cW P t l k (dg (cW + 1) m j l) (dg (cW + 1) m j k) = true := (allB_iff _ _).mp ((h l hl).2 k q hk) t ht
          unfold okI_ at hG'
          rw [if_pos (Or.inr ⟨e.symm, e2.symm⟩)] at hG'
          rw [both t k l ht hk hl e.symm e2.symm, wc_comm, fl_comm, hG', Bool.or_true]
