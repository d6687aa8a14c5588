/-! best: what the class finds and puts -/
def bL (D : pD) (cW : Nat) (P : Nat → Nat) (k a : Nat) : Nat := (lO D cW (P k) a).toNatClampNeg
def bA (D : pD) (cW cT : Nat) (x : Int32) (P : Nat → Nat) (k a : Nat) : Bool := allB (fun t => okO_ D cW x P t k a) cT
def bGG (D : pD) (cW cT : Nat) (P : Nat → Nat) (k l a c : Nat) : Bool := allB (fun t => okI_ D cW P t k l a c) cT
theorem bL_lt {D : pD} (hS : iSet D) (hW : iWts D) (cW : Nat) (P : Nat → Nat) {m : Nat} (hm : m ≤ 4) (b j : Nat) : rcost b m (bL D cW P) j < NW := by
  have := nS_le2 (f := fun k => bL D cW P k (dg b m j k)) (B := 42867) (n := m) (fun k _ => (lO_x hS hW cW (P k) _).2) hm
  have hNW : NW = 16777216 := rfl
  unfold rcost
  omega
theorem X_ties {cN cW cP cT cH : Nat} {D : pD} {E : pDL} (hB : iBook cN cW cP cT cH D) {x : Int32} {m : Nat} {P : Nat → Nat} (hm : m ≤ 4) (hP : ∀ k, k < m → P k < 24 ∧ bt x (P k) = true) (hinj : ∀ k l, k < m → l < m → P k = P l → k = l) (hin : ∀ q, q < cP → bt x q = true → ∃ k, k < m ∧ P k = q) : ∀ (n t : Nat) (D1 : pD), t + n = cT → obI D D1 cW x P m t → ∃ D2, Se_putBest_8 (nI t) D1 E = Se_putBest_8 (nI cT) D2 E ∧ obI D D2 cW x P m cT
  | 0, t, D1, ht, h => by
    obtain rfl : t = cT := by omega
    exact ⟨D1, rfl, h⟩
  | n + 1, t, D1, ht, h => by
    have n4 := hB.1.1.2.2.2.1
    have hB1 := hB.ko h.1 (by decide)
    obtain ⟨D2, r1, r2⟩ := X_obeyTie (E := E) hB hm hP hinj hin (show t < cT by omega) h
    obtain ⟨D3, s1, s2⟩ := X_ties (E := E) hB hm hP hinj hin n (t + 1) D2 (by omega) r2
    refine ⟨D3, ?_, s2⟩
    rw [e_Se_putBest_8, hB1.1.2.1.2.2.2.1, if_neg (nI_ge (by omega) (by omega)), r1, B0s, ca1]
    exact s1
theorem X_search {cN cW cP cT cH : Nat} {D : pD} {E : pDL} (hB : iBook cN cW cP cT cH D) {x : Int32} (hl : (pl x cP).length ≤ 4) : ∃ D2 le R, Se_putBest x D E = (if le = NW then some (some (.inl 0), D2, E) else Se_putBest_52 (nI 0) D2 E) ∧ Ko [50, 51, 52, 53, 54, 55, 56] D D2 ∧ D2 50 0 7 = nI (pl x cP).length ∧ (∀ k, k < (pl x cP).length → D2 51 0 k = nI (pP x cP k)) ∧ (le ≠ NW → ∀ k, k < (pl x cP).length → D2 56 0 k = nI (R k)) ∧ IsB (cW + 1) (pl x cP).length (bL D cW (pP x cP)) (bA D cW cT x (pP x cP)) (bGG D cW cT (pP x cP)) ((cW + 1) ^ (pl x cP).length) le R := by
  have n2 := hB.1.1.2.1
  have n3 := hB.1.1.2.2.1
  have n4 := hB.1.1.2.2.2.1
  have hS := hB.2.1
  have hW := hB.2.2.1
  have hNW : NW = 16777216 := rfl
  have hP : ∀ k, k < (pl x cP).length → pP x cP k < 24 ∧ bt x (pP x cP k) = true := fun k hk => ⟨by have := (pP_mem hk).1; omega, (pP_mem hk).2⟩
  have hinj : ∀ k l, k < (pl x cP).length → l < (pl x cP).length → pP x cP k = pP x cP l → k = l := fun k l hk hl h => pP_inj hk hl h
  have hin : ∀ q, q < cP → bt x q = true → ∃ k, k < (pl x cP).length ∧ pP x cP k = q := fun q h1 h2 => pP_of h1 h2
  obtain ⟨D1, r1, ⟨g1, g2, g3, g4, g5⟩, r3⟩ := X_begin (E := E) hB x hl
  obtain ⟨D2, s1, s2⟩ := X_ties (E := E) hB hl hP hinj hin cT 0 D1 (by omega) ⟨g1, g2, g3, g4, fun k hk => ⟨(g5 k hk).1, (g5 k hk).2.1, fun a ha => by rw [(g5 k hk).2.2 a ha]; rfl⟩, fun k l hkl hlm a ha c hc => by
    rw [r3 (k * 4 + l) (by omega) a (by omega) c (by omega)]
    exact decide_eq_true (by omega)⟩
  obtain ⟨k1, e7, e8, e9, h5, h6⟩ := s2
  generalize hmm : (pl x cP).length = m at *
  have hE : sE D2 (cW + 1) m (bL D cW (pP x cP)) (bGG D cW cT (pP x cP)) := by
    refine ⟨by omega, by omega, hl, e7, e8, fun k hk a ha => ?_, fun k l hkl hlm a ha c hc => h6 k l hkl hlm a (by omega) c (by omega)⟩
    rw [(h5 k hk).2.1 a (by omega)]
    exact lO_x hS hW cW (pP x cP k) a
  have hcost : ∀ j, rcost (cW + 1) m (bL D cW (pP x cP)) j < NW := fun j => bL_lt hS hW cW (pP x cP) hl (cW + 1) j
  have hset : ∃ D3 le R, Se_settle 8 0 0 D2 E = some (none, D3, E) ∧ Kf D2 D3 ∧ D3 50 0 9 = nI le ∧ (le ≠ NW → ∀ k, k < m → D3 56 0 k = nI (R k)) ∧ IsB (cW + 1) m (bL D cW (pP x cP)) (bA D cW cT x (pP x cP)) (bGG D cW cT (pP x cP)) ((cW + 1) ^ m) le R := by
    by_cases hz : m = 0
    · subst hz
      have hb : IsB (cW + 1) 0 (bL D cW (pP x cP)) (bA D cW cT x (pP x cP)) (bGG D cW cT (pP x cP)) (0 * (cW + 1) ^ 0) NW (fun _ => 0) := Or.inl ⟨rfl, fun j hj => absurd hj (by omega)⟩
      obtain ⟨D3, le, R, t1, t2, -, -, t5, t6, t7⟩ := X_settle (E := E) (A := bA D cW cT x (pP x cP)) hE hcost 0 0 0 6 D2 NW (fun _ => 0) (by omega) (by rw [Nat.pow_zero]; omega) ⟨⟨Ko.rf, fun _ _ => rfl⟩, fun k h1 h2 => absurd h2 (by omega), fun k hk => absurd hk (by omega), e9, fun z => absurd rfl z⟩ hb (fun k hk => absurd hk (by omega)) (fun _ => by show nS _ 0 < NW; rw [nS]; omega)
      refine ⟨D3, le, R, t1, t2, t5, t6, ?_⟩
      rw [show (0 + 1) * (cW + 1) ^ 0 = (cW + 1) ^ 0 by omega] at t7
      exact t7
    · have hb : IsB (cW + 1) m (bL D cW (pP x cP)) (bA D cW cT x (pP x cP)) (bGG D cW cT (pP x cP)) (0 * (cW + 1) ^ m) NW (fun _ => 0) := Or.inl ⟨rfl, fun j hj => absurd hj (by omega)⟩
      obtain ⟨D3, le, R, t1, t2, -, -, t5, t6, t7⟩ := X_settle (E := E) (A := bA D cW cT x (pP x cP)) hE hcost m 0 0 (6 - m) D2 NW (fun _ => 0) (by omega) (by rw [Nat.pow_zero]; omega) ⟨⟨Ko.rf, fun _ _ => rfl⟩, fun k h1 h2 a ha => by
          rw [(h5 k h2).2.2 a (by omega)]
          unfold alw bA
          exact ⟨fun z => ⟨z, fun i hi => absurd hi (by omega)⟩, fun z => z.1⟩, fun k hk => absurd hk (by omega), e9, fun z => absurd rfl z⟩ hb (fun k hk => absurd hk (by omega)) (fun z => absurd z hz)
      rw [show 6 - m + 2 + m = 8 by omega] at t1
      refine ⟨D3, le, R, t1, t2, t5, t6, ?_⟩
      rw [show (0 + 1) * (cW + 1) ^ m = (cW + 1) ^ m by omega] at t7
      exact t7
  obtain ⟨D3, le, R, t1, t2, t5, t6, t7⟩ := hset
  have hle : le ≤ NW := t7.le hcost
  have hB2 := hB.ko k1 (by decide)
  have k3 : Ko [50, 51, 52, 53, 54, 55, 56] D D3 := k1.tr (t2.1.sub (by decide))
  refine ⟨D3, le, R, ?_, k3, by rw [t2.2 7 (by decide), e7], fun k hk => by rw [t2.1.c (by decide)]; exact (h5 k hk).1, t6, t7⟩
  rw [e_Se_putBest, r1, B0s, show Se_putBest_8 0 D1 E = _ from s1, e_Se_putBest_8, hB2.1.2.1.2.2.2.1, if_pos (nI_le (Nat.le_refl _) (by omega)), t1, B0s, t5]
  by_cases c : le = NW
  · rw [if_pos c, if_pos (show nI le = (16777216 : Int32) by rw [c]; rfl)]
  · rw [if_neg c, if_neg (show ¬ nI le = (16777216 : Int32) from fun z => c ((iE (b := 16777216) (by omega) (by omega)).mp z))]
    rfl
/-- the options of a row are put -/
theorem X_putAll {cW m : Nat} (hW : cW ≤ 20) (hm : m ≤ 4) {E : pDL} {P R : Nat → Nat} (hP : ∀ k, k < m → P k < 24) (hinj : ∀ k l, k < m → l < m → P k = P l → k = l) (hR : ∀ k, k < m → R k ≤ cW) : ∀ (n k : Nat) (D1 : pD), k + n = m → D1 50 0 7 = nI m → D1 4 0 1 = nI cW → (∀ k, k < m → D1 51 0 k = nI (P k)) → (∀ k, k < m → D1 56 0 k = nI (R k)) → ∃ D3, Se_putBest_52 (nI k) D1 E = some (some (.inl 1), D3, E) ∧ Ko [43, 44, 45, 46] D1 D3 ∧ (∀ q, (∀ l, k ≤ l → l < m → P l ≠ q) → D3 43 0 q = D1 43 0 q ∧ D3 44 0 q = D1 44 0 q ∧ D3 45 0 q = D1 45 0 q ∧ D3 46 0 q = D1 46 0 q) ∧ ∀ l, k ≤ l → l < m → D3 43 0 (P l) = okd cW (R l) ∧ D3 44 0 (P l) = oa cW (R l) ∧ D3 45 0 (P l) = -1 ∧ D3 46 0 (P l) = -1
  | 0, k, D1, hk, e7, e1, e51, e56 => ⟨D1, by rw [e_Se_putBest_52, e7, if_pos (nI_le (by omega) (by omega))], Ko.rf, fun _ _ => ⟨rfl, rfl, rfl, rfl⟩, fun l h1 h2 => absurd h1 (by omega)⟩
  | n + 1, k, D1, hk, e7, e1, e51, e56 => by
    have hk' : k < m := by omega
    have kx : Ko [43, 44, 45, 46] D1 (opX D1 cW (P k) (R k)) := putX_ko _ _ _ _ _ _
    obtain ⟨D3, r1, r2, r3, r4⟩ := X_putAll hW hm (E := E) hP hinj hR n (k + 1) (opX D1 cW (P k) (R k)) (by omega) (by rw [kx.c (by decide), e7]) (by rw [kx.c (by decide), e1]) (fun l hl => by rw [kx.c (by decide), e51 l hl]) (fun l hl => by rw [kx.c (by decide), e56 l hl])
    refine ⟨D3, ?_, kx.tr r2, fun q hq => ?_, fun l h1 h2 => ?_⟩
    · rw [e_Se_putBest_52, e7]
      simp (disch := omega) only [sC, sN, sN0, sLL, sTT, sEE, sM1, sF, sGt, sLe, sLt, sNe, or_false, or_true, false_or, true_or, or_self, if_true, if_false, not_true_eq_false, not_false_eq_true, B1s, B0s, B2s, e51 k hk', e56 k hk', X_putOption hW e1 (hP k hk') (hR k hk'), ca1]
      exact r1
    · obtain ⟨a1, a2, a3, a4⟩ := r3 q (fun l h1 h2 => hq l (by omega) h2)
      have hne : q ≠ P k := fun z => hq k (Nat.le_refl _) hk' z.symm
      unfold opX at a1 a2 a3 a4
      rw [a1, a2, a3, a4, putX_k, putX_a, putX_b, putX_c, if_neg hne, if_neg hne, if_neg hne, if_neg hne]
      exact ⟨rfl, rfl, rfl, rfl⟩
    · by_cases e : l = k
      · subst e
        obtain ⟨a1, a2, a3, a4⟩ := r3 (P l) (fun i h1 h2 z => by have := hinj i l h2 hk' z; omega)
        unfold opX at a1 a2 a3 a4
        rw [a1, a2, a3, a4, putX_k, putX_a, putX_b, putX_c, if_pos rfl, if_pos rfl, if_pos rfl, if_pos rfl]
        exact ⟨rfl, rfl, rfl, rfl⟩
      · exact r4 l (by omega) h2
/-- may best be asked -/
theorem all_b {c : Nat} (hc : c ≤ 24) (x : Int32) : x &&& ((((1 : Int32) <<< (nI c &&& 31)) - 1) ^^^ (-1)) = 0 ↔ ∀ i, i < 32 → bt x i = true → i < c := by
  rw [and0_iff]
  constructor
  · intro h i hi hb
    have := h i hi
    rw [hb, b_not _ hi, full_b c (by omega) i hi] at this
    simpa using this
  · intro h i hi
    rw [b_not _ hi, full_b c (by omega) i hi]
    cases hb : bt x i with
    | false => rfl
    | true =>
      rw [decide_eq_true (h i hi hb)]
      rfl
