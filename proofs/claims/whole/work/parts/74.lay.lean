/-! best: the reference lays rows -/
def mK : List Nat := [115, 116, 117, 118, 120, 121, 122, 123, 124]
/-- the class's view of what the reference has laid -/
def vwD (D Dm : pD) : pD := fun q => if q = 43 then (fun j => if j = 0 then Dm 115 0 else D 43 j) else if q = 44 then (fun j => if j = 0 then (fun p => if Dm 115 0 p = -1 then -1 else Dm 116 0 p) else D 44 j) else if q = 45 then (fun j => if j = 0 then (fun p => if Dm 115 0 p = -1 then -1 else Dm 117 0 p) else D 45 j) else if q = 46 then (fun j => if j = 0 then (fun p => if Dm 115 0 p = -1 then -1 else Dm 118 0 p) else D 46 j) else if q < 100 then D q else Dm q
theorem vw_m {D Dm : pD} {q : Nat} (h : 100 ≤ q) : Dm q = vwD D Dm q := by
  unfold vwD
  rw [if_neg (by omega), if_neg (by omega), if_neg (by omega), if_neg (by omega), if_neg (by omega)]
theorem vw_x {D Dm : pD} {q : Nat} (h : q < 100) (h2 : q ∉ [43, 44, 45, 46]) : vwD D Dm q = D q := by
  simp only [List.mem_cons, List.not_mem_nil, or_false, not_or] at h2
  unfold vwD
  rw [if_neg h2.1, if_neg h2.2.1, if_neg h2.2.2.1, if_neg h2.2.2.2, if_pos h]
theorem vw_43 {D Dm : pD} {p : Nat} : vwD D Dm 43 0 p = Dm 115 0 p := rfl
theorem vw_44 {D Dm : pD} {p : Nat} : vwD D Dm 44 0 p = if Dm 115 0 p = -1 then -1 else Dm 116 0 p := rfl
theorem vw_45 {D Dm : pD} {p : Nat} : vwD D Dm 45 0 p = if Dm 115 0 p = -1 then -1 else Dm 117 0 p := rfl
theorem vw_46 {D Dm : pD} {p : Nat} : vwD D Dm 46 0 p = if Dm 115 0 p = -1 then -1 else Dm 118 0 p := rfl
/-- choices of the reference as they may be -/
def MV (cW cP : Nat) (Dm : pD) : Prop := ∀ p, p < 24 → XC cW (Dm 115 0 p) (if Dm 115 0 p = -1 then -1 else Dm 116 0 p) (if Dm 115 0 p = -1 then -1 else Dm 117 0 p) (if Dm 115 0 p = -1 then -1 else Dm 118 0 p) ∧ (cP ≤ p → Dm 115 0 p = -1)
theorem now_mv {cW cP : Nat} {D : pD} (hN : iNow cW cP D) : MV cW cP D := by
  intro p hp
  obtain ⟨⟨h1, h2, h3⟩, -, h5⟩ := hN p hp
  refine ⟨?_, fun z => by rw [h2]; exact (h5 z).1⟩
  rw [h2]
  by_cases c : D 43 0 p = -1
  · obtain ⟨q1, q2, q3⟩ := h1.no c
    rw [if_pos c, if_pos c, if_pos c]
    have := h1
    rw [q1, q2, q3] at this
    exact this
  · obtain ⟨q1, q2, q3⟩ := h3 c
    rw [if_neg c, if_neg c, if_neg c, q1, q2, q3]
    exact h1
theorem vw_ok {cN cW cP cT cH : Nat} {D Dm : pD} (hB : iBook cN cW cP cT cH D) (hN : iNow cW cP D) (hY : iYears cW D) (hk : Ko [115, 116, 117, 118, 120, 121, 122, 123, 124] D Dm) (hV : MV cW cP Dm) : iBook cN cW cP cT cH (vwD D Dm) ∧ iNow cW cP (vwD D Dm) ∧ iYears cW (vwD D Dm) := by
  have ex : ∀ q ∈ [4, 5, 6, 7, 8, 9, 10, 11, 12, 13, 14, 15, 16, 59, 60, 61, 62, 102, 105, 106, 107, 108, 109, 110, 111, 112, 113, 114, 132, 133, 134], vwD D Dm q 0 = D q 0 := by
    intro q hq
    by_cases c : q < 100
    · rw [vw_x c (by revert hq; simp; omega)]
    · rw [← vw_m (by omega), hk q (by revert hq; simp; omega)]
  refine ⟨hB.fr (fun q hq => ex q (by revert hq; simp; omega)), fun p hp => ?_, hY.fr (fun q hq => ex q (by revert hq; simp; omega)) (by rw [vw_x (by decide) (by decide)]) (by rw [← vw_m (by decide), hk.c (by decide)])⟩
  rw [vw_43, vw_44, vw_45, vw_46, ← vw_m (D := D) (Dm := Dm) (q := 115) (by decide), ← vw_m (D := D) (Dm := Dm) (q := 116) (by decide), ← vw_m (D := D) (Dm := Dm) (q := 117) (by decide), ← vw_m (D := D) (Dm := Dm) (q := 118) (by decide), ← vw_m (D := D) (Dm := Dm) (q := 119) (by decide), hk.c (k := 119) (by decide), vw_x (q := 47) (by decide) (by decide)]
  refine ⟨⟨(hV p hp).1, rfl, fun z => ?_⟩, (hN p hp).2.1, fun z => ⟨(hV p hp).2 z, ((hN p hp).2.2 z).2⟩⟩
  rw [if_neg z, if_neg z, if_neg z]
  exact ⟨rfl, rfl, rfl⟩
/-- an option stands at a place of the reference -/
def atO (Dm : pD) (cW p o : Nat) : Prop := Dm 115 0 p = okd cW o ∧ Dm 116 0 p = oa cW o ∧ Dm 117 0 p = -1 ∧ Dm 118 0 p = -1
theorem okd_ne (cW o : Nat) : ¬ okd cW o = -1 := by
  unfold okd
  split <;> decide
theorem atO_t {D Dm : pD} {cW p o : Nat} (hc : cW ≤ 20) (ho : o ≤ cW) (h : atO Dm cW p o) : tAt (vwD D Dm) p = oT D cW o := by
  obtain ⟨h1, h2, h3, h4⟩ := h
  have hne : ¬ Dm 115 0 p = -1 := by rw [h1]; exact okd_ne cW o
  unfold tAt
  rw [vw_44, vw_45, vw_46, if_neg hne, if_neg hne, if_neg hne, h2, h3, h4, vw_x (by decide) (by decide)]
  unfold tA oT oa
  rw [tO_none, or_0, or_0]
  by_cases e : o = cW
  · rw [if_pos e, if_pos e, tO_none]
  · rw [if_neg e, if_neg e, tO_in _ (iB (N := 20) (by omega) (by omega)), iC (by omega)]
theorem okd_b (cW o : Nat) : (if okd cW o = 3 then (1 : Int32) else 0) = oB cW o := by
  unfold okd oB
  by_cases e : o = cW
  · rw [if_pos e, if_pos rfl, if_pos e]
  · rw [if_neg e, if_neg (by decide), if_neg e]
theorem atO_b {D Dm : pD} {cW p o : Nat} (h : atO Dm cW p o) : bo (vwD D Dm) p = oB cW o := by
  unfold bo
  rw [vw_43, h.1]
  exact okd_b cW o
theorem atO_v {D Dm : pD} {cW p o : Nat} (hc : cW ≤ 20) (ho : o ≤ cW) (h : atO Dm cW p o) : Rn_lostAt_held_wordTraits_v (vwD D Dm) p = lO D cW p o := by
  have ht := atO_t (D := D) hc ho h
  have hne : ¬ Dm 115 0 p = -1 := by rw [h.1]; exact okd_ne cW o
  unfold tAt oT at ht
  unfold Rn_lostAt_held_wordTraits_v lO lA
  rw [ht, vw_43, if_neg hne, vw_45, vw_46, if_neg hne, if_neg hne, h.2.2.1, h.2.2.2, if_pos rfl, Int32.add_zero, Int32.zero_mul, Int32.add_zero, h.1]
  unfold pN
  rw [vw_x (q := 5) (by decide) (by decide), vw_x (q := 6) (by decide) (by decide), vw_x (q := 8) (by decide) (by decide), vw_x (q := 10) (by decide) (by decide), vw_x (q := 11) (by decide) (by decide), vw_x (q := 47) (by decide) (by decide)]
  unfold okd
  by_cases e : o = cW
  · simp only [e, if_true]
  · simp only [e, if_false, q03]
theorem MV.op {cW cP p o : Nat} {Dm : pD} (h : MV cW cP Dm) (hc : cW ≤ 20) (ho : o ≤ cW) (hp : p < cP) : MV cW cP (opM Dm cW p o) := by
  intro q hq
  unfold opM
  rw [putM_k, putM_a, putM_b, putM_c]
  by_cases e : q = p
  · rw [if_pos e, if_pos e, if_pos e, if_pos e, if_neg (okd_ne _ _), if_neg (okd_ne _ _)]
    exact ⟨op_xc hc ho, fun z => absurd hp (by omega)⟩
  · rw [if_neg e, if_neg e, if_neg e, if_neg e]
    exact h q hq
/-- what stays while rows are laid: D, the places P -/
def stO (D Dm : pD) (P : Nat → Nat) (m : Nat) : Prop := ∀ q, (∀ k, k < m → P k ≠ q) → Dm 115 0 q = D 115 0 q ∧ Dm 116 0 q = D 116 0 q ∧ Dm 117 0 q = D 117 0 q ∧ Dm 118 0 q = D 118 0 q
theorem M_lay {cN cW cP cT cH : Nat} {D : pD} {E : pDL} (hB : iBook cN cW cP cT cH D) (hN : iNow cW cP D) (hY : iYears cW D) {P : Nat → Nat} {m : Nat} (hm : m ≤ 4) (hP : ∀ k, k < m → P k < cP) (hinj : ∀ k l, k < m → l < m → P k = P l → k = l) {j : Nat} (hj : j < (cW + 1) ^ m) (hj2 : (cW + 1) ^ m ≤ 194481) : ∀ (r s : Nat) (Dm : pD), r ≤ m → Ko [115, 116, 117, 118, 120, 121, 122, 123, 124] D Dm → MV cW cP Dm → stO D Dm P m → (∀ k, k < m → Dm 120 0 k = nI (P k)) → ∃ Dn, Mo_layRow_10 (nI (j / (cW + 1) ^ (m - r))) (nI s) (nI r - 1) Dm E = some (some (.inl (nI (s + nS (fun k => bL D cW P k (dg (cW + 1) m j k)) r))), Dn, E) ∧ Ko [115, 116, 117, 118] Dm Dn ∧ MV cW cP Dn ∧ stO D Dn P m ∧ (∀ k, k < r → atO Dn cW (P k) (dg (cW + 1) m j k)) ∧ ∀ k, r ≤ k → k < m → Dn 115 0 (P k) = Dm 115 0 (P k) ∧ Dn 116 0 (P k) = Dm 116 0 (P k) ∧ Dn 117 0 (P k) = Dm 117 0 (P k) ∧ Dn 118 0 (P k) = Dm 118 0 (P k) := by
  obtain ⟨⟨⟨n1, n2, n3, n4, n5⟩, ⟨a1, a2, a3, a4, a5⟩, ⟨b1, b2, b3, b4, b5⟩⟩, hS, hW, -⟩ := id hB
  intro r
  induction r with
  | zero =>
    intro s Dm hr hk hV hst h120
    refine ⟨Dm, ?_, Ko.rf, hV, hst, fun k hk => absurd hk (by omega), fun _ _ _ => ⟨rfl, rfl, rfl, rfl⟩⟩
    rw [e_Mo_layRow_10, if_pos (by decide), nS, Nat.add_zero]
  | succ r ih =>
    intro s Dm hr hk hV hst h120
    have hrm : r < m := by omega
    have hpr := hP r hrm
    have hp24 : P r < 24 := by omega
    have hleft : j / (cW + 1) ^ (m - (r + 1)) < 2147483648 := Nat.lt_of_le_of_lt (Nat.div_le_self _ _) (by omega)
    have hdg : j / (cW + 1) ^ (m - (r + 1)) % (cW + 1) = dg (cW + 1) m j r := by
      unfold dg
      rw [show m - 1 - r = m - (r + 1) by omega]
    have hdv : j / (cW + 1) ^ (m - (r + 1)) / (cW + 1) = j / (cW + 1) ^ (m - r) := by
      rw [Nat.div_div_eq_div_mul, ← Nat.pow_succ, show (m - (r + 1)).succ = m - r by omega]
    generalize hl : j / (cW + 1) ^ (m - (r + 1)) = left at *
    have hd : dg (cW + 1) m j r ≤ cW := by have := dg_lt (b := cW + 1) (m := m) (j := j) (k := r) (by omega); omega
    have c102 : Dm 102 0 1 + 1 = nI (cW + 1) := by rw [hk.c (by decide), b2, ca1]
    have erem : nI left - nI left / nI (cW + 1) * nI (cW + 1) = nI (dg (cW + 1) m j r) := by rw [pk_rem (by omega) (by omega) (by omega), hdg]
    have ediv : nI left / nI (cW + 1) = nI (j / (cW + 1) ^ (m - r)) := by rw [pk_div (by omega) (by omega) (by omega), hdv]
    have erem' : nI left - nI (j / (cW + 1) ^ (m - r)) * nI (cW + 1) = nI (dg (cW + 1) m j r) := by rw [← ediv]; exact erem
    have hne : ¬ nI (cW + 1) = 0 := fun z => by have := (iE (b := 0) (by omega) (by omega)).mp z; omega
    have kop : Ko [115, 116, 117, 118] Dm (opM Dm cW (P r) (dg (cW + 1) m j r)) := putM_ko _ _ _ _ _ _
    have hk1 : Ko [115, 116, 117, 118, 120, 121, 122, 123, 124] D (opM Dm cW (P r) (dg (cW + 1) m j r)) := hk.tr (kop.sub (by decide))
    have hV1 := hV.op n2 hd hpr
    have hst1 : stO D (opM Dm cW (P r) (dg (cW + 1) m j r)) P m := by
      intro q hq
      have hqr : q ≠ P r := fun z => hq r hrm z.symm
      unfold opM
      rw [putM_k, putM_a, putM_b, putM_c, if_neg hqr, if_neg hqr, if_neg hqr, if_neg hqr]
      exact hst q hq
    have hat : atO (opM Dm cW (P r) (dg (cW + 1) m j r)) cW (P r) (dg (cW + 1) m j r) := by
      unfold atO opM
      rw [putM_k, putM_a, putM_b, putM_c, if_pos rfl, if_pos rfl, if_pos rfl, if_pos rfl]
      exact ⟨rfl, rfl, rfl, rfl⟩
    obtain ⟨vB, vN', vY⟩ := vw_ok hB hN hY hk1 hV1
    have hlost : Mo_lostAt (nI (P r)) (-1) (opM Dm cW (P r) (dg (cW + 1) m j r)) E = some (some (.inl (nI (bL D cW P r (dg (cW + 1) m j r)))), opM Dm cW (P r) (dg (cW + 1) m j r), E) := by
      have h1 := M_lostAt (E := E) vB vN' vY hpr
      rw [atO_v n2 hd hat, (lO_x hS hW cW (P r) (dg (cW + 1) m j r)).1] at h1
      exact M_ro (f := Mo_lostAt (nI (P r)) (-1)) ⟨_, _, _, _, by repeat first | exact okL_nil | refine okL_n ?_ | refine okL_i ?_ | refine okL_r (by decide) ?_, fun _ _ => rfl⟩ h1 (fun q h1 _ => vw_m h1)
    have hlb : bL D cW P r (dg (cW + 1) m j r) ≤ 42867 := (lO_x hS hW cW (P r) (dg (cW + 1) m j r)).2
    have c102' : opM Dm cW (P r) (dg (cW + 1) m j r) 102 0 1 + 1 = nI (cW + 1) := by rw [kop.c (by decide), c102]
    obtain ⟨Dn, r1, r2, r3, r4, r5, r6⟩ := ih (s + bL D cW P r (dg (cW + 1) m j r)) (opM Dm cW (P r) (dg (cW + 1) m j r)) (by omega) hk1 hV1 hst1 (fun k hk => by rw [kop.c (by decide), h120 k hk])
    refine ⟨Dn, ?_, kop.tr r2, r3, r4, fun k hk' => ?_, fun k h1 h2 => ?_⟩
    · rw [e_Mo_layRow_10, nI_pred]
      have hneg : ¬ nI r < 0 := iN (by omega)
      have h120' : opM Dm cW (P r) (dg (cW + 1) m j r) 120 0 r = nI (P r) := by rw [kop.c (by decide), h120 r hrm]
      simp (disch := omega) only [sC, sN, sN0, sLL, sTT, sEE, sM1, sF, sGt, sLe, sLt, sNe, or_false, or_true, false_or, true_or, or_self, if_true, if_false, not_true_eq_false, not_false_eq_true, B1s, B0s, B2s, c102, hne, h120 r hrm, erem', M_putBy n2 (show Dm 102 0 1 = nI cW by rw [hk.c (by decide), b2]) hp24 hd, c102', h120', hlost, ediv, nI_add]
      rw [← Int32.sub_eq_add_neg, r1, nS, Nat.add_assoc, Nat.add_comm (bL D cW P r (dg (cW + 1) m j r))]
    · by_cases e : k = r
      · subst e
        obtain ⟨z1, z2, z3, z4⟩ := r6 k (Nat.le_refl _) hrm
        unfold atO
        rw [z1, z2, z3, z4]
        exact hat
      · exact r5 k (by omega)
    · obtain ⟨z1, z2, z3, z4⟩ := r6 k (by omega) h2
      have hne2 : P k ≠ P r := fun z => by have := hinj k r h2 hrm z; omega
      rw [z1, z2, z3, z4]
      unfold opM
      rw [putM_k, putM_a, putM_b, putM_c, if_neg hne2, if_neg hne2, if_neg hne2, if_neg hne2]
      exact ⟨rfl, rfl, rfl, rfl⟩
