/-! best: the equations of settle at any depth; rows by their numbers -/
set_option maxRecDepth 100000 in
set_option maxHeartbeats 4000000 in
theorem e2_Se_settle (dd : Nat) (x1 : Int32) (x2 : Int32) (D : pD) (E : pDL) : Se_settle (dd + 2) x1 x2 D E = (if x1 < (D 50 0 7) then (Se_settle_30 (dd + 2) x1 x2 (0 : Int32) D E) else (some (none, (dcpy (dset D 50 0 9 x2) 55 0 56 0 4), E))) := (pEg m89 (d := dd + 2) 23 _ _ _ _).trans rfl
set_option maxRecDepth 100000 in
set_option maxHeartbeats 4000000 in
theorem e2_Se_settle_30 (dd : Nat) (x1 : Int32) (x2 : Int32) (x3 : Int32) (D : pD) (E : pDL) : Se_settle_30 (dd + 2) x1 x2 x3 D E = (if (D 50 0 8) ≤ x3 then (some (none, D, E)) else (if x1 < 0 ∨ 5 ≤ x1.toNatClampNeg then none else (if x1.toNatClampNeg < 5 then (if x1 < 0 ∨ 4 ≤ x1.toNatClampNeg then none else (if (((D 54 (x1.toNatClampNeg + 1) x1.toNatClampNeg) >>> (x3 &&& 31)) &&& (1 : Int32)) = 0 then (Se_settle_30 (dd + 2) x1 x2 (x3 + (1 : Int32)) D E) else (if x1 < 0 ∨ 4 ≤ x1.toNatClampNeg then none else (if x1.toNatClampNeg < 4 then (if x3 < 0 ∨ 21 ≤ x3.toNatClampNeg then none else (if x1 < 0 ∨ 4 ≤ x1.toNatClampNeg then none else (pB1 (Se_narrow x1 x3 (dset D 55 0 x1.toNatClampNeg x3) E) fun y1 D1 E1 => (if (D1 50 0 9) ≤ ((x2 + (D 52 (x1.toNatClampNeg + 1) x3.toNatClampNeg)) + y1) then (Se_settle_30 (dd + 2) x1 x2 (x3 + (1 : Int32)) D1 E1) else (pB0 (Se_settle (dd + 1) (x1 + (1 : Int32)) (x2 + (D 52 (x1.toNatClampNeg + 1) x3.toNatClampNeg)) D1 E1) fun D2 E2 => (Se_settle_30 (dd + 2) x1 x2 (x3 + (1 : Int32)) D2 E2)))))) else none)))) else none))) := (pEg m89 (d := dd + 2) 56 _ _ _ _).trans rfl
/-- the option at the level k of the row j, m levels, b options -/
def dg (b m j k : Nat) : Nat := j / b ^ (m - 1 - k) % b
theorem dg_lt {b m j k : Nat} (hb : 0 < b) : dg b m j k < b := Nat.mod_lt _ hb
theorem dg_block {b m lvl j v k : Nat} (hk : k < lvl) (hl : lvl ≤ m) (hj : j / b ^ (m - lvl) = v) : dg b m j k = dg b lvl v k := by
  unfold dg
  rw [← hj, Nat.div_div_eq_div_mul, ← Nat.pow_add, show m - lvl + (lvl - 1 - k) = m - 1 - k by omega]
theorem dg_next {b lvl v o k : Nat} (ho : o < b) (hk : k < lvl) : dg b (lvl + 1) (v * b + o) k = dg b lvl v k := by
  unfold dg
  have e : lvl + 1 - 1 - k = 1 + (lvl - 1 - k) := by omega
  have e2 : (v * b + o) / b = v := by
    rw [Nat.mul_comm, Nat.mul_add_div (by omega), Nat.div_eq_of_lt ho, Nat.add_zero]
  rw [e, Nat.pow_add, Nat.pow_one, ← Nat.div_div_eq_div_mul, e2]
theorem dg_last {b lvl v o : Nat} (ho : o < b) : dg b (lvl + 1) (v * b + o) lvl = o := by
  unfold dg
  rw [show lvl + 1 - 1 - lvl = 0 by omega, Nat.pow_zero, Nat.div_one, Nat.mul_comm, Nat.mul_add_mod, Nat.mod_eq_of_lt ho]
theorem blk {b n v j : Nat} (h1 : v * b ^ n ≤ j) (h2 : j < (v + 1) * b ^ n) : j / b ^ n = v := Nat.div_eq_of_lt_le h1 h2
section ISB
variable (b m : Nat) (L : Nat → Nat → Nat) (A : Nat → Nat → Bool) (G : Nat → Nat → Nat → Nat → Bool)
def rcost (j : Nat) : Nat := nS (fun k => L k (dg b m j k)) m
def rfree (j : Nat) : Prop := ∀ k, k < m → A k (dg b m j k) = true ∧ ∀ l, k < l → l < m → G k l (dg b m j k) (dg b m j l) = true
/-- more than any row loses -/
def NW : Nat := 16777216
/-- what is the best of the first c rows -/
def IsB (c le : Nat) (R : Nat → Nat) : Prop := (le = NW ∧ ∀ j, j < c → ¬ rfree b m A G j) ∨ ∃ j0, j0 < c ∧ rfree b m A G j0 ∧ rcost b m L j0 = le ∧ (∀ k, k < m → R k = dg b m j0 k) ∧ (∀ j, j < c → rfree b m A G j → le ≤ rcost b m L j) ∧ ∀ j, j < j0 → rfree b m A G j → le < rcost b m L j
variable {b m L A G}
theorem IsB.more {c c' le : Nat} {R : Nat → Nat} (h : IsB b m L A G c le R) (hc : c ≤ c') (hm : ∀ j, rcost b m L j < NW) (hn : ∀ j, c ≤ j → j < c' → rfree b m A G j → le ≤ rcost b m L j) : IsB b m L A G c' le R := by
  rcases h with ⟨h1, h2⟩ | ⟨j0, h1, h2, h3, h4, h5, h6⟩
  · refine Or.inl ⟨h1, fun j hj hf => ?_⟩
    by_cases q : j < c
    · exact h2 j q hf
    · have := hn j (by omega) hj hf
      have := hm j
      omega
  · refine Or.inr ⟨j0, by omega, h2, h3, h4, fun j hj hf => ?_, h6⟩
    by_cases q : j < c
    · exact h5 j q hf
    · exact hn j (by omega) hj hf
theorem IsB.new {c le : Nat} {R R' : Nat → Nat} (h : IsB b m L A G c le R) (hf : rfree b m A G c) (hl : rcost b m L c < le) (hR : ∀ k, k < m → R' k = dg b m c k) : IsB b m L A G (c + 1) (rcost b m L c) R' := by
  refine Or.inr ⟨c, by omega, hf, rfl, hR, fun j hj hfj => ?_, fun j hj hfj => ?_⟩
  · by_cases q : j = c
    · rw [q]
      exact Nat.le_refl _
    · rcases h with ⟨h1, h2⟩ | ⟨j0, h1, h2, h3, h4, h5, h6⟩
      · exact absurd hfj (h2 j (by omega))
      · have := h5 j (by omega) hfj
        omega
  · rcases h with ⟨h1, h2⟩ | ⟨j0, h1, h2, h3, h4, h5, h6⟩
    · exact absurd hfj (h2 j (by omega))
    · have := h5 j (by omega) hfj
      omega
theorem IsB.uniq {c le le' : Nat} {R R' : Nat → Nat} (h : IsB b m L A G c le R) (h' : IsB b m L A G c le' R') (hm : ∀ j, rcost b m L j < NW) : le = le' ∧ (le ≠ NW → ∀ k, k < m → R k = R' k) := by
  rcases h with ⟨h1, h2⟩ | ⟨j0, h1, h2, h3, h4, h5, h6⟩
  · rcases h' with ⟨g1, g2⟩ | ⟨i0, g1, g2, g3, g4, g5, g6⟩
    · exact ⟨by rw [h1, g1], fun z => absurd h1 z⟩
    · exact absurd g2 (h2 i0 g1)
  · rcases h' with ⟨g1, g2⟩ | ⟨i0, g1, g2, g3, g4, g5, g6⟩
    · exact absurd h2 (g2 j0 h1)
    · have e1 := h5 i0 g1 g2
      have e2 := g5 j0 h1 h2
      have e : le = le' := by omega
      refine ⟨e, fun _ k hk => ?_⟩
      have : j0 = i0 := by
        rcases Nat.lt_trichotomy j0 i0 with q | q | q
        · have := g6 j0 q h2
          omega
        · exact q
        · have := h6 i0 q g2
          omega
      rw [h4 k hk, g4 k hk, this]
theorem IsB.le {c le : Nat} {R : Nat → Nat} (h : IsB b m L A G c le R) (hm : ∀ j, rcost b m L j < NW) : le ≤ NW := by
  rcases h with ⟨h1, h2⟩ | ⟨j0, h1, h2, h3, h4, h5, h6⟩
  · omega
  · have := hm j0
    omega
/-- what is left at the level k behind the first lvl options, whose number is v -/
def alw (b : Nat) (A : Nat → Nat → Bool) (G : Nat → Nat → Nat → Nat → Bool) (lvl v k a : Nat) : Prop := A k a = true ∧ ∀ i, i < lvl → G i k (dg b lvl v i) a = true
theorem alw_next {lvl v o k a : Nat} (ho : o < b) : alw b A G (lvl + 1) (v * b + o) k a ↔ alw b A G lvl v k a ∧ G lvl k o a = true := by
  unfold alw
  constructor
  · intro ⟨h1, h2⟩
    refine ⟨⟨h1, fun i hi => ?_⟩, ?_⟩
    · have := h2 i (by omega)
      rwa [dg_next ho hi] at this
    · have := h2 lvl (by omega)
      rwa [dg_last ho] at this
  · intro ⟨⟨h1, h2⟩, h3⟩
    refine ⟨h1, fun i hi => ?_⟩
    by_cases q : i = lvl
    · subst q
      rw [dg_last ho]
      exact h3
    · rw [dg_next ho (by omega)]
      exact h2 i (by omega)
/-- a free row in a block takes what is left there -/
theorem free_alw {lvl v j k : Nat} (hl : lvl ≤ m) (hj : j / b ^ (m - lvl) = v) (hf : rfree b m A G j) (h1 : lvl ≤ k) (h2 : k < m) : alw b A G lvl v k (dg b m j k) := by
  refine ⟨(hf k h2).1, fun i hi => ?_⟩
  rw [← dg_block hi hl hj]
  exact (hf i (by omega)).2 k (by omega) h2
/-- the sum of what is settled -/
def psum (b : Nat) (L : Nat → Nat → Nat) (lvl v : Nat) : Nat := nS (fun k => L k (dg b lvl v k)) lvl
theorem psum_next {lvl v o : Nat} (ho : o < b) : psum b L (lvl + 1) (v * b + o) = psum b L lvl v + L lvl o := by
  unfold psum
  rw [nS, dg_last ho, nS_cong (f := fun k => L k (dg b (lvl + 1) (v * b + o) k)) (g := fun k => L k (dg b lvl v k)) (fun k hk => by rw [dg_next ho hk])]
theorem cost_ge {lvl v j : Nat} (hl : lvl ≤ m) (hj : j / b ^ (m - lvl) = v) (M : Nat → Nat) (hM : ∀ k, lvl ≤ k → k < m → M k ≤ L k (dg b m j k)) : ∀ n, lvl + n ≤ m → psum b L lvl v + nS (fun i => M (lvl + i)) n ≤ nS (fun k => L k (dg b m j k)) (lvl + n)
  | 0, _ => by
    rw [nS, Nat.add_zero, Nat.add_zero]
    unfold psum
    rw [nS_cong (f := fun k => L k (dg b lvl v k)) (g := fun k => L k (dg b m j k)) (fun k hk => by rw [dg_block hk hl hj])]
    exact Nat.le_refl _
  | n + 1, hn => by
    have ih := cost_ge hl hj M hM n (by omega)
    have := hM (lvl + n) (by omega) (by omega)
    rw [nS, ← Nat.add_assoc lvl n 1, nS]
    omega
end ISB
