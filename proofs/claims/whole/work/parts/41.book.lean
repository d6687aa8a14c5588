/-! THE BOOK of the class: sums of weights by groups, and what follows from the book alone -/
theorem iS_split (f : Nat → Int32) (m : Nat) : ∀ n, iS f (m + n) = iS f m + iS (fun k => f (m + k)) n
  | 0 => by rw [Nat.add_zero, iS, Int32.add_zero]
  | n + 1 => by rw [← Nat.add_assoc, iS, iS_split f m n, iS, Int32.add_assoc]
/-- what the set s of the group g weighs -/
def gS (w : Nat → Int32) (g s : Nat) : Int32 := iS (fun j => if s.testBit j = true then w (6 * g + j) else 0) 6
def GS (D : pD) : Prop := ∀ g, g < 4 → ∀ s, s < 64 → D 7 0 (64 * g + s) = gS (D 6 0) g s
/-- the traits 6 g .. 6 g + 5 of a set, as a number below 64 -/
def sG (x : Int32) (g : Nat) : Nat := (x >>> (nI (6 * g) &&& 31)).toBitVec.toNat % 64
theorem sG_lt (x : Int32) (g : Nat) : sG x g < 64 := Nat.mod_lt _ (by omega)
theorem sG_bit (x : Int32) {g j : Nat} (hg : g < 4) (hj : j < 6) : (sG x g).testBit j = bt x (6 * g + j) := by
  unfold sG
  rw [show (64 : Nat) = 2 ^ 6 from rfl, Nat.testBit_mod_two_pow]
  have h := b_sshr (6 * g) (by omega) x (i := j) (by omega)
  rw [if_pos (by omega)] at h
  rw [← h]
  simp [hj, bt, BitVec.getLsbD]
theorem sG_v (x : Int32) (g : Nat) : (x >>> (nI (6 * g) &&& 31)) &&& 63 = nI (sG x g) := pk_and _ (m := 63) 6 (by decide)
theorem sG_0 (x : Int32) : x &&& 63 = nI (sG x 0) := by
  have h := sG_v x 0
  rw [show nI (6 * 0) = 0 from rfl, sb_shr0] at h
  exact h
theorem gS_w (w : Nat → Int32) (x : Int32) {g : Nat} (hg : g < 4) : gS w g (sG x g) = iS (fun j => if bt x (6 * g + j) = true then w (6 * g + j) else 0) 6 := by
  unfold gS
  apply iS_cong
  intro j hj
  rw [sG_bit x hg hj]
theorem wS_groups (w : Nat → Int32) (x : Int32) : gS w 0 (sG x 0) + gS w 1 (sG x 1) + gS w 2 (sG x 2) + gS w 3 (sG x 3) = wS w x 24 := by
  unfold wS
  rw [gS_w w x (by omega), gS_w w x (by omega), gS_w w x (by omega), gS_w w x (by omega)]
  rw [show 24 = 18 + 6 from rfl, iS_split, show 18 = 12 + 6 from rfl, iS_split _ 12 6, show 12 = 6 + 6 from rfl, iS_split _ 6 6]
  have e0 : ∀ f : Nat → Int32, iS (fun j => f (6 * 0 + j)) 6 = iS f 6 := fun f => iS_cong (fun k _ => by rw [show 6 * 0 + k = k by omega])
  rw [e0 (fun t => if bt x t = true then w t else 0)]
/-- weightsOf(set) -/
theorem Bk_weightsOf_spec (x : Int32) (D : pD) (E : pDL) (hG : GS D) : Bk_weightsOf x D E = some (some (.inl (wS (D 6 0) x 24)), D, E) := by
  rw [e_Bk_weightsOf]
  have h0 := sG_lt x 0
  have h1 := sG_lt x 1
  have h2 := sG_lt x 2
  have h3 := sG_lt x 3
  have v0 := sG_0 x
  have v1 : (64 : Int32) + ((x >>> ((6 : Int32) &&& 31)) &&& 63) = nI (64 * 1 + sG x 1) := by
    rw [show ((x >>> ((6 : Int32) &&& 31)) &&& 63) = nI (sG x 1) from sG_v x 1]
    exact nI_add 64 (sG x 1)
  have v2 : (128 : Int32) + ((x >>> ((12 : Int32) &&& 31)) &&& 63) = nI (64 * 2 + sG x 2) := by
    rw [show ((x >>> ((12 : Int32) &&& 31)) &&& 63) = nI (sG x 2) from sG_v x 2]
    exact nI_add 128 (sG x 2)
  have v3 : (192 : Int32) + ((x >>> ((18 : Int32) &&& 31)) &&& 63) = nI (64 * 3 + sG x 3) := by
    rw [show ((x >>> ((18 : Int32) &&& 31)) &&& 63) = nI (sG x 3) from sG_v x 3]
    exact nI_add 192 (sG x 3)
  rw [v0, v1, v2, v3, if_neg (iB (by omega) (by omega)), if_neg (iB (by omega) (by omega)), if_neg (iB (by omega) (by omega)), if_neg (iB (by omega) (by omega)), iC (by omega), iC (by omega), iC (by omega), iC (by omega)]
  have g0 := hG 0 (by omega) (sG x 0) h0
  rw [Nat.mul_zero, Nat.zero_add] at g0
  rw [g0, hG 1 (by omega) _ h1, hG 2 (by omega) _ h2, hG 3 (by omega) _ h3, wS_groups]
theorem Bk_setting_spec {k : Nat} (hk : k < 5) (D : pD) (E : pDL) : Bk_setting (nI (k + 5)) D E = some (some (.inl (D 5 0 k)), D, E) := by
  rw [e_Bk_setting]
  have e1 : nI (k + 5) - 5 = nI k := by
    rw [show (5 : Int32) = nI 5 from rfl, pk_sub (by omega), Nat.add_sub_cancel]
  rw [e1, if_neg (iB hk (by omega)), iC (by omega)]
theorem Bk_lacksOf_spec {p : Nat} (hp : p < 24) (x : Int32) (D : pD) (E : pDL) : Bk_lacksOf (nI p) x D E = some (some (.inl (D 11 0 p &&& (x ^^^ (-1)))), D, E) := by
  rw [e_Bk_lacksOf, if_neg (iB hp (by omega)), iC (by omega)]
/-- the notion of a place, as a number -/
def pN (D : pD) (p : Nat) : Nat := (D 10 0 p).toNatClampNeg
theorem Bk_traitsOfNotionAt_spec {p : Nat} (hp : p < 24) (D : pD) (E : pDL) (hn : vp_in (D 10 0 p) 12) : Bk_traitsOfNotionAt (nI p) D E = some (some (.inl (D 8 0 (pN D p))), D, E) := by
  rw [e_Bk_traitsOfNotionAt, if_neg (iB hp (by omega)), iC (by omega), if_neg hn]
  rfl
theorem Bk_addsOf_spec {p : Nat} (hp : p < 24) (x : Int32) (D : pD) (E : pDL) (hn : vp_in (D 10 0 p) 12) : Bk_addsOf (nI p) x D E = some (some (.inl (x &&& (D 8 0 (pN D p) ^^^ (-1)))), D, E) := by
  rw [e_Bk_addsOf, Bk_traitsOfNotionAt_spec hp D E hn, B1s]
/-- what traits lose at a place: lack, add, weights, what bears, the notion's traits, what is noted -/
def lT (la ad : Int32) (w : Nat → Int32) (be no nt x : Int32) : Int32 := la * wS w (be &&& (x ^^^ (-1)) &&& (nt ^^^ (-1))) 24 + ad * wS w (x &&& (no ^^^ (-1))) 24
theorem Bk_lostByTraits_spec {p : Nat} (hp : p < 24) (x nt : Int32) (D : pD) (E : pDL) (hG : GS D) (hn : vp_in (D 10 0 p) 12) : Bk_lostByTraits (nI p) x nt D E = some (some (.inl (lT (D 5 0 0) (D 5 0 1) (D 6 0) (D 11 0 p) (D 8 0 (pN D p)) nt x)), D, E) := by
  rw [e_Bk_lostByTraits, show (5 : Int32) = nI (0 + 5) from rfl, Bk_setting_spec (by omega), B1s, Bk_lacksOf_spec hp, B1s, Bk_weightsOf_spec _ _ _ hG, B1s, show (6 : Int32) = nI (1 + 5) from rfl, Bk_setting_spec (by omega), B1s, Bk_addsOf_spec hp _ _ _ hn, B1s, Bk_weightsOf_spec _ _ _ hG, B1s]
  rfl
theorem Bk_has_no {k : Nat} (hk : k < 5) {x : Int32} (D : pD) (E : pDL) (h : x < 0 ∨ D 4 0 k ≤ x) : Bk_has (nI k) x D E = some (some (.inl 0), D, E) := by
  rw [e_Bk_has]
  by_cases h0 : x < 0
  · rw [if_pos h0]
  · rw [if_neg h0, if_neg (iB hk (by omega)), iC (by omega), if_pos (h.resolve_left h0)]
theorem Bk_has_yes {k : Nat} (hk : k < 5) {x : Int32} (D : pD) (E : pDL) (h0 : ¬ x < 0) (h1 : ¬ D 4 0 k ≤ x) : Bk_has (nI k) x D E = some (some (.inl 1), D, E) := by
  rw [e_Bk_has, if_neg h0, if_neg (iB hk (by omega)), iC (by omega), if_neg h1]
/-! the sums are made -/
/-- nothing but the cells ks was written -/
def Ks (ks : List Nat) (D D' : pD) : Prop := ∀ k j, (k ∉ ks ∨ j ≠ 0) → D' k j = D k j
theorem Ks.rf {ks : List Nat} {D : pD} : Ks ks D D := fun _ _ _ => rfl
theorem Ks.tr {ks : List Nat} {D D1 D2 : pD} (h1 : Ks ks D D1) (h2 : Ks ks D1 D2) : Ks ks D D2 := fun k j h => (h2 k j h).trans (h1 k j h)
theorem Ks.set {ks : List Nat} {D D1 : pD} {k : Nat} (hk : k ∈ ks) (h : Ks ks D D1) (i : Nat) (x : Int32) : Ks ks D (dset D1 k 0 i x) := fun k' j' h' => by
  rw [dset_ne (fun e => by obtain ⟨rfl, rfl⟩ := e; rcases h' with q | q; exact q hk; exact q rfl)]
  exact h k' j' h'
theorem Ks.sub {ks ks' : List Nat} {D D' : pD} (h : Ks ks D D') (hs : ∀ k ∈ ks, k ∈ ks') : Ks ks' D D' := fun k j q => h k j (q.imp (fun a b => a (hs k b)) id)
theorem dset_at {D : pD} {k i j : Nat} {x : Int32} : dset D k 0 i x k 0 j = if j = i then x else D k 0 j := by
  rw [dset_eq]
  rfl
theorem iS_one {f f' : Nat → Int32} {m : Nat} : ∀ {n : Nat}, m < n → (∀ j, j ≠ m → f' j = f j) → f m = 0 → iS f' n = iS f n + f' m
  | 0, h, _, _ => absurd h (Nat.not_lt_zero _)
  | n + 1, h, h1, h2 => by
    rw [iS, iS]
    by_cases e : m = n
    · subst e
      rw [iS_cong (fun k hk => h1 k (by omega)), h2, Int32.add_zero]
    · rw [iS_one (by omega) h1 h2, h1 n (by omega), Int32.add_assoc, Int32.add_assoc, Int32.add_comm (f' m)]
theorem gS_top (w : Nat → Int32) (g : Nat) {m r : Nat} (hm : m < 6) (hr : r < 2 ^ m) : gS w g (2 ^ m + r) = gS w g r + w (6 * g + m) := by
  unfold gS
  rw [iS_one (f := fun j => if r.testBit j = true then w (6 * g + j) else 0) hm]
  · rw [Nat.testBit_two_pow_add_eq, Nat.testBit_lt_two_pow hr]
    simp
  · intro j hj
    rcases Nat.lt_or_ge j m with h | h
    · rw [Nat.testBit_two_pow_add_gt h]
    · have h3 : r.testBit j = false := Nat.testBit_lt_two_pow (Nat.lt_of_lt_of_le hr (Nat.pow_le_pow_right (by omega) h))
      have h4 : (2 ^ m + r).testBit j = false := Nat.testBit_lt_two_pow (by
        have : 2 ^ (m + 1) ≤ 2 ^ j := Nat.pow_le_pow_right (by omega) (by omega)
        have e2 : 2 ^ (m + 1) = 2 * 2 ^ m := by rw [Nat.pow_succ]; omega
        omega)
      rw [h3, h4]
  · rw [Nat.testBit_lt_two_pow hr]
    simp
/-- the sums as far as they are made: t traits, and r more of the next one -/
def GSt (w f : Nat → Int32) (t r : Nat) : Prop := ∀ g, g < 4 → ∀ s, s < 64 → (s < 2 ^ (t - 6 * g) ∨ (g = t / 6 ∧ s < 2 ^ (t % 6) + r)) → f (64 * g + s) = gS w g s
theorem Bk_sum_in (E : pDL) (t : Nat) (ht : t < 24) (D0 : pD) (K : pD → Option pRes) (hK : ∀ D, Bk_sumGroups_2 (nI (t + 1)) D E = K D) : ∀ (n r : Nat) (D : pD), r + n = 2 ^ (t % 6) → Ks [7] D0 D → GSt (D0 6 0) (D 7 0) t r → ∃ D', Ks [7] D0 D' ∧ GSt (D0 6 0) (D' 7 0) t (2 ^ (t % 6)) ∧ Bk_sumGroups_26 (nI t) (nI (t / 6 * 64)) (nI (2 ^ (t % 6))) (nI r) D E = K D'
  | 0, r, D, h, hD, hg => by
    obtain rfl : r = 2 ^ (t % 6) := by omega
    have hp : 2 ^ (t % 6) ≤ 2 ^ 5 := Nat.pow_le_pow_right (by omega) (by omega)
    refine ⟨D, hD, hg, ?_⟩
    rw [e_Bk_sumGroups_26, if_pos (nI_le (Nat.le_refl _) (by omega)), nI_1 t, hK]
  | n + 1, r, D, h, hD, hg => by
    have hp : 2 ^ (t % 6) ≤ 2 ^ 5 := Nat.pow_le_pow_right (by omega) (by omega)
    have hr : r < 2 ^ (t % 6) := by omega
    have h6 : D 6 0 = D0 6 0 := hD 6 0 (Or.inl (by decide))
    have e1 : nI (t / 6 * 64) + nI r = nI (t / 6 * 64 + r) := nI_add _ _
    have e2 : nI (t / 6 * 64) + nI (2 ^ (t % 6)) + nI r = nI (t / 6 * 64 + 2 ^ (t % 6) + r) := by rw [nI_add, nI_add]
    have hix : t / 6 * 64 + 2 ^ (t % 6) + r = 64 * (t / 6) + (2 ^ (t % 6) + r) := by omega
    have hv : D 7 0 (t / 6 * 64 + r) = gS (D0 6 0) (t / 6) r := by
      rw [show t / 6 * 64 + r = 64 * (t / 6) + r by omega]
      exact hg (t / 6) (by omega) r (by omega) (Or.inr ⟨rfl, by omega⟩)
    have ih := Bk_sum_in E t ht D0 K hK n (r + 1) (dset D 7 0 (t / 6 * 64 + 2 ^ (t % 6) + r) (D 7 0 (t / 6 * 64 + r) + D 6 0 t)) (by omega) (hD.set (by decide) _ _) (by
      intro g hg4 s hs hc
      rw [dset_at]
      by_cases e : 64 * g + s = t / 6 * 64 + 2 ^ (t % 6) + r
      · have eg : g = t / 6 := by omega
        have es : s = 2 ^ (t % 6) + r := by omega
        subst eg
        subst es
        rw [if_pos e, hv, h6, gS_top _ _ (by omega) hr, show 6 * (t / 6) + t % 6 = t by omega]
      · rw [if_neg e]
        refine hg g hg4 s hs ?_
        rcases hc with q | ⟨q1, q2⟩
        · exact Or.inl q
        · refine Or.inr ⟨q1, ?_⟩
          subst q1
          omega)
    obtain ⟨D', i1, i2, i3⟩ := ih
    refine ⟨D', i1, i2, ?_⟩
    rw [e_Bk_sumGroups_26, if_neg (nI_ge hr (by omega)), e1, e2, if_neg (iB (by omega) (by omega)), if_neg (iB ht (by omega)), if_neg (iB (by omega) (by omega)), iC (by omega), iC (by omega), iC (by omega), nI_1 r]
    exact i3
theorem Bk_sum_out (E : pDL) (D0 : pD) : ∀ (n t : Nat) (D : pD), t + n = 24 → Ks [7] D0 D → GSt (D0 6 0) (D 7 0) t 0 → ∃ D', Ks [7] D0 D' ∧ GSt (D0 6 0) (D' 7 0) 24 0 ∧ Bk_sumGroups_2 (nI t) D E = some (none, D', E)
  | 0, t, D, h, hD, hg => by
    obtain rfl : t = 24 := by omega
    exact ⟨D, hD, hg, by rw [e_Bk_sumGroups_2, if_pos (by decide)]⟩
  | n + 1, t, D, h, hD, hg => by
    have ht : t < 24 := by omega
    have e1 : nI t / 6 * 64 = nI (t / 6 * 64) := by
      rw [show (6 : Int32) = nI 6 from rfl, pk_div (by omega) (by omega) (by omega), show (64 : Int32) = nI 64 from rfl, pk_mul]
    have e2 : nI t - nI t / 6 * 6 = nI (t % 6) := by
      rw [show (6 : Int32) = nI 6 from rfl]
      exact pk_rem (by omega) (by omega) (by omega)
    have e3 : (1 : Int32) <<< (nI (t % 6) &&& 31) = nI (2 ^ (t % 6)) := by
      have hp : 2 ^ (t % 6) ≤ 2 ^ 5 := Nat.pow_le_pow_right (by omega) (by omega)
      have := pk_shlN (n := 1) (nI (t % 6) &&& 31) (t % 6) (s_l _ (by omega)) (by omega)
      rw [Nat.one_mul] at this
      exact this
    obtain ⟨D1, i1, i2, i3⟩ := Bk_sum_in E t ht D0 (fun D => Bk_sumGroups_2 (nI (t + 1)) D E) (fun _ => rfl) (2 ^ (t % 6)) 0 D (by omega) hD hg
    obtain ⟨D', j1, j2, j3⟩ := Bk_sum_out E D0 n (t + 1) D1 (by omega) i1 (by
      intro g hg4 s hs hc
      refine i2 g hg4 s hs ?_
      rcases hc with q | ⟨q1, q2⟩
      · by_cases e : g = t / 6
        · refine Or.inr ⟨e, ?_⟩
          have : t + 1 - 6 * g = t % 6 + 1 := by omega
          rw [this, Nat.pow_succ] at q
          omega
        · by_cases e2 : 6 * g ≤ t
          · refine Or.inl (Nat.lt_of_lt_of_le hs ?_)
            exact Nat.pow_le_pow_right (n := 2) (i := 6) (by omega) (by omega)
          · refine Or.inl ?_
            rw [show t - 6 * g = 0 by omega]
            rw [show t + 1 - 6 * g = 0 by omega] at q
            exact q
      · by_cases e : t % 6 = 5
        · rw [show (t + 1) % 6 = 0 by omega] at q2
          refine Or.inl ?_
          have hp : 0 < 2 ^ (t - 6 * g) := Nat.pow_pos (by omega)
          omega
        · refine Or.inr ⟨by omega, ?_⟩
          rw [show (t + 1) % 6 = t % 6 + 1 by omega, Nat.pow_succ] at q2
          omega)
    refine ⟨D', j1, j2, ?_⟩
    rw [e_Bk_sumGroups_2, if_neg (nle 24 ht (by omega)), if_neg (by decide), if_neg (by decide), e1, e2, e3]
    exact i3.trans j3
/-- sumGroups() -/
theorem Bk_sumGroups_spec (D : pD) (E : pDL) (h0 : ∀ g, g < 4 → D 7 0 (64 * g) = 0) : ∃ D', Ks [7] D D' ∧ GS D' ∧ Bk_sumGroups D E = some (none, D', E) := by
  obtain ⟨D', i1, i2, i3⟩ := Bk_sum_out E D 24 0 D rfl Ks.rf (by
    intro g hg s hs hc
    have es : s = 0 := by
      rcases hc with q | ⟨-, q⟩
      · rw [Nat.zero_sub] at q
        omega
      · rw [Nat.zero_mod] at q
        omega
    subst es
    rw [Nat.add_zero, h0 g hg]
    unfold gS
    have : ∀ n, iS (fun j => if (0 : Nat).testBit j = true then D 6 0 (6 * g + j) else 0) n = 0 := by
      intro n
      induction n with
      | zero => rfl
      | succ n ih => rw [iS, ih]; simp
    rw [this])
  refine ⟨D', i1, ?_, by rw [e_Bk_sumGroups]; exact i3⟩
  intro g hg s hs
  rw [show D' 6 0 = D 6 0 from i1 6 0 (Or.inl (by decide))]
  exact i2 g hg s hs (Or.inl (Nat.lt_of_lt_of_le hs (Nat.pow_le_pow_right (n := 2) (i := 6) (by omega) (by omega))))
