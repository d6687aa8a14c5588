/-! exchange: what a place costs, and what all cost -/
def mX (f : pD → pDL → Option pRes) : Prop := ∀ (D : pD) (E : pDL) (v : Option pV) (D1 : pD) (E1 : pDL), f D E = some (v, D1, E1) → ∀ (D' : pD) (E' : pDL), (∀ k, k < 100 → D' k = D k) → (∀ k, k < 100 → E' k = E k) → f D' E' = some (v, cmb D1 D', cmbE E1 E')
theorem isX.m {f : pD → pDL → Option pRes} (h : isX f) : mX f := fun _ _ _ _ _ h1 _ _ hd he => X_mix h h1 hd he
theorem mX.bind {f : pD → pDL → Option pRes} {g : Int32 → pD → pDL → Option pRes} (hf : mX f) (hg : ∀ y, mX (g y)) : mX (fun D E => pB1 (f D E) fun y D1 E1 => g y D1 E1) := by
  intro D E v D2 E2 h D' E' hd he
  dsimp only at h ⊢
  cases hq : f D E with
  | none => rw [hq] at h; cases h
  | some r =>
    obtain ⟨w, D1, E1⟩ := r
    rw [hq] at h
    match w with
    | none => cases h
    | some (.inr _) => cases h
    | some (.inl y) =>
      rw [B1s] at h
      rw [hf D E _ D1 E1 hq D' E' hd he, B1s, hg y D1 E1 v D2 E2 h (cmb D1 D') (cmbE E1 E') (fun k hk => if_pos hk) (fun k hk => if_pos hk)]
      have e1 : cmb D2 (cmb D1 D') = cmb D2 D' := funext fun k => by
        by_cases c : k < 100
        · rw [cmb_x c, cmb_x c]
        · rw [cmb_m c, cmb_m c, cmb_m c]
      have e2 : cmbE E2 (cmbE E1 E') = cmbE E2 E' := funext fun k => by
        unfold cmbE
        by_cases c : k < 100
        · rw [if_pos c, if_pos c]
        · rw [if_neg c, if_neg c, if_neg c]
      rw [e1, e2]
theorem Bo.stepX {Q : Option pV → pD → pDL → Prop} {D D1 D2 : pD} {E E1 E2 : pDL} {f g f' g' : pD → pDL → Option pRes} (hf : mX f') (hg : isM g') (e1 : f D E = f' D1 E1) (e2 : g D E = g' D2 E2) (h : Bo Q (cmb D1 D2) (cmbE E1 E2) f' g') : Bo Q D E f g := by
  obtain ⟨v, C1, F1, C2, F2, h1, h2, h3⟩ := h
  have a1 := hf _ _ _ _ _ h1 D1 E1 (fun k hk => (if_pos hk).symm) (fun k hk => (if_pos hk).symm)
  have a2 := M_mix hg h2 (D' := D2) (E' := E2) (fun k hk _ => (if_neg (by omega)).symm) (fun k hk _ => (if_neg (by omega)).symm)
  have b2 := M_keep hg h2
  refine ⟨v, _, _, _, _, e1.trans a1, e2.trans a2, ?_⟩
  have q1 : cmb (cmb C1 D1) (cmc C2 D2) = cmb C1 C2 := by
    funext k
    unfold cmb cmc
    by_cases h1 : k < 100
    · simp only [h1, if_true]
    · simp only [h1, if_false]
      by_cases h2 : 100 ≤ k ∧ k < 143
      · rw [if_pos h2]
      · rw [if_neg h2, b2.1 k h2]
        unfold cmb
        rw [if_neg h1]
  have q2 : cmbE (cmbE F1 E1) (cmcE F2 E2) = cmbE F1 F2 := by
    funext k
    unfold cmbE cmcE
    by_cases h1 : k < 100
    · simp only [h1, if_true]
    · simp only [h1, if_false]
      by_cases h2 : 100 ≤ k ∧ k < 143
      · rw [if_pos h2]
      · rw [if_neg h2, b2.2 k h2]
        unfold cmbE
        rw [if_neg h1]
  rw [q1, q2]
  exact h3
theorem cmbE_self (E : pDL) : cmbE E E = E := funext fun q => by unfold cmbE; split <;> rfl
/-- a flag's number -/
def n01 (x : Int32) : Nat := if x = 0 then 0 else 1
theorem n01_0 : n01 0 = 0 := rfl
theorem n01_1 : n01 1 = 1 := rfl
theorem cbS_hi (f : Nat → Int32) : ∀ n i, n ≤ i → i < 32 → bt (cbS f n) i = false
  | 0, i, _, _ => b_0 i
  | n + 1, i, h, hi => by
    rw [cbS]
    split
    · exact cbS_hi f n i (by omega) hi
    · rw [b_or, cbS_hi f n i (by omega) hi, b_one (by omega) hi, decide_eq_false (by omega)]
      rfl
theorem bc_cbS (f : Nat → Int32) : ∀ n, n ≤ 32 → bc (cbS f n) = nS (fun t => n01 (f t)) n
  | 0, _ => bc_0
  | n + 1, h => by
    rw [cbS, nS]
    unfold n01
    by_cases c : f n = 0
    · rw [if_pos c, if_pos c, bc_cbS f n (by omega)]
      rfl
    · rw [if_neg c, if_neg c, bc_or (by omega) (cbS_hi f n n (Nat.le_refl _) (by omega)), bc_cbS f n (by omega)]
      rfl
/-- clashes of a place's ties -/
def kN (D : pD) (p : Nat) (has bo : Int32) (cT : Nat) : Nat := nS (fun t => n01 (icl D t p has bo)) cT
theorem X_kN {cN cW cP cT cH : Nat} {D : pD} {E : pDL} (h : iBook cN cW cP cT cH D) {p : Nat} (hp : p < 24) (has bo : Int32) : Rn_clashesAt (nI p) has bo D E = some (some (.inl (nI (kN D p has bo cT))), D, E) := by
  have n4 := h.1.1.2.2.2.1
  have a4 := h.1.2.1.2.2.2.1
  rw [e_Rn_clashesAt]
  refine (z0 (fun k => Rn_clashesAt_6 (nI p) has bo (nI (kN D p has bo k)) (nI k) D E) cT (fun k hk => ?_)).trans ?_
  · show Rn_clashesAt_6 _ _ _ _ _ _ _ = Rn_clashesAt_6 _ _ _ _ _ _ _
    rw [e_Rn_clashesAt_6, a4, if_neg (nI_ge hk (by omega)), X_icl h hk hp, B1s, ca1]
    have e : kN D p has bo (k + 1) = kN D p has bo k + n01 (icl D k p has bo) := rfl
    rw [e]
    unfold n01
    by_cases c : icl D k p has bo = 0
    · rw [if_pos c, if_pos c, Int32.add_zero]
      rfl
    · rw [if_neg c, if_neg c, ca1]
  · show Rn_clashesAt_6 _ _ _ _ _ _ _ = _
    rw [e_Rn_clashesAt_6, a4, if_pos (nI_le (Nat.le_refl _) (by omega))]
theorem nS_add {f g h : Nat → Nat} : ∀ {n : Nat}, (∀ k, k < n → f k = g k + h k) → nS f n = nS g n + nS h n
  | 0, _ => rfl
  | n + 1, e => by
    rw [nS, nS, nS, nS_add (fun k hk => e k (by omega)), e n (by omega)]
    omega
theorem nS_pick {f : Nat → Nat} {p : Nat} : ∀ {n : Nat}, p < n → nS f n = nS (fun k => if k = p then 0 else f k) n + f p
  | 0, h => absurd h (by omega)
  | n + 1, h => by
    rw [nS, nS]
    by_cases e : p = n
    · subst e
      rw [if_pos rfl, nS_cong (f := fun k => if k = p then 0 else f k) (g := f) (fun k hk => if_neg (by omega))]
      rfl
    · rw [nS_pick (n := n) (p := p) (by omega), if_neg (fun z => e z.symm)]
      omega
/-- is the choice borrowed -/
def bo (D : pD) (p : Nat) : Int32 := if D 43 0 p = 3 then 1 else 0
/-- clashes of the other ties -/
def nO (D : pD) (p cT : Nat) : Nat := nS (fun t => if tF D t = p ∨ tS D t = p then 0 else n01 (cl D t)) cT
def nC (D : pD) (cT : Nat) : Nat := nS (fun t => n01 (cl D t)) cT
theorem and_comm3 (a b t : Int32) : (a &&& b) &&& t = (b &&& a) &&& t := by
  apply b_ext
  intro i _
  rw [b_and, b_and, b_and, b_and, Bool.and_comm (bt a i)]
theorem cl_icl {D : pD} {p t : Nat} (hk : ¬ D 43 0 p = -1) (ht : tF D t = p ∨ tS D t = p) : cl D t = icl D t p (tAt D p) (bo D p) := by
  unfold cl icl bo
  by_cases c : tF D t = p
  · subst c
    rw [if_pos rfl, if_neg hk]
  · have c2 := ht.resolve_left c
    subst c2
    rw [if_neg c, if_pos rfl]
    unfold icq
    by_cases c3 : D 43 0 (tF D t) = -1
    · rw [if_pos c3, if_pos c3]
    · rw [if_neg c3, if_neg c3, if_neg hk]
      have e : (if (if D 43 0 (tF D t) = 3 then (1 : Int32) else 0) = 0 then (0 : Int32) else if D 43 0 (tS D t) = 3 then 1 else 0) = (if (if D 43 0 (tS D t) = 3 then (1 : Int32) else 0) = 0 then 0 else if D 43 0 (tF D t) = 3 then 1 else 0) := by
        by_cases c4 : D 43 0 (tF D t) = 3 <;> by_cases c5 : D 43 0 (tS D t) = 3 <;> simp [c4, c5]
      rw [e]
      unfold wc
      rw [and_comm3]
theorem nC_split {D : pD} {p : Nat} (hk : ¬ D 43 0 p = -1) (cT : Nat) : nC D cT = nO D p cT + kN D p (tAt D p) (bo D p) cT := by
  unfold nC nO kN
  apply nS_add
  intro t _
  by_cases c : tF D t = p ∨ tS D t = p
  · rw [if_pos c, Nat.zero_add, cl_icl hk c]
  · rw [if_neg c]
    have e : icl D t p (tAt D p) (bo D p) = 0 := by
      unfold icl
      rw [if_neg (fun z => c (Or.inl z)), if_neg (fun z => c (Or.inr z))]
    rw [e, n01_0, Nat.add_zero]
/-- LOST as a number -/
def vN (D : pD) (p : Nat) : Nat := (Rn_lostAt_held_wordTraits_v D p).toNatClampNeg
theorem vN_x {D : pD} (hS : iSet D) (hW : iWts D) (p : Nat) : Rn_lostAt_held_wordTraits_v D p = nI (vN D p) ∧ vN D p ≤ 43065 := by
  obtain ⟨m, hm, e⟩ := lA_n hS hW (D 11 0 p) (D 8 0 (pN D p)) (D 47 0 p) (tA (D 9 0) (D 44 0 p) (D 45 0 p) (D 46 0 p)) (D 43 0 p) (D 45 0 p) (D 46 0 p)
  unfold vN
  have e' : Rn_lostAt_held_wordTraits_v D p = nI m := e
  rw [e', iC (by omega)]
  exact ⟨rfl, hm⟩
/-- what all cost -/
def gC (D : pD) (cP cT : Nat) : Nat := nS (vN D) cP + 100 * nC D cT
theorem cw100 {k : Nat} : (100 : Int32) * nI k = nI (100 * k) := pk_mul 100 k
theorem M_costs {cN cW cP cT cH : Nat} {D : pD} {E : pDL} (h : iBook cN cW cP cT cH D) (hN : iNow cW cP D) (hY : iYears cW D) : Mo_costs D E = some (some (.inl (nI (gC D cP cT))), D, E) := by
  have n4 := h.1.1.2.2.2.1
  rw [e_Mo_costs, M_lost h hN hY, B1s, M_clashes h hN hY, B1s, Mo_bits_spec, B1s, iS_nI (g := vN D) (fun k _ => (vN_x h.2.1 h.2.2.1 k).1), bc_cbS _ _ (by omega), cw100, nI_add]
  rfl
/-! an option is put at a place -/
def okd (cW o : Nat) : Int32 := if o = cW then 3 else 0
def oa (cW o : Nat) : Int32 := if o = cW then -1 else nI o
def opX (D : pD) (cW p o : Nat) : pD := putX D p (okd cW o) (oa cW o) (-1) (-1)
def opM (D : pD) (cW p o : Nat) : pD := putM D p (okd cW o) (oa cW o) (-1) (-1)
def op2 (D : pD) (cW p o : Nat) : pD := putM (putX D p (okd cW o) (oa cW o) (-1) (-1)) p (okd cW o) (oa cW o) (-1) (-1)
theorem op_xc {cW o : Nat} (hc : cW ≤ 20) (ho : o ≤ cW) : XC cW (okd cW o) (oa cW o) (-1) (-1) := by
  unfold okd oa
  by_cases e : o = cW
  · rw [if_pos e, if_pos e]
    exact Or.inr (Or.inr (Or.inr (Or.inr ⟨rfl, rfl, rfl, rfl⟩)))
  · rw [if_neg e, if_neg e]
    exact Or.inr (Or.inl ⟨rfl, w_in (by omega) (by omega), rfl, rfl⟩)
theorem cmb_put (D1 D2 : pD) (p : Nat) (k a b c k' a' b' c' : Int32) : cmb (putX D1 p k a b c) (putM D2 p k' a' b' c') = putM (putX (cmb D1 D2) p k a b c) p k' a' b' c' := by
  unfold putX putM
  rw [cmb_sm (by decide), cmb_sm (by decide), cmb_sm (by decide), cmb_sm (by decide), cmb_sx (by decide), cmb_sx (by decide), cmb_sx (by decide), cmb_sx (by decide)]
theorem X_putOption {cW : Nat} (hc : cW ≤ 20) {D : pD} {E : pDL} (a2 : D 4 0 1 = nI cW) {p o : Nat} (hp : p < 24) (ho : o ≤ cW) : Rn_putOption (nI p) (nI o) D E = some (none, opX D cW p o, E) := by
  rw [e_Rn_putOption, X_optB hc a2 ho, B1s]
  unfold opX okd oa
  by_cases e : o = cW
  · rw [if_pos e, if_neg (by decide), if_pos e, if_pos e, Rn_put_spec hp, B0s]
  · rw [if_neg e, if_pos rfl, if_neg e, if_neg e, Rn_put_spec hp, B0s]
theorem M_putBy {cW : Nat} (hc : cW ≤ 20) {D : pD} {E : pDL} (b2 : D 102 0 1 = nI cW) {p o : Nat} (hp : p < 24) (ho : o ≤ cW) : Mo_putBy (nI p) (nI o) D E = some (none, opM D cW p o, E) := by
  rw [e_Mo_putBy, b2]
  unfold opM okd oa
  by_cases e : o = cW
  · rw [if_pos (by rw [e]), if_pos e, if_pos e, Mo_put_spec hp, B0s]
    simp only [if_true, q31, q32, or_self, if_false]
  · rw [if_neg (fun z => e ((iE (by omega) (by omega)).mp z)), if_neg e, if_neg e, Mo_put_spec hp, B0s]
    simp only [q01, q02, q03, or_self, if_false]
theorem putM_putM (D : pD) (p : Nat) (k a b c k' a' b' c' : Int32) : putM (putM D p k a b c) p k' a' b' c' = putM D p k' a' b' c' := by
  funext q j
  by_cases hq : q ∈ [115, 116, 117, 118]
  · by_cases hj : j = 0
    · subst hj
      funext i
      have hq' : q = 115 ∨ q = 116 ∨ q = 117 ∨ q = 118 := by simpa using hq
      rcases hq' with rfl | rfl | rfl | rfl
      · rw [putM_k, putM_k, putM_k]; split <;> rfl
      · rw [putM_a, putM_a, putM_a]; split <;> rfl
      · rw [putM_b, putM_b, putM_b]; split <;> rfl
      · rw [putM_c, putM_c, putM_c]; split <;> rfl
    · unfold putM
      simp only [dset_ne (fun e : _ ∧ j = 0 => hj e.2)]
  · rw [putM_n hq, putM_n hq, putM_n hq]
theorem putM_id (D : pD) (p : Nat) : putM D p (D 115 0 p) (D 116 0 p) (D 117 0 p) (D 118 0 p) = D := by
  unfold putM
  rw [dset_same, dset_same, dset_same, dset_same]
theorem op2_n {D : pD} {cW p o j j' : Nat} (h1 : j ∉ [43, 44, 45, 46]) (h2 : j ∉ [115, 116, 117, 118]) : op2 D cW p o j j' = D j j' := by
  unfold op2
  rw [putM_n h2, putX_n h1]
theorem op2_k {D : pD} {cW p o q : Nat} : op2 D cW p o 43 0 q = if q = p then okd cW o else D 43 0 q := by
  unfold op2
  rw [putM_n (by decide), putX_k]
theorem op2_a {D : pD} {cW p o q : Nat} : op2 D cW p o 44 0 q = if q = p then oa cW o else D 44 0 q := by
  unfold op2
  rw [putM_n (by decide), putX_a]
theorem op2_b {D : pD} {cW p o q : Nat} : op2 D cW p o 45 0 q = if q = p then -1 else D 45 0 q := by
  unfold op2
  rw [putM_n (by decide), putX_b]
theorem op2_c {D : pD} {cW p o q : Nat} : op2 D cW p o 46 0 q = if q = p then -1 else D 46 0 q := by
  unfold op2
  rw [putM_n (by decide), putX_c]
/-- an option's traits, is it borrowed -/
def oT (D : pD) (cW o : Nat) : Int32 := if o = cW then 0 else D 9 0 o
def oB (cW o : Nat) : Int32 := if o = cW then 1 else 0
theorem op2_t {D : pD} {cW p o : Nat} (hc : cW ≤ 20) (ho : o ≤ cW) : tAt (op2 D cW p o) p = oT D cW o := by
  unfold tAt
  rw [op2_a, op2_b, op2_c, if_pos rfl, if_pos rfl, if_pos rfl, op2_n (j := 9) (by decide) (by decide)]
  unfold tA oT oa
  rw [tO_none, or_0, or_0]
  by_cases e : o = cW
  · rw [if_pos e, if_pos e, tO_none]
  · rw [if_neg e, if_neg e, tO_in _ (iB (N := 20) (by omega) (by omega)), iC (by omega)]
theorem op2_bo {D : pD} {cW p o : Nat} : bo (op2 D cW p o) p = oB cW o := by
  unfold bo oB
  rw [op2_k, if_pos rfl]
  unfold okd
  by_cases e : o = cW
  · rw [if_pos e, if_pos rfl, if_pos e]
  · rw [if_neg e, if_neg (by decide), if_neg e]
theorem op2_kd {D : pD} {cW p o : Nat} : ¬ op2 D cW p o 43 0 p = -1 := by
  rw [op2_k, if_pos rfl]
  unfold okd
  split <;> decide
theorem op2_tAt {D : pD} {cW p o q : Nat} (h : q ≠ p) : tAt (op2 D cW p o) q = tAt D q := by
  unfold tAt
  rw [op2_a, op2_b, op2_c, if_neg h, if_neg h, if_neg h, op2_n (j := 9) (by decide) (by decide)]
theorem op2_F {D : pD} {cW p o t : Nat} : tF (op2 D cW p o) t = tF D t := by
  unfold tF
  rw [op2_n (j := 12) (by decide) (by decide)]
theorem op2_S {D : pD} {cW p o t : Nat} : tS (op2 D cW p o) t = tS D t := by
  unfold tS
  rw [op2_n (j := 13) (by decide) (by decide)]
theorem op2_wc {D : pD} {cW p o t : Nat} {a b f : Int32} : wc (op2 D cW p o) t a b f = wc D t a b f := by
  unfold wc
  rw [op2_F, op2_S, op2_n (j := 14) (by decide) (by decide), op2_n (j := 10) (by decide) (by decide)]
theorem op2_icq {D : pD} {cW p o t q : Nat} {a f : Int32} (h : q ≠ p) : icq (op2 D cW p o) t q a f = icq D t q a f := by
  unfold icq
  rw [op2_k, if_neg h, op2_tAt h, op2_wc]
theorem op2_icl {cN cW cP cT cH : Nat} {D : pD} (hB : iBook cN cW cP cT cH D) {p o t : Nat} (ht : t < cT) {a f : Int32} : icl (op2 D cW p o) t p a f = icl D t p a f := by
  obtain ⟨-, -, -, -, hne⟩ := tie_x hB ht
  unfold icl
  rw [op2_F, op2_S]
  by_cases c : tF D t = p
  · rw [if_pos c, if_pos c, op2_icq (fun z => hne (c.trans z.symm))]
  · rw [if_neg c, if_neg c]
    by_cases c2 : tS D t = p
    · rw [if_pos c2, if_pos c2, op2_icq c]
    · rw [if_neg c2, if_neg c2]
theorem op2_kN {cN cW cP cT cH : Nat} {D : pD} (hB : iBook cN cW cP cT cH D) {p o : Nat} {a f : Int32} : kN (op2 D cW p o) p a f cT = kN D p a f cT := nS_cong (fun t ht => by rw [op2_icl hB ht])
theorem op2_nO {D : pD} {cW p o cT : Nat} : nO (op2 D cW p o) p cT = nO D p cT := by
  unfold nO
  apply nS_cong
  intro t _
  rw [op2_F, op2_S]
  by_cases c : tF D t = p ∨ tS D t = p
  · rw [if_pos c, if_pos c]
  · rw [if_neg c, if_neg c]
    have h1 : tF D t ≠ p := fun z => c (Or.inl z)
    have h2 : tS D t ≠ p := fun z => c (Or.inr z)
    unfold cl
    rw [op2_F, op2_S, op2_k, if_neg h1, op2_icq h2, op2_tAt h1]
theorem op2_v {D : pD} {cW p o q : Nat} (h : q ≠ p) : Rn_lostAt_held_wordTraits_v (op2 D cW p o) q = Rn_lostAt_held_wordTraits_v D q := by
  unfold Rn_lostAt_held_wordTraits_v pN
  rw [op2_k, op2_a, op2_b, op2_c, if_neg h, if_neg h, if_neg h, if_neg h]
  simp (disch := decide) only [op2_n]
theorem op2_vp {D : pD} {cW p o : Nat} (hc : cW ≤ 20) (ho : o ≤ cW) : Rn_lostAt_held_wordTraits_v (op2 D cW p o) p = lO D cW p o := by
  have ht := op2_t (D := D) (p := p) hc ho
  unfold tAt oT at ht
  unfold Rn_lostAt_held_wordTraits_v lO lA
  rw [ht, if_neg op2_kd, op2_b, op2_c, if_pos rfl, if_pos rfl, if_pos rfl, if_pos rfl, Int32.add_zero, Int32.zero_mul, Int32.add_zero, op2_k, if_pos rfl]
  unfold pN
  simp (disch := decide) only [op2_n]
  unfold okd
  by_cases e : o = cW
  · simp only [e, if_true]
  · simp only [e, if_false, q03]
/-- what the rest costs, what a place costs -/
def rC (D : pD) (p cP cT : Nat) : Nat := nS (fun q => if q = p then 0 else vN D q) cP + 100 * nO D p cT
def lC (D : pD) (p cT : Nat) : Nat := vN D p + 100 * kN D p (tAt D p) (bo D p) cT
def lOC (D : pD) (cW p o cT : Nat) : Nat := (lO D cW p o).toNatClampNeg + 100 * kN D p (oT D cW o) (oB cW o) cT
theorem gC_split {D : pD} {p cP cT : Nat} (hp : p < cP) (hk : ¬ D 43 0 p = -1) : gC D cP cT = rC D p cP cT + lC D p cT := by
  unfold gC rC lC
  rw [nS_pick (f := vN D) hp, nC_split hk cT]
  omega
theorem gC_op {cN cW cP cT cH : Nat} {D : pD} (hB : iBook cN cW cP cT cH D) {p o : Nat} (hp : p < cP) (ho : o ≤ cW) : gC (op2 D cW p o) cP cT = rC D p cP cT + lOC D cW p o cT := by
  have n2 := hB.1.1.2.1
  rw [gC_split hp op2_kd]
  unfold rC lC lOC
  rw [op2_nO, op2_t n2 ho, op2_bo, op2_kN hB]
  have e1 : vN (op2 D cW p o) p = (lO D cW p o).toNatClampNeg := by
    unfold vN
    rw [op2_vp n2 ho]
  rw [e1, nS_cong (f := fun q => if q = p then 0 else vN (op2 D cW p o) q) (g := fun q => if q = p then 0 else vN D q) (fun q _ => by
    by_cases e : q = p
    · rw [if_pos e, if_pos e]
    · rw [if_neg e, if_neg e]
      unfold vN
      rw [op2_v e])]
theorem lO_x {D : pD} (hS : iSet D) (hW : iWts D) (cW p o : Nat) : lO D cW p o = nI (lO D cW p o).toNatClampNeg ∧ (lO D cW p o).toNatClampNeg ≤ 42867 := by
  obtain ⟨m, hm, e⟩ := lT_n hS hW (D 11 0 p) (D 8 0 (pN D p)) (D 47 0 p) (if o = cW then 0 else D 9 0 o)
  obtain ⟨a, ha, e4, -⟩ := hS 2 (by omega)
  have : ∃ q : Nat, q ≤ 42867 ∧ lO D cW p o = nI q := by
    unfold lO
    rw [e, e4]
    by_cases c : o = cW
    · rw [if_pos c, nI_add]
      exact ⟨_, by omega, rfl⟩
    · rw [if_neg c, Int32.add_zero]
      exact ⟨m, by omega, rfl⟩
  obtain ⟨q, hq, e5⟩ := this
  rw [e5, iC (by omega)]
  exact ⟨rfl, hq⟩
theorem kN_le (D : pD) (p : Nat) (a f : Int32) (cT : Nat) : kN D p a f cT ≤ cT := by
  have := nS_le (f := fun t => n01 (icl D t p a f)) (b := 1) (n := cT) (fun k _ => by show n01 _ ≤ 1; unfold n01; split <;> omega)
  unfold kN
  omega
theorem nO_le (D : pD) (p cT : Nat) : nO D p cT ≤ cT := by
  have := nS_le (f := fun t => if tF D t = p ∨ tS D t = p then 0 else n01 (cl D t)) (b := 1) (n := cT) (fun k _ => by
    show (if _ then 0 else n01 _) ≤ 1
    unfold n01
    split
    · omega
    · split <;> omega)
  unfold nO
  omega
