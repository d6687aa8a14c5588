/-! KEPT RENDERINGS: keep, take -/
theorem M_ro {f : pD → pDL → Option pRes} (hf : isM f) {D D' : pD} {E : pDL} {v : Option pV} (h : f D E = some (v, D, E)) (hd : ∀ k, 100 ≤ k → k < 143 → D' k = D k) : f D' E = some (v, D', E) := by
  have := M_mix hf h hd (fun _ _ _ => rfl)
  rw [this]
  have e1 : cmc D D' = D' := funext fun k => by unfold cmc; split; (next z => exact (hd k z.1 z.2).symm); rfl
  have e2 : cmcE E E = E := funext fun k => by unfold cmcE; split <;> rfl
  rw [e1, e2]
theorem X_ro {f : pD → pDL → Option pRes} (hf : isX f) {D D' : pD} {E : pDL} {v : Option pV} (h : f D E = some (v, D, E)) (hd : ∀ k, k < 100 → D' k = D k) : f D' E = some (v, D', E) := by
  have := X_mix hf h hd (fun _ _ => rfl)
  rw [this]
  have e1 : cmb D D' = D' := funext fun k => by unfold cmb; split; (next z => exact (hd k z).symm); rfl
  have e2 : cmbE E E = E := funext fun k => by unfold cmbE; split <;> rfl
  rw [e1, e2]
theorem v_ko {ks : List Nat} {D D' : pD} (hk : Ko ks D D') (hs : ∀ k ∈ [5, 6, 8, 9, 10, 11, 43, 44, 45, 46, 47], k ∉ ks) (p : Nat) : Rn_lostAt_held_wordTraits_v D' p = Rn_lostAt_held_wordTraits_v D p := by
  have e := hk.at hs
  unfold Rn_lostAt_held_wordTraits_v pN
  rw [e 5 (by decide), e 6 (by decide), e 8 (by decide), e 9 (by decide), e 10 (by decide), e 11 (by decide), e 43 (by decide), e 44 (by decide), e 45 (by decide), e 46 (by decide), e 47 (by decide)]
theorem M_store_loop {s : Nat} (hs : s ≤ 4) (E : pDL) : ∀ (n k : Nat) (D : pD), k + n = 24 → ∃ D', Mo_store_2 (nI s) (nI k) D E = some (none, D', E) ∧ Ko [126, 127, 128, 129, 130] D D' ∧ ∀ a ∈ [126, 127, 128, 129, 130], ∀ i, D' a 0 i = if 24 * s + k ≤ i ∧ i < 24 * s + 24 then D (a - 11) 0 (i - 24 * s) else D a 0 i
  | 0, k, D, h => ⟨D, by rw [e_Mo_store_2, if_pos (nlE 24 (k := k) (by omega) (by omega))], Ko.rf, fun a _ i => by rw [if_neg (by omega)]⟩
  | n + 1, k, D, h => by
    have hk : k < 24 := by omega
    obtain ⟨D', h1, h2, h3⟩ := M_store_loop hs E n (k + 1) (dset (dset (dset (dset (dset D 126 0 (24 * s + k) (D 115 0 k)) 127 0 (24 * s + k) (D 116 0 k)) 128 0 (24 * s + k) (D 117 0 k)) 129 0 (24 * s + k) (D 118 0 k)) 130 0 (24 * s + k) (D 119 0 k)) (by omega)
    have k1 : Ko [126, 127, 128, 129, 130] D (dset (dset (dset (dset (dset D 126 0 (24 * s + k) (D 115 0 k)) 127 0 (24 * s + k) (D 116 0 k)) 128 0 (24 * s + k) (D 117 0 k)) 129 0 (24 * s + k) (D 118 0 k)) 130 0 (24 * s + k) (D 119 0 k)) := ((((Ko.rf.set (by decide) _ _ _).set (by decide) _ _ _).set (by decide) _ _ _).set (by decide) _ _ _).set (by decide) _ _ _
    refine ⟨D', ?_, k1.tr h2, fun a ha i => ?_⟩
    · rw [e_Mo_store_2]
      simp (disch := omega) only [sC, sN, sN0, sLL, sTT, sEE, sM1, sF, sGt, sLe, sLt, sNe, or_false, or_true, false_or, true_or, or_self, if_true, if_false, not_true_eq_false, not_false_eq_true, B1s, B0s, B2s, cl24, cn24, ct24, cu24, ce24, cf24, cw24, nI_add, ca1]
      rw [show s * 24 + k = 24 * s + k by omega]
      exact h1
    · rw [h3 a ha i]
      have ha' : a = 126 ∨ a = 127 ∨ a = 128 ∨ a = 129 ∨ a = 130 := by simpa using ha
      have e1 : dset (dset (dset (dset (dset D 126 0 (24 * s + k) (D 115 0 k)) 127 0 (24 * s + k) (D 116 0 k)) 128 0 (24 * s + k) (D 117 0 k)) 129 0 (24 * s + k) (D 118 0 k)) 130 0 (24 * s + k) (D 119 0 k) a 0 i = if i = 24 * s + k then D (a - 11) 0 k else D a 0 i := by
        rcases ha' with rfl | rfl | rfl | rfl | rfl <;> simp (disch := decide) only [dsN, dsA]
      rw [k1.c (k := a - 11) (by rcases ha' with rfl | rfl | rfl | rfl | rfl <;> decide), e1]
      by_cases c1 : i = 24 * s + k
      · rw [if_neg (by omega), if_pos c1, if_pos (by omega), show i - 24 * s = k by omega]
      · rw [if_neg c1]
        by_cases c2 : 24 * s + (k + 1) ≤ i ∧ i < 24 * s + 24
        · rw [if_pos c2, if_pos (by omega)]
        · rw [if_neg c2, if_neg (by omega)]
theorem M_store {s : Nat} (hs : s ≤ 4) (D : pD) (E : pDL) : ∃ D', Mo_store (nI s) D E = some (none, D', E) ∧ Ko [126, 127, 128, 129, 130] D D' ∧ ∀ a ∈ [126, 127, 128, 129, 130], ∀ i, D' a 0 i = if 24 * s ≤ i ∧ i < 24 * s + 24 then D (a - 11) 0 (i - 24 * s) else D a 0 i := by
  rw [e_Mo_store]
  exact M_store_loop hs E 24 0 D rfl
theorem M_load_loop {s : Nat} (hs : s ≤ 4) (E : pDL) : ∀ (n k : Nat) (D : pD), k + n = 24 → ∃ D', Mo_load_2 (nI s) (nI k) D E = some (none, D', E) ∧ Ko [115, 116, 117, 118, 119] D D' ∧ (∀ a ∈ [115, 116, 117, 118, 119], ∀ i, D' a 0 i = if k ≤ i ∧ i < 24 then D (a + 11) 0 (24 * s + i) else D a 0 i) ∧ ∀ k j, j ≠ 0 → D' k j = D k j
  | 0, k, D, h => ⟨D, by rw [e_Mo_load_2, if_pos (nlE 24 (k := k) (by omega) (by omega))], Ko.rf, fun a _ i => by rw [if_neg (by omega)], fun _ _ _ => rfl⟩
  | n + 1, k, D, h => by
    have hk : k < 24 := by omega
    obtain ⟨D', h1, h2, h3, h4⟩ := M_load_loop hs E n (k + 1) (dset (dset (dset (dset (dset D 115 0 k (D 126 0 (24 * s + k))) 116 0 k (D 127 0 (24 * s + k))) 117 0 k (D 128 0 (24 * s + k))) 118 0 k (D 129 0 (24 * s + k))) 119 0 k (D 130 0 (24 * s + k))) (by omega)
    have k1 : Ko [115, 116, 117, 118, 119] D (dset (dset (dset (dset (dset D 115 0 k (D 126 0 (24 * s + k))) 116 0 k (D 127 0 (24 * s + k))) 117 0 k (D 128 0 (24 * s + k))) 118 0 k (D 129 0 (24 * s + k))) 119 0 k (D 130 0 (24 * s + k))) := ((((Ko.rf.set (by decide) _ _ _).set (by decide) _ _ _).set (by decide) _ _ _).set (by decide) _ _ _).set (by decide) _ _ _
    refine ⟨D', ?_, k1.tr h2, fun a ha i => ?_, fun k' j hj => ?_⟩
    · rw [e_Mo_load_2]
      simp (disch := omega) only [sC, sN, sN0, sLL, sTT, sEE, sM1, sF, sGt, sLe, sLt, sNe, or_false, or_true, false_or, true_or, or_self, if_true, if_false, not_true_eq_false, not_false_eq_true, B1s, B0s, B2s, cl24, cn24, ct24, cu24, ce24, cf24, cw24, nI_add, ca1]
      rw [show s * 24 + k = 24 * s + k by omega]
      exact h1
    · rw [h3 a ha i]
      have ha' : a = 115 ∨ a = 116 ∨ a = 117 ∨ a = 118 ∨ a = 119 := by simpa using ha
      have e1 : dset (dset (dset (dset (dset D 115 0 k (D 126 0 (24 * s + k))) 116 0 k (D 127 0 (24 * s + k))) 117 0 k (D 128 0 (24 * s + k))) 118 0 k (D 129 0 (24 * s + k))) 119 0 k (D 130 0 (24 * s + k)) a 0 i = if i = k then D (a + 11) 0 (24 * s + k) else D a 0 i := by
        rcases ha' with rfl | rfl | rfl | rfl | rfl <;> simp (disch := decide) only [dsN, dsA]
      rw [k1.c (k := a + 11) (by rcases ha' with rfl | rfl | rfl | rfl | rfl <;> decide), e1]
      by_cases c1 : i = k
      · rw [if_neg (by omega), if_pos c1, if_pos (by omega), c1]
      · rw [if_neg c1]
        by_cases c2 : k + 1 ≤ i ∧ i < 24
        · rw [if_pos c2, if_pos (by omega)]
        · rw [if_neg c2, if_neg (by omega)]
    · rw [h4 k' j hj, dset_ne (fun e => hj e.2), dset_ne (fun e => hj e.2), dset_ne (fun e => hj e.2), dset_ne (fun e => hj e.2), dset_ne (fun e => hj e.2)]
theorem M_load {s : Nat} (hs : s ≤ 4) (D : pD) (E : pDL) : ∃ D', Mo_load (nI s) D E = some (none, D', E) ∧ Ko [115, 116, 117, 118, 119] D D' ∧ (∀ a ∈ [115, 116, 117, 118, 119], ∀ i, D' a 0 i = if i < 24 then D (a + 11) 0 (24 * s + i) else D a 0 i) ∧ ∀ k j, j ≠ 0 → D' k j = D k j := by
  rw [e_Mo_load]
  obtain ⟨D', h1, h2, h3, h4⟩ := M_load_loop hs E 24 0 D rfl
  refine ⟨D', h1, h2, fun a ha i => ?_, h4⟩
  rw [h3 a ha i]
  by_cases c : i < 24
  · rw [if_pos (by omega), if_pos c]
  · rw [if_neg (by omega), if_neg c]
theorem iSl.fr2 {cW cP b i : Nat} {D D' : pD} (h : iSl cW cP b i D) (e : ∀ k ∈ [b + 1, b + 2, b + 3, b + 4, b + 5], D' k 0 = D k 0) (e1 : D' 49 0 i = D 49 0 i) (e2 : D' 125 0 i = D 125 0 i) (f : ∀ k ∈ [126, 127, 128, 129, 130], ∀ p, p < 24 → D' k 0 (24 * i + p) = D k 0 (24 * i + p)) : iSl cW cP b i D' := by
  unfold iSl at h ⊢
  rw [e (b + 1) (by simp), e (b + 2) (by simp), e (b + 3) (by simp), e (b + 4) (by simp), e (b + 5) (by simp), e1, e2]
  refine ⟨h.1, h.2.imp id (fun q => ⟨q.1, fun p hp => ?_⟩)⟩
  have := q.2 p hp
  dsimp only at this ⊢
  rw [f 126 (by decide) p hp, f 127 (by decide) p hp, f 128 (by decide) p hp, f 129 (by decide) p hp, f 130 (by decide) p hp]
  exact this
theorem cpy_at {f g : Nat → Int32} {p : Nat} (h : p < 24) : va_cpy f g 0 0 24 p = f p := by
  unfold va_cpy
  rw [if_pos (by omega), show 0 + (p - 0) = p by omega]
theorem slot_in (D : pD) (E : pDL) {i : Nat} (h : i < 4) : Mo_isSlot (nI i) D E = some (some (.inl 1), D, E) := by rw [e_Mo_isSlot, in_in D E 4 (by decide) (by omega) h, B1s, if_pos and_11]
theorem slot_out (D : pD) (E : pDL) {x : Int32} (h : x < 0 ∨ nI 4 ≤ x) : Mo_isSlot x D E = some (some (.inl 0), D, E) := by rw [e_Mo_isSlot, in_out D E 4 (by decide) (by omega) h, B1s, if_pos and_00]
/-- a rendering is copied: cells 43 .. 47 to b + 1 .. b + 5 -/
def cpK (D : pD) (b : Nat) : pD := dcpy (dcpy (dcpy (dcpy (dcpy D 43 0 (b + 1) 0 24) 44 0 (b + 2) 0 24) 45 0 (b + 3) 0 24) 46 0 (b + 4) 0 24) 47 0 (b + 5) 0 24
def cqN (D : pD) (b : Nat) : pD := dcpy (dcpy (dcpy (dcpy (dcpy D (b + 1) 0 43 0 24) (b + 2) 0 44 0 24) (b + 3) 0 45 0 24) (b + 4) 0 46 0 24) (b + 5) 0 47 0 24
theorem one_ne : ((1 : Nat) = 0) = False := eq_false (by decide)
theorem out4 {x : Int32} {ρ : Type} {a b : ρ} (h : x < 0 ∨ nI 4 ≤ x) : (if x < 0 then a else if x < 4 then b else a) = a := by
  by_cases h0 : x < 0
  · rw [if_pos h0]
  · rw [if_neg h0, if_neg]
    intro z
    have := h.resolve_left h0
    rw [iNL] at this
    exact this z

theorem cpK0_ko (D : pD) : Ko [77, 78, 79, 80, 81] D (cpK D 76) := ((((Ko.rf.cpy (by decide) _ _ _ _).cpy (by decide) _ _ _ _).cpy (by decide) _ _ _ _).cpy (by decide) _ _ _ _).cpy (by decide) _ _ _ _
theorem cpK0_at (D : pD) {p : Nat} (hp : p < 24) : cpK D 76 77 0 p = D 43 0 p ∧ cpK D 76 78 0 p = D 44 0 p ∧ cpK D 76 79 0 p = D 45 0 p ∧ cpK D 76 80 0 p = D 46 0 p ∧ cpK D 76 81 0 p = D 47 0 p := by
  unfold cpK
  simp (disch := decide) only [dcN, dcE, Nat.reduceAdd]
  simp only [cpy_at hp, and_self]
theorem cqN0_ko (D : pD) : Ko [43, 44, 45, 46, 47] D (cqN D 76) := ((((Ko.rf.cpy (by decide) _ _ _ _).cpy (by decide) _ _ _ _).cpy (by decide) _ _ _ _).cpy (by decide) _ _ _ _).cpy (by decide) _ _ _ _
theorem cqN0_at (D : pD) {p : Nat} (hp : p < 24) : cqN D 76 43 0 p = D 77 0 p ∧ cqN D 76 44 0 p = D 78 0 p ∧ cqN D 76 45 0 p = D 79 0 p ∧ cqN D 76 46 0 p = D 80 0 p ∧ cqN D 76 47 0 p = D 81 0 p := by
  unfold cqN
  simp (disch := decide) only [dcN, dcE, Nat.reduceAdd]
  simp only [cpy_at hp, and_self]
theorem L_keep0 (D : pD) (E : pDL) (h : Inv D) : Same D E (Hb_keep (nI 0)) (Mo_keep (nI 0)) := by
  have hh := h
  obtain ⟨cN, cW, cP, cT, cH, hT, hF, hB, hN, hK, hG, hY, hL⟩ := h
  obtain ⟨⟨⟨n1, n2, n3, n4, n5⟩, ⟨a1, a2, a3, a4, a5⟩, ⟨b1, b2, b3, b4, b5⟩⟩, hS, hW, hGS, r1, r2, r3, r4, r5, r6⟩ := id hB
  obtain ⟨Ds, s1, s2, s3⟩ := M_store (s := 0) (by omega) D E
  have x1 : Rn_copyFrom_k0 D E = some (none, cpK D 76, E) := e_Rn_copyFrom_k0 D E
  have kx : Ko [77, 78, 79, 80, 81, 49] D (dset (cpK D 76) 49 0 0 1) := ((cpK0_ko D).sub (by decide)).set (by decide) _ _ _
  have km : Ko [125, 126, 127, 128, 129, 130] D (dset Ds 125 0 0 1) := (s2.sub (by decide)).set (by decide) _ _ _
  refine Bo.of (v := iS (Rn_lostAt_held_wordTraits_v D) cP) (D1 := dset (cpK D 76) 49 0 0 1) (E1 := E) (D2 := dset Ds 125 0 0 1) (E2 := E) ⟨_, _, _, _, by repeat first | exact okL_nil | refine okL_n ?_ | refine okL_i ?_ | refine okL_r (by decide) ?_, fun _ _ => rfl⟩ ⟨_, _, _, _, by repeat first | exact okL_nil | refine okL_n ?_ | refine okL_i ?_ | refine okL_r (by decide) ?_, fun _ _ => rfl⟩ ?_ ?_ ?_
  · rw [e_Hb_keep, if_neg (iN (by omega)), if_pos (nlt 4 (by omega) (by omega)), if_neg (iB (by omega) (by omega)), iC (by omega)]
    simp (disch := decide) only [if_true, if_false, sNe, x1, B0s, Nat.reduceSub, eq_self, one_ne]
    rw [if_neg (by have := iB (k := 0) (N := 4) (by omega) (by omega); rw [iC (by omega)] at this; exact this), and_11, X_lost (hB.ko kx (by decide)), B1s, iS_cong (fun p _ => v_ko kx (by decide) p)]
  · rw [e_Mo_keep, slot_in D E (by omega), B1s, if_neg (by decide), s1, B0s, if_neg (iB (by omega) (by omega)), iC (by omega), and_11, M_lost (hB.ko km (by decide)) (hN.ko km (by decide)) (hY.ko km (by decide)), B1s, iS_cong (fun p _ => v_ko km (by decide) p)]
  · have k3 : Ko [77, 78, 79, 80, 81, 49, 125, 126, 127, 128, 129, 130] D (cmb (dset (cpK D 76) 49 0 0 1) (dset Ds 125 0 0 1)) := by
      intro k hk
      by_cases c : k < 100
      · rw [cmb_x c]
        exact kx k (fun z => hk (by revert z; simp; omega))
      · rw [cmb_m c]
        exact km k (fun z => hk (by revert z; simp; omega))
    have e49 : ∀ j, cmb (dset (cpK D 76) 49 0 0 1) (dset Ds 125 0 0 1) 49 0 j = if j = 0 then 1 else D 49 0 j := fun j => by
      rw [cmb_x (by decide), dsA, (cpK0_ko D).c (by decide)]
    have e125 : ∀ j, cmb (dset (cpK D 76) 49 0 0 1) (dset Ds 125 0 0 1) 125 0 j = if j = 0 then 1 else D 125 0 j := fun j => by
      rw [cmb_m (by decide), dsA, s2.c (by decide)]
    have em : ∀ a ∈ [126, 127, 128, 129, 130], ∀ j, cmb (dset (cpK D 76) 49 0 0 1) (dset Ds 125 0 0 1) a 0 j = if 24 * 0 ≤ j ∧ j < 24 * 0 + 24 then D (a - 11) 0 (j - 24 * 0) else D a 0 j := fun a ha j => by
      have h1 : ¬ a < 100 := by revert ha; simp; omega
      have h2 : a ≠ 125 := by revert ha; simp; omega
      rw [cmb_m h1, dsN h2, s3 a ha j]
    have old : ∀ {b' j : Nat}, j ≠ 0 → iSl cW cP b' j D → (∀ k ∈ [b' + 1, b' + 2, b' + 3, b' + 4, b' + 5], k ∉ [77, 78, 79, 80, 81, 49, 125, 126, 127, 128, 129, 130]) → iSl cW cP b' j (cmb (dset (cpK D 76) 49 0 0 1) (dset Ds 125 0 0 1)) := by
      intro b' j hj hs hd
      refine hs.fr2 (k3.at hd) (by rw [e49, if_neg hj]) (by rw [e125, if_neg hj]) (fun k hk p hp => ?_)
      rw [em k hk, if_neg (by omega)]
    refine ⟨cN, cW, cP, cT, cH, hT.ko k3 (by decide), hF.ko k3 (by decide), hB.ko k3 (by decide), hN.ko k3 (by decide), ?_, hG.ko k3 (by decide), hY.ko k3 (by decide), hL.ko k3 (by decide)⟩
    have this : iSl cW cP 76 0 (cmb (dset (cpK D 76) 49 0 0 1) (dset Ds 125 0 0 1)) := by
      refine ⟨by rw [e49, e125, if_pos rfl, if_pos rfl], Or.inr ⟨by rw [e49, if_pos rfl], fun p hp => ?_⟩⟩
      obtain ⟨c1, c2, c3, c4, c5⟩ := cpK0_at D hp
      have cc : 24 * 0 ≤ 24 * 0 + p ∧ 24 * 0 + p < 24 * 0 + 24 := by omega
      dsimp only
      rw [em 126 (by decide), em 127 (by decide), em 128 (by decide), em 129 (by decide), em 130 (by decide), if_pos cc, if_pos cc, if_pos cc, if_pos cc, if_pos cc, Nat.add_sub_cancel_left]
      simp only [Nat.reduceAdd, Nat.reduceSub]
      rw [cmb_x (k := 77) (by decide), cmb_x (k := 78) (by decide), cmb_x (k := 79) (by decide), cmb_x (k := 80) (by decide), cmb_x (k := 81) (by decide), dsN (k' := 77) (by decide), dsN (k' := 78) (by decide), dsN (k' := 79) (by decide), dsN (k' := 80) (by decide), dsN (k' := 81) (by decide), c1, c2, c3, c4, c5]
      exact hN p hp
    exact ⟨this, old (by decide) hK.2.1 (by decide), old (by decide) hK.2.2.1 (by decide), old (by decide) hK.2.2.2 (by decide)⟩
theorem L_take0 (D : pD) (E : pDL) (h : Inv D) : Same D E (Hb_take (nI 0)) (Mo_take (nI 0)) := by
  have hh := h
  obtain ⟨cN, cW, cP, cT, cH, hT, hF, hB, hN, hK, hG, hY, hL⟩ := h
  obtain ⟨⟨⟨n1, n2, n3, n4, n5⟩, ⟨a1, a2, a3, a4, a5⟩, ⟨b1, b2, b3, b4, b5⟩⟩, hS, hW, hGS, r1, r2, r3, r4, r5, r6⟩ := id hB
  have hb4 : ¬ (nI 0 < 0 ∨ 4 ≤ (nI 0).toNatClampNeg) := iB (by omega) (by omega)
  have hsl := hK.1
  obtain ⟨q1, q2 | ⟨q2, q3⟩⟩ := hsl
  · refine Same.ro (v := -4) hh ?_ ?_
    · rw [e_Hb_take, if_neg (iN (by omega)), if_pos (nlt 4 (by omega) (by omega)), if_neg hb4, iC (by omega), if_pos q2]
    · rw [e_Mo_take, slot_in D E (by omega), B1s, if_neg (by decide), if_neg hb4, iC (by omega), if_pos (q1.trans q2)]
  · obtain ⟨Dl, s1, s2, s3, -⟩ := M_load (s := 0) (by omega) D E
    have x1 : Rn_copyFrom_k0_v122 D E = some (none, cqN D 76, E) := e_Rn_copyFrom_k0_v122 D E
    have k3 : Ko [43, 44, 45, 46, 47, 115, 116, 117, 118, 119] D (cmb (cqN D 76) Dl) := by
      intro k hk
      by_cases c : k < 100
      · rw [cmb_x c]
        exact cqN0_ko D k (fun z => hk (by revert z; simp; omega))
      · rw [cmb_m c]
        exact s2 k (fun z => hk (by revert z; simp; omega))
    have hN' : iNow cW cP (cmb (cqN D 76) Dl) := by
      intro p hp
      obtain ⟨c1, c2, c3, c4, c5⟩ := cqN0_at D hp
      rw [cmb_x (k := 43) (by decide), cmb_x (k := 44) (by decide), cmb_x (k := 45) (by decide), cmb_x (k := 46) (by decide), cmb_x (k := 47) (by decide), cmb_m (k := 115) (by decide), cmb_m (k := 116) (by decide), cmb_m (k := 117) (by decide), cmb_m (k := 118) (by decide), cmb_m (k := 119) (by decide), c1, c2, c3, c4, c5, s3 115 (by decide), s3 116 (by decide), s3 117 (by decide), s3 118 (by decide), s3 119 (by decide), if_pos hp, if_pos hp, if_pos hp, if_pos hp, if_pos hp]
      exact q3 p hp
    have hB' := hB.ko k3 (by decide)
    have hY' := hY.ko k3 (by decide)
    have xl := X_lost (E := E) hB'
    have ml := M_lost (E := E) hB' hN' hY'
    have xl' := X_ro (f := Rn_lostOfAll_held_wordTraits) ⟨_, _, _, _, by repeat first | exact okL_nil | refine okL_n ?_ | refine okL_i ?_ | refine okL_r (by decide) ?_, fun _ _ => rfl⟩ xl (D' := cqN D 76) (fun k hk => (cmb_x hk).symm)
    have ml' := M_ro (f := Mo_lostAll (-1)) ⟨_, _, _, _, by repeat first | exact okL_nil | refine okL_n ?_ | refine okL_i ?_ | refine okL_r (by decide) ?_, fun _ _ => rfl⟩ ml (D' := Dl) (fun k hk _ => (cmb_m (by omega)).symm)
    refine Bo.of (v := iS (Rn_lostAt_held_wordTraits_v (cmb (cqN D 76) Dl)) cP) (D1 := cqN D 76) (E1 := E) (D2 := Dl) (E2 := E) ⟨_, _, _, _, by repeat first | exact okL_nil | refine okL_n ?_ | refine okL_i ?_ | refine okL_r (by decide) ?_, fun _ _ => rfl⟩ ⟨_, _, _, _, by repeat first | exact okL_nil | refine okL_n ?_ | refine okL_i ?_ | refine okL_r (by decide) ?_, fun _ _ => rfl⟩ ?_ ?_ ?_
    · rw [e_Hb_take, if_neg (iN (by omega)), if_pos (nlt 4 (by omega) (by omega)), if_neg hb4, if_neg (by rw [iC (by omega), q2]; decide), if_neg hb4, iC (by omega)]
      simp (disch := decide) only [if_true, if_false, sNe, x1, B0s, Nat.reduceSub, eq_self, one_ne, xl', B1s]
    · rw [e_Mo_take, slot_in D E (by omega), B1s, if_neg (by decide), if_neg hb4, if_neg (by rw [iC (by omega), q1, q2]; decide), s1, B0s, ml', B1s]
    · exact ⟨cN, cW, cP, cT, cH, hT.ko k3 (by decide), hF.ko k3 (by decide), hB', hN', hK.ko k3 (by decide), hG.ko k3 (by decide), hY', hL.ko k3 (by decide)⟩

theorem cpK1_ko (D : pD) : Ko [83, 84, 85, 86, 87] D (cpK D 82) := ((((Ko.rf.cpy (by decide) _ _ _ _).cpy (by decide) _ _ _ _).cpy (by decide) _ _ _ _).cpy (by decide) _ _ _ _).cpy (by decide) _ _ _ _
theorem cpK1_at (D : pD) {p : Nat} (hp : p < 24) : cpK D 82 83 0 p = D 43 0 p ∧ cpK D 82 84 0 p = D 44 0 p ∧ cpK D 82 85 0 p = D 45 0 p ∧ cpK D 82 86 0 p = D 46 0 p ∧ cpK D 82 87 0 p = D 47 0 p := by
  unfold cpK
  simp (disch := decide) only [dcN, dcE, Nat.reduceAdd]
  simp only [cpy_at hp, and_self]
theorem cqN1_ko (D : pD) : Ko [43, 44, 45, 46, 47] D (cqN D 82) := ((((Ko.rf.cpy (by decide) _ _ _ _).cpy (by decide) _ _ _ _).cpy (by decide) _ _ _ _).cpy (by decide) _ _ _ _).cpy (by decide) _ _ _ _
theorem cqN1_at (D : pD) {p : Nat} (hp : p < 24) : cqN D 82 43 0 p = D 83 0 p ∧ cqN D 82 44 0 p = D 84 0 p ∧ cqN D 82 45 0 p = D 85 0 p ∧ cqN D 82 46 0 p = D 86 0 p ∧ cqN D 82 47 0 p = D 87 0 p := by
  unfold cqN
  simp (disch := decide) only [dcN, dcE, Nat.reduceAdd]
  simp only [cpy_at hp, and_self]
theorem L_keep1 (D : pD) (E : pDL) (h : Inv D) : Same D E (Hb_keep (nI 1)) (Mo_keep (nI 1)) := by
  have hh := h
  obtain ⟨cN, cW, cP, cT, cH, hT, hF, hB, hN, hK, hG, hY, hL⟩ := h
  obtain ⟨⟨⟨n1, n2, n3, n4, n5⟩, ⟨a1, a2, a3, a4, a5⟩, ⟨b1, b2, b3, b4, b5⟩⟩, hS, hW, hGS, r1, r2, r3, r4, r5, r6⟩ := id hB
  obtain ⟨Ds, s1, s2, s3⟩ := M_store (s := 1) (by omega) D E
  have x1 : Rn_copyFrom_k1 D E = some (none, cpK D 82, E) := e_Rn_copyFrom_k1 D E
  have kx : Ko [83, 84, 85, 86, 87, 49] D (dset (cpK D 82) 49 0 1 1) := ((cpK1_ko D).sub (by decide)).set (by decide) _ _ _
  have km : Ko [125, 126, 127, 128, 129, 130] D (dset Ds 125 0 1 1) := (s2.sub (by decide)).set (by decide) _ _ _
  refine Bo.of (v := iS (Rn_lostAt_held_wordTraits_v D) cP) (D1 := dset (cpK D 82) 49 0 1 1) (E1 := E) (D2 := dset Ds 125 0 1 1) (E2 := E) ⟨_, _, _, _, by repeat first | exact okL_nil | refine okL_n ?_ | refine okL_i ?_ | refine okL_r (by decide) ?_, fun _ _ => rfl⟩ ⟨_, _, _, _, by repeat first | exact okL_nil | refine okL_n ?_ | refine okL_i ?_ | refine okL_r (by decide) ?_, fun _ _ => rfl⟩ ?_ ?_ ?_
  · rw [e_Hb_keep, if_neg (iN (by omega)), if_pos (nlt 4 (by omega) (by omega)), if_neg (iB (by omega) (by omega)), iC (by omega)]
    simp (disch := decide) only [if_true, if_false, sNe, x1, B0s, Nat.reduceSub, eq_self, one_ne]
    rw [if_neg (by have := iB (k := 1) (N := 4) (by omega) (by omega); rw [iC (by omega)] at this; exact this), and_11, X_lost (hB.ko kx (by decide)), B1s, iS_cong (fun p _ => v_ko kx (by decide) p)]
  · rw [e_Mo_keep, slot_in D E (by omega), B1s, if_neg (by decide), s1, B0s, if_neg (iB (by omega) (by omega)), iC (by omega), and_11, M_lost (hB.ko km (by decide)) (hN.ko km (by decide)) (hY.ko km (by decide)), B1s, iS_cong (fun p _ => v_ko km (by decide) p)]
  · have k3 : Ko [83, 84, 85, 86, 87, 49, 125, 126, 127, 128, 129, 130] D (cmb (dset (cpK D 82) 49 0 1 1) (dset Ds 125 0 1 1)) := by
      intro k hk
      by_cases c : k < 100
      · rw [cmb_x c]
        exact kx k (fun z => hk (by revert z; simp; omega))
      · rw [cmb_m c]
        exact km k (fun z => hk (by revert z; simp; omega))
    have e49 : ∀ j, cmb (dset (cpK D 82) 49 0 1 1) (dset Ds 125 0 1 1) 49 0 j = if j = 1 then 1 else D 49 0 j := fun j => by
      rw [cmb_x (by decide), dsA, (cpK1_ko D).c (by decide)]
    have e125 : ∀ j, cmb (dset (cpK D 82) 49 0 1 1) (dset Ds 125 0 1 1) 125 0 j = if j = 1 then 1 else D 125 0 j := fun j => by
      rw [cmb_m (by decide), dsA, s2.c (by decide)]
    have em : ∀ a ∈ [126, 127, 128, 129, 130], ∀ j, cmb (dset (cpK D 82) 49 0 1 1) (dset Ds 125 0 1 1) a 0 j = if 24 * 1 ≤ j ∧ j < 24 * 1 + 24 then D (a - 11) 0 (j - 24 * 1) else D a 0 j := fun a ha j => by
      have h1 : ¬ a < 100 := by revert ha; simp; omega
      have h2 : a ≠ 125 := by revert ha; simp; omega
      rw [cmb_m h1, dsN h2, s3 a ha j]
    have old : ∀ {b' j : Nat}, j ≠ 1 → iSl cW cP b' j D → (∀ k ∈ [b' + 1, b' + 2, b' + 3, b' + 4, b' + 5], k ∉ [83, 84, 85, 86, 87, 49, 125, 126, 127, 128, 129, 130]) → iSl cW cP b' j (cmb (dset (cpK D 82) 49 0 1 1) (dset Ds 125 0 1 1)) := by
      intro b' j hj hs hd
      refine hs.fr2 (k3.at hd) (by rw [e49, if_neg hj]) (by rw [e125, if_neg hj]) (fun k hk p hp => ?_)
      rw [em k hk, if_neg (by omega)]
    refine ⟨cN, cW, cP, cT, cH, hT.ko k3 (by decide), hF.ko k3 (by decide), hB.ko k3 (by decide), hN.ko k3 (by decide), ?_, hG.ko k3 (by decide), hY.ko k3 (by decide), hL.ko k3 (by decide)⟩
    have this : iSl cW cP 82 1 (cmb (dset (cpK D 82) 49 0 1 1) (dset Ds 125 0 1 1)) := by
      refine ⟨by rw [e49, e125, if_pos rfl, if_pos rfl], Or.inr ⟨by rw [e49, if_pos rfl], fun p hp => ?_⟩⟩
      obtain ⟨c1, c2, c3, c4, c5⟩ := cpK1_at D hp
      have cc : 24 * 1 ≤ 24 * 1 + p ∧ 24 * 1 + p < 24 * 1 + 24 := by omega
      dsimp only
      rw [em 126 (by decide), em 127 (by decide), em 128 (by decide), em 129 (by decide), em 130 (by decide), if_pos cc, if_pos cc, if_pos cc, if_pos cc, if_pos cc, Nat.add_sub_cancel_left]
      simp only [Nat.reduceAdd, Nat.reduceSub]
      rw [cmb_x (k := 83) (by decide), cmb_x (k := 84) (by decide), cmb_x (k := 85) (by decide), cmb_x (k := 86) (by decide), cmb_x (k := 87) (by decide), dsN (k' := 83) (by decide), dsN (k' := 84) (by decide), dsN (k' := 85) (by decide), dsN (k' := 86) (by decide), dsN (k' := 87) (by decide), c1, c2, c3, c4, c5]
      exact hN p hp
    exact ⟨old (by decide) hK.1 (by decide), this, old (by decide) hK.2.2.1 (by decide), old (by decide) hK.2.2.2 (by decide)⟩
theorem L_take1 (D : pD) (E : pDL) (h : Inv D) : Same D E (Hb_take (nI 1)) (Mo_take (nI 1)) := by
  have hh := h
  obtain ⟨cN, cW, cP, cT, cH, hT, hF, hB, hN, hK, hG, hY, hL⟩ := h
  obtain ⟨⟨⟨n1, n2, n3, n4, n5⟩, ⟨a1, a2, a3, a4, a5⟩, ⟨b1, b2, b3, b4, b5⟩⟩, hS, hW, hGS, r1, r2, r3, r4, r5, r6⟩ := id hB
  have hb4 : ¬ (nI 1 < 0 ∨ 4 ≤ (nI 1).toNatClampNeg) := iB (by omega) (by omega)
  have hsl := hK.2.1
  obtain ⟨q1, q2 | ⟨q2, q3⟩⟩ := hsl
  · refine Same.ro (v := -4) hh ?_ ?_
    · rw [e_Hb_take, if_neg (iN (by omega)), if_pos (nlt 4 (by omega) (by omega)), if_neg hb4, iC (by omega), if_pos q2]
    · rw [e_Mo_take, slot_in D E (by omega), B1s, if_neg (by decide), if_neg hb4, iC (by omega), if_pos (q1.trans q2)]
  · obtain ⟨Dl, s1, s2, s3, -⟩ := M_load (s := 1) (by omega) D E
    have x1 : Rn_copyFrom_k1_v123 D E = some (none, cqN D 82, E) := e_Rn_copyFrom_k1_v123 D E
    have k3 : Ko [43, 44, 45, 46, 47, 115, 116, 117, 118, 119] D (cmb (cqN D 82) Dl) := by
      intro k hk
      by_cases c : k < 100
      · rw [cmb_x c]
        exact cqN1_ko D k (fun z => hk (by revert z; simp; omega))
      · rw [cmb_m c]
        exact s2 k (fun z => hk (by revert z; simp; omega))
    have hN' : iNow cW cP (cmb (cqN D 82) Dl) := by
      intro p hp
      obtain ⟨c1, c2, c3, c4, c5⟩ := cqN1_at D hp
      rw [cmb_x (k := 43) (by decide), cmb_x (k := 44) (by decide), cmb_x (k := 45) (by decide), cmb_x (k := 46) (by decide), cmb_x (k := 47) (by decide), cmb_m (k := 115) (by decide), cmb_m (k := 116) (by decide), cmb_m (k := 117) (by decide), cmb_m (k := 118) (by decide), cmb_m (k := 119) (by decide), c1, c2, c3, c4, c5, s3 115 (by decide), s3 116 (by decide), s3 117 (by decide), s3 118 (by decide), s3 119 (by decide), if_pos hp, if_pos hp, if_pos hp, if_pos hp, if_pos hp]
      exact q3 p hp
    have hB' := hB.ko k3 (by decide)
    have hY' := hY.ko k3 (by decide)
    have xl := X_lost (E := E) hB'
    have ml := M_lost (E := E) hB' hN' hY'
    have xl' := X_ro (f := Rn_lostOfAll_held_wordTraits) ⟨_, _, _, _, by repeat first | exact okL_nil | refine okL_n ?_ | refine okL_i ?_ | refine okL_r (by decide) ?_, fun _ _ => rfl⟩ xl (D' := cqN D 82) (fun k hk => (cmb_x hk).symm)
    have ml' := M_ro (f := Mo_lostAll (-1)) ⟨_, _, _, _, by repeat first | exact okL_nil | refine okL_n ?_ | refine okL_i ?_ | refine okL_r (by decide) ?_, fun _ _ => rfl⟩ ml (D' := Dl) (fun k hk _ => (cmb_m (by omega)).symm)
    refine Bo.of (v := iS (Rn_lostAt_held_wordTraits_v (cmb (cqN D 82) Dl)) cP) (D1 := cqN D 82) (E1 := E) (D2 := Dl) (E2 := E) ⟨_, _, _, _, by repeat first | exact okL_nil | refine okL_n ?_ | refine okL_i ?_ | refine okL_r (by decide) ?_, fun _ _ => rfl⟩ ⟨_, _, _, _, by repeat first | exact okL_nil | refine okL_n ?_ | refine okL_i ?_ | refine okL_r (by decide) ?_, fun _ _ => rfl⟩ ?_ ?_ ?_
    · rw [e_Hb_take, if_neg (iN (by omega)), if_pos (nlt 4 (by omega) (by omega)), if_neg hb4, if_neg (by rw [iC (by omega), q2]; decide), if_neg hb4, iC (by omega)]
      simp (disch := decide) only [if_true, if_false, sNe, x1, B0s, Nat.reduceSub, eq_self, one_ne, xl', B1s]
    · rw [e_Mo_take, slot_in D E (by omega), B1s, if_neg (by decide), if_neg hb4, if_neg (by rw [iC (by omega), q1, q2]; decide), s1, B0s, ml', B1s]
    · exact ⟨cN, cW, cP, cT, cH, hT.ko k3 (by decide), hF.ko k3 (by decide), hB', hN', hK.ko k3 (by decide), hG.ko k3 (by decide), hY', hL.ko k3 (by decide)⟩

theorem cpK2_ko (D : pD) : Ko [89, 90, 91, 92, 93] D (cpK D 88) := ((((Ko.rf.cpy (by decide) _ _ _ _).cpy (by decide) _ _ _ _).cpy (by decide) _ _ _ _).cpy (by decide) _ _ _ _).cpy (by decide) _ _ _ _
theorem cpK2_at (D : pD) {p : Nat} (hp : p < 24) : cpK D 88 89 0 p = D 43 0 p ∧ cpK D 88 90 0 p = D 44 0 p ∧ cpK D 88 91 0 p = D 45 0 p ∧ cpK D 88 92 0 p = D 46 0 p ∧ cpK D 88 93 0 p = D 47 0 p := by
  unfold cpK
  simp (disch := decide) only [dcN, dcE, Nat.reduceAdd]
  simp only [cpy_at hp, and_self]
theorem cqN2_ko (D : pD) : Ko [43, 44, 45, 46, 47] D (cqN D 88) := ((((Ko.rf.cpy (by decide) _ _ _ _).cpy (by decide) _ _ _ _).cpy (by decide) _ _ _ _).cpy (by decide) _ _ _ _).cpy (by decide) _ _ _ _
theorem cqN2_at (D : pD) {p : Nat} (hp : p < 24) : cqN D 88 43 0 p = D 89 0 p ∧ cqN D 88 44 0 p = D 90 0 p ∧ cqN D 88 45 0 p = D 91 0 p ∧ cqN D 88 46 0 p = D 92 0 p ∧ cqN D 88 47 0 p = D 93 0 p := by
  unfold cqN
  simp (disch := decide) only [dcN, dcE, Nat.reduceAdd]
  simp only [cpy_at hp, and_self]
theorem L_keep2 (D : pD) (E : pDL) (h : Inv D) : Same D E (Hb_keep (nI 2)) (Mo_keep (nI 2)) := by
  have hh := h
  obtain ⟨cN, cW, cP, cT, cH, hT, hF, hB, hN, hK, hG, hY, hL⟩ := h
  obtain ⟨⟨⟨n1, n2, n3, n4, n5⟩, ⟨a1, a2, a3, a4, a5⟩, ⟨b1, b2, b3, b4, b5⟩⟩, hS, hW, hGS, r1, r2, r3, r4, r5, r6⟩ := id hB
  obtain ⟨Ds, s1, s2, s3⟩ := M_store (s := 2) (by omega) D E
  have x1 : Rn_copyFrom_k2 D E = some (none, cpK D 88, E) := e_Rn_copyFrom_k2 D E
  have kx : Ko [89, 90, 91, 92, 93, 49] D (dset (cpK D 88) 49 0 2 1) := ((cpK2_ko D).sub (by decide)).set (by decide) _ _ _
  have km : Ko [125, 126, 127, 128, 129, 130] D (dset Ds 125 0 2 1) := (s2.sub (by decide)).set (by decide) _ _ _
  refine Bo.of (v := iS (Rn_lostAt_held_wordTraits_v D) cP) (D1 := dset (cpK D 88) 49 0 2 1) (E1 := E) (D2 := dset Ds 125 0 2 1) (E2 := E) ⟨_, _, _, _, by repeat first | exact okL_nil | refine okL_n ?_ | refine okL_i ?_ | refine okL_r (by decide) ?_, fun _ _ => rfl⟩ ⟨_, _, _, _, by repeat first | exact okL_nil | refine okL_n ?_ | refine okL_i ?_ | refine okL_r (by decide) ?_, fun _ _ => rfl⟩ ?_ ?_ ?_
  · rw [e_Hb_keep, if_neg (iN (by omega)), if_pos (nlt 4 (by omega) (by omega)), if_neg (iB (by omega) (by omega)), iC (by omega)]
    simp (disch := decide) only [if_true, if_false, sNe, x1, B0s, Nat.reduceSub, eq_self, one_ne]
    rw [if_neg (by have := iB (k := 2) (N := 4) (by omega) (by omega); rw [iC (by omega)] at this; exact this), and_11, X_lost (hB.ko kx (by decide)), B1s, iS_cong (fun p _ => v_ko kx (by decide) p)]
  · rw [e_Mo_keep, slot_in D E (by omega), B1s, if_neg (by decide), s1, B0s, if_neg (iB (by omega) (by omega)), iC (by omega), and_11, M_lost (hB.ko km (by decide)) (hN.ko km (by decide)) (hY.ko km (by decide)), B1s, iS_cong (fun p _ => v_ko km (by decide) p)]
  · have k3 : Ko [89, 90, 91, 92, 93, 49, 125, 126, 127, 128, 129, 130] D (cmb (dset (cpK D 88) 49 0 2 1) (dset Ds 125 0 2 1)) := by
      intro k hk
      by_cases c : k < 100
      · rw [cmb_x c]
        exact kx k (fun z => hk (by revert z; simp; omega))
      · rw [cmb_m c]
        exact km k (fun z => hk (by revert z; simp; omega))
    have e49 : ∀ j, cmb (dset (cpK D 88) 49 0 2 1) (dset Ds 125 0 2 1) 49 0 j = if j = 2 then 1 else D 49 0 j := fun j => by
      rw [cmb_x (by decide), dsA, (cpK2_ko D).c (by decide)]
    have e125 : ∀ j, cmb (dset (cpK D 88) 49 0 2 1) (dset Ds 125 0 2 1) 125 0 j = if j = 2 then 1 else D 125 0 j := fun j => by
      rw [cmb_m (by decide), dsA, s2.c (by decide)]
    have em : ∀ a ∈ [126, 127, 128, 129, 130], ∀ j, cmb (dset (cpK D 88) 49 0 2 1) (dset Ds 125 0 2 1) a 0 j = if 24 * 2 ≤ j ∧ j < 24 * 2 + 24 then D (a - 11) 0 (j - 24 * 2) else D a 0 j := fun a ha j => by
      have h1 : ¬ a < 100 := by revert ha; simp; omega
      have h2 : a ≠ 125 := by revert ha; simp; omega
      rw [cmb_m h1, dsN h2, s3 a ha j]
    have old : ∀ {b' j : Nat}, j ≠ 2 → iSl cW cP b' j D → (∀ k ∈ [b' + 1, b' + 2, b' + 3, b' + 4, b' + 5], k ∉ [89, 90, 91, 92, 93, 49, 125, 126, 127, 128, 129, 130]) → iSl cW cP b' j (cmb (dset (cpK D 88) 49 0 2 1) (dset Ds 125 0 2 1)) := by
      intro b' j hj hs hd
      refine hs.fr2 (k3.at hd) (by rw [e49, if_neg hj]) (by rw [e125, if_neg hj]) (fun k hk p hp => ?_)
      rw [em k hk, if_neg (by omega)]
    refine ⟨cN, cW, cP, cT, cH, hT.ko k3 (by decide), hF.ko k3 (by decide), hB.ko k3 (by decide), hN.ko k3 (by decide), ?_, hG.ko k3 (by decide), hY.ko k3 (by decide), hL.ko k3 (by decide)⟩
    have this : iSl cW cP 88 2 (cmb (dset (cpK D 88) 49 0 2 1) (dset Ds 125 0 2 1)) := by
      refine ⟨by rw [e49, e125, if_pos rfl, if_pos rfl], Or.inr ⟨by rw [e49, if_pos rfl], fun p hp => ?_⟩⟩
      obtain ⟨c1, c2, c3, c4, c5⟩ := cpK2_at D hp
      have cc : 24 * 2 ≤ 24 * 2 + p ∧ 24 * 2 + p < 24 * 2 + 24 := by omega
      dsimp only
      rw [em 126 (by decide), em 127 (by decide), em 128 (by decide), em 129 (by decide), em 130 (by decide), if_pos cc, if_pos cc, if_pos cc, if_pos cc, if_pos cc, Nat.add_sub_cancel_left]
      simp only [Nat.reduceAdd, Nat.reduceSub]
      rw [cmb_x (k := 89) (by decide), cmb_x (k := 90) (by decide), cmb_x (k := 91) (by decide), cmb_x (k := 92) (by decide), cmb_x (k := 93) (by decide), dsN (k' := 89) (by decide), dsN (k' := 90) (by decide), dsN (k' := 91) (by decide), dsN (k' := 92) (by decide), dsN (k' := 93) (by decide), c1, c2, c3, c4, c5]
      exact hN p hp
    exact ⟨old (by decide) hK.1 (by decide), old (by decide) hK.2.1 (by decide), this, old (by decide) hK.2.2.2 (by decide)⟩
theorem L_take2 (D : pD) (E : pDL) (h : Inv D) : Same D E (Hb_take (nI 2)) (Mo_take (nI 2)) := by
  have hh := h
  obtain ⟨cN, cW, cP, cT, cH, hT, hF, hB, hN, hK, hG, hY, hL⟩ := h
  obtain ⟨⟨⟨n1, n2, n3, n4, n5⟩, ⟨a1, a2, a3, a4, a5⟩, ⟨b1, b2, b3, b4, b5⟩⟩, hS, hW, hGS, r1, r2, r3, r4, r5, r6⟩ := id hB
  have hb4 : ¬ (nI 2 < 0 ∨ 4 ≤ (nI 2).toNatClampNeg) := iB (by omega) (by omega)
  have hsl := hK.2.2.1
  obtain ⟨q1, q2 | ⟨q2, q3⟩⟩ := hsl
  · refine Same.ro (v := -4) hh ?_ ?_
    · rw [e_Hb_take, if_neg (iN (by omega)), if_pos (nlt 4 (by omega) (by omega)), if_neg hb4, iC (by omega), if_pos q2]
    · rw [e_Mo_take, slot_in D E (by omega), B1s, if_neg (by decide), if_neg hb4, iC (by omega), if_pos (q1.trans q2)]
  · obtain ⟨Dl, s1, s2, s3, -⟩ := M_load (s := 2) (by omega) D E
    have x1 : Rn_copyFrom_k2_v124 D E = some (none, cqN D 88, E) := e_Rn_copyFrom_k2_v124 D E
    have k3 : Ko [43, 44, 45, 46, 47, 115, 116, 117, 118, 119] D (cmb (cqN D 88) Dl) := by
      intro k hk
      by_cases c : k < 100
      · rw [cmb_x c]
        exact cqN2_ko D k (fun z => hk (by revert z; simp; omega))
      · rw [cmb_m c]
        exact s2 k (fun z => hk (by revert z; simp; omega))
    have hN' : iNow cW cP (cmb (cqN D 88) Dl) := by
      intro p hp
      obtain ⟨c1, c2, c3, c4, c5⟩ := cqN2_at D hp
      rw [cmb_x (k := 43) (by decide), cmb_x (k := 44) (by decide), cmb_x (k := 45) (by decide), cmb_x (k := 46) (by decide), cmb_x (k := 47) (by decide), cmb_m (k := 115) (by decide), cmb_m (k := 116) (by decide), cmb_m (k := 117) (by decide), cmb_m (k := 118) (by decide), cmb_m (k := 119) (by decide), c1, c2, c3, c4, c5, s3 115 (by decide), s3 116 (by decide), s3 117 (by decide), s3 118 (by decide), s3 119 (by decide), if_pos hp, if_pos hp, if_pos hp, if_pos hp, if_pos hp]
      exact q3 p hp
    have hB' := hB.ko k3 (by decide)
    have hY' := hY.ko k3 (by decide)
    have xl := X_lost (E := E) hB'
    have ml := M_lost (E := E) hB' hN' hY'
    have xl' := X_ro (f := Rn_lostOfAll_held_wordTraits) ⟨_, _, _, _, by repeat first | exact okL_nil | refine okL_n ?_ | refine okL_i ?_ | refine okL_r (by decide) ?_, fun _ _ => rfl⟩ xl (D' := cqN D 88) (fun k hk => (cmb_x hk).symm)
    have ml' := M_ro (f := Mo_lostAll (-1)) ⟨_, _, _, _, by repeat first | exact okL_nil | refine okL_n ?_ | refine okL_i ?_ | refine okL_r (by decide) ?_, fun _ _ => rfl⟩ ml (D' := Dl) (fun k hk _ => (cmb_m (by omega)).symm)
    refine Bo.of (v := iS (Rn_lostAt_held_wordTraits_v (cmb (cqN D 88) Dl)) cP) (D1 := cqN D 88) (E1 := E) (D2 := Dl) (E2 := E) ⟨_, _, _, _, by repeat first | exact okL_nil | refine okL_n ?_ | refine okL_i ?_ | refine okL_r (by decide) ?_, fun _ _ => rfl⟩ ⟨_, _, _, _, by repeat first | exact okL_nil | refine okL_n ?_ | refine okL_i ?_ | refine okL_r (by decide) ?_, fun _ _ => rfl⟩ ?_ ?_ ?_
    · rw [e_Hb_take, if_neg (iN (by omega)), if_pos (nlt 4 (by omega) (by omega)), if_neg hb4, if_neg (by rw [iC (by omega), q2]; decide), if_neg hb4, iC (by omega)]
      simp (disch := decide) only [if_true, if_false, sNe, x1, B0s, Nat.reduceSub, eq_self, one_ne, xl', B1s]
    · rw [e_Mo_take, slot_in D E (by omega), B1s, if_neg (by decide), if_neg hb4, if_neg (by rw [iC (by omega), q1, q2]; decide), s1, B0s, ml', B1s]
    · exact ⟨cN, cW, cP, cT, cH, hT.ko k3 (by decide), hF.ko k3 (by decide), hB', hN', hK.ko k3 (by decide), hG.ko k3 (by decide), hY', hL.ko k3 (by decide)⟩

theorem cpK3_ko (D : pD) : Ko [95, 96, 97, 98, 99] D (cpK D 94) := ((((Ko.rf.cpy (by decide) _ _ _ _).cpy (by decide) _ _ _ _).cpy (by decide) _ _ _ _).cpy (by decide) _ _ _ _).cpy (by decide) _ _ _ _
theorem cpK3_at (D : pD) {p : Nat} (hp : p < 24) : cpK D 94 95 0 p = D 43 0 p ∧ cpK D 94 96 0 p = D 44 0 p ∧ cpK D 94 97 0 p = D 45 0 p ∧ cpK D 94 98 0 p = D 46 0 p ∧ cpK D 94 99 0 p = D 47 0 p := by
  unfold cpK
  simp (disch := decide) only [dcN, dcE, Nat.reduceAdd]
  simp only [cpy_at hp, and_self]
theorem cqN3_ko (D : pD) : Ko [43, 44, 45, 46, 47] D (cqN D 94) := ((((Ko.rf.cpy (by decide) _ _ _ _).cpy (by decide) _ _ _ _).cpy (by decide) _ _ _ _).cpy (by decide) _ _ _ _).cpy (by decide) _ _ _ _
theorem cqN3_at (D : pD) {p : Nat} (hp : p < 24) : cqN D 94 43 0 p = D 95 0 p ∧ cqN D 94 44 0 p = D 96 0 p ∧ cqN D 94 45 0 p = D 97 0 p ∧ cqN D 94 46 0 p = D 98 0 p ∧ cqN D 94 47 0 p = D 99 0 p := by
  unfold cqN
  simp (disch := decide) only [dcN, dcE, Nat.reduceAdd]
  simp only [cpy_at hp, and_self]
theorem L_keep3 (D : pD) (E : pDL) (h : Inv D) : Same D E (Hb_keep (nI 3)) (Mo_keep (nI 3)) := by
  have hh := h
  obtain ⟨cN, cW, cP, cT, cH, hT, hF, hB, hN, hK, hG, hY, hL⟩ := h
  obtain ⟨⟨⟨n1, n2, n3, n4, n5⟩, ⟨a1, a2, a3, a4, a5⟩, ⟨b1, b2, b3, b4, b5⟩⟩, hS, hW, hGS, r1, r2, r3, r4, r5, r6⟩ := id hB
  obtain ⟨Ds, s1, s2, s3⟩ := M_store (s := 3) (by omega) D E
  have x1 : Rn_copyFrom_k3 D E = some (none, cpK D 94, E) := e_Rn_copyFrom_k3 D E
  have kx : Ko [95, 96, 97, 98, 99, 49] D (dset (cpK D 94) 49 0 3 1) := ((cpK3_ko D).sub (by decide)).set (by decide) _ _ _
  have km : Ko [125, 126, 127, 128, 129, 130] D (dset Ds 125 0 3 1) := (s2.sub (by decide)).set (by decide) _ _ _
  refine Bo.of (v := iS (Rn_lostAt_held_wordTraits_v D) cP) (D1 := dset (cpK D 94) 49 0 3 1) (E1 := E) (D2 := dset Ds 125 0 3 1) (E2 := E) ⟨_, _, _, _, by repeat first | exact okL_nil | refine okL_n ?_ | refine okL_i ?_ | refine okL_r (by decide) ?_, fun _ _ => rfl⟩ ⟨_, _, _, _, by repeat first | exact okL_nil | refine okL_n ?_ | refine okL_i ?_ | refine okL_r (by decide) ?_, fun _ _ => rfl⟩ ?_ ?_ ?_
  · rw [e_Hb_keep, if_neg (iN (by omega)), if_pos (nlt 4 (by omega) (by omega)), if_neg (iB (by omega) (by omega)), iC (by omega)]
    simp (disch := decide) only [if_true, if_false, sNe, x1, B0s, Nat.reduceSub, eq_self, one_ne]
    rw [if_neg (by have := iB (k := 3) (N := 4) (by omega) (by omega); rw [iC (by omega)] at this; exact this), and_11, X_lost (hB.ko kx (by decide)), B1s, iS_cong (fun p _ => v_ko kx (by decide) p)]
  · rw [e_Mo_keep, slot_in D E (by omega), B1s, if_neg (by decide), s1, B0s, if_neg (iB (by omega) (by omega)), iC (by omega), and_11, M_lost (hB.ko km (by decide)) (hN.ko km (by decide)) (hY.ko km (by decide)), B1s, iS_cong (fun p _ => v_ko km (by decide) p)]
  · have k3 : Ko [95, 96, 97, 98, 99, 49, 125, 126, 127, 128, 129, 130] D (cmb (dset (cpK D 94) 49 0 3 1) (dset Ds 125 0 3 1)) := by
      intro k hk
      by_cases c : k < 100
      · rw [cmb_x c]
        exact kx k (fun z => hk (by revert z; simp; omega))
      · rw [cmb_m c]
        exact km k (fun z => hk (by revert z; simp; omega))
    have e49 : ∀ j, cmb (dset (cpK D 94) 49 0 3 1) (dset Ds 125 0 3 1) 49 0 j = if j = 3 then 1 else D 49 0 j := fun j => by
      rw [cmb_x (by decide), dsA, (cpK3_ko D).c (by decide)]
    have e125 : ∀ j, cmb (dset (cpK D 94) 49 0 3 1) (dset Ds 125 0 3 1) 125 0 j = if j = 3 then 1 else D 125 0 j := fun j => by
      rw [cmb_m (by decide), dsA, s2.c (by decide)]
    have em : ∀ a ∈ [126, 127, 128, 129, 130], ∀ j, cmb (dset (cpK D 94) 49 0 3 1) (dset Ds 125 0 3 1) a 0 j = if 24 * 3 ≤ j ∧ j < 24 * 3 + 24 then D (a - 11) 0 (j - 24 * 3) else D a 0 j := fun a ha j => by
      have h1 : ¬ a < 100 := by revert ha; simp; omega
      have h2 : a ≠ 125 := by revert ha; simp; omega
      rw [cmb_m h1, dsN h2, s3 a ha j]
    have old : ∀ {b' j : Nat}, j ≠ 3 → iSl cW cP b' j D → (∀ k ∈ [b' + 1, b' + 2, b' + 3, b' + 4, b' + 5], k ∉ [95, 96, 97, 98, 99, 49, 125, 126, 127, 128, 129, 130]) → iSl cW cP b' j (cmb (dset (cpK D 94) 49 0 3 1) (dset Ds 125 0 3 1)) := by
      intro b' j hj hs hd
      refine hs.fr2 (k3.at hd) (by rw [e49, if_neg hj]) (by rw [e125, if_neg hj]) (fun k hk p hp => ?_)
      rw [em k hk, if_neg (by omega)]
    refine ⟨cN, cW, cP, cT, cH, hT.ko k3 (by decide), hF.ko k3 (by decide), hB.ko k3 (by decide), hN.ko k3 (by decide), ?_, hG.ko k3 (by decide), hY.ko k3 (by decide), hL.ko k3 (by decide)⟩
    have this : iSl cW cP 94 3 (cmb (dset (cpK D 94) 49 0 3 1) (dset Ds 125 0 3 1)) := by
      refine ⟨by rw [e49, e125, if_pos rfl, if_pos rfl], Or.inr ⟨by rw [e49, if_pos rfl], fun p hp => ?_⟩⟩
      obtain ⟨c1, c2, c3, c4, c5⟩ := cpK3_at D hp
      have cc : 24 * 3 ≤ 24 * 3 + p ∧ 24 * 3 + p < 24 * 3 + 24 := by omega
      dsimp only
      rw [em 126 (by decide), em 127 (by decide), em 128 (by decide), em 129 (by decide), em 130 (by decide), if_pos cc, if_pos cc, if_pos cc, if_pos cc, if_pos cc, Nat.add_sub_cancel_left]
      simp only [Nat.reduceAdd, Nat.reduceSub]
      rw [cmb_x (k := 95) (by decide), cmb_x (k := 96) (by decide), cmb_x (k := 97) (by decide), cmb_x (k := 98) (by decide), cmb_x (k := 99) (by decide), dsN (k' := 95) (by decide), dsN (k' := 96) (by decide), dsN (k' := 97) (by decide), dsN (k' := 98) (by decide), dsN (k' := 99) (by decide), c1, c2, c3, c4, c5]
      exact hN p hp
    exact ⟨old (by decide) hK.1 (by decide), old (by decide) hK.2.1 (by decide), old (by decide) hK.2.2.1 (by decide), this⟩
theorem L_take3 (D : pD) (E : pDL) (h : Inv D) : Same D E (Hb_take (nI 3)) (Mo_take (nI 3)) := by
  have hh := h
  obtain ⟨cN, cW, cP, cT, cH, hT, hF, hB, hN, hK, hG, hY, hL⟩ := h
  obtain ⟨⟨⟨n1, n2, n3, n4, n5⟩, ⟨a1, a2, a3, a4, a5⟩, ⟨b1, b2, b3, b4, b5⟩⟩, hS, hW, hGS, r1, r2, r3, r4, r5, r6⟩ := id hB
  have hb4 : ¬ (nI 3 < 0 ∨ 4 ≤ (nI 3).toNatClampNeg) := iB (by omega) (by omega)
  have hsl := hK.2.2.2
  obtain ⟨q1, q2 | ⟨q2, q3⟩⟩ := hsl
  · refine Same.ro (v := -4) hh ?_ ?_
    · rw [e_Hb_take, if_neg (iN (by omega)), if_pos (nlt 4 (by omega) (by omega)), if_neg hb4, iC (by omega), if_pos q2]
    · rw [e_Mo_take, slot_in D E (by omega), B1s, if_neg (by decide), if_neg hb4, iC (by omega), if_pos (q1.trans q2)]
  · obtain ⟨Dl, s1, s2, s3, -⟩ := M_load (s := 3) (by omega) D E
    have x1 : Rn_copyFrom_k3_v125 D E = some (none, cqN D 94, E) := e_Rn_copyFrom_k3_v125 D E
    have k3 : Ko [43, 44, 45, 46, 47, 115, 116, 117, 118, 119] D (cmb (cqN D 94) Dl) := by
      intro k hk
      by_cases c : k < 100
      · rw [cmb_x c]
        exact cqN3_ko D k (fun z => hk (by revert z; simp; omega))
      · rw [cmb_m c]
        exact s2 k (fun z => hk (by revert z; simp; omega))
    have hN' : iNow cW cP (cmb (cqN D 94) Dl) := by
      intro p hp
      obtain ⟨c1, c2, c3, c4, c5⟩ := cqN3_at D hp
      rw [cmb_x (k := 43) (by decide), cmb_x (k := 44) (by decide), cmb_x (k := 45) (by decide), cmb_x (k := 46) (by decide), cmb_x (k := 47) (by decide), cmb_m (k := 115) (by decide), cmb_m (k := 116) (by decide), cmb_m (k := 117) (by decide), cmb_m (k := 118) (by decide), cmb_m (k := 119) (by decide), c1, c2, c3, c4, c5, s3 115 (by decide), s3 116 (by decide), s3 117 (by decide), s3 118 (by decide), s3 119 (by decide), if_pos hp, if_pos hp, if_pos hp, if_pos hp, if_pos hp]
      exact q3 p hp
    have hB' := hB.ko k3 (by decide)
    have hY' := hY.ko k3 (by decide)
    have xl := X_lost (E := E) hB'
    have ml := M_lost (E := E) hB' hN' hY'
    have xl' := X_ro (f := Rn_lostOfAll_held_wordTraits) ⟨_, _, _, _, by repeat first | exact okL_nil | refine okL_n ?_ | refine okL_i ?_ | refine okL_r (by decide) ?_, fun _ _ => rfl⟩ xl (D' := cqN D 94) (fun k hk => (cmb_x hk).symm)
    have ml' := M_ro (f := Mo_lostAll (-1)) ⟨_, _, _, _, by repeat first | exact okL_nil | refine okL_n ?_ | refine okL_i ?_ | refine okL_r (by decide) ?_, fun _ _ => rfl⟩ ml (D' := Dl) (fun k hk _ => (cmb_m (by omega)).symm)
    refine Bo.of (v := iS (Rn_lostAt_held_wordTraits_v (cmb (cqN D 94) Dl)) cP) (D1 := cqN D 94) (E1 := E) (D2 := Dl) (E2 := E) ⟨_, _, _, _, by repeat first | exact okL_nil | refine okL_n ?_ | refine okL_i ?_ | refine okL_r (by decide) ?_, fun _ _ => rfl⟩ ⟨_, _, _, _, by repeat first | exact okL_nil | refine okL_n ?_ | refine okL_i ?_ | refine okL_r (by decide) ?_, fun _ _ => rfl⟩ ?_ ?_ ?_
    · rw [e_Hb_take, if_neg (iN (by omega)), if_pos (nlt 4 (by omega) (by omega)), if_neg hb4, if_neg (by rw [iC (by omega), q2]; decide), if_neg hb4, iC (by omega)]
      simp (disch := decide) only [if_true, if_false, sNe, x1, B0s, Nat.reduceSub, eq_self, one_ne, xl', B1s]
    · rw [e_Mo_take, slot_in D E (by omega), B1s, if_neg (by decide), if_neg hb4, if_neg (by rw [iC (by omega), q1, q2]; decide), s1, B0s, ml', B1s]
    · exact ⟨cN, cW, cP, cT, cH, hT.ko k3 (by decide), hF.ko k3 (by decide), hB', hN', hK.ko k3 (by decide), hG.ko k3 (by decide), hY', hL.ko k3 (by decide)⟩
/-- keep -/
theorem L_keep (x : Int32) (D : pD) (E : pDL) (h : Inv D) : Same D E (Hb_keep x) (Mo_keep x) := by
  rcases ixc x (n := 4) (by omega) with hx | ⟨i, hi, rfl⟩
  · refine Same.ro (v := -2) h ?_ (by rw [e_Mo_keep, slot_out D E hx, B1s, if_pos rfl])
    rw [e_Hb_keep]
    exact out4 hx
  · have : i = 0 ∨ i = 1 ∨ i = 2 ∨ i = 3 := by omega
    rcases this with rfl | rfl | rfl | rfl
    · exact L_keep0 D E h
    · exact L_keep1 D E h
    · exact L_keep2 D E h
    · exact L_keep3 D E h
/-- take -/
theorem L_take (x : Int32) (D : pD) (E : pDL) (h : Inv D) : Same D E (Hb_take x) (Mo_take x) := by
  rcases ixc x (n := 4) (by omega) with hx | ⟨i, hi, rfl⟩
  · refine Same.ro (v := -2) h ?_ (by rw [e_Mo_take, slot_out D E hx, B1s, if_pos rfl])
    rw [e_Hb_take]
    exact out4 hx
  · have : i = 0 ∨ i = 1 ∨ i = 2 ∨ i = 3 := by omega
    rcases this with rfl | rfl | rfl | rfl
    · exact L_take0 D E h
    · exact L_take1 D E h
    · exact L_take2 D E h
    · exact L_take3 D E h
