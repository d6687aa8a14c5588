/-! CONSTRUCTORS: HeronBook -/
def Kp (n : Nat) (D D' : pD) : Prop := ∀ k, 0 < k → k < n → D' k = D k
theorem Kp.tr {n n' : Nat} {D D1 D2 : pD} (h1 : Kp n D D1) (h2 : Kp n' D1 D2) (hn : n ≤ n') : Kp n D D2 := fun k h0 hk => (h2 k h0 (Nat.lt_of_lt_of_le hk hn)).trans (h1 k h0 hk)
theorem KB.p {n : Nat} {D D' : pD} (h : KB n D D') : Kp n D D' := fun k _ hk => h k hk
theorem PhH.mo {D D' : pD} (h : PhH D) (e : Kp 17 D D') : PhH D' := by
  obtain ⟨h1, h2, h3, h4, h5⟩ := h
  have e4 := e 4 (by decide) (by decide)
  have e5 := e 5 (by decide) (by decide)
  have e6 := e 6 (by decide) (by decide)
  have e7 := e 7 (by decide) (by decide)
  have e10 := e 10 (by decide) (by decide)
  refine ⟨by rw [e4]; exact h1, by rw [e5]; exact h2, by rw [e6]; exact h3, fun g hg s hs => ?_, by rw [e10]; exact h5⟩
  rw [e7, e6]
  exact h4 g hg s hs
theorem PhR.mo {D D' : pD} (h : PhR D) (e : Kp 42 D D') : PhR D' := by
  unfold PhR
  rw [e 17 (by decide) (by decide), e 25 (by decide) (by decide)]
  exact h
theorem PhN.mo {D D' : pD} (h : PhN D) (e : Kp 48 D D') : PhN D' := by
  unfold PhN
  rw [e 43 (by decide) (by decide), e 44 (by decide) (by decide), e 45 (by decide) (by decide), e 46 (by decide) (by decide), e 47 (by decide) (by decide)]
  exact h
def XF (D : pD) : Prop := D 1 0 1 = 0 ∧ PhH D ∧ PhR D ∧ PhN D ∧ (∀ i, D 49 0 i = 0) ∧ (∀ i, D 58 0 i = 0) ∧ D 59 0 6 = 0 ∧ D 65 0 11 = 0 ∧ D 65 0 12 = 0 ∧ D 65 0 13 = 0
abbrev shHb : List Nat := [5, 9, 37, 87, 99, 101, 103, 117, 121, 133]
set_option maxHeartbeats 8000000 in
set_option maxRecDepth 100000 in
theorem k_Heron (l : Launch) {base : Nat} {adK : Nat → Nat} {cA : Nat → ClassId} {dg : va_G} {adV : Nat → Nat} : Met l yX9_init (Cond.code yX9_init cX9_init 2 none :: tg) { frames := 16, cells := 124, slots := 6026, locals := 1300 } (kPz base adK (adB base adK 41 0) cA dg adV [.ref (adB base adK 0 0)] (SX 0 1) (fun _ _ _ => 0, E0)) (kQe base adK (adB base adK 41 0) cA dg (Sh.take 100) (fun σ => σ.2 = E0 ∧ XF σ.1)) 124 6026 (fun q => base ≤ q) := by
  refine Met.ofW (cc := cX9_init) (maxL := 2) (ret := none) (by decide) rfl ?_
  intro p e s m args below meth c s₁ B hml hv
  obtain ⟨rfl, hW, hK, hZ⟩ := hv
  have hx := B.exec
  have hb := B.bytes
  have hr := B.returns
  have hts0 := atoms_spec (ws := Cond.code yX9_init cX9_init 2 none :: tg) B.pre
  have hts : ∀ w ∈ tg, w.before _ s = true := fun w h => hts0 w (List.mem_cons_of_mem _ h)
  have hown : s.vm.findClass RX9 = some m.cls := findClass_of_methodNamed B.named
  have hlocks := B.notSynchronized
  have F : kF p s m _ meth c cX9_init RX9 cA dg := ⟨hx, hb, hts, hown, hK, (name_of_methodNamed B.named B.method).1⟩
  have hl := lv_entry ([.ref (adB base adK 0 0)]) (n := 2) (Nat.le_of_ble_eq_true rfl)
  rw [lg_entry_eq]
  generalize (lg_sl ([.ref (adB base adK 0 0)]) ++ List.replicate (2 - (lg_sl ([.ref (adB base adK 0 0)])).length) Slot.unset).toArray = ls at hl ⊢
  have hl : lv_has ls 2 [(0, .ref (adB base adK 0 0))] := hl
  have hS : va_S (fun q => base ≤ q) s.heap s.heap [] := va_S.rf
  refine lv_aload_n hx hb kX9_0 rfl (lv_at hl 0 rfl) ?_
  refine W.objInit hx hb hown (hts _ (hasW_in (i := 105) (by decide +kernel))) (hts _ hw_oi) (hts _ hw_oc) rfl (by rw [hml]; exact hl.1) rfl kX9_1 (Nat.le_of_ble_eq_true rfl) (Nat.le_of_ble_eq_true rfl) ?_
  refine hb_tape F hml hZ hl _ hW hS fun H locs D1 k1 f1 hW hS => ?_
  refine hb_held F hml hZ hl D1 hW hS fun H locs D2 k2 f2 hW hS => ?_
  refine hb_reader F hml hZ hl D2 hW hS fun H locs D3 k3 f3 hW hS => ?_
  have g3 : D3 0 0 1 = 1 := by rw [k3.2, if_neg (by decide), k2.2, if_pos rfl]
  refine hb_now F hml hZ hl D3 g3 hW hS fun H locs D4 k4 f4 hW hS => ?_
  refine hb_kept F hml hZ hl D4 hW hS fun H locs D5 k5 hW hS => ?_
  refine hb_isKept F hml hZ hl D5 hW hS fun H locs D6 k6 f6 hW hS => ?_
  have g6 : D6 0 0 1 = 1 := by rw [k6.2, if_neg (by decide), k5.2, if_neg (by decide), k4.2, if_neg (by decide), g3]
  refine hb_search F hml hZ hl D6 g6 hW hS fun H locs D7 k7 hW hS => ?_
  refine hb_four F hml hZ hl D7 hW hS fun H locs D8 k8 f8 hW hS => ?_
  have g8 : D8 0 0 1 = 1 := by rw [k8.2, if_neg (by decide), k7.2, if_neg (by decide), g6]
  refine hb_years F hml hZ hl D8 g8 hW hS fun H locs D9 k9 f9 hW hS => ?_
  refine hb_laughs F hml hZ hl D9 hW hS fun H locs D10 k10 f10 hW hS => ?_
  have fl : ∀ b, b < 10 → D10 0 0 b = 1 := by
    intro b hb
    rw [k10.2, k9.2, k8.2, k7.2, k6.2, k5.2, k4.2, k3.2, k2.2, k1.2]
    have : b = 0 ∨ b = 1 ∨ b = 2 ∨ b = 3 ∨ b = 4 ∨ b = 5 ∨ b = 6 ∨ b = 7 ∨ b = 8 ∨ b = 9 := by omega
    rcases this with rfl | rfl | rfl | rfl | rfl | rfl | rfl | rfl | rfl | rfl <;> rfl
  refine lv_iconst (v := nI 0) hx hb kX9_119 (by decide) ?_
  refine lv_istore_n (i := 1) (lv' := [(1, .int (nI 0)), (0, .ref (adB base adK 0 0))]) hx hb kX9_120 rfl hl (by decide) rfl fun ls hl => ?_
  refine lv_iload_n hx hb kX9_121 rfl (lv_at hl 0 rfl) ?_
  refine lv_iconst (v := nI 4) hx hb kX9_122 (by decide) ?_
  refine lv_icmp_ge (tgt := 149) hx hb kX9_123 (by decide) (fun h => absurd h (by decide)) (fun _ => ?_)
  refine hb_k0 F hml hZ hl D10 (by exact fl 1 (by decide)) (by exact fl 4 (by decide)) hW hS fun H locs D11 k11 hW hS => ?_
  refine lv_iinc (v := nI 1) (lv' := [(1, .int (nI 1)), (0, .ref (adB base adK 0 0))]) hx hb kX9_143 hl (k := 0) rfl (by decide) (by decide) rfl (fun ls hl => ?_)
  refine lv_goto (tgt := 121) hx hb kX9_146 (by decide) ?_
  refine lv_iload_n hx hb kX9_121 rfl (lv_at hl 0 rfl) ?_
  refine lv_iconst (v := nI 4) hx hb kX9_122 (by decide) ?_
  refine lv_icmp_ge (tgt := 149) hx hb kX9_123 (by decide) (fun h => absurd h (by decide)) (fun _ => ?_)
  refine hb_k1 F hml hZ hl D11 (by rw [k11 0 (by decide)]; exact fl 1 (by decide)) (by rw [k11 0 (by decide)]; exact fl 4 (by decide)) hW hS fun H locs D12 k12 hW hS => ?_
  refine lv_iinc (v := nI 2) (lv' := [(1, .int (nI 2)), (0, .ref (adB base adK 0 0))]) hx hb kX9_143 hl (k := 0) rfl (by decide) (by decide) rfl (fun ls hl => ?_)
  refine lv_goto (tgt := 121) hx hb kX9_146 (by decide) ?_
  refine lv_iload_n hx hb kX9_121 rfl (lv_at hl 0 rfl) ?_
  refine lv_iconst (v := nI 4) hx hb kX9_122 (by decide) ?_
  refine lv_icmp_ge (tgt := 149) hx hb kX9_123 (by decide) (fun h => absurd h (by decide)) (fun _ => ?_)
  refine hb_k2 F hml hZ hl D12 (by rw [k12 0 (by decide)]; rw [k11 0 (by decide)]; exact fl 1 (by decide)) (by rw [k12 0 (by decide)]; rw [k11 0 (by decide)]; exact fl 4 (by decide)) hW hS fun H locs D13 k13 hW hS => ?_
  refine lv_iinc (v := nI 3) (lv' := [(1, .int (nI 3)), (0, .ref (adB base adK 0 0))]) hx hb kX9_143 hl (k := 0) rfl (by decide) (by decide) rfl (fun ls hl => ?_)
  refine lv_goto (tgt := 121) hx hb kX9_146 (by decide) ?_
  refine lv_iload_n hx hb kX9_121 rfl (lv_at hl 0 rfl) ?_
  refine lv_iconst (v := nI 4) hx hb kX9_122 (by decide) ?_
  refine lv_icmp_ge (tgt := 149) hx hb kX9_123 (by decide) (fun h => absurd h (by decide)) (fun _ => ?_)
  refine hb_k3 F hml hZ hl D13 (by rw [k13 0 (by decide)]; rw [k12 0 (by decide)]; rw [k11 0 (by decide)]; exact fl 1 (by decide)) (by rw [k13 0 (by decide)]; rw [k12 0 (by decide)]; rw [k11 0 (by decide)]; exact fl 4 (by decide)) hW hS fun H locs D14 k14 hW hS => ?_
  refine lv_iinc (v := nI 4) (lv' := [(1, .int (nI 4)), (0, .ref (adB base adK 0 0))]) hx hb kX9_143 hl (k := 0) rfl (by decide) (by decide) rfl (fun ls hl => ?_)
  refine lv_goto (tgt := 121) hx hb kX9_146 (by decide) ?_
  refine lv_iload_n hx hb kX9_121 rfl (lv_at hl 0 rfl) ?_
  refine lv_iconst (v := nI 4) hx hb kX9_122 (by decide) ?_
  refine lv_icmp_ge (tgt := 149) hx hb kX9_123 (by decide) (fun _ => ?_) (fun h => absurd (by decide) h)
  have hq : (SX 4 100)[0]? = some (9 + 7, 0, shHb.map opn) := by decide +kernel
  have hW := hW.close (a := 9) (n := 0) (fs := shHb) hq (fun b c hb hc hc2 => by
    dsimp only
    rw [k14 0 (by decide), k13 0 (by decide), k12 0 (by decide), k11 0 (by decide)]
    exact fl b (List.getElem?_eq_some_iff.mp hb).1)
  have eF : (SX 4 100).set 0 (9 + 7, 0, shHb) = Sh.take 100 := by decide +kernel
  rw [eF] at hW
  refine W.vret hx hb (by rw [hr]) (fun t ht _ => ⟨rfl, ⟨(D14, E0), ⟨rfl, ?_⟩, by rw [ht]; exact hW⟩, hS.F ht⟩) hS.2.2 kX9_149 hlocks
  have e10 : Kp 76 D10 D14 := ((k11.p.tr k12.p (by decide)).tr k13.p (by decide)).tr k14.p (by decide)
  have e9 : Kp 65 D9 D14 := Kp.tr k10.1 e10 (by decide)
  have e8 : Kp 59 D8 D14 := Kp.tr k9.1 e9 (by decide)
  have e7 : Kp 57 D7 D14 := Kp.tr k8.1 e8 (by decide)
  have e6 : Kp 50 D6 D14 := Kp.tr k7.1 e7 (by decide)
  have e5 : Kp 49 D5 D14 := Kp.tr k6.1 e6 (by decide)
  have e4 : Kp 48 D4 D14 := Kp.tr k5.1 e5 (by decide)
  have e3 : Kp 42 D3 D14 := Kp.tr k4.1 e4 (by decide)
  have e2 : Kp 17 D2 D14 := Kp.tr k3.1 e3 (by decide)
  have e1 : Kp 3 D1 D14 := Kp.tr k2.1 e2 (by decide)
  show XF D14
  refine ⟨?_, f2.mo e2, f3.mo e3, f4.mo e4, ?_, ?_, ?_, ?_⟩
  · rw [e1 1 (by decide) (by decide)]
    exact f1
  · rw [e6 49 (by decide) (by decide)]
    exact f6
  · rw [e8 58 (by decide) (by decide)]
    exact f8
  · rw [e9 59 (by decide) (by decide)]
    exact f9
  · rw [e10 65 (by decide) (by decide)]
    exact f10
