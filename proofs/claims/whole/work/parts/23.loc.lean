section PG3
variable {p : Program} {l : Launch} {e : Env} {R : Room} {s : State} {m : MethodId} {args : Array Value} {below : List Frame} {meth : Method} {c : Code} {Q : State → Prop} {S : List pSh} {ad : Nat → Nat → Nat} {un : Nat} {cA : Nat → ClassId} {dg : va_G} {A : Nat → Prop} {H0 : Heap} {nL : Nat}
variable {cc : ByteArray} {pc : Nat} {L : pL} {st r : List pV} {σ : pSt}

theorem g_copy (hx : p.tables.exec = Jvm.exec) (hb : c.code = cc) (hml : c.maxLocals = nL) {own : String} {index : Nat} (hown : s.vm.findClass own = some m.cls) (hlink : (Cond.methodLink own index arraycopyName).before args s = true) (hnat : (Cond.native arraycopyName).before args s = true) (hstat : (Cond.static arraycopyName).before args s = true) (hini : (Cond.initialized "java/lang/System").before args s = true) (hK : va_K dg vwCl (pTys cA) s) (hJ : pAp S ad un cA A) {s0 d n0 n1 : Nat} {sp dp n : Int32} (hs : pNi S ad un cA s0 0 0 n0) (hd : pNi S ad un cA d 0 0 n1) (h1 : ¬ sp < 0) (h2 : ¬ dp < 0) (h3 : ¬ n < 0) (h4 : sp.toNatClampNeg + n.toNatClampNeg ≤ n0) (h5 : dp.toNatClampNeg + n.toNatClampNeg ≤ n1) (hframes : 1 ≤ R.frames) (hlocals : 8 + (nativeFrameWords "java/lang/System" "arraycopy" 5 + 11) ≤ R.locals) (hrm : pRm 8 r = true) (hdg : decode cc pc = .ok (.invokestatic index, 3)) (kk : pG p l e R s m args below meth c Q S ad un cA dg A H0 nL (pc + 3) L r (dcpy σ.1 s0 sp.toNatClampNeg d dp.toNatClampNeg n.toNatClampNeg, σ.2)) : pG p l e R s m args below meth c Q S ad un cA dg A H0 nL pc L (.inl n :: .inl dp :: .inr (.inr (d, 0)) :: .inl sp :: .inr (.inr (s0, 0)) :: r) σ := by
  intro H locs ls hW hS hL
  have hrs := Rm_sum (ad := ad) hrm
  have nn : ∀ z : Int32, ¬ z < 0 → z.toInt = (z.toNatClampNeg : Int) := by
    intro z hz
    have hz0 : (0 : Int) ≤ z.toInt := by
      have := Int32.not_lt.mp hz
      simpa using Int32.le_iff_toInt_le.mp this
    show z.toInt = ((z.toInt.toNat : Nat) : Int)
    omega
  intro T hT X
  have hc0 : H[ad s0 0]? = some (vp_cell (cA 0) (n0, .inl (σ.1 s0 0))) := hW s0 0 _ (hs.ce σ)
  have hc1 : H[ad d 0]? = some (vp_cell (cA 0) (n1, .inl (σ.1 d 0))) := hW d 0 _ (hd.ce σ)
  obtain ⟨-, k0, hk0, cm0, hkk0⟩ := (hK.2 0 _ rfl).1 n0 (fun j => .int (σ.1 s0 0 j))
  obtain ⟨-, k1, hk1, cm1, hkk1⟩ := (hK.2 0 _ rfl).1 n1 (fun j => .int (σ.1 d 0 j))
  obtain ⟨vm', X', step⟩ := X.arraycopy hx hown hlink hnat hstat hini (src := ad s0 0) (dst := ad d 0) (cs := vp_cell (cA 0) (n0, .inl (σ.1 s0 0))) (cd := vp_cell (cA 0) (n1, .inl (σ.1 d 0))) (srcPos := sp) (destPos := dp) (n := n) (by rw [hT]; exact hc0) (by rw [hT]; exact hc1)
    (fun _ h => by cases h) (fun _ h => by cases h) (fun h => by cases h) (fun h => by cases h) hk0 hk1 hkk0 hkk1 (by simp [refKind]) h1 h2 h3
    (by rw [nn sp h1, nn n h3]; show ¬ _ > ((arrV (cA 0) n0 (fun j => .int (σ.1 s0 0 j))).slots.size : Int); rw [arrV_size]; omega)
    (by rw [nn dp h2, nn n h3]; show ¬ _ > ((arrV (cA 0) n1 (fun j => .int (σ.1 d 0 j))).slots.size : Int); rw [arrV_size]; omega)
    (fun vm₁ _ i hi => by
      have e1 : (vp_cell (cA 0) (n0, .inl (σ.1 s0 0))).slots.getD (sp.toNatClampNeg + i) .null = .int (σ.1 s0 0 (sp.toNatClampNeg + i)) := by
        show (arrV (cA 0) n0 (fun j => .int (σ.1 s0 0 j))).slots.getD _ _ = _
        rw [Array.getD_eq_getD_getElem?, arrV_read _ _ (by omega)]
        rfl
      refine ⟨?_, ?_⟩
      · rw [e1]; rfl
      · rw [e1]; exact trivial)
    (g := F0 m pc ls ((.inl n :: .inl dp :: .inr (.inr (d, 0)) :: .inl sp :: .inr (.inr (s0, 0)) :: r : List pV).map (rv ad))) rfl (by rw [hml]; exact hL.1) (rest := r.map (rv ad)) rfl (by rw [hb]; exact hdg) hframes (by show 2 * 0 + _ + _ ≤ _; omega)
  have e1 : copied (vp_cell (cA 0) (n0, .inl (σ.1 s0 0))) (vp_cell (cA 0) (n1, .inl (σ.1 d 0))) sp dp n = vp_cell (cA 0) (n1, .inl (va_cpy (σ.1 s0 0) (σ.1 d 0) sp.toNatClampNeg dp.toNatClampNeg n.toNatClampNeg)) := va_copied (fun z => .int z) (cA 0) (cA 0) (σ.1 s0 0) (σ.1 d 0) h4
  rw [e1] at X' step
  have hl : ad d 0 < H.size := (Array.getElem?_eq_some_iff.mp hc1).1
  have hheap : ((T.setVm vm').setCell (ad d 0) (vp_cell (cA 0) (n1, .inl (va_cpy (σ.1 s0 0) (σ.1 d 0) sp.toNatClampNeg dp.toNatClampNeg n.toNatClampNeg)))).heap = H.setIfInBounds (ad d 0) (vp_cell (cA 0) (n1, .inl (va_cpy (σ.1 s0 0) (σ.1 d 0) sp.toNatClampNeg dp.toNatClampNeg n.toNatClampNeg))) := by rw [← hT]; rfl
  have oq : ∀ q : Nat, q ≠ ad d 0 → (H.setIfInBounds (ad d 0) (vp_cell (cA 0) (n1, .inl (va_cpy (σ.1 s0 0) (σ.1 d 0) sp.toNatClampNeg dp.toNatClampNeg n.toNatClampNeg))))[q]? = H[q]? := fun q hq => by simp [Array.getElem?_setIfInBounds, Ne.symm hq]
  have hAd := hJ.2 σ d 0 _ (hd.ce σ)
  have hW' : pWo S ad un cA dg (dcpy σ.1 s0 sp.toNatClampNeg d dp.toNatClampNeg n.toNatClampNeg, σ.2) (H.setIfInBounds (ad d 0) (vp_cell (cA 0) (n1, .inl (va_cpy (σ.1 s0 0) (σ.1 d 0) sp.toNatClampNeg dp.toNatClampNeg n.toNatClampNeg)))) := by
    refine hW.put hJ (hd.ce σ) (fun e' h' => ?_) (fun k' j' hne e' h' => by rw [pCe_dcpy hne] at h'; exact h') oq
    rw [hd.ce] at h'
    cases h'
    show (H.setIfInBounds (ad d 0) _)[ad d 0]? = some (vp_cell (cA 0) (n1, .inl (dcpy σ.1 s0 _ d _ _ d 0)))
    rw [dcpy_eq]
    simp [Array.getElem?_setIfInBounds, hl]
  obtain ⟨t, a1, b1⟩ := kk _ _ ls hW' ⟨by simp; exact hS.1, fun q g1 g2 => by
      rw [oq q (fun e => g2 (by rw [e]; exact hAd))]
      exact hS.2.1 q g1 g2, fun q hq => by
      rcases List.mem_append.mp hq with h | h
      · exact hS.2.2 q h
      · obtain ⟨z, -, hz⟩ := List.mem_map.mp h
        rw [← hz]
        exact hAd⟩ hL _ hheap X'
  exact ⟨t, step t a1, b1⟩
theorem g_iload_n (hx : p.tables.exec = Jvm.exec) (hb : c.code = cc) {n : Fin 4} {a : Nat} {x : Int32} (hdg : decode cc pc = .ok (.iload_n n, 1)) (hi : (n : Nat) = a) (hl : L[a]? = some (some (.inl x))) (kk : pG p l e R s m args below meth c Q S ad un cA dg A H0 nL (pc + 1) L (.inl x :: st) σ) : pG p l e R s m args below meth c Q S ad un cA dg A H0 nL pc L st σ := fun H locs ls hW hS hL => lv_iload_n hx hb hdg hi (hL.2.2 a _ hl rfl) (kk H locs ls hW hS hL)
theorem g_iload (hx : p.tables.exec = Jvm.exec) (hb : c.code = cc) {a : Nat} {x : Int32} (hdg : decode cc pc = .ok (.iload a, 2)) (hl : L[a]? = some (some (.inl x))) (kk : pG p l e R s m args below meth c Q S ad un cA dg A H0 nL (pc + 2) L (.inl x :: st) σ) : pG p l e R s m args below meth c Q S ad un cA dg A H0 nL pc L st σ := fun H locs ls hW hS hL => lv_iload hx hb hdg (hL.2.2 a _ hl rfl) (kk H locs ls hW hS hL)
theorem g_aload_n (hx : p.tables.exec = Jvm.exec) (hb : c.code = cc) {n : Fin 4} {a k j : Nat} (hdg : decode cc pc = .ok (.aload_n n, 1)) (hi : (n : Nat) = a) (hl : L[a]? = some (some (.inr (.inr (k, j))))) (kk : pG p l e R s m args below meth c Q S ad un cA dg A H0 nL (pc + 1) L (.inr (.inr (k, j)) :: st) σ) : pG p l e R s m args below meth c Q S ad un cA dg A H0 nL pc L st σ := fun H locs ls hW hS hL => lv_aload_n hx hb hdg hi (hL.2.2 a _ hl rfl) (kk H locs ls hW hS hL)
theorem g_aload (hx : p.tables.exec = Jvm.exec) (hb : c.code = cc) {a k j : Nat} (hdg : decode cc pc = .ok (.aload a, 2)) (hl : L[a]? = some (some (.inr (.inr (k, j))))) (kk : pG p l e R s m args below meth c Q S ad un cA dg A H0 nL (pc + 2) L (.inr (.inr (k, j)) :: st) σ) : pG p l e R s m args below meth c Q S ad un cA dg A H0 nL pc L st σ := fun H locs ls hW hS hL => lv_aload hx hb hdg (hL.2.2 a _ hl rfl) (kk H locs ls hW hS hL)
theorem g_istore_n (hx : p.tables.exec = Jvm.exec) (hb : c.code = cc) {n : Fin 4} {a : Nat} {x : Int32} (hdg : decode cc pc = .ok (.istore_n n, 1)) (hi : (n : Nat) = a) (ha : a < nL) (kk : pG p l e R s m args below meth c Q S ad un cA dg A H0 nL (pc + 1) (L.set a (some (.inl x))) r σ) : pG p l e R s m args below meth c Q S ad un cA dg A H0 nL pc L (.inl x :: r) σ := fun H locs ls hW hS hL => lv_istore_n hx hb hdg hi hL.has ha rfl (fun ls2 h2 => kk H locs ls2 hW hS (pLv.sto h2))
theorem g_istore (hx : p.tables.exec = Jvm.exec) (hb : c.code = cc) {a : Nat} {x : Int32} (hdg : decode cc pc = .ok (.istore a, 2)) (ha : a < nL) (kk : pG p l e R s m args below meth c Q S ad un cA dg A H0 nL (pc + 2) (L.set a (some (.inl x))) r σ) : pG p l e R s m args below meth c Q S ad un cA dg A H0 nL pc L (.inl x :: r) σ := fun H locs ls hW hS hL => lv_istore hx hb hdg hL.has ha rfl (fun ls2 h2 => kk H locs ls2 hW hS (pLv.sto h2))
theorem g_astore_n (hx : p.tables.exec = Jvm.exec) (hb : c.code = cc) {n : Fin 4} {a : Nat} {k j : Nat} (hdg : decode cc pc = .ok (.astore_n n, 1)) (hi : (n : Nat) = a) (ha : a < nL) (kk : pG p l e R s m args below meth c Q S ad un cA dg A H0 nL (pc + 1) (L.set a (some (.inr (.inr (k, j))))) r σ) : pG p l e R s m args below meth c Q S ad un cA dg A H0 nL pc L (.inr (.inr (k, j)) :: r) σ := fun H locs ls hW hS hL => lv_astore_n hx hb hdg hi hL.has ha rfl (fun ls2 h2 => kk H locs ls2 hW hS (pLv.sto h2))
theorem g_astore (hx : p.tables.exec = Jvm.exec) (hb : c.code = cc) {a : Nat} {k j : Nat} (hdg : decode cc pc = .ok (.astore a, 2)) (ha : a < nL) (kk : pG p l e R s m args below meth c Q S ad un cA dg A H0 nL (pc + 2) (L.set a (some (.inr (.inr (k, j))))) r σ) : pG p l e R s m args below meth c Q S ad un cA dg A H0 nL pc L (.inr (.inr (k, j)) :: r) σ := fun H locs ls hW hS hL => lv_astore hx hb hdg hL.has ha rfl (fun ls2 h2 => kk H locs ls2 hW hS (pLv.sto h2))
theorem g_iinc (hx : p.tables.exec = Jvm.exec) (hb : c.code = cc) {a : Nat} {q : Int} {x z : Int32} (hdg : decode cc pc = .ok (.iinc a q, 3)) (hz : Int32.ofInt q = z) (ha : a < nL) (hl : L[a]? = some (some (.inl x))) (kk : pG p l e R s m args below meth c Q S ad un cA dg A H0 nL (pc + 3) (L.set a (some (.inl (x + z)))) st σ) : pG p l e R s m args below meth c Q S ad un cA dg A H0 nL pc L st σ := fun H locs ls hW hS hL => by
  obtain ⟨k, hk⟩ := List.getElem?_of_mem (pAs_mem (ad := ad) hl rfl)
  exact lv_iinc (v := x + z) hx hb hdg hL.has (k := k) hk (by rw [hz]) ha rfl (fun ls2 h2 => kk H locs ls2 hW hS (pLv.sto (v := .inl (x + z)) h2))
end PG3
