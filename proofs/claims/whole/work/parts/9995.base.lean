/-! CONSTRUCTORS: HeronBook and Reader, their world -/
def E0 : pDL := fun _ _ => 0
def KB (n : Nat) (D D' : pD) : Prop := ∀ k, k < n → D' k = D k
def Kx (n b0 : Nat) (D D' : pD) : Prop := (∀ k, 0 < k → k < n → D' k = D k) ∧ ∀ b, D' 0 0 b = if b = b0 then 1 else D 0 0 b
theorem KB.tr {n : Nat} {D D1 D2 : pD} (h1 : KB n D D1) (h2 : KB n D1 D2) : KB n D D2 := fun k hk => (h2 k hk).trans (h1 k hk)
theorem KB.rf {n : Nat} {D : pD} : KB n D D := fun _ _ => rfl
theorem KB.lo {n n' : Nat} {D D' : pD} (h : KB n D D') (hn : n' ≤ n) : KB n' D D' := fun k hk => h k (Nat.lt_of_lt_of_le hk hn)
theorem KB.ko {n : Nat} {ks : List Nat} {D D' : pD} (h : Ko ks D D') (hs : ∀ k ∈ ks, n ≤ k) : KB n D D' := fun k hk => h k fun z => Nat.not_le.mpr hk (hs k z)
theorem KB.dl {n k0 : Nat} {D : pD} (l : List (Nat × Int32)) (h : n ≤ k0) : KB n D (dsl D k0 l) := fun k hk => dsl_ne (by omega) l D
theorem KB.set {n k0 j i : Nat} {D : pD} {x : Int32} (h : n ≤ k0) : KB n D (dset D k0 j i x) := fun k hk => funext fun _ => dsN (by omega)
theorem KB.x {n b : Nat} {D D1 : pD} (h : KB n D D1) (hn : 0 < n) : Kx n b D (dset D1 0 0 b 1) := by
  refine ⟨fun k h0 hk => (funext fun j => dsN (by omega)).trans (h k hk), fun i => ?_⟩
  rw [dsA, h 0 hn]
theorem zB.ko {n n' : Nat} {ks : List Nat} {D D' : pD} {E : pDL} (h : zB n (D, E)) (hk : Ko ks D D') (hs : ∀ k ∈ ks, k < n') (hn : n ≤ n') : zB n' (D', E) := fun k hk' => ⟨fun j => by
  have := hk k (fun z => Nat.not_le.mpr (hs k z) hk')
  show D' k j = _
  rw [this]
  exact (h k (Nat.le_trans hn hk')).1 j, (h k (Nat.le_trans hn hk')).2⟩
theorem zB.dl {n n' k0 : Nat} {D : pD} {E : pDL} (h : zB n (D, E)) (l : List (Nat × Int32)) (h0 : k0 < n') (hn : n ≤ n') : zB n' (dsl D k0 l, E) := fun k hk' => ⟨fun j => by
  have e : (dsl D k0 l, E).1 k = D k := dsl_ne (k := k0) (k' := k) (by omega) l D
  rw [e]
  exact (h k (Nat.le_trans hn hk')).1 j, (h k (Nat.le_trans hn hk')).2⟩
theorem kPc_c {base : Nat} {adK : Nat → Nat} {un : Nat} {cA : Nat → ClassId} {dg : va_G} {S : List pSh} {σ : pSt} (U : State) (g : JFrame) (mk : MethodId) (a : Array Value) (h : wB base adK un cA dg S σ U.heap ∧ va_K dg vwCl (pTys cA) U) : wB base adK un cA dg S σ (U.calling g mk a).heap ∧ va_K dg vwCl (pTys cA) (U.calling g mk a) := ⟨h.1, va_K.moved (u := U) (U := U.calling g mk a) (Vm.Alike.refl U.vm) h.2⟩
theorem kPz_c {base : Nat} {adK : Nat → Nat} {un : Nat} {cA : Nat → ClassId} {dg : va_G} {adV : Nat → Nat} {S : List pSh} {σ : pSt} (U : State) (g : JFrame) (mk : MethodId) (a : Array Value) (h : wB base adK un cA dg S σ U.heap ∧ va_K dg vwCl (pTys cA) U ∧ kZ base adK adV U) : wB base adK un cA dg S σ (U.calling g mk a).heap ∧ va_K dg vwCl (pTys cA) (U.calling g mk a) ∧ kZ base adK adV (U.calling g mk a) := ⟨h.1, va_K.moved (u := U) (U := U.calling g mk a) (Vm.Alike.refl U.vm) h.2.1, h.2.2.calling U g mk a⟩
theorem pFv_u {ad : Nat → Nat → Nat} {un : Nat} {f : Nat → Int32} {g : Nat → Int64} {b r : Nat} (h : f b = 2) : pFv ad un f g b (4 + 2 * r) = .ref un := by
  rw [show 4 + 2 * r = (1 + 2 * r) + 3 by omega]
  show pFa ad un (pFr (1 + 2 * r)) (f b) = _
  rw [pFr_o, h]
  rfl
theorem hdX0 : yX0_init.cls ≠ "java/lang/invoke/MethodHandle" ∧ yX0_init.cls ≠ "java/lang/invoke/VarHandle" ∧ (parseMethodDescriptor yX0_init.desc).map (fun d => d.parameters.length) = some 0 := by decide +kernel
theorem hdX1 : yX1_init.cls ≠ "java/lang/invoke/MethodHandle" ∧ yX1_init.cls ≠ "java/lang/invoke/VarHandle" ∧ (parseMethodDescriptor yX1_init.desc).map (fun d => d.parameters.length) = some 0 := by decide +kernel
theorem hdX2 : yX2_init.cls ≠ "java/lang/invoke/MethodHandle" ∧ yX2_init.cls ≠ "java/lang/invoke/VarHandle" ∧ (parseMethodDescriptor yX2_init.desc).map (fun d => d.parameters.length) = some 0 := by decide +kernel
theorem hdX3 : yX3_init.cls ≠ "java/lang/invoke/MethodHandle" ∧ yX3_init.cls ≠ "java/lang/invoke/VarHandle" ∧ (parseMethodDescriptor yX3_init.desc).map (fun d => d.parameters.length) = some 0 := by decide +kernel
theorem hdX4 : yX4_init.cls ≠ "java/lang/invoke/MethodHandle" ∧ yX4_init.cls ≠ "java/lang/invoke/VarHandle" ∧ (parseMethodDescriptor yX4_init.desc).map (fun d => d.parameters.length) = some 0 := by decide +kernel
theorem hdX5 : yX5_init.cls ≠ "java/lang/invoke/MethodHandle" ∧ yX5_init.cls ≠ "java/lang/invoke/VarHandle" ∧ (parseMethodDescriptor yX5_init.desc).map (fun d => d.parameters.length) = some 1 := by decide +kernel
theorem hdX6 : yX6_init.cls ≠ "java/lang/invoke/MethodHandle" ∧ yX6_init.cls ≠ "java/lang/invoke/VarHandle" ∧ (parseMethodDescriptor yX6_init.desc).map (fun d => d.parameters.length) = some 1 := by decide +kernel
theorem hdX7 : yX7_init.cls ≠ "java/lang/invoke/MethodHandle" ∧ yX7_init.cls ≠ "java/lang/invoke/VarHandle" ∧ (parseMethodDescriptor yX7_init.desc).map (fun d => d.parameters.length) = some 0 := by decide +kernel
theorem hdX8 : yX8_init.cls ≠ "java/lang/invoke/MethodHandle" ∧ yX8_init.cls ≠ "java/lang/invoke/VarHandle" ∧ (parseMethodDescriptor yX8_init.desc).map (fun d => d.parameters.length) = some 1 := by decide +kernel
theorem hdX9 : yX9_init.cls ≠ "java/lang/invoke/MethodHandle" ∧ yX9_init.cls ≠ "java/lang/invoke/VarHandle" ∧ (parseMethodDescriptor yX9_init.desc).map (fun d => d.parameters.length) = some 0 := by decide +kernel
theorem hdX10 : yX10_init.cls ≠ "java/lang/invoke/MethodHandle" ∧ yX10_init.cls ≠ "java/lang/invoke/VarHandle" ∧ (parseMethodDescriptor yX10_init.desc).map (fun d => d.parameters.length) = some 0 := by decide +kernel
def xO : pSh := (16, 0, [6, 10, 38, 88, 100, 102, 104, 118, 122, 134])
def kpL (i : Nat) : List Nat := [77, 83, 89, 95].take i ++ List.replicate (4 - i) 0
def SX (i n : Nat) : List pSh := ((Sh.take n).set 0 xO).set 48 (4, 4, kpL i)
def rO : pSh := (11, 0, [40, 68, 74, 80, 0, 0, 8, 0, 0, 0, 2, 0, 0, 0])
def SR (n : Nat) : List pSh := (SX 0 n).set 17 rO
section NEWA
variable {p : Program} {l : Launch} {e : Env} {R : Room} {s : State} {m : MethodId} {args : Array Value} {below : List Frame} {meth : Method} {c : Code} {Q : State → Prop} {S : List pSh} {base : Nat} {adK : Nat → Nat} {un : Nat} {cA : Nat → ClassId} {dg : va_G} {H H0 : Heap} {locs : List Loc} {cells slots pc : Nat} {ls : Array Slot} {rest : List Value} {cc : ByteArray} {σ : pSt}
theorem w_newaB {own : String} (G : kG p s m args c cc own cA dg) {t n : Nat} (ht : t < 4) (hn : n < 100000) (harr : Cond.arrayClass (newarray.typeOf (atT t)) ∈ tg) (hl : S.length < 143) (hr : rws S.length = 0) (hcells : cells + 1 ≤ R.cells) (hslots : slots + n ≤ R.slots) (hdg : decode cc pc = .ok (.newarray (atT t), 2)) (hW : wB base adK un cA dg S σ H) (hS : va_S (fun q => base ≤ q) H0 H locs)
    (kk : ∀ H1 : Heap, wB base adK un cA dg (S ++ [(t, n, [])]) σ H1 → va_S (fun q => base ≤ q) H0 H1 locs → W p l e R s m args below meth c H1 locs (cells + 1) (slots + n) Q (F0 m (pc + 2) ls (.ref (adB base adK S.length 0) :: rest))) : W p l e R s m args below meth c H locs cells slots Q (F0 m pc ls (.int (nI n) :: rest)) := by
  obtain ⟨hx, hb, hts, hown, hK⟩ := G
  obtain ⟨w1, w2, w3, w4⟩ := hW
  have z := w3 S.length (Nat.le_refl _)
  refine w_newa hx hb (aNm_of hK) ht hn (hts _ harr) w1 w2 hl hr (fun j => by rw [z.1 0]) (fun j => by rw [z.2]) hcells hslots hdg hS fun H1 g1 g2 g3 => ?_
  refine kk H1 ⟨g1, by rw [g2, List.length_append, List.length_singleton], ?_, w4.push hl (fun h => by dsimp only at h; omega)⟩ g3
  rw [List.length_append, List.length_singleton]
  exact w3.up (Nat.le_succ _)
end NEWA
