/-! CONSTRUCTORS: the world while it is made -/
def zB (n : Nat) (σ : pSt) : Prop := ∀ k, n ≤ k → (∀ j, σ.1 k j = fun _ => 0) ∧ σ.2 k = fun _ => 0
def wB (base : Nat) (adK : Nat → Nat) (un : Nat) (cA : Nat → ClassId) (dg : va_G) (S : List pSh) (σ : pSt) (H : Heap) : Prop := pWo S (adB base adK) un cA dg σ H ∧ H.size = base + offs S.length ∧ zB S.length σ ∧ plS S
theorem zB.up {n n' : Nat} {σ : pSt} (h : zB n σ) (hn : n ≤ n') : zB n' σ := fun k hk => h k (Nat.le_trans hn hk)
theorem zB.set {n k b : Nat} {x : Int32} {σ : pSt} (h : zB n σ) (hk : k < n) : zB n (dset σ.1 k 0 b x, σ.2) := fun i hi => ⟨fun j => by
  rw [← (h i hi).1 j]
  exact dset_ne (fun z => by omega), (h i hi).2⟩
theorem plS.push {S : List pSh} {q : pSh} (h : plS S) (hl : S.length < 143) (h5 : q.1 = 5 → q.2.1 ≤ rws S.length) : plS (S ++ [q]) := by
  intro k r hr h6
  by_cases hk : k < S.length
  · rw [List.getElem?_append_left hk] at hr
    exact h k r hr h6
  · have hlt : k < (S ++ [q]).length := (List.getElem?_eq_some_iff.mp hr).1
    rw [List.length_append, List.length_singleton] at hlt
    have e : k = S.length := by omega
    subst e
    rw [List.getElem?_append_right (Nat.le_refl _), Nat.sub_self] at hr
    cases hr
    exact ⟨hl, h5⟩
section CTOR
variable {p : Program} {l : Launch} {e : Env} {R : Room} {s : State} {m : MethodId} {args : Array Value} {below : List Frame} {meth : Method} {c : Code} {Q : State → Prop} {S : List pSh} {base : Nat} {adK : Nat → Nat} {un : Nat} {cA : Nat → ClassId} {dg : va_G} {H H0 : Heap} {locs : List Loc} {cells slots pc : Nat} {ls : Array Slot} {rest : List Value} {cc : ByteArray} {σ : pSt}
/-- what holds in a constructor's frame -/
def kF (p : Program) (s : State) (m : MethodId) (args : Array Value) (meth : Method) (c : Code) (cc : ByteArray) (own : String) (cA : Nat → ClassId) (dg : va_G) : Prop := p.tables.exec = Jvm.exec ∧ c.code = cc ∧ (∀ w ∈ tg, w.before args s = true) ∧ s.vm.findClass own = some m.cls ∧ va_K dg vwCl (pTys cA) s ∧ meth.name = "<init>"
/-- a new array into a final field -/
theorem w_arrF {own : String} (F : kF p s m args meth c cc own cA dg) {t n k a b i N nk : Nat} {fs : List Nat} {C : String} {T : u_T} {ty : FieldType} (ht : t < 4) (hn : n < 100000) (harr : Cond.arrayClass (newarray.typeOf (atT t)) ∈ tg) (hq : S[k]? = some (a + 7, nk, fs)) (hc : vwCl[a]? = some (C, T, N)) (hbN : b < N) (hlk : Cond.fieldLink own i (T b).1 (T b).2.1 (T b).2.2.1 ∈ tg) (hfin : (T b).2.2.2 = true) (hdecl : (T b).1 = own) (hcd : fs[b]? = some (4 + 2 * S.length)) (hd : parseFieldDescriptor (T b).2.2.1 = some ty) (hnr : ∀ a, narrow ty (.ref a) = .ref a) (hfit : ∀ a, fits ty (.ref a) = true) (hl : S.length < 143) (hr : rws S.length = 0) (hcells : cells + 1 ≤ R.cells) (hslots : slots + n ≤ R.slots) (d0 : decode cc pc = .ok (.newarray (atT t), 2)) (d1 : decode cc (pc + 2) = .ok (.putfield i, 3)) (hW : wB base adK un cA dg S σ H) (hS : va_S (fun q => base ≤ q) H0 H locs)
    (kk : ∀ (H1 : Heap) (locs1 : List Loc), wB base adK un cA dg (S ++ [(t, n, [])]) (dset σ.1 k 0 b 1, σ.2) H1 → va_S (fun q => base ≤ q) H0 H1 locs1 → W p l e R s m args below meth c H1 locs1 (cells + 1) (slots + n) Q (F0 m (pc + 5) ls rest)) : W p l e R s m args below meth c H locs cells slots Q (F0 m pc ls (.int (nI n) :: .ref (adB base adK k 0) :: rest)) := by
  obtain ⟨hx, hb, hts, hown, hK, hin⟩ := F
  obtain ⟨w1, w2, w3, w4⟩ := hW
  have z := w3 S.length (Nat.le_refl _)
  refine w_newa hx hb (aNm_of hK) ht hn (hts _ harr) w1 w2 hl hr (fun j => by rw [z.1 0]) (fun j => by rw [z.2]) hcells hslots d0 hS fun H1 g1 g2 g3 => ?_
  have hkl : k < S.length := (List.getElem?_eq_some_iff.mp hq).1
  have hp : plS (S ++ [(t, n, [])]) := w4.push hl (fun h => by dsimp only at h; omega)
  refine w_putF (σ2 := (dset σ.1 k 0 b 1, σ.2)) (cd := 4 + 2 * S.length) hx hb hts tg_cl hown hK (pAp_B hp) hin (by rw [List.getElem?_append_left hkl]; exact hq) hc hbN hlk hfin hdecl hcd hd (hnr _) (hfit _) (pFv_up _ _) (fun j c hj => pFv_ne _ _ hj) (fun k' j' hne => pCe_dset hne) d1 g1 g3 fun H2 locs2 f1 f2 f3 => ?_
  refine kk H2 locs2 ⟨f1, by rw [f2, g2, List.length_append, List.length_singleton], ?_, hp⟩ f3
  rw [List.length_append, List.length_singleton]
  exact (w3.up (Nat.le_succ _)).set (by omega)
def kPc (base : Nat) (adK : Nat → Nat) (un : Nat) (cA : Nat → ClassId) (dg : va_G) (as : List Value) (S : List pSh) (σ : pSt) : Array Value → State → Prop := va_Pc as (fun U => wB base adK un cA dg S σ U.heap ∧ va_K dg vwCl (pTys cA) U)
def kQc (base : Nat) (adK : Nat → Nat) (un : Nat) (cA : Nat → ClassId) (dg : va_G) (S : List pSh) (σ : pSt) : Array Value → State → Outcome → State → Prop := fun _ st oc t => oc = .returned none ∧ wB base adK un cA dg S σ t.heap ∧ va_F (fun q => base ≤ q) st t
end CTOR
