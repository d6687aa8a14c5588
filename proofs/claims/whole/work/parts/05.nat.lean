section PN
variable {ρ τ : Type}
set_option maxHeartbeats 4000000 in
theorem sI_nat (S : List pSh) (T : pTx) (d pc : Nat) (x : pX) (L : pL) (st : List pV) (σ : pSt) (K : Nat → pL → List pV → pSt → Option ρ) (C : Nat → Nat → List pV → Nat → Nat → pL → List pV → Option ρ) (Rr : Option pV → Option ρ) (f : ρ → Option τ) :
    (sI S T d pc x L st σ K C Rr).bind f = sI S T d pc x L st σ (fun q1 q2 q3 q4 => (K q1 q2 q3 q4).bind f) (fun q1 q2 q3 q4 q5 q6 q7 => (C q1 q2 q3 q4 q5 q6 q7).bind f) (fun v => (Rr v).bind f) := by
  obtain ⟨ins, a, b, c, w, g, z⟩ := x
  cases ins with
  | ifCond cd o => cases cd <;> simp only [sI, nb_I1, nb_ite]
  | if_icmp cd o => cases cd <;> simp only [sI, nb_I2, nb_ite]
  | ldc i =>
    unfold sI
    dsimp only
    split
    · rfl
    · split <;> rfl
  | iaload =>
    simp only [sI, nb_RI, nb_Arr]
    congr 1; funext k j i r; congr 1; funext t n
    split
    · exact nb_In _ _ _ _
    · rfl
  | baload =>
    simp only [sI, nb_RI, nb_Arr]
    congr 1; funext k j i r; congr 1; funext t n
    split
    · exact nb_In _ _ _ _
    · exact nb_In _ _ _ _
    · rfl
  | laload =>
    simp only [sI, nb_RI, nb_Arr]
    congr 1; funext k j i r; congr 1; funext t n
    split
    · exact nb_In _ _ _ _
    · rfl
  | aaload =>
    simp only [sI, nb_RI]
    congr 1; funext k j i r
    split
    · rw [nb_In]; simp only [nb_pick]
    · exact nb_In _ _ _ _
    · rfl
  | iastore =>
    simp only [sI, nb_RII, nb_Arr]
    congr 1; funext k j i x r; congr 1; funext t n
    split
    · exact nb_In _ _ _ _
    · rfl
  | bastore =>
    simp only [sI, nb_RII, nb_Arr]
    congr 1; funext k j i x r; congr 1; funext t n
    split
    · exact nb_In _ _ _ _
    · exact nb_In _ _ _ _
    · rfl
  | lastore =>
    simp only [sI, nb_RIL, nb_Arr]
    congr 1; funext k j i x r; congr 1; funext t n
    split
    · exact nb_In _ _ _ _
    · rfl
  | invokevirtual i =>
    unfold sI
    dsimp only
    split
    · rw [nb_R1]; congr 1; funext k j r; rw [nb_Txt]; congr 1; funext t
      split <;> rfl
    · rw [nb_RI]; congr 1; funext k j i r; rw [nb_Txt]; congr 1; funext t
      split
      · exact nb_In _ _ _ _
      · rfl
    · simp only [nb_Tk, nb_Recv, nb_Dep]
  | invokestatic i =>
    unfold sI
    dsimp only
    split
    · rw [nb_Copy]; congr 1; funext r s
      split <;> rfl
    · rw [nb_I2]; congr 1; funext x y r
      split <;> rfl
    · rw [nb_I2]; congr 1; funext x y r
      split <;> rfl
    · simp only [nb_Tk, nb_Dep]
  | _ => first | rfl | (simp only [sI, nb_V1, nb_V2, nb_VR, nb_E0, nb_E1, nb_ER, nb_C1, nb_Put, nb_Ret, nb_I1, nb_I2, nb_L2, nb_R1, nb_RI, nb_RII, nb_RIL, nb_Arr, nb_LdI, nb_LdR, nb_Sto, nb_SwT, nb_SwL, nb_Get, nb_ite, Option.bind_none]; done)
/-- what one instruction comes to -/
abbrev pO : Type := (Nat × pL × List pV × pSt) ⊕ (Nat × Nat × List pV × Nat × Nat × pL × List pV) ⊕ Option pV
def sO (S : List pSh) (T : pTx) (d pc : Nat) (x : pX) (L : pL) (st : List pV) (σ : pSt) : Option pO := sI S T d pc x L st σ (fun q1 q2 q3 q4 => some (.inl (q1, q2, q3, q4))) (fun q1 q2 q3 q4 q5 q6 q7 => some (.inr (.inl (q1, q2, q3, q4, q5, q6, q7)))) (fun v => some (.inr (.inr v)))
theorem sI_sO (S : List pSh) (T : pTx) (d pc : Nat) (x : pX) (L : pL) (st : List pV) (σ : pSt) (K : Nat → pL → List pV → pSt → Option ρ) (C : Nat → Nat → List pV → Nat → Nat → pL → List pV → Option ρ) (Rr : Option pV → Option ρ) :
    sI S T d pc x L st σ K C Rr = (sO S T d pc x L st σ).bind fun o => match o with
      | .inl q => K q.1 q.2.1 q.2.2.1 q.2.2.2
      | .inr (.inl q) => C q.1 q.2.1 q.2.2.1 q.2.2.2.1 q.2.2.2.2.1 q.2.2.2.2.2.1 q.2.2.2.2.2.2
      | .inr (.inr v) => Rr v := by
  unfold sO
  rw [sI_nat]
  rfl
end PN
