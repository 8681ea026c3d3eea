theorem e_ldi.mono {lv : e_Lv} {i : Nat} {kk kk' : Int32 → Prop} (h : ∀ x, kk x → kk' x) : e_ldi lv i kk → e_ldi lv i kk' := by
  unfold e_ldi; intro q; split at q
  · exact h _ q
  · exact q.elim
theorem e_ldl.mono {lv : e_Lv} {i : Nat} {kk kk' : Int64 → Prop} (h : ∀ x, kk x → kk' x) : e_ldl lv i kk → e_ldl lv i kk' := by
  unfold e_ldl; intro q; split at q
  · exact h _ q
  · exact q.elim
theorem e_lda.mono {lv : e_Lv} {i : Nat} {kk kk' : Value → Prop} (h : ∀ x, kk x → kk' x) : e_lda lv i kk → e_lda lv i kk' := by
  unfold e_lda; intro q; split at q
  · exact h _ q
  · exact h _ q
  · exact q.elim
theorem e_sto.mono {lv : e_Lv} {i : Nat} {v : Value} {kk kk' : e_Lv → Prop} (h : ∀ x, kk x → kk' x) : e_sto lv i v kk → e_sto lv i v kk' := fun q => ⟨q.1, h _ q.2⟩
theorem e_sto2.mono {lv : e_Lv} {i : Nat} {v : Value} {kk kk' : e_Lv → Prop} (h : ∀ x, kk x → kk' x) : e_sto2 lv i v kk → e_sto2 lv i v kk' := fun q => ⟨q.1, h _ q.2⟩
theorem e_p1i.mono {st : List Value} {kk kk' : Int32 → List Value → Prop} (h : ∀ x r, kk x r → kk' x r) : e_p1i st kk → e_p1i st kk' := by
  unfold e_p1i; intro q; split at q
  · exact h _ _ q
  · exact q.elim
theorem e_p1l.mono {st : List Value} {kk kk' : Int64 → List Value → Prop} (h : ∀ x r, kk x r → kk' x r) : e_p1l st kk → e_p1l st kk' := by
  unfold e_p1l; intro q; split at q
  · exact h _ _ q
  · exact q.elim
theorem e_p1a.mono {st : List Value} {kk kk' : Value → List Value → Prop} (h : ∀ x r, kk x r → kk' x r) : e_p1a st kk → e_p1a st kk' := by
  unfold e_p1a; intro q; split at q
  · exact h _ _ q
  · exact h _ _ q
  · exact q.elim
theorem e_p1r.mono {st : List Value} {kk kk' : Nat → List Value → Prop} (h : ∀ x r, kk x r → kk' x r) : e_p1r st kk → e_p1r st kk' := by
  unfold e_p1r; intro q; split at q
  · exact h _ _ q
  · exact q.elim
theorem e_p1.mono {st : List Value} {kk kk' : Value → List Value → Prop} (h : ∀ x r, kk x r → kk' x r) : e_p1 st kk → e_p1 st kk' := by
  unfold e_p1; intro q; split at q
  · exact ⟨q.1, h _ _ q.2⟩
  · exact q.elim
theorem e_p2.mono {st : List Value} {kk kk' : Value → Nat → List Value → Prop} (h : ∀ v x r, kk v x r → kk' v x r) : e_p2 st kk → e_p2 st kk' := by
  unfold e_p2; intro q; split at q
  · exact h _ _ _ q
  · exact q.elim
theorem e_nul.mono {st : List Value} {a a' b b' : List Value → Prop} (h : ∀ r, a r → a' r) (h2 : ∀ r, b r → b' r) : e_nul st a b → e_nul st a' b' := by
  unfold e_nul; intro q; split at q
  · exact h _ q
  · exact h2 _ q
  · exact q.elim
theorem e_gO.mono {h : e_Hp} {a ci : Nat} {kk kk' : (Nat → Value) → Prop} (hh : ∀ V, kk V → kk' V) : e_gO h a ci kk → e_gO h a ci kk' := by
  unfold e_gO; intro q; split at q
  · exact ⟨q.1, hh _ q.2⟩
  · exact q.elim
theorem e_gI.mono {h : e_Hp} {a t : Nat} {kk kk' : Nat → (Nat → Int32) → Prop} (hh : ∀ n f, kk n f → kk' n f) : e_gI h a t kk → e_gI h a t kk' := by
  unfold e_gI; intro q; split at q
  · exact ⟨q.1, hh _ _ q.2⟩
  · exact q.elim
theorem e_gR.mono {h : e_Hp} {a : Nat} {kk kk' : Nat → Nat → (Nat → Option Nat) → Prop} (hh : ∀ t n f, kk t n f → kk' t n f) : e_gR h a kk → e_gR h a kk' := by
  unfold e_gR; intro q; split at q
  · exact hh _ _ _ q
  · exact q.elim
theorem e_gl.mono {h : e_Hp} {a : Nat} {kk kk' : Nat → Prop} (hh : ∀ n, kk n → kk' n) : e_gl h a kk → e_gl h a kk' := by
  unfold e_gl; intro q; split at q
  · exact ⟨q.1, hh _ q.2⟩
  · exact ⟨q.1, hh _ q.2⟩
  · exact q.elim
theorem e_ck.mono {h : e_Hp} {ci : Nat} {st : List Value} {kk kk' : Prop} (hh : kk → kk') : e_ck h ci st kk → e_ck h ci st kk' := by
  unfold e_ck; intro q; split at q
  · exact e_gO.mono (fun _ => hh) q
  · exact hh q
  · exact q.elim
theorem e_an.mono {ci : Nat} {kk kk' : Nat → Prop} (hh : ∀ n, kk n → kk' n) : e_an ci kk → e_an ci kk' := by
  unfold e_an; intro q; split at q
  · exact hh _ q
  · exact hh _ q
  · exact q.elim
theorem e_om.mono {α : Type} {x : Option α} {kk kk' : α → Prop} (hh : ∀ n, kk n → kk' n) : e_om x kk → e_om x kk' := by
  unfold e_om; intro q; split at q
  · exact hh _ q
  · exact q.elim
theorem e_tg.mono {tg : List Nat} {j : Nat} {J J' : Nat → Prop} (hh : ∀ n, J n → J' n) : e_tg tg j J → e_tg tg j J' := by
  unfold e_tg; intro q; split at q
  · exact hh _ q
  · exact q.elim
theorem e_sw.mono {x : Int32} {J J' : Nat → Prop} (hh : ∀ n, J n → J' n) : ∀ (tg : List Nat) (v : Int), e_sw x v tg J → e_sw x v tg J'
  | [], _, _ => trivial
  | t :: ts, v, q => ⟨fun c => hh _ (q.1 c), e_sw.mono hh ts (v + 1) q.2⟩
theorem e_an2 {P a b : Prop} (h : a → b) : P ∧ a → P ∧ b := fun q => ⟨q.1, h q.2⟩
theorem e_br {c d a a' b b' : Prop} (h : a → a') (h2 : b → b') : (c → a) ∧ (d → b) → (c → a') ∧ (d → b') := fun q => ⟨fun x => h (q.1 x), fun x => h2 (q.2 x)⟩
theorem e_br2 {c a a' b b' : Prop} (h : a → a') (h2 : b → b') : (c → a) ∧ b → (c → a') ∧ b' := fun q => ⟨fun x => h (q.1 x), h2 q.2⟩
theorem e_cal.mono {g : e_G} {x : Option (Nat × Nat × Nat × Nat)} {lv : e_Lv} {st : List Value} {h : e_Hp} {K K' : e_K} (hK : ∀ lv st h, K lv st h → K' lv st h) : e_cal g x lv st h K → e_cal g x lv st h K' := by
  unfold e_cal
  intro q
  split at q
  · exact e_p1r.mono (fun a r => e_an2 (e_an2 (fun z => z.mono (fun _ _ => hK _ _ _)))) q
  · exact e_an2 (e_an2 (fun z => e_Sc.mono z (fun _ _ => hK _ _ _))) q
  · exact e_p1r.mono (fun a r => e_an2 (fun z => z.mono (fun _ _ => hK _ _ _))) q
  · exact e_an2 (e_an2 (fun z => e_Sc.mono z (fun _ _ => hK _ _ _))) q
  · exact e_p1r.mono (fun a r => e_an2 (fun z => z.mono (fun _ _ => hK _ _ _))) q
  · exact e_p1r.mono (fun a r => e_an2 (hK _ _ _)) q
  · exact e_p1i.mono (fun a r => e_p1i.mono (fun _ _ => e_an2 (hK _ _ _))) q
  · exact e_p1i.mono (fun a r => e_p1i.mono (fun _ _ => e_an2 (hK _ _ _))) q
  · exact e_p1i.mono (fun _ _ => e_p1i.mono (fun _ _ => e_p1r.mono (fun _ _ => e_p1i.mono (fun _ _ => e_p1r.mono (fun _ _ => e_an2 (e_gI.mono (fun _ _ => e_gI.mono (fun _ _ => e_an2 (e_an2 (e_an2 (e_an2 (e_an2 (hK _ _ _)))))))))))) ) q
  · exact q.elim
set_option maxHeartbeats 1000000 in
theorem e_step.mono {g : e_G} {k o : Nat} {i : Instr} {tg : List Nat} {lv : e_Lv} {st : List Value} {h : e_Hp} {J J' : e_J} {Ψ : e_Q} {K K' : e_K} (hJ : ∀ pc lv st h, J pc lv st h → J' pc lv st h) (hK : ∀ lv st h, K lv st h → K' lv st h) : e_step g k o i tg lv st h J Ψ K → e_step g k o i tg lv st h J' Ψ K' := by
  unfold e_step
  split
  all_goals repeat' (first
    | exact id
    | exact hK _ _ _
    | exact hJ _ _ _ _
    | exact e_cal.mono hK
    | exact e_sw.mono (fun _ => hJ _ _ _ _) _ _
    | refine e_p1i.mono (fun _ _ => ?_) | refine e_p1l.mono (fun _ _ => ?_) | refine e_p1a.mono (fun _ _ => ?_) | refine e_p1r.mono (fun _ _ => ?_) | refine e_p1.mono (fun _ _ => ?_) | refine e_p2.mono (fun _ _ _ => ?_)
    | refine e_nul.mono (fun _ => ?_) (fun _ => ?_)
    | refine e_ldi.mono (fun _ => ?_) | refine e_ldl.mono (fun _ => ?_) | refine e_lda.mono (fun _ => ?_) | refine e_sto.mono (fun _ => ?_) | refine e_sto2.mono (fun _ => ?_)
    | refine e_gO.mono (fun _ => ?_) | refine e_gI.mono (fun _ _ => ?_) | refine e_gR.mono (fun _ _ _ => ?_) | refine e_gl.mono (fun _ => ?_) | refine e_ck.mono ?_ | refine e_an.mono (fun _ => ?_) | refine e_om.mono (fun _ => ?_)
    | refine e_tg.mono (fun _ => ?_)
    | refine e_br ?_ ?_ | refine e_br2 ?_ ?_
    | refine e_an2 ?_)
theorem e_exec.mono {g : e_G} {k o : Nat} {J J' : e_J} {Ψ : e_Q} (hJ : ∀ pc lv st h, J pc lv st h → J' pc lv st h) : ∀ (L : List e_En) (pe : Nat) (lv : e_Lv) (st : List Value) (h : e_Hp), e_exec g k o L pe lv st h J Ψ → e_exec g k o L pe lv st h J' Ψ
  | [], pe, lv, st, h, q => hJ _ _ _ _ q
  | (_, i, _, tg) :: r, pe, lv, st, h, q => e_step.mono hJ (fun lv st h => e_exec.mono hJ r pe lv st h) q
theorem e_F.mono {g : e_G} {k o : Nat} {cd : e_Cd} {Ψ : e_Q} {X X' : e_J} (hJ : ∀ pc lv st h, X pc lv st h → X' pc lv st h) {pc : Nat} {lv : e_Lv} {st : List Value} {h : e_Hp} : e_F g k o cd Ψ X pc lv st h → e_F g k o cd Ψ X' pc lv st h := by
  unfold e_F
  split
  · exact e_exec.mono hJ _ _ _ _ _
  · exact id
theorem e_fold {g : e_G} {k o : Nat} {cd : e_Cd} {Ψ : e_Q} {pc : Nat} {lv : e_Lv} {st : List Value} {h : e_Hp} (q : e_F g k o cd Ψ (e_Sm g k o cd Ψ) pc lv st h) : e_Sm g k o cd Ψ pc lv st h :=
  fun X hX => hX _ _ _ _ (e_F.mono (fun _ _ _ _ z => z X hX) q)
theorem e_unfold {g : e_G} {k o : Nat} {cd : e_Cd} {Ψ : e_Q} {pc : Nat} {lv : e_Lv} {st : List Value} {h : e_Hp} (q : e_Sm g k o cd Ψ pc lv st h) : e_F g k o cd Ψ (e_Sm g k o cd Ψ) pc lv st h :=
  q (fun pc lv st h => e_F g k o cd Ψ (e_Sm g k o cd Ψ) pc lv st h) (fun _ _ _ _ z => e_F.mono (fun _ _ _ _ y => e_fold y) z)
theorem e_unf {g : e_G} {k o : Nat} {cd : e_Cd} {Ψ : e_Q} {pc pe : Nat} {L : List e_En} {lv : e_Lv} {st : List Value} {h : e_Hp} (hc : cd.find? (fun b => b.1 == pc) = some (pc, L, pe)) : e_Sm g k o cd Ψ pc lv st h = e_exec g k o L pe lv st h (e_Sm g k o cd Ψ) Ψ := by
  refine propext ⟨fun q => ?_, fun q => e_fold ?_⟩
  · have z := e_unfold q
    unfold e_F at z
    rw [hc] at z
    exact z
  · unfold e_F
    rw [hc]
    exact q
