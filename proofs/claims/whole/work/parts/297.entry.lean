/-- a contract out of a walk from the entry of a method of the library's that the machine has no entry for -/
theorem Cx.ofF {X : md} {d : Nat} {as : List mv} {M M' : mm × mm} {r : Option mv} {lv : List (Nat × mv)} (hy : plainFor X.1 = true)
    (hlen : ∀ ad, (lg_sl (as.map (tv ad))).length ≤ X.2.2.1) (hlv : ∀ ad, lv_args 0 (as.map (tv ad)) = lm ad lv) (k : Vm X d 0 lv [] M r M') : Cx X d as M r M' := by
  intro l D cA ad
  refine va_MetF (cc := X.2.1) (maxL := X.2.2.1) (ret := X.2.2.2) hy rfl ?_
  intro p e s m args below meth c s₁ B hml hv
  obtain ⟨rfl, hP, hK, hD, hE⟩ := hv
  have hl := lv_entry (as.map (tv ad)) (n := X.2.2.1) (hlen ad)
  rw [lg_entry_eq]
  generalize (lg_sl (as.map (tv ad)) ++ List.replicate (X.2.2.1 - (lg_sl (as.map (tv ad))).length) Slot.unset).toArray = ls at hl ⊢
  rw [hlv ad] at hl
  exact k p l e _ s m _ below meth c D cA ad s.heap [] ls ⟨B.exec, B.bytes, hml, findClass_of_methodNamed B.named, atoms_spec (ws := wsm X) B.pre, B.returns, B.notSynchronized, rfl, hK, hE⟩ hP hD va_S.rf hl
