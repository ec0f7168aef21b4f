-- what lies outside: the static array UNDER, the constants' texts
def rdU (x : Int32) : Option Int32 := if 0 ≤ x.toInt ∧ x.toInt < ((6 : Nat) : Int) then some (([-1, 0, 0, 1, 2, 0] : List Int32).getD x.toInt.toNat 0) else none
def xln (w : Nat) : Int32 := Int32.ofNat (xlen.getD w 0)
def xch (w : Nat) (x : Int32) : Option Int32 := if 0 ≤ x.toInt ∧ x.toInt < ((xlen.getD w 0 : Nat) : Int) then some ((xby.getD w []).getD x.toInt.toNat 0) else none
section VOU
variable {X : md} {d pc n : Nat} {lv : List (Nat × mv)} {st : List mv} {M M' : mm × mm} {r : Option mv} {idx : Nat}
theorem Vm.under (hd : decode X.2.1 pc = .ok (.getstatic 31, 3)) (hn : pc + 3 = n) (ho : X.1.cls = RX4) (k : Vm X d n lv (.inr (.inr (90, 0)) :: st) M r M') : Vm X d pc lv st M r M' := by
  subst hn
  intro p l e R s m args below meth c D cA ad H locs ls C hP hD hS hl0
  have hE := C.2.2.2.2.2.2.2.2.2
  exact va_getsN (host := RX7) C.1 C.2.1 hE.1 hS C.2.2.2.1 (va_Nw.use rfl (by rw [ho]; exact hE.2.2.2.2.2.2.2)) (fun _ h => h) hd (k p l e R s m args below meth c D cA ad H locs ls C hP hD hS hl0)
theorem Vm.ialdU {x v : Int32} (hd : decode X.2.1 pc = .ok (.iaload, 1)) (hn : pc + 1 = n) (h : rdU x = some v) (k : Vm X d n lv (.inl v :: st) M r M') : Vm X d pc lv (.inl x :: .inr (.inr (90, 0)) :: st) M r M' := by
  subst hn
  unfold rdU at h
  split at h
  · rename_i hin
    cases h
    intro p l e R s m args below meth c D cA ad H locs ls C hP hD hS hl0
    exact va_ti C.1 C.2.1 C.2.2.2.2.2.2.2.2.2.2.1 hS (in_of hin) rfl hd (k p l e R s m args below meth c D cA ad H locs ls C hP hD hS hl0)
  · cases h
theorem Vm.ldcs (w : Nat) (hd : decode X.2.1 pc = .ok (.ldc (xat w), 2)) (hn : pc + 2 = n) (hw : w < 10) (ho : X.1.cls = RX3) (k : Vm X d n lv (.inr (.inr (92, w)) :: st) M r M') : Vm X d pc lv st M r M' := by
  subst hn
  intro p l e R s m args below meth c D cA ad H locs ls C hP hD hS hl0
  exact va_ldcS (own := X.1.cls) C.1 C.2.1 C.2.2.2.1 (by rw [ho]; exact C.2.2.2.2.2.2.2.2.2.2.2.2.1 w hw) hd (k p l e R s m args below meth c D cA ad H locs ls C hP hD hS hl0)
end VOU
