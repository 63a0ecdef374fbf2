/-- the state as the document has it -/
def INV (D : Dct) (st : List Nat) (its : List Itm) (fx wd : Nat) : Prop :=
  WD D ∧ DD D ∧ WS st its fx ∧ st.length ≤ 60 ∧ wd ≤ 30 ∧ (∀ i, i < fx → iE its i = none) ∧ (∀ i, i < its.length → tOK (iT its i)) ∧ (∀ i e, iE its i = some e → e < D.length) ∧ its = tr1 D st its fx ∧ st.length - pos its fx ≤ wd
/-- the class's numbers of a state -/
def CSt (D : Dct) (st : List Nat) (its : List Itm) (fx wd : Nat) (o1 dw : Nat → Int64) (dn : Int32) (s1 s2 s3 : Nat → Int32) (s4 : Nat → Int64) (n1 n2 n3 n4 n5 : Int32) : Prop :=
  CD D o1 dw dn ∧ RS st s1 ∧ CI st its s2 s3 s4 ∧ n1 = nI st.length ∧ n2 = nI its.length ∧ n3 = nI fx ∧ n4 = nI (pos its fx) ∧ n5 = nI wd
theorem INV_tx {D : Dct} {st : List Nat} {its : List Itm} {fx wd : Nat} (h : INV D st its fx wd) : ∀ i, i < its.length → (iT its i).length ≤ 12 := fun i hi => (h.2.2.2.2.2.2.1 i hi).1
