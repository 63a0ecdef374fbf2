theorem PRE_win {D : Dct} {st : List Nat} {its : List Itm} {fx wd wd' : Nat} (h : PRE D st its fx wd) (hw : wd' ≤ 30) : PRE D st its fx wd' :=
  ⟨h.1, h.2.1, h.2.2.1, h.2.2.2.1, h.2.2.2.2.1, h.2.2.2.2.2.1, h.2.2.2.2.2.2.1, h.2.2.2.2.2.2.2.1, h.2.2.2.2.2.2.2.2.1, hw⟩
