/-! all pairs -/
theorem allPr : AllPr Rel := ⟨P1, P2, P3, P4, P5, P6, P7, P8, P9, P10, P11, P12, P13, P14, P15, P16, P17, P18, P19, P20, P21, P22, P23, P24, P25, P26, P27, P28, P29, P30, P31⟩
theorem law_all : law_pure := law_from allPr
