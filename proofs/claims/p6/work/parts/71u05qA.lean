/-! The relation of the law, group A: the readings -/
abbrev zQ : ZS → ZS → Prop := zR
abbrev zQC : List Nat := zRC
abbrev zQM : List Nat := zRM
theorem zQ_rel : zRel zQ zQC zQM := zR_rel
