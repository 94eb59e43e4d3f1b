/-! The relation of the law, by program (wip/s/lawgen2.py) -/
abbrev zQ : ZS → ZS → Prop := zAnd zR (zAnd zFs (zAnd zWd (zAnd zSe (zAnd zVe (zAnd zPk (zAnd zPh (zAnd zHr (zAnd zSt (zAnd zSw (zAnd zTo (zAnd zQu (zAnd zSs zPa))))))))))))
abbrev zQC : List Nat := zRC ++ (zFsC ++ (zWdC ++ (zSeC ++ (zVeC ++ (zPkC ++ (zPhC ++ (zHrC ++ (zStC ++ (zSwC ++ (zToC ++ (zQuC ++ (zSsC ++ (zPaC)))))))))))))
abbrev zQM : List Nat := zRM ++ (zFsM ++ (zWdM ++ (zSeM ++ (zVeM ++ (zPkM ++ (zPhM ++ (zHrM ++ (zStM ++ (zSwM ++ (zToM ++ (zQuM ++ (zSsM ++ (zPaM)))))))))))))
theorem zQ_rel : zRel zQ zQC zQM := zR_rel.and (zFs_rel.and (zWd_rel.and (zSe_rel.and (zVe_rel.and (zPk_rel.and (zPh_rel.and (zHr_rel.and (zSt_rel.and (zSw_rel.and (zTo_rel.and (zQu_rel.and (zSs_rel.and zPa_rel))))))))))))
theorem oQ_film {x1 x2 x3 : Int} {c m : ZS} (h : zQ c m) : zBo zQ (f_w_film [x1, x2, x3] c) (f_m_film [x1, x2, x3] m) := by
  obtain ⟨h_zR, h_zFs, h_zWd, h_zSe, h_zVe, h_zPk, h_zPh, h_zHr, h_zSt, h_zSw, h_zTo, h_zQu, h_zSs, h_zPa⟩ := id h
  obtain ⟨k, v, c2, m2, e1, e2, hT, ht, ho⟩ := o_filmG h_zR h_zFs h_zSw
  obtain ⟨⟨t_zR, t_zFs⟩, t_zSw⟩ := hT
  refine ⟨k, v, c2, m2, e1, e2, ⟨t_zR, t_zFs, ?_, ?_, ?_, ?_, ?_, ?_, ?_, t_zSw, ?_, ?_, ?_, ?_⟩, ht, ho⟩
  · exact zKeep zWd_rel zK256 zK168 (L := [x1, x2, x3]) rfl rfl e1 e2 (by decide +kernel) (by decide +kernel) h_zWd
  · exact zKeep zSe_rel zK256 zK168 (L := [x1, x2, x3]) rfl rfl e1 e2 (by decide +kernel) (by decide +kernel) h_zSe
  · exact zKeep zVe_rel zK256 zK168 (L := [x1, x2, x3]) rfl rfl e1 e2 (by decide +kernel) (by decide +kernel) h_zVe
  · exact zKeep zPk_rel zK256 zK168 (L := [x1, x2, x3]) rfl rfl e1 e2 (by decide +kernel) (by decide +kernel) h_zPk
  · exact zKeep zPh_rel zK256 zK168 (L := [x1, x2, x3]) rfl rfl e1 e2 (by decide +kernel) (by decide +kernel) h_zPh
  · exact zKeep zHr_rel zK256 zK168 (L := [x1, x2, x3]) rfl rfl e1 e2 (by decide +kernel) (by decide +kernel) h_zHr
  · exact zKeep zSt_rel zK256 zK168 (L := [x1, x2, x3]) rfl rfl e1 e2 (by decide +kernel) (by decide +kernel) h_zSt
  · exact zKeep zTo_rel zK256 zK168 (L := [x1, x2, x3]) rfl rfl e1 e2 (by decide +kernel) (by decide +kernel) h_zTo
  · exact zKeep zQu_rel zK256 zK168 (L := [x1, x2, x3]) rfl rfl e1 e2 (by decide +kernel) (by decide +kernel) h_zQu
  · exact zKeep zSs_rel zK256 zK168 (L := [x1, x2, x3]) rfl rfl e1 e2 (by decide +kernel) (by decide +kernel) h_zSs
  · exact zKeep zPa_rel zK256 zK168 (L := [x1, x2, x3]) rfl rfl e1 e2 (by decide +kernel) (by decide +kernel) h_zPa

theorem oQ_reader {x1 : Int} {c m : ZS} (h : zQ c m) : zBo zQ (f_w_reader [x1] c) (f_m_reader [x1] m) := by
  obtain ⟨h_zR, h_zFs, h_zWd, h_zSe, h_zVe, h_zPk, h_zPh, h_zHr, h_zSt, h_zSw, h_zTo, h_zQu, h_zSs, h_zPa⟩ := id h
  obtain ⟨k, v, c2, m2, e1, e2, hT, ht, ho⟩ := (o_reader h_zR)
  have t_zR := hT
  refine ⟨k, v, c2, m2, e1, e2, ⟨t_zR, ?_, ?_, ?_, ?_, ?_, ?_, ?_, ?_, ?_, ?_, ?_, ?_, ?_⟩, ht, ho⟩
  · exact zKeep zFs_rel zK257 zK169 (L := [x1]) rfl rfl e1 e2 (by decide +kernel) (by decide +kernel) h_zFs
  · exact zKeep zWd_rel zK257 zK169 (L := [x1]) rfl rfl e1 e2 (by decide +kernel) (by decide +kernel) h_zWd
  · exact zKeep zSe_rel zK257 zK169 (L := [x1]) rfl rfl e1 e2 (by decide +kernel) (by decide +kernel) h_zSe
  · exact zKeep zVe_rel zK257 zK169 (L := [x1]) rfl rfl e1 e2 (by decide +kernel) (by decide +kernel) h_zVe
  · exact zKeep zPk_rel zK257 zK169 (L := [x1]) rfl rfl e1 e2 (by decide +kernel) (by decide +kernel) h_zPk
  · exact zKeep zPh_rel zK257 zK169 (L := [x1]) rfl rfl e1 e2 (by decide +kernel) (by decide +kernel) h_zPh
  · exact zKeep zHr_rel zK257 zK169 (L := [x1]) rfl rfl e1 e2 (by decide +kernel) (by decide +kernel) h_zHr
  · exact zKeep zSt_rel zK257 zK169 (L := [x1]) rfl rfl e1 e2 (by decide +kernel) (by decide +kernel) h_zSt
  · exact zKeep zSw_rel zK257 zK169 (L := [x1]) rfl rfl e1 e2 (by decide +kernel) (by decide +kernel) h_zSw
  · exact zKeep zTo_rel zK257 zK169 (L := [x1]) rfl rfl e1 e2 (by decide +kernel) (by decide +kernel) h_zTo
  · exact zKeep zQu_rel zK257 zK169 (L := [x1]) rfl rfl e1 e2 (by decide +kernel) (by decide +kernel) h_zQu
  · exact zKeep zSs_rel zK257 zK169 (L := [x1]) rfl rfl e1 e2 (by decide +kernel) (by decide +kernel) h_zSs
  · exact zKeep zPa_rel zK257 zK169 (L := [x1]) rfl rfl e1 e2 (by decide +kernel) (by decide +kernel) h_zPa

theorem oQ_deal {x1 x2 : Int} {c m : ZS} (h : zQ c m) : zBo zQ (f_w_deal [x1, x2] c) (f_m_deal [x1, x2] m) := by
  obtain ⟨h_zR, h_zFs, h_zWd, h_zSe, h_zVe, h_zPk, h_zPh, h_zHr, h_zSt, h_zSw, h_zTo, h_zQu, h_zSs, h_zPa⟩ := id h
  obtain ⟨k, v, c2, m2, e1, e2, hT, ht, ho⟩ := (o_deal h_zR)
  have t_zR := hT
  refine ⟨k, v, c2, m2, e1, e2, ⟨t_zR, ?_, ?_, ?_, ?_, ?_, ?_, ?_, ?_, ?_, ?_, ?_, ?_, ?_⟩, ht, ho⟩
  · exact zKeep zFs_rel zK258 zK171 (L := [x1, x2]) rfl rfl e1 e2 (by decide +kernel) (by decide +kernel) h_zFs
  · exact zKeep zWd_rel zK258 zK171 (L := [x1, x2]) rfl rfl e1 e2 (by decide +kernel) (by decide +kernel) h_zWd
  · exact zKeep zSe_rel zK258 zK171 (L := [x1, x2]) rfl rfl e1 e2 (by decide +kernel) (by decide +kernel) h_zSe
  · exact zKeep zVe_rel zK258 zK171 (L := [x1, x2]) rfl rfl e1 e2 (by decide +kernel) (by decide +kernel) h_zVe
  · exact zKeep zPk_rel zK258 zK171 (L := [x1, x2]) rfl rfl e1 e2 (by decide +kernel) (by decide +kernel) h_zPk
  · exact zKeep zPh_rel zK258 zK171 (L := [x1, x2]) rfl rfl e1 e2 (by decide +kernel) (by decide +kernel) h_zPh
  · exact zKeep zHr_rel zK258 zK171 (L := [x1, x2]) rfl rfl e1 e2 (by decide +kernel) (by decide +kernel) h_zHr
  · exact zKeep zSt_rel zK258 zK171 (L := [x1, x2]) rfl rfl e1 e2 (by decide +kernel) (by decide +kernel) h_zSt
  · exact zKeep zSw_rel zK258 zK171 (L := [x1, x2]) rfl rfl e1 e2 (by decide +kernel) (by decide +kernel) h_zSw
  · exact zKeep zTo_rel zK258 zK171 (L := [x1, x2]) rfl rfl e1 e2 (by decide +kernel) (by decide +kernel) h_zTo
  · exact zKeep zQu_rel zK258 zK171 (L := [x1, x2]) rfl rfl e1 e2 (by decide +kernel) (by decide +kernel) h_zQu
  · exact zKeep zSs_rel zK258 zK171 (L := [x1, x2]) rfl rfl e1 e2 (by decide +kernel) (by decide +kernel) h_zSs
  · exact zKeep zPa_rel zK258 zK171 (L := [x1, x2]) rfl rfl e1 e2 (by decide +kernel) (by decide +kernel) h_zPa

theorem oQ_read {x1 x2 x3 : Int} {c m : ZS} (h : zQ c m) : zBo zQ (f_w_read [x1, x2, x3] c) (f_m_read [x1, x2, x3] m) := by
  obtain ⟨h_zR, h_zFs, h_zWd, h_zSe, h_zVe, h_zPk, h_zPh, h_zHr, h_zSt, h_zSw, h_zTo, h_zQu, h_zSs, h_zPa⟩ := id h
  obtain ⟨k, v, c2, m2, e1, e2, hT, ht, ho⟩ := (o_read h_zR)
  have t_zR := hT
  refine ⟨k, v, c2, m2, e1, e2, ⟨t_zR, ?_, ?_, ?_, ?_, ?_, ?_, ?_, ?_, ?_, ?_, ?_, ?_, ?_⟩, ht, ho⟩
  · exact zKeep zFs_rel zK260 zK175 (L := [x1, x2, x3]) rfl rfl e1 e2 (by decide +kernel) (by decide +kernel) h_zFs
  · exact zKeep zWd_rel zK260 zK175 (L := [x1, x2, x3]) rfl rfl e1 e2 (by decide +kernel) (by decide +kernel) h_zWd
  · exact zKeep zSe_rel zK260 zK175 (L := [x1, x2, x3]) rfl rfl e1 e2 (by decide +kernel) (by decide +kernel) h_zSe
  · exact zKeep zVe_rel zK260 zK175 (L := [x1, x2, x3]) rfl rfl e1 e2 (by decide +kernel) (by decide +kernel) h_zVe
  · exact zKeep zPk_rel zK260 zK175 (L := [x1, x2, x3]) rfl rfl e1 e2 (by decide +kernel) (by decide +kernel) h_zPk
  · exact zKeep zPh_rel zK260 zK175 (L := [x1, x2, x3]) rfl rfl e1 e2 (by decide +kernel) (by decide +kernel) h_zPh
  · exact zKeep zHr_rel zK260 zK175 (L := [x1, x2, x3]) rfl rfl e1 e2 (by decide +kernel) (by decide +kernel) h_zHr
  · exact zKeep zSt_rel zK260 zK175 (L := [x1, x2, x3]) rfl rfl e1 e2 (by decide +kernel) (by decide +kernel) h_zSt
  · exact zKeep zSw_rel zK260 zK175 (L := [x1, x2, x3]) rfl rfl e1 e2 (by decide +kernel) (by decide +kernel) h_zSw
  · exact zKeep zTo_rel zK260 zK175 (L := [x1, x2, x3]) rfl rfl e1 e2 (by decide +kernel) (by decide +kernel) h_zTo
  · exact zKeep zQu_rel zK260 zK175 (L := [x1, x2, x3]) rfl rfl e1 e2 (by decide +kernel) (by decide +kernel) h_zQu
  · exact zKeep zSs_rel zK260 zK175 (L := [x1, x2, x3]) rfl rfl e1 e2 (by decide +kernel) (by decide +kernel) h_zSs
  · exact zKeep zPa_rel zK260 zK175 (L := [x1, x2, x3]) rfl rfl e1 e2 (by decide +kernel) (by decide +kernel) h_zPa

theorem oQ_rival {x1 x2 : Int} {c m : ZS} (h : zQ c m) : zBo zQ (f_w_rival [x1, x2] c) (f_m_rival [x1, x2] m) := by
  obtain ⟨h_zR, h_zFs, h_zWd, h_zSe, h_zVe, h_zPk, h_zPh, h_zHr, h_zSt, h_zSw, h_zTo, h_zQu, h_zSs, h_zPa⟩ := id h
  obtain ⟨k, v, c2, m2, e1, e2, hT, ht, ho⟩ := o_rival h_zR h_zFs
  have t_zFs := hT
  refine ⟨k, v, c2, m2, e1, e2, ⟨?_, t_zFs, ?_, ?_, ?_, ?_, ?_, ?_, ?_, ?_, ?_, ?_, ?_, ?_⟩, ht, ho⟩
  · exact zKeep zR_rel zK264 zK184 (L := [x1, x2]) rfl rfl e1 e2 (by decide +kernel) (by decide +kernel) h_zR
  · exact zKeep zWd_rel zK264 zK184 (L := [x1, x2]) rfl rfl e1 e2 (by decide +kernel) (by decide +kernel) h_zWd
  · exact zKeep zSe_rel zK264 zK184 (L := [x1, x2]) rfl rfl e1 e2 (by decide +kernel) (by decide +kernel) h_zSe
  · exact zKeep zVe_rel zK264 zK184 (L := [x1, x2]) rfl rfl e1 e2 (by decide +kernel) (by decide +kernel) h_zVe
  · exact zKeep zPk_rel zK264 zK184 (L := [x1, x2]) rfl rfl e1 e2 (by decide +kernel) (by decide +kernel) h_zPk
  · exact zKeep zPh_rel zK264 zK184 (L := [x1, x2]) rfl rfl e1 e2 (by decide +kernel) (by decide +kernel) h_zPh
  · exact zKeep zHr_rel zK264 zK184 (L := [x1, x2]) rfl rfl e1 e2 (by decide +kernel) (by decide +kernel) h_zHr
  · exact zKeep zSt_rel zK264 zK184 (L := [x1, x2]) rfl rfl e1 e2 (by decide +kernel) (by decide +kernel) h_zSt
  · exact zKeep zSw_rel zK264 zK184 (L := [x1, x2]) rfl rfl e1 e2 (by decide +kernel) (by decide +kernel) h_zSw
  · exact zKeep zTo_rel zK264 zK184 (L := [x1, x2]) rfl rfl e1 e2 (by decide +kernel) (by decide +kernel) h_zTo
  · exact zKeep zQu_rel zK264 zK184 (L := [x1, x2]) rfl rfl e1 e2 (by decide +kernel) (by decide +kernel) h_zQu
  · exact zKeep zSs_rel zK264 zK184 (L := [x1, x2]) rfl rfl e1 e2 (by decide +kernel) (by decide +kernel) h_zSs
  · exact zKeep zPa_rel zK264 zK184 (L := [x1, x2]) rfl rfl e1 e2 (by decide +kernel) (by decide +kernel) h_zPa

theorem oQ_section {x1 x2 x3 x4 x5 : Int} {c m : ZS} (h : zQ c m) : zBo zQ (f_w_section [x1, x2, x3, x4, x5] c) (f_m_section [x1, x2, x3, x4, x5] m) := by
  obtain ⟨h_zR, h_zFs, h_zWd, h_zSe, h_zVe, h_zPk, h_zPh, h_zHr, h_zSt, h_zSw, h_zTo, h_zQu, h_zSs, h_zPa⟩ := id h
  obtain ⟨k, v, c2, m2, e1, e2, hT, ht, ho⟩ := oS_section h_zSe
  have t_zSe := hT
  refine ⟨k, v, c2, m2, e1, e2, ⟨?_, ?_, ?_, t_zSe, ?_, ?_, ?_, ?_, ?_, ?_, ?_, ?_, ?_, ?_⟩, ht, ho⟩
  · exact zKeep zR_rel zK265 zK185 (L := [x1, x2, x3, x4, x5]) rfl rfl e1 e2 (by decide +kernel) (by decide +kernel) h_zR
  · exact zKeep zFs_rel zK265 zK185 (L := [x1, x2, x3, x4, x5]) rfl rfl e1 e2 (by decide +kernel) (by decide +kernel) h_zFs
  · exact zKeep zWd_rel zK265 zK185 (L := [x1, x2, x3, x4, x5]) rfl rfl e1 e2 (by decide +kernel) (by decide +kernel) h_zWd
  · exact zKeep zVe_rel zK265 zK185 (L := [x1, x2, x3, x4, x5]) rfl rfl e1 e2 (by decide +kernel) (by decide +kernel) h_zVe
  · exact zKeep zPk_rel zK265 zK185 (L := [x1, x2, x3, x4, x5]) rfl rfl e1 e2 (by decide +kernel) (by decide +kernel) h_zPk
  · exact zKeep zPh_rel zK265 zK185 (L := [x1, x2, x3, x4, x5]) rfl rfl e1 e2 (by decide +kernel) (by decide +kernel) h_zPh
  · exact zKeep zHr_rel zK265 zK185 (L := [x1, x2, x3, x4, x5]) rfl rfl e1 e2 (by decide +kernel) (by decide +kernel) h_zHr
  · exact zKeep zSt_rel zK265 zK185 (L := [x1, x2, x3, x4, x5]) rfl rfl e1 e2 (by decide +kernel) (by decide +kernel) h_zSt
  · exact zKeep zSw_rel zK265 zK185 (L := [x1, x2, x3, x4, x5]) rfl rfl e1 e2 (by decide +kernel) (by decide +kernel) h_zSw
  · exact zKeep zTo_rel zK265 zK185 (L := [x1, x2, x3, x4, x5]) rfl rfl e1 e2 (by decide +kernel) (by decide +kernel) h_zTo
  · exact zKeep zQu_rel zK265 zK185 (L := [x1, x2, x3, x4, x5]) rfl rfl e1 e2 (by decide +kernel) (by decide +kernel) h_zQu
  · exact zKeep zSs_rel zK265 zK185 (L := [x1, x2, x3, x4, x5]) rfl rfl e1 e2 (by decide +kernel) (by decide +kernel) h_zSs
  · exact zKeep zPa_rel zK265 zK185 (L := [x1, x2, x3, x4, x5]) rfl rfl e1 e2 (by decide +kernel) (by decide +kernel) h_zPa

theorem oQ_choose {x1 : Int} {c m : ZS} (h : zQ c m) : zBo zQ (f_w_choose [x1] c) (f_m_choose [x1] m) := by
  obtain ⟨h_zR, h_zFs, h_zWd, h_zSe, h_zVe, h_zPk, h_zPh, h_zHr, h_zSt, h_zSw, h_zTo, h_zQu, h_zSs, h_zPa⟩ := id h
  obtain ⟨k, v, c2, m2, e1, e2, hT, ht, ho⟩ := o_choose h_zR h_zFs h_zWd h_zSe h_zTo
  obtain ⟨t_zR, t_zFs, t_zWd, t_zSe, t_zTo⟩ := hT
  refine ⟨k, v, c2, m2, e1, e2, ⟨t_zR, t_zFs, t_zWd, t_zSe, ?_, ?_, ?_, ?_, ?_, ?_, t_zTo, ?_, ?_, ?_⟩, ht, ho⟩
  · exact zKeep zVe_rel zK266 zK190 (L := [x1]) rfl rfl e1 e2 (by decide +kernel) (by decide +kernel) h_zVe
  · exact zKeep zPk_rel zK266 zK190 (L := [x1]) rfl rfl e1 e2 (by decide +kernel) (by decide +kernel) h_zPk
  · exact zKeep zPh_rel zK266 zK190 (L := [x1]) rfl rfl e1 e2 (by decide +kernel) (by decide +kernel) h_zPh
  · exact zKeep zHr_rel zK266 zK190 (L := [x1]) rfl rfl e1 e2 (by decide +kernel) (by decide +kernel) h_zHr
  · exact zKeep zSt_rel zK266 zK190 (L := [x1]) rfl rfl e1 e2 (by decide +kernel) (by decide +kernel) h_zSt
  · exact zKeep zSw_rel zK266 zK190 (L := [x1]) rfl rfl e1 e2 (by decide +kernel) (by decide +kernel) h_zSw
  · exact zKeep zQu_rel zK266 zK190 (L := [x1]) rfl rfl e1 e2 (by decide +kernel) (by decide +kernel) h_zQu
  · exact zKeep zSs_rel zK266 zK190 (L := [x1]) rfl rfl e1 e2 (by decide +kernel) (by decide +kernel) h_zSs
  · exact zKeep zPa_rel zK266 zK190 (L := [x1]) rfl rfl e1 e2 (by decide +kernel) (by decide +kernel) h_zPa

theorem oQ_giveUp {x1 : Int} {c m : ZS} (h : zQ c m) : zBo zQ (f_w_giveUp [x1] c) (f_m_giveUp [x1] m) := by
  obtain ⟨h_zR, h_zFs, h_zWd, h_zSe, h_zVe, h_zPk, h_zPh, h_zHr, h_zSt, h_zSw, h_zTo, h_zQu, h_zSs, h_zPa⟩ := id h
  obtain ⟨k, v, c2, m2, e1, e2, hT, ht, ho⟩ := o_giveUp h_zR h_zFs
  have t_zFs := hT
  refine ⟨k, v, c2, m2, e1, e2, ⟨?_, t_zFs, ?_, ?_, ?_, ?_, ?_, ?_, ?_, ?_, ?_, ?_, ?_, ?_⟩, ht, ho⟩
  · exact zKeep zR_rel zK269 zK193 (L := [x1]) rfl rfl e1 e2 (by decide +kernel) (by decide +kernel) h_zR
  · exact zKeep zWd_rel zK269 zK193 (L := [x1]) rfl rfl e1 e2 (by decide +kernel) (by decide +kernel) h_zWd
  · exact zKeep zSe_rel zK269 zK193 (L := [x1]) rfl rfl e1 e2 (by decide +kernel) (by decide +kernel) h_zSe
  · exact zKeep zVe_rel zK269 zK193 (L := [x1]) rfl rfl e1 e2 (by decide +kernel) (by decide +kernel) h_zVe
  · exact zKeep zPk_rel zK269 zK193 (L := [x1]) rfl rfl e1 e2 (by decide +kernel) (by decide +kernel) h_zPk
  · exact zKeep zPh_rel zK269 zK193 (L := [x1]) rfl rfl e1 e2 (by decide +kernel) (by decide +kernel) h_zPh
  · exact zKeep zHr_rel zK269 zK193 (L := [x1]) rfl rfl e1 e2 (by decide +kernel) (by decide +kernel) h_zHr
  · exact zKeep zSt_rel zK269 zK193 (L := [x1]) rfl rfl e1 e2 (by decide +kernel) (by decide +kernel) h_zSt
  · exact zKeep zSw_rel zK269 zK193 (L := [x1]) rfl rfl e1 e2 (by decide +kernel) (by decide +kernel) h_zSw
  · exact zKeep zTo_rel zK269 zK193 (L := [x1]) rfl rfl e1 e2 (by decide +kernel) (by decide +kernel) h_zTo
  · exact zKeep zQu_rel zK269 zK193 (L := [x1]) rfl rfl e1 e2 (by decide +kernel) (by decide +kernel) h_zQu
  · exact zKeep zSs_rel zK269 zK193 (L := [x1]) rfl rfl e1 e2 (by decide +kernel) (by decide +kernel) h_zSs
  · exact zKeep zPa_rel zK269 zK193 (L := [x1]) rfl rfl e1 e2 (by decide +kernel) (by decide +kernel) h_zPa

theorem oQ_screen {x1 x2 : Int} {c m : ZS} (hb : zbit x2) (h : zQ c m) : zBo zQ (f_w_screen [x1, x2] c) (f_m_screen [x1, x2] m) := by
  obtain ⟨h_zR, h_zFs, h_zWd, h_zSe, h_zVe, h_zPk, h_zPh, h_zHr, h_zSt, h_zSw, h_zTo, h_zQu, h_zSs, h_zPa⟩ := id h
  obtain ⟨k, v, c2, m2, e1, e2, hT, ht, ho⟩ := o_screen hb h_zVe
  have t_zVe := hT
  refine ⟨k, v, c2, m2, e1, e2, ⟨?_, ?_, ?_, ?_, t_zVe, ?_, ?_, ?_, ?_, ?_, ?_, ?_, ?_, ?_⟩, ht, ho⟩
  · exact zKeep zR_rel zK271 zK195 (L := [x1, x2]) rfl rfl e1 e2 (by decide +kernel) (by decide +kernel) h_zR
  · exact zKeep zFs_rel zK271 zK195 (L := [x1, x2]) rfl rfl e1 e2 (by decide +kernel) (by decide +kernel) h_zFs
  · exact zKeep zWd_rel zK271 zK195 (L := [x1, x2]) rfl rfl e1 e2 (by decide +kernel) (by decide +kernel) h_zWd
  · exact zKeep zSe_rel zK271 zK195 (L := [x1, x2]) rfl rfl e1 e2 (by decide +kernel) (by decide +kernel) h_zSe
  · exact zKeep zPk_rel zK271 zK195 (L := [x1, x2]) rfl rfl e1 e2 (by decide +kernel) (by decide +kernel) h_zPk
  · exact zKeep zPh_rel zK271 zK195 (L := [x1, x2]) rfl rfl e1 e2 (by decide +kernel) (by decide +kernel) h_zPh
  · exact zKeep zHr_rel zK271 zK195 (L := [x1, x2]) rfl rfl e1 e2 (by decide +kernel) (by decide +kernel) h_zHr
  · exact zKeep zSt_rel zK271 zK195 (L := [x1, x2]) rfl rfl e1 e2 (by decide +kernel) (by decide +kernel) h_zSt
  · exact zKeep zSw_rel zK271 zK195 (L := [x1, x2]) rfl rfl e1 e2 (by decide +kernel) (by decide +kernel) h_zSw
  · exact zKeep zTo_rel zK271 zK195 (L := [x1, x2]) rfl rfl e1 e2 (by decide +kernel) (by decide +kernel) h_zTo
  · exact zKeep zQu_rel zK271 zK195 (L := [x1, x2]) rfl rfl e1 e2 (by decide +kernel) (by decide +kernel) h_zQu
  · exact zKeep zSs_rel zK271 zK195 (L := [x1, x2]) rfl rfl e1 e2 (by decide +kernel) (by decide +kernel) h_zSs
  · exact zKeep zPa_rel zK271 zK195 (L := [x1, x2]) rfl rfl e1 e2 (by decide +kernel) (by decide +kernel) h_zPa

theorem oQ_print {x1 x2 x3 : Int} {c m : ZS} (h : zQ c m) : zBo zQ (f_w_print [x1, x2, x3] c) (f_m_print [x1, x2, x3] m) := by
  obtain ⟨h_zR, h_zFs, h_zWd, h_zSe, h_zVe, h_zPk, h_zPh, h_zHr, h_zSt, h_zSw, h_zTo, h_zQu, h_zSs, h_zPa⟩ := id h
  obtain ⟨k, v, c2, m2, e1, e2, hT, ht, ho⟩ := o_print h_zR h_zPk h_zPh
  obtain ⟨t_zPk, t_zPh⟩ := hT
  refine ⟨k, v, c2, m2, e1, e2, ⟨?_, ?_, ?_, ?_, ?_, t_zPk, t_zPh, ?_, ?_, ?_, ?_, ?_, ?_, ?_⟩, ht, ho⟩
  · exact zKeep zR_rel zK272 zK198 (L := [x1, x2, x3]) rfl rfl e1 e2 (by decide +kernel) (by decide +kernel) h_zR
  · exact zKeep zFs_rel zK272 zK198 (L := [x1, x2, x3]) rfl rfl e1 e2 (by decide +kernel) (by decide +kernel) h_zFs
  · exact zKeep zWd_rel zK272 zK198 (L := [x1, x2, x3]) rfl rfl e1 e2 (by decide +kernel) (by decide +kernel) h_zWd
  · exact zKeep zSe_rel zK272 zK198 (L := [x1, x2, x3]) rfl rfl e1 e2 (by decide +kernel) (by decide +kernel) h_zSe
  · exact zKeep zVe_rel zK272 zK198 (L := [x1, x2, x3]) rfl rfl e1 e2 (by decide +kernel) (by decide +kernel) h_zVe
  · exact zKeep zHr_rel zK272 zK198 (L := [x1, x2, x3]) rfl rfl e1 e2 (by decide +kernel) (by decide +kernel) h_zHr
  · exact zKeep zSt_rel zK272 zK198 (L := [x1, x2, x3]) rfl rfl e1 e2 (by decide +kernel) (by decide +kernel) h_zSt
  · exact zKeep zSw_rel zK272 zK198 (L := [x1, x2, x3]) rfl rfl e1 e2 (by decide +kernel) (by decide +kernel) h_zSw
  · exact zKeep zTo_rel zK272 zK198 (L := [x1, x2, x3]) rfl rfl e1 e2 (by decide +kernel) (by decide +kernel) h_zTo
  · exact zKeep zQu_rel zK272 zK198 (L := [x1, x2, x3]) rfl rfl e1 e2 (by decide +kernel) (by decide +kernel) h_zQu
  · exact zKeep zSs_rel zK272 zK198 (L := [x1, x2, x3]) rfl rfl e1 e2 (by decide +kernel) (by decide +kernel) h_zSs
  · exact zKeep zPa_rel zK272 zK198 (L := [x1, x2, x3]) rfl rfl e1 e2 (by decide +kernel) (by decide +kernel) h_zPa

theorem oQ_key {x1 x2 x3 x4 : Int} {c m : ZS} (h : zQ c m) : zBo zQ (f_w_key [x1, x2, x3, x4] c) (f_m_key [x1, x2, x3, x4] m) := by
  obtain ⟨h_zR, h_zFs, h_zWd, h_zSe, h_zVe, h_zPk, h_zPh, h_zHr, h_zSt, h_zSw, h_zTo, h_zQu, h_zSs, h_zPa⟩ := id h
  obtain ⟨k, v, c2, m2, e1, e2, hT, ht, ho⟩ := o_key h_zR h_zVe
  have t_zVe := hT
  refine ⟨k, v, c2, m2, e1, e2, ⟨?_, ?_, ?_, ?_, t_zVe, ?_, ?_, ?_, ?_, ?_, ?_, ?_, ?_, ?_⟩, ht, ho⟩
  · exact zKeep zR_rel zK273 zK199 (L := [x1, x2, x3, x4]) rfl rfl e1 e2 (by decide +kernel) (by decide +kernel) h_zR
  · exact zKeep zFs_rel zK273 zK199 (L := [x1, x2, x3, x4]) rfl rfl e1 e2 (by decide +kernel) (by decide +kernel) h_zFs
  · exact zKeep zWd_rel zK273 zK199 (L := [x1, x2, x3, x4]) rfl rfl e1 e2 (by decide +kernel) (by decide +kernel) h_zWd
  · exact zKeep zSe_rel zK273 zK199 (L := [x1, x2, x3, x4]) rfl rfl e1 e2 (by decide +kernel) (by decide +kernel) h_zSe
  · exact zKeep zPk_rel zK273 zK199 (L := [x1, x2, x3, x4]) rfl rfl e1 e2 (by decide +kernel) (by decide +kernel) h_zPk
  · exact zKeep zPh_rel zK273 zK199 (L := [x1, x2, x3, x4]) rfl rfl e1 e2 (by decide +kernel) (by decide +kernel) h_zPh
  · exact zKeep zHr_rel zK273 zK199 (L := [x1, x2, x3, x4]) rfl rfl e1 e2 (by decide +kernel) (by decide +kernel) h_zHr
  · exact zKeep zSt_rel zK273 zK199 (L := [x1, x2, x3, x4]) rfl rfl e1 e2 (by decide +kernel) (by decide +kernel) h_zSt
  · exact zKeep zSw_rel zK273 zK199 (L := [x1, x2, x3, x4]) rfl rfl e1 e2 (by decide +kernel) (by decide +kernel) h_zSw
  · exact zKeep zTo_rel zK273 zK199 (L := [x1, x2, x3, x4]) rfl rfl e1 e2 (by decide +kernel) (by decide +kernel) h_zTo
  · exact zKeep zQu_rel zK273 zK199 (L := [x1, x2, x3, x4]) rfl rfl e1 e2 (by decide +kernel) (by decide +kernel) h_zQu
  · exact zKeep zSs_rel zK273 zK199 (L := [x1, x2, x3, x4]) rfl rfl e1 e2 (by decide +kernel) (by decide +kernel) h_zSs
  · exact zKeep zPa_rel zK273 zK199 (L := [x1, x2, x3, x4]) rfl rfl e1 e2 (by decide +kernel) (by decide +kernel) h_zPa

theorem oQ_show {x1 x2 x3 : Int} {c m : ZS} (h : zQ c m) : zBo zQ (f_w_show [x1, x2, x3] c) (f_m_show [x1, x2, x3] m) := by
  obtain ⟨h_zR, h_zFs, h_zWd, h_zSe, h_zVe, h_zPk, h_zPh, h_zHr, h_zSt, h_zSw, h_zTo, h_zQu, h_zSs, h_zPa⟩ := id h
  obtain ⟨k, v, c2, m2, e1, e2, hT, ht, ho⟩ := o_show h_zR ⟨h_zFs, h_zVe, h_zPk, h_zPh, h_zHr, h_zSt, h_zSw, h_zTo, h_zQu⟩
  obtain ⟨t_zFs, t_zVe, t_zPk, t_zPh, t_zHr, t_zSt, t_zSw, t_zTo, t_zQu⟩ := hT
  refine ⟨k, v, c2, m2, e1, e2, ⟨?_, t_zFs, ?_, ?_, t_zVe, t_zPk, t_zPh, t_zHr, t_zSt, t_zSw, t_zTo, t_zQu, ?_, ?_⟩, ht, ho⟩
  · exact zKeep zR_rel zK275 zK209 (L := [x1, x2, x3]) rfl rfl e1 e2 (by decide +kernel) (by decide +kernel) h_zR
  · exact zKeep zWd_rel zK275 zK209 (L := [x1, x2, x3]) rfl rfl e1 e2 (by decide +kernel) (by decide +kernel) h_zWd
  · exact zKeep zSe_rel zK275 zK209 (L := [x1, x2, x3]) rfl rfl e1 e2 (by decide +kernel) (by decide +kernel) h_zSe
  · exact zKeep zSs_rel zK275 zK209 (L := [x1, x2, x3]) rfl rfl e1 e2 (by decide +kernel) (by decide +kernel) h_zSs
  · exact zKeep zPa_rel zK275 zK209 (L := [x1, x2, x3]) rfl rfl e1 e2 (by decide +kernel) (by decide +kernel) h_zPa

theorem oQ_plan {x1 : Int} {c m : ZS} (h : zQ c m) : zBo zQ (f_w_plan [x1] c) (f_m_plan [x1] m) := by
  obtain ⟨h_zR, h_zFs, h_zWd, h_zSe, h_zVe, h_zPk, h_zPh, h_zHr, h_zSt, h_zSw, h_zTo, h_zQu, h_zSs, h_zPa⟩ := id h
  obtain ⟨k, v, c2, m2, e1, e2, hT, ht, ho⟩ := o_plan h_zR h_zSe ⟨h_zFs, h_zVe, h_zPk, h_zPh, h_zHr, h_zSt, h_zSw, h_zTo, h_zQu⟩
  obtain ⟨t_zFs, t_zVe, t_zPk, t_zPh, t_zHr, t_zSt, t_zSw, t_zTo, t_zQu⟩ := hT
  refine ⟨k, v, c2, m2, e1, e2, ⟨?_, t_zFs, ?_, ?_, t_zVe, t_zPk, t_zPh, t_zHr, t_zSt, t_zSw, t_zTo, t_zQu, ?_, ?_⟩, ht, ho⟩
  · exact zKeep zR_rel zK276 zK211 (L := [x1]) rfl rfl e1 e2 (by decide +kernel) (by decide +kernel) h_zR
  · exact zKeep zWd_rel zK276 zK211 (L := [x1]) rfl rfl e1 e2 (by decide +kernel) (by decide +kernel) h_zWd
  · exact zKeep zSe_rel zK276 zK211 (L := [x1]) rfl rfl e1 e2 (by decide +kernel) (by decide +kernel) h_zSe
  · exact zKeep zSs_rel zK276 zK211 (L := [x1]) rfl rfl e1 e2 (by decide +kernel) (by decide +kernel) h_zSs
  · exact zKeep zPa_rel zK276 zK211 (L := [x1]) rfl rfl e1 e2 (by decide +kernel) (by decide +kernel) h_zPa

theorem oQ_go {x1 : Int} {c m : ZS} (h : zQ c m) : zBo zQ (f_w_go [x1] c) (f_m_go [x1] m) := by
  obtain ⟨h_zR, h_zFs, h_zWd, h_zSe, h_zVe, h_zPk, h_zPh, h_zHr, h_zSt, h_zSw, h_zTo, h_zQu, h_zSs, h_zPa⟩ := id h
  obtain ⟨k, v, c2, m2, e1, e2, hT, ht, ho⟩ := o_go h_zHr h_zTo
  obtain ⟨t_zHr, t_zTo⟩ := hT
  refine ⟨k, v, c2, m2, e1, e2, ⟨?_, ?_, ?_, ?_, ?_, ?_, ?_, t_zHr, ?_, ?_, t_zTo, ?_, ?_, ?_⟩, ht, ho⟩
  · exact zKeep zR_rel zK280 zK216 (L := [x1]) rfl rfl e1 e2 (by decide +kernel) (by decide +kernel) h_zR
  · exact zKeep zFs_rel zK280 zK216 (L := [x1]) rfl rfl e1 e2 (by decide +kernel) (by decide +kernel) h_zFs
  · exact zKeep zWd_rel zK280 zK216 (L := [x1]) rfl rfl e1 e2 (by decide +kernel) (by decide +kernel) h_zWd
  · exact zKeep zSe_rel zK280 zK216 (L := [x1]) rfl rfl e1 e2 (by decide +kernel) (by decide +kernel) h_zSe
  · exact zKeep zVe_rel zK280 zK216 (L := [x1]) rfl rfl e1 e2 (by decide +kernel) (by decide +kernel) h_zVe
  · exact zKeep zPk_rel zK280 zK216 (L := [x1]) rfl rfl e1 e2 (by decide +kernel) (by decide +kernel) h_zPk
  · exact zKeep zPh_rel zK280 zK216 (L := [x1]) rfl rfl e1 e2 (by decide +kernel) (by decide +kernel) h_zPh
  · exact zKeep zSt_rel zK280 zK216 (L := [x1]) rfl rfl e1 e2 (by decide +kernel) (by decide +kernel) h_zSt
  · exact zKeep zSw_rel zK280 zK216 (L := [x1]) rfl rfl e1 e2 (by decide +kernel) (by decide +kernel) h_zSw
  · exact zKeep zQu_rel zK280 zK216 (L := [x1]) rfl rfl e1 e2 (by decide +kernel) (by decide +kernel) h_zQu
  · exact zKeep zSs_rel zK280 zK216 (L := [x1]) rfl rfl e1 e2 (by decide +kernel) (by decide +kernel) h_zSs
  · exact zKeep zPa_rel zK280 zK216 (L := [x1]) rfl rfl e1 e2 (by decide +kernel) (by decide +kernel) h_zPa

theorem oQ_storm {x1 : Int} {c m : ZS} (h : zQ c m) : zBo zQ (f_w_storm [x1] c) (f_m_storm [x1] m) := by
  obtain ⟨h_zR, h_zFs, h_zWd, h_zSe, h_zVe, h_zPk, h_zPh, h_zHr, h_zSt, h_zSw, h_zTo, h_zQu, h_zSs, h_zPa⟩ := id h
  obtain ⟨k, v, c2, m2, e1, e2, hT, ht, ho⟩ := o_storm h_zR ⟨h_zFs, h_zVe, h_zPk, h_zPh, h_zHr, h_zSt, h_zSw, h_zTo, h_zQu⟩
  obtain ⟨t_zFs, t_zVe, t_zPk, t_zPh, t_zHr, t_zSt, t_zSw, t_zTo, t_zQu⟩ := hT
  refine ⟨k, v, c2, m2, e1, e2, ⟨?_, t_zFs, ?_, ?_, t_zVe, t_zPk, t_zPh, t_zHr, t_zSt, t_zSw, t_zTo, t_zQu, ?_, ?_⟩, ht, ho⟩
  · exact zKeep zR_rel zK281 zK221 (L := [x1]) rfl rfl e1 e2 (by decide +kernel) (by decide +kernel) h_zR
  · exact zKeep zWd_rel zK281 zK221 (L := [x1]) rfl rfl e1 e2 (by decide +kernel) (by decide +kernel) h_zWd
  · exact zKeep zSe_rel zK281 zK221 (L := [x1]) rfl rfl e1 e2 (by decide +kernel) (by decide +kernel) h_zSe
  · exact zKeep zSs_rel zK281 zK221 (L := [x1]) rfl rfl e1 e2 (by decide +kernel) (by decide +kernel) h_zSs
  · exact zKeep zPa_rel zK281 zK221 (L := [x1]) rfl rfl e1 e2 (by decide +kernel) (by decide +kernel) h_zPa

theorem oQ_late {x1 x2 : Int} {c m : ZS} (h : zQ c m) : zBo zQ (f_w_late [x1, x2] c) (f_m_late [x1, x2] m) := by
  obtain ⟨h_zR, h_zFs, h_zWd, h_zSe, h_zVe, h_zPk, h_zPh, h_zHr, h_zSt, h_zSw, h_zTo, h_zQu, h_zSs, h_zPa⟩ := id h
  obtain ⟨k, v, c2, m2, e1, e2, hT, ht, ho⟩ := o_late h_zR ⟨h_zFs, h_zVe, h_zPk, h_zPh, h_zHr, h_zSt, h_zSw, h_zTo, h_zQu⟩
  obtain ⟨t_zFs, t_zVe, t_zPk, t_zPh, t_zHr, t_zSt, t_zSw, t_zTo, t_zQu⟩ := hT
  refine ⟨k, v, c2, m2, e1, e2, ⟨?_, t_zFs, ?_, ?_, t_zVe, t_zPk, t_zPh, t_zHr, t_zSt, t_zSw, t_zTo, t_zQu, ?_, ?_⟩, ht, ho⟩
  · exact zKeep zR_rel zK282 zK222 (L := [x1, x2]) rfl rfl e1 e2 (by decide +kernel) (by decide +kernel) h_zR
  · exact zKeep zWd_rel zK282 zK222 (L := [x1, x2]) rfl rfl e1 e2 (by decide +kernel) (by decide +kernel) h_zWd
  · exact zKeep zSe_rel zK282 zK222 (L := [x1, x2]) rfl rfl e1 e2 (by decide +kernel) (by decide +kernel) h_zSe
  · exact zKeep zSs_rel zK282 zK222 (L := [x1, x2]) rfl rfl e1 e2 (by decide +kernel) (by decide +kernel) h_zSs
  · exact zKeep zPa_rel zK282 zK222 (L := [x1, x2]) rfl rfl e1 e2 (by decide +kernel) (by decide +kernel) h_zPa

theorem oQ_withdraw {x1 : Int} {c m : ZS} (h : zQ c m) : zBo zQ (f_w_withdraw [x1] c) (f_m_withdraw [x1] m) := by
  obtain ⟨h_zR, h_zFs, h_zWd, h_zSe, h_zVe, h_zPk, h_zPh, h_zHr, h_zSt, h_zSw, h_zTo, h_zQu, h_zSs, h_zPa⟩ := id h
  obtain ⟨k, v, c2, m2, e1, e2, hT, ht, ho⟩ := o_withdraw h_zR ⟨h_zFs, h_zVe, h_zPk, h_zPh, h_zHr, h_zSt, h_zSw, h_zTo, h_zQu⟩ h_zWd
  obtain ⟨⟨t_zFs, t_zVe, t_zPk, t_zPh, t_zHr, t_zSt, t_zSw, t_zTo, t_zQu⟩, t_zWd⟩ := hT
  refine ⟨k, v, c2, m2, e1, e2, ⟨?_, t_zFs, t_zWd, ?_, t_zVe, t_zPk, t_zPh, t_zHr, t_zSt, t_zSw, t_zTo, t_zQu, ?_, ?_⟩, ht, ho⟩
  · exact zKeep zR_rel zK283 zK223 (L := [x1]) rfl rfl e1 e2 (by decide +kernel) (by decide +kernel) h_zR
  · exact zKeep zSe_rel zK283 zK223 (L := [x1]) rfl rfl e1 e2 (by decide +kernel) (by decide +kernel) h_zSe
  · exact zKeep zSs_rel zK283 zK223 (L := [x1]) rfl rfl e1 e2 (by decide +kernel) (by decide +kernel) h_zSs
  · exact zKeep zPa_rel zK283 zK223 (L := [x1]) rfl rfl e1 e2 (by decide +kernel) (by decide +kernel) h_zPa

theorem oQ_pass {x1 : Int} {c m : ZS} (h : zQ c m) : zBo zQ (f_w_pass [x1] c) (f_m_pass [x1] m) := by
  obtain ⟨h_zR, h_zFs, h_zWd, h_zSe, h_zVe, h_zPk, h_zPh, h_zHr, h_zSt, h_zSw, h_zTo, h_zQu, h_zSs, h_zPa⟩ := id h
  obtain ⟨k, v, c2, m2, e1, e2, hT, ht, ho⟩ := o_pass h_zPa
  have t_zPa := hT
  refine ⟨k, v, c2, m2, e1, e2, ⟨?_, ?_, ?_, ?_, ?_, ?_, ?_, ?_, ?_, ?_, ?_, ?_, ?_, t_zPa⟩, ht, ho⟩
  · exact zKeep zR_rel zK284 zK224 (L := [x1]) rfl rfl e1 e2 (by decide +kernel) (by decide +kernel) h_zR
  · exact zKeep zFs_rel zK284 zK224 (L := [x1]) rfl rfl e1 e2 (by decide +kernel) (by decide +kernel) h_zFs
  · exact zKeep zWd_rel zK284 zK224 (L := [x1]) rfl rfl e1 e2 (by decide +kernel) (by decide +kernel) h_zWd
  · exact zKeep zSe_rel zK284 zK224 (L := [x1]) rfl rfl e1 e2 (by decide +kernel) (by decide +kernel) h_zSe
  · exact zKeep zVe_rel zK284 zK224 (L := [x1]) rfl rfl e1 e2 (by decide +kernel) (by decide +kernel) h_zVe
  · exact zKeep zPk_rel zK284 zK224 (L := [x1]) rfl rfl e1 e2 (by decide +kernel) (by decide +kernel) h_zPk
  · exact zKeep zPh_rel zK284 zK224 (L := [x1]) rfl rfl e1 e2 (by decide +kernel) (by decide +kernel) h_zPh
  · exact zKeep zHr_rel zK284 zK224 (L := [x1]) rfl rfl e1 e2 (by decide +kernel) (by decide +kernel) h_zHr
  · exact zKeep zSt_rel zK284 zK224 (L := [x1]) rfl rfl e1 e2 (by decide +kernel) (by decide +kernel) h_zSt
  · exact zKeep zSw_rel zK284 zK224 (L := [x1]) rfl rfl e1 e2 (by decide +kernel) (by decide +kernel) h_zSw
  · exact zKeep zTo_rel zK284 zK224 (L := [x1]) rfl rfl e1 e2 (by decide +kernel) (by decide +kernel) h_zTo
  · exact zKeep zQu_rel zK284 zK224 (L := [x1]) rfl rfl e1 e2 (by decide +kernel) (by decide +kernel) h_zQu
  · exact zKeep zSs_rel zK284 zK224 (L := [x1]) rfl rfl e1 e2 (by decide +kernel) (by decide +kernel) h_zSs

theorem oQ_join {x1 x2 : Int} {c m : ZS} (h : zQ c m) : zBo zQ (f_w_join [x1, x2] c) (f_m_join [x1, x2] m) := by
  obtain ⟨h_zR, h_zFs, h_zWd, h_zSe, h_zVe, h_zPk, h_zPh, h_zHr, h_zSt, h_zSw, h_zTo, h_zQu, h_zSs, h_zPa⟩ := id h
  obtain ⟨k, v, c2, m2, e1, e2, hT, ht, ho⟩ := o_join h_zPa ⟨h_zFs, h_zVe, h_zPk, h_zPh, h_zHr, h_zSt, h_zSw, h_zTo, h_zQu⟩
  obtain ⟨t_zFs, t_zVe, t_zPk, t_zPh, t_zHr, t_zSt, t_zSw, t_zTo, t_zQu⟩ := hT
  refine ⟨k, v, c2, m2, e1, e2, ⟨?_, t_zFs, ?_, ?_, t_zVe, t_zPk, t_zPh, t_zHr, t_zSt, t_zSw, t_zTo, t_zQu, ?_, ?_⟩, ht, ho⟩
  · exact zKeep zR_rel zK285 zK226 (L := [x1, x2]) rfl rfl e1 e2 (by decide +kernel) (by decide +kernel) h_zR
  · exact zKeep zWd_rel zK285 zK226 (L := [x1, x2]) rfl rfl e1 e2 (by decide +kernel) (by decide +kernel) h_zWd
  · exact zKeep zSe_rel zK285 zK226 (L := [x1, x2]) rfl rfl e1 e2 (by decide +kernel) (by decide +kernel) h_zSe
  · exact zKeep zSs_rel zK285 zK226 (L := [x1, x2]) rfl rfl e1 e2 (by decide +kernel) (by decide +kernel) h_zSs
  · exact zKeep zPa_rel zK285 zK226 (L := [x1, x2]) rfl rfl e1 e2 (by decide +kernel) (by decide +kernel) h_zPa

theorem oQ_open {x1 : Int} {c m : ZS} (h : zQ c m) : zBo zQ (f_w_open [x1] c) (f_m_open [x1] m) := by
  obtain ⟨h_zR, h_zFs, h_zWd, h_zSe, h_zVe, h_zPk, h_zPh, h_zHr, h_zSt, h_zSw, h_zTo, h_zQu, h_zSs, h_zPa⟩ := id h
  obtain ⟨k, v, c2, m2, e1, e2, hT, ht, ho⟩ := o_open ⟨h_zFs, h_zVe, h_zPk, h_zPh, h_zHr, h_zSt, h_zSw, h_zTo, h_zQu⟩ h_zSs h_zPa
  obtain ⟨⟨t_zFs, t_zVe, t_zPk, t_zPh, t_zHr, t_zSt, t_zSw, t_zTo, t_zQu⟩, t_zSs⟩ := hT
  refine ⟨k, v, c2, m2, e1, e2, ⟨?_, t_zFs, ?_, ?_, t_zVe, t_zPk, t_zPh, t_zHr, t_zSt, t_zSw, t_zTo, t_zQu, t_zSs, ?_⟩, ht, ho⟩
  · exact zKeep zR_rel zK286 zK228 (L := [x1]) rfl rfl e1 e2 (by decide +kernel) (by decide +kernel) h_zR
  · exact zKeep zWd_rel zK286 zK228 (L := [x1]) rfl rfl e1 e2 (by decide +kernel) (by decide +kernel) h_zWd
  · exact zKeep zSe_rel zK286 zK228 (L := [x1]) rfl rfl e1 e2 (by decide +kernel) (by decide +kernel) h_zSe
  · exact zKeep zPa_rel zK286 zK228 (L := [x1]) rfl rfl e1 e2 (by decide +kernel) (by decide +kernel) h_zPa

theorem oQ_sectionOf {x1 : Int} {c m : ZS} (h : zQ c m) : zBo zQ (f_w_sectionOf [x1] c) (f_m_sectionOf [x1] m) := by
  obtain ⟨h_zR, h_zFs, h_zWd, h_zSe, h_zVe, h_zPk, h_zPh, h_zHr, h_zSt, h_zSw, h_zTo, h_zQu, h_zSs, h_zPa⟩ := id h
  obtain ⟨k, v, c2, m2, e1, e2, hT, ht, ho⟩ := o_sectionOf h_zR h_zFs
  have t_zFs := hT
  refine ⟨k, v, c2, m2, e1, e2, ⟨?_, t_zFs, ?_, ?_, ?_, ?_, ?_, ?_, ?_, ?_, ?_, ?_, ?_, ?_⟩, ht, ho⟩
  · exact zKeep zR_rel zK267 zK191 (L := [x1]) rfl rfl e1 e2 (by decide +kernel) (by decide +kernel) h_zR
  · exact zKeep zWd_rel zK267 zK191 (L := [x1]) rfl rfl e1 e2 (by decide +kernel) (by decide +kernel) h_zWd
  · exact zKeep zSe_rel zK267 zK191 (L := [x1]) rfl rfl e1 e2 (by decide +kernel) (by decide +kernel) h_zSe
  · exact zKeep zVe_rel zK267 zK191 (L := [x1]) rfl rfl e1 e2 (by decide +kernel) (by decide +kernel) h_zVe
  · exact zKeep zPk_rel zK267 zK191 (L := [x1]) rfl rfl e1 e2 (by decide +kernel) (by decide +kernel) h_zPk
  · exact zKeep zPh_rel zK267 zK191 (L := [x1]) rfl rfl e1 e2 (by decide +kernel) (by decide +kernel) h_zPh
  · exact zKeep zHr_rel zK267 zK191 (L := [x1]) rfl rfl e1 e2 (by decide +kernel) (by decide +kernel) h_zHr
  · exact zKeep zSt_rel zK267 zK191 (L := [x1]) rfl rfl e1 e2 (by decide +kernel) (by decide +kernel) h_zSt
  · exact zKeep zSw_rel zK267 zK191 (L := [x1]) rfl rfl e1 e2 (by decide +kernel) (by decide +kernel) h_zSw
  · exact zKeep zTo_rel zK267 zK191 (L := [x1]) rfl rfl e1 e2 (by decide +kernel) (by decide +kernel) h_zTo
  · exact zKeep zQu_rel zK267 zK191 (L := [x1]) rfl rfl e1 e2 (by decide +kernel) (by decide +kernel) h_zQu
  · exact zKeep zSs_rel zK267 zK191 (L := [x1]) rfl rfl e1 e2 (by decide +kernel) (by decide +kernel) h_zSs
  · exact zKeep zPa_rel zK267 zK191 (L := [x1]) rfl rfl e1 e2 (by decide +kernel) (by decide +kernel) h_zPa
