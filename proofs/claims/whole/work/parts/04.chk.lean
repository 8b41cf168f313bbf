theorem ck_0 : (List.range' 0 12).all (fun y => (List.range (lnOf y)).all (fun pc => chkM y pc)) = true := by decide +kernel
theorem ck_12 : (List.range' 12 6).all (fun y => (List.range (lnOf y)).all (fun pc => chkM y pc)) = true := by decide +kernel
theorem ck_18 : (List.range' 18 10).all (fun y => (List.range (lnOf y)).all (fun pc => chkM y pc)) = true := by decide +kernel
theorem ck_28 : (List.range' 28 12).all (fun y => (List.range (lnOf y)).all (fun pc => chkM y pc)) = true := by decide +kernel
theorem ck_40 : (List.range' 40 13).all (fun y => (List.range (lnOf y)).all (fun pc => chkM y pc)) = true := by decide +kernel
theorem ck_53 : (List.range' 53 16).all (fun y => (List.range (lnOf y)).all (fun pc => chkM y pc)) = true := by decide +kernel
theorem ck_69 : (List.range' 69 21).all (fun y => (List.range (lnOf y)).all (fun pc => chkM y pc)) = true := by decide +kernel
theorem ck_90 : (List.range' 90 12).all (fun y => (List.range (lnOf y)).all (fun pc => chkM y pc)) = true := by decide +kernel
theorem ck_102 : (List.range' 102 12).all (fun y => (List.range (lnOf y)).all (fun pc => chkM y pc)) = true := by decide +kernel
theorem ck_114 : (List.range' 114 11).all (fun y => (List.range (lnOf y)).all (fun pc => chkM y pc)) = true := by decide +kernel
theorem ck_125 : (List.range' 125 10).all (fun y => (List.range (lnOf y)).all (fun pc => chkM y pc)) = true := by decide +kernel
theorem ck_135 : (List.range' 135 12).all (fun y => (List.range (lnOf y)).all (fun pc => chkM y pc)) = true := by decide +kernel
theorem ck_147 : (List.range' 147 15).all (fun y => (List.range (lnOf y)).all (fun pc => chkM y pc)) = true := by decide +kernel
theorem ck_162 : (List.range' 162 14).all (fun y => (List.range (lnOf y)).all (fun pc => chkM y pc)) = true := by decide +kernel
theorem ck_176 : (List.range' 176 5).all (fun y => (List.range (lnOf y)).all (fun pc => chkM y pc)) = true := by decide +kernel
theorem ck_181 : (List.range' 181 10).all (fun y => (List.range (lnOf y)).all (fun pc => chkM y pc)) = true := by decide +kernel
theorem ck_191 : (List.range' 191 9).all (fun y => (List.range (lnOf y)).all (fun pc => chkM y pc)) = true := by decide +kernel
theorem ck_200 : (List.range' 200 8).all (fun y => (List.range (lnOf y)).all (fun pc => chkM y pc)) = true := by decide +kernel
theorem ck_208 : (List.range' 208 8).all (fun y => (List.range (lnOf y)).all (fun pc => chkM y pc)) = true := by decide +kernel
theorem ck_216 : (List.range' 216 5).all (fun y => (List.range (lnOf y)).all (fun pc => chkM y pc)) = true := by decide +kernel
theorem ck_221 : (List.range' 221 10).all (fun y => (List.range (lnOf y)).all (fun pc => chkM y pc)) = true := by decide +kernel
theorem ck_231 : (List.range' 231 4).all (fun y => (List.range (lnOf y)).all (fun pc => chkM y pc)) = true := by decide +kernel
theorem ck_235 : (List.range' 235 4).all (fun y => (List.range (lnOf y)).all (fun pc => chkM y pc)) = true := by decide +kernel
theorem ck_239 : (List.range' 239 2).all (fun y => (List.range (lnOf y)).all (fun pc => chkM y pc)) = true := by decide +kernel
theorem ck_241 : (List.range' 241 9).all (fun y => (List.range (lnOf y)).all (fun pc => chkM y pc)) = true := by decide +kernel
theorem ck_250 : (List.range' 250 3).all (fun y => (List.range (lnOf y)).all (fun pc => chkM y pc)) = true := by decide +kernel
theorem ckl_0 : (List.range' 0 300).all (fun pc => chkM 253 pc) = true := by decide +kernel
theorem ckl_300 : (List.range' 300 300).all (fun pc => chkM 253 pc) = true := by decide +kernel
theorem ckl_600 : (List.range' 600 300).all (fun pc => chkM 253 pc) = true := by decide +kernel
theorem ckl_900 : (List.range' 900 300).all (fun pc => chkM 253 pc) = true := by decide +kernel
theorem ckl_1200 : (List.range' 1200 27).all (fun pc => chkM 253 pc) = true := by decide +kernel
theorem ck_all {y pc : Nat} (hy : y < 254) (hp : pc < lnOf y) : chkM y pc = true := by
  by_cases h0 : y < 12
  · exact List.all_eq_true.mp (List.all_eq_true.mp ck_0 y (by simp [List.mem_range'_1]; omega)) pc (List.mem_range.mpr hp)
  by_cases h12 : y < 18
  · exact List.all_eq_true.mp (List.all_eq_true.mp ck_12 y (by simp [List.mem_range'_1]; omega)) pc (List.mem_range.mpr hp)
  by_cases h18 : y < 28
  · exact List.all_eq_true.mp (List.all_eq_true.mp ck_18 y (by simp [List.mem_range'_1]; omega)) pc (List.mem_range.mpr hp)
  by_cases h28 : y < 40
  · exact List.all_eq_true.mp (List.all_eq_true.mp ck_28 y (by simp [List.mem_range'_1]; omega)) pc (List.mem_range.mpr hp)
  by_cases h40 : y < 53
  · exact List.all_eq_true.mp (List.all_eq_true.mp ck_40 y (by simp [List.mem_range'_1]; omega)) pc (List.mem_range.mpr hp)
  by_cases h53 : y < 69
  · exact List.all_eq_true.mp (List.all_eq_true.mp ck_53 y (by simp [List.mem_range'_1]; omega)) pc (List.mem_range.mpr hp)
  by_cases h69 : y < 90
  · exact List.all_eq_true.mp (List.all_eq_true.mp ck_69 y (by simp [List.mem_range'_1]; omega)) pc (List.mem_range.mpr hp)
  by_cases h90 : y < 102
  · exact List.all_eq_true.mp (List.all_eq_true.mp ck_90 y (by simp [List.mem_range'_1]; omega)) pc (List.mem_range.mpr hp)
  by_cases h102 : y < 114
  · exact List.all_eq_true.mp (List.all_eq_true.mp ck_102 y (by simp [List.mem_range'_1]; omega)) pc (List.mem_range.mpr hp)
  by_cases h114 : y < 125
  · exact List.all_eq_true.mp (List.all_eq_true.mp ck_114 y (by simp [List.mem_range'_1]; omega)) pc (List.mem_range.mpr hp)
  by_cases h125 : y < 135
  · exact List.all_eq_true.mp (List.all_eq_true.mp ck_125 y (by simp [List.mem_range'_1]; omega)) pc (List.mem_range.mpr hp)
  by_cases h135 : y < 147
  · exact List.all_eq_true.mp (List.all_eq_true.mp ck_135 y (by simp [List.mem_range'_1]; omega)) pc (List.mem_range.mpr hp)
  by_cases h147 : y < 162
  · exact List.all_eq_true.mp (List.all_eq_true.mp ck_147 y (by simp [List.mem_range'_1]; omega)) pc (List.mem_range.mpr hp)
  by_cases h162 : y < 176
  · exact List.all_eq_true.mp (List.all_eq_true.mp ck_162 y (by simp [List.mem_range'_1]; omega)) pc (List.mem_range.mpr hp)
  by_cases h176 : y < 181
  · exact List.all_eq_true.mp (List.all_eq_true.mp ck_176 y (by simp [List.mem_range'_1]; omega)) pc (List.mem_range.mpr hp)
  by_cases h181 : y < 191
  · exact List.all_eq_true.mp (List.all_eq_true.mp ck_181 y (by simp [List.mem_range'_1]; omega)) pc (List.mem_range.mpr hp)
  by_cases h191 : y < 200
  · exact List.all_eq_true.mp (List.all_eq_true.mp ck_191 y (by simp [List.mem_range'_1]; omega)) pc (List.mem_range.mpr hp)
  by_cases h200 : y < 208
  · exact List.all_eq_true.mp (List.all_eq_true.mp ck_200 y (by simp [List.mem_range'_1]; omega)) pc (List.mem_range.mpr hp)
  by_cases h208 : y < 216
  · exact List.all_eq_true.mp (List.all_eq_true.mp ck_208 y (by simp [List.mem_range'_1]; omega)) pc (List.mem_range.mpr hp)
  by_cases h216 : y < 221
  · exact List.all_eq_true.mp (List.all_eq_true.mp ck_216 y (by simp [List.mem_range'_1]; omega)) pc (List.mem_range.mpr hp)
  by_cases h221 : y < 231
  · exact List.all_eq_true.mp (List.all_eq_true.mp ck_221 y (by simp [List.mem_range'_1]; omega)) pc (List.mem_range.mpr hp)
  by_cases h231 : y < 235
  · exact List.all_eq_true.mp (List.all_eq_true.mp ck_231 y (by simp [List.mem_range'_1]; omega)) pc (List.mem_range.mpr hp)
  by_cases h235 : y < 239
  · exact List.all_eq_true.mp (List.all_eq_true.mp ck_235 y (by simp [List.mem_range'_1]; omega)) pc (List.mem_range.mpr hp)
  by_cases h239 : y < 241
  · exact List.all_eq_true.mp (List.all_eq_true.mp ck_239 y (by simp [List.mem_range'_1]; omega)) pc (List.mem_range.mpr hp)
  by_cases h241 : y < 250
  · exact List.all_eq_true.mp (List.all_eq_true.mp ck_241 y (by simp [List.mem_range'_1]; omega)) pc (List.mem_range.mpr hp)
  by_cases h250 : y < 253
  · exact List.all_eq_true.mp (List.all_eq_true.mp ck_250 y (by simp [List.mem_range'_1]; omega)) pc (List.mem_range.mpr hp)
  have e : y = 253 := by omega
  subst e
  have hp : pc < 1227 := hp
  by_cases g0 : pc < 300
  · exact List.all_eq_true.mp ckl_0 pc (by simp [List.mem_range'_1]; omega)
  by_cases g300 : pc < 600
  · exact List.all_eq_true.mp ckl_300 pc (by simp [List.mem_range'_1]; omega)
  by_cases g600 : pc < 900
  · exact List.all_eq_true.mp ckl_600 pc (by simp [List.mem_range'_1]; omega)
  by_cases g900 : pc < 1200
  · exact List.all_eq_true.mp ckl_900 pc (by simp [List.mem_range'_1]; omega)
  by_cases g1200 : pc < 1227
  · exact List.all_eq_true.mp ckl_1200 pc (by simp [List.mem_range'_1]; omega)
  omega
