/-! words that every call of the library's own members needs -/
theorem w_arrI : inT (.arrayClass .int) := inT_of 230 (by decide +kernel) (by decide +kernel)
theorem w_obj1 : inT (.instanceMethod objectInit) := ⟨by decide +kernel, by decide +kernel⟩
theorem w_obj2 : inT (.code objectInit ⟨#[0xb1]⟩ 1 none) := ⟨by decide +kernel, by decide +kernel⟩
theorem w_math : inT (.initialized "java/lang/Math") := ⟨by decide +kernel, by decide +kernel⟩
theorem w_max1 : inT (.static Lib.Math.max.name) := ⟨by decide +kernel, by decide +kernel⟩
theorem w_max2 : inT (.code Lib.Math.max.name Lib.Math.max.code 2 (some .int)) := ⟨by decide +kernel, by decide +kernel⟩
theorem w_min1 : inT (.static Lib.Math.min.name) := ⟨by decide +kernel, by decide +kernel⟩
theorem w_min2 : inT (.code Lib.Math.min.name Lib.Math.min.code 2 (some .int)) := ⟨by decide +kernel, by decide +kernel⟩
theorem w_cp1 : inT (.native arraycopyName) := ⟨by decide +kernel, by decide +kernel⟩
theorem w_cp2 : inT (.static arraycopyName) := ⟨by decide +kernel, by decide +kernel⟩
theorem w_cp3 : inT (.initialized "java/lang/System") := ⟨by decide +kernel, by decide +kernel⟩
