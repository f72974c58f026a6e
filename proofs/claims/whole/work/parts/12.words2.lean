theorem mi_J0_length_8abf5 : MIt m_J0_length_8abf5 0 := ⟨in_t3 59 (by decide +kernel) rfl, in_t3 57 (by decide +kernel) rfl, in_t3 58 (by decide +kernel) rfl, in_t1 16 (by decide +kernel) rfl, ⟨(by decide +kernel), (by decide +kernel), (by decide +kernel)⟩, by decide⟩
theorem mi_J0_charAt_5068e : MIt m_J0_charAt_5068e 1 := ⟨in_t3 69 (by decide +kernel) rfl, in_t3 67 (by decide +kernel) rfl, in_t3 68 (by decide +kernel) rfl, in_t1 16 (by decide +kernel) rfl, ⟨(by decide +kernel), (by decide +kernel), (by decide +kernel)⟩, by decide⟩
theorem mi_J0_indexOf_0f7a4 : MIt m_J0_indexOf_0f7a4 1 := ⟨in_t3 115 (by decide +kernel) rfl, in_t3 113 (by decide +kernel) rfl, in_t3 114 (by decide +kernel) rfl, in_t1 16 (by decide +kernel) rfl, ⟨(by decide +kernel), (by decide +kernel), (by decide +kernel)⟩, by decide⟩
theorem mi_J0_indexOf_7cf53 : MIt m_J0_indexOf_7cf53 2 := ⟨in_t3 119 (by decide +kernel) rfl, in_t3 117 (by decide +kernel) rfl, in_t3 118 (by decide +kernel) rfl, in_t1 16 (by decide +kernel) rfl, ⟨(by decide +kernel), (by decide +kernel), (by decide +kernel)⟩, by decide⟩
theorem mi_J0_coder_7d493 : MIt m_J0_coder_7d493 0 := ⟨in_t3 63 (by decide +kernel) rfl, in_t3 61 (by decide +kernel) rfl, in_t3 62 (by decide +kernel) rfl, in_t1 16 (by decide +kernel) rfl, ⟨(by decide +kernel), (by decide +kernel), (by decide +kernel)⟩, by decide⟩
theorem mi_J0_isLatin1_aae02 : MIt m_J0_isLatin1_aae02 0 := ⟨in_t3 73 (by decide +kernel) rfl, in_t3 71 (by decide +kernel) rfl, in_t3 72 (by decide +kernel) rfl, in_t1 16 (by decide +kernel) rfl, ⟨(by decide +kernel), (by decide +kernel), (by decide +kernel)⟩, by decide⟩
theorem fs_J0_38 : Cond.fieldLink RJ0 38 "java/lang/String" "COMPACT_STRINGS" "Z" ∈ wT := in_t3 64 (by decide +kernel) rfl
theorem fs_J0_1053 : Cond.fieldLink RJ0 1053 "jdk/internal/util/Preconditions" "SIOOBE_FORMATTER" "Ljava/util/function/BiFunction;" ∈ wT := in_t3 80 (by decide +kernel) rfl
theorem fs_J0_9 : Cond.fieldLink RJ0 9 "java/lang/String" "value" "[B" ∈ wT := in_t9 152 (by decide +kernel) rfl
theorem fs_J0_15 : Cond.fieldLink RJ0 15 "java/lang/String" "coder" "B" ∈ wT := in_t9 153 (by decide +kernel) rfl
theorem mna_X6_9 : Cond.classLink RX6 9 "[[J" ∈ wT := in_t1 161 (by decide +kernel) rfl
theorem lk_ne {x y : Int32} {k : Int} (hk : y.toInt = k) (h : ¬ x = y) : ¬ x.toInt = k := fun q => h (Int32.toInt_inj.mp (q.trans hk.symm))
theorem lk_ne2 {x y : Int32} {k : Int} (hk : y.toInt = k) (h : ¬ x = y) : ¬ k = x.toInt := fun q => h (Int32.toInt_inj.mp (q.symm.trans hk.symm))
