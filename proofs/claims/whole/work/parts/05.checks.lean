/-! the tables hold: entry by entry, by places -/
theorem am_w1 {w : Cond} (i : Nat) (h : tables_1_1[i]? = some w) (hg : goodWord w = true) : w ∈ am_words := am_in_words (List.mem_append_right _ (show w ∈ tables_1 from List.mem_append_left _ (List.mem_of_getElem? h))) hg
theorem am_w2 {w : Cond} (i : Nat) (h : tables_1_2[i]? = some w) (hg : goodWord w = true) : w ∈ am_words := am_in_words (List.mem_append_right _ (show w ∈ tables_1 from List.mem_append_right _ (List.mem_append_left _ (List.mem_of_getElem? h)))) hg
theorem am_w3 {w : Cond} (i : Nat) (h : tables_1_3[i]? = some w) (hg : goodWord w = true) : w ∈ am_words := am_in_words (List.mem_append_right _ (show w ∈ tables_1 from List.mem_append_right _ (List.mem_append_right _ (List.mem_append_left _ (List.mem_of_getElem? h))))) hg
theorem am_w4 {w : Cond} (i : Nat) (h : tables_1_4[i]? = some w) (hg : goodWord w = true) : w ∈ am_words := am_in_words (List.mem_append_right _ (show w ∈ tables_1 from List.mem_append_right _ (List.mem_append_right _ (List.mem_append_right _ (List.mem_append_left _ (List.mem_of_getElem? h)))))) hg
theorem am_w5 {w : Cond} (i : Nat) (h : tables_1_5[i]? = some w) (hg : goodWord w = true) : w ∈ am_words := am_in_words (List.mem_append_right _ (show w ∈ tables_1 from List.mem_append_right _ (List.mem_append_right _ (List.mem_append_right _ (List.mem_append_right _ (List.mem_of_getElem? h)))))) hg
theorem am_wp1 {y : MethodName} {n : Nat} (i : Nat) (h : lw_privs_1[i]? = some (y, n)) (hg : goodWord (.selects y.cls y y) = true) : Cond.selects y.cls y y ∈ am_words := am_in_words (List.mem_append_left _ (List.mem_map.mpr ⟨(y, n), (show (y, n) ∈ lw_privs from List.mem_append_left _ (List.mem_of_getElem? h)), rfl⟩)) hg
theorem am_wp2 {y : MethodName} {n : Nat} (i : Nat) (h : lw_privs_2[i]? = some (y, n)) (hg : goodWord (.selects y.cls y y) = true) : Cond.selects y.cls y y ∈ am_words := am_in_words (List.mem_append_left _ (List.mem_map.mpr ⟨(y, n), (show (y, n) ∈ lw_privs from List.mem_append_right _ (List.mem_append_left _ (List.mem_of_getElem? h))), rfl⟩)) hg
theorem am_wp3 {y : MethodName} {n : Nat} (i : Nat) (h : lw_privs_3[i]? = some (y, n)) (hg : goodWord (.selects y.cls y y) = true) : Cond.selects y.cls y y ∈ am_words := am_in_words (List.mem_append_left _ (List.mem_map.mpr ⟨(y, n), (show (y, n) ∈ lw_privs from List.mem_append_right _ (List.mem_append_right _ (List.mem_append_left _ (List.mem_of_getElem? h)))), rfl⟩)) hg
theorem am_wp4 {y : MethodName} {n : Nat} (i : Nat) (h : lw_privs_4[i]? = some (y, n)) (hg : goodWord (.selects y.cls y y) = true) : Cond.selects y.cls y y ∈ am_words := am_in_words (List.mem_append_left _ (List.mem_map.mpr ⟨(y, n), (show (y, n) ∈ lw_privs from List.mem_append_right _ (List.mem_append_right _ (List.mem_append_right _ (List.mem_append_left _ (List.mem_of_getElem? h))))), rfl⟩)) hg
theorem am_wp5 {y : MethodName} {n : Nat} (i : Nat) (h : lw_privs_5[i]? = some (y, n)) (hg : goodWord (.selects y.cls y y) = true) : Cond.selects y.cls y y ∈ am_words := am_in_words (List.mem_append_left _ (List.mem_map.mpr ⟨(y, n), (show (y, n) ∈ lw_privs from List.mem_append_right _ (List.mem_append_right _ (List.mem_append_right _ (List.mem_append_right _ (List.mem_append_left _ (List.mem_of_getElem? h)))))), rfl⟩)) hg
theorem am_wp6 {y : MethodName} {n : Nat} (i : Nat) (h : lw_privs_6[i]? = some (y, n)) (hg : goodWord (.selects y.cls y y) = true) : Cond.selects y.cls y y ∈ am_words := am_in_words (List.mem_append_left _ (List.mem_map.mpr ⟨(y, n), (show (y, n) ∈ lw_privs from List.mem_append_right _ (List.mem_append_right _ (List.mem_append_right _ (List.mem_append_right _ (List.mem_append_right _ (List.mem_of_getElem? h)))))), rfl⟩)) hg
def am_okM (mj : Nat) : Prop := Cond.code (am_name mj) (am_code mj) (am_maxL mj) (am_ret mj) ∈ am_words ∧ Cond.initialized (am_name mj).cls ∈ am_words ∧ (am_name mj).cls = am_cn (am_mc mj) ∧ (parseMethodDescriptor (am_name mj).desc).map (fun d => d.parameters.length) = some (am_na mj)
theorem am_pd0 : (parseMethodDescriptor "()I").map (fun d => d.parameters.length) = some 0 := by decide +kernel
theorem am_pd1 : (parseMethodDescriptor "()V").map (fun d => d.parameters.length) = some 0 := by decide +kernel
theorem am_pd2 : (parseMethodDescriptor "()Z").map (fun d => d.parameters.length) = some 0 := by decide +kernel
theorem am_pd3 : (parseMethodDescriptor "(I)I").map (fun d => d.parameters.length) = some 1 := by decide +kernel
theorem am_pd4 : (parseMethodDescriptor "(I)V").map (fun d => d.parameters.length) = some 1 := by decide +kernel
theorem am_pd5 : (parseMethodDescriptor "(I)Z").map (fun d => d.parameters.length) = some 1 := by decide +kernel
theorem am_pd6 : (parseMethodDescriptor "(II)I").map (fun d => d.parameters.length) = some 2 := by decide +kernel
theorem am_pd7 : (parseMethodDescriptor "(II)J").map (fun d => d.parameters.length) = some 2 := by decide +kernel
theorem am_pd8 : (parseMethodDescriptor "(II)V").map (fun d => d.parameters.length) = some 2 := by decide +kernel
theorem am_pd9 : (parseMethodDescriptor "(II)Z").map (fun d => d.parameters.length) = some 2 := by decide +kernel
theorem am_pd10 : (parseMethodDescriptor "(III)I").map (fun d => d.parameters.length) = some 3 := by decide +kernel
theorem am_pd11 : (parseMethodDescriptor "(III)V").map (fun d => d.parameters.length) = some 3 := by decide +kernel
theorem am_pd12 : (parseMethodDescriptor "(III)Z").map (fun d => d.parameters.length) = some 3 := by decide +kernel
theorem am_pd13 : (parseMethodDescriptor "(IIII)V").map (fun d => d.parameters.length) = some 4 := by decide +kernel
theorem am_pd14 : (parseMethodDescriptor "(IIIII)I").map (fun d => d.parameters.length) = some 5 := by decide +kernel
theorem am_pd15 : (parseMethodDescriptor "(IIZ)V").map (fun d => d.parameters.length) = some 3 := by decide +kernel
theorem am_pd16 : (parseMethodDescriptor "(JJ)J").map (fun d => d.parameters.length) = some 2 := by decide +kernel
theorem am_pd17 : (parseMethodDescriptor "(LThirdSheets$Space;)I").map (fun d => d.parameters.length) = some 1 := by decide +kernel
theorem am_pd18 : (parseMethodDescriptor "(LThirdSheets$Space;)V").map (fun d => d.parameters.length) = some 1 := by decide +kernel
theorem am_pd19 : (parseMethodDescriptor "(LThirdSheets$Space;)Z").map (fun d => d.parameters.length) = some 1 := by decide +kernel
theorem am_pd20 : (parseMethodDescriptor "(LThirdSheets$Space;I)Z").map (fun d => d.parameters.length) = some 2 := by decide +kernel
theorem am_pd21 : (parseMethodDescriptor "(LThirdSheets$Space;[I)V").map (fun d => d.parameters.length) = some 2 := by decide +kernel
theorem am_pd22 : (parseMethodDescriptor "(LThirdSheets$Space;[II)V").map (fun d => d.parameters.length) = some 3 := by decide +kernel
theorem am_pd23 : (parseMethodDescriptor "(Z)I").map (fun d => d.parameters.length) = some 1 := by decide +kernel
theorem am_pd24 : (parseMethodDescriptor "([I)I").map (fun d => d.parameters.length) = some 1 := by decide +kernel
theorem am_pd25 : (parseMethodDescriptor "([I)Z").map (fun d => d.parameters.length) = some 1 := by decide +kernel
theorem am_pd26 : (parseMethodDescriptor "([II)V").map (fun d => d.parameters.length) = some 2 := by decide +kernel
theorem am_pd27 : (parseMethodDescriptor "([II)Z").map (fun d => d.parameters.length) = some 2 := by decide +kernel
theorem am_pd28 : (parseMethodDescriptor "([III)I").map (fun d => d.parameters.length) = some 3 := by decide +kernel
theorem am_pd29 : (parseMethodDescriptor "([III)V").map (fun d => d.parameters.length) = some 3 := by decide +kernel
theorem am_pd30 : (parseMethodDescriptor "([IIII)I").map (fun d => d.parameters.length) = some 4 := by decide +kernel
theorem am_pd31 : (parseMethodDescriptor "([IIII)Z").map (fun d => d.parameters.length) = some 4 := by decide +kernel
theorem am_pd32 : (parseMethodDescriptor "([I[I)Z").map (fun d => d.parameters.length) = some 2 := by decide +kernel
theorem am_pd33 : (parseMethodDescriptor "([JJ)V").map (fun d => d.parameters.length) = some 2 := by decide +kernel
theorem am_M0 : am_okM 0 := ⟨(am_w1 30 rfl rfl), (am_w1 3 rfl rfl), rfl, am_pd4⟩
theorem am_M1 : am_okM 1 := ⟨(am_w2 16 rfl rfl), (am_w1 3 rfl rfl), rfl, am_pd4⟩
theorem am_M2 : am_okM 2 := ⟨(am_w2 35 rfl rfl), (am_w1 3 rfl rfl), rfl, am_pd3⟩
theorem am_M3 : am_okM 3 := ⟨(am_w2 31 rfl rfl), (am_w1 3 rfl rfl), rfl, am_pd15⟩
theorem am_M4 : am_okM 4 := ⟨(am_w2 56 rfl rfl), (am_w1 3 rfl rfl), rfl, am_pd1⟩
theorem am_M5 : am_okM 5 := ⟨(am_w2 115 rfl rfl), (am_w1 3 rfl rfl), rfl, am_pd5⟩
theorem am_M6 : am_okM 6 := ⟨(am_w2 164 rfl rfl), (am_w1 3 rfl rfl), rfl, am_pd2⟩
theorem am_M7 : am_okM 7 := ⟨(am_w1 144 rfl rfl), (am_w1 6 rfl rfl), rfl, am_pd1⟩
theorem am_M8 : am_okM 8 := ⟨(am_w3 12 rfl rfl), (am_w1 6 rfl rfl), rfl, am_pd18⟩
theorem am_M9 : am_okM 9 := ⟨(am_w3 16 rfl rfl), (am_w1 6 rfl rfl), rfl, am_pd4⟩
theorem am_M10 : am_okM 10 := ⟨(am_w3 22 rfl rfl), (am_w1 6 rfl rfl), rfl, am_pd13⟩
theorem am_M11 : am_okM 11 := ⟨(am_w3 31 rfl rfl), (am_w1 6 rfl rfl), rfl, am_pd1⟩
theorem am_M12 : am_okM 12 := ⟨(am_w3 35 rfl rfl), (am_w1 6 rfl rfl), rfl, am_pd4⟩
theorem am_M13 : am_okM 13 := ⟨(am_w3 42 rfl rfl), (am_w1 6 rfl rfl), rfl, am_pd9⟩
theorem am_M14 : am_okM 14 := ⟨(am_w3 45 rfl rfl), (am_w1 6 rfl rfl), rfl, am_pd5⟩
theorem am_M15 : am_okM 15 := ⟨(am_w3 49 rfl rfl), (am_w1 6 rfl rfl), rfl, am_pd8⟩
theorem am_M16 : am_okM 16 := ⟨(am_w3 52 rfl rfl), (am_w1 6 rfl rfl), rfl, am_pd6⟩
theorem am_M17 : am_okM 17 := ⟨(am_w3 56 rfl rfl), (am_w1 6 rfl rfl), rfl, am_pd1⟩
theorem am_M18 : am_okM 18 := ⟨(am_w3 60 rfl rfl), (am_w1 6 rfl rfl), rfl, am_pd1⟩
theorem am_M19 : am_okM 19 := ⟨(am_w3 64 rfl rfl), (am_w1 6 rfl rfl), rfl, am_pd32⟩
theorem am_M20 : am_okM 20 := ⟨(am_w1 118 rfl rfl), (am_w1 5 rfl rfl), rfl, am_pd1⟩
theorem am_M21 : am_okM 21 := ⟨(am_w2 179 rfl rfl), (am_w1 5 rfl rfl), rfl, am_pd18⟩
theorem am_M22 : am_okM 22 := ⟨(am_w3 0 rfl rfl), (am_w1 5 rfl rfl), rfl, am_pd3⟩
theorem am_M23 : am_okM 23 := ⟨(am_w2 183 rfl rfl), (am_w1 5 rfl rfl), rfl, am_pd18⟩
theorem am_M24 : am_okM 24 := ⟨(am_w2 188 rfl rfl), (am_w1 5 rfl rfl), rfl, am_pd20⟩
theorem am_M25 : am_okM 25 := ⟨(am_w2 201 rfl rfl), (am_w1 5 rfl rfl), rfl, am_pd5⟩
theorem am_M26 : am_okM 26 := ⟨(am_w2 206 rfl rfl), (am_w1 5 rfl rfl), rfl, am_pd5⟩
theorem am_M27 : am_okM 27 := ⟨(am_w2 213 rfl rfl), (am_w1 5 rfl rfl), rfl, am_pd8⟩
theorem am_M28 : am_okM 28 := ⟨(am_w2 217 rfl rfl), (am_w1 5 rfl rfl), rfl, am_pd8⟩
theorem am_M29 : am_okM 29 := ⟨(am_w2 221 rfl rfl), (am_w1 5 rfl rfl), rfl, am_pd5⟩
theorem am_M30 : am_okM 30 := ⟨(am_w2 228 rfl rfl), (am_w1 5 rfl rfl), rfl, am_pd5⟩
theorem am_M31 : am_okM 31 := ⟨(am_w2 224 rfl rfl), (am_w1 5 rfl rfl), rfl, am_pd16⟩
theorem am_M32 : am_okM 32 := ⟨(am_w2 232 rfl rfl), (am_w1 5 rfl rfl), rfl, am_pd5⟩
theorem am_M33 : am_okM 33 := ⟨(am_w2 236 rfl rfl), (am_w1 5 rfl rfl), rfl, am_pd8⟩
theorem am_M34 : am_okM 34 := ⟨(am_w1 190 rfl rfl), (am_w1 8 rfl rfl), rfl, am_pd1⟩
theorem am_M35 : am_okM 35 := ⟨(am_w3 164 rfl rfl), (am_w1 8 rfl rfl), rfl, am_pd21⟩
theorem am_M36 : am_okM 36 := ⟨(am_w3 168 rfl rfl), (am_w1 8 rfl rfl), rfl, am_pd24⟩
theorem am_M37 : am_okM 37 := ⟨(am_w3 175 rfl rfl), (am_w1 8 rfl rfl), rfl, am_pd22⟩
theorem am_M38 : am_okM 38 := ⟨(am_w3 186 rfl rfl), (am_w1 8 rfl rfl), rfl, am_pd30⟩
theorem am_M39 : am_okM 39 := ⟨(am_w3 179 rfl rfl), (am_w1 8 rfl rfl), rfl, am_pd31⟩
theorem am_M40 : am_okM 40 := ⟨(am_w3 182 rfl rfl), (am_w1 8 rfl rfl), rfl, am_pd9⟩
theorem am_M41 : am_okM 41 := ⟨(am_w3 193 rfl rfl), (am_w1 8 rfl rfl), rfl, am_pd4⟩
theorem am_M42 : am_okM 42 := ⟨(am_w3 197 rfl rfl), (am_w1 8 rfl rfl), rfl, am_pd21⟩
theorem am_M43 : am_okM 43 := ⟨(am_w3 202 rfl rfl), (am_w1 8 rfl rfl), rfl, am_pd21⟩
theorem am_M44 : am_okM 44 := ⟨(am_w1 179 rfl rfl), (am_w1 7 rfl rfl), rfl, am_pd1⟩
theorem am_M45 : am_okM 45 := ⟨(am_w2 3 rfl rfl), (am_w1 7 rfl rfl), rfl, am_pd1⟩
theorem am_M46 : am_okM 46 := ⟨(am_w3 101 rfl rfl), (am_w1 7 rfl rfl), rfl, am_pd0⟩
theorem am_M47 : am_okM 47 := ⟨(am_w3 151 rfl rfl), (am_w1 7 rfl rfl), rfl, am_pd0⟩
theorem am_M48 : am_okM 48 := ⟨(am_w3 88 rfl rfl), (am_w1 7 rfl rfl), rfl, am_pd27⟩
theorem am_M49 : am_okM 49 := ⟨(am_w3 93 rfl rfl), (am_w1 7 rfl rfl), rfl, am_pd26⟩
theorem am_M50 : am_okM 50 := ⟨(am_w3 127 rfl rfl), (am_w1 7 rfl rfl), rfl, am_pd19⟩
theorem am_M51 : am_okM 51 := ⟨(am_w3 109 rfl rfl), (am_w1 7 rfl rfl), rfl, am_pd19⟩
theorem am_M52 : am_okM 52 := ⟨(am_w3 114 rfl rfl), (am_w1 7 rfl rfl), rfl, am_pd20⟩
theorem am_M53 : am_okM 53 := ⟨(am_w3 119 rfl rfl), (am_w1 7 rfl rfl), rfl, am_pd2⟩
theorem am_M54 : am_okM 54 := ⟨(am_w3 133 rfl rfl), (am_w1 7 rfl rfl), rfl, am_pd17⟩
theorem am_M55 : am_okM 55 := ⟨(am_w3 137 rfl rfl), (am_w1 7 rfl rfl), rfl, am_pd17⟩
theorem am_M56 : am_okM 56 := ⟨(am_w3 146 rfl rfl), (am_w1 7 rfl rfl), rfl, am_pd17⟩
theorem am_M57 : am_okM 57 := ⟨(am_w1 24 rfl rfl), (am_w1 2 rfl rfl), rfl, am_pd1⟩
theorem am_M58 : am_okM 58 := ⟨(am_w1 239 rfl rfl), (am_w1 2 rfl rfl), rfl, am_pd1⟩
theorem am_M59 : am_okM 59 := ⟨(am_w2 99 rfl rfl), (am_w1 2 rfl rfl), rfl, am_pd1⟩
theorem am_M60 : am_okM 60 := ⟨(am_w2 75 rfl rfl), (am_w1 2 rfl rfl), rfl, am_pd5⟩
theorem am_M61 : am_okM 61 := ⟨(am_w2 79 rfl rfl), (am_w1 2 rfl rfl), rfl, am_pd11⟩
theorem am_M62 : am_okM 62 := ⟨(am_w2 83 rfl rfl), (am_w1 2 rfl rfl), rfl, am_pd13⟩
theorem am_M63 : am_okM 63 := ⟨(am_w2 91 rfl rfl), (am_w1 2 rfl rfl), rfl, am_pd4⟩
theorem am_M64 : am_okM 64 := ⟨(am_w2 23 rfl rfl), (am_w1 2 rfl rfl), rfl, am_pd5⟩
theorem am_M65 : am_okM 65 := ⟨(am_w2 12 rfl rfl), (am_w1 2 rfl rfl), rfl, am_pd1⟩
theorem am_M66 : am_okM 66 := ⟨(am_w2 27 rfl rfl), (am_w1 2 rfl rfl), rfl, am_pd4⟩
theorem am_M67 : am_okM 67 := ⟨(am_w2 42 rfl rfl), (am_w1 2 rfl rfl), rfl, am_pd4⟩
theorem am_M68 : am_okM 68 := ⟨(am_w2 52 rfl rfl), (am_w1 2 rfl rfl), rfl, am_pd5⟩
theorem am_M69 : am_okM 69 := ⟨(am_w2 146 rfl rfl), (am_w1 2 rfl rfl), rfl, am_pd0⟩
theorem am_M70 : am_okM 70 := ⟨(am_w2 150 rfl rfl), (am_w1 2 rfl rfl), rfl, am_pd0⟩
theorem am_M71 : am_okM 71 := ⟨(am_w2 154 rfl rfl), (am_w1 2 rfl rfl), rfl, am_pd0⟩
theorem am_M72 : am_okM 72 := ⟨(am_w2 170 rfl rfl), (am_w1 2 rfl rfl), rfl, am_pd2⟩
theorem am_M73 : am_okM 73 := ⟨(am_w2 159 rfl rfl), (am_w1 2 rfl rfl), rfl, am_pd2⟩
theorem am_M74 : am_okM 74 := ⟨(am_w2 124 rfl rfl), (am_w1 2 rfl rfl), rfl, am_pd3⟩
theorem am_M75 : am_okM 75 := ⟨(am_w2 128 rfl rfl), (am_w1 2 rfl rfl), rfl, am_pd3⟩
theorem am_M76 : am_okM 76 := ⟨(am_w2 133 rfl rfl), (am_w1 2 rfl rfl), rfl, am_pd3⟩
theorem am_M77 : am_okM 77 := ⟨(am_w2 138 rfl rfl), (am_w1 2 rfl rfl), rfl, am_pd3⟩
theorem am_M78 : am_okM 78 := ⟨(am_w1 16 rfl rfl), (am_w1 1 rfl rfl), rfl, am_pd1⟩
theorem am_M79 : am_okM 79 := ⟨(am_w1 235 rfl rfl), (am_w1 1 rfl rfl), rfl, am_pd0⟩
theorem am_M80 : am_okM 80 := ⟨(am_w2 60 rfl rfl), (am_w1 1 rfl rfl), rfl, am_pd14⟩
theorem am_M81 : am_okM 81 := ⟨(am_w2 87 rfl rfl), (am_w1 1 rfl rfl), rfl, am_pd6⟩
theorem am_M82 : am_okM 82 := ⟨(am_w2 95 rfl rfl), (am_w1 1 rfl rfl), rfl, am_pd0⟩
theorem am_M83 : am_okM 83 := ⟨(am_w2 103 rfl rfl), (am_w1 1 rfl rfl), rfl, am_pd10⟩
theorem am_M84 : am_okM 84 := ⟨(am_w2 107 rfl rfl), (am_w1 1 rfl rfl), rfl, am_pd10⟩
theorem am_M85 : am_okM 85 := ⟨(am_w2 111 rfl rfl), (am_w1 1 rfl rfl), rfl, am_pd3⟩
theorem am_M86 : am_okM 86 := ⟨(am_w2 119 rfl rfl), (am_w1 1 rfl rfl), rfl, am_pd3⟩
theorem am_M87 : am_okM 87 := ⟨(am_w2 142 rfl rfl), (am_w1 1 rfl rfl), rfl, am_pd3⟩
theorem am_M88 : am_okM 88 := ⟨(am_w2 174 rfl rfl), (am_w1 1 rfl rfl), rfl, am_pd3⟩
theorem am_M89 : am_okM 89 := ⟨(am_w3 4 rfl rfl), (am_w1 1 rfl rfl), rfl, am_pd0⟩
theorem am_M90 : am_okM 90 := ⟨(am_w3 68 rfl rfl), (am_w1 1 rfl rfl), rfl, am_pd6⟩
theorem am_M91 : am_okM 91 := ⟨(am_w3 80 rfl rfl), (am_w1 1 rfl rfl), rfl, am_pd6⟩
theorem am_M92 : am_okM 92 := ⟨(am_w3 84 rfl rfl), (am_w1 1 rfl rfl), rfl, am_pd6⟩
theorem am_M93 : am_okM 93 := ⟨(am_w3 97 rfl rfl), (am_w1 1 rfl rfl), rfl, am_pd0⟩
theorem am_M94 : am_okM 94 := ⟨(am_w3 105 rfl rfl), (am_w1 1 rfl rfl), rfl, am_pd0⟩
theorem am_M95 : am_okM 95 := ⟨(am_w3 123 rfl rfl), (am_w1 1 rfl rfl), rfl, am_pd0⟩
theorem am_M96 : am_okM 96 := ⟨(am_w3 155 rfl rfl), (am_w1 1 rfl rfl), rfl, am_pd0⟩
theorem am_M97 : am_okM 97 := ⟨(am_w3 207 rfl rfl), (am_w1 1 rfl rfl), rfl, am_pd6⟩
theorem am_M98 : am_okM 98 := ⟨(am_w2 68 rfl rfl), (am_w1 1 rfl rfl), rfl, am_pd5⟩
theorem am_M99 : am_okM 99 := ⟨(am_w2 64 rfl rfl), (am_w1 1 rfl rfl), rfl, am_pd9⟩
theorem am_M100 : am_okM 100 := ⟨(am_w3 76 rfl rfl), (am_w1 1 rfl rfl), rfl, am_pd5⟩
theorem am_M101 : am_okM 101 := ⟨(am_w3 72 rfl rfl), (am_w1 1 rfl rfl), rfl, am_pd5⟩
theorem am_M102 : am_okM 102 := ⟨(am_w2 71 rfl rfl), (am_w1 1 rfl rfl), rfl, am_pd9⟩
theorem am_M103 : am_okM 103 := ⟨(am_w2 8 rfl rfl), (am_w1 1 rfl rfl), rfl, am_pd1⟩
theorem am_M104 : am_okM 104 := ⟨(am_w3 8 rfl rfl), (am_w1 1 rfl rfl), rfl, am_pd1⟩
theorem am_M105 : am_okM 105 := ⟨(am_w3 160 rfl rfl), (am_w1 1 rfl rfl), rfl, am_pd1⟩
theorem am_M106 : am_okM 106 := ⟨(am_w3 25 rfl rfl), (am_w1 1 rfl rfl), rfl, am_pd28⟩
theorem am_M107 : am_okM 107 := ⟨(am_w3 140 rfl rfl), (am_w1 1 rfl rfl), rfl, am_pd9⟩
theorem am_M108 : am_okM 108 := ⟨(am_w3 212 rfl rfl), (am_w1 9 rfl rfl), rfl, am_pd1⟩
theorem am_M109 : am_okM 109 := ⟨(am_w4 76 rfl rfl), (am_w1 9 rfl rfl), rfl, am_pd12⟩
theorem am_M110 : am_okM 110 := ⟨(am_w4 73 rfl rfl), (am_w1 9 rfl rfl), rfl, am_pd5⟩
theorem am_M111 : am_okM 111 := ⟨(am_w4 69 rfl rfl), (am_w1 9 rfl rfl), rfl, am_pd9⟩
theorem am_M112 : am_okM 112 := ⟨(am_w4 115 rfl rfl), (am_w1 9 rfl rfl), rfl, am_pd6⟩
theorem am_M113 : am_okM 113 := ⟨(am_w4 111 rfl rfl), (am_w1 9 rfl rfl), rfl, am_pd10⟩
theorem am_M114 : am_okM 114 := ⟨(am_w4 107 rfl rfl), (am_w1 9 rfl rfl), rfl, am_pd6⟩
theorem am_M115 : am_okM 115 := ⟨(am_w4 104 rfl rfl), (am_w1 9 rfl rfl), rfl, am_pd29⟩
theorem am_M116 : am_okM 116 := ⟨(am_w4 96 rfl rfl), (am_w1 9 rfl rfl), rfl, am_pd1⟩
theorem am_M117 : am_okM 117 := ⟨(am_w4 100 rfl rfl), (am_w1 9 rfl rfl), rfl, am_pd4⟩
theorem am_M118 : am_okM 118 := ⟨(am_w4 119 rfl rfl), (am_w1 9 rfl rfl), rfl, am_pd6⟩
theorem am_M119 : am_okM 119 := ⟨(am_w4 123 rfl rfl), (am_w1 9 rfl rfl), rfl, am_pd5⟩
theorem am_M120 : am_okM 120 := ⟨(am_w4 160 rfl rfl), (am_w1 9 rfl rfl), rfl, am_pd0⟩
theorem am_M121 : am_okM 121 := ⟨(am_w4 156 rfl rfl), (am_w1 9 rfl rfl), rfl, am_pd0⟩
theorem am_M122 : am_okM 122 := ⟨(am_w4 131 rfl rfl), (am_w1 9 rfl rfl), rfl, am_pd3⟩
theorem am_M123 : am_okM 123 := ⟨(am_w4 143 rfl rfl), (am_w1 9 rfl rfl), rfl, am_pd3⟩
theorem am_M124 : am_okM 124 := ⟨(am_w4 135 rfl rfl), (am_w1 9 rfl rfl), rfl, am_pd5⟩
theorem am_M125 : am_okM 125 := ⟨(am_w4 172 rfl rfl), (am_w1 9 rfl rfl), rfl, am_pd2⟩
theorem am_M126 : am_okM 126 := ⟨(am_w4 57 rfl rfl), (am_w1 9 rfl rfl), rfl, am_pd0⟩
theorem am_M127 : am_okM 127 := ⟨(am_w4 61 rfl rfl), (am_w1 9 rfl rfl), rfl, am_pd1⟩
theorem am_M128 : am_okM 128 := ⟨(am_w4 65 rfl rfl), (am_w1 9 rfl rfl), rfl, am_pd14⟩
theorem am_M129 : am_okM 129 := ⟨(am_w4 80 rfl rfl), (am_w1 9 rfl rfl), rfl, am_pd6⟩
theorem am_M130 : am_okM 130 := ⟨(am_w4 84 rfl rfl), (am_w1 9 rfl rfl), rfl, am_pd0⟩
theorem am_M131 : am_okM 131 := ⟨(am_w4 88 rfl rfl), (am_w1 9 rfl rfl), rfl, am_pd10⟩
theorem am_M132 : am_okM 132 := ⟨(am_w4 92 rfl rfl), (am_w1 9 rfl rfl), rfl, am_pd10⟩
theorem am_M133 : am_okM 133 := ⟨(am_w4 127 rfl rfl), (am_w1 9 rfl rfl), rfl, am_pd3⟩
theorem am_M134 : am_okM 134 := ⟨(am_w4 148 rfl rfl), (am_w1 9 rfl rfl), rfl, am_pd3⟩
theorem am_M135 : am_okM 135 := ⟨(am_w4 139 rfl rfl), (am_w1 9 rfl rfl), rfl, am_pd3⟩
theorem am_M136 : am_okM 136 := ⟨(am_w4 164 rfl rfl), (am_w1 9 rfl rfl), rfl, am_pd23⟩
theorem am_M137 : am_okM 137 := ⟨(am_w4 168 rfl rfl), (am_w1 9 rfl rfl), rfl, am_pd2⟩
theorem am_M138 : am_okM 138 := ⟨(am_w4 180 rfl rfl), (am_w1 9 rfl rfl), rfl, am_pd5⟩
theorem am_M139 : am_okM 139 := ⟨(am_w4 176 rfl rfl), (am_w1 9 rfl rfl), rfl, am_pd2⟩
theorem am_M140 : am_okM 140 := ⟨(am_w4 184 rfl rfl), (am_w1 9 rfl rfl), rfl, am_pd0⟩
theorem am_M141 : am_okM 141 := ⟨(am_w4 152 rfl rfl), (am_w1 9 rfl rfl), rfl, am_pd3⟩
theorem am_M142 : am_okM 142 := ⟨(am_w4 196 rfl rfl), (am_w1 9 rfl rfl), rfl, am_pd1⟩
theorem am_M143 : am_okM 143 := ⟨(am_w4 200 rfl rfl), (am_w1 9 rfl rfl), rfl, am_pd5⟩
theorem am_M144 : am_okM 144 := ⟨(am_w4 192 rfl rfl), (am_w1 9 rfl rfl), rfl, am_pd1⟩
theorem am_M145 : am_okM 145 := ⟨(am_w4 209 rfl rfl), (am_w1 9 rfl rfl), rfl, am_pd7⟩
theorem am_M146 : am_okM 146 := ⟨(am_w4 205 rfl rfl), (am_w1 9 rfl rfl), rfl, am_pd5⟩
theorem am_M147 : am_okM 147 := ⟨(am_w4 213 rfl rfl), (am_w1 9 rfl rfl), rfl, am_pd5⟩
theorem am_M148 : am_okM 148 := ⟨(am_w4 188 rfl rfl), (am_w1 9 rfl rfl), rfl, am_pd3⟩
theorem am_M149 : am_okM 149 := ⟨(am_w4 228 rfl rfl), (am_w1 9 rfl rfl), rfl, am_pd6⟩
theorem am_M150 : am_okM 150 := ⟨(am_w4 225 rfl rfl), (am_w1 9 rfl rfl), rfl, am_pd8⟩
theorem am_M151 : am_okM 151 := ⟨(am_w4 236 rfl rfl), (am_w1 9 rfl rfl), rfl, am_pd3⟩
theorem am_M152 : am_okM 152 := ⟨(am_w5 7 rfl rfl), (am_w1 9 rfl rfl), rfl, am_pd3⟩
theorem am_M153 : am_okM 153 := ⟨(am_w5 11 rfl rfl), (am_w1 9 rfl rfl), rfl, am_pd5⟩
theorem am_M154 : am_okM 154 := ⟨(am_w5 15 rfl rfl), (am_w1 9 rfl rfl), rfl, am_pd12⟩
theorem am_M155 : am_okM 155 := ⟨(am_w5 3 rfl rfl), (am_w1 9 rfl rfl), rfl, am_pd6⟩
theorem am_M156 : am_okM 156 := ⟨(am_w5 0 rfl rfl), (am_w1 9 rfl rfl), rfl, am_pd13⟩
theorem am_M157 : am_okM 157 := ⟨(am_w4 232 rfl rfl), (am_w1 9 rfl rfl), rfl, am_pd1⟩
theorem am_M158 : am_okM 158 := ⟨(am_w5 19 rfl rfl), (am_w1 9 rfl rfl), rfl, am_pd9⟩
theorem am_M159 : am_okM 159 := ⟨(am_w5 23 rfl rfl), (am_w1 9 rfl rfl), rfl, am_pd8⟩
theorem am_M160 : am_okM 160 := ⟨(am_w4 221 rfl rfl), (am_w1 9 rfl rfl), rfl, am_pd1⟩
theorem am_M161 : am_okM 161 := ⟨(am_w4 217 rfl rfl), (am_w1 9 rfl rfl), rfl, am_pd0⟩
theorem am_M162 : am_okM 162 := ⟨(am_w5 27 rfl rfl), (am_w1 9 rfl rfl), rfl, am_pd6⟩
theorem am_M163 : am_okM 163 := ⟨(am_w5 31 rfl rfl), (am_w1 9 rfl rfl), rfl, am_pd6⟩
theorem am_M164 : am_okM 164 := ⟨(am_w5 35 rfl rfl), (am_w1 9 rfl rfl), rfl, am_pd6⟩
theorem am_M165 : am_okM 165 := ⟨(am_w5 39 rfl rfl), (am_w1 9 rfl rfl), rfl, am_pd0⟩
theorem am_M166 : am_okM 166 := ⟨(am_w5 47 rfl rfl), (am_w1 9 rfl rfl), rfl, am_pd10⟩
theorem am_M167 : am_okM 167 := ⟨(am_w5 43 rfl rfl), (am_w1 9 rfl rfl), rfl, am_pd0⟩
theorem am_M168 : am_okM 168 := ⟨(am_w5 56 rfl rfl), (am_w1 9 rfl rfl), rfl, am_pd9⟩
theorem am_M169 : am_okM 169 := ⟨(am_w5 51 rfl rfl), (am_w1 9 rfl rfl), rfl, am_pd0⟩
theorem am_M170 : am_okM 170 := ⟨(am_w5 76 rfl rfl), (am_w1 9 rfl rfl), rfl, am_pd10⟩
theorem am_M171 : am_okM 171 := ⟨(am_w5 80 rfl rfl), (am_w1 9 rfl rfl), rfl, am_pd12⟩
theorem am_M172 : am_okM 172 := ⟨(am_w5 72 rfl rfl), (am_w1 9 rfl rfl), rfl, am_pd3⟩
theorem am_M173 : am_okM 173 := ⟨(am_w5 68 rfl rfl), (am_w1 9 rfl rfl), rfl, am_pd6⟩
theorem am_M174 : am_okM 174 := ⟨(am_w5 64 rfl rfl), (am_w1 9 rfl rfl), rfl, am_pd0⟩
theorem am_M175 : am_okM 175 := ⟨(am_w5 60 rfl rfl), (am_w1 9 rfl rfl), rfl, am_pd0⟩
theorem am_M176 : am_okM 176 := ⟨(am_w5 88 rfl rfl), (am_w1 9 rfl rfl), rfl, am_pd3⟩
theorem am_M177 : am_okM 177 := ⟨(am_w5 92 rfl rfl), (am_w1 9 rfl rfl), rfl, am_pd3⟩
theorem am_M178 : am_okM 178 := ⟨(am_w5 84 rfl rfl), (am_w1 9 rfl rfl), rfl, am_pd6⟩
theorem am_M179 : am_okM 179 := ⟨(am_w2 191 rfl rfl), (am_w1 4 rfl rfl), rfl, am_pd33⟩
theorem am_M180 : am_okM 180 := ⟨(am_w1 70 rfl rfl), (am_w1 4 rfl rfl), rfl, am_pd26⟩
theorem am_Mg0 (mj : Nat) (h1 : 0 ≤ mj) (h2 : mj < 20) : am_okM mj := by
  rcases (show mj = 0 ∨ mj = 1 ∨ mj = 2 ∨ mj = 3 ∨ mj = 4 ∨ mj = 5 ∨ mj = 6 ∨ mj = 7 ∨ mj = 8 ∨ mj = 9 ∨ mj = 10 ∨ mj = 11 ∨ mj = 12 ∨ mj = 13 ∨ mj = 14 ∨ mj = 15 ∨ mj = 16 ∨ mj = 17 ∨ mj = 18 ∨ mj = 19 by omega) with rfl | rfl | rfl | rfl | rfl | rfl | rfl | rfl | rfl | rfl | rfl | rfl | rfl | rfl | rfl | rfl | rfl | rfl | rfl | rfl
  · exact am_M0
  · exact am_M1
  · exact am_M2
  · exact am_M3
  · exact am_M4
  · exact am_M5
  · exact am_M6
  · exact am_M7
  · exact am_M8
  · exact am_M9
  · exact am_M10
  · exact am_M11
  · exact am_M12
  · exact am_M13
  · exact am_M14
  · exact am_M15
  · exact am_M16
  · exact am_M17
  · exact am_M18
  · exact am_M19
theorem am_Mg1 (mj : Nat) (h1 : 20 ≤ mj) (h2 : mj < 40) : am_okM mj := by
  rcases (show mj = 20 ∨ mj = 21 ∨ mj = 22 ∨ mj = 23 ∨ mj = 24 ∨ mj = 25 ∨ mj = 26 ∨ mj = 27 ∨ mj = 28 ∨ mj = 29 ∨ mj = 30 ∨ mj = 31 ∨ mj = 32 ∨ mj = 33 ∨ mj = 34 ∨ mj = 35 ∨ mj = 36 ∨ mj = 37 ∨ mj = 38 ∨ mj = 39 by omega) with rfl | rfl | rfl | rfl | rfl | rfl | rfl | rfl | rfl | rfl | rfl | rfl | rfl | rfl | rfl | rfl | rfl | rfl | rfl | rfl
  · exact am_M20
  · exact am_M21
  · exact am_M22
  · exact am_M23
  · exact am_M24
  · exact am_M25
  · exact am_M26
  · exact am_M27
  · exact am_M28
  · exact am_M29
  · exact am_M30
  · exact am_M31
  · exact am_M32
  · exact am_M33
  · exact am_M34
  · exact am_M35
  · exact am_M36
  · exact am_M37
  · exact am_M38
  · exact am_M39
theorem am_Mg2 (mj : Nat) (h1 : 40 ≤ mj) (h2 : mj < 60) : am_okM mj := by
  rcases (show mj = 40 ∨ mj = 41 ∨ mj = 42 ∨ mj = 43 ∨ mj = 44 ∨ mj = 45 ∨ mj = 46 ∨ mj = 47 ∨ mj = 48 ∨ mj = 49 ∨ mj = 50 ∨ mj = 51 ∨ mj = 52 ∨ mj = 53 ∨ mj = 54 ∨ mj = 55 ∨ mj = 56 ∨ mj = 57 ∨ mj = 58 ∨ mj = 59 by omega) with rfl | rfl | rfl | rfl | rfl | rfl | rfl | rfl | rfl | rfl | rfl | rfl | rfl | rfl | rfl | rfl | rfl | rfl | rfl | rfl
  · exact am_M40
  · exact am_M41
  · exact am_M42
  · exact am_M43
  · exact am_M44
  · exact am_M45
  · exact am_M46
  · exact am_M47
  · exact am_M48
  · exact am_M49
  · exact am_M50
  · exact am_M51
  · exact am_M52
  · exact am_M53
  · exact am_M54
  · exact am_M55
  · exact am_M56
  · exact am_M57
  · exact am_M58
  · exact am_M59
theorem am_Mg3 (mj : Nat) (h1 : 60 ≤ mj) (h2 : mj < 80) : am_okM mj := by
  rcases (show mj = 60 ∨ mj = 61 ∨ mj = 62 ∨ mj = 63 ∨ mj = 64 ∨ mj = 65 ∨ mj = 66 ∨ mj = 67 ∨ mj = 68 ∨ mj = 69 ∨ mj = 70 ∨ mj = 71 ∨ mj = 72 ∨ mj = 73 ∨ mj = 74 ∨ mj = 75 ∨ mj = 76 ∨ mj = 77 ∨ mj = 78 ∨ mj = 79 by omega) with rfl | rfl | rfl | rfl | rfl | rfl | rfl | rfl | rfl | rfl | rfl | rfl | rfl | rfl | rfl | rfl | rfl | rfl | rfl | rfl
  · exact am_M60
  · exact am_M61
  · exact am_M62
  · exact am_M63
  · exact am_M64
  · exact am_M65
  · exact am_M66
  · exact am_M67
  · exact am_M68
  · exact am_M69
  · exact am_M70
  · exact am_M71
  · exact am_M72
  · exact am_M73
  · exact am_M74
  · exact am_M75
  · exact am_M76
  · exact am_M77
  · exact am_M78
  · exact am_M79
theorem am_Mg4 (mj : Nat) (h1 : 80 ≤ mj) (h2 : mj < 100) : am_okM mj := by
  rcases (show mj = 80 ∨ mj = 81 ∨ mj = 82 ∨ mj = 83 ∨ mj = 84 ∨ mj = 85 ∨ mj = 86 ∨ mj = 87 ∨ mj = 88 ∨ mj = 89 ∨ mj = 90 ∨ mj = 91 ∨ mj = 92 ∨ mj = 93 ∨ mj = 94 ∨ mj = 95 ∨ mj = 96 ∨ mj = 97 ∨ mj = 98 ∨ mj = 99 by omega) with rfl | rfl | rfl | rfl | rfl | rfl | rfl | rfl | rfl | rfl | rfl | rfl | rfl | rfl | rfl | rfl | rfl | rfl | rfl | rfl
  · exact am_M80
  · exact am_M81
  · exact am_M82
  · exact am_M83
  · exact am_M84
  · exact am_M85
  · exact am_M86
  · exact am_M87
  · exact am_M88
  · exact am_M89
  · exact am_M90
  · exact am_M91
  · exact am_M92
  · exact am_M93
  · exact am_M94
  · exact am_M95
  · exact am_M96
  · exact am_M97
  · exact am_M98
  · exact am_M99
theorem am_Mg5 (mj : Nat) (h1 : 100 ≤ mj) (h2 : mj < 120) : am_okM mj := by
  rcases (show mj = 100 ∨ mj = 101 ∨ mj = 102 ∨ mj = 103 ∨ mj = 104 ∨ mj = 105 ∨ mj = 106 ∨ mj = 107 ∨ mj = 108 ∨ mj = 109 ∨ mj = 110 ∨ mj = 111 ∨ mj = 112 ∨ mj = 113 ∨ mj = 114 ∨ mj = 115 ∨ mj = 116 ∨ mj = 117 ∨ mj = 118 ∨ mj = 119 by omega) with rfl | rfl | rfl | rfl | rfl | rfl | rfl | rfl | rfl | rfl | rfl | rfl | rfl | rfl | rfl | rfl | rfl | rfl | rfl | rfl
  · exact am_M100
  · exact am_M101
  · exact am_M102
  · exact am_M103
  · exact am_M104
  · exact am_M105
  · exact am_M106
  · exact am_M107
  · exact am_M108
  · exact am_M109
  · exact am_M110
  · exact am_M111
  · exact am_M112
  · exact am_M113
  · exact am_M114
  · exact am_M115
  · exact am_M116
  · exact am_M117
  · exact am_M118
  · exact am_M119
theorem am_Mg6 (mj : Nat) (h1 : 120 ≤ mj) (h2 : mj < 140) : am_okM mj := by
  rcases (show mj = 120 ∨ mj = 121 ∨ mj = 122 ∨ mj = 123 ∨ mj = 124 ∨ mj = 125 ∨ mj = 126 ∨ mj = 127 ∨ mj = 128 ∨ mj = 129 ∨ mj = 130 ∨ mj = 131 ∨ mj = 132 ∨ mj = 133 ∨ mj = 134 ∨ mj = 135 ∨ mj = 136 ∨ mj = 137 ∨ mj = 138 ∨ mj = 139 by omega) with rfl | rfl | rfl | rfl | rfl | rfl | rfl | rfl | rfl | rfl | rfl | rfl | rfl | rfl | rfl | rfl | rfl | rfl | rfl | rfl
  · exact am_M120
  · exact am_M121
  · exact am_M122
  · exact am_M123
  · exact am_M124
  · exact am_M125
  · exact am_M126
  · exact am_M127
  · exact am_M128
  · exact am_M129
  · exact am_M130
  · exact am_M131
  · exact am_M132
  · exact am_M133
  · exact am_M134
  · exact am_M135
  · exact am_M136
  · exact am_M137
  · exact am_M138
  · exact am_M139
theorem am_Mg7 (mj : Nat) (h1 : 140 ≤ mj) (h2 : mj < 160) : am_okM mj := by
  rcases (show mj = 140 ∨ mj = 141 ∨ mj = 142 ∨ mj = 143 ∨ mj = 144 ∨ mj = 145 ∨ mj = 146 ∨ mj = 147 ∨ mj = 148 ∨ mj = 149 ∨ mj = 150 ∨ mj = 151 ∨ mj = 152 ∨ mj = 153 ∨ mj = 154 ∨ mj = 155 ∨ mj = 156 ∨ mj = 157 ∨ mj = 158 ∨ mj = 159 by omega) with rfl | rfl | rfl | rfl | rfl | rfl | rfl | rfl | rfl | rfl | rfl | rfl | rfl | rfl | rfl | rfl | rfl | rfl | rfl | rfl
  · exact am_M140
  · exact am_M141
  · exact am_M142
  · exact am_M143
  · exact am_M144
  · exact am_M145
  · exact am_M146
  · exact am_M147
  · exact am_M148
  · exact am_M149
  · exact am_M150
  · exact am_M151
  · exact am_M152
  · exact am_M153
  · exact am_M154
  · exact am_M155
  · exact am_M156
  · exact am_M157
  · exact am_M158
  · exact am_M159
theorem am_Mg8 (mj : Nat) (h1 : 160 ≤ mj) (h2 : mj < 180) : am_okM mj := by
  rcases (show mj = 160 ∨ mj = 161 ∨ mj = 162 ∨ mj = 163 ∨ mj = 164 ∨ mj = 165 ∨ mj = 166 ∨ mj = 167 ∨ mj = 168 ∨ mj = 169 ∨ mj = 170 ∨ mj = 171 ∨ mj = 172 ∨ mj = 173 ∨ mj = 174 ∨ mj = 175 ∨ mj = 176 ∨ mj = 177 ∨ mj = 178 ∨ mj = 179 by omega) with rfl | rfl | rfl | rfl | rfl | rfl | rfl | rfl | rfl | rfl | rfl | rfl | rfl | rfl | rfl | rfl | rfl | rfl | rfl | rfl
  · exact am_M160
  · exact am_M161
  · exact am_M162
  · exact am_M163
  · exact am_M164
  · exact am_M165
  · exact am_M166
  · exact am_M167
  · exact am_M168
  · exact am_M169
  · exact am_M170
  · exact am_M171
  · exact am_M172
  · exact am_M173
  · exact am_M174
  · exact am_M175
  · exact am_M176
  · exact am_M177
  · exact am_M178
  · exact am_M179
theorem am_Mg9 (mj : Nat) (h1 : 180 ≤ mj) (h2 : mj < 181) : am_okM mj := by
  rcases (show mj = 180 by omega) with rfl
  · exact am_M180
theorem am_ckM_ok (mj : Nat) (h : mj < 181) : am_okM mj := by
  rcases (show (0 ≤ mj ∧ mj < 20) ∨ (20 ≤ mj ∧ mj < 40) ∨ (40 ≤ mj ∧ mj < 60) ∨ (60 ≤ mj ∧ mj < 80) ∨ (80 ≤ mj ∧ mj < 100) ∨ (100 ≤ mj ∧ mj < 120) ∨ (120 ≤ mj ∧ mj < 140) ∨ (140 ≤ mj ∧ mj < 160) ∨ (160 ≤ mj ∧ mj < 180) ∨ (180 ≤ mj ∧ mj < 181) by omega) with ⟨a, b⟩ | ⟨a, b⟩ | ⟨a, b⟩ | ⟨a, b⟩ | ⟨a, b⟩ | ⟨a, b⟩ | ⟨a, b⟩ | ⟨a, b⟩ | ⟨a, b⟩ | ⟨a, b⟩
  · exact am_Mg0 mj a b
  · exact am_Mg1 mj a b
  · exact am_Mg2 mj a b
  · exact am_Mg3 mj a b
  · exact am_Mg4 mj a b
  · exact am_Mg5 mj a b
  · exact am_Mg6 mj a b
  · exact am_Mg7 mj a b
  · exact am_Mg8 mj a b
  · exact am_Mg9 mj a b
def am_okC (q : (Nat × Nat) × Nat × Nat) : Prop := match q.2.1 with
  | 0 => q.2.2 < 181 ∧ Cond.methodLink (am_cn q.1.1) q.1.2 (am_name q.2.2) ∈ am_words ∧ Cond.instanceMethod (am_name q.2.2) ∈ am_words ∧ Cond.selects (am_name q.2.2).cls (am_name q.2.2) (am_name q.2.2) ∈ am_words ∧ am_mc q.2.2 < 8
  | 1 => q.2.2 < 181 ∧ Cond.methodLink (am_cn q.1.1) q.1.2 (am_name q.2.2) ∈ am_words ∧ Cond.static (am_name q.2.2) ∈ am_words
  | 2 => q.2.2 < 181 ∧ Cond.methodLink (am_cn q.1.1) q.1.2 (am_name q.2.2) ∈ am_words ∧ Cond.instanceMethod (am_name q.2.2) ∈ am_words ∧ (am_name q.2.2).name = "<init>"
  | 3 => q.2.2 < 181 ∧ Cond.static (am_name q.2.2) ∈ am_words ∧ (q.1.1, q.1.2, q.2.2) ∈ am_nestM
  | 4 => Cond.methodLink (am_cn q.1.1) q.1.2 Lib.objectInit ∈ am_words
  | 5 => Cond.methodLink (am_cn q.1.1) q.1.2 arraycopyName ∈ am_words
  | 6 => Cond.methodLink (am_cn q.1.1) q.1.2 Lib.Math.min.name ∈ am_words
  | 7 => Cond.methodLink (am_cn q.1.1) q.1.2 Lib.Math.max.name ∈ am_words
  | 8 => Cond.methodLink (am_cn q.1.1) q.1.2 Lib.MathLoose.abs_long.x ∈ am_words
  | _ => False
theorem am_c0 : am_okC ((0, 1), 4, 0) := (am_w1 31 rfl rfl)
theorem am_c1 : am_okC ((0, 26), 6, 0) := (am_w2 17 rfl rfl)
theorem am_c2 : am_okC ((0, 36), 0, 2) := ⟨by decide, (am_w2 32 rfl rfl), (am_w2 34 rfl rfl), (am_wp1 2 (n := 7) rfl rfl), by decide⟩
theorem am_c3 : am_okC ((0, 40), 7, 0) := (am_w2 36 rfl rfl)
theorem am_c4 : am_okC ((0, 46), 0, 5) := ⟨by decide, (am_w2 165 rfl rfl), (am_w2 113 rfl rfl), (am_w2 114 rfl rfl), by decide⟩
theorem am_c5 : am_okC ((1, 3), 4, 0) := (am_w1 145 rfl rfl)
theorem am_c6 : am_okC ((1, 35), 0, 9) := ⟨by decide, (am_w3 13 rfl rfl), (am_w3 15 rfl rfl), (am_wp2 6 (n := 8) rfl rfl), by decide⟩
theorem am_c7 : am_okC ((1, 39), 0, 64) := ⟨by decide, (am_w3 18 rfl rfl), (am_w2 21 rfl rfl), (am_w2 22 rfl rfl), by decide⟩
theorem am_c8 : am_okC ((1, 49), 0, 10) := ⟨by decide, (am_w3 19 rfl rfl), (am_w3 21 rfl rfl), (am_wp2 7 (n := 8) rfl rfl), by decide⟩
theorem am_c9 : am_okC ((1, 53), 0, 11) := ⟨by decide, (am_w3 28 rfl rfl), (am_w3 30 rfl rfl), (am_wp2 8 (n := 8) rfl rfl), by decide⟩
theorem am_c10 : am_okC ((1, 56), 0, 18) := ⟨by decide, (am_w3 57 rfl rfl), (am_w3 59 rfl rfl), (am_wp2 13 (n := 8) rfl rfl), by decide⟩
theorem am_c11 : am_okC ((1, 65), 1, 180) := ⟨by decide, (am_w3 17 rfl rfl), (am_w1 69 rfl rfl)⟩
theorem am_c12 : am_okC ((1, 71), 3, 106) := ⟨by decide, (am_w3 24 rfl rfl), by decide +kernel⟩
theorem am_c13 : am_okC ((1, 78), 0, 12) := ⟨by decide, (am_w3 32 rfl rfl), (am_w3 34 rfl rfl), (am_wp2 9 (n := 8) rfl rfl), by decide⟩
theorem am_c14 : am_okC ((1, 81), 0, 13) := ⟨by decide, (am_w3 39 rfl rfl), (am_w3 41 rfl rfl), (am_wp2 10 (n := 8) rfl rfl), by decide⟩
theorem am_c15 : am_okC ((1, 85), 0, 15) := ⟨by decide, (am_w3 46 rfl rfl), (am_w3 48 rfl rfl), (am_wp2 11 (n := 8) rfl rfl), by decide⟩
theorem am_c16 : am_okC ((1, 89), 0, 17) := ⟨by decide, (am_w3 53 rfl rfl), (am_w3 55 rfl rfl), (am_wp2 12 (n := 8) rfl rfl), by decide⟩
theorem am_c17 : am_okC ((1, 92), 5, 0) := (am_w3 36 rfl rfl)
theorem am_c18 : am_okC ((1, 98), 1, 14) := ⟨by decide, (am_w3 43 rfl rfl), (am_w3 44 rfl rfl)⟩
theorem am_c19 : am_okC ((1, 101), 1, 16) := ⟨by decide, (am_w3 50 rfl rfl), (am_w3 51 rfl rfl)⟩
theorem am_c20 : am_okC ((1, 105), 0, 19) := ⟨by decide, (am_w3 61 rfl rfl), (am_w3 63 rfl rfl), (am_wp2 14 (n := 8) rfl rfl), by decide⟩
theorem am_c21 : am_okC ((2, 3), 4, 0) := (am_w1 119 rfl rfl)
theorem am_c22 : am_okC ((2, 20), 0, 23) := ⟨by decide, (am_w2 180 rfl rfl), (am_w2 182 rfl rfl), (am_wp1 11 (n := 5) rfl rfl), by decide⟩
theorem am_c23 : am_okC ((2, 42), 0, 24) := ⟨by decide, (am_w2 185 rfl rfl), (am_w2 187 rfl rfl), (am_wp1 12 (n := 5) rfl rfl), by decide⟩
theorem am_c24 : am_okC ((2, 52), 6, 0) := (am_w2 197 rfl rfl)
theorem am_c25 : am_okC ((2, 58), 0, 25) := ⟨by decide, (am_w2 198 rfl rfl), (am_w2 200 rfl rfl), (am_wp1 13 (n := 5) rfl rfl), by decide⟩
theorem am_c26 : am_okC ((2, 65), 0, 64) := ⟨by decide, (am_w2 184 rfl rfl), (am_w2 21 rfl rfl), (am_w2 22 rfl rfl), by decide⟩
theorem am_c27 : am_okC ((2, 71), 1, 179) := ⟨by decide, (am_w2 189 rfl rfl), (am_w2 190 rfl rfl)⟩
theorem am_c28 : am_okC ((2, 83), 0, 60) := ⟨by decide, (am_w2 194 rfl rfl), (am_w2 73 rfl rfl), (am_w2 74 rfl rfl), by decide⟩
theorem am_c29 : am_okC ((2, 95), 0, 26) := ⟨by decide, (am_w2 203 rfl rfl), (am_w2 205 rfl rfl), (am_wp1 14 (n := 5) rfl rfl), by decide⟩
theorem am_c30 : am_okC ((2, 98), 0, 29) := ⟨by decide, (am_w2 218 rfl rfl), (am_w2 220 rfl rfl), (am_wp2 1 (n := 5) rfl rfl), by decide⟩
theorem am_c31 : am_okC ((2, 101), 0, 30) := ⟨by decide, (am_w2 225 rfl rfl), (am_w2 227 rfl rfl), (am_wp2 2 (n := 5) rfl rfl), by decide⟩
theorem am_c32 : am_okC ((2, 104), 0, 32) := ⟨by decide, (am_w2 229 rfl rfl), (am_w2 231 rfl rfl), (am_wp2 3 (n := 5) rfl rfl), by decide⟩
theorem am_c33 : am_okC ((2, 107), 8, 0) := (am_w2 207 rfl rfl)
theorem am_c34 : am_okC ((2, 111), 0, 27) := ⟨by decide, (am_w2 210 rfl rfl), (am_w2 212 rfl rfl), (am_wp1 15 (n := 5) rfl rfl), by decide⟩
theorem am_c35 : am_okC ((2, 115), 0, 28) := ⟨by decide, (am_w2 214 rfl rfl), (am_w2 216 rfl rfl), (am_wp2 0 (n := 5) rfl rfl), by decide⟩
theorem am_c36 : am_okC ((2, 118), 1, 31) := ⟨by decide, (am_w2 222 rfl rfl), (am_w2 223 rfl rfl)⟩
theorem am_c37 : am_okC ((2, 122), 0, 33) := ⟨by decide, (am_w2 233 rfl rfl), (am_w2 235 rfl rfl), (am_wp2 4 (n := 5) rfl rfl), by decide⟩
theorem am_c38 : am_okC ((3, 3), 4, 0) := (am_w1 191 rfl rfl)
theorem am_c39 : am_okC ((3, 11), 2, 0) := ⟨by decide, (am_w1 193 rfl rfl), (am_w1 29 rfl rfl), rfl⟩
theorem am_c40 : am_okC ((3, 30), 0, 36) := ⟨by decide, (am_w3 165 rfl rfl), (am_w3 167 rfl rfl), (am_wp3 5 (n := 4) rfl rfl), by decide⟩
theorem am_c41 : am_okC ((3, 34), 0, 1) := ⟨by decide, (am_w3 170 rfl rfl), (am_w2 14 rfl rfl), (am_w2 15 rfl rfl), by decide⟩
theorem am_c42 : am_okC ((3, 43), 0, 64) := ⟨by decide, (am_w3 171 rfl rfl), (am_w2 21 rfl rfl), (am_w2 22 rfl rfl), by decide⟩
theorem am_c43 : am_okC ((3, 47), 0, 37) := ⟨by decide, (am_w3 172 rfl rfl), (am_w3 174 rfl rfl), (am_wp3 6 (n := 4) rfl rfl), by decide⟩
theorem am_c44 : am_okC ((3, 51), 0, 4) := ⟨by decide, (am_w3 189 rfl rfl), (am_w2 54 rfl rfl), (am_w2 55 rfl rfl), by decide⟩
theorem am_c45 : am_okC ((3, 54), 0, 41) := ⟨by decide, (am_w3 190 rfl rfl), (am_w3 192 rfl rfl), (am_wp3 8 (n := 4) rfl rfl), by decide⟩
theorem am_c46 : am_okC ((3, 57), 0, 42) := ⟨by decide, (am_w3 194 rfl rfl), (am_w3 196 rfl rfl), (am_wp3 9 (n := 4) rfl rfl), by decide⟩
theorem am_c47 : am_okC ((3, 61), 0, 43) := ⟨by decide, (am_w3 199 rfl rfl), (am_w3 201 rfl rfl), (am_wp3 10 (n := 4) rfl rfl), by decide⟩
theorem am_c48 : am_okC ((3, 64), 6, 0) := (am_w3 169 rfl rfl)
theorem am_c49 : am_okC ((3, 76), 3, 106) := ⟨by decide, (am_w3 24 rfl rfl), by decide +kernel⟩
theorem am_c50 : am_okC ((3, 80), 1, 39) := ⟨by decide, (am_w3 177 rfl rfl), (am_w3 178 rfl rfl)⟩
theorem am_c51 : am_okC ((3, 84), 0, 38) := ⟨by decide, (am_w3 183 rfl rfl), (am_w3 185 rfl rfl), (am_wp3 7 (n := 4) rfl rfl), by decide⟩
theorem am_c52 : am_okC ((3, 88), 0, 3) := ⟨by decide, (am_w3 188 rfl rfl), (am_w2 29 rfl rfl), (am_w2 30 rfl rfl), by decide⟩
theorem am_c53 : am_okC ((3, 95), 1, 40) := ⟨by decide, (am_w3 180 rfl rfl), (am_w3 181 rfl rfl)⟩
theorem am_c54 : am_okC ((3, 105), 0, 60) := ⟨by decide, (am_w3 198 rfl rfl), (am_w2 73 rfl rfl), (am_w2 74 rfl rfl), by decide⟩
theorem am_c55 : am_okC ((3, 114), 3, 107) := ⟨by decide, (am_w3 139 rfl rfl), by decide +kernel⟩
theorem am_c56 : am_okC ((4, 3), 4, 0) := (am_w1 180 rfl rfl)
theorem am_c57 : am_okC ((4, 15), 1, 180) := ⟨by decide, (am_w2 4 rfl rfl), (am_w1 69 rfl rfl)⟩
theorem am_c58 : am_okC ((4, 23), 0, 51) := ⟨by decide, (am_w3 128 rfl rfl), (am_w3 107 rfl rfl), (am_w3 108 rfl rfl), by decide⟩
theorem am_c59 : am_okC ((4, 27), 0, 53) := ⟨by decide, (am_w3 129 rfl rfl), (am_w3 117 rfl rfl), (am_w3 118 rfl rfl), by decide⟩
theorem am_c60 : am_okC ((4, 37), 0, 64) := ⟨by decide, (am_w3 110 rfl rfl), (am_w2 21 rfl rfl), (am_w2 22 rfl rfl), by decide⟩
theorem am_c61 : am_okC ((4, 41), 0, 52) := ⟨by decide, (am_w3 111 rfl rfl), (am_w3 113 rfl rfl), (am_wp3 1 (n := 1) rfl rfl), by decide⟩
theorem am_c62 : am_okC ((4, 51), 3, 106) := ⟨by decide, (am_w3 24 rfl rfl), by decide +kernel⟩
theorem am_c63 : am_okC ((4, 55), 0, 55) := ⟨by decide, (am_w3 134 rfl rfl), (am_w3 136 rfl rfl), (am_wp3 2 (n := 1) rfl rfl), by decide⟩
theorem am_c64 : am_okC ((4, 59), 0, 56) := ⟨by decide, (am_w3 143 rfl rfl), (am_w3 145 rfl rfl), (am_wp3 3 (n := 1) rfl rfl), by decide⟩
theorem am_c65 : am_okC ((4, 62), 0, 47) := ⟨by decide, (am_w3 148 rfl rfl), (am_w3 149 rfl rfl), (am_w3 150 rfl rfl), by decide⟩
theorem am_c66 : am_okC ((4, 78), 3, 107) := ⟨by decide, (am_w3 139 rfl rfl), by decide +kernel⟩
theorem am_c67 : am_okC ((4, 82), 0, 60) := ⟨by decide, (am_w3 147 rfl rfl), (am_w2 73 rfl rfl), (am_w2 74 rfl rfl), by decide⟩
theorem am_c68 : am_okC ((5, 3), 4, 0) := (am_w1 25 rfl rfl)
theorem am_c69 : am_okC ((5, 20), 2, 0) := ⟨by decide, (am_w1 28 rfl rfl), (am_w1 29 rfl rfl), rfl⟩
theorem am_c70 : am_okC ((5, 33), 1, 180) := ⟨by decide, (am_w1 68 rfl rfl), (am_w1 69 rfl rfl)⟩
theorem am_c71 : am_okC ((5, 46), 0, 62) := ⟨by decide, (am_w2 80 rfl rfl), (am_w2 82 rfl rfl), (am_wp1 7 (n := 7) rfl rfl), by decide⟩
theorem am_c72 : am_okC ((5, 50), 0, 1) := ⟨by decide, (am_w2 13 rfl rfl), (am_w2 14 rfl rfl), (am_w2 15 rfl rfl), by decide⟩
theorem am_c73 : am_okC ((5, 53), 0, 64) := ⟨by decide, (am_w2 20 rfl rfl), (am_w2 21 rfl rfl), (am_w2 22 rfl rfl), by decide⟩
theorem am_c74 : am_okC ((5, 57), 0, 66) := ⟨by decide, (am_w2 24 rfl rfl), (am_w2 26 rfl rfl), (am_wp1 1 (n := 7) rfl rfl), by decide⟩
theorem am_c75 : am_okC ((5, 60), 0, 67) := ⟨by decide, (am_w2 39 rfl rfl), (am_w2 41 rfl rfl), (am_wp1 3 (n := 7) rfl rfl), by decide⟩
theorem am_c76 : am_okC ((5, 63), 0, 68) := ⟨by decide, (am_w2 49 rfl rfl), (am_w2 51 rfl rfl), (am_wp1 4 (n := 7) rfl rfl), by decide⟩
theorem am_c77 : am_okC ((5, 66), 0, 3) := ⟨by decide, (am_w2 28 rfl rfl), (am_w2 29 rfl rfl), (am_w2 30 rfl rfl), by decide⟩
theorem am_c78 : am_okC ((5, 70), 0, 4) := ⟨by decide, (am_w2 53 rfl rfl), (am_w2 54 rfl rfl), (am_w2 55 rfl rfl), by decide⟩
theorem am_c79 : am_okC ((5, 85), 0, 69) := ⟨by decide, (am_w2 155 rfl rfl), (am_w2 144 rfl rfl), (am_w2 145 rfl rfl), by decide⟩
theorem am_c80 : am_okC ((5, 89), 0, 6) := ⟨by decide, (am_w2 161 rfl rfl), (am_w2 162 rfl rfl), (am_w2 163 rfl rfl), by decide⟩
theorem am_c81 : am_okC ((5, 93), 0, 70) := ⟨by decide, (am_w2 160 rfl rfl), (am_w2 148 rfl rfl), (am_w2 149 rfl rfl), by decide⟩
theorem am_c82 : am_okC ((5, 96), 0, 74) := ⟨by decide, (am_w2 166 rfl rfl), (am_w2 122 rfl rfl), (am_w2 123 rfl rfl), by decide⟩
theorem am_c83 : am_okC ((5, 100), 0, 75) := ⟨by decide, (am_w2 125 rfl rfl), (am_w2 127 rfl rfl), (am_wp1 8 (n := 7) rfl rfl), by decide⟩
theorem am_c84 : am_okC ((5, 103), 0, 76) := ⟨by decide, (am_w2 130 rfl rfl), (am_w2 132 rfl rfl), (am_wp1 9 (n := 7) rfl rfl), by decide⟩
theorem am_c85 : am_okC ((5, 106), 0, 77) := ⟨by decide, (am_w2 135 rfl rfl), (am_w2 137 rfl rfl), (am_wp1 10 (n := 7) rfl rfl), by decide⟩
theorem am_c86 : am_okC ((5, 115), 0, 5) := ⟨by decide, (am_w2 129 rfl rfl), (am_w2 113 rfl rfl), (am_w2 114 rfl rfl), by decide⟩
theorem am_c87 : am_okC ((5, 118), 0, 60) := ⟨by decide, (am_w2 134 rfl rfl), (am_w2 73 rfl rfl), (am_w2 74 rfl rfl), by decide⟩
theorem am_c88 : am_okC ((6, 1), 4, 0) := (am_w1 17 rfl rfl)
theorem am_c89 : am_okC ((6, 9), 2, 57) := ⟨by decide, (am_w1 22 rfl rfl), (am_w1 23 rfl rfl), rfl⟩
theorem am_c90 : am_okC ((6, 18), 2, 20) := ⟨by decide, (am_w1 116 rfl rfl), (am_w1 117 rfl rfl), rfl⟩
theorem am_c91 : am_okC ((6, 25), 2, 7) := ⟨by decide, (am_w1 142 rfl rfl), (am_w1 143 rfl rfl), rfl⟩
theorem am_c92 : am_okC ((6, 32), 2, 44) := ⟨by decide, (am_w1 177 rfl rfl), (am_w1 178 rfl rfl), rfl⟩
theorem am_c93 : am_okC ((6, 39), 2, 34) := ⟨by decide, (am_w1 188 rfl rfl), (am_w1 189 rfl rfl), rfl⟩
theorem am_c94 : am_okC ((6, 55), 0, 58) := ⟨by decide, (am_w1 236 rfl rfl), (am_w1 237 rfl rfl), (am_w1 238 rfl rfl), by decide⟩
theorem am_c95 : am_okC ((6, 58), 0, 45) := ⟨by decide, (am_w2 0 rfl rfl), (am_w2 1 rfl rfl), (am_w2 2 rfl rfl), by decide⟩
theorem am_c96 : am_okC ((6, 61), 0, 103) := ⟨by decide, (am_w2 5 rfl rfl), (am_w2 7 rfl rfl), (am_wp1 0 (n := 7) rfl rfl), by decide⟩
theorem am_c97 : am_okC ((6, 64), 0, 99) := ⟨by decide, (am_w2 61 rfl rfl), (am_w2 63 rfl rfl), (am_wp1 5 (n := 7) rfl rfl), by decide⟩
theorem am_c98 : am_okC ((6, 68), 1, 102) := ⟨by decide, (am_w2 69 rfl rfl), (am_w2 70 rfl rfl)⟩
theorem am_c99 : am_okC ((6, 71), 0, 60) := ⟨by decide, (am_w2 72 rfl rfl), (am_w2 73 rfl rfl), (am_w2 74 rfl rfl), by decide⟩
theorem am_c100 : am_okC ((6, 75), 0, 61) := ⟨by decide, (am_w2 76 rfl rfl), (am_w2 77 rfl rfl), (am_w2 78 rfl rfl), by decide⟩
theorem am_c101 : am_okC ((6, 79), 0, 63) := ⟨by decide, (am_w2 88 rfl rfl), (am_w2 89 rfl rfl), (am_w2 90 rfl rfl), by decide⟩
theorem am_c102 : am_okC ((6, 83), 0, 59) := ⟨by decide, (am_w2 96 rfl rfl), (am_w2 97 rfl rfl), (am_w2 98 rfl rfl), by decide⟩
theorem am_c103 : am_okC ((6, 90), 0, 98) := ⟨by decide, (am_w2 65 rfl rfl), (am_w2 67 rfl rfl), (am_wp1 6 (n := 7) rfl rfl), by decide⟩
theorem am_c104 : am_okC ((6, 108), 0, 5) := ⟨by decide, (am_w2 112 rfl rfl), (am_w2 113 rfl rfl), (am_w2 114 rfl rfl), by decide⟩
theorem am_c105 : am_okC ((6, 112), 0, 74) := ⟨by decide, (am_w2 121 rfl rfl), (am_w2 122 rfl rfl), (am_w2 123 rfl rfl), by decide⟩
theorem am_c106 : am_okC ((6, 116), 0, 69) := ⟨by decide, (am_w2 143 rfl rfl), (am_w2 144 rfl rfl), (am_w2 145 rfl rfl), by decide⟩
theorem am_c107 : am_okC ((6, 120), 0, 70) := ⟨by decide, (am_w2 147 rfl rfl), (am_w2 148 rfl rfl), (am_w2 149 rfl rfl), by decide⟩
theorem am_c108 : am_okC ((6, 123), 0, 71) := ⟨by decide, (am_w2 151 rfl rfl), (am_w2 152 rfl rfl), (am_w2 153 rfl rfl), by decide⟩
theorem am_c109 : am_okC ((6, 126), 0, 73) := ⟨by decide, (am_w2 156 rfl rfl), (am_w2 157 rfl rfl), (am_w2 158 rfl rfl), by decide⟩
theorem am_c110 : am_okC ((6, 130), 0, 72) := ⟨by decide, (am_w2 167 rfl rfl), (am_w2 168 rfl rfl), (am_w2 169 rfl rfl), by decide⟩
theorem am_c111 : am_okC ((6, 136), 0, 6) := ⟨by decide, (am_w2 175 rfl rfl), (am_w2 162 rfl rfl), (am_w2 163 rfl rfl), by decide⟩
theorem am_c112 : am_okC ((6, 139), 0, 21) := ⟨by decide, (am_w2 176 rfl rfl), (am_w2 177 rfl rfl), (am_w2 178 rfl rfl), by decide⟩
theorem am_c113 : am_okC ((6, 149), 0, 22) := ⟨by decide, (am_w2 237 rfl rfl), (am_w2 238 rfl rfl), (am_w2 239 rfl rfl), by decide⟩
theorem am_c114 : am_okC ((6, 152), 0, 104) := ⟨by decide, (am_w3 5 rfl rfl), (am_w3 7 rfl rfl), (am_wp2 5 (n := 7) rfl rfl), by decide⟩
theorem am_c115 : am_okC ((6, 158), 0, 101) := ⟨by decide, (am_w3 69 rfl rfl), (am_w3 71 rfl rfl), (am_wp2 15 (n := 7) rfl rfl), by decide⟩
theorem am_c116 : am_okC ((6, 161), 0, 100) := ⟨by decide, (am_w3 73 rfl rfl), (am_w3 75 rfl rfl), (am_wp3 0 (n := 7) rfl rfl), by decide⟩
theorem am_c117 : am_okC ((6, 170), 0, 48) := ⟨by decide, (am_w3 85 rfl rfl), (am_w3 86 rfl rfl), (am_w3 87 rfl rfl), by decide⟩
theorem am_c118 : am_okC ((6, 174), 0, 49) := ⟨by decide, (am_w3 90 rfl rfl), (am_w3 91 rfl rfl), (am_w3 92 rfl rfl), by decide⟩
theorem am_c119 : am_okC ((6, 178), 0, 46) := ⟨by decide, (am_w3 98 rfl rfl), (am_w3 99 rfl rfl), (am_w3 100 rfl rfl), by decide⟩
theorem am_c120 : am_okC ((6, 181), 0, 51) := ⟨by decide, (am_w3 106 rfl rfl), (am_w3 107 rfl rfl), (am_w3 108 rfl rfl), by decide⟩
theorem am_c121 : am_okC ((6, 185), 0, 53) := ⟨by decide, (am_w3 116 rfl rfl), (am_w3 117 rfl rfl), (am_w3 118 rfl rfl), by decide⟩
theorem am_c122 : am_okC ((6, 188), 0, 50) := ⟨by decide, (am_w3 124 rfl rfl), (am_w3 125 rfl rfl), (am_w3 126 rfl rfl), by decide⟩
theorem am_c123 : am_okC ((6, 191), 0, 54) := ⟨by decide, (am_w3 130 rfl rfl), (am_w3 131 rfl rfl), (am_w3 132 rfl rfl), by decide⟩
theorem am_c124 : am_okC ((6, 194), 0, 47) := ⟨by decide, (am_w3 156 rfl rfl), (am_w3 149 rfl rfl), (am_w3 150 rfl rfl), by decide⟩
theorem am_c125 : am_okC ((6, 197), 0, 105) := ⟨by decide, (am_w3 157 rfl rfl), (am_w3 159 rfl rfl), (am_wp3 4 (n := 7) rfl rfl), by decide⟩
theorem am_c126 : am_okC ((6, 209), 0, 65) := ⟨by decide, (am_w2 9 rfl rfl), (am_w2 10 rfl rfl), (am_w2 11 rfl rfl), by decide⟩
theorem am_c127 : am_okC ((6, 212), 0, 8) := ⟨by decide, (am_w3 9 rfl rfl), (am_w3 10 rfl rfl), (am_w3 11 rfl rfl), by decide⟩
theorem am_c128 : am_okC ((6, 213), 0, 35) := ⟨by decide, (am_w3 161 rfl rfl), (am_w3 162 rfl rfl), (am_w3 163 rfl rfl), by decide⟩
theorem am_c129 : am_okC ((7, 1), 4, 0) := (am_w3 213 rfl rfl)
theorem am_c130 : am_okC ((7, 71), 1, 109) := ⟨by decide, (am_w4 74 rfl rfl), (am_w4 75 rfl rfl)⟩
theorem am_c131 : am_okC ((7, 75), 0, 110) := ⟨by decide, (am_w4 70 rfl rfl), (am_w4 72 rfl rfl), (am_wp3 13 (n := 26) rfl rfl), by decide⟩
theorem am_c132 : am_okC ((7, 79), 0, 112) := ⟨by decide, (am_w4 112 rfl rfl), (am_w4 114 rfl rfl), (am_wp4 2 (n := 26) rfl rfl), by decide⟩
theorem am_c133 : am_okC ((7, 83), 1, 114) := ⟨by decide, (am_w4 105 rfl rfl), (am_w4 106 rfl rfl)⟩
theorem am_c134 : am_okC ((7, 90), 0, 117) := ⟨by decide, (am_w4 97 rfl rfl), (am_w4 99 rfl rfl), (am_wp3 15 (n := 26) rfl rfl), by decide⟩
theorem am_c135 : am_okC ((7, 94), 0, 115) := ⟨by decide, (am_w4 101 rfl rfl), (am_w4 103 rfl rfl), (am_wp4 0 (n := 26) rfl rfl), by decide⟩
theorem am_c136 : am_okC ((7, 98), 0, 113) := ⟨by decide, (am_w4 108 rfl rfl), (am_w4 110 rfl rfl), (am_wp4 1 (n := 26) rfl rfl), by decide⟩
theorem am_c137 : am_okC ((7, 102), 0, 118) := ⟨by decide, (am_w4 116 rfl rfl), (am_w4 118 rfl rfl), (am_wp4 3 (n := 26) rfl rfl), by decide⟩
theorem am_c138 : am_okC ((7, 105), 0, 119) := ⟨by decide, (am_w4 120 rfl rfl), (am_w4 122 rfl rfl), (am_wp4 4 (n := 26) rfl rfl), by decide⟩
theorem am_c139 : am_okC ((7, 108), 0, 124) := ⟨by decide, (am_w4 132 rfl rfl), (am_w4 134 rfl rfl), (am_wp4 6 (n := 26) rfl rfl), by decide⟩
theorem am_c140 : am_okC ((7, 111), 0, 127) := ⟨by decide, (am_w4 58 rfl rfl), (am_w4 60 rfl rfl), (am_wp3 11 (n := 26) rfl rfl), by decide⟩
theorem am_c141 : am_okC ((7, 114), 0, 111) := ⟨by decide, (am_w4 66 rfl rfl), (am_w4 68 rfl rfl), (am_wp3 12 (n := 26) rfl rfl), by decide⟩
theorem am_c142 : am_okC ((7, 118), 0, 116) := ⟨by decide, (am_w4 93 rfl rfl), (am_w4 95 rfl rfl), (am_wp3 14 (n := 26) rfl rfl), by decide⟩
theorem am_c143 : am_okC ((7, 121), 0, 122) := ⟨by decide, (am_w4 128 rfl rfl), (am_w4 130 rfl rfl), (am_wp4 5 (n := 26) rfl rfl), by decide⟩
theorem am_c144 : am_okC ((7, 125), 0, 123) := ⟨by decide, (am_w4 140 rfl rfl), (am_w4 142 rfl rfl), (am_wp4 7 (n := 26) rfl rfl), by decide⟩
theorem am_c145 : am_okC ((7, 129), 0, 134) := ⟨by decide, (am_w4 145 rfl rfl), (am_w4 147 rfl rfl), (am_wp4 8 (n := 26) rfl rfl), by decide⟩
theorem am_c146 : am_okC ((7, 132), 0, 136) := ⟨by decide, (am_w4 161 rfl rfl), (am_w4 163 rfl rfl), (am_wp4 11 (n := 26) rfl rfl), by decide⟩
theorem am_c147 : am_okC ((7, 136), 0, 125) := ⟨by decide, (am_w4 169 rfl rfl), (am_w4 171 rfl rfl), (am_wp4 13 (n := 26) rfl rfl), by decide⟩
theorem am_c148 : am_okC ((7, 140), 0, 138) := ⟨by decide, (am_w4 177 rfl rfl), (am_w4 179 rfl rfl), (am_wp4 15 (n := 26) rfl rfl), by decide⟩
theorem am_c149 : am_okC ((7, 143), 0, 121) := ⟨by decide, (am_w4 153 rfl rfl), (am_w4 155 rfl rfl), (am_wp4 9 (n := 26) rfl rfl), by decide⟩
theorem am_c150 : am_okC ((7, 147), 0, 120) := ⟨by decide, (am_w4 157 rfl rfl), (am_w4 159 rfl rfl), (am_wp4 10 (n := 26) rfl rfl), by decide⟩
theorem am_c151 : am_okC ((7, 150), 0, 137) := ⟨by decide, (am_w4 165 rfl rfl), (am_w4 167 rfl rfl), (am_wp4 12 (n := 26) rfl rfl), by decide⟩
theorem am_c152 : am_okC ((7, 153), 0, 139) := ⟨by decide, (am_w4 173 rfl rfl), (am_w4 175 rfl rfl), (am_wp4 14 (n := 26) rfl rfl), by decide⟩
theorem am_c153 : am_okC ((7, 156), 0, 140) := ⟨by decide, (am_w4 181 rfl rfl), (am_w4 183 rfl rfl), (am_wp5 0 (n := 26) rfl rfl), by decide⟩
theorem am_c154 : am_okC ((7, 167), 0, 142) := ⟨by decide, (am_w4 193 rfl rfl), (am_w4 195 rfl rfl), (am_wp5 2 (n := 26) rfl rfl), by decide⟩
theorem am_c155 : am_okC ((7, 170), 0, 143) := ⟨by decide, (am_w4 197 rfl rfl), (am_w4 199 rfl rfl), (am_wp5 3 (n := 26) rfl rfl), by decide⟩
theorem am_c156 : am_okC ((7, 173), 0, 145) := ⟨by decide, (am_w4 206 rfl rfl), (am_w4 208 rfl rfl), (am_wp5 5 (n := 26) rfl rfl), by decide⟩
theorem am_c157 : am_okC ((7, 177), 0, 144) := ⟨by decide, (am_w4 189 rfl rfl), (am_w4 191 rfl rfl), (am_wp5 1 (n := 26) rfl rfl), by decide⟩
theorem am_c158 : am_okC ((7, 180), 0, 146) := ⟨by decide, (am_w4 202 rfl rfl), (am_w4 204 rfl rfl), (am_wp5 4 (n := 26) rfl rfl), by decide⟩
theorem am_c159 : am_okC ((7, 183), 0, 147) := ⟨by decide, (am_w4 210 rfl rfl), (am_w4 212 rfl rfl), (am_wp5 6 (n := 26) rfl rfl), by decide⟩
theorem am_c160 : am_okC ((7, 186), 1, 149) := ⟨by decide, (am_w4 226 rfl rfl), (am_w4 227 rfl rfl)⟩
theorem am_c161 : am_okC ((7, 192), 0, 152) := ⟨by decide, (am_w5 4 rfl rfl), (am_w5 6 rfl rfl), (am_wp5 12 (n := 26) rfl rfl), by decide⟩
theorem am_c162 : am_okC ((7, 198), 1, 155) := ⟨by decide, (am_w5 1 rfl rfl), (am_w5 2 rfl rfl)⟩
theorem am_c163 : am_okC ((7, 201), 0, 151) := ⟨by decide, (am_w4 233 rfl rfl), (am_w4 235 rfl rfl), (am_wp5 10 (n := 26) rfl rfl), by decide⟩
theorem am_c164 : am_okC ((7, 204), 0, 156) := ⟨by decide, (am_w4 237 rfl rfl), (am_w4 239 rfl rfl), (am_wp5 11 (n := 26) rfl rfl), by decide⟩
theorem am_c165 : am_okC ((7, 208), 0, 153) := ⟨by decide, (am_w5 8 rfl rfl), (am_w5 10 rfl rfl), (am_wp5 13 (n := 26) rfl rfl), by decide⟩
theorem am_c166 : am_okC ((7, 211), 0, 154) := ⟨by decide, (am_w5 12 rfl rfl), (am_w5 14 rfl rfl), (am_wp5 14 (n := 26) rfl rfl), by decide⟩
theorem am_c167 : am_okC ((7, 214), 0, 150) := ⟨by decide, (am_w4 222 rfl rfl), (am_w4 224 rfl rfl), (am_wp5 8 (n := 26) rfl rfl), by decide⟩
theorem am_c168 : am_okC ((7, 218), 0, 157) := ⟨by decide, (am_w4 229 rfl rfl), (am_w4 231 rfl rfl), (am_wp5 9 (n := 26) rfl rfl), by decide⟩
theorem am_c169 : am_okC ((7, 221), 0, 158) := ⟨by decide, (am_w5 16 rfl rfl), (am_w5 18 rfl rfl), (am_wp5 15 (n := 26) rfl rfl), by decide⟩
theorem am_c170 : am_okC ((7, 224), 0, 159) := ⟨by decide, (am_w5 20 rfl rfl), (am_w5 22 rfl rfl), (am_wp6 0 (n := 26) rfl rfl), by decide⟩
theorem am_c171 : am_okC ((7, 227), 0, 160) := ⟨by decide, (am_w4 218 rfl rfl), (am_w4 220 rfl rfl), (am_wp5 7 (n := 26) rfl rfl), by decide⟩
theorem am_c172 : am_okC ((7, 230), 0, 166) := ⟨by decide, (am_w5 44 rfl rfl), (am_w5 46 rfl rfl), (am_wp6 1 (n := 26) rfl rfl), by decide⟩
theorem am_c173 : am_okC ((7, 233), 0, 167) := ⟨by decide, (am_w5 52 rfl rfl), (am_w5 41 rfl rfl), (am_w5 42 rfl rfl), by decide⟩
theorem am_c174 : am_okC ((7, 236), 0, 168) := ⟨by decide, (am_w5 53 rfl rfl), (am_w5 55 rfl rfl), (am_wp6 2 (n := 26) rfl rfl), by decide⟩
theorem am_c175 : am_okC ((7, 239), 0, 172) := ⟨by decide, (am_w5 69 rfl rfl), (am_w5 71 rfl rfl), (am_wp6 5 (n := 26) rfl rfl), by decide⟩
theorem am_c176 : am_okC ((7, 242), 0, 170) := ⟨by decide, (am_w5 73 rfl rfl), (am_w5 75 rfl rfl), (am_wp6 6 (n := 26) rfl rfl), by decide⟩
theorem am_c177 : am_okC ((7, 245), 0, 171) := ⟨by decide, (am_w5 77 rfl rfl), (am_w5 79 rfl rfl), (am_wp6 7 (n := 26) rfl rfl), by decide⟩
theorem am_c178 : am_okC ((7, 254), 0, 173) := ⟨by decide, (am_w5 65 rfl rfl), (am_w5 67 rfl rfl), (am_wp6 4 (n := 26) rfl rfl), by decide⟩
theorem am_c179 : am_okC ((7, 257), 0, 174) := ⟨by decide, (am_w5 61 rfl rfl), (am_w5 63 rfl rfl), (am_wp6 3 (n := 26) rfl rfl), by decide⟩
theorem am_c180 : am_okC ((7, 260), 0, 176) := ⟨by decide, (am_w5 85 rfl rfl), (am_w5 87 rfl rfl), (am_wp6 8 (n := 26) rfl rfl), by decide⟩
theorem am_c181 : am_okC ((7, 263), 0, 177) := ⟨by decide, (am_w5 89 rfl rfl), (am_w5 91 rfl rfl), (am_wp6 9 (n := 26) rfl rfl), by decide⟩
theorem am_c182 : am_okC ((8, 9), 2, 78) := ⟨by decide, (am_w1 14 rfl rfl), (am_w1 15 rfl rfl), rfl⟩
theorem am_c183 : am_okC ((8, 12), 2, 108) := ⟨by decide, (am_w3 210 rfl rfl), (am_w3 211 rfl rfl), rfl⟩
theorem am_c184 : am_okC ((8, 13), 0, 79) := ⟨by decide, (am_w1 232 rfl rfl), (am_w1 233 rfl rfl), (am_w1 234 rfl rfl), by decide⟩
theorem am_c185 : am_okC ((8, 17), 0, 126) := ⟨by decide, (am_w4 54 rfl rfl), (am_w4 55 rfl rfl), (am_w4 56 rfl rfl), by decide⟩
theorem am_c186 : am_okC ((8, 18), 0, 80) := ⟨by decide, (am_w2 57 rfl rfl), (am_w2 58 rfl rfl), (am_w2 59 rfl rfl), by decide⟩
theorem am_c187 : am_okC ((8, 22), 0, 128) := ⟨by decide, (am_w4 62 rfl rfl), (am_w4 63 rfl rfl), (am_w4 64 rfl rfl), by decide⟩
theorem am_c188 : am_okC ((8, 23), 0, 81) := ⟨by decide, (am_w2 84 rfl rfl), (am_w2 85 rfl rfl), (am_w2 86 rfl rfl), by decide⟩
theorem am_c189 : am_okC ((8, 27), 0, 129) := ⟨by decide, (am_w4 77 rfl rfl), (am_w4 78 rfl rfl), (am_w4 79 rfl rfl), by decide⟩
theorem am_c190 : am_okC ((8, 28), 0, 82) := ⟨by decide, (am_w2 92 rfl rfl), (am_w2 93 rfl rfl), (am_w2 94 rfl rfl), by decide⟩
theorem am_c191 : am_okC ((8, 31), 0, 130) := ⟨by decide, (am_w4 81 rfl rfl), (am_w4 82 rfl rfl), (am_w4 83 rfl rfl), by decide⟩
theorem am_c192 : am_okC ((8, 32), 0, 83) := ⟨by decide, (am_w2 100 rfl rfl), (am_w2 101 rfl rfl), (am_w2 102 rfl rfl), by decide⟩
theorem am_c193 : am_okC ((8, 36), 0, 131) := ⟨by decide, (am_w4 85 rfl rfl), (am_w4 86 rfl rfl), (am_w4 87 rfl rfl), by decide⟩
theorem am_c194 : am_okC ((8, 37), 0, 84) := ⟨by decide, (am_w2 104 rfl rfl), (am_w2 105 rfl rfl), (am_w2 106 rfl rfl), by decide⟩
theorem am_c195 : am_okC ((8, 40), 0, 132) := ⟨by decide, (am_w4 89 rfl rfl), (am_w4 90 rfl rfl), (am_w4 91 rfl rfl), by decide⟩
theorem am_c196 : am_okC ((8, 41), 0, 85) := ⟨by decide, (am_w2 108 rfl rfl), (am_w2 109 rfl rfl), (am_w2 110 rfl rfl), by decide⟩
theorem am_c197 : am_okC ((8, 45), 0, 133) := ⟨by decide, (am_w4 124 rfl rfl), (am_w4 125 rfl rfl), (am_w4 126 rfl rfl), by decide⟩
theorem am_c198 : am_okC ((8, 46), 0, 86) := ⟨by decide, (am_w2 116 rfl rfl), (am_w2 117 rfl rfl), (am_w2 118 rfl rfl), by decide⟩
theorem am_c199 : am_okC ((8, 49), 0, 135) := ⟨by decide, (am_w4 136 rfl rfl), (am_w4 137 rfl rfl), (am_w4 138 rfl rfl), by decide⟩
theorem am_c200 : am_okC ((8, 50), 0, 87) := ⟨by decide, (am_w2 139 rfl rfl), (am_w2 140 rfl rfl), (am_w2 141 rfl rfl), by decide⟩
theorem am_c201 : am_okC ((8, 53), 0, 141) := ⟨by decide, (am_w4 149 rfl rfl), (am_w4 150 rfl rfl), (am_w4 151 rfl rfl), by decide⟩
theorem am_c202 : am_okC ((8, 54), 0, 88) := ⟨by decide, (am_w2 171 rfl rfl), (am_w2 172 rfl rfl), (am_w2 173 rfl rfl), by decide⟩
theorem am_c203 : am_okC ((8, 57), 0, 148) := ⟨by decide, (am_w4 185 rfl rfl), (am_w4 186 rfl rfl), (am_w4 187 rfl rfl), by decide⟩
theorem am_c204 : am_okC ((8, 58), 0, 89) := ⟨by decide, (am_w3 1 rfl rfl), (am_w3 2 rfl rfl), (am_w3 3 rfl rfl), by decide⟩
theorem am_c205 : am_okC ((8, 61), 0, 161) := ⟨by decide, (am_w4 214 rfl rfl), (am_w4 215 rfl rfl), (am_w4 216 rfl rfl), by decide⟩
theorem am_c206 : am_okC ((8, 62), 0, 90) := ⟨by decide, (am_w3 65 rfl rfl), (am_w3 66 rfl rfl), (am_w3 67 rfl rfl), by decide⟩
theorem am_c207 : am_okC ((8, 65), 0, 162) := ⟨by decide, (am_w5 24 rfl rfl), (am_w5 25 rfl rfl), (am_w5 26 rfl rfl), by decide⟩
theorem am_c208 : am_okC ((8, 66), 0, 91) := ⟨by decide, (am_w3 77 rfl rfl), (am_w3 78 rfl rfl), (am_w3 79 rfl rfl), by decide⟩
theorem am_c209 : am_okC ((8, 69), 0, 163) := ⟨by decide, (am_w5 28 rfl rfl), (am_w5 29 rfl rfl), (am_w5 30 rfl rfl), by decide⟩
theorem am_c210 : am_okC ((8, 70), 0, 92) := ⟨by decide, (am_w3 81 rfl rfl), (am_w3 82 rfl rfl), (am_w3 83 rfl rfl), by decide⟩
theorem am_c211 : am_okC ((8, 73), 0, 164) := ⟨by decide, (am_w5 32 rfl rfl), (am_w5 33 rfl rfl), (am_w5 34 rfl rfl), by decide⟩
theorem am_c212 : am_okC ((8, 74), 0, 93) := ⟨by decide, (am_w3 94 rfl rfl), (am_w3 95 rfl rfl), (am_w3 96 rfl rfl), by decide⟩
theorem am_c213 : am_okC ((8, 77), 0, 165) := ⟨by decide, (am_w5 36 rfl rfl), (am_w5 37 rfl rfl), (am_w5 38 rfl rfl), by decide⟩
theorem am_c214 : am_okC ((8, 78), 0, 94) := ⟨by decide, (am_w3 102 rfl rfl), (am_w3 103 rfl rfl), (am_w3 104 rfl rfl), by decide⟩
theorem am_c215 : am_okC ((8, 81), 0, 167) := ⟨by decide, (am_w5 40 rfl rfl), (am_w5 41 rfl rfl), (am_w5 42 rfl rfl), by decide⟩
theorem am_c216 : am_okC ((8, 82), 0, 95) := ⟨by decide, (am_w3 120 rfl rfl), (am_w3 121 rfl rfl), (am_w3 122 rfl rfl), by decide⟩
theorem am_c217 : am_okC ((8, 85), 0, 169) := ⟨by decide, (am_w5 48 rfl rfl), (am_w5 49 rfl rfl), (am_w5 50 rfl rfl), by decide⟩
theorem am_c218 : am_okC ((8, 86), 0, 96) := ⟨by decide, (am_w3 152 rfl rfl), (am_w3 153 rfl rfl), (am_w3 154 rfl rfl), by decide⟩
theorem am_c219 : am_okC ((8, 89), 0, 175) := ⟨by decide, (am_w5 57 rfl rfl), (am_w5 58 rfl rfl), (am_w5 59 rfl rfl), by decide⟩
theorem am_c220 : am_okC ((8, 90), 0, 97) := ⟨by decide, (am_w3 204 rfl rfl), (am_w3 205 rfl rfl), (am_w3 206 rfl rfl), by decide⟩
theorem am_c221 : am_okC ((8, 93), 0, 178) := ⟨by decide, (am_w5 81 rfl rfl), (am_w5 82 rfl rfl), (am_w5 83 rfl rfl), by decide⟩
set_option maxRecDepth 20000 in
theorem am_ckC_ok : ∀ q ∈ am_ctL, am_okC q := List.forall_mem_cons.mpr ⟨am_c0, List.forall_mem_cons.mpr ⟨am_c1, List.forall_mem_cons.mpr ⟨am_c2, List.forall_mem_cons.mpr ⟨am_c3, List.forall_mem_cons.mpr ⟨am_c4, List.forall_mem_cons.mpr ⟨am_c5, List.forall_mem_cons.mpr ⟨am_c6, List.forall_mem_cons.mpr ⟨am_c7, List.forall_mem_cons.mpr ⟨am_c8, List.forall_mem_cons.mpr ⟨am_c9, List.forall_mem_cons.mpr ⟨am_c10, List.forall_mem_cons.mpr ⟨am_c11, List.forall_mem_cons.mpr ⟨am_c12, List.forall_mem_cons.mpr ⟨am_c13, List.forall_mem_cons.mpr ⟨am_c14, List.forall_mem_cons.mpr ⟨am_c15, List.forall_mem_cons.mpr ⟨am_c16, List.forall_mem_cons.mpr ⟨am_c17, List.forall_mem_cons.mpr ⟨am_c18, List.forall_mem_cons.mpr ⟨am_c19, List.forall_mem_cons.mpr ⟨am_c20, List.forall_mem_cons.mpr ⟨am_c21, List.forall_mem_cons.mpr ⟨am_c22, List.forall_mem_cons.mpr ⟨am_c23, List.forall_mem_cons.mpr ⟨am_c24, List.forall_mem_cons.mpr ⟨am_c25, List.forall_mem_cons.mpr ⟨am_c26, List.forall_mem_cons.mpr ⟨am_c27, List.forall_mem_cons.mpr ⟨am_c28, List.forall_mem_cons.mpr ⟨am_c29, List.forall_mem_cons.mpr ⟨am_c30, List.forall_mem_cons.mpr ⟨am_c31, List.forall_mem_cons.mpr ⟨am_c32, List.forall_mem_cons.mpr ⟨am_c33, List.forall_mem_cons.mpr ⟨am_c34, List.forall_mem_cons.mpr ⟨am_c35, List.forall_mem_cons.mpr ⟨am_c36, List.forall_mem_cons.mpr ⟨am_c37, List.forall_mem_cons.mpr ⟨am_c38, List.forall_mem_cons.mpr ⟨am_c39, List.forall_mem_cons.mpr ⟨am_c40, List.forall_mem_cons.mpr ⟨am_c41, List.forall_mem_cons.mpr ⟨am_c42, List.forall_mem_cons.mpr ⟨am_c43, List.forall_mem_cons.mpr ⟨am_c44, List.forall_mem_cons.mpr ⟨am_c45, List.forall_mem_cons.mpr ⟨am_c46, List.forall_mem_cons.mpr ⟨am_c47, List.forall_mem_cons.mpr ⟨am_c48, List.forall_mem_cons.mpr ⟨am_c49, List.forall_mem_cons.mpr ⟨am_c50, List.forall_mem_cons.mpr ⟨am_c51, List.forall_mem_cons.mpr ⟨am_c52, List.forall_mem_cons.mpr ⟨am_c53, List.forall_mem_cons.mpr ⟨am_c54, List.forall_mem_cons.mpr ⟨am_c55, List.forall_mem_cons.mpr ⟨am_c56, List.forall_mem_cons.mpr ⟨am_c57, List.forall_mem_cons.mpr ⟨am_c58, List.forall_mem_cons.mpr ⟨am_c59, List.forall_mem_cons.mpr ⟨am_c60, List.forall_mem_cons.mpr ⟨am_c61, List.forall_mem_cons.mpr ⟨am_c62, List.forall_mem_cons.mpr ⟨am_c63, List.forall_mem_cons.mpr ⟨am_c64, List.forall_mem_cons.mpr ⟨am_c65, List.forall_mem_cons.mpr ⟨am_c66, List.forall_mem_cons.mpr ⟨am_c67, List.forall_mem_cons.mpr ⟨am_c68, List.forall_mem_cons.mpr ⟨am_c69, List.forall_mem_cons.mpr ⟨am_c70, List.forall_mem_cons.mpr ⟨am_c71, List.forall_mem_cons.mpr ⟨am_c72, List.forall_mem_cons.mpr ⟨am_c73, List.forall_mem_cons.mpr ⟨am_c74, List.forall_mem_cons.mpr ⟨am_c75, List.forall_mem_cons.mpr ⟨am_c76, List.forall_mem_cons.mpr ⟨am_c77, List.forall_mem_cons.mpr ⟨am_c78, List.forall_mem_cons.mpr ⟨am_c79, List.forall_mem_cons.mpr ⟨am_c80, List.forall_mem_cons.mpr ⟨am_c81, List.forall_mem_cons.mpr ⟨am_c82, List.forall_mem_cons.mpr ⟨am_c83, List.forall_mem_cons.mpr ⟨am_c84, List.forall_mem_cons.mpr ⟨am_c85, List.forall_mem_cons.mpr ⟨am_c86, List.forall_mem_cons.mpr ⟨am_c87, List.forall_mem_cons.mpr ⟨am_c88, List.forall_mem_cons.mpr ⟨am_c89, List.forall_mem_cons.mpr ⟨am_c90, List.forall_mem_cons.mpr ⟨am_c91, List.forall_mem_cons.mpr ⟨am_c92, List.forall_mem_cons.mpr ⟨am_c93, List.forall_mem_cons.mpr ⟨am_c94, List.forall_mem_cons.mpr ⟨am_c95, List.forall_mem_cons.mpr ⟨am_c96, List.forall_mem_cons.mpr ⟨am_c97, List.forall_mem_cons.mpr ⟨am_c98, List.forall_mem_cons.mpr ⟨am_c99, List.forall_mem_cons.mpr ⟨am_c100, List.forall_mem_cons.mpr ⟨am_c101, List.forall_mem_cons.mpr ⟨am_c102, List.forall_mem_cons.mpr ⟨am_c103, List.forall_mem_cons.mpr ⟨am_c104, List.forall_mem_cons.mpr ⟨am_c105, List.forall_mem_cons.mpr ⟨am_c106, List.forall_mem_cons.mpr ⟨am_c107, List.forall_mem_cons.mpr ⟨am_c108, List.forall_mem_cons.mpr ⟨am_c109, List.forall_mem_cons.mpr ⟨am_c110, List.forall_mem_cons.mpr ⟨am_c111, List.forall_mem_cons.mpr ⟨am_c112, List.forall_mem_cons.mpr ⟨am_c113, List.forall_mem_cons.mpr ⟨am_c114, List.forall_mem_cons.mpr ⟨am_c115, List.forall_mem_cons.mpr ⟨am_c116, List.forall_mem_cons.mpr ⟨am_c117, List.forall_mem_cons.mpr ⟨am_c118, List.forall_mem_cons.mpr ⟨am_c119, List.forall_mem_cons.mpr ⟨am_c120, List.forall_mem_cons.mpr ⟨am_c121, List.forall_mem_cons.mpr ⟨am_c122, List.forall_mem_cons.mpr ⟨am_c123, List.forall_mem_cons.mpr ⟨am_c124, List.forall_mem_cons.mpr ⟨am_c125, List.forall_mem_cons.mpr ⟨am_c126, List.forall_mem_cons.mpr ⟨am_c127, List.forall_mem_cons.mpr ⟨am_c128, List.forall_mem_cons.mpr ⟨am_c129, List.forall_mem_cons.mpr ⟨am_c130, List.forall_mem_cons.mpr ⟨am_c131, List.forall_mem_cons.mpr ⟨am_c132, List.forall_mem_cons.mpr ⟨am_c133, List.forall_mem_cons.mpr ⟨am_c134, List.forall_mem_cons.mpr ⟨am_c135, List.forall_mem_cons.mpr ⟨am_c136, List.forall_mem_cons.mpr ⟨am_c137, List.forall_mem_cons.mpr ⟨am_c138, List.forall_mem_cons.mpr ⟨am_c139, List.forall_mem_cons.mpr ⟨am_c140, List.forall_mem_cons.mpr ⟨am_c141, List.forall_mem_cons.mpr ⟨am_c142, List.forall_mem_cons.mpr ⟨am_c143, List.forall_mem_cons.mpr ⟨am_c144, List.forall_mem_cons.mpr ⟨am_c145, List.forall_mem_cons.mpr ⟨am_c146, List.forall_mem_cons.mpr ⟨am_c147, List.forall_mem_cons.mpr ⟨am_c148, List.forall_mem_cons.mpr ⟨am_c149, List.forall_mem_cons.mpr ⟨am_c150, List.forall_mem_cons.mpr ⟨am_c151, List.forall_mem_cons.mpr ⟨am_c152, List.forall_mem_cons.mpr ⟨am_c153, List.forall_mem_cons.mpr ⟨am_c154, List.forall_mem_cons.mpr ⟨am_c155, List.forall_mem_cons.mpr ⟨am_c156, List.forall_mem_cons.mpr ⟨am_c157, List.forall_mem_cons.mpr ⟨am_c158, List.forall_mem_cons.mpr ⟨am_c159, List.forall_mem_cons.mpr ⟨am_c160, List.forall_mem_cons.mpr ⟨am_c161, List.forall_mem_cons.mpr ⟨am_c162, List.forall_mem_cons.mpr ⟨am_c163, List.forall_mem_cons.mpr ⟨am_c164, List.forall_mem_cons.mpr ⟨am_c165, List.forall_mem_cons.mpr ⟨am_c166, List.forall_mem_cons.mpr ⟨am_c167, List.forall_mem_cons.mpr ⟨am_c168, List.forall_mem_cons.mpr ⟨am_c169, List.forall_mem_cons.mpr ⟨am_c170, List.forall_mem_cons.mpr ⟨am_c171, List.forall_mem_cons.mpr ⟨am_c172, List.forall_mem_cons.mpr ⟨am_c173, List.forall_mem_cons.mpr ⟨am_c174, List.forall_mem_cons.mpr ⟨am_c175, List.forall_mem_cons.mpr ⟨am_c176, List.forall_mem_cons.mpr ⟨am_c177, List.forall_mem_cons.mpr ⟨am_c178, List.forall_mem_cons.mpr ⟨am_c179, List.forall_mem_cons.mpr ⟨am_c180, List.forall_mem_cons.mpr ⟨am_c181, List.forall_mem_cons.mpr ⟨am_c182, List.forall_mem_cons.mpr ⟨am_c183, List.forall_mem_cons.mpr ⟨am_c184, List.forall_mem_cons.mpr ⟨am_c185, List.forall_mem_cons.mpr ⟨am_c186, List.forall_mem_cons.mpr ⟨am_c187, List.forall_mem_cons.mpr ⟨am_c188, List.forall_mem_cons.mpr ⟨am_c189, List.forall_mem_cons.mpr ⟨am_c190, List.forall_mem_cons.mpr ⟨am_c191, List.forall_mem_cons.mpr ⟨am_c192, List.forall_mem_cons.mpr ⟨am_c193, List.forall_mem_cons.mpr ⟨am_c194, List.forall_mem_cons.mpr ⟨am_c195, List.forall_mem_cons.mpr ⟨am_c196, List.forall_mem_cons.mpr ⟨am_c197, List.forall_mem_cons.mpr ⟨am_c198, List.forall_mem_cons.mpr ⟨am_c199, List.forall_mem_cons.mpr ⟨am_c200, List.forall_mem_cons.mpr ⟨am_c201, List.forall_mem_cons.mpr ⟨am_c202, List.forall_mem_cons.mpr ⟨am_c203, List.forall_mem_cons.mpr ⟨am_c204, List.forall_mem_cons.mpr ⟨am_c205, List.forall_mem_cons.mpr ⟨am_c206, List.forall_mem_cons.mpr ⟨am_c207, List.forall_mem_cons.mpr ⟨am_c208, List.forall_mem_cons.mpr ⟨am_c209, List.forall_mem_cons.mpr ⟨am_c210, List.forall_mem_cons.mpr ⟨am_c211, List.forall_mem_cons.mpr ⟨am_c212, List.forall_mem_cons.mpr ⟨am_c213, List.forall_mem_cons.mpr ⟨am_c214, List.forall_mem_cons.mpr ⟨am_c215, List.forall_mem_cons.mpr ⟨am_c216, List.forall_mem_cons.mpr ⟨am_c217, List.forall_mem_cons.mpr ⟨am_c218, List.forall_mem_cons.mpr ⟨am_c219, List.forall_mem_cons.mpr ⟨am_c220, List.forall_mem_cons.mpr ⟨am_c221, fun _ h => absurd h List.not_mem_nil⟩⟩⟩⟩⟩⟩⟩⟩⟩⟩⟩⟩⟩⟩⟩⟩⟩⟩⟩⟩⟩⟩⟩⟩⟩⟩⟩⟩⟩⟩⟩⟩⟩⟩⟩⟩⟩⟩⟩⟩⟩⟩⟩⟩⟩⟩⟩⟩⟩⟩⟩⟩⟩⟩⟩⟩⟩⟩⟩⟩⟩⟩⟩⟩⟩⟩⟩⟩⟩⟩⟩⟩⟩⟩⟩⟩⟩⟩⟩⟩⟩⟩⟩⟩⟩⟩⟩⟩⟩⟩⟩⟩⟩⟩⟩⟩⟩⟩⟩⟩⟩⟩⟩⟩⟩⟩⟩⟩⟩⟩⟩⟩⟩⟩⟩⟩⟩⟩⟩⟩⟩⟩⟩⟩⟩⟩⟩⟩⟩⟩⟩⟩⟩⟩⟩⟩⟩⟩⟩⟩⟩⟩⟩⟩⟩⟩⟩⟩⟩⟩⟩⟩⟩⟩⟩⟩⟩⟩⟩⟩⟩⟩⟩⟩⟩⟩⟩⟩⟩⟩⟩⟩⟩⟩⟩⟩⟩⟩⟩⟩⟩⟩⟩⟩⟩⟩⟩⟩⟩⟩⟩⟩⟩⟩⟩⟩⟩⟩⟩⟩⟩⟩⟩⟩⟩⟩⟩⟩⟩⟩⟩⟩⟩⟩⟩⟩⟩⟩⟩⟩⟩⟩
def am_okF (q : (Nat × Nat) × Nat × Nat) : Prop := q.2.1 < 8 ∧ q.2.2 < (am_C q.2.1).2.2 ∧ Cond.fieldLink (am_cn q.1.1) q.1.2 ((am_C q.2.1).2.1 q.2.2).1 ((am_C q.2.1).2.1 q.2.2).2.1 ((am_C q.2.1).2.1 q.2.2).2.2.1 ∈ am_words
theorem am_f0 : am_okF ((0, 7), 0, 0) := ⟨by decide, by decide, (am_w1 32 rfl rfl)⟩
theorem am_f1 : am_okF ((0, 13), 0, 1) := ⟨by decide, by decide, (am_w1 33 rfl rfl)⟩
theorem am_f2 : am_okF ((0, 16), 0, 2) := ⟨by decide, by decide, (am_w1 34 rfl rfl)⟩
theorem am_f3 : am_okF ((0, 20), 0, 3) := ⟨by decide, by decide, (am_w1 35 rfl rfl)⟩
theorem am_f4 : am_okF ((0, 23), 0, 4) := ⟨by decide, by decide, (am_w1 39 rfl rfl)⟩
theorem am_f5 : am_okF ((0, 32), 0, 5) := ⟨by decide, by decide, (am_w1 44 rfl rfl)⟩
theorem am_f6 : am_okF ((0, 43), 0, 6) := ⟨by decide, by decide, (am_w1 46 rfl rfl)⟩
theorem am_f7 : am_okF ((1, 13), 1, 2) := ⟨by decide, by decide, (am_w1 151 rfl rfl)⟩
theorem am_f8 : am_okF ((1, 16), 1, 3) := ⟨by decide, by decide, (am_w1 153 rfl rfl)⟩
theorem am_f9 : am_okF ((1, 20), 1, 4) := ⟨by decide, by decide, (am_w1 154 rfl rfl)⟩
theorem am_f10 : am_okF ((1, 23), 1, 6) := ⟨by decide, by decide, (am_w1 156 rfl rfl)⟩
theorem am_f11 : am_okF ((1, 26), 1, 7) := ⟨by decide, by decide, (am_w1 157 rfl rfl)⟩
theorem am_f12 : am_okF ((1, 29), 5, 0) := ⟨by decide, by decide, (am_w1 73 rfl rfl)⟩
theorem am_f13 : am_okF ((1, 43), 5, 2) := ⟨by decide, by decide, (am_w1 80 rfl rfl)⟩
theorem am_f14 : am_okF ((1, 46), 5, 3) := ⟨by decide, by decide, (am_w1 86 rfl rfl)⟩
theorem am_f15 : am_okF ((1, 59), 1, 0) := ⟨by decide, by decide, (am_w1 148 rfl rfl)⟩
theorem am_f16 : am_okF ((1, 62), 1, 1) := ⟨by decide, by decide, (am_w1 149 rfl rfl)⟩
theorem am_f17 : am_okF ((1, 75), 1, 5) := ⟨by decide, by decide, (am_w1 155 rfl rfl)⟩
theorem am_f18 : am_okF ((2, 13), 2, 0) := ⟨by decide, by decide, (am_w1 122 rfl rfl)⟩
theorem am_f19 : am_okF ((2, 16), 2, 1) := ⟨by decide, by decide, (am_w1 123 rfl rfl)⟩
theorem am_f20 : am_okF ((2, 24), 2, 2) := ⟨by decide, by decide, (am_w1 124 rfl rfl)⟩
theorem am_f21 : am_okF ((2, 28), 5, 5) := ⟨by decide, by decide, (am_w1 93 rfl rfl)⟩
theorem am_f22 : am_okF ((2, 34), 0, 6) := ⟨by decide, by decide, (am_w1 45 rfl rfl)⟩
theorem am_f23 : am_okF ((2, 39), 0, 4) := ⟨by decide, by decide, (am_w1 40 rfl rfl)⟩
theorem am_f24 : am_okF ((2, 46), 2, 4) := ⟨by decide, by decide, (am_w1 126 rfl rfl)⟩
theorem am_f25 : am_okF ((2, 49), 2, 3) := ⟨by decide, by decide, (am_w1 125 rfl rfl)⟩
theorem am_f26 : am_okF ((2, 62), 5, 0) := ⟨by decide, by decide, (am_w1 75 rfl rfl)⟩
theorem am_f27 : am_okF ((2, 68), 5, 2) := ⟨by decide, by decide, (am_w1 82 rfl rfl)⟩
theorem am_f28 : am_okF ((2, 88), 5, 3) := ⟨by decide, by decide, (am_w1 88 rfl rfl)⟩
theorem am_f29 : am_okF ((3, 14), 3, 0) := ⟨by decide, by decide, (am_w1 194 rfl rfl)⟩
theorem am_f30 : am_okF ((3, 20), 3, 1) := ⟨by decide, by decide, (am_w1 196 rfl rfl)⟩
theorem am_f31 : am_okF ((3, 24), 3, 2) := ⟨by decide, by decide, (am_w1 197 rfl rfl)⟩
theorem am_f32 : am_okF ((3, 27), 3, 3) := ⟨by decide, by decide, (am_w1 199 rfl rfl)⟩
theorem am_f33 : am_okF ((3, 37), 5, 0) := ⟨by decide, by decide, (am_w1 74 rfl rfl)⟩
theorem am_f34 : am_okF ((3, 70), 5, 2) := ⟨by decide, by decide, (am_w1 81 rfl rfl)⟩
theorem am_f35 : am_okF ((3, 73), 5, 3) := ⟨by decide, by decide, (am_w1 87 rfl rfl)⟩
theorem am_f36 : am_okF ((3, 99), 0, 6) := ⟨by decide, by decide, (am_w1 47 rfl rfl)⟩
theorem am_f37 : am_okF ((3, 102), 0, 3) := ⟨by decide, by decide, (am_w1 37 rfl rfl)⟩
theorem am_f38 : am_okF ((3, 108), 5, 5) := ⟨by decide, by decide, (am_w1 95 rfl rfl)⟩
theorem am_f39 : am_okF ((3, 111), 0, 4) := ⟨by decide, by decide, (am_w1 41 rfl rfl)⟩
theorem am_f40 : am_okF ((4, 9), 4, 0) := ⟨by decide, by decide, (am_w1 181 rfl rfl)⟩
theorem am_f41 : am_okF ((4, 31), 5, 0) := ⟨by decide, by decide, (am_w1 76 rfl rfl)⟩
theorem am_f42 : am_okF ((4, 45), 5, 2) := ⟨by decide, by decide, (am_w1 84 rfl rfl)⟩
theorem am_f43 : am_okF ((4, 48), 5, 3) := ⟨by decide, by decide, (am_w1 89 rfl rfl)⟩
theorem am_f44 : am_okF ((4, 66), 5, 5) := ⟨by decide, by decide, (am_w1 96 rfl rfl)⟩
theorem am_f45 : am_okF ((4, 70), 0, 6) := ⟨by decide, by decide, (am_w1 49 rfl rfl)⟩
theorem am_f46 : am_okF ((4, 75), 0, 4) := ⟨by decide, by decide, (am_w1 42 rfl rfl)⟩
theorem am_f47 : am_okF ((5, 9), 5, 2) := ⟨by decide, by decide, (am_w1 79 rfl rfl)⟩
theorem am_f48 : am_okF ((5, 15), 5, 3) := ⟨by decide, by decide, (am_w1 85 rfl rfl)⟩
theorem am_f49 : am_okF ((5, 23), 5, 4) := ⟨by decide, by decide, (am_w1 90 rfl rfl)⟩
theorem am_f50 : am_okF ((5, 27), 5, 5) := ⟨by decide, by decide, (am_w1 92 rfl rfl)⟩
theorem am_f51 : am_okF ((5, 30), 5, 6) := ⟨by decide, by decide, (am_w1 97 rfl rfl)⟩
theorem am_f52 : am_okF ((5, 39), 5, 0) := ⟨by decide, by decide, (am_w1 71 rfl rfl)⟩
theorem am_f53 : am_okF ((5, 43), 5, 1) := ⟨by decide, by decide, (am_w1 77 rfl rfl)⟩
theorem am_f54 : am_okF ((5, 82), 0, 6) := ⟨by decide, by decide, (am_w1 50 rfl rfl)⟩
theorem am_f55 : am_okF ((5, 109), 0, 4) := ⟨by decide, by decide, (am_w1 43 rfl rfl)⟩
theorem am_f56 : am_okF ((5, 112), 0, 3) := ⟨by decide, by decide, (am_w1 38 rfl rfl)⟩
theorem am_f57 : am_okF ((6, 10), 6, 0) := ⟨by decide, by decide, (am_w1 210 rfl rfl)⟩
theorem am_f58 : am_okF ((6, 19), 6, 1) := ⟨by decide, by decide, (am_w1 211 rfl rfl)⟩
theorem am_f59 : am_okF ((6, 26), 6, 2) := ⟨by decide, by decide, (am_w1 212 rfl rfl)⟩
theorem am_f60 : am_okF ((6, 33), 6, 3) := ⟨by decide, by decide, (am_w1 213 rfl rfl)⟩
theorem am_f61 : am_okF ((6, 40), 6, 4) := ⟨by decide, by decide, (am_w1 214 rfl rfl)⟩
theorem am_f62 : am_okF ((6, 44), 6, 5) := ⟨by decide, by decide, (am_w1 215 rfl rfl)⟩
theorem am_f63 : am_okF ((6, 48), 6, 6) := ⟨by decide, by decide, (am_w1 216 rfl rfl)⟩
theorem am_f64 : am_okF ((6, 51), 5, 0) := ⟨by decide, by decide, (am_w1 72 rfl rfl)⟩
theorem am_f65 : am_okF ((6, 86), 5, 2) := ⟨by decide, by decide, (am_w1 83 rfl rfl)⟩
theorem am_f66 : am_okF ((6, 93), 5, 4) := ⟨by decide, by decide, (am_w1 91 rfl rfl)⟩
theorem am_f67 : am_okF ((6, 97), 0, 3) := ⟨by decide, by decide, (am_w1 36 rfl rfl)⟩
theorem am_f68 : am_okF ((6, 102), 5, 5) := ⟨by decide, by decide, (am_w1 94 rfl rfl)⟩
theorem am_f69 : am_okF ((6, 105), 0, 6) := ⟨by decide, by decide, (am_w1 48 rfl rfl)⟩
theorem am_f70 : am_okF ((6, 133), 5, 6) := ⟨by decide, by decide, (am_w1 98 rfl rfl)⟩
theorem am_f71 : am_okF ((6, 143), 5, 1) := ⟨by decide, by decide, (am_w1 78 rfl rfl)⟩
theorem am_f72 : am_okF ((6, 146), 2, 4) := ⟨by decide, by decide, (am_w1 127 rfl rfl)⟩
theorem am_f73 : am_okF ((6, 155), 1, 1) := ⟨by decide, by decide, (am_w1 150 rfl rfl)⟩
theorem am_f74 : am_okF ((6, 164), 1, 2) := ⟨by decide, by decide, (am_w1 152 rfl rfl)⟩
theorem am_f75 : am_okF ((6, 168), 4, 0) := ⟨by decide, by decide, (am_w1 182 rfl rfl)⟩
theorem am_f76 : am_okF ((6, 200), 3, 0) := ⟨by decide, by decide, (am_w1 195 rfl rfl)⟩
theorem am_f77 : am_okF ((6, 203), 3, 2) := ⟨by decide, by decide, (am_w1 198 rfl rfl)⟩
theorem am_f78 : am_okF ((6, 206), 3, 3) := ⟨by decide, by decide, (am_w1 200 rfl rfl)⟩
theorem am_f79 : am_okF ((7, 7), 7, 1) := ⟨by decide, by decide, (am_w3 216 rfl rfl)⟩
theorem am_f80 : am_okF ((7, 13), 7, 2) := ⟨by decide, by decide, (am_w3 217 rfl rfl)⟩
theorem am_f81 : am_okF ((7, 16), 7, 3) := ⟨by decide, by decide, (am_w3 218 rfl rfl)⟩
theorem am_f82 : am_okF ((7, 19), 7, 4) := ⟨by decide, by decide, (am_w3 219 rfl rfl)⟩
theorem am_f83 : am_okF ((7, 22), 7, 5) := ⟨by decide, by decide, (am_w3 220 rfl rfl)⟩
theorem am_f84 : am_okF ((7, 25), 7, 6) := ⟨by decide, by decide, (am_w3 221 rfl rfl)⟩
theorem am_f85 : am_okF ((7, 28), 7, 7) := ⟨by decide, by decide, (am_w3 222 rfl rfl)⟩
theorem am_f86 : am_okF ((7, 31), 7, 8) := ⟨by decide, by decide, (am_w3 223 rfl rfl)⟩
theorem am_f87 : am_okF ((7, 34), 7, 10) := ⟨by decide, by decide, (am_w3 225 rfl rfl)⟩
theorem am_f88 : am_okF ((7, 38), 7, 13) := ⟨by decide, by decide, (am_w3 228 rfl rfl)⟩
theorem am_f89 : am_okF ((7, 42), 7, 15) := ⟨by decide, by decide, (am_w3 230 rfl rfl)⟩
theorem am_f90 : am_okF ((7, 45), 7, 16) := ⟨by decide, by decide, (am_w3 231 rfl rfl)⟩
theorem am_f91 : am_okF ((7, 48), 7, 17) := ⟨by decide, by decide, (am_w3 232 rfl rfl)⟩
theorem am_f92 : am_okF ((7, 51), 7, 20) := ⟨by decide, by decide, (am_w3 235 rfl rfl)⟩
theorem am_f93 : am_okF ((7, 54), 7, 21) := ⟨by decide, by decide, (am_w3 236 rfl rfl)⟩
theorem am_f94 : am_okF ((7, 57), 7, 22) := ⟨by decide, by decide, (am_w3 237 rfl rfl)⟩
theorem am_f95 : am_okF ((7, 60), 7, 23) := ⟨by decide, by decide, (am_w3 238 rfl rfl)⟩
theorem am_f96 : am_okF ((7, 63), 7, 25) := ⟨by decide, by decide, (am_w4 0 rfl rfl)⟩
theorem am_f97 : am_okF ((7, 67), 7, 0) := ⟨by decide, by decide, (am_w3 215 rfl rfl)⟩
theorem am_f98 : am_okF ((7, 86), 7, 9) := ⟨by decide, by decide, (am_w3 224 rfl rfl)⟩
theorem am_f99 : am_okF ((7, 159), 7, 12) := ⟨by decide, by decide, (am_w3 227 rfl rfl)⟩
theorem am_f100 : am_okF ((7, 162), 7, 11) := ⟨by decide, by decide, (am_w3 226 rfl rfl)⟩
theorem am_f101 : am_okF ((7, 189), 7, 14) := ⟨by decide, by decide, (am_w3 229 rfl rfl)⟩
theorem am_f102 : am_okF ((7, 195), 7, 18) := ⟨by decide, by decide, (am_w3 233 rfl rfl)⟩
theorem am_f103 : am_okF ((7, 248), 7, 24) := ⟨by decide, by decide, (am_w3 239 rfl rfl)⟩
theorem am_f104 : am_okF ((7, 251), 7, 19) := ⟨by decide, by decide, (am_w3 234 rfl rfl)⟩
set_option maxRecDepth 20000 in
theorem am_ckF_ok : ∀ q ∈ am_ftL, am_okF q := List.forall_mem_cons.mpr ⟨am_f0, List.forall_mem_cons.mpr ⟨am_f1, List.forall_mem_cons.mpr ⟨am_f2, List.forall_mem_cons.mpr ⟨am_f3, List.forall_mem_cons.mpr ⟨am_f4, List.forall_mem_cons.mpr ⟨am_f5, List.forall_mem_cons.mpr ⟨am_f6, List.forall_mem_cons.mpr ⟨am_f7, List.forall_mem_cons.mpr ⟨am_f8, List.forall_mem_cons.mpr ⟨am_f9, List.forall_mem_cons.mpr ⟨am_f10, List.forall_mem_cons.mpr ⟨am_f11, List.forall_mem_cons.mpr ⟨am_f12, List.forall_mem_cons.mpr ⟨am_f13, List.forall_mem_cons.mpr ⟨am_f14, List.forall_mem_cons.mpr ⟨am_f15, List.forall_mem_cons.mpr ⟨am_f16, List.forall_mem_cons.mpr ⟨am_f17, List.forall_mem_cons.mpr ⟨am_f18, List.forall_mem_cons.mpr ⟨am_f19, List.forall_mem_cons.mpr ⟨am_f20, List.forall_mem_cons.mpr ⟨am_f21, List.forall_mem_cons.mpr ⟨am_f22, List.forall_mem_cons.mpr ⟨am_f23, List.forall_mem_cons.mpr ⟨am_f24, List.forall_mem_cons.mpr ⟨am_f25, List.forall_mem_cons.mpr ⟨am_f26, List.forall_mem_cons.mpr ⟨am_f27, List.forall_mem_cons.mpr ⟨am_f28, List.forall_mem_cons.mpr ⟨am_f29, List.forall_mem_cons.mpr ⟨am_f30, List.forall_mem_cons.mpr ⟨am_f31, List.forall_mem_cons.mpr ⟨am_f32, List.forall_mem_cons.mpr ⟨am_f33, List.forall_mem_cons.mpr ⟨am_f34, List.forall_mem_cons.mpr ⟨am_f35, List.forall_mem_cons.mpr ⟨am_f36, List.forall_mem_cons.mpr ⟨am_f37, List.forall_mem_cons.mpr ⟨am_f38, List.forall_mem_cons.mpr ⟨am_f39, List.forall_mem_cons.mpr ⟨am_f40, List.forall_mem_cons.mpr ⟨am_f41, List.forall_mem_cons.mpr ⟨am_f42, List.forall_mem_cons.mpr ⟨am_f43, List.forall_mem_cons.mpr ⟨am_f44, List.forall_mem_cons.mpr ⟨am_f45, List.forall_mem_cons.mpr ⟨am_f46, List.forall_mem_cons.mpr ⟨am_f47, List.forall_mem_cons.mpr ⟨am_f48, List.forall_mem_cons.mpr ⟨am_f49, List.forall_mem_cons.mpr ⟨am_f50, List.forall_mem_cons.mpr ⟨am_f51, List.forall_mem_cons.mpr ⟨am_f52, List.forall_mem_cons.mpr ⟨am_f53, List.forall_mem_cons.mpr ⟨am_f54, List.forall_mem_cons.mpr ⟨am_f55, List.forall_mem_cons.mpr ⟨am_f56, List.forall_mem_cons.mpr ⟨am_f57, List.forall_mem_cons.mpr ⟨am_f58, List.forall_mem_cons.mpr ⟨am_f59, List.forall_mem_cons.mpr ⟨am_f60, List.forall_mem_cons.mpr ⟨am_f61, List.forall_mem_cons.mpr ⟨am_f62, List.forall_mem_cons.mpr ⟨am_f63, List.forall_mem_cons.mpr ⟨am_f64, List.forall_mem_cons.mpr ⟨am_f65, List.forall_mem_cons.mpr ⟨am_f66, List.forall_mem_cons.mpr ⟨am_f67, List.forall_mem_cons.mpr ⟨am_f68, List.forall_mem_cons.mpr ⟨am_f69, List.forall_mem_cons.mpr ⟨am_f70, List.forall_mem_cons.mpr ⟨am_f71, List.forall_mem_cons.mpr ⟨am_f72, List.forall_mem_cons.mpr ⟨am_f73, List.forall_mem_cons.mpr ⟨am_f74, List.forall_mem_cons.mpr ⟨am_f75, List.forall_mem_cons.mpr ⟨am_f76, List.forall_mem_cons.mpr ⟨am_f77, List.forall_mem_cons.mpr ⟨am_f78, List.forall_mem_cons.mpr ⟨am_f79, List.forall_mem_cons.mpr ⟨am_f80, List.forall_mem_cons.mpr ⟨am_f81, List.forall_mem_cons.mpr ⟨am_f82, List.forall_mem_cons.mpr ⟨am_f83, List.forall_mem_cons.mpr ⟨am_f84, List.forall_mem_cons.mpr ⟨am_f85, List.forall_mem_cons.mpr ⟨am_f86, List.forall_mem_cons.mpr ⟨am_f87, List.forall_mem_cons.mpr ⟨am_f88, List.forall_mem_cons.mpr ⟨am_f89, List.forall_mem_cons.mpr ⟨am_f90, List.forall_mem_cons.mpr ⟨am_f91, List.forall_mem_cons.mpr ⟨am_f92, List.forall_mem_cons.mpr ⟨am_f93, List.forall_mem_cons.mpr ⟨am_f94, List.forall_mem_cons.mpr ⟨am_f95, List.forall_mem_cons.mpr ⟨am_f96, List.forall_mem_cons.mpr ⟨am_f97, List.forall_mem_cons.mpr ⟨am_f98, List.forall_mem_cons.mpr ⟨am_f99, List.forall_mem_cons.mpr ⟨am_f100, List.forall_mem_cons.mpr ⟨am_f101, List.forall_mem_cons.mpr ⟨am_f102, List.forall_mem_cons.mpr ⟨am_f103, List.forall_mem_cons.mpr ⟨am_f104, fun _ h => absurd h List.not_mem_nil⟩⟩⟩⟩⟩⟩⟩⟩⟩⟩⟩⟩⟩⟩⟩⟩⟩⟩⟩⟩⟩⟩⟩⟩⟩⟩⟩⟩⟩⟩⟩⟩⟩⟩⟩⟩⟩⟩⟩⟩⟩⟩⟩⟩⟩⟩⟩⟩⟩⟩⟩⟩⟩⟩⟩⟩⟩⟩⟩⟩⟩⟩⟩⟩⟩⟩⟩⟩⟩⟩⟩⟩⟩⟩⟩⟩⟩⟩⟩⟩⟩⟩⟩⟩⟩⟩⟩⟩⟩⟩⟩⟩⟩⟩⟩⟩⟩⟩⟩⟩⟩⟩⟩⟩⟩
def am_okG (q : (Nat × Nat) × Nat × Nat) : Prop := 0 < q.2.1 ∧ q.2.1 < 5 ∧ (q.2.2 = 1 ∧ (q.1.1, q.1.2, q.2.1) ∈ am_nestF ∨ Cond.fieldLink (am_cn q.1.1) q.1.2 "ThirdSheets" (am_sn q.2.1) "[I" ∈ am_words)
theorem am_g0 : am_okG ((2, 77), 1, 1) := ⟨by decide, by decide, Or.inl ⟨rfl, by decide +kernel⟩⟩
theorem am_g1 : am_okG ((2, 80), 2, 1) := ⟨by decide, by decide, Or.inl ⟨rfl, by decide +kernel⟩⟩
theorem am_g2 : am_okG ((2, 91), 3, 1) := ⟨by decide, by decide, Or.inl ⟨rfl, by decide +kernel⟩⟩
theorem am_g3 : am_okG ((3, 92), 4, 1) := ⟨by decide, by decide, Or.inl ⟨rfl, by decide +kernel⟩⟩
theorem am_g4 : am_okG ((5, 73), 1, 1) := ⟨by decide, by decide, Or.inl ⟨rfl, by decide +kernel⟩⟩
theorem am_g5 : am_okG ((5, 76), 2, 1) := ⟨by decide, by decide, Or.inl ⟨rfl, by decide +kernel⟩⟩
theorem am_g6 : am_okG ((5, 79), 3, 1) := ⟨by decide, by decide, Or.inl ⟨rfl, by decide +kernel⟩⟩
theorem am_g7 : am_okG ((6, 216), 4, 0) := ⟨by decide, by decide, Or.inr (am_w3 26 rfl rfl)⟩
theorem am_g8 : am_okG ((6, 219), 1, 0) := ⟨by decide, by decide, Or.inr (am_w3 141 rfl rfl)⟩
theorem am_g9 : am_okG ((6, 222), 2, 0) := ⟨by decide, by decide, Or.inr (am_w3 142 rfl rfl)⟩
set_option maxRecDepth 20000 in
theorem am_ckG_ok : ∀ q ∈ am_gtL, am_okG q := List.forall_mem_cons.mpr ⟨am_g0, List.forall_mem_cons.mpr ⟨am_g1, List.forall_mem_cons.mpr ⟨am_g2, List.forall_mem_cons.mpr ⟨am_g3, List.forall_mem_cons.mpr ⟨am_g4, List.forall_mem_cons.mpr ⟨am_g5, List.forall_mem_cons.mpr ⟨am_g6, List.forall_mem_cons.mpr ⟨am_g7, List.forall_mem_cons.mpr ⟨am_g8, List.forall_mem_cons.mpr ⟨am_g9, fun _ h => absurd h List.not_mem_nil⟩⟩⟩⟩⟩⟩⟩⟩⟩⟩
def am_okI (q : (Nat × Nat) × Int32) : Prop := Cond.constant (am_cn q.1.1) q.1.2 q.2 ∈ am_words
set_option maxRecDepth 20000 in
theorem am_ckI_ok : ∀ q ∈ am_ccL, am_okI q := List.forall_mem_cons.mpr ⟨(am_w2 120 rfl rfl), List.forall_mem_cons.mpr ⟨(am_w2 202 rfl rfl), List.forall_mem_cons.mpr ⟨(am_w3 214 rfl rfl), List.forall_mem_cons.mpr ⟨(am_w4 144 rfl rfl), fun _ h => absurd h List.not_mem_nil⟩⟩⟩⟩
def am_okL (q : (Nat × Nat) × Int64) : Prop := Cond.constantLong (am_cn q.1.1) q.1.2 q.2 ∈ am_words
set_option maxRecDepth 20000 in
theorem am_ckL_ok : ∀ q ∈ am_clL, am_okL q := List.forall_mem_cons.mpr ⟨(am_w2 195 rfl rfl), List.forall_mem_cons.mpr ⟨(am_w3 89 rfl rfl), List.forall_mem_cons.mpr ⟨(am_w4 201 rfl rfl), fun _ h => absurd h List.not_mem_nil⟩⟩⟩
def am_okN (q : (Nat × Nat) × Nat) : Prop := q.2 < 8 ∧ Cond.classLink (am_cn q.1.1) q.1.2 (am_C q.2).1 ∈ am_words ∧ Cond.instantiable (am_C q.2).1 (am_C q.2).2.2 ∈ am_words ∧ Cond.initialized (am_C q.2).1 ∈ am_words
set_option maxRecDepth 20000 in
theorem am_ckN_ok : ∀ q ∈ am_nwL, am_okN q := List.forall_mem_cons.mpr ⟨⟨by decide, (am_w1 20 rfl rfl), (am_w1 21 rfl rfl), (am_w1 2 rfl rfl)⟩, List.forall_mem_cons.mpr ⟨⟨by decide, (am_w1 114 rfl rfl), (am_w1 115 rfl rfl), (am_w1 5 rfl rfl)⟩, List.forall_mem_cons.mpr ⟨⟨by decide, (am_w1 140 rfl rfl), (am_w1 141 rfl rfl), (am_w1 6 rfl rfl)⟩, List.forall_mem_cons.mpr ⟨⟨by decide, (am_w1 175 rfl rfl), (am_w1 176 rfl rfl), (am_w1 7 rfl rfl)⟩, List.forall_mem_cons.mpr ⟨⟨by decide, (am_w1 186 rfl rfl), (am_w1 187 rfl rfl), (am_w1 8 rfl rfl)⟩, List.forall_mem_cons.mpr ⟨⟨by decide, (am_w1 192 rfl rfl), (am_w1 27 rfl rfl), (am_w1 3 rfl rfl)⟩, List.forall_mem_cons.mpr ⟨⟨by decide, (am_w1 26 rfl rfl), (am_w1 27 rfl rfl), (am_w1 3 rfl rfl)⟩, List.forall_mem_cons.mpr ⟨⟨by decide, (am_w1 12 rfl rfl), (am_w1 13 rfl rfl), (am_w1 1 rfl rfl)⟩, List.forall_mem_cons.mpr ⟨⟨by decide, (am_w3 208 rfl rfl), (am_w3 209 rfl rfl), (am_w1 9 rfl rfl)⟩, fun _ h => absurd h List.not_mem_nil⟩⟩⟩⟩⟩⟩⟩⟩⟩
def am_okW (q : (Nat × Nat) × Nat) : Prop := (q.2 = 3 ∧ Cond.classLink (am_cn q.1.1) q.1.2 "[[I" ∈ am_words) ∨ (q.2 = 4 ∧ Cond.classLink (am_cn q.1.1) q.1.2 "[[J" ∈ am_words)
set_option maxRecDepth 20000 in
theorem am_ckW_ok : ∀ q ∈ am_mwL, am_okW q := List.forall_mem_cons.mpr ⟨Or.inl ⟨rfl, (am_w1 146 rfl rfl)⟩, List.forall_mem_cons.mpr ⟨Or.inr ⟨rfl, (am_w1 120 rfl rfl)⟩, fun _ h => absurd h List.not_mem_nil⟩⟩
theorem am_u0 (k : Nat) (h : k < 7) : u_lay (am_C 0).1 (am_C 0).2.1 k ∈ am_words := by
  rcases (show k = 0 ∨ k = 1 ∨ k = 2 ∨ k = 3 ∨ k = 4 ∨ k = 5 ∨ k = 6 by omega) with rfl | rfl | rfl | rfl | rfl | rfl | rfl
  · exact (am_w1 51 rfl rfl)
  · exact (am_w1 53 rfl rfl)
  · exact (am_w1 55 rfl rfl)
  · exact (am_w1 57 rfl rfl)
  · exact (am_w1 59 rfl rfl)
  · exact (am_w1 61 rfl rfl)
  · exact (am_w1 63 rfl rfl)
theorem am_u1 (k : Nat) (h : k < 8) : u_lay (am_C 1).1 (am_C 1).2.1 k ∈ am_words := by
  rcases (show k = 0 ∨ k = 1 ∨ k = 2 ∨ k = 3 ∨ k = 4 ∨ k = 5 ∨ k = 6 ∨ k = 7 by omega) with rfl | rfl | rfl | rfl | rfl | rfl | rfl | rfl
  · exact (am_w1 158 rfl rfl)
  · exact (am_w1 160 rfl rfl)
  · exact (am_w1 162 rfl rfl)
  · exact (am_w1 164 rfl rfl)
  · exact (am_w1 166 rfl rfl)
  · exact (am_w1 168 rfl rfl)
  · exact (am_w1 170 rfl rfl)
  · exact (am_w1 172 rfl rfl)
theorem am_u2 (k : Nat) (h : k < 5) : u_lay (am_C 2).1 (am_C 2).2.1 k ∈ am_words := by
  rcases (show k = 0 ∨ k = 1 ∨ k = 2 ∨ k = 3 ∨ k = 4 by omega) with rfl | rfl | rfl | rfl | rfl
  · exact (am_w1 128 rfl rfl)
  · exact (am_w1 130 rfl rfl)
  · exact (am_w1 132 rfl rfl)
  · exact (am_w1 134 rfl rfl)
  · exact (am_w1 136 rfl rfl)
theorem am_u3 (k : Nat) (h : k < 4) : u_lay (am_C 3).1 (am_C 3).2.1 k ∈ am_words := by
  rcases (show k = 0 ∨ k = 1 ∨ k = 2 ∨ k = 3 by omega) with rfl | rfl | rfl | rfl
  · exact (am_w1 201 rfl rfl)
  · exact (am_w1 203 rfl rfl)
  · exact (am_w1 205 rfl rfl)
  · exact (am_w1 207 rfl rfl)
theorem am_u4 (k : Nat) (h : k < 1) : u_lay (am_C 4).1 (am_C 4).2.1 k ∈ am_words := by
  rcases (show k = 0 by omega) with rfl
  · exact (am_w1 183 rfl rfl)
theorem am_u5 (k : Nat) (h : k < 7) : u_lay (am_C 5).1 (am_C 5).2.1 k ∈ am_words := by
  rcases (show k = 0 ∨ k = 1 ∨ k = 2 ∨ k = 3 ∨ k = 4 ∨ k = 5 ∨ k = 6 by omega) with rfl | rfl | rfl | rfl | rfl | rfl | rfl
  · exact (am_w1 99 rfl rfl)
  · exact (am_w1 101 rfl rfl)
  · exact (am_w1 103 rfl rfl)
  · exact (am_w1 105 rfl rfl)
  · exact (am_w1 107 rfl rfl)
  · exact (am_w1 109 rfl rfl)
  · exact (am_w1 111 rfl rfl)
theorem am_u6 (k : Nat) (h : k < 7) : u_lay (am_C 6).1 (am_C 6).2.1 k ∈ am_words := by
  rcases (show k = 0 ∨ k = 1 ∨ k = 2 ∨ k = 3 ∨ k = 4 ∨ k = 5 ∨ k = 6 by omega) with rfl | rfl | rfl | rfl | rfl | rfl | rfl
  · exact (am_w1 217 rfl rfl)
  · exact (am_w1 219 rfl rfl)
  · exact (am_w1 221 rfl rfl)
  · exact (am_w1 223 rfl rfl)
  · exact (am_w1 225 rfl rfl)
  · exact (am_w1 227 rfl rfl)
  · exact (am_w1 229 rfl rfl)
theorem am_u7 (k : Nat) (h : k < 26) : u_lay (am_C 7).1 (am_C 7).2.1 k ∈ am_words := by
  rcases (show k = 0 ∨ k = 1 ∨ k = 2 ∨ k = 3 ∨ k = 4 ∨ k = 5 ∨ k = 6 ∨ k = 7 ∨ k = 8 ∨ k = 9 ∨ k = 10 ∨ k = 11 ∨ k = 12 ∨ k = 13 ∨ k = 14 ∨ k = 15 ∨ k = 16 ∨ k = 17 ∨ k = 18 ∨ k = 19 ∨ k = 20 ∨ k = 21 ∨ k = 22 ∨ k = 23 ∨ k = 24 ∨ k = 25 by omega) with rfl | rfl | rfl | rfl | rfl | rfl | rfl | rfl | rfl | rfl | rfl | rfl | rfl | rfl | rfl | rfl | rfl | rfl | rfl | rfl | rfl | rfl | rfl | rfl | rfl | rfl
  · exact (am_w4 1 rfl rfl)
  · exact (am_w4 3 rfl rfl)
  · exact (am_w4 5 rfl rfl)
  · exact (am_w4 7 rfl rfl)
  · exact (am_w4 9 rfl rfl)
  · exact (am_w4 11 rfl rfl)
  · exact (am_w4 13 rfl rfl)
  · exact (am_w4 15 rfl rfl)
  · exact (am_w4 17 rfl rfl)
  · exact (am_w4 19 rfl rfl)
  · exact (am_w4 21 rfl rfl)
  · exact (am_w4 23 rfl rfl)
  · exact (am_w4 25 rfl rfl)
  · exact (am_w4 27 rfl rfl)
  · exact (am_w4 29 rfl rfl)
  · exact (am_w4 31 rfl rfl)
  · exact (am_w4 33 rfl rfl)
  · exact (am_w4 35 rfl rfl)
  · exact (am_w4 37 rfl rfl)
  · exact (am_w4 39 rfl rfl)
  · exact (am_w4 41 rfl rfl)
  · exact (am_w4 43 rfl rfl)
  · exact (am_w4 45 rfl rfl)
  · exact (am_w4 47 rfl rfl)
  · exact (am_w4 49 rfl rfl)
  · exact (am_w4 51 rfl rfl)
theorem am_u_ok (ci : Nat) (h : ci < 8) : ∀ w ∈ u_ws (am_C ci).1 (am_C ci).2.1 (am_C ci).2.2, w ∈ am_words := by
  intro w hw
  obtain ⟨k, hk, rfl⟩ := List.mem_map.mp hw
  have hk := List.mem_range.mp hk
  rcases (show ci = 0 ∨ ci = 1 ∨ ci = 2 ∨ ci = 3 ∨ ci = 4 ∨ ci = 5 ∨ ci = 6 ∨ ci = 7 by omega) with rfl | rfl | rfl | rfl | rfl | rfl | rfl | rfl
  · exact am_u0 k hk
  · exact am_u1 k hk
  · exact am_u2 k hk
  · exact am_u3 k hk
  · exact am_u4 k hk
  · exact am_u5 k hk
  · exact am_u6 k hk
  · exact am_u7 k hk
theorem am_ct0 : ∀ k, k < 7 → parseFieldDescriptor ((am_C 0).2.1 k).2.2.1 = some (am_ty 0 k) := by decide +kernel
theorem am_cu0 : ∀ a, a < 7 → ∀ b, b < 7 → a ≠ b → ((am_C 0).2.1 a).2.1 ≠ ((am_C 0).2.1 b).2.1 := by decide +kernel
theorem am_ct1 : ∀ k, k < 8 → parseFieldDescriptor ((am_C 1).2.1 k).2.2.1 = some (am_ty 1 k) := by decide +kernel
theorem am_cu1 : ∀ a, a < 8 → ∀ b, b < 8 → a ≠ b → ((am_C 1).2.1 a).2.1 ≠ ((am_C 1).2.1 b).2.1 := by decide +kernel
theorem am_ct2 : ∀ k, k < 5 → parseFieldDescriptor ((am_C 2).2.1 k).2.2.1 = some (am_ty 2 k) := by decide +kernel
theorem am_cu2 : ∀ a, a < 5 → ∀ b, b < 5 → a ≠ b → ((am_C 2).2.1 a).2.1 ≠ ((am_C 2).2.1 b).2.1 := by decide +kernel
theorem am_ct3 : ∀ k, k < 4 → parseFieldDescriptor ((am_C 3).2.1 k).2.2.1 = some (am_ty 3 k) := by decide +kernel
theorem am_cu3 : ∀ a, a < 4 → ∀ b, b < 4 → a ≠ b → ((am_C 3).2.1 a).2.1 ≠ ((am_C 3).2.1 b).2.1 := by decide +kernel
theorem am_ct4 : ∀ k, k < 1 → parseFieldDescriptor ((am_C 4).2.1 k).2.2.1 = some (am_ty 4 k) := by decide +kernel
theorem am_cu4 : ∀ a, a < 1 → ∀ b, b < 1 → a ≠ b → ((am_C 4).2.1 a).2.1 ≠ ((am_C 4).2.1 b).2.1 := by decide +kernel
theorem am_ct5 : ∀ k, k < 7 → parseFieldDescriptor ((am_C 5).2.1 k).2.2.1 = some (am_ty 5 k) := by decide +kernel
theorem am_cu5 : ∀ a, a < 7 → ∀ b, b < 7 → a ≠ b → ((am_C 5).2.1 a).2.1 ≠ ((am_C 5).2.1 b).2.1 := by decide +kernel
theorem am_ct6 : ∀ k, k < 7 → parseFieldDescriptor ((am_C 6).2.1 k).2.2.1 = some (am_ty 6 k) := by decide +kernel
theorem am_cu6 : ∀ a, a < 7 → ∀ b, b < 7 → a ≠ b → ((am_C 6).2.1 a).2.1 ≠ ((am_C 6).2.1 b).2.1 := by decide +kernel
theorem am_ct7 : ∀ k, k < 26 → parseFieldDescriptor ((am_C 7).2.1 k).2.2.1 = some (am_ty 7 k) := by decide +kernel
theorem am_cu7 : ∀ a, a < 26 → ∀ b, b < 26 → a ≠ b → ((am_C 7).2.1 a).2.1 ≠ ((am_C 7).2.1 b).2.1 := by decide +kernel
theorem am_ckT_ok (ci : Nat) (h : ci < 8) : ∀ k, k < (am_C ci).2.2 → parseFieldDescriptor ((am_C ci).2.1 k).2.2.1 = some (am_ty ci k) := by
  rcases (show ci = 0 ∨ ci = 1 ∨ ci = 2 ∨ ci = 3 ∨ ci = 4 ∨ ci = 5 ∨ ci = 6 ∨ ci = 7 by omega) with rfl | rfl | rfl | rfl | rfl | rfl | rfl | rfl
  · exact am_ct0
  · exact am_ct1
  · exact am_ct2
  · exact am_ct3
  · exact am_ct4
  · exact am_ct5
  · exact am_ct6
  · exact am_ct7
theorem am_ckU_ok (ci : Nat) (h : ci < 8) : ∀ a, a < (am_C ci).2.2 → ∀ b, b < (am_C ci).2.2 → a ≠ b → ((am_C ci).2.1 a).2.1 ≠ ((am_C ci).2.1 b).2.1 := by
  rcases (show ci = 0 ∨ ci = 1 ∨ ci = 2 ∨ ci = 3 ∨ ci = 4 ∨ ci = 5 ∨ ci = 6 ∨ ci = 7 by omega) with rfl | rfl | rfl | rfl | rfl | rfl | rfl | rfl
  · exact am_cu0
  · exact am_cu1
  · exact am_cu2
  · exact am_cu3
  · exact am_cu4
  · exact am_cu5
  · exact am_cu6
  · exact am_cu7
theorem am_ac_i : Cond.arrayClass .int ∈ am_words := (am_w1 66 rfl rfl)
theorem am_ac_l : Cond.arrayClass .long ∈ am_words := (am_w1 139 rfl rfl)
theorem am_ac_z : Cond.arrayClass .boolean ∈ am_words := (am_w1 67 rfl rfl)
theorem am_cp_s : Cond.static arraycopyName ∈ am_words := (am_w3 37 rfl rfl)
theorem am_cp_n : Cond.native arraycopyName ∈ am_words := (am_w3 38 rfl rfl)
theorem am_cp_i : Cond.initialized "java/lang/System" ∈ am_words := (am_w1 11 rfl rfl)
theorem am_ma_i : Cond.initialized "java/lang/Math" ∈ am_words := (am_w1 10 rfl rfl)
theorem am_ma_smin : Cond.static Lib.Math.min.name ∈ am_words := (am_w2 18 rfl rfl)
theorem am_ma_cmin : Cond.code Lib.Math.min.name Lib.Math.min.code 2 (some .int) ∈ am_words := (am_w2 19 rfl rfl)
theorem am_ma_smax : Cond.static Lib.Math.max.name ∈ am_words := (am_w2 37 rfl rfl)
theorem am_ma_cmax : Cond.code Lib.Math.max.name Lib.Math.max.code 2 (some .int) ∈ am_words := (am_w2 38 rfl rfl)
theorem am_ma_sabs : Cond.static Lib.MathLoose.abs_long.x ∈ am_words := (am_w2 208 rfl rfl)
theorem am_ma_cabs : Cond.code Lib.MathLoose.abs_long.x Lib.MathLoose.abs_long.code 2 (some .long) ∈ am_words := (am_w2 209 rfl rfl)
theorem am_ob_i : Cond.instanceMethod Lib.objectInit ∈ am_words := (am_w1 18 rfl rfl)
theorem am_ob_c : Cond.code Lib.objectInit ⟨#[0xb1]⟩ 1 none ∈ am_words := (am_w1 19 rfl rfl)
theorem am_cl_get : ∀ ci, ci < 8 → am_cl[ci]? = some (am_C ci) := by
  intro ci h
  have h1 : ci < am_cl.length := h
  rw [List.getElem?_eq_getElem h1]
  unfold am_C
  rw [List.getD_eq_getElem?_getD, List.getElem?_eq_getElem h1]
  rfl
theorem am_cn_C (ci : Nat) (h : ci < 8) : am_cn ci = (am_C ci).1 := by
  rcases (show ci = 0 ∨ ci = 1 ∨ ci = 2 ∨ ci = 3 ∨ ci = 4 ∨ ci = 5 ∨ ci = 6 ∨ ci = 7 by omega) with rfl | rfl | rfl | rfl | rfl | rfl | rfl | rfl <;> rfl
theorem am_ws_good (mj : Nat) (h : mj < 181) : GoodIn am_words (am_ws mj) := by
  have h1 := am_ckM_ok mj h
  intro w hw
  rcases List.mem_cons.mp hw with rfl | hw
  · exact am_good _ h1.1
  · exact am_good _ hw
theorem am_pn0 : plainName (am_cn 0) = true ∧ am_cn 0 ≠ "java/lang/invoke/MethodHandle" ∧ am_cn 0 ≠ "java/lang/invoke/VarHandle" := by decide +kernel
theorem am_pn1 : plainName (am_cn 1) = true ∧ am_cn 1 ≠ "java/lang/invoke/MethodHandle" ∧ am_cn 1 ≠ "java/lang/invoke/VarHandle" := by decide +kernel
theorem am_pn2 : plainName (am_cn 2) = true ∧ am_cn 2 ≠ "java/lang/invoke/MethodHandle" ∧ am_cn 2 ≠ "java/lang/invoke/VarHandle" := by decide +kernel
theorem am_pn3 : plainName (am_cn 3) = true ∧ am_cn 3 ≠ "java/lang/invoke/MethodHandle" ∧ am_cn 3 ≠ "java/lang/invoke/VarHandle" := by decide +kernel
theorem am_pn4 : plainName (am_cn 4) = true ∧ am_cn 4 ≠ "java/lang/invoke/MethodHandle" ∧ am_cn 4 ≠ "java/lang/invoke/VarHandle" := by decide +kernel
theorem am_pn5 : plainName (am_cn 5) = true ∧ am_cn 5 ≠ "java/lang/invoke/MethodHandle" ∧ am_cn 5 ≠ "java/lang/invoke/VarHandle" := by decide +kernel
theorem am_pn6 : plainName (am_cn 6) = true ∧ am_cn 6 ≠ "java/lang/invoke/MethodHandle" ∧ am_cn 6 ≠ "java/lang/invoke/VarHandle" := by decide +kernel
theorem am_pn7 : plainName (am_cn 7) = true ∧ am_cn 7 ≠ "java/lang/invoke/MethodHandle" ∧ am_cn 7 ≠ "java/lang/invoke/VarHandle" := by decide +kernel
theorem am_pn8 : plainName (am_cn 8) = true ∧ am_cn 8 ≠ "java/lang/invoke/MethodHandle" ∧ am_cn 8 ≠ "java/lang/invoke/VarHandle" := by decide +kernel
theorem am_pn9 : plainName (am_cn 9) = true ∧ am_cn 9 ≠ "java/lang/invoke/MethodHandle" ∧ am_cn 9 ≠ "java/lang/invoke/VarHandle" := by decide +kernel
theorem am_pn_ok (ci : Nat) (h : ci < 10) : plainName (am_cn ci) = true ∧ am_cn ci ≠ "java/lang/invoke/MethodHandle" ∧ am_cn ci ≠ "java/lang/invoke/VarHandle" := by
  rcases (show ci = 0 ∨ ci = 1 ∨ ci = 2 ∨ ci = 3 ∨ ci = 4 ∨ ci = 5 ∨ ci = 6 ∨ ci = 7 ∨ ci = 8 ∨ ci = 9 by omega) with rfl | rfl | rfl | rfl | rfl | rfl | rfl | rfl | rfl | rfl
  · exact am_pn0
  · exact am_pn1
  · exact am_pn2
  · exact am_pn3
  · exact am_pn4
  · exact am_pn5
  · exact am_pn6
  · exact am_pn7
  · exact am_pn8
  · exact am_pn9
theorem am_mc_ok : ∀ mj, mj < 182 → am_mc mj < 10 := by decide +kernel
