theorem kc_mm_status : ai_okC mm_status = true := by decide +kernel
set_option maxRecDepth 100000 in
theorem ok_mm_status : ai_okM mm_status := ⟨kc_mm_status, ⟨1384, rfl⟩, by decide +kernel, rfl⟩
theorem kc_msea_countOf : ai_okC msea_countOf = true := by decide +kernel
set_option maxRecDepth 100000 in
theorem ok_msea_countOf : ai_okM msea_countOf := ⟨kc_msea_countOf, ⟨914, rfl⟩, by decide +kernel, rfl⟩
theorem kc_mf_count : ai_okC mf_count = true := by decide +kernel
set_option maxRecDepth 100000 in
theorem ok_mf_count : ai_okM mf_count := ⟨kc_mf_count, ⟨910, rfl⟩, by decide +kernel, rfl⟩
theorem kc_mm_countOf : ai_okC mm_countOf = true := by decide +kernel
set_option maxRecDepth 100000 in
theorem ok_mm_countOf : ai_okM mm_countOf := ⟨kc_mm_countOf, ⟨1393, rfl⟩, by decide +kernel, rfl⟩
theorem kc_mm_count : ai_okC mm_count = true := by decide +kernel
set_option maxRecDepth 100000 in
theorem ok_mm_count : ai_okM mm_count := ⟨kc_mm_count, ⟨1388, rfl⟩, by decide +kernel, rfl⟩
theorem kc_msea_digestWaters : ai_okC msea_digestWaters = true := by decide +kernel
set_option maxRecDepth 100000 in
theorem ok_msea_digestWaters : ai_okM msea_digestWaters := ⟨kc_msea_digestWaters, ⟨924, rfl⟩, by decide +kernel, rfl⟩
theorem kc_msea_digestRows : ai_okC msea_digestRows = true := by decide +kernel
set_option maxRecDepth 100000 in
theorem ok_msea_digestRows : ai_okM msea_digestRows := ⟨kc_msea_digestRows, ⟨929, rfl⟩, by decide +kernel, rfl⟩
theorem kc_mf_digest : ai_okC mf_digest = true := by decide +kernel
set_option maxRecDepth 100000 in
theorem ok_mf_digest : ai_okM mf_digest := ⟨kc_mf_digest, ⟨918, rfl⟩, by decide +kernel, rfl⟩
theorem kc_mm_mix : ai_okC mm_mix = true := by decide +kernel
set_option maxRecDepth 100000 in
theorem ok_mm_mix : ai_okM mm_mix := ⟨kc_mm_mix, ⟨1402, rfl⟩, by decide +kernel, rfl⟩
theorem kc_mm_mixSea : ai_okC mm_mixSea = true := by decide +kernel
set_option maxRecDepth 100000 in
theorem ok_mm_mixSea : ai_okM mm_mixSea := ⟨kc_mm_mixSea, ⟨1407, rfl⟩, by decide +kernel, rfl⟩
theorem kc_mm_digest : ai_okC mm_digest = true := by decide +kernel
set_option maxRecDepth 100000 in
theorem ok_mm_digest : ai_okM mm_digest := ⟨kc_mm_digest, ⟨1397, rfl⟩, by decide +kernel, rfl⟩
