theorem jcf_X8_back : ∀ pc e, jk_X8_back pc = some e → jOkE 142 pc e = true := jck_use (n := 108) (by decide +kernel) (fun pc h => by unfold jk_X8_back; rw [h]; rfl)
theorem jcf_X8_count : ∀ pc e, jk_X8_count pc = some e → jOkE 143 pc e = true := jck_use (n := 103) (by decide +kernel) (fun pc h => by unfold jk_X8_count; rw [h]; rfl)
theorem jcf_J6_bitCount_0f7a4 : ∀ pc e, jk_J6_bitCount_0f7a4 pc = some e → jOkE 144 pc e = true := jck_use (n := 53) (by decide +kernel) (fun pc h => by unfold jk_J6_bitCount_0f7a4; rw [h]; rfl)
